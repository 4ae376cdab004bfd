theorem dX9_neighboursInDust_0 : decode cX9_neighboursInDust 0 = .ok (.aload_n 0, 1) := by decide +kernel
theorem dX9_neighboursInDust_1 : decode cX9_neighboursInDust 1 = .ok (.getfield 42, 3) := by decide +kernel
theorem dX9_neighboursInDust_4 : decode cX9_neighboursInDust 4 = .ok (.iload_n 2, 1) := by decide +kernel
theorem dX9_neighboursInDust_5 : decode cX9_neighboursInDust 5 = .ok (.iaload, 1) := by decide +kernel
theorem dX9_neighboursInDust_6 : decode cX9_neighboursInDust 6 = .ok (.istore_n 3, 1) := by decide +kernel
theorem dX9_neighboursInDust_7 : decode cX9_neighboursInDust 7 = .ok (.iload_n 3, 1) := by decide +kernel
theorem dX9_neighboursInDust_8 : decode cX9_neighboursInDust 8 = .ok (.ifCond .lt 11, 3) := by decide +kernel
theorem dX9_neighboursInDust_11 : decode cX9_neighboursInDust 11 = .ok (.iload_n 3, 1) := by decide +kernel
theorem dX9_neighboursInDust_12 : decode cX9_neighboursInDust 12 = .ok (.getstatic 127, 3) := by decide +kernel
theorem dX9_neighboursInDust_15 : decode cX9_neighboursInDust 15 = .ok (.arraylength, 1) := by decide +kernel
theorem dX9_neighboursInDust_16 : decode cX9_neighboursInDust 16 = .ok (.if_icmp .lt 5, 3) := by decide +kernel
theorem dX9_neighboursInDust_19 : decode cX9_neighboursInDust 19 = .ok (.iconst 0, 1) := by decide +kernel
theorem dX9_neighboursInDust_20 : decode cX9_neighboursInDust 20 = .ok (.ireturn, 1) := by decide +kernel
theorem dX9_neighboursInDust_21 : decode cX9_neighboursInDust 21 = .ok (.bipush 50, 2) := by decide +kernel
theorem dX9_neighboursInDust_23 : decode cX9_neighboursInDust 23 = .ok (.aload_n 0, 1) := by decide +kernel
theorem dX9_neighboursInDust_24 : decode cX9_neighboursInDust 24 = .ok (.getfield 45, 3) := by decide +kernel
theorem dX9_neighboursInDust_27 : decode cX9_neighboursInDust 27 = .ok (.iload_n 2, 1) := by decide +kernel
theorem dX9_neighboursInDust_28 : decode cX9_neighboursInDust 28 = .ok (.iaload, 1) := by decide +kernel
theorem dX9_neighboursInDust_29 : decode cX9_neighboursInDust 29 = .ok (.imul, 1) := by decide +kernel
theorem dX9_neighboursInDust_30 : decode cX9_neighboursInDust 30 = .ok (.istore 4, 2) := by decide +kernel
theorem dX9_neighboursInDust_32 : decode cX9_neighboursInDust 32 = .ok (.iconst 0, 1) := by decide +kernel
theorem dX9_neighboursInDust_33 : decode cX9_neighboursInDust 33 = .ok (.istore 5, 2) := by decide +kernel
theorem dX9_neighboursInDust_35 : decode cX9_neighboursInDust 35 = .ok (.iconst 0, 1) := by decide +kernel
theorem dX9_neighboursInDust_36 : decode cX9_neighboursInDust 36 = .ok (.istore 6, 2) := by decide +kernel
theorem dX9_neighboursInDust_38 : decode cX9_neighboursInDust 38 = .ok (.iload 6, 2) := by decide +kernel
theorem dX9_neighboursInDust_40 : decode cX9_neighboursInDust 40 = .ok (.aload_n 0, 1) := by decide +kernel
theorem dX9_neighboursInDust_41 : decode cX9_neighboursInDust 41 = .ok (.getfield 54, 3) := by decide +kernel
theorem dX9_neighboursInDust_44 : decode cX9_neighboursInDust 44 = .ok (.if_icmp .ge 120, 3) := by decide +kernel
theorem dX9_neighboursInDust_47 : decode cX9_neighboursInDust 47 = .ok (.aload_n 0, 1) := by decide +kernel
theorem dX9_neighboursInDust_48 : decode cX9_neighboursInDust 48 = .ok (.getfield 11, 3) := by decide +kernel
theorem dX9_neighboursInDust_51 : decode cX9_neighboursInDust 51 = .ok (.iload 6, 2) := by decide +kernel
theorem dX9_neighboursInDust_53 : decode cX9_neighboursInDust 53 = .ok (.aaload, 1) := by decide +kernel
theorem dX9_neighboursInDust_54 : decode cX9_neighboursInDust 54 = .ok (.getfield 105, 3) := by decide +kernel
theorem dX9_neighboursInDust_57 : decode cX9_neighboursInDust 57 = .ok (.aload_n 1, 1) := by decide +kernel
theorem dX9_neighboursInDust_58 : decode cX9_neighboursInDust 58 = .ok (.getfield 108, 3) := by decide +kernel
theorem dX9_neighboursInDust_61 : decode cX9_neighboursInDust 61 = .ok (.isub, 1) := by decide +kernel
theorem dX9_neighboursInDust_62 : decode cX9_neighboursInDust 62 = .ok (.istore 7, 2) := by decide +kernel
theorem dX9_neighboursInDust_64 : decode cX9_neighboursInDust 64 = .ok (.aload_n 0, 1) := by decide +kernel
theorem dX9_neighboursInDust_65 : decode cX9_neighboursInDust 65 = .ok (.getfield 11, 3) := by decide +kernel
theorem dX9_neighboursInDust_68 : decode cX9_neighboursInDust 68 = .ok (.iload 6, 2) := by decide +kernel
theorem dX9_neighboursInDust_70 : decode cX9_neighboursInDust 70 = .ok (.aaload, 1) := by decide +kernel
theorem dX9_neighboursInDust_71 : decode cX9_neighboursInDust 71 = .ok (.getfield 109, 3) := by decide +kernel
theorem dX9_neighboursInDust_74 : decode cX9_neighboursInDust 74 = .ok (.aload_n 1, 1) := by decide +kernel
theorem dX9_neighboursInDust_75 : decode cX9_neighboursInDust 75 = .ok (.getfield 112, 3) := by decide +kernel
theorem dX9_neighboursInDust_78 : decode cX9_neighboursInDust 78 = .ok (.isub, 1) := by decide +kernel
theorem dX9_neighboursInDust_79 : decode cX9_neighboursInDust 79 = .ok (.istore 8, 2) := by decide +kernel
theorem dX9_neighboursInDust_81 : decode cX9_neighboursInDust 81 = .ok (.iload 7, 2) := by decide +kernel
theorem dX9_neighboursInDust_83 : decode cX9_neighboursInDust 83 = .ok (.getstatic 127, 3) := by decide +kernel
theorem dX9_neighboursInDust_86 : decode cX9_neighboursInDust 86 = .ok (.iload_n 3, 1) := by decide +kernel
theorem dX9_neighboursInDust_87 : decode cX9_neighboursInDust 87 = .ok (.iaload, 1) := by decide +kernel
theorem dX9_neighboursInDust_88 : decode cX9_neighboursInDust 88 = .ok (.imul, 1) := by decide +kernel
theorem dX9_neighboursInDust_89 : decode cX9_neighboursInDust 89 = .ok (.iload 8, 2) := by decide +kernel
theorem dX9_neighboursInDust_91 : decode cX9_neighboursInDust 91 = .ok (.getstatic 130, 3) := by decide +kernel
theorem dX9_neighboursInDust_94 : decode cX9_neighboursInDust 94 = .ok (.iload_n 3, 1) := by decide +kernel
theorem dX9_neighboursInDust_95 : decode cX9_neighboursInDust 95 = .ok (.iaload, 1) := by decide +kernel
theorem dX9_neighboursInDust_96 : decode cX9_neighboursInDust 96 = .ok (.imul, 1) := by decide +kernel
theorem dX9_neighboursInDust_97 : decode cX9_neighboursInDust 97 = .ok (.iadd, 1) := by decide +kernel
theorem dX9_neighboursInDust_98 : decode cX9_neighboursInDust 98 = .ok (.istore 9, 2) := by decide +kernel
theorem dX9_neighboursInDust_100 : decode cX9_neighboursInDust 100 = .ok (.iload 7, 2) := by decide +kernel
theorem dX9_neighboursInDust_102 : decode cX9_neighboursInDust 102 = .ok (.getstatic 130, 3) := by decide +kernel
theorem dX9_neighboursInDust_105 : decode cX9_neighboursInDust 105 = .ok (.iload_n 3, 1) := by decide +kernel
theorem dX9_neighboursInDust_106 : decode cX9_neighboursInDust 106 = .ok (.iaload, 1) := by decide +kernel
theorem dX9_neighboursInDust_107 : decode cX9_neighboursInDust 107 = .ok (.imul, 1) := by decide +kernel
theorem dX9_neighboursInDust_108 : decode cX9_neighboursInDust 108 = .ok (.iload 8, 2) := by decide +kernel
theorem dX9_neighboursInDust_110 : decode cX9_neighboursInDust 110 = .ok (.getstatic 127, 3) := by decide +kernel
theorem dX9_neighboursInDust_113 : decode cX9_neighboursInDust 113 = .ok (.iload_n 3, 1) := by decide +kernel
theorem dX9_neighboursInDust_114 : decode cX9_neighboursInDust 114 = .ok (.iaload, 1) := by decide +kernel
theorem dX9_neighboursInDust_115 : decode cX9_neighboursInDust 115 = .ok (.imul, 1) := by decide +kernel
theorem dX9_neighboursInDust_116 : decode cX9_neighboursInDust 116 = .ok (.isub, 1) := by decide +kernel
theorem dX9_neighboursInDust_117 : decode cX9_neighboursInDust 117 = .ok (.istore 10, 2) := by decide +kernel
theorem dX9_neighboursInDust_119 : decode cX9_neighboursInDust 119 = .ok (.iload 9, 2) := by decide +kernel
theorem dX9_neighboursInDust_121 : decode cX9_neighboursInDust 121 = .ok (.ifCond .le 37, 3) := by decide +kernel
theorem dX9_neighboursInDust_124 : decode cX9_neighboursInDust 124 = .ok (.iload 10, 2) := by decide +kernel
theorem dX9_neighboursInDust_126 : decode cX9_neighboursInDust 126 = .ok (.invokestatic 133, 3) := by decide +kernel
theorem dX9_neighboursInDust_129 : decode cX9_neighboursInDust 129 = .ok (.iload 9, 2) := by decide +kernel
theorem dX9_neighboursInDust_131 : decode cX9_neighboursInDust 131 = .ok (.if_icmp .gt 27, 3) := by decide +kernel
theorem dX9_neighboursInDust_134 : decode cX9_neighboursInDust 134 = .ok (.iload 7, 2) := by decide +kernel
theorem dX9_neighboursInDust_136 : decode cX9_neighboursInDust 136 = .ok (.iload 8, 2) := by decide +kernel
theorem dX9_neighboursInDust_138 : decode cX9_neighboursInDust 138 = .ok (.invokestatic 113, 3) := by decide +kernel
theorem dX9_neighboursInDust_141 : decode cX9_neighboursInDust 141 = .ok (.iload 4, 2) := by decide +kernel
theorem dX9_neighboursInDust_143 : decode cX9_neighboursInDust 143 = .ok (.iload 4, 2) := by decide +kernel
theorem dX9_neighboursInDust_145 : decode cX9_neighboursInDust 145 = .ok (.imul, 1) := by decide +kernel
theorem dX9_neighboursInDust_146 : decode cX9_neighboursInDust 146 = .ok (.if_icmp .gt 12, 3) := by decide +kernel
theorem dX9_neighboursInDust_149 : decode cX9_neighboursInDust 149 = .ok (.iload 5, 2) := by decide +kernel
theorem dX9_neighboursInDust_151 : decode cX9_neighboursInDust 151 = .ok (.iconst 1, 1) := by decide +kernel
theorem dX9_neighboursInDust_152 : decode cX9_neighboursInDust 152 = .ok (.iload 6, 2) := by decide +kernel
theorem dX9_neighboursInDust_154 : decode cX9_neighboursInDust 154 = .ok (.ishl, 1) := by decide +kernel
theorem dX9_neighboursInDust_155 : decode cX9_neighboursInDust 155 = .ok (.ior, 1) := by decide +kernel
theorem dX9_neighboursInDust_156 : decode cX9_neighboursInDust 156 = .ok (.istore 5, 2) := by decide +kernel
theorem dX9_neighboursInDust_158 : decode cX9_neighboursInDust 158 = .ok (.iinc 6 1, 3) := by decide +kernel
theorem dX9_neighboursInDust_161 : decode cX9_neighboursInDust 161 = .ok (.goto (-123), 3) := by decide +kernel
theorem dX9_neighboursInDust_164 : decode cX9_neighboursInDust 164 = .ok (.iload 5, 2) := by decide +kernel
theorem dX9_neighboursInDust_166 : decode cX9_neighboursInDust 166 = .ok (.ireturn, 1) := by decide +kernel
def f_X9_neighboursInDust_158 (N : Nat) (R : Nat → Nat → Nat) (k38 : SI → Nat → Nat → Int32 → Int32 → Int32 → Int32 → Option (Int32 × SI)) (σ : SI) (x0 : Nat) (x1 : Nat) (x3 : Int32) (x4 : Int32) (x5 : Int32) (x6 : Int32) : Option (Int32 × SI) := k38 σ x0 x1 x3 x4 x5 (x6 + 1)
def f_X9_neighboursInDust_38 (N : Nat) (R : Nat → Nat → Nat) : Nat → SI → Nat → Nat → Int32 → Int32 → Int32 → Int32 → Option (Int32 × SI)
  | 0, _, _, _, _, _, _, _ => none
  | n + 1, σ, x0, x1, x3, x4, x5, x6 => if (σ x0 9) ≤ x6 then (some (x5, σ)) else (ck x6 8 (ck x6 8 (ck x3 8 (ck x3 8 (ck x3 8 (ck x3 8 (if ((((σ (R (R x0 0) x6.toNatClampNeg) 2) - (σ x1 4)) * (wxL.getD x3.toNatClampNeg 0)) + (((σ (R (R x0 0) x6.toNatClampNeg) 3) - (σ x1 5)) * (wyL.getD x3.toNatClampNeg 0))) ≤ 0 then (f_X9_neighboursInDust_158 N R (fun σ x0 x1 x3 x4 x5 x6 => f_X9_neighboursInDust_38 N R n σ x0 x1 x3 x4 x5 x6) σ x0 x1 x3 x4 x5 x6) else (if ((((σ (R (R x0 0) x6.toNatClampNeg) 2) - (σ x1 4)) * (wxL.getD x3.toNatClampNeg 0)) + (((σ (R (R x0 0) x6.toNatClampNeg) 3) - (σ x1 5)) * (wyL.getD x3.toNatClampNeg 0))) < (if 0 ≤ ((((σ (R (R x0 0) x6.toNatClampNeg) 2) - (σ x1 4)) * (wyL.getD x3.toNatClampNeg 0)) - (((σ (R (R x0 0) x6.toNatClampNeg) 3) - (σ x1 5)) * (wxL.getD x3.toNatClampNeg 0))) then ((((σ (R (R x0 0) x6.toNatClampNeg) 2) - (σ x1 4)) * (wyL.getD x3.toNatClampNeg 0)) - (((σ (R (R x0 0) x6.toNatClampNeg) 3) - (σ x1 5)) * (wxL.getD x3.toNatClampNeg 0))) else 0 - ((((σ (R (R x0 0) x6.toNatClampNeg) 2) - (σ x1 4)) * (wyL.getD x3.toNatClampNeg 0)) - (((σ (R (R x0 0) x6.toNatClampNeg) 3) - (σ x1 5)) * (wxL.getD x3.toNatClampNeg 0)))) then (f_X9_neighboursInDust_158 N R (fun σ x0 x1 x3 x4 x5 x6 => f_X9_neighboursInDust_38 N R n σ x0 x1 x3 x4 x5 x6) σ x0 x1 x3 x4 x5 x6) else (bd (f_X11_squareSum N R σ ((σ (R (R x0 0) x6.toNatClampNeg) 2) - (σ x1 4)) ((σ (R (R x0 0) x6.toNatClampNeg) 3) - (σ x1 5))) (fun a20 σ20 => if (x4 * x4) < a20 then (f_X9_neighboursInDust_158 N R (fun σ x0 x1 x3 x4 x5 x6 => f_X9_neighboursInDust_38 N R n σ x0 x1 x3 x4 x5 x6) σ20 x0 x1 x3 x4 x5 x6) else (f_X9_neighboursInDust_158 N R (fun σ x0 x1 x3 x4 x5 x6 => f_X9_neighboursInDust_38 N R n σ x0 x1 x3 x4 x5 x6) σ20 x0 x1 x3 x4 (x5 ||| ((1 : Int32) <<< (x6 &&& 31))) x6)))))))))))
def f_X9_neighboursInDust (N : Nat) (R : Nat → Nat → Nat) (σ : SI) (x0 : Nat) (x1 : Nat) (x2 : Int32) : Option (Int32 × SI) := ck x2 24 (if (σ (R x0 7) x2.toNatClampNeg) < 0 then (some ((0 : Int32), σ)) else (if (σ (R x0 7) x2.toNatClampNeg) < (Int32.ofNat 8) then (ck x2 24 (f_X9_neighboursInDust_38 N R N σ x0 x1 (σ (R x0 7) x2.toNatClampNeg) ((50 : Int32) * (σ (R x0 8) x2.toNatClampNeg)) (0 : Int32) (0 : Int32))) else (some ((0 : Int32), σ))))
set_option maxHeartbeats 4000000 in
set_option maxRecDepth 100000 in
theorem w_X9_neighboursInDust_158 {l : Launch} {g : GL} {p : Program} {e : Jvm.Env} {s : State} {m : MethodId} {args : Array Value} {below : List Frame} {meth : Method} {c : Code} {R : Nat → Nat → Nat} {L : Nat → Nat → Int64} {r : (Int32 × SI)} {N : Nat} {k38 : SI → Nat → Nat → Int32 → Int32 → Int32 → Int32 → Option (Int32 × SI)} (C : Cx l g p s m meth c cX9_neighboursInDust 11 RX9) (hr : meth.sig.returnType = (some .int)) (hSh : ShR R) (hk38 : ∀ (σ : SI) (x0 : Nat) (x1 : Nat) (x3 : Int32) (x4 : Int32) (x5 : Int32) (x6 : Int32), k38 σ x0 x1 x3 x4 x5 x6 = some r → Ok 194 x0 9 → Ok 194 x1 0 → ∀ (H : Heap) (locs : List Loc) (ls : Array Slot), S2 g s σ R L H locs → lv_has ls 11 [(0, .ref (gb g + x0)), (1, .ref (gb g + x1)), (3, .int x3), (4, .int x4), (5, .int x5), (6, .int x6)] → W p l e (rmd 2 0 0) s m args below meth c H locs 0 0 (MQ below (Qg g 194 (PI R L r)) args s 0 0 (gA g)) (F0 m 38 ls [])) : ∀ (σ : SI) (x0 : Nat) (x1 : Nat) (x3 : Int32) (x4 : Int32) (x5 : Int32) (x6 : Int32), f_X9_neighboursInDust_158 N R k38 σ x0 x1 x3 x4 x5 x6 = some r → Ok 194 x0 9 → Ok 194 x1 0 → ∀ (H : Heap) (locs : List Loc) (ls : Array Slot), S2 g s σ R L H locs → lv_has ls 11 [(0, .ref (gb g + x0)), (1, .ref (gb g + x1)), (3, .int x3), (4, .int x4), (5, .int x5), (6, .int x6)] → W p l e (rmd 2 0 0) s m args below meth c H locs 0 0 (MQ below (Qg g 194 (PI R L r)) args s 0 0 (gA g)) (F0 m 158 ls []) := by
  have hx := C.1
  have hb := C.2.1
  intro σ x0 x1 x3 x4 x5 x6 h hx0 hx1 H locs ls S hl
  rw [f_X9_neighboursInDust_158] at h
  refine lv_iinc (v := x6 + 1) (lv' := [(6, .int (x6 + 1)), (0, .ref (gb g + x0)), (1, .ref (gb g + x1)), (3, .int x3), (4, .int x4), (5, .int x5)]) hx hb dX9_neighboursInDust_158 hl (k := 5) rfl rfl (by decide) rfl (fun ls hl => ?_)
  refine lv_goto (tgt := 38) hx hb dX9_neighboursInDust_161 (by decide) ?_
  exact hk38 σ x0 x1 x3 x4 x5 (x6 + 1) h hx0 hx1 H locs ls S (lv_sub hl [1, 2, 3, 4, 5, 0] rfl)
set_option maxHeartbeats 4000000 in
set_option maxRecDepth 100000 in
theorem w_X9_neighboursInDust_38 {l : Launch} {g : GL} {p : Program} {e : Jvm.Env} {s : State} {m : MethodId} {args : Array Value} {below : List Frame} {meth : Method} {c : Code} {R : Nat → Nat → Nat} {L : Nat → Nat → Int64} {r : (Int32 × SI)} {N : Nat} (C : Cx l g p s m meth c cX9_neighboursInDust 11 RX9) (hr : meth.sig.returnType = (some .int)) (hSh : ShR R) : ∀ (n : Nat) (σ : SI) (x0 : Nat) (x1 : Nat) (x3 : Int32) (x4 : Int32) (x5 : Int32) (x6 : Int32), f_X9_neighboursInDust_38 N R n σ x0 x1 x3 x4 x5 x6 = some r → Ok 194 x0 9 → Ok 194 x1 0 → ∀ (H : Heap) (locs : List Loc) (ls : Array Slot), S2 g s σ R L H locs → lv_has ls 11 [(0, .ref (gb g + x0)), (1, .ref (gb g + x1)), (3, .int x3), (4, .int x4), (5, .int x5), (6, .int x6)] → W p l e (rmd 2 0 0) s m args below meth c H locs 0 0 (MQ below (Qg g 194 (PI R L r)) args s 0 0 (gA g)) (F0 m 38 ls []) := by
  have hx := C.1
  have hb := C.2.1
  intro n
  induction n with
  | zero =>
    intro σ x0 x1 x3 x4 x5 x6 h
    cases (show (none : Option (Int32 × SI)) = some r from h)
  | succ n ih =>
    intro σ x0 x1 x3 x4 x5 x6 h hx0 hx1 H locs ls S hl
    rw [f_X9_neighboursInDust_38] at h
    refine lv_iload hx hb dX9_neighboursInDust_38 (lv_at hl 5 rfl) ?_
    refine lv_aload_n hx hb dX9_neighboursInDust_40 rfl (lv_at hl 0 rfl) ?_
    refine x_getI C S KX9 hx0 9 (by decide) rfl rfl fl_RX9_54 dX9_neighboursInDust_41 ?_
    refine lv_icmp_ge (tgt := 164) hx hb dX9_neighboursInDust_44 (by decide) (fun c7 => ?_) (fun c7 => ?_)
    · have h := it_p c7 h
      refine lv_iload hx hb dX9_neighboursInDust_164 (lv_at hl 4 rfl) ?_
      exact x_iret C S hr h dX9_neighboursInDust_166
    · have h := it_n c7 h
      refine lv_aload_n hx hb dX9_neighboursInDust_47 rfl (lv_at hl 0 rfl) ?_
      have hR8 : Ok 194 (R x0 0) 60008 := hSh x0 9 0 60008 hx0.1 rfl
      refine x_getR C S KX9 hx0 0 (by decide) rfl rfl fl_RX9_11 hR8 dX9_neighboursInDust_48 ?_
      refine lv_iload hx hb dX9_neighboursInDust_51 (lv_at hl 5 rfl) ?_
      obtain ⟨hi9, h⟩ := ck_el h
      have hR10 : Ok 194 (R (R x0 0) x6.toNatClampNeg) 4 := hSh (R x0 0) 60008 x6.toNatClampNeg 4 hR8.1 (if_pos (vp_lt hi9))
      refine x_aald (len := 8) C S (by decide) 5 (by decide) rfl hR8 hi9 hR10 dX9_neighboursInDust_53 ?_
      refine x_getI C S KX4 hR10 2 (by decide) rfl rfl fl_RX9_105 dX9_neighboursInDust_54 ?_
      refine lv_aload_n hx hb dX9_neighboursInDust_57 rfl (lv_at hl 1 rfl) ?_
      refine x_getI C S KX0 hx1 4 (by decide) rfl rfl fl_RX9_108 dX9_neighboursInDust_58 ?_
      refine lv_isub hx hb dX9_neighboursInDust_61 ?_
      refine lv_istore (lv' := [(7, .int ((σ (R (R x0 0) x6.toNatClampNeg) 2) - (σ x1 4))), (0, .ref (gb g + x0)), (1, .ref (gb g + x1)), (3, .int x3), (4, .int x4), (5, .int x5), (6, .int x6)]) hx hb dX9_neighboursInDust_62 hl (by decide) rfl (fun ls hl => ?_)
      refine lv_aload_n hx hb dX9_neighboursInDust_64 rfl (lv_at hl 1 rfl) ?_
      have hR11 : Ok 194 (R x0 0) 60008 := hSh x0 9 0 60008 hx0.1 rfl
      refine x_getR C S KX9 hx0 0 (by decide) rfl rfl fl_RX9_11 hR11 dX9_neighboursInDust_65 ?_
      refine lv_iload hx hb dX9_neighboursInDust_68 (lv_at hl 6 rfl) ?_
      obtain ⟨hi12, h⟩ := ck_el h
      have hR13 : Ok 194 (R (R x0 0) x6.toNatClampNeg) 4 := hSh (R x0 0) 60008 x6.toNatClampNeg 4 hR11.1 (if_pos (vp_lt hi12))
      refine x_aald (len := 8) C S (by decide) 5 (by decide) rfl hR11 hi12 hR13 dX9_neighboursInDust_70 ?_
      refine x_getI C S KX4 hR13 3 (by decide) rfl rfl fl_RX9_109 dX9_neighboursInDust_71 ?_
      refine lv_aload_n hx hb dX9_neighboursInDust_74 rfl (lv_at hl 2 rfl) ?_
      refine x_getI C S KX0 hx1 5 (by decide) rfl rfl fl_RX9_112 dX9_neighboursInDust_75 ?_
      refine lv_isub hx hb dX9_neighboursInDust_78 ?_
      refine lv_istore (lv' := [(8, .int ((σ (R (R x0 0) x6.toNatClampNeg) 3) - (σ x1 5))), (7, .int ((σ (R (R x0 0) x6.toNatClampNeg) 2) - (σ x1 4))), (0, .ref (gb g + x0)), (1, .ref (gb g + x1)), (3, .int x3), (4, .int x4), (5, .int x5), (6, .int x6)]) hx hb dX9_neighboursInDust_79 hl (by decide) rfl (fun ls hl => ?_)
      refine lv_iload hx hb dX9_neighboursInDust_81 (lv_at hl 1 rfl) ?_
      refine x_gets900 C S fl_RX9_127 dX9_neighboursInDust_83 ?_
      refine lv_iload_n hx hb dX9_neighboursInDust_86 rfl (lv_at hl 4 rfl) ?_
      obtain ⟨hi14, h⟩ := ck_el h
      refine x_wald900 C S hi14 dX9_neighboursInDust_87 ?_
      refine lv_imul hx hb dX9_neighboursInDust_88 ?_
      refine lv_iload hx hb dX9_neighboursInDust_89 (lv_at hl 0 rfl) ?_
      refine x_gets901 C S fl_RX9_130 dX9_neighboursInDust_91 ?_
      refine lv_iload_n hx hb dX9_neighboursInDust_94 rfl (lv_at hl 4 rfl) ?_
      obtain ⟨hi15, h⟩ := ck_el h
      refine x_wald901 C S hi15 dX9_neighboursInDust_95 ?_
      refine lv_imul hx hb dX9_neighboursInDust_96 ?_
      refine lv_iadd hx hb dX9_neighboursInDust_97 ?_
      refine lv_istore (lv' := [(9, .int ((((σ (R (R x0 0) x6.toNatClampNeg) 2) - (σ x1 4)) * (wxL.getD x3.toNatClampNeg 0)) + (((σ (R (R x0 0) x6.toNatClampNeg) 3) - (σ x1 5)) * (wyL.getD x3.toNatClampNeg 0)))), (8, .int ((σ (R (R x0 0) x6.toNatClampNeg) 3) - (σ x1 5))), (7, .int ((σ (R (R x0 0) x6.toNatClampNeg) 2) - (σ x1 4))), (0, .ref (gb g + x0)), (1, .ref (gb g + x1)), (3, .int x3), (4, .int x4), (5, .int x5), (6, .int x6)]) hx hb dX9_neighboursInDust_98 hl (by decide) rfl (fun ls hl => ?_)
      refine lv_iload hx hb dX9_neighboursInDust_100 (lv_at hl 2 rfl) ?_
      refine x_gets901 C S fl_RX9_130 dX9_neighboursInDust_102 ?_
      refine lv_iload_n hx hb dX9_neighboursInDust_105 rfl (lv_at hl 5 rfl) ?_
      obtain ⟨hi16, h⟩ := ck_el h
      refine x_wald901 C S hi16 dX9_neighboursInDust_106 ?_
      refine lv_imul hx hb dX9_neighboursInDust_107 ?_
      refine lv_iload hx hb dX9_neighboursInDust_108 (lv_at hl 1 rfl) ?_
      refine x_gets900 C S fl_RX9_127 dX9_neighboursInDust_110 ?_
      refine lv_iload_n hx hb dX9_neighboursInDust_113 rfl (lv_at hl 5 rfl) ?_
      obtain ⟨hi17, h⟩ := ck_el h
      refine x_wald900 C S hi17 dX9_neighboursInDust_114 ?_
      refine lv_imul hx hb dX9_neighboursInDust_115 ?_
      refine lv_isub hx hb dX9_neighboursInDust_116 ?_
      refine lv_istore (lv' := [(10, .int ((((σ (R (R x0 0) x6.toNatClampNeg) 2) - (σ x1 4)) * (wyL.getD x3.toNatClampNeg 0)) - (((σ (R (R x0 0) x6.toNatClampNeg) 3) - (σ x1 5)) * (wxL.getD x3.toNatClampNeg 0)))), (9, .int ((((σ (R (R x0 0) x6.toNatClampNeg) 2) - (σ x1 4)) * (wxL.getD x3.toNatClampNeg 0)) + (((σ (R (R x0 0) x6.toNatClampNeg) 3) - (σ x1 5)) * (wyL.getD x3.toNatClampNeg 0)))), (8, .int ((σ (R (R x0 0) x6.toNatClampNeg) 3) - (σ x1 5))), (7, .int ((σ (R (R x0 0) x6.toNatClampNeg) 2) - (σ x1 4))), (0, .ref (gb g + x0)), (1, .ref (gb g + x1)), (3, .int x3), (4, .int x4), (5, .int x5), (6, .int x6)]) hx hb dX9_neighboursInDust_117 hl (by decide) rfl (fun ls hl => ?_)
      refine lv_iload hx hb dX9_neighboursInDust_119 (lv_at hl 1 rfl) ?_
      refine lv_if_le (tgt := 158) hx hb dX9_neighboursInDust_121 (by decide) (fun c18 => ?_) (fun c18 => ?_)
      · have h := it_p c18 h
        exact w_X9_neighboursInDust_158 C hr hSh ih σ x0 x1 x3 x4 x5 x6 h hx0 hx1 H locs ls S (lv_sub hl [4, 5, 6, 7, 8, 9] rfl)
      · have h := it_n c18 h
        refine lv_iload hx hb dX9_neighboursInDust_124 (lv_at hl 0 rfl) ?_
        refine x_abs C hl.1 ⟨ml_RX9_133, st_math_abs, ni_math, cd_math_abs⟩ (Nat.le_of_ble_eq_true rfl) (Nat.le_of_ble_eq_true rfl) (Nat.le_of_ble_eq_true rfl) (Nat.le_of_ble_eq_true rfl) dX9_neighboursInDust_126 ?_
        refine lv_iload hx hb dX9_neighboursInDust_129 (lv_at hl 1 rfl) ?_
        refine lv_icmp_gt (tgt := 158) hx hb dX9_neighboursInDust_131 (by decide) (fun c19 => ?_) (fun c19 => ?_)
        · have h := it_p c19 h
          exact w_X9_neighboursInDust_158 C hr hSh ih σ x0 x1 x3 x4 x5 x6 h hx0 hx1 H locs ls S (lv_sub hl [4, 5, 6, 7, 8, 9] rfl)
        · have h := it_n c19 h
          refine lv_iload hx hb dX9_neighboursInDust_134 (lv_at hl 3 rfl) ?_
          refine lv_iload hx hb dX9_neighboursInDust_136 (lv_at hl 2 rfl) ?_
          obtain ⟨a20, σ20, hc20, h⟩ := bd_el h
          refine x_callNI C S (ok_X11_squareSum (L := L) hc20 hSh) ⟨cd_X11_squareSum, ni_RX11, mn_RX9_113, st_X11_squareSum⟩ ⟨by decide, by decide⟩ rfl ⟨by decide, by decide⟩ hl.1 rfl (Nat.le_of_ble_eq_true rfl) ⟨by decide, by decide⟩ dX9_neighboursInDust_138 (fun H locs S => ?_)
          refine lv_iload hx hb dX9_neighboursInDust_141 (lv_at hl 7 rfl) ?_
          refine lv_iload hx hb dX9_neighboursInDust_143 (lv_at hl 7 rfl) ?_
          refine lv_imul hx hb dX9_neighboursInDust_145 ?_
          refine lv_icmp_gt (tgt := 158) hx hb dX9_neighboursInDust_146 (by decide) (fun c21 => ?_) (fun c21 => ?_)
          · have h := it_p c21 h
            exact w_X9_neighboursInDust_158 C hr hSh ih σ20 x0 x1 x3 x4 x5 x6 h hx0 hx1 H locs ls S (lv_sub hl [4, 5, 6, 7, 8, 9] rfl)
          · have h := it_n c21 h
            refine lv_iload hx hb dX9_neighboursInDust_149 (lv_at hl 8 rfl) ?_
            refine lv_iconst (v := (1 : Int32)) hx hb dX9_neighboursInDust_151 (by decide) ?_
            refine lv_iload hx hb dX9_neighboursInDust_152 (lv_at hl 9 rfl) ?_
            refine lv_ishl hx hb dX9_neighboursInDust_154 ?_
            refine lv_ior hx hb dX9_neighboursInDust_155 ?_
            refine lv_istore (lv' := [(5, .int (x5 ||| ((1 : Int32) <<< (x6 &&& 31)))), (10, .int ((((σ (R (R x0 0) x6.toNatClampNeg) 2) - (σ x1 4)) * (wyL.getD x3.toNatClampNeg 0)) - (((σ (R (R x0 0) x6.toNatClampNeg) 3) - (σ x1 5)) * (wxL.getD x3.toNatClampNeg 0)))), (9, .int ((((σ (R (R x0 0) x6.toNatClampNeg) 2) - (σ x1 4)) * (wxL.getD x3.toNatClampNeg 0)) + (((σ (R (R x0 0) x6.toNatClampNeg) 3) - (σ x1 5)) * (wyL.getD x3.toNatClampNeg 0)))), (8, .int ((σ (R (R x0 0) x6.toNatClampNeg) 3) - (σ x1 5))), (7, .int ((σ (R (R x0 0) x6.toNatClampNeg) 2) - (σ x1 4))), (0, .ref (gb g + x0)), (1, .ref (gb g + x1)), (3, .int x3), (4, .int x4), (6, .int x6)]) hx hb dX9_neighboursInDust_156 hl (by decide) rfl (fun ls hl => ?_)
            exact w_X9_neighboursInDust_158 C hr hSh ih σ20 x0 x1 x3 x4 (x5 ||| ((1 : Int32) <<< (x6 &&& 31))) x6 h hx0 hx1 H locs ls S (lv_sub hl [5, 6, 7, 8, 0, 9] rfl)
set_option maxHeartbeats 4000000 in
set_option maxRecDepth 100000 in
theorem ok_X9_neighboursInDust {l : Launch} {g : GL} {R : Nat → Nat → Nat} {L : Nat → Nat → Int64} {N : Nat} {σ : SI} {x0 : Nat} {x1 : Nat} {x2 : Int32} {r : (Int32 × SI)} (h : f_X9_neighboursInDust N R σ x0 x1 x2 = some r) (hSh : ShR R) (hx0 : Ok 194 x0 9) (hx1 : Ok 194 x1 0) : Ct l g 2 yX9_neighboursInDust cX9_neighboursInDust 11 (some .int) 194 194 0 0 [.ref (gb g + x0), .ref (gb g + x1), .int x2] (mkS σ R L) (PI R L r) := by
  refine Met.ofW (cc := cX9_neighboursInDust) (maxL := 11) (ret := (some .int)) (by decide) rfl ?_
  intro p e s m args below meth c s₁ B hml hv
  obtain ⟨rfl, hE, hLo, hWd⟩ := hv
  have hr : meth.sig.returnType = (some .int) := B.returns
  have C : Cx l g p s m meth c cX9_neighboursInDust 11 RX9 := ⟨B.exec, B.bytes, hml, findClass_of_methodNamed B.named, hE, hLo, B.notSynchronized⟩
  have S : S2 g s σ R L s.heap [] := ⟨hWd, va_S.rf⟩
  have hx := C.1
  have hb := C.2.1
  have hl := lv_entry ([.ref (gb g + x0), .ref (gb g + x1), .int x2]) (n := 11) (Nat.le_of_ble_eq_true rfl)
  rw [lg_entry_eq]
  generalize (lg_sl ([.ref (gb g + x0), .ref (gb g + x1), .int x2]) ++ List.replicate (11 - (lg_sl ([.ref (gb g + x0), .ref (gb g + x1), .int x2])).length) Slot.unset).toArray = ls at hl ⊢
  have hl : lv_has ls 11 [(0, .ref (gb g + x0)), (1, .ref (gb g + x1)), (2, .int x2)] := hl
  generalize hH : s.heap = H at S ⊢
  generalize hlc : ([] : List Loc) = locs at S ⊢
  rw [f_X9_neighboursInDust] at h
  refine lv_aload_n hx hb dX9_neighboursInDust_0 rfl (lv_at hl 0 rfl) ?_
  have hR1 : Ok 194 (R x0 7) 10024 := hSh x0 9 7 10024 hx0.1 rfl
  refine x_getR C S KX9 hx0 7 (by decide) rfl rfl fl_RX9_42 hR1 dX9_neighboursInDust_1 ?_
  refine lv_iload_n hx hb dX9_neighboursInDust_4 rfl (lv_at hl 2 rfl) ?_
  obtain ⟨hi2, h⟩ := ck_el h
  refine x_iald (len := 24) C S (by decide) hR1 hi2 dX9_neighboursInDust_5 ?_
  refine lv_istore_n (lv' := [(3, .int (σ (R x0 7) x2.toNatClampNeg)), (0, .ref (gb g + x0)), (1, .ref (gb g + x1)), (2, .int x2)]) hx hb dX9_neighboursInDust_6 rfl hl (by decide) rfl (fun ls hl => ?_)
  refine lv_iload_n hx hb dX9_neighboursInDust_7 rfl (lv_at hl 0 rfl) ?_
  refine lv_if_lt (tgt := 19) hx hb dX9_neighboursInDust_8 (by decide) (fun c3 => ?_) (fun c3 => ?_)
  · have h := it_p c3 h
    refine lv_iconst (v := (0 : Int32)) hx hb dX9_neighboursInDust_19 (by decide) ?_
    exact x_iret C S hr h dX9_neighboursInDust_20
  · have h := it_n c3 h
    refine lv_iload_n hx hb dX9_neighboursInDust_11 rfl (lv_at hl 0 rfl) ?_
    refine x_gets900 C S fl_RX9_127 dX9_neighboursInDust_12 ?_
    refine x_wlen900 C S dX9_neighboursInDust_15 ?_
    refine lv_icmp_lt (tgt := 21) hx hb dX9_neighboursInDust_16 (by decide) (fun c4 => ?_) (fun c4 => ?_)
    · have h := it_p c4 h
      refine lv_bipush (v := (50 : Int32)) hx hb dX9_neighboursInDust_21 (by decide) ?_
      refine lv_aload_n hx hb dX9_neighboursInDust_23 rfl (lv_at hl 1 rfl) ?_
      have hR5 : Ok 194 (R x0 8) 10024 := hSh x0 9 8 10024 hx0.1 rfl
      refine x_getR C S KX9 hx0 8 (by decide) rfl rfl fl_RX9_45 hR5 dX9_neighboursInDust_24 ?_
      refine lv_iload_n hx hb dX9_neighboursInDust_27 rfl (lv_at hl 3 rfl) ?_
      obtain ⟨hi6, h⟩ := ck_el h
      refine x_iald (len := 24) C S (by decide) hR5 hi6 dX9_neighboursInDust_28 ?_
      refine lv_imul hx hb dX9_neighboursInDust_29 ?_
      refine lv_istore (lv' := [(4, .int ((50 : Int32) * (σ (R x0 8) x2.toNatClampNeg))), (3, .int (σ (R x0 7) x2.toNatClampNeg)), (0, .ref (gb g + x0)), (1, .ref (gb g + x1)), (2, .int x2)]) hx hb dX9_neighboursInDust_30 hl (by decide) rfl (fun ls hl => ?_)
      refine lv_iconst (v := (0 : Int32)) hx hb dX9_neighboursInDust_32 (by decide) ?_
      refine lv_istore (lv' := [(5, .int (0 : Int32)), (4, .int ((50 : Int32) * (σ (R x0 8) x2.toNatClampNeg))), (3, .int (σ (R x0 7) x2.toNatClampNeg)), (0, .ref (gb g + x0)), (1, .ref (gb g + x1)), (2, .int x2)]) hx hb dX9_neighboursInDust_33 hl (by decide) rfl (fun ls hl => ?_)
      refine lv_iconst (v := (0 : Int32)) hx hb dX9_neighboursInDust_35 (by decide) ?_
      refine lv_istore (lv' := [(6, .int (0 : Int32)), (5, .int (0 : Int32)), (4, .int ((50 : Int32) * (σ (R x0 8) x2.toNatClampNeg))), (3, .int (σ (R x0 7) x2.toNatClampNeg)), (0, .ref (gb g + x0)), (1, .ref (gb g + x1)), (2, .int x2)]) hx hb dX9_neighboursInDust_36 hl (by decide) rfl (fun ls hl => ?_)
      exact w_X9_neighboursInDust_38 C hr hSh N σ x0 x1 (σ (R x0 7) x2.toNatClampNeg) ((50 : Int32) * (σ (R x0 8) x2.toNatClampNeg)) (0 : Int32) (0 : Int32) h hx0 hx1 H locs ls S (lv_sub hl [4, 5, 3, 2, 1, 0] rfl)
    · have h := it_n c4 h
      refine lv_iconst (v := (0 : Int32)) hx hb dX9_neighboursInDust_19 (by decide) ?_
      exact x_iret C S hr h dX9_neighboursInDust_20
theorem dX9_weigh_0 : decode cX9_weigh 0 = .ok (.aload_n 1, 1) := by decide +kernel
theorem dX9_weigh_1 : decode cX9_weigh 1 = .ok (.invokevirtual 139, 3) := by decide +kernel
theorem dX9_weigh_4 : decode cX9_weigh 4 = .ok (.aload_n 1, 1) := by decide +kernel
theorem dX9_weigh_5 : decode cX9_weigh 5 = .ok (.iconst 0, 1) := by decide +kernel
theorem dX9_weigh_6 : decode cX9_weigh 6 = .ok (.putfield 142, 3) := by decide +kernel
theorem dX9_weigh_9 : decode cX9_weigh 9 = .ok (.iconst 0, 1) := by decide +kernel
theorem dX9_weigh_10 : decode cX9_weigh 10 = .ok (.istore_n 2, 1) := by decide +kernel
theorem dX9_weigh_11 : decode cX9_weigh 11 = .ok (.iload_n 2, 1) := by decide +kernel
theorem dX9_weigh_12 : decode cX9_weigh 12 = .ok (.aload_n 0, 1) := by decide +kernel
theorem dX9_weigh_13 : decode cX9_weigh 13 = .ok (.getfield 54, 3) := by decide +kernel
theorem dX9_weigh_16 : decode cX9_weigh 16 = .ok (.if_icmp .ge 42, 3) := by decide +kernel
theorem dX9_weigh_19 : decode cX9_weigh 19 = .ok (.aload_n 1, 1) := by decide +kernel
theorem dX9_weigh_20 : decode cX9_weigh 20 = .ok (.iload_n 2, 1) := by decide +kernel
theorem dX9_weigh_21 : decode cX9_weigh 21 = .ok (.aload_n 1, 1) := by decide +kernel
theorem dX9_weigh_22 : decode cX9_weigh 22 = .ok (.getfield 145, 3) := by decide +kernel
theorem dX9_weigh_25 : decode cX9_weigh 25 = .ok (.invokevirtual 148, 3) := by decide +kernel
theorem dX9_weigh_28 : decode cX9_weigh 28 = .ok (.aload_n 0, 1) := by decide +kernel
theorem dX9_weigh_29 : decode cX9_weigh 29 = .ok (.getfield 11, 3) := by decide +kernel
theorem dX9_weigh_32 : decode cX9_weigh 32 = .ok (.iload_n 2, 1) := by decide +kernel
theorem dX9_weigh_33 : decode cX9_weigh 33 = .ok (.aaload, 1) := by decide +kernel
theorem dX9_weigh_34 : decode cX9_weigh 34 = .ok (.getfield 151, 3) := by decide +kernel
theorem dX9_weigh_37 : decode cX9_weigh 37 = .ok (.if_icmp .le 15, 3) := by decide +kernel
theorem dX9_weigh_40 : decode cX9_weigh 40 = .ok (.aload_n 1, 1) := by decide +kernel
theorem dX9_weigh_41 : decode cX9_weigh 41 = .ok (.dup, 1) := by decide +kernel
theorem dX9_weigh_42 : decode cX9_weigh 42 = .ok (.getfield 142, 3) := by decide +kernel
theorem dX9_weigh_45 : decode cX9_weigh 45 = .ok (.iconst 1, 1) := by decide +kernel
theorem dX9_weigh_46 : decode cX9_weigh 46 = .ok (.iload_n 2, 1) := by decide +kernel
theorem dX9_weigh_47 : decode cX9_weigh 47 = .ok (.ishl, 1) := by decide +kernel
theorem dX9_weigh_48 : decode cX9_weigh 48 = .ok (.ior, 1) := by decide +kernel
theorem dX9_weigh_49 : decode cX9_weigh 49 = .ok (.putfield 142, 3) := by decide +kernel
theorem dX9_weigh_52 : decode cX9_weigh 52 = .ok (.iinc 2 1, 3) := by decide +kernel
theorem dX9_weigh_55 : decode cX9_weigh 55 = .ok (.goto (-44), 3) := by decide +kernel
theorem dX9_weigh_58 : decode cX9_weigh 58 = .ok (.return_, 1) := by decide +kernel
def f_X9_weigh_52 (N : Nat) (R : Nat → Nat → Nat) (k11 : SI → Nat → Nat → Int32 → Option (Unit × SI)) (σ : SI) (x0 : Nat) (x1 : Nat) (x2 : Int32) : Option (Unit × SI) := k11 σ x0 x1 (x2 + 1)
def f_X9_weigh_11 (N : Nat) (R : Nat → Nat → Nat) : Nat → SI → Nat → Nat → Int32 → Option (Unit × SI)
  | 0, _, _, _, _ => none
  | n + 1, σ, x0, x1, x2 => if (σ x0 9) ≤ x2 then (some ((), σ)) else (bd (f_X0_shakes N R σ x1 x2 (σ x1 8)) (fun a4 σ4 => ck x2 8 (if a4 ≤ (σ4 (R (R x0 0) x2.toNatClampNeg) 4) then (f_X9_weigh_52 N R (fun σ x0 x1 x2 => f_X9_weigh_11 N R n σ x0 x1 x2) σ4 x0 x1 x2) else (sq (up σ4 x1 10 ((σ4 x1 10) ||| ((1 : Int32) <<< (x2 &&& 31)))) (fun σ9 => f_X9_weigh_52 N R (fun σ x0 x1 x2 => f_X9_weigh_11 N R n σ x0 x1 x2) σ9 x0 x1 x2)))))
def f_X9_weigh (N : Nat) (R : Nat → Nat → Nat) (σ : SI) (x0 : Nat) (x1 : Nat) : Option (Unit × SI) := bd (f_X0_measureWindow N R σ x1) (fun _ σ1 => sq (up σ1 x1 10 (0 : Int32)) (fun σ2 => f_X9_weigh_11 N R N σ2 x0 x1 (0 : Int32)))
set_option maxHeartbeats 4000000 in
set_option maxRecDepth 100000 in
theorem w_X9_weigh_52 {l : Launch} {g : GL} {p : Program} {e : Jvm.Env} {s : State} {m : MethodId} {args : Array Value} {below : List Frame} {meth : Method} {c : Code} {R : Nat → Nat → Nat} {L : Nat → Nat → Int64} {r : (Unit × SI)} {N : Nat} {k11 : SI → Nat → Nat → Int32 → Option (Unit × SI)} (C : Cx l g p s m meth c cX9_weigh 3 RX9) (hr : meth.sig.returnType = none) (hSh : ShR R) (hk11 : ∀ (σ : SI) (x0 : Nat) (x1 : Nat) (x2 : Int32), k11 σ x0 x1 x2 = some r → Ok 194 x0 9 → Ok 194 x1 0 → ∀ (H : Heap) (locs : List Loc) (ls : Array Slot), S2 g s σ R L H locs → lv_has ls 3 [(0, .ref (gb g + x0)), (1, .ref (gb g + x1)), (2, .int x2)] → W p l e (rmd 3 0 0) s m args below meth c H locs 0 0 (MQ below (Qg g 194 (PV R L r)) args s 0 0 (gA g)) (F0 m 11 ls [])) : ∀ (σ : SI) (x0 : Nat) (x1 : Nat) (x2 : Int32), f_X9_weigh_52 N R k11 σ x0 x1 x2 = some r → Ok 194 x0 9 → Ok 194 x1 0 → ∀ (H : Heap) (locs : List Loc) (ls : Array Slot), S2 g s σ R L H locs → lv_has ls 3 [(0, .ref (gb g + x0)), (1, .ref (gb g + x1)), (2, .int x2)] → W p l e (rmd 3 0 0) s m args below meth c H locs 0 0 (MQ below (Qg g 194 (PV R L r)) args s 0 0 (gA g)) (F0 m 52 ls []) := by
  have hx := C.1
  have hb := C.2.1
  intro σ x0 x1 x2 h hx0 hx1 H locs ls S hl
  rw [f_X9_weigh_52] at h
  refine lv_iinc (v := x2 + 1) (lv' := [(2, .int (x2 + 1)), (0, .ref (gb g + x0)), (1, .ref (gb g + x1))]) hx hb dX9_weigh_52 hl (k := 2) rfl rfl (by decide) rfl (fun ls hl => ?_)
  refine lv_goto (tgt := 11) hx hb dX9_weigh_55 (by decide) ?_
  exact hk11 σ x0 x1 (x2 + 1) h hx0 hx1 H locs ls S (lv_sub hl [1, 2, 0] rfl)
set_option maxHeartbeats 4000000 in
set_option maxRecDepth 100000 in
theorem w_X9_weigh_11 {l : Launch} {g : GL} {p : Program} {e : Jvm.Env} {s : State} {m : MethodId} {args : Array Value} {below : List Frame} {meth : Method} {c : Code} {R : Nat → Nat → Nat} {L : Nat → Nat → Int64} {r : (Unit × SI)} {N : Nat} (C : Cx l g p s m meth c cX9_weigh 3 RX9) (hr : meth.sig.returnType = none) (hSh : ShR R) : ∀ (n : Nat) (σ : SI) (x0 : Nat) (x1 : Nat) (x2 : Int32), f_X9_weigh_11 N R n σ x0 x1 x2 = some r → Ok 194 x0 9 → Ok 194 x1 0 → ∀ (H : Heap) (locs : List Loc) (ls : Array Slot), S2 g s σ R L H locs → lv_has ls 3 [(0, .ref (gb g + x0)), (1, .ref (gb g + x1)), (2, .int x2)] → W p l e (rmd 3 0 0) s m args below meth c H locs 0 0 (MQ below (Qg g 194 (PV R L r)) args s 0 0 (gA g)) (F0 m 11 ls []) := by
  have hx := C.1
  have hb := C.2.1
  intro n
  induction n with
  | zero =>
    intro σ x0 x1 x2 h
    cases (show (none : Option (Unit × SI)) = some r from h)
  | succ n ih =>
    intro σ x0 x1 x2 h hx0 hx1 H locs ls S hl
    rw [f_X9_weigh_11] at h
    refine lv_iload_n hx hb dX9_weigh_11 rfl (lv_at hl 2 rfl) ?_
    refine lv_aload_n hx hb dX9_weigh_12 rfl (lv_at hl 0 rfl) ?_
    refine x_getI C S KX9 hx0 9 (by decide) rfl rfl fl_RX9_54 dX9_weigh_13 ?_
    refine lv_icmp_ge (tgt := 58) hx hb dX9_weigh_16 (by decide) (fun c3 => ?_) (fun c3 => ?_)
    · have h := it_p c3 h
      exact x_vret C S hr h dX9_weigh_58
    · have h := it_n c3 h
      refine lv_aload_n hx hb dX9_weigh_19 rfl (lv_at hl 1 rfl) ?_
      refine lv_iload_n hx hb dX9_weigh_20 rfl (lv_at hl 2 rfl) ?_
      refine lv_aload_n hx hb dX9_weigh_21 rfl (lv_at hl 1 rfl) ?_
      refine x_getI C S KX0 hx1 8 (by decide) rfl rfl fl_RX9_145 dX9_weigh_22 ?_
      obtain ⟨a4, σ4, hc4, h⟩ := bd_el h
      refine x_callVI C S KX0 hx1 (ok_X0_shakes (L := L) hc4 hSh hx1) ⟨cd_X0_shakes, ni_RX0, ml_RX9_148, in_X0_shakes, sl_X0_shakes⟩ ⟨by decide, by decide⟩ rfl ⟨by decide, by decide⟩ hl.1 rfl (Nat.le_of_ble_eq_true rfl) ⟨by decide, by decide⟩ dX9_weigh_25 (fun H locs S => ?_)
      refine lv_aload_n hx hb dX9_weigh_28 rfl (lv_at hl 0 rfl) ?_
      have hR5 : Ok 194 (R x0 0) 60008 := hSh x0 9 0 60008 hx0.1 rfl
      refine x_getR C S KX9 hx0 0 (by decide) rfl rfl fl_RX9_11 hR5 dX9_weigh_29 ?_
      refine lv_iload_n hx hb dX9_weigh_32 rfl (lv_at hl 2 rfl) ?_
      obtain ⟨hi6, h⟩ := ck_el h
      have hR7 : Ok 194 (R (R x0 0) x2.toNatClampNeg) 4 := hSh (R x0 0) 60008 x2.toNatClampNeg 4 hR5.1 (if_pos (vp_lt hi6))
      refine x_aald (len := 8) C S (by decide) 5 (by decide) rfl hR5 hi6 hR7 dX9_weigh_33 ?_
      refine x_getI C S KX4 hR7 4 (by decide) rfl rfl fl_RX9_151 dX9_weigh_34 ?_
      refine lv_icmp_le (tgt := 52) hx hb dX9_weigh_37 (by decide) (fun c8 => ?_) (fun c8 => ?_)
      · have h := it_p c8 h
        exact w_X9_weigh_52 C hr hSh ih σ4 x0 x1 x2 h hx0 hx1 H locs ls S (lv_sub hl [0, 1, 2] rfl)
      · have h := it_n c8 h
        refine lv_aload_n hx hb dX9_weigh_40 rfl (lv_at hl 1 rfl) ?_
        refine lv_dup hx hb dX9_weigh_41 rfl ?_
        refine x_getI C S KX0 hx1 10 (by decide) rfl rfl fl_RX9_142 dX9_weigh_42 ?_
        refine lv_iconst (v := (1 : Int32)) hx hb dX9_weigh_45 (by decide) ?_
        refine lv_iload_n hx hb dX9_weigh_46 rfl (lv_at hl 2 rfl) ?_
        refine lv_ishl hx hb dX9_weigh_47 ?_
        refine lv_ior hx hb dX9_weigh_48 ?_
        obtain ⟨σ9, hs9, h⟩ := sq_el h
        refine x_putI C S KX0 hx1 10 (by decide) rfl rfl rfl ⟨rfl, rfl⟩ fl_RX9_142 dX9_weigh_49 hs9 (fun H locs S => ?_)
        exact w_X9_weigh_52 C hr hSh ih σ9 x0 x1 x2 h hx0 hx1 H locs ls S (lv_sub hl [0, 1, 2] rfl)
set_option maxHeartbeats 4000000 in
set_option maxRecDepth 100000 in
theorem ok_X9_weigh {l : Launch} {g : GL} {R : Nat → Nat → Nat} {L : Nat → Nat → Int64} {N : Nat} {σ : SI} {x0 : Nat} {x1 : Nat} {r : (Unit × SI)} (h : f_X9_weigh N R σ x0 x1 = some r) (hSh : ShR R) (hx0 : Ok 194 x0 9) (hx1 : Ok 194 x1 0) : Ct l g 3 yX9_weigh cX9_weigh 3 none 194 194 0 0 [.ref (gb g + x0), .ref (gb g + x1)] (mkS σ R L) (PV R L r) := by
  refine Met.ofW (cc := cX9_weigh) (maxL := 3) (ret := none) (by decide) rfl ?_
  intro p e s m args below meth c s₁ B hml hv
  obtain ⟨rfl, hE, hLo, hWd⟩ := hv
  have hr : meth.sig.returnType = none := B.returns
  have C : Cx l g p s m meth c cX9_weigh 3 RX9 := ⟨B.exec, B.bytes, hml, findClass_of_methodNamed B.named, hE, hLo, B.notSynchronized⟩
  have S : S2 g s σ R L s.heap [] := ⟨hWd, va_S.rf⟩
  have hx := C.1
  have hb := C.2.1
  have hl := lv_entry ([.ref (gb g + x0), .ref (gb g + x1)]) (n := 3) (Nat.le_of_ble_eq_true rfl)
  rw [lg_entry_eq]
  generalize (lg_sl ([.ref (gb g + x0), .ref (gb g + x1)]) ++ List.replicate (3 - (lg_sl ([.ref (gb g + x0), .ref (gb g + x1)])).length) Slot.unset).toArray = ls at hl ⊢
  have hl : lv_has ls 3 [(0, .ref (gb g + x0)), (1, .ref (gb g + x1))] := hl
  generalize hH : s.heap = H at S ⊢
  generalize hlc : ([] : List Loc) = locs at S ⊢
  rw [f_X9_weigh] at h
  refine lv_aload_n hx hb dX9_weigh_0 rfl (lv_at hl 1 rfl) ?_
  obtain ⟨a1, σ1, hc1, h⟩ := bd_el h
  refine x_callVV C S KX0 hx1 (ok_X0_measureWindow (L := L) hc1 hSh hx1) ⟨cd_X0_measureWindow, ni_RX0, ml_RX9_139, in_X0_measureWindow, sl_X0_measureWindow⟩ ⟨by decide, by decide⟩ rfl ⟨by decide, by decide⟩ hl.1 rfl (Nat.le_of_ble_eq_true rfl) ⟨by decide, by decide⟩ dX9_weigh_1 (fun H locs S => ?_)
  refine lv_aload_n hx hb dX9_weigh_4 rfl (lv_at hl 1 rfl) ?_
  refine lv_iconst (v := (0 : Int32)) hx hb dX9_weigh_5 (by decide) ?_
  obtain ⟨σ2, hs2, h⟩ := sq_el h
  refine x_putI C S KX0 hx1 10 (by decide) rfl rfl rfl ⟨rfl, rfl⟩ fl_RX9_142 dX9_weigh_6 hs2 (fun H locs S => ?_)
  refine lv_iconst (v := (0 : Int32)) hx hb dX9_weigh_9 (by decide) ?_
  refine lv_istore_n (lv' := [(2, .int (0 : Int32)), (0, .ref (gb g + x0)), (1, .ref (gb g + x1))]) hx hb dX9_weigh_10 rfl hl (by decide) rfl (fun ls hl => ?_)
  exact w_X9_weigh_11 C hr hSh N σ2 x0 x1 (0 : Int32) h hx0 hx1 H locs ls S (lv_sub hl [1, 2, 0] rfl)
theorem dX9_startTotal_0 : decode cX9_startTotal 0 = .ok (.aload_n 0, 1) := by decide +kernel
theorem dX9_startTotal_1 : decode cX9_startTotal 1 = .ok (.getfield 67, 3) := by decide +kernel
theorem dX9_startTotal_4 : decode cX9_startTotal 4 = .ok (.aload_n 0, 1) := by decide +kernel
theorem dX9_startTotal_5 : decode cX9_startTotal 5 = .ok (.getfield 64, 3) := by decide +kernel
theorem dX9_startTotal_8 : decode cX9_startTotal 8 = .ok (.isub, 1) := by decide +kernel
theorem dX9_startTotal_9 : decode cX9_startTotal 9 = .ok (.aload_n 0, 1) := by decide +kernel
theorem dX9_startTotal_10 : decode cX9_startTotal 10 = .ok (.getfield 70, 3) := by decide +kernel
theorem dX9_startTotal_13 : decode cX9_startTotal 13 = .ok (.invokestatic 154, 3) := by decide +kernel
theorem dX9_startTotal_16 : decode cX9_startTotal 16 = .ok (.iconst 1, 1) := by decide +kernel
theorem dX9_startTotal_17 : decode cX9_startTotal 17 = .ok (.iadd, 1) := by decide +kernel
theorem dX9_startTotal_18 : decode cX9_startTotal 18 = .ok (.ireturn, 1) := by decide +kernel
def f_X9_startTotal (N : Nat) (R : Nat → Nat → Nat) (σ : SI) (x0 : Nat) : Option (Int32 × SI) := bd (f_X11_quotient N R σ ((σ x0 13) - (σ x0 12)) (σ x0 14)) (fun a1 σ1 => some (a1 + (1 : Int32), σ1))
set_option maxHeartbeats 4000000 in
set_option maxRecDepth 100000 in
theorem ok_X9_startTotal {l : Launch} {g : GL} {R : Nat → Nat → Nat} {L : Nat → Nat → Int64} {N : Nat} {σ : SI} {x0 : Nat} {r : (Int32 × SI)} (h : f_X9_startTotal N R σ x0 = some r) (hSh : ShR R) (hx0 : Ok 194 x0 9) : Ct l g 2 yX9_startTotal cX9_startTotal 1 (some .int) 194 194 0 0 [.ref (gb g + x0)] (mkS σ R L) (PI R L r) := by
  refine Met.ofW (cc := cX9_startTotal) (maxL := 1) (ret := (some .int)) (by decide) rfl ?_
  intro p e s m args below meth c s₁ B hml hv
  obtain ⟨rfl, hE, hLo, hWd⟩ := hv
  have hr : meth.sig.returnType = (some .int) := B.returns
  have C : Cx l g p s m meth c cX9_startTotal 1 RX9 := ⟨B.exec, B.bytes, hml, findClass_of_methodNamed B.named, hE, hLo, B.notSynchronized⟩
  have S : S2 g s σ R L s.heap [] := ⟨hWd, va_S.rf⟩
  have hx := C.1
  have hb := C.2.1
  have hl := lv_entry ([.ref (gb g + x0)]) (n := 1) (Nat.le_of_ble_eq_true rfl)
  rw [lg_entry_eq]
  generalize (lg_sl ([.ref (gb g + x0)]) ++ List.replicate (1 - (lg_sl ([.ref (gb g + x0)])).length) Slot.unset).toArray = ls at hl ⊢
  have hl : lv_has ls 1 [(0, .ref (gb g + x0))] := hl
  generalize hH : s.heap = H at S ⊢
  generalize hlc : ([] : List Loc) = locs at S ⊢
  rw [f_X9_startTotal] at h
  refine lv_aload_n hx hb dX9_startTotal_0 rfl (lv_at hl 0 rfl) ?_
  refine x_getI C S KX9 hx0 13 (by decide) rfl rfl fl_RX9_67 dX9_startTotal_1 ?_
  refine lv_aload_n hx hb dX9_startTotal_4 rfl (lv_at hl 0 rfl) ?_
  refine x_getI C S KX9 hx0 12 (by decide) rfl rfl fl_RX9_64 dX9_startTotal_5 ?_
  refine lv_isub hx hb dX9_startTotal_8 ?_
  refine lv_aload_n hx hb dX9_startTotal_9 rfl (lv_at hl 0 rfl) ?_
  refine x_getI C S KX9 hx0 14 (by decide) rfl rfl fl_RX9_70 dX9_startTotal_10 ?_
  obtain ⟨a1, σ1, hc1, h⟩ := bd_el h
  refine x_callNI C S (ok_X11_quotient (L := L) hc1 hSh) ⟨cd_X11_quotient, ni_RX11, mn_RX9_154, st_X11_quotient⟩ ⟨by decide, by decide⟩ rfl ⟨by decide, by decide⟩ hl.1 rfl (Nat.le_of_ble_eq_true rfl) ⟨by decide, by decide⟩ dX9_startTotal_13 (fun H locs S => ?_)
  refine lv_iconst (v := (1 : Int32)) hx hb dX9_startTotal_16 (by decide) ?_
  refine lv_iadd hx hb dX9_startTotal_17 ?_
  exact x_iret C S hr h dX9_startTotal_18
theorem dX9_startAt_0 : decode cX9_startAt 0 = .ok (.aload_n 0, 1) := by decide +kernel
theorem dX9_startAt_1 : decode cX9_startAt 1 = .ok (.getfield 64, 3) := by decide +kernel
theorem dX9_startAt_4 : decode cX9_startAt 4 = .ok (.iload_n 1, 1) := by decide +kernel
theorem dX9_startAt_5 : decode cX9_startAt 5 = .ok (.aload_n 0, 1) := by decide +kernel
theorem dX9_startAt_6 : decode cX9_startAt 6 = .ok (.getfield 70, 3) := by decide +kernel
theorem dX9_startAt_9 : decode cX9_startAt 9 = .ok (.imul, 1) := by decide +kernel
theorem dX9_startAt_10 : decode cX9_startAt 10 = .ok (.iadd, 1) := by decide +kernel
theorem dX9_startAt_11 : decode cX9_startAt 11 = .ok (.ireturn, 1) := by decide +kernel
def f_X9_startAt (N : Nat) (R : Nat → Nat → Nat) (σ : SI) (x0 : Nat) (x1 : Int32) : Option (Int32 × SI) := some ((σ x0 12) + (x1 * (σ x0 14)), σ)
set_option maxHeartbeats 4000000 in
set_option maxRecDepth 100000 in
theorem ok_X9_startAt {l : Launch} {g : GL} {R : Nat → Nat → Nat} {L : Nat → Nat → Int64} {N : Nat} {σ : SI} {x0 : Nat} {x1 : Int32} {r : (Int32 × SI)} (h : f_X9_startAt N R σ x0 x1 = some r) (hSh : ShR R) (hx0 : Ok 194 x0 9) : Ct l g 1 yX9_startAt cX9_startAt 2 (some .int) 194 194 0 0 [.ref (gb g + x0), .int x1] (mkS σ R L) (PI R L r) := by
  refine Met.ofW (cc := cX9_startAt) (maxL := 2) (ret := (some .int)) (by decide) rfl ?_
  intro p e s m args below meth c s₁ B hml hv
  obtain ⟨rfl, hE, hLo, hWd⟩ := hv
  have hr : meth.sig.returnType = (some .int) := B.returns
  have C : Cx l g p s m meth c cX9_startAt 2 RX9 := ⟨B.exec, B.bytes, hml, findClass_of_methodNamed B.named, hE, hLo, B.notSynchronized⟩
  have S : S2 g s σ R L s.heap [] := ⟨hWd, va_S.rf⟩
  have hx := C.1
  have hb := C.2.1
  have hl := lv_entry ([.ref (gb g + x0), .int x1]) (n := 2) (Nat.le_of_ble_eq_true rfl)
  rw [lg_entry_eq]
  generalize (lg_sl ([.ref (gb g + x0), .int x1]) ++ List.replicate (2 - (lg_sl ([.ref (gb g + x0), .int x1])).length) Slot.unset).toArray = ls at hl ⊢
  have hl : lv_has ls 2 [(0, .ref (gb g + x0)), (1, .int x1)] := hl
  generalize hH : s.heap = H at S ⊢
  generalize hlc : ([] : List Loc) = locs at S ⊢
  rw [f_X9_startAt] at h
  refine lv_aload_n hx hb dX9_startAt_0 rfl (lv_at hl 0 rfl) ?_
  refine x_getI C S KX9 hx0 12 (by decide) rfl rfl fl_RX9_64 dX9_startAt_1 ?_
  refine lv_iload_n hx hb dX9_startAt_4 rfl (lv_at hl 1 rfl) ?_
  refine lv_aload_n hx hb dX9_startAt_5 rfl (lv_at hl 0 rfl) ?_
  refine x_getI C S KX9 hx0 14 (by decide) rfl rfl fl_RX9_70 dX9_startAt_6 ?_
  refine lv_imul hx hb dX9_startAt_9 ?_
  refine lv_iadd hx hb dX9_startAt_10 ?_
  exact x_iret C S hr h dX9_startAt_11
theorem dX9_openTotal_0 : decode cX9_openTotal 0 = .ok (.iconst 0, 1) := by decide +kernel
theorem dX9_openTotal_1 : decode cX9_openTotal 1 = .ok (.istore_n 1, 1) := by decide +kernel
theorem dX9_openTotal_2 : decode cX9_openTotal 2 = .ok (.iconst 0, 1) := by decide +kernel
theorem dX9_openTotal_3 : decode cX9_openTotal 3 = .ok (.istore_n 2, 1) := by decide +kernel
theorem dX9_openTotal_4 : decode cX9_openTotal 4 = .ok (.iload_n 2, 1) := by decide +kernel
theorem dX9_openTotal_5 : decode cX9_openTotal 5 = .ok (.aload_n 0, 1) := by decide +kernel
theorem dX9_openTotal_6 : decode cX9_openTotal 6 = .ok (.getfield 61, 3) := by decide +kernel
theorem dX9_openTotal_9 : decode cX9_openTotal 9 = .ok (.if_icmp .ge 22, 3) := by decide +kernel
theorem dX9_openTotal_12 : decode cX9_openTotal 12 = .ok (.aload_n 0, 1) := by decide +kernel
theorem dX9_openTotal_13 : decode cX9_openTotal 13 = .ok (.getfield 39, 3) := by decide +kernel
theorem dX9_openTotal_16 : decode cX9_openTotal 16 = .ok (.iload_n 2, 1) := by decide +kernel
theorem dX9_openTotal_17 : decode cX9_openTotal 17 = .ok (.iaload, 1) := by decide +kernel
theorem dX9_openTotal_18 : decode cX9_openTotal 18 = .ok (.iconst (-1), 1) := by decide +kernel
theorem dX9_openTotal_19 : decode cX9_openTotal 19 = .ok (.if_icmp .ne 6, 3) := by decide +kernel
theorem dX9_openTotal_22 : decode cX9_openTotal 22 = .ok (.iinc 1 1, 3) := by decide +kernel
theorem dX9_openTotal_25 : decode cX9_openTotal 25 = .ok (.iinc 2 1, 3) := by decide +kernel
theorem dX9_openTotal_28 : decode cX9_openTotal 28 = .ok (.goto (-24), 3) := by decide +kernel
theorem dX9_openTotal_31 : decode cX9_openTotal 31 = .ok (.iload_n 1, 1) := by decide +kernel
theorem dX9_openTotal_32 : decode cX9_openTotal 32 = .ok (.ireturn, 1) := by decide +kernel
def f_X9_openTotal_25 (N : Nat) (R : Nat → Nat → Nat) (k4 : SI → Nat → Int32 → Int32 → Option (Int32 × SI)) (σ : SI) (x0 : Nat) (x1 : Int32) (x2 : Int32) : Option (Int32 × SI) := k4 σ x0 x1 (x2 + 1)
def f_X9_openTotal_4 (N : Nat) (R : Nat → Nat → Nat) : Nat → SI → Nat → Int32 → Int32 → Option (Int32 × SI)
  | 0, _, _, _, _ => none
  | n + 1, σ, x0, x1, x2 => if (σ x0 11) ≤ x2 then (some (x1, σ)) else (ck x2 6 (if (σ (R x0 6) x2.toNatClampNeg) = (-1 : Int32) then (f_X9_openTotal_25 N R (fun σ x0 x1 x2 => f_X9_openTotal_4 N R n σ x0 x1 x2) σ x0 (x1 + 1) x2) else (f_X9_openTotal_25 N R (fun σ x0 x1 x2 => f_X9_openTotal_4 N R n σ x0 x1 x2) σ x0 x1 x2)))
def f_X9_openTotal (N : Nat) (R : Nat → Nat → Nat) (σ : SI) (x0 : Nat) : Option (Int32 × SI) := f_X9_openTotal_4 N R N σ x0 (0 : Int32) (0 : Int32)
set_option maxHeartbeats 4000000 in
set_option maxRecDepth 100000 in
theorem w_X9_openTotal_25 {l : Launch} {g : GL} {p : Program} {e : Jvm.Env} {s : State} {m : MethodId} {args : Array Value} {below : List Frame} {meth : Method} {c : Code} {R : Nat → Nat → Nat} {L : Nat → Nat → Int64} {r : (Int32 × SI)} {N : Nat} {k4 : SI → Nat → Int32 → Int32 → Option (Int32 × SI)} (C : Cx l g p s m meth c cX9_openTotal 3 RX9) (hr : meth.sig.returnType = (some .int)) (hSh : ShR R) (hk4 : ∀ (σ : SI) (x0 : Nat) (x1 : Int32) (x2 : Int32), k4 σ x0 x1 x2 = some r → Ok 194 x0 9 → ∀ (H : Heap) (locs : List Loc) (ls : Array Slot), S2 g s σ R L H locs → lv_has ls 3 [(0, .ref (gb g + x0)), (1, .int x1), (2, .int x2)] → W p l e (rmd 1 0 0) s m args below meth c H locs 0 0 (MQ below (Qg g 194 (PI R L r)) args s 0 0 (gA g)) (F0 m 4 ls [])) : ∀ (σ : SI) (x0 : Nat) (x1 : Int32) (x2 : Int32), f_X9_openTotal_25 N R k4 σ x0 x1 x2 = some r → Ok 194 x0 9 → ∀ (H : Heap) (locs : List Loc) (ls : Array Slot), S2 g s σ R L H locs → lv_has ls 3 [(0, .ref (gb g + x0)), (1, .int x1), (2, .int x2)] → W p l e (rmd 1 0 0) s m args below meth c H locs 0 0 (MQ below (Qg g 194 (PI R L r)) args s 0 0 (gA g)) (F0 m 25 ls []) := by
  have hx := C.1
  have hb := C.2.1
  intro σ x0 x1 x2 h hx0 H locs ls S hl
  rw [f_X9_openTotal_25] at h
  refine lv_iinc (v := x2 + 1) (lv' := [(2, .int (x2 + 1)), (0, .ref (gb g + x0)), (1, .int x1)]) hx hb dX9_openTotal_25 hl (k := 2) rfl rfl (by decide) rfl (fun ls hl => ?_)
  refine lv_goto (tgt := 4) hx hb dX9_openTotal_28 (by decide) ?_
  exact hk4 σ x0 x1 (x2 + 1) h hx0 H locs ls S (lv_sub hl [1, 2, 0] rfl)
set_option maxHeartbeats 4000000 in
set_option maxRecDepth 100000 in
theorem w_X9_openTotal_4 {l : Launch} {g : GL} {p : Program} {e : Jvm.Env} {s : State} {m : MethodId} {args : Array Value} {below : List Frame} {meth : Method} {c : Code} {R : Nat → Nat → Nat} {L : Nat → Nat → Int64} {r : (Int32 × SI)} {N : Nat} (C : Cx l g p s m meth c cX9_openTotal 3 RX9) (hr : meth.sig.returnType = (some .int)) (hSh : ShR R) : ∀ (n : Nat) (σ : SI) (x0 : Nat) (x1 : Int32) (x2 : Int32), f_X9_openTotal_4 N R n σ x0 x1 x2 = some r → Ok 194 x0 9 → ∀ (H : Heap) (locs : List Loc) (ls : Array Slot), S2 g s σ R L H locs → lv_has ls 3 [(0, .ref (gb g + x0)), (1, .int x1), (2, .int x2)] → W p l e (rmd 1 0 0) s m args below meth c H locs 0 0 (MQ below (Qg g 194 (PI R L r)) args s 0 0 (gA g)) (F0 m 4 ls []) := by
  have hx := C.1
  have hb := C.2.1
  intro n
  induction n with
  | zero =>
    intro σ x0 x1 x2 h
    cases (show (none : Option (Int32 × SI)) = some r from h)
  | succ n ih =>
    intro σ x0 x1 x2 h hx0 H locs ls S hl
    rw [f_X9_openTotal_4] at h
    refine lv_iload_n hx hb dX9_openTotal_4 rfl (lv_at hl 2 rfl) ?_
    refine lv_aload_n hx hb dX9_openTotal_5 rfl (lv_at hl 0 rfl) ?_
    refine x_getI C S KX9 hx0 11 (by decide) rfl rfl fl_RX9_61 dX9_openTotal_6 ?_
    refine lv_icmp_ge (tgt := 31) hx hb dX9_openTotal_9 (by decide) (fun c1 => ?_) (fun c1 => ?_)
    · have h := it_p c1 h
      refine lv_iload_n hx hb dX9_openTotal_31 rfl (lv_at hl 1 rfl) ?_
      exact x_iret C S hr h dX9_openTotal_32
    · have h := it_n c1 h
      refine lv_aload_n hx hb dX9_openTotal_12 rfl (lv_at hl 0 rfl) ?_
      have hR2 : Ok 194 (R x0 6) 10006 := hSh x0 9 6 10006 hx0.1 rfl
      refine x_getR C S KX9 hx0 6 (by decide) rfl rfl fl_RX9_39 hR2 dX9_openTotal_13 ?_
      refine lv_iload_n hx hb dX9_openTotal_16 rfl (lv_at hl 2 rfl) ?_
      obtain ⟨hi3, h⟩ := ck_el h
      refine x_iald (len := 6) C S (by decide) hR2 hi3 dX9_openTotal_17 ?_
      refine lv_iconst (v := (-1 : Int32)) hx hb dX9_openTotal_18 (by decide) ?_
      refine lv_icmp_ne (tgt := 25) hx hb dX9_openTotal_19 (by decide) (fun c4 => ?_) (fun c4 => ?_)
      · have h := it_n c4 h
        exact w_X9_openTotal_25 C hr hSh ih σ x0 x1 x2 h hx0 H locs ls S (lv_sub hl [0, 1, 2] rfl)
      · have h := it_p c4 h
        refine lv_iinc (v := x1 + 1) (lv' := [(1, .int (x1 + 1)), (0, .ref (gb g + x0)), (2, .int x2)]) hx hb dX9_openTotal_22 hl (k := 1) rfl rfl (by decide) rfl (fun ls hl => ?_)
        exact w_X9_openTotal_25 C hr hSh ih σ x0 (x1 + 1) x2 h hx0 H locs ls S (lv_sub hl [1, 0, 2] rfl)
set_option maxHeartbeats 4000000 in
set_option maxRecDepth 100000 in
theorem ok_X9_openTotal {l : Launch} {g : GL} {R : Nat → Nat → Nat} {L : Nat → Nat → Int64} {N : Nat} {σ : SI} {x0 : Nat} {r : (Int32 × SI)} (h : f_X9_openTotal N R σ x0 = some r) (hSh : ShR R) (hx0 : Ok 194 x0 9) : Ct l g 1 yX9_openTotal cX9_openTotal 3 (some .int) 194 194 0 0 [.ref (gb g + x0)] (mkS σ R L) (PI R L r) := by
  refine Met.ofW (cc := cX9_openTotal) (maxL := 3) (ret := (some .int)) (by decide) rfl ?_
  intro p e s m args below meth c s₁ B hml hv
  obtain ⟨rfl, hE, hLo, hWd⟩ := hv
  have hr : meth.sig.returnType = (some .int) := B.returns
  have C : Cx l g p s m meth c cX9_openTotal 3 RX9 := ⟨B.exec, B.bytes, hml, findClass_of_methodNamed B.named, hE, hLo, B.notSynchronized⟩
  have S : S2 g s σ R L s.heap [] := ⟨hWd, va_S.rf⟩
  have hx := C.1
  have hb := C.2.1
  have hl := lv_entry ([.ref (gb g + x0)]) (n := 3) (Nat.le_of_ble_eq_true rfl)
  rw [lg_entry_eq]
  generalize (lg_sl ([.ref (gb g + x0)]) ++ List.replicate (3 - (lg_sl ([.ref (gb g + x0)])).length) Slot.unset).toArray = ls at hl ⊢
  have hl : lv_has ls 3 [(0, .ref (gb g + x0))] := hl
  generalize hH : s.heap = H at S ⊢
  generalize hlc : ([] : List Loc) = locs at S ⊢
  rw [f_X9_openTotal] at h
  refine lv_iconst (v := (0 : Int32)) hx hb dX9_openTotal_0 (by decide) ?_
  refine lv_istore_n (lv' := [(1, .int (0 : Int32)), (0, .ref (gb g + x0))]) hx hb dX9_openTotal_1 rfl hl (by decide) rfl (fun ls hl => ?_)
  refine lv_iconst (v := (0 : Int32)) hx hb dX9_openTotal_2 (by decide) ?_
  refine lv_istore_n (lv' := [(2, .int (0 : Int32)), (1, .int (0 : Int32)), (0, .ref (gb g + x0))]) hx hb dX9_openTotal_3 rfl hl (by decide) rfl (fun ls hl => ?_)
  exact w_X9_openTotal_4 C hr hSh N σ x0 (0 : Int32) (0 : Int32) h hx0 H locs ls S (lv_sub hl [2, 1, 0] rfl)
theorem dX9_quietFor_0 : decode cX9_quietFor 0 = .ok (.iconst 0, 1) := by decide +kernel
theorem dX9_quietFor_1 : decode cX9_quietFor 1 = .ok (.istore_n 3, 1) := by decide +kernel
theorem dX9_quietFor_2 : decode cX9_quietFor 2 = .ok (.iload_n 3, 1) := by decide +kernel
theorem dX9_quietFor_3 : decode cX9_quietFor 3 = .ok (.aload_n 0, 1) := by decide +kernel
theorem dX9_quietFor_4 : decode cX9_quietFor 4 = .ok (.getfield 54, 3) := by decide +kernel
theorem dX9_quietFor_7 : decode cX9_quietFor 7 = .ok (.if_icmp .ge 35, 3) := by decide +kernel
theorem dX9_quietFor_10 : decode cX9_quietFor 10 = .ok (.aload_n 1, 1) := by decide +kernel
theorem dX9_quietFor_11 : decode cX9_quietFor 11 = .ok (.getfield 102, 3) := by decide +kernel
theorem dX9_quietFor_14 : decode cX9_quietFor 14 = .ok (.iload_n 3, 1) := by decide +kernel
theorem dX9_quietFor_15 : decode cX9_quietFor 15 = .ok (.ishr, 1) := by decide +kernel
theorem dX9_quietFor_16 : decode cX9_quietFor 16 = .ok (.iconst 1, 1) := by decide +kernel
theorem dX9_quietFor_17 : decode cX9_quietFor 17 = .ok (.iand, 1) := by decide +kernel
theorem dX9_quietFor_18 : decode cX9_quietFor 18 = .ok (.ifCond .eq 18, 3) := by decide +kernel
theorem dX9_quietFor_21 : decode cX9_quietFor 21 = .ok (.aload_n 0, 1) := by decide +kernel
theorem dX9_quietFor_22 : decode cX9_quietFor 22 = .ok (.getfield 11, 3) := by decide +kernel
theorem dX9_quietFor_25 : decode cX9_quietFor 25 = .ok (.iload_n 3, 1) := by decide +kernel
theorem dX9_quietFor_26 : decode cX9_quietFor 26 = .ok (.aaload, 1) := by decide +kernel
theorem dX9_quietFor_27 : decode cX9_quietFor 27 = .ok (.iload_n 2, 1) := by decide +kernel
theorem dX9_quietFor_28 : decode cX9_quietFor 28 = .ok (.invokevirtual 165, 3) := by decide +kernel
theorem dX9_quietFor_31 : decode cX9_quietFor 31 = .ok (.ifCond .eq 5, 3) := by decide +kernel
theorem dX9_quietFor_34 : decode cX9_quietFor 34 = .ok (.iconst 1, 1) := by decide +kernel
theorem dX9_quietFor_35 : decode cX9_quietFor 35 = .ok (.ireturn, 1) := by decide +kernel
theorem dX9_quietFor_36 : decode cX9_quietFor 36 = .ok (.iinc 3 1, 3) := by decide +kernel
theorem dX9_quietFor_39 : decode cX9_quietFor 39 = .ok (.goto (-37), 3) := by decide +kernel
theorem dX9_quietFor_42 : decode cX9_quietFor 42 = .ok (.iconst 0, 1) := by decide +kernel
theorem dX9_quietFor_43 : decode cX9_quietFor 43 = .ok (.ireturn, 1) := by decide +kernel
def f_X9_quietFor_36 (N : Nat) (R : Nat → Nat → Nat) (k2 : SI → Nat → Nat → Int32 → Int32 → Option (Int32 × SI)) (σ : SI) (x0 : Nat) (x1 : Nat) (x2 : Int32) (x3 : Int32) : Option (Int32 × SI) := k2 σ x0 x1 x2 (x3 + 1)
def f_X9_quietFor_2 (N : Nat) (R : Nat → Nat → Nat) : Nat → SI → Nat → Nat → Int32 → Int32 → Option (Int32 × SI)
  | 0, _, _, _, _, _ => none
  | n + 1, σ, x0, x1, x2, x3 => if (σ x0 9) ≤ x3 then (some ((0 : Int32), σ)) else (if (((σ x1 12) >>> (x3 &&& 31)) &&& (1 : Int32)) = 0 then (f_X9_quietFor_36 N R (fun σ x0 x1 x2 x3 => f_X9_quietFor_2 N R n σ x0 x1 x2 x3) σ x0 x1 x2 x3) else (ck x3 8 (bd (f_X4_quietAt N R σ (R (R x0 0) x3.toNatClampNeg) x2) (fun a6 σ6 => if a6 = 0 then (f_X9_quietFor_36 N R (fun σ x0 x1 x2 x3 => f_X9_quietFor_2 N R n σ x0 x1 x2 x3) σ6 x0 x1 x2 x3) else (some ((1 : Int32), σ6))))))
def f_X9_quietFor (N : Nat) (R : Nat → Nat → Nat) (σ : SI) (x0 : Nat) (x1 : Nat) (x2 : Int32) : Option (Int32 × SI) := f_X9_quietFor_2 N R N σ x0 x1 x2 (0 : Int32)
set_option maxHeartbeats 4000000 in
set_option maxRecDepth 100000 in
theorem w_X9_quietFor_36 {l : Launch} {g : GL} {p : Program} {e : Jvm.Env} {s : State} {m : MethodId} {args : Array Value} {below : List Frame} {meth : Method} {c : Code} {R : Nat → Nat → Nat} {L : Nat → Nat → Int64} {r : (Int32 × SI)} {N : Nat} {k2 : SI → Nat → Nat → Int32 → Int32 → Option (Int32 × SI)} (C : Cx l g p s m meth c cX9_quietFor 4 RX9) (hr : meth.sig.returnType = (some .boolean)) (hSh : ShR R) (hk2 : ∀ (σ : SI) (x0 : Nat) (x1 : Nat) (x2 : Int32) (x3 : Int32), k2 σ x0 x1 x2 x3 = some r → Ok 194 x0 9 → Ok 194 x1 0 → ∀ (H : Heap) (locs : List Loc) (ls : Array Slot), S2 g s σ R L H locs → lv_has ls 4 [(0, .ref (gb g + x0)), (1, .ref (gb g + x1)), (2, .int x2), (3, .int x3)] → W p l e (rmd 2 0 0) s m args below meth c H locs 0 0 (MQ below (Qg g 194 (PI R L r)) args s 0 0 (gA g)) (F0 m 2 ls [])) : ∀ (σ : SI) (x0 : Nat) (x1 : Nat) (x2 : Int32) (x3 : Int32), f_X9_quietFor_36 N R k2 σ x0 x1 x2 x3 = some r → Ok 194 x0 9 → Ok 194 x1 0 → ∀ (H : Heap) (locs : List Loc) (ls : Array Slot), S2 g s σ R L H locs → lv_has ls 4 [(0, .ref (gb g + x0)), (1, .ref (gb g + x1)), (2, .int x2), (3, .int x3)] → W p l e (rmd 2 0 0) s m args below meth c H locs 0 0 (MQ below (Qg g 194 (PI R L r)) args s 0 0 (gA g)) (F0 m 36 ls []) := by
  have hx := C.1
  have hb := C.2.1
  intro σ x0 x1 x2 x3 h hx0 hx1 H locs ls S hl
  rw [f_X9_quietFor_36] at h
  refine lv_iinc (v := x3 + 1) (lv' := [(3, .int (x3 + 1)), (0, .ref (gb g + x0)), (1, .ref (gb g + x1)), (2, .int x2)]) hx hb dX9_quietFor_36 hl (k := 3) rfl rfl (by decide) rfl (fun ls hl => ?_)
  refine lv_goto (tgt := 2) hx hb dX9_quietFor_39 (by decide) ?_
  exact hk2 σ x0 x1 x2 (x3 + 1) h hx0 hx1 H locs ls S (lv_sub hl [1, 2, 3, 0] rfl)
set_option maxHeartbeats 4000000 in
set_option maxRecDepth 100000 in
theorem w_X9_quietFor_2 {l : Launch} {g : GL} {p : Program} {e : Jvm.Env} {s : State} {m : MethodId} {args : Array Value} {below : List Frame} {meth : Method} {c : Code} {R : Nat → Nat → Nat} {L : Nat → Nat → Int64} {r : (Int32 × SI)} {N : Nat} (C : Cx l g p s m meth c cX9_quietFor 4 RX9) (hr : meth.sig.returnType = (some .boolean)) (hSh : ShR R) : ∀ (n : Nat) (σ : SI) (x0 : Nat) (x1 : Nat) (x2 : Int32) (x3 : Int32), f_X9_quietFor_2 N R n σ x0 x1 x2 x3 = some r → Ok 194 x0 9 → Ok 194 x1 0 → ∀ (H : Heap) (locs : List Loc) (ls : Array Slot), S2 g s σ R L H locs → lv_has ls 4 [(0, .ref (gb g + x0)), (1, .ref (gb g + x1)), (2, .int x2), (3, .int x3)] → W p l e (rmd 2 0 0) s m args below meth c H locs 0 0 (MQ below (Qg g 194 (PI R L r)) args s 0 0 (gA g)) (F0 m 2 ls []) := by
  have hx := C.1
  have hb := C.2.1
  intro n
  induction n with
  | zero =>
    intro σ x0 x1 x2 x3 h
    cases (show (none : Option (Int32 × SI)) = some r from h)
  | succ n ih =>
    intro σ x0 x1 x2 x3 h hx0 hx1 H locs ls S hl
    rw [f_X9_quietFor_2] at h
    refine lv_iload_n hx hb dX9_quietFor_2 rfl (lv_at hl 3 rfl) ?_
    refine lv_aload_n hx hb dX9_quietFor_3 rfl (lv_at hl 0 rfl) ?_
    refine x_getI C S KX9 hx0 9 (by decide) rfl rfl fl_RX9_54 dX9_quietFor_4 ?_
    refine lv_icmp_ge (tgt := 42) hx hb dX9_quietFor_7 (by decide) (fun c1 => ?_) (fun c1 => ?_)
    · have h := it_p c1 h
      refine lv_iconst (v := (0 : Int32)) hx hb dX9_quietFor_42 (by decide) ?_
      exact x_zret C S hr (by decide) h dX9_quietFor_43
    · have h := it_n c1 h
      refine lv_aload_n hx hb dX9_quietFor_10 rfl (lv_at hl 1 rfl) ?_
      refine x_getI C S KX0 hx1 12 (by decide) rfl rfl fl_RX9_102 dX9_quietFor_11 ?_
      refine lv_iload_n hx hb dX9_quietFor_14 rfl (lv_at hl 3 rfl) ?_
      refine lv_ishr hx hb dX9_quietFor_15 ?_
      refine lv_iconst (v := (1 : Int32)) hx hb dX9_quietFor_16 (by decide) ?_
      refine lv_iand hx hb dX9_quietFor_17 ?_
      refine lv_if_eq (tgt := 36) hx hb dX9_quietFor_18 (by decide) (fun c2 => ?_) (fun c2 => ?_)
      · have h := it_p c2 h
        exact w_X9_quietFor_36 C hr hSh ih σ x0 x1 x2 x3 h hx0 hx1 H locs ls S (lv_sub hl [0, 1, 2, 3] rfl)
      · have h := it_n c2 h
        refine lv_aload_n hx hb dX9_quietFor_21 rfl (lv_at hl 0 rfl) ?_
        have hR3 : Ok 194 (R x0 0) 60008 := hSh x0 9 0 60008 hx0.1 rfl
        refine x_getR C S KX9 hx0 0 (by decide) rfl rfl fl_RX9_11 hR3 dX9_quietFor_22 ?_
        refine lv_iload_n hx hb dX9_quietFor_25 rfl (lv_at hl 3 rfl) ?_
        obtain ⟨hi4, h⟩ := ck_el h
        have hR5 : Ok 194 (R (R x0 0) x3.toNatClampNeg) 4 := hSh (R x0 0) 60008 x3.toNatClampNeg 4 hR3.1 (if_pos (vp_lt hi4))
        refine x_aald (len := 8) C S (by decide) 5 (by decide) rfl hR3 hi4 hR5 dX9_quietFor_26 ?_
        refine lv_iload_n hx hb dX9_quietFor_27 rfl (lv_at hl 2 rfl) ?_
        obtain ⟨a6, σ6, hc6, h⟩ := bd_el h
        refine x_callVI C S KX4 hR5 (ok_X4_quietAt (L := L) hc6 hSh hR5) ⟨cd_X4_quietAt, ni_RX4, ml_RX9_165, in_X4_quietAt, sl_X4_quietAt⟩ ⟨by decide, by decide⟩ rfl ⟨by decide, by decide⟩ hl.1 rfl (Nat.le_of_ble_eq_true rfl) ⟨by decide, by decide⟩ dX9_quietFor_28 (fun H locs S => ?_)
        refine lv_if_eq (tgt := 36) hx hb dX9_quietFor_31 (by decide) (fun c7 => ?_) (fun c7 => ?_)
        · have h := it_p c7 h
          exact w_X9_quietFor_36 C hr hSh ih σ6 x0 x1 x2 x3 h hx0 hx1 H locs ls S (lv_sub hl [0, 1, 2, 3] rfl)
        · have h := it_n c7 h
          refine lv_iconst (v := (1 : Int32)) hx hb dX9_quietFor_34 (by decide) ?_
          exact x_zret C S hr (by decide) h dX9_quietFor_35
set_option maxHeartbeats 4000000 in
set_option maxRecDepth 100000 in
theorem ok_X9_quietFor {l : Launch} {g : GL} {R : Nat → Nat → Nat} {L : Nat → Nat → Int64} {N : Nat} {σ : SI} {x0 : Nat} {x1 : Nat} {x2 : Int32} {r : (Int32 × SI)} (h : f_X9_quietFor N R σ x0 x1 x2 = some r) (hSh : ShR R) (hx0 : Ok 194 x0 9) (hx1 : Ok 194 x1 0) : Ct l g 2 yX9_quietFor cX9_quietFor 4 (some .boolean) 194 194 0 0 [.ref (gb g + x0), .ref (gb g + x1), .int x2] (mkS σ R L) (PI R L r) := by
  refine Met.ofW (cc := cX9_quietFor) (maxL := 4) (ret := (some .boolean)) (by decide) rfl ?_
  intro p e s m args below meth c s₁ B hml hv
  obtain ⟨rfl, hE, hLo, hWd⟩ := hv
  have hr : meth.sig.returnType = (some .boolean) := B.returns
  have C : Cx l g p s m meth c cX9_quietFor 4 RX9 := ⟨B.exec, B.bytes, hml, findClass_of_methodNamed B.named, hE, hLo, B.notSynchronized⟩
  have S : S2 g s σ R L s.heap [] := ⟨hWd, va_S.rf⟩
  have hx := C.1
  have hb := C.2.1
  have hl := lv_entry ([.ref (gb g + x0), .ref (gb g + x1), .int x2]) (n := 4) (Nat.le_of_ble_eq_true rfl)
  rw [lg_entry_eq]
  generalize (lg_sl ([.ref (gb g + x0), .ref (gb g + x1), .int x2]) ++ List.replicate (4 - (lg_sl ([.ref (gb g + x0), .ref (gb g + x1), .int x2])).length) Slot.unset).toArray = ls at hl ⊢
  have hl : lv_has ls 4 [(0, .ref (gb g + x0)), (1, .ref (gb g + x1)), (2, .int x2)] := hl
  generalize hH : s.heap = H at S ⊢
  generalize hlc : ([] : List Loc) = locs at S ⊢
  rw [f_X9_quietFor] at h
  refine lv_iconst (v := (0 : Int32)) hx hb dX9_quietFor_0 (by decide) ?_
  refine lv_istore_n (lv' := [(3, .int (0 : Int32)), (0, .ref (gb g + x0)), (1, .ref (gb g + x1)), (2, .int x2)]) hx hb dX9_quietFor_1 rfl hl (by decide) rfl (fun ls hl => ?_)
  exact w_X9_quietFor_2 C hr hSh N σ x0 x1 x2 (0 : Int32) h hx0 hx1 H locs ls S (lv_sub hl [1, 2, 3, 0] rfl)
theorem dX9_crowded_0 : decode cX9_crowded 0 = .ok (.iconst 0, 1) := by decide +kernel
theorem dX9_crowded_1 : decode cX9_crowded 1 = .ok (.istore 4, 2) := by decide +kernel
theorem dX9_crowded_3 : decode cX9_crowded 3 = .ok (.iload 4, 2) := by decide +kernel
theorem dX9_crowded_5 : decode cX9_crowded 5 = .ok (.aload_n 0, 1) := by decide +kernel
theorem dX9_crowded_6 : decode cX9_crowded 6 = .ok (.getfield 61, 3) := by decide +kernel
theorem dX9_crowded_9 : decode cX9_crowded 9 = .ok (.if_icmp .ge 41, 3) := by decide +kernel
theorem dX9_crowded_12 : decode cX9_crowded 12 = .ok (.iload 4, 2) := by decide +kernel
theorem dX9_crowded_14 : decode cX9_crowded 14 = .ok (.iload_n 1, 1) := by decide +kernel
theorem dX9_crowded_15 : decode cX9_crowded 15 = .ok (.if_icmp .eq 29, 3) := by decide +kernel
theorem dX9_crowded_18 : decode cX9_crowded 18 = .ok (.aload_n 3, 1) := by decide +kernel
theorem dX9_crowded_19 : decode cX9_crowded 19 = .ok (.iload 4, 2) := by decide +kernel
theorem dX9_crowded_21 : decode cX9_crowded 21 = .ok (.iaload, 1) := by decide +kernel
theorem dX9_crowded_22 : decode cX9_crowded 22 = .ok (.iconst (-1), 1) := by decide +kernel
theorem dX9_crowded_23 : decode cX9_crowded 23 = .ok (.if_icmp .eq 21, 3) := by decide +kernel
theorem dX9_crowded_26 : decode cX9_crowded 26 = .ok (.aload_n 3, 1) := by decide +kernel
theorem dX9_crowded_27 : decode cX9_crowded 27 = .ok (.iload 4, 2) := by decide +kernel
theorem dX9_crowded_29 : decode cX9_crowded 29 = .ok (.iaload, 1) := by decide +kernel
theorem dX9_crowded_30 : decode cX9_crowded 30 = .ok (.iload_n 2, 1) := by decide +kernel
theorem dX9_crowded_31 : decode cX9_crowded 31 = .ok (.isub, 1) := by decide +kernel
theorem dX9_crowded_32 : decode cX9_crowded 32 = .ok (.invokestatic 133, 3) := by decide +kernel
theorem dX9_crowded_35 : decode cX9_crowded 35 = .ok (.aload_n 0, 1) := by decide +kernel
theorem dX9_crowded_36 : decode cX9_crowded 36 = .ok (.getfield 79, 3) := by decide +kernel
theorem dX9_crowded_39 : decode cX9_crowded 39 = .ok (.if_icmp .ge 5, 3) := by decide +kernel
theorem dX9_crowded_42 : decode cX9_crowded 42 = .ok (.iconst 1, 1) := by decide +kernel
theorem dX9_crowded_43 : decode cX9_crowded 43 = .ok (.ireturn, 1) := by decide +kernel
theorem dX9_crowded_44 : decode cX9_crowded 44 = .ok (.iinc 4 1, 3) := by decide +kernel
theorem dX9_crowded_47 : decode cX9_crowded 47 = .ok (.goto (-44), 3) := by decide +kernel
theorem dX9_crowded_50 : decode cX9_crowded 50 = .ok (.iconst 0, 1) := by decide +kernel
theorem dX9_crowded_51 : decode cX9_crowded 51 = .ok (.ireturn, 1) := by decide +kernel
def f_X9_crowded_44 (N : Nat) (R : Nat → Nat → Nat) (k3 : SI → Nat → Int32 → Int32 → Nat → Int32 → Option (Int32 × SI)) (σ : SI) (x0 : Nat) (x1 : Int32) (x2 : Int32) (x3 : Nat) (x4 : Int32) : Option (Int32 × SI) := k3 σ x0 x1 x2 x3 (x4 + 1)
def f_X9_crowded_3 (N : Nat) (R : Nat → Nat → Nat) : Nat → SI → Nat → Int32 → Int32 → Nat → Int32 → Option (Int32 × SI)
  | 0, _, _, _, _, _, _ => none
  | n + 1, σ, x0, x1, x2, x3, x4 => if (σ x0 11) ≤ x4 then (some ((0 : Int32), σ)) else (if x4 = x1 then (f_X9_crowded_44 N R (fun σ x0 x1 x2 x3 x4 => f_X9_crowded_3 N R n σ x0 x1 x2 x3 x4) σ x0 x1 x2 x3 x4) else (ck x4 6 (if (σ x3 x4.toNatClampNeg) = (-1 : Int32) then (f_X9_crowded_44 N R (fun σ x0 x1 x2 x3 x4 => f_X9_crowded_3 N R n σ x0 x1 x2 x3 x4) σ x0 x1 x2 x3 x4) else (ck x4 6 (if (σ x0 17) ≤ (if 0 ≤ ((σ x3 x4.toNatClampNeg) - x2) then ((σ x3 x4.toNatClampNeg) - x2) else 0 - ((σ x3 x4.toNatClampNeg) - x2)) then (f_X9_crowded_44 N R (fun σ x0 x1 x2 x3 x4 => f_X9_crowded_3 N R n σ x0 x1 x2 x3 x4) σ x0 x1 x2 x3 x4) else (some ((1 : Int32), σ)))))))
def f_X9_crowded (N : Nat) (R : Nat → Nat → Nat) (σ : SI) (x0 : Nat) (x1 : Int32) (x2 : Int32) (x3 : Nat) : Option (Int32 × SI) := f_X9_crowded_3 N R N σ x0 x1 x2 x3 (0 : Int32)
set_option maxHeartbeats 4000000 in
set_option maxRecDepth 100000 in
theorem w_X9_crowded_44 {l : Launch} {g : GL} {p : Program} {e : Jvm.Env} {s : State} {m : MethodId} {args : Array Value} {below : List Frame} {meth : Method} {c : Code} {R : Nat → Nat → Nat} {L : Nat → Nat → Int64} {r : (Int32 × SI)} {N : Nat} {k3 : SI → Nat → Int32 → Int32 → Nat → Int32 → Option (Int32 × SI)} (C : Cx l g p s m meth c cX9_crowded 5 RX9) (hr : meth.sig.returnType = (some .boolean)) (hSh : ShR R) (hk3 : ∀ (σ : SI) (x0 : Nat) (x1 : Int32) (x2 : Int32) (x3 : Nat) (x4 : Int32), k3 σ x0 x1 x2 x3 x4 = some r → Ok 194 x0 9 → Ok 194 x3 10006 → ∀ (H : Heap) (locs : List Loc) (ls : Array Slot), S2 g s σ R L H locs → lv_has ls 5 [(0, .ref (gb g + x0)), (1, .int x1), (2, .int x2), (3, .ref (gb g + x3)), (4, .int x4)] → W p l e (rmd 1 0 0) s m args below meth c H locs 0 0 (MQ below (Qg g 194 (PI R L r)) args s 0 0 (gA g)) (F0 m 3 ls [])) : ∀ (σ : SI) (x0 : Nat) (x1 : Int32) (x2 : Int32) (x3 : Nat) (x4 : Int32), f_X9_crowded_44 N R k3 σ x0 x1 x2 x3 x4 = some r → Ok 194 x0 9 → Ok 194 x3 10006 → ∀ (H : Heap) (locs : List Loc) (ls : Array Slot), S2 g s σ R L H locs → lv_has ls 5 [(0, .ref (gb g + x0)), (1, .int x1), (2, .int x2), (3, .ref (gb g + x3)), (4, .int x4)] → W p l e (rmd 1 0 0) s m args below meth c H locs 0 0 (MQ below (Qg g 194 (PI R L r)) args s 0 0 (gA g)) (F0 m 44 ls []) := by
  have hx := C.1
  have hb := C.2.1
  intro σ x0 x1 x2 x3 x4 h hx0 hx3 H locs ls S hl
  rw [f_X9_crowded_44] at h
  refine lv_iinc (v := x4 + 1) (lv' := [(4, .int (x4 + 1)), (0, .ref (gb g + x0)), (1, .int x1), (2, .int x2), (3, .ref (gb g + x3))]) hx hb dX9_crowded_44 hl (k := 4) rfl rfl (by decide) rfl (fun ls hl => ?_)
  refine lv_goto (tgt := 3) hx hb dX9_crowded_47 (by decide) ?_
  exact hk3 σ x0 x1 x2 x3 (x4 + 1) h hx0 hx3 H locs ls S (lv_sub hl [1, 2, 3, 4, 0] rfl)
set_option maxHeartbeats 4000000 in
set_option maxRecDepth 100000 in
theorem w_X9_crowded_3 {l : Launch} {g : GL} {p : Program} {e : Jvm.Env} {s : State} {m : MethodId} {args : Array Value} {below : List Frame} {meth : Method} {c : Code} {R : Nat → Nat → Nat} {L : Nat → Nat → Int64} {r : (Int32 × SI)} {N : Nat} (C : Cx l g p s m meth c cX9_crowded 5 RX9) (hr : meth.sig.returnType = (some .boolean)) (hSh : ShR R) : ∀ (n : Nat) (σ : SI) (x0 : Nat) (x1 : Int32) (x2 : Int32) (x3 : Nat) (x4 : Int32), f_X9_crowded_3 N R n σ x0 x1 x2 x3 x4 = some r → Ok 194 x0 9 → Ok 194 x3 10006 → ∀ (H : Heap) (locs : List Loc) (ls : Array Slot), S2 g s σ R L H locs → lv_has ls 5 [(0, .ref (gb g + x0)), (1, .int x1), (2, .int x2), (3, .ref (gb g + x3)), (4, .int x4)] → W p l e (rmd 1 0 0) s m args below meth c H locs 0 0 (MQ below (Qg g 194 (PI R L r)) args s 0 0 (gA g)) (F0 m 3 ls []) := by
  have hx := C.1
  have hb := C.2.1
  intro n
  induction n with
  | zero =>
    intro σ x0 x1 x2 x3 x4 h
    cases (show (none : Option (Int32 × SI)) = some r from h)
  | succ n ih =>
    intro σ x0 x1 x2 x3 x4 h hx0 hx3 H locs ls S hl
    rw [f_X9_crowded_3] at h
    refine lv_iload hx hb dX9_crowded_3 (lv_at hl 4 rfl) ?_
    refine lv_aload_n hx hb dX9_crowded_5 rfl (lv_at hl 0 rfl) ?_
    refine x_getI C S KX9 hx0 11 (by decide) rfl rfl fl_RX9_61 dX9_crowded_6 ?_
    refine lv_icmp_ge (tgt := 50) hx hb dX9_crowded_9 (by decide) (fun c1 => ?_) (fun c1 => ?_)
    · have h := it_p c1 h
      refine lv_iconst (v := (0 : Int32)) hx hb dX9_crowded_50 (by decide) ?_
      exact x_zret C S hr (by decide) h dX9_crowded_51
    · have h := it_n c1 h
      refine lv_iload hx hb dX9_crowded_12 (lv_at hl 4 rfl) ?_
      refine lv_iload_n hx hb dX9_crowded_14 rfl (lv_at hl 1 rfl) ?_
      refine lv_icmp_eq (tgt := 44) hx hb dX9_crowded_15 (by decide) (fun c2 => ?_) (fun c2 => ?_)
      · have h := it_p c2 h
        exact w_X9_crowded_44 C hr hSh ih σ x0 x1 x2 x3 x4 h hx0 hx3 H locs ls S (lv_sub hl [0, 1, 2, 3, 4] rfl)
      · have h := it_n c2 h
        refine lv_aload_n hx hb dX9_crowded_18 rfl (lv_at hl 3 rfl) ?_
        refine lv_iload hx hb dX9_crowded_19 (lv_at hl 4 rfl) ?_
        obtain ⟨hi3, h⟩ := ck_el h
        refine x_iald (len := 6) C S (by decide) hx3 hi3 dX9_crowded_21 ?_
        refine lv_iconst (v := (-1 : Int32)) hx hb dX9_crowded_22 (by decide) ?_
        refine lv_icmp_eq (tgt := 44) hx hb dX9_crowded_23 (by decide) (fun c4 => ?_) (fun c4 => ?_)
        · have h := it_p c4 h
          exact w_X9_crowded_44 C hr hSh ih σ x0 x1 x2 x3 x4 h hx0 hx3 H locs ls S (lv_sub hl [0, 1, 2, 3, 4] rfl)
        · have h := it_n c4 h
          refine lv_aload_n hx hb dX9_crowded_26 rfl (lv_at hl 3 rfl) ?_
          refine lv_iload hx hb dX9_crowded_27 (lv_at hl 4 rfl) ?_
          obtain ⟨hi5, h⟩ := ck_el h
          refine x_iald (len := 6) C S (by decide) hx3 hi5 dX9_crowded_29 ?_
          refine lv_iload_n hx hb dX9_crowded_30 rfl (lv_at hl 2 rfl) ?_
          refine lv_isub hx hb dX9_crowded_31 ?_
          refine x_abs C hl.1 ⟨ml_RX9_133, st_math_abs, ni_math, cd_math_abs⟩ (Nat.le_of_ble_eq_true rfl) (Nat.le_of_ble_eq_true rfl) (Nat.le_of_ble_eq_true rfl) (Nat.le_of_ble_eq_true rfl) dX9_crowded_32 ?_
          refine lv_aload_n hx hb dX9_crowded_35 rfl (lv_at hl 0 rfl) ?_
          refine x_getI C S KX9 hx0 17 (by decide) rfl rfl fl_RX9_79 dX9_crowded_36 ?_
          refine lv_icmp_ge (tgt := 44) hx hb dX9_crowded_39 (by decide) (fun c6 => ?_) (fun c6 => ?_)
          · have h := it_p c6 h
            exact w_X9_crowded_44 C hr hSh ih σ x0 x1 x2 x3 x4 h hx0 hx3 H locs ls S (lv_sub hl [0, 1, 2, 3, 4] rfl)
          · have h := it_n c6 h
            refine lv_iconst (v := (1 : Int32)) hx hb dX9_crowded_42 (by decide) ?_
            exact x_zret C S hr (by decide) h dX9_crowded_43
set_option maxHeartbeats 4000000 in
set_option maxRecDepth 100000 in
theorem ok_X9_crowded {l : Launch} {g : GL} {R : Nat → Nat → Nat} {L : Nat → Nat → Int64} {N : Nat} {σ : SI} {x0 : Nat} {x1 : Int32} {x2 : Int32} {x3 : Nat} {r : (Int32 × SI)} (h : f_X9_crowded N R σ x0 x1 x2 x3 = some r) (hSh : ShR R) (hx0 : Ok 194 x0 9) (hx3 : Ok 194 x3 10006) : Ct l g 1 yX9_crowded cX9_crowded 5 (some .boolean) 194 194 0 0 [.ref (gb g + x0), .int x1, .int x2, .ref (gb g + x3)] (mkS σ R L) (PI R L r) := by
  refine Met.ofW (cc := cX9_crowded) (maxL := 5) (ret := (some .boolean)) (by decide) rfl ?_
  intro p e s m args below meth c s₁ B hml hv
  obtain ⟨rfl, hE, hLo, hWd⟩ := hv
  have hr : meth.sig.returnType = (some .boolean) := B.returns
  have C : Cx l g p s m meth c cX9_crowded 5 RX9 := ⟨B.exec, B.bytes, hml, findClass_of_methodNamed B.named, hE, hLo, B.notSynchronized⟩
  have S : S2 g s σ R L s.heap [] := ⟨hWd, va_S.rf⟩
  have hx := C.1
  have hb := C.2.1
  have hl := lv_entry ([.ref (gb g + x0), .int x1, .int x2, .ref (gb g + x3)]) (n := 5) (Nat.le_of_ble_eq_true rfl)
  rw [lg_entry_eq]
  generalize (lg_sl ([.ref (gb g + x0), .int x1, .int x2, .ref (gb g + x3)]) ++ List.replicate (5 - (lg_sl ([.ref (gb g + x0), .int x1, .int x2, .ref (gb g + x3)])).length) Slot.unset).toArray = ls at hl ⊢
  have hl : lv_has ls 5 [(0, .ref (gb g + x0)), (1, .int x1), (2, .int x2), (3, .ref (gb g + x3))] := hl
  generalize hH : s.heap = H at S ⊢
  generalize hlc : ([] : List Loc) = locs at S ⊢
  rw [f_X9_crowded] at h
  refine lv_iconst (v := (0 : Int32)) hx hb dX9_crowded_0 (by decide) ?_
  refine lv_istore (lv' := [(4, .int (0 : Int32)), (0, .ref (gb g + x0)), (1, .int x1), (2, .int x2), (3, .ref (gb g + x3))]) hx hb dX9_crowded_1 hl (by decide) rfl (fun ls hl => ?_)
  exact w_X9_crowded_3 C hr hSh N σ x0 x1 x2 x3 (0 : Int32) h hx0 hx3 H locs ls S (lv_sub hl [1, 2, 3, 4, 0] rfl)
theorem dX9_firstScheduled_0 : decode cX9_firstScheduled 0 = .ok (.iconst (-1), 1) := by decide +kernel
theorem dX9_firstScheduled_1 : decode cX9_firstScheduled 1 = .ok (.istore_n 2, 1) := by decide +kernel
theorem dX9_firstScheduled_2 : decode cX9_firstScheduled 2 = .ok (.iconst 0, 1) := by decide +kernel
theorem dX9_firstScheduled_3 : decode cX9_firstScheduled 3 = .ok (.istore_n 3, 1) := by decide +kernel
theorem dX9_firstScheduled_4 : decode cX9_firstScheduled 4 = .ok (.iload_n 3, 1) := by decide +kernel
theorem dX9_firstScheduled_5 : decode cX9_firstScheduled 5 = .ok (.aload_n 0, 1) := by decide +kernel
theorem dX9_firstScheduled_6 : decode cX9_firstScheduled 6 = .ok (.getfield 61, 3) := by decide +kernel
theorem dX9_firstScheduled_9 : decode cX9_firstScheduled 9 = .ok (.if_icmp .ge 75, 3) := by decide +kernel
theorem dX9_firstScheduled_12 : decode cX9_firstScheduled 12 = .ok (.aload_n 0, 1) := by decide +kernel
theorem dX9_firstScheduled_13 : decode cX9_firstScheduled 13 = .ok (.getfield 39, 3) := by decide +kernel
theorem dX9_firstScheduled_16 : decode cX9_firstScheduled 16 = .ok (.iload_n 3, 1) := by decide +kernel
theorem dX9_firstScheduled_17 : decode cX9_firstScheduled 17 = .ok (.iaload, 1) := by decide +kernel
theorem dX9_firstScheduled_18 : decode cX9_firstScheduled 18 = .ok (.iconst (-1), 1) := by decide +kernel
theorem dX9_firstScheduled_19 : decode cX9_firstScheduled 19 = .ok (.if_icmp .eq 29, 3) := by decide +kernel
theorem dX9_firstScheduled_22 : decode cX9_firstScheduled 22 = .ok (.aload_n 0, 1) := by decide +kernel
theorem dX9_firstScheduled_23 : decode cX9_firstScheduled 23 = .ok (.getfield 25, 3) := by decide +kernel
theorem dX9_firstScheduled_26 : decode cX9_firstScheduled 26 = .ok (.iload_n 3, 1) := by decide +kernel
theorem dX9_firstScheduled_27 : decode cX9_firstScheduled 27 = .ok (.aaload, 1) := by decide +kernel
theorem dX9_firstScheduled_28 : decode cX9_firstScheduled 28 = .ok (.getfield 169, 3) := by decide +kernel
theorem dX9_firstScheduled_31 : decode cX9_firstScheduled 31 = .ok (.ifCond .ne 17, 3) := by decide +kernel
theorem dX9_firstScheduled_34 : decode cX9_firstScheduled 34 = .ok (.aload_n 0, 1) := by decide +kernel
theorem dX9_firstScheduled_35 : decode cX9_firstScheduled 35 = .ok (.getfield 39, 3) := by decide +kernel
theorem dX9_firstScheduled_38 : decode cX9_firstScheduled 38 = .ok (.iload_n 3, 1) := by decide +kernel
theorem dX9_firstScheduled_39 : decode cX9_firstScheduled 39 = .ok (.iaload, 1) := by decide +kernel
theorem dX9_firstScheduled_40 : decode cX9_firstScheduled 40 = .ok (.iload_n 1, 1) := by decide +kernel
theorem dX9_firstScheduled_41 : decode cX9_firstScheduled 41 = .ok (.if_icmp .lt 7, 3) := by decide +kernel
theorem dX9_firstScheduled_44 : decode cX9_firstScheduled 44 = .ok (.iconst 1, 1) := by decide +kernel
theorem dX9_firstScheduled_45 : decode cX9_firstScheduled 45 = .ok (.goto 4, 3) := by decide +kernel
theorem dX9_firstScheduled_48 : decode cX9_firstScheduled 48 = .ok (.iconst 0, 1) := by decide +kernel
theorem dX9_firstScheduled_49 : decode cX9_firstScheduled 49 = .ok (.istore 4, 2) := by decide +kernel
theorem dX9_firstScheduled_51 : decode cX9_firstScheduled 51 = .ok (.iload 4, 2) := by decide +kernel
theorem dX9_firstScheduled_53 : decode cX9_firstScheduled 53 = .ok (.ifCond .eq 25, 3) := by decide +kernel
theorem dX9_firstScheduled_56 : decode cX9_firstScheduled 56 = .ok (.iload_n 2, 1) := by decide +kernel
theorem dX9_firstScheduled_57 : decode cX9_firstScheduled 57 = .ok (.iconst (-1), 1) := by decide +kernel
theorem dX9_firstScheduled_58 : decode cX9_firstScheduled 58 = .ok (.if_icmp .eq 18, 3) := by decide +kernel
theorem dX9_firstScheduled_61 : decode cX9_firstScheduled 61 = .ok (.aload_n 0, 1) := by decide +kernel
theorem dX9_firstScheduled_62 : decode cX9_firstScheduled 62 = .ok (.getfield 39, 3) := by decide +kernel
theorem dX9_firstScheduled_65 : decode cX9_firstScheduled 65 = .ok (.iload_n 3, 1) := by decide +kernel
theorem dX9_firstScheduled_66 : decode cX9_firstScheduled 66 = .ok (.iaload, 1) := by decide +kernel
theorem dX9_firstScheduled_67 : decode cX9_firstScheduled 67 = .ok (.aload_n 0, 1) := by decide +kernel
theorem dX9_firstScheduled_68 : decode cX9_firstScheduled 68 = .ok (.getfield 39, 3) := by decide +kernel
theorem dX9_firstScheduled_71 : decode cX9_firstScheduled 71 = .ok (.iload_n 2, 1) := by decide +kernel
theorem dX9_firstScheduled_72 : decode cX9_firstScheduled 72 = .ok (.iaload, 1) := by decide +kernel
theorem dX9_firstScheduled_73 : decode cX9_firstScheduled 73 = .ok (.if_icmp .ge 5, 3) := by decide +kernel
theorem dX9_firstScheduled_76 : decode cX9_firstScheduled 76 = .ok (.iload_n 3, 1) := by decide +kernel
theorem dX9_firstScheduled_77 : decode cX9_firstScheduled 77 = .ok (.istore_n 2, 1) := by decide +kernel
theorem dX9_firstScheduled_78 : decode cX9_firstScheduled 78 = .ok (.iinc 3 1, 3) := by decide +kernel
theorem dX9_firstScheduled_81 : decode cX9_firstScheduled 81 = .ok (.goto (-77), 3) := by decide +kernel
theorem dX9_firstScheduled_84 : decode cX9_firstScheduled 84 = .ok (.iload_n 2, 1) := by decide +kernel
theorem dX9_firstScheduled_85 : decode cX9_firstScheduled 85 = .ok (.ireturn, 1) := by decide +kernel
def f_X9_firstScheduled_78 (N : Nat) (R : Nat → Nat → Nat) (k4 : SI → Nat → Int32 → Int32 → Int32 → Option (Int32 × SI)) (σ : SI) (x0 : Nat) (x1 : Int32) (x2 : Int32) (x3 : Int32) : Option (Int32 × SI) := k4 σ x0 x1 x2 (x3 + 1)
def f_X9_firstScheduled_76 (N : Nat) (R : Nat → Nat → Nat) (k4 : SI → Nat → Int32 → Int32 → Int32 → Option (Int32 × SI)) (σ : SI) (x0 : Nat) (x1 : Int32) (x3 : Int32) : Option (Int32 × SI) := f_X9_firstScheduled_78 N R k4 σ x0 x1 x3 x3
def f_X9_firstScheduled_48 (N : Nat) (R : Nat → Nat → Nat) (k4 : SI → Nat → Int32 → Int32 → Int32 → Option (Int32 × SI)) (σ : SI) (x0 : Nat) (x1 : Int32) (x2 : Int32) (x3 : Int32) : Option (Int32 × SI) := if (0 : Int32) = 0 then (f_X9_firstScheduled_78 N R k4 σ x0 x1 x2 x3) else (if x2 = (-1 : Int32) then (f_X9_firstScheduled_76 N R k4 σ x0 x1 x3) else (ck x3 6 (ck x2 6 (if (σ (R x0 6) x2.toNatClampNeg) ≤ (σ (R x0 6) x3.toNatClampNeg) then (f_X9_firstScheduled_78 N R k4 σ x0 x1 x2 x3) else (f_X9_firstScheduled_76 N R k4 σ x0 x1 x3)))))
def f_X9_firstScheduled_4 (N : Nat) (R : Nat → Nat → Nat) : Nat → SI → Nat → Int32 → Int32 → Int32 → Option (Int32 × SI)
  | 0, _, _, _, _, _ => none
  | n + 1, σ, x0, x1, x2, x3 => if (σ x0 11) ≤ x3 then (some (x2, σ)) else (ck x3 6 (if (σ (R x0 6) x3.toNatClampNeg) = (-1 : Int32) then (f_X9_firstScheduled_48 N R (fun σ x0 x1 x2 x3 => f_X9_firstScheduled_4 N R n σ x0 x1 x2 x3) σ x0 x1 x2 x3) else (ck x3 6 (if (σ (R (R x0 2) x3.toNatClampNeg) 13) = 0 then (ck x3 6 (if (σ (R x0 6) x3.toNatClampNeg) < x1 then (f_X9_firstScheduled_48 N R (fun σ x0 x1 x2 x3 => f_X9_firstScheduled_4 N R n σ x0 x1 x2 x3) σ x0 x1 x2 x3) else (if (1 : Int32) = 0 then (f_X9_firstScheduled_78 N R (fun σ x0 x1 x2 x3 => f_X9_firstScheduled_4 N R n σ x0 x1 x2 x3) σ x0 x1 x2 x3) else (if x2 = (-1 : Int32) then (f_X9_firstScheduled_76 N R (fun σ x0 x1 x2 x3 => f_X9_firstScheduled_4 N R n σ x0 x1 x2 x3) σ x0 x1 x3) else (ck x3 6 (ck x2 6 (if (σ (R x0 6) x2.toNatClampNeg) ≤ (σ (R x0 6) x3.toNatClampNeg) then (f_X9_firstScheduled_78 N R (fun σ x0 x1 x2 x3 => f_X9_firstScheduled_4 N R n σ x0 x1 x2 x3) σ x0 x1 x2 x3) else (f_X9_firstScheduled_76 N R (fun σ x0 x1 x2 x3 => f_X9_firstScheduled_4 N R n σ x0 x1 x2 x3) σ x0 x1 x3)))))))) else (f_X9_firstScheduled_48 N R (fun σ x0 x1 x2 x3 => f_X9_firstScheduled_4 N R n σ x0 x1 x2 x3) σ x0 x1 x2 x3)))))
def f_X9_firstScheduled (N : Nat) (R : Nat → Nat → Nat) (σ : SI) (x0 : Nat) (x1 : Int32) : Option (Int32 × SI) := f_X9_firstScheduled_4 N R N σ x0 x1 (-1 : Int32) (0 : Int32)
set_option maxHeartbeats 4000000 in
set_option maxRecDepth 100000 in
theorem w_X9_firstScheduled_78 {l : Launch} {g : GL} {p : Program} {e : Jvm.Env} {s : State} {m : MethodId} {args : Array Value} {below : List Frame} {meth : Method} {c : Code} {R : Nat → Nat → Nat} {L : Nat → Nat → Int64} {r : (Int32 × SI)} {N : Nat} {k4 : SI → Nat → Int32 → Int32 → Int32 → Option (Int32 × SI)} (C : Cx l g p s m meth c cX9_firstScheduled 5 RX9) (hr : meth.sig.returnType = (some .int)) (hSh : ShR R) (hk4 : ∀ (σ : SI) (x0 : Nat) (x1 : Int32) (x2 : Int32) (x3 : Int32), k4 σ x0 x1 x2 x3 = some r → Ok 194 x0 9 → ∀ (H : Heap) (locs : List Loc) (ls : Array Slot), S2 g s σ R L H locs → lv_has ls 5 [(0, .ref (gb g + x0)), (1, .int x1), (2, .int x2), (3, .int x3)] → W p l e (rmd 1 0 0) s m args below meth c H locs 0 0 (MQ below (Qg g 194 (PI R L r)) args s 0 0 (gA g)) (F0 m 4 ls [])) : ∀ (σ : SI) (x0 : Nat) (x1 : Int32) (x2 : Int32) (x3 : Int32), f_X9_firstScheduled_78 N R k4 σ x0 x1 x2 x3 = some r → Ok 194 x0 9 → ∀ (H : Heap) (locs : List Loc) (ls : Array Slot), S2 g s σ R L H locs → lv_has ls 5 [(0, .ref (gb g + x0)), (1, .int x1), (2, .int x2), (3, .int x3)] → W p l e (rmd 1 0 0) s m args below meth c H locs 0 0 (MQ below (Qg g 194 (PI R L r)) args s 0 0 (gA g)) (F0 m 78 ls []) := by
  have hx := C.1
  have hb := C.2.1
  intro σ x0 x1 x2 x3 h hx0 H locs ls S hl
  rw [f_X9_firstScheduled_78] at h
  refine lv_iinc (v := x3 + 1) (lv' := [(3, .int (x3 + 1)), (0, .ref (gb g + x0)), (1, .int x1), (2, .int x2)]) hx hb dX9_firstScheduled_78 hl (k := 3) rfl rfl (by decide) rfl (fun ls hl => ?_)
  refine lv_goto (tgt := 4) hx hb dX9_firstScheduled_81 (by decide) ?_
  exact hk4 σ x0 x1 x2 (x3 + 1) h hx0 H locs ls S (lv_sub hl [1, 2, 3, 0] rfl)
set_option maxHeartbeats 4000000 in
set_option maxRecDepth 100000 in
theorem w_X9_firstScheduled_76 {l : Launch} {g : GL} {p : Program} {e : Jvm.Env} {s : State} {m : MethodId} {args : Array Value} {below : List Frame} {meth : Method} {c : Code} {R : Nat → Nat → Nat} {L : Nat → Nat → Int64} {r : (Int32 × SI)} {N : Nat} {k4 : SI → Nat → Int32 → Int32 → Int32 → Option (Int32 × SI)} (C : Cx l g p s m meth c cX9_firstScheduled 5 RX9) (hr : meth.sig.returnType = (some .int)) (hSh : ShR R) (hk4 : ∀ (σ : SI) (x0 : Nat) (x1 : Int32) (x2 : Int32) (x3 : Int32), k4 σ x0 x1 x2 x3 = some r → Ok 194 x0 9 → ∀ (H : Heap) (locs : List Loc) (ls : Array Slot), S2 g s σ R L H locs → lv_has ls 5 [(0, .ref (gb g + x0)), (1, .int x1), (2, .int x2), (3, .int x3)] → W p l e (rmd 1 0 0) s m args below meth c H locs 0 0 (MQ below (Qg g 194 (PI R L r)) args s 0 0 (gA g)) (F0 m 4 ls [])) : ∀ (σ : SI) (x0 : Nat) (x1 : Int32) (x3 : Int32), f_X9_firstScheduled_76 N R k4 σ x0 x1 x3 = some r → Ok 194 x0 9 → ∀ (H : Heap) (locs : List Loc) (ls : Array Slot), S2 g s σ R L H locs → lv_has ls 5 [(0, .ref (gb g + x0)), (1, .int x1), (3, .int x3)] → W p l e (rmd 1 0 0) s m args below meth c H locs 0 0 (MQ below (Qg g 194 (PI R L r)) args s 0 0 (gA g)) (F0 m 76 ls []) := by
  have hx := C.1
  have hb := C.2.1
  intro σ x0 x1 x3 h hx0 H locs ls S hl
  rw [f_X9_firstScheduled_76] at h
  refine lv_iload_n hx hb dX9_firstScheduled_76 rfl (lv_at hl 2 rfl) ?_
  refine lv_istore_n (lv' := [(2, .int x3), (0, .ref (gb g + x0)), (1, .int x1), (3, .int x3)]) hx hb dX9_firstScheduled_77 rfl hl (by decide) rfl (fun ls hl => ?_)
  exact w_X9_firstScheduled_78 C hr hSh hk4 σ x0 x1 x3 x3 h hx0 H locs ls S (lv_sub hl [1, 2, 0, 3] rfl)
set_option maxHeartbeats 4000000 in
set_option maxRecDepth 100000 in
theorem w_X9_firstScheduled_48 {l : Launch} {g : GL} {p : Program} {e : Jvm.Env} {s : State} {m : MethodId} {args : Array Value} {below : List Frame} {meth : Method} {c : Code} {R : Nat → Nat → Nat} {L : Nat → Nat → Int64} {r : (Int32 × SI)} {N : Nat} {k4 : SI → Nat → Int32 → Int32 → Int32 → Option (Int32 × SI)} (C : Cx l g p s m meth c cX9_firstScheduled 5 RX9) (hr : meth.sig.returnType = (some .int)) (hSh : ShR R) (hk4 : ∀ (σ : SI) (x0 : Nat) (x1 : Int32) (x2 : Int32) (x3 : Int32), k4 σ x0 x1 x2 x3 = some r → Ok 194 x0 9 → ∀ (H : Heap) (locs : List Loc) (ls : Array Slot), S2 g s σ R L H locs → lv_has ls 5 [(0, .ref (gb g + x0)), (1, .int x1), (2, .int x2), (3, .int x3)] → W p l e (rmd 1 0 0) s m args below meth c H locs 0 0 (MQ below (Qg g 194 (PI R L r)) args s 0 0 (gA g)) (F0 m 4 ls [])) : ∀ (σ : SI) (x0 : Nat) (x1 : Int32) (x2 : Int32) (x3 : Int32), f_X9_firstScheduled_48 N R k4 σ x0 x1 x2 x3 = some r → Ok 194 x0 9 → ∀ (H : Heap) (locs : List Loc) (ls : Array Slot), S2 g s σ R L H locs → lv_has ls 5 [(0, .ref (gb g + x0)), (1, .int x1), (2, .int x2), (3, .int x3)] → W p l e (rmd 1 0 0) s m args below meth c H locs 0 0 (MQ below (Qg g 194 (PI R L r)) args s 0 0 (gA g)) (F0 m 48 ls []) := by
  have hx := C.1
  have hb := C.2.1
  intro σ x0 x1 x2 x3 h hx0 H locs ls S hl
  rw [f_X9_firstScheduled_48] at h
  refine lv_iconst (v := (0 : Int32)) hx hb dX9_firstScheduled_48 (by decide) ?_
  refine lv_istore (lv' := [(4, .int (0 : Int32)), (0, .ref (gb g + x0)), (1, .int x1), (2, .int x2), (3, .int x3)]) hx hb dX9_firstScheduled_49 hl (by decide) rfl (fun ls hl => ?_)
  refine lv_iload hx hb dX9_firstScheduled_51 (lv_at hl 0 rfl) ?_
  refine lv_if_eq (tgt := 78) hx hb dX9_firstScheduled_53 (by decide) (fun c5 => ?_) (fun c5 => ?_)
  · have h := it_p c5 h
    exact w_X9_firstScheduled_78 C hr hSh hk4 σ x0 x1 x2 x3 h hx0 H locs ls S (lv_sub hl [1, 2, 3, 4] rfl)
  · have h := it_n c5 h
    refine lv_iload_n hx hb dX9_firstScheduled_56 rfl (lv_at hl 3 rfl) ?_
    refine lv_iconst (v := (-1 : Int32)) hx hb dX9_firstScheduled_57 (by decide) ?_
    refine lv_icmp_eq (tgt := 76) hx hb dX9_firstScheduled_58 (by decide) (fun c6 => ?_) (fun c6 => ?_)
    · have h := it_p c6 h
      exact w_X9_firstScheduled_76 C hr hSh hk4 σ x0 x1 x3 h hx0 H locs ls S (lv_sub hl [1, 2, 4] rfl)
    · have h := it_n c6 h
      refine lv_aload_n hx hb dX9_firstScheduled_61 rfl (lv_at hl 1 rfl) ?_
      have hR7 : Ok 194 (R x0 6) 10006 := hSh x0 9 6 10006 hx0.1 rfl
      refine x_getR C S KX9 hx0 6 (by decide) rfl rfl fl_RX9_39 hR7 dX9_firstScheduled_62 ?_
      refine lv_iload_n hx hb dX9_firstScheduled_65 rfl (lv_at hl 4 rfl) ?_
      obtain ⟨hi8, h⟩ := ck_el h
      refine x_iald (len := 6) C S (by decide) hR7 hi8 dX9_firstScheduled_66 ?_
      refine lv_aload_n hx hb dX9_firstScheduled_67 rfl (lv_at hl 1 rfl) ?_
      have hR9 : Ok 194 (R x0 6) 10006 := hSh x0 9 6 10006 hx0.1 rfl
      refine x_getR C S KX9 hx0 6 (by decide) rfl rfl fl_RX9_39 hR9 dX9_firstScheduled_68 ?_
      refine lv_iload_n hx hb dX9_firstScheduled_71 rfl (lv_at hl 3 rfl) ?_
      obtain ⟨hi10, h⟩ := ck_el h
      refine x_iald (len := 6) C S (by decide) hR9 hi10 dX9_firstScheduled_72 ?_
      refine lv_icmp_ge (tgt := 78) hx hb dX9_firstScheduled_73 (by decide) (fun c11 => ?_) (fun c11 => ?_)
      · have h := it_p c11 h
        exact w_X9_firstScheduled_78 C hr hSh hk4 σ x0 x1 x2 x3 h hx0 H locs ls S (lv_sub hl [1, 2, 3, 4] rfl)
      · have h := it_n c11 h
        exact w_X9_firstScheduled_76 C hr hSh hk4 σ x0 x1 x3 h hx0 H locs ls S (lv_sub hl [1, 2, 4] rfl)
set_option maxHeartbeats 4000000 in
set_option maxRecDepth 100000 in
theorem w_X9_firstScheduled_4 {l : Launch} {g : GL} {p : Program} {e : Jvm.Env} {s : State} {m : MethodId} {args : Array Value} {below : List Frame} {meth : Method} {c : Code} {R : Nat → Nat → Nat} {L : Nat → Nat → Int64} {r : (Int32 × SI)} {N : Nat} (C : Cx l g p s m meth c cX9_firstScheduled 5 RX9) (hr : meth.sig.returnType = (some .int)) (hSh : ShR R) : ∀ (n : Nat) (σ : SI) (x0 : Nat) (x1 : Int32) (x2 : Int32) (x3 : Int32), f_X9_firstScheduled_4 N R n σ x0 x1 x2 x3 = some r → Ok 194 x0 9 → ∀ (H : Heap) (locs : List Loc) (ls : Array Slot), S2 g s σ R L H locs → lv_has ls 5 [(0, .ref (gb g + x0)), (1, .int x1), (2, .int x2), (3, .int x3)] → W p l e (rmd 1 0 0) s m args below meth c H locs 0 0 (MQ below (Qg g 194 (PI R L r)) args s 0 0 (gA g)) (F0 m 4 ls []) := by
  have hx := C.1
  have hb := C.2.1
  intro n
  induction n with
  | zero =>
    intro σ x0 x1 x2 x3 h
    cases (show (none : Option (Int32 × SI)) = some r from h)
  | succ n ih =>
    intro σ x0 x1 x2 x3 h hx0 H locs ls S hl
    rw [f_X9_firstScheduled_4] at h
    refine lv_iload_n hx hb dX9_firstScheduled_4 rfl (lv_at hl 3 rfl) ?_
    refine lv_aload_n hx hb dX9_firstScheduled_5 rfl (lv_at hl 0 rfl) ?_
    refine x_getI C S KX9 hx0 11 (by decide) rfl rfl fl_RX9_61 dX9_firstScheduled_6 ?_
    refine lv_icmp_ge (tgt := 84) hx hb dX9_firstScheduled_9 (by decide) (fun c1 => ?_) (fun c1 => ?_)
    · have h := it_p c1 h
      refine lv_iload_n hx hb dX9_firstScheduled_84 rfl (lv_at hl 2 rfl) ?_
      exact x_iret C S hr h dX9_firstScheduled_85
    · have h := it_n c1 h
      refine lv_aload_n hx hb dX9_firstScheduled_12 rfl (lv_at hl 0 rfl) ?_
      have hR2 : Ok 194 (R x0 6) 10006 := hSh x0 9 6 10006 hx0.1 rfl
      refine x_getR C S KX9 hx0 6 (by decide) rfl rfl fl_RX9_39 hR2 dX9_firstScheduled_13 ?_
      refine lv_iload_n hx hb dX9_firstScheduled_16 rfl (lv_at hl 3 rfl) ?_
      obtain ⟨hi3, h⟩ := ck_el h
      refine x_iald (len := 6) C S (by decide) hR2 hi3 dX9_firstScheduled_17 ?_
      refine lv_iconst (v := (-1 : Int32)) hx hb dX9_firstScheduled_18 (by decide) ?_
      refine lv_icmp_eq (tgt := 48) hx hb dX9_firstScheduled_19 (by decide) (fun c4 => ?_) (fun c4 => ?_)
      · have h := it_p c4 h
        exact w_X9_firstScheduled_48 C hr hSh ih σ x0 x1 x2 x3 h hx0 H locs ls S (lv_sub hl [0, 1, 2, 3] rfl)
      · have h := it_n c4 h
        refine lv_aload_n hx hb dX9_firstScheduled_22 rfl (lv_at hl 0 rfl) ?_
        have hR12 : Ok 194 (R x0 2) 50006 := hSh x0 9 2 50006 hx0.1 rfl
        refine x_getR C S KX9 hx0 2 (by decide) rfl rfl fl_RX9_25 hR12 dX9_firstScheduled_23 ?_
        refine lv_iload_n hx hb dX9_firstScheduled_26 rfl (lv_at hl 3 rfl) ?_
        obtain ⟨hi13, h⟩ := ck_el h
        have hR14 : Ok 194 (R (R x0 2) x3.toNatClampNeg) 0 := hSh (R x0 2) 50006 x3.toNatClampNeg 0 hR12.1 (if_pos (vp_lt hi13))
        refine x_aald (len := 6) C S (by decide) 4 (by decide) rfl hR12 hi13 hR14 dX9_firstScheduled_27 ?_
        refine x_getI C S KX0 hR14 13 (by decide) rfl rfl fl_RX9_169 dX9_firstScheduled_28 ?_
        refine lv_if_ne (tgt := 48) hx hb dX9_firstScheduled_31 (by decide) (fun c15 => ?_) (fun c15 => ?_)
        · have h := it_n c15 h
          exact w_X9_firstScheduled_48 C hr hSh ih σ x0 x1 x2 x3 h hx0 H locs ls S (lv_sub hl [0, 1, 2, 3] rfl)
        · have h := it_p c15 h
          refine lv_aload_n hx hb dX9_firstScheduled_34 rfl (lv_at hl 0 rfl) ?_
          have hR16 : Ok 194 (R x0 6) 10006 := hSh x0 9 6 10006 hx0.1 rfl
          refine x_getR C S KX9 hx0 6 (by decide) rfl rfl fl_RX9_39 hR16 dX9_firstScheduled_35 ?_
          refine lv_iload_n hx hb dX9_firstScheduled_38 rfl (lv_at hl 3 rfl) ?_
          obtain ⟨hi17, h⟩ := ck_el h
          refine x_iald (len := 6) C S (by decide) hR16 hi17 dX9_firstScheduled_39 ?_
          refine lv_iload_n hx hb dX9_firstScheduled_40 rfl (lv_at hl 1 rfl) ?_
          refine lv_icmp_lt (tgt := 48) hx hb dX9_firstScheduled_41 (by decide) (fun c18 => ?_) (fun c18 => ?_)
          · have h := it_p c18 h
            exact w_X9_firstScheduled_48 C hr hSh ih σ x0 x1 x2 x3 h hx0 H locs ls S (lv_sub hl [0, 1, 2, 3] rfl)
          · have h := it_n c18 h
            refine lv_iconst (v := (1 : Int32)) hx hb dX9_firstScheduled_44 (by decide) ?_
            refine lv_goto (tgt := 49) hx hb dX9_firstScheduled_45 (by decide) ?_
            refine lv_istore (lv' := [(4, .int (1 : Int32)), (0, .ref (gb g + x0)), (1, .int x1), (2, .int x2), (3, .int x3)]) hx hb dX9_firstScheduled_49 hl (by decide) rfl (fun ls hl => ?_)
            refine lv_iload hx hb dX9_firstScheduled_51 (lv_at hl 0 rfl) ?_
            refine lv_if_eq (tgt := 78) hx hb dX9_firstScheduled_53 (by decide) (fun c19 => ?_) (fun c19 => ?_)
            · have h := it_p c19 h
              exact w_X9_firstScheduled_78 C hr hSh ih σ x0 x1 x2 x3 h hx0 H locs ls S (lv_sub hl [1, 2, 3, 4] rfl)
            · have h := it_n c19 h
              refine lv_iload_n hx hb dX9_firstScheduled_56 rfl (lv_at hl 3 rfl) ?_
              refine lv_iconst (v := (-1 : Int32)) hx hb dX9_firstScheduled_57 (by decide) ?_
              refine lv_icmp_eq (tgt := 76) hx hb dX9_firstScheduled_58 (by decide) (fun c20 => ?_) (fun c20 => ?_)
              · have h := it_p c20 h
                exact w_X9_firstScheduled_76 C hr hSh ih σ x0 x1 x3 h hx0 H locs ls S (lv_sub hl [1, 2, 4] rfl)
              · have h := it_n c20 h
                refine lv_aload_n hx hb dX9_firstScheduled_61 rfl (lv_at hl 1 rfl) ?_
                have hR21 : Ok 194 (R x0 6) 10006 := hSh x0 9 6 10006 hx0.1 rfl
                refine x_getR C S KX9 hx0 6 (by decide) rfl rfl fl_RX9_39 hR21 dX9_firstScheduled_62 ?_
                refine lv_iload_n hx hb dX9_firstScheduled_65 rfl (lv_at hl 4 rfl) ?_
                obtain ⟨hi22, h⟩ := ck_el h
                refine x_iald (len := 6) C S (by decide) hR21 hi22 dX9_firstScheduled_66 ?_
                refine lv_aload_n hx hb dX9_firstScheduled_67 rfl (lv_at hl 1 rfl) ?_
                have hR23 : Ok 194 (R x0 6) 10006 := hSh x0 9 6 10006 hx0.1 rfl
                refine x_getR C S KX9 hx0 6 (by decide) rfl rfl fl_RX9_39 hR23 dX9_firstScheduled_68 ?_
                refine lv_iload_n hx hb dX9_firstScheduled_71 rfl (lv_at hl 3 rfl) ?_
                obtain ⟨hi24, h⟩ := ck_el h
                refine x_iald (len := 6) C S (by decide) hR23 hi24 dX9_firstScheduled_72 ?_
                refine lv_icmp_ge (tgt := 78) hx hb dX9_firstScheduled_73 (by decide) (fun c25 => ?_) (fun c25 => ?_)
                · have h := it_p c25 h
                  exact w_X9_firstScheduled_78 C hr hSh ih σ x0 x1 x2 x3 h hx0 H locs ls S (lv_sub hl [1, 2, 3, 4] rfl)
                · have h := it_n c25 h
                  exact w_X9_firstScheduled_76 C hr hSh ih σ x0 x1 x3 h hx0 H locs ls S (lv_sub hl [1, 2, 4] rfl)
set_option maxHeartbeats 4000000 in
set_option maxRecDepth 100000 in
theorem ok_X9_firstScheduled {l : Launch} {g : GL} {R : Nat → Nat → Nat} {L : Nat → Nat → Int64} {N : Nat} {σ : SI} {x0 : Nat} {x1 : Int32} {r : (Int32 × SI)} (h : f_X9_firstScheduled N R σ x0 x1 = some r) (hSh : ShR R) (hx0 : Ok 194 x0 9) : Ct l g 1 yX9_firstScheduled cX9_firstScheduled 5 (some .int) 194 194 0 0 [.ref (gb g + x0), .int x1] (mkS σ R L) (PI R L r) := by
  refine Met.ofW (cc := cX9_firstScheduled) (maxL := 5) (ret := (some .int)) (by decide) rfl ?_
  intro p e s m args below meth c s₁ B hml hv
  obtain ⟨rfl, hE, hLo, hWd⟩ := hv
  have hr : meth.sig.returnType = (some .int) := B.returns
  have C : Cx l g p s m meth c cX9_firstScheduled 5 RX9 := ⟨B.exec, B.bytes, hml, findClass_of_methodNamed B.named, hE, hLo, B.notSynchronized⟩
  have S : S2 g s σ R L s.heap [] := ⟨hWd, va_S.rf⟩
  have hx := C.1
  have hb := C.2.1
  have hl := lv_entry ([.ref (gb g + x0), .int x1]) (n := 5) (Nat.le_of_ble_eq_true rfl)
  rw [lg_entry_eq]
  generalize (lg_sl ([.ref (gb g + x0), .int x1]) ++ List.replicate (5 - (lg_sl ([.ref (gb g + x0), .int x1])).length) Slot.unset).toArray = ls at hl ⊢
  have hl : lv_has ls 5 [(0, .ref (gb g + x0)), (1, .int x1)] := hl
  generalize hH : s.heap = H at S ⊢
  generalize hlc : ([] : List Loc) = locs at S ⊢
  rw [f_X9_firstScheduled] at h
  refine lv_iconst (v := (-1 : Int32)) hx hb dX9_firstScheduled_0 (by decide) ?_
  refine lv_istore_n (lv' := [(2, .int (-1 : Int32)), (0, .ref (gb g + x0)), (1, .int x1)]) hx hb dX9_firstScheduled_1 rfl hl (by decide) rfl (fun ls hl => ?_)
  refine lv_iconst (v := (0 : Int32)) hx hb dX9_firstScheduled_2 (by decide) ?_
  refine lv_istore_n (lv' := [(3, .int (0 : Int32)), (2, .int (-1 : Int32)), (0, .ref (gb g + x0)), (1, .int x1)]) hx hb dX9_firstScheduled_3 rfl hl (by decide) rfl (fun ls hl => ?_)
  exact w_X9_firstScheduled_4 C hr hSh N σ x0 x1 (-1 : Int32) (0 : Int32) h hx0 H locs ls S (lv_sub hl [2, 3, 1, 0] rfl)
theorem dX9_closingFirst_0 : decode cX9_closingFirst 0 = .ok (.iload_n 1, 1) := by decide +kernel
theorem dX9_closingFirst_1 : decode cX9_closingFirst 1 = .ok (.aload_n 0, 1) := by decide +kernel
theorem dX9_closingFirst_2 : decode cX9_closingFirst 2 = .ok (.getfield 73, 3) := by decide +kernel
theorem dX9_closingFirst_5 : decode cX9_closingFirst 5 = .ok (.if_icmp .le 12, 3) := by decide +kernel
theorem dX9_closingFirst_8 : decode cX9_closingFirst 8 = .ok (.iload_n 1, 1) := by decide +kernel
theorem dX9_closingFirst_9 : decode cX9_closingFirst 9 = .ok (.aload_n 0, 1) := by decide +kernel
theorem dX9_closingFirst_10 : decode cX9_closingFirst 10 = .ok (.getfield 73, 3) := by decide +kernel
theorem dX9_closingFirst_13 : decode cX9_closingFirst 13 = .ok (.isub, 1) := by decide +kernel
theorem dX9_closingFirst_14 : decode cX9_closingFirst 14 = .ok (.goto 4, 3) := by decide +kernel
theorem dX9_closingFirst_17 : decode cX9_closingFirst 17 = .ok (.iconst 0, 1) := by decide +kernel
theorem dX9_closingFirst_18 : decode cX9_closingFirst 18 = .ok (.ireturn, 1) := by decide +kernel
def f_X9_closingFirst (N : Nat) (R : Nat → Nat → Nat) (σ : SI) (x0 : Nat) (x1 : Int32) : Option (Int32 × SI) := if x1 ≤ (σ x0 15) then (some ((0 : Int32), σ)) else (some (x1 - (σ x0 15), σ))
set_option maxHeartbeats 4000000 in
set_option maxRecDepth 100000 in
theorem ok_X9_closingFirst {l : Launch} {g : GL} {R : Nat → Nat → Nat} {L : Nat → Nat → Int64} {N : Nat} {σ : SI} {x0 : Nat} {x1 : Int32} {r : (Int32 × SI)} (h : f_X9_closingFirst N R σ x0 x1 = some r) (hSh : ShR R) (hx0 : Ok 194 x0 9) : Ct l g 1 yX9_closingFirst cX9_closingFirst 2 (some .int) 194 194 0 0 [.ref (gb g + x0), .int x1] (mkS σ R L) (PI R L r) := by
  refine Met.ofW (cc := cX9_closingFirst) (maxL := 2) (ret := (some .int)) (by decide) rfl ?_
  intro p e s m args below meth c s₁ B hml hv
  obtain ⟨rfl, hE, hLo, hWd⟩ := hv
  have hr : meth.sig.returnType = (some .int) := B.returns
  have C : Cx l g p s m meth c cX9_closingFirst 2 RX9 := ⟨B.exec, B.bytes, hml, findClass_of_methodNamed B.named, hE, hLo, B.notSynchronized⟩
  have S : S2 g s σ R L s.heap [] := ⟨hWd, va_S.rf⟩
  have hx := C.1
  have hb := C.2.1
  have hl := lv_entry ([.ref (gb g + x0), .int x1]) (n := 2) (Nat.le_of_ble_eq_true rfl)
  rw [lg_entry_eq]
  generalize (lg_sl ([.ref (gb g + x0), .int x1]) ++ List.replicate (2 - (lg_sl ([.ref (gb g + x0), .int x1])).length) Slot.unset).toArray = ls at hl ⊢
  have hl : lv_has ls 2 [(0, .ref (gb g + x0)), (1, .int x1)] := hl
  generalize hH : s.heap = H at S ⊢
  generalize hlc : ([] : List Loc) = locs at S ⊢
  rw [f_X9_closingFirst] at h
  refine lv_iload_n hx hb dX9_closingFirst_0 rfl (lv_at hl 1 rfl) ?_
  refine lv_aload_n hx hb dX9_closingFirst_1 rfl (lv_at hl 0 rfl) ?_
  refine x_getI C S KX9 hx0 15 (by decide) rfl rfl fl_RX9_73 dX9_closingFirst_2 ?_
  refine lv_icmp_le (tgt := 17) hx hb dX9_closingFirst_5 (by decide) (fun c1 => ?_) (fun c1 => ?_)
  · have h := it_p c1 h
    refine lv_iconst (v := (0 : Int32)) hx hb dX9_closingFirst_17 (by decide) ?_
    exact x_iret C S hr h dX9_closingFirst_18
  · have h := it_n c1 h
    refine lv_iload_n hx hb dX9_closingFirst_8 rfl (lv_at hl 1 rfl) ?_
    refine lv_aload_n hx hb dX9_closingFirst_9 rfl (lv_at hl 0 rfl) ?_
    refine x_getI C S KX9 hx0 15 (by decide) rfl rfl fl_RX9_73 dX9_closingFirst_10 ?_
    refine lv_isub hx hb dX9_closingFirst_13 ?_
    refine lv_goto (tgt := 18) hx hb dX9_closingFirst_14 (by decide) ?_
    exact x_iret C S hr h dX9_closingFirst_18
theorem dX9_closingEnd_0 : decode cX9_closingEnd 0 = .ok (.iload_n 1, 1) := by decide +kernel
theorem dX9_closingEnd_1 : decode cX9_closingEnd 1 = .ok (.aload_n 0, 1) := by decide +kernel
theorem dX9_closingEnd_2 : decode cX9_closingEnd 2 = .ok (.getfield 76, 3) := by decide +kernel
theorem dX9_closingEnd_5 : decode cX9_closingEnd 5 = .ok (.iadd, 1) := by decide +kernel
theorem dX9_closingEnd_6 : decode cX9_closingEnd 6 = .ok (.sipush 1440, 3) := by decide +kernel
theorem dX9_closingEnd_9 : decode cX9_closingEnd 9 = .ok (.if_icmp .ge 12, 3) := by decide +kernel
theorem dX9_closingEnd_12 : decode cX9_closingEnd 12 = .ok (.iload_n 1, 1) := by decide +kernel
theorem dX9_closingEnd_13 : decode cX9_closingEnd 13 = .ok (.aload_n 0, 1) := by decide +kernel
theorem dX9_closingEnd_14 : decode cX9_closingEnd 14 = .ok (.getfield 76, 3) := by decide +kernel
theorem dX9_closingEnd_17 : decode cX9_closingEnd 17 = .ok (.iadd, 1) := by decide +kernel
theorem dX9_closingEnd_18 : decode cX9_closingEnd 18 = .ok (.goto 6, 3) := by decide +kernel
theorem dX9_closingEnd_21 : decode cX9_closingEnd 21 = .ok (.sipush 1440, 3) := by decide +kernel
theorem dX9_closingEnd_24 : decode cX9_closingEnd 24 = .ok (.ireturn, 1) := by decide +kernel
def f_X9_closingEnd (N : Nat) (R : Nat → Nat → Nat) (σ : SI) (x0 : Nat) (x1 : Int32) : Option (Int32 × SI) := if (1440 : Int32) ≤ (x1 + (σ x0 16)) then (some ((1440 : Int32), σ)) else (some (x1 + (σ x0 16), σ))
set_option maxHeartbeats 4000000 in
set_option maxRecDepth 100000 in
theorem ok_X9_closingEnd {l : Launch} {g : GL} {R : Nat → Nat → Nat} {L : Nat → Nat → Int64} {N : Nat} {σ : SI} {x0 : Nat} {x1 : Int32} {r : (Int32 × SI)} (h : f_X9_closingEnd N R σ x0 x1 = some r) (hSh : ShR R) (hx0 : Ok 194 x0 9) : Ct l g 1 yX9_closingEnd cX9_closingEnd 2 (some .int) 194 194 0 0 [.ref (gb g + x0), .int x1] (mkS σ R L) (PI R L r) := by
  refine Met.ofW (cc := cX9_closingEnd) (maxL := 2) (ret := (some .int)) (by decide) rfl ?_
  intro p e s m args below meth c s₁ B hml hv
  obtain ⟨rfl, hE, hLo, hWd⟩ := hv
  have hr : meth.sig.returnType = (some .int) := B.returns
  have C : Cx l g p s m meth c cX9_closingEnd 2 RX9 := ⟨B.exec, B.bytes, hml, findClass_of_methodNamed B.named, hE, hLo, B.notSynchronized⟩
  have S : S2 g s σ R L s.heap [] := ⟨hWd, va_S.rf⟩
  have hx := C.1
  have hb := C.2.1
  have hl := lv_entry ([.ref (gb g + x0), .int x1]) (n := 2) (Nat.le_of_ble_eq_true rfl)
  rw [lg_entry_eq]
  generalize (lg_sl ([.ref (gb g + x0), .int x1]) ++ List.replicate (2 - (lg_sl ([.ref (gb g + x0), .int x1])).length) Slot.unset).toArray = ls at hl ⊢
  have hl : lv_has ls 2 [(0, .ref (gb g + x0)), (1, .int x1)] := hl
  generalize hH : s.heap = H at S ⊢
  generalize hlc : ([] : List Loc) = locs at S ⊢
  rw [f_X9_closingEnd] at h
  refine lv_iload_n hx hb dX9_closingEnd_0 rfl (lv_at hl 1 rfl) ?_
  refine lv_aload_n hx hb dX9_closingEnd_1 rfl (lv_at hl 0 rfl) ?_
  refine x_getI C S KX9 hx0 16 (by decide) rfl rfl fl_RX9_76 dX9_closingEnd_2 ?_
  refine lv_iadd hx hb dX9_closingEnd_5 ?_
  refine lv_sipush (v := (1440 : Int32)) hx hb dX9_closingEnd_6 (by decide) ?_
  refine lv_icmp_ge (tgt := 21) hx hb dX9_closingEnd_9 (by decide) (fun c1 => ?_) (fun c1 => ?_)
  · have h := it_p c1 h
    refine lv_sipush (v := (1440 : Int32)) hx hb dX9_closingEnd_21 (by decide) ?_
    exact x_iret C S hr h dX9_closingEnd_24
  · have h := it_n c1 h
    refine lv_iload_n hx hb dX9_closingEnd_12 rfl (lv_at hl 1 rfl) ?_
    refine lv_aload_n hx hb dX9_closingEnd_13 rfl (lv_at hl 0 rfl) ?_
    refine x_getI C S KX9 hx0 16 (by decide) rfl rfl fl_RX9_76 dX9_closingEnd_14 ?_
    refine lv_iadd hx hb dX9_closingEnd_17 ?_
    refine lv_goto (tgt := 24) hx hb dX9_closingEnd_18 (by decide) ?_
    exact x_iret C S hr h dX9_closingEnd_24
theorem dX10_hasRoom_0 : decode cX10_hasRoom 0 = .ok (.aload_n 0, 1) := by decide +kernel
theorem dX10_hasRoom_1 : decode cX10_hasRoom 1 = .ok (.getfield 19, 3) := by decide +kernel
theorem dX10_hasRoom_4 : decode cX10_hasRoom 4 = .ok (.iload_n 1, 1) := by decide +kernel
theorem dX10_hasRoom_5 : decode cX10_hasRoom 5 = .ok (.iadd, 1) := by decide +kernel
theorem dX10_hasRoom_6 : decode cX10_hasRoom 6 = .ok (.sipush 800, 3) := by decide +kernel
theorem dX10_hasRoom_9 : decode cX10_hasRoom 9 = .ok (.if_icmp .gt 7, 3) := by decide +kernel
theorem dX10_hasRoom_12 : decode cX10_hasRoom 12 = .ok (.iconst 1, 1) := by decide +kernel
theorem dX10_hasRoom_13 : decode cX10_hasRoom 13 = .ok (.goto 4, 3) := by decide +kernel
theorem dX10_hasRoom_16 : decode cX10_hasRoom 16 = .ok (.iconst 0, 1) := by decide +kernel
theorem dX10_hasRoom_17 : decode cX10_hasRoom 17 = .ok (.ireturn, 1) := by decide +kernel
def f_X10_hasRoom (N : Nat) (R : Nat → Nat → Nat) (σ : SI) (x0 : Nat) (x1 : Int32) : Option (Int32 × SI) := if (800 : Int32) < ((σ x0 1) + x1) then (some ((0 : Int32), σ)) else (some ((1 : Int32), σ))
set_option maxHeartbeats 4000000 in
set_option maxRecDepth 100000 in
theorem ok_X10_hasRoom {l : Launch} {g : GL} {R : Nat → Nat → Nat} {L : Nat → Nat → Int64} {N : Nat} {σ : SI} {x0 : Nat} {x1 : Int32} {r : (Int32 × SI)} (h : f_X10_hasRoom N R σ x0 x1 = some r) (hSh : ShR R) (hx0 : Ok 194 x0 10) : Ct l g 1 yX10_hasRoom cX10_hasRoom 2 (some .boolean) 194 194 0 0 [.ref (gb g + x0), .int x1] (mkS σ R L) (PI R L r) := by
  refine Met.ofW (cc := cX10_hasRoom) (maxL := 2) (ret := (some .boolean)) (by decide) rfl ?_
  intro p e s m args below meth c s₁ B hml hv
  obtain ⟨rfl, hE, hLo, hWd⟩ := hv
  have hr : meth.sig.returnType = (some .boolean) := B.returns
  have C : Cx l g p s m meth c cX10_hasRoom 2 RX10 := ⟨B.exec, B.bytes, hml, findClass_of_methodNamed B.named, hE, hLo, B.notSynchronized⟩
  have S : S2 g s σ R L s.heap [] := ⟨hWd, va_S.rf⟩
  have hx := C.1
  have hb := C.2.1
  have hl := lv_entry ([.ref (gb g + x0), .int x1]) (n := 2) (Nat.le_of_ble_eq_true rfl)
  rw [lg_entry_eq]
  generalize (lg_sl ([.ref (gb g + x0), .int x1]) ++ List.replicate (2 - (lg_sl ([.ref (gb g + x0), .int x1])).length) Slot.unset).toArray = ls at hl ⊢
  have hl : lv_has ls 2 [(0, .ref (gb g + x0)), (1, .int x1)] := hl
  generalize hH : s.heap = H at S ⊢
  generalize hlc : ([] : List Loc) = locs at S ⊢
  rw [f_X10_hasRoom] at h
  refine lv_aload_n hx hb dX10_hasRoom_0 rfl (lv_at hl 0 rfl) ?_
  refine x_getI C S KX10 hx0 1 (by decide) rfl rfl fl_RX10_19 dX10_hasRoom_1 ?_
  refine lv_iload_n hx hb dX10_hasRoom_4 rfl (lv_at hl 1 rfl) ?_
  refine lv_iadd hx hb dX10_hasRoom_5 ?_
  refine lv_sipush (v := (800 : Int32)) hx hb dX10_hasRoom_6 (by decide) ?_
  refine lv_icmp_gt (tgt := 16) hx hb dX10_hasRoom_9 (by decide) (fun c1 => ?_) (fun c1 => ?_)
  · have h := it_p c1 h
    refine lv_iconst (v := (0 : Int32)) hx hb dX10_hasRoom_16 (by decide) ?_
    exact x_zret C S hr (by decide) h dX10_hasRoom_17
  · have h := it_n c1 h
    refine lv_iconst (v := (1 : Int32)) hx hb dX10_hasRoom_12 (by decide) ?_
    refine lv_goto (tgt := 17) hx hb dX10_hasRoom_13 (by decide) ?_
    exact x_zret C S hr (by decide) h dX10_hasRoom_17
theorem dX10_addWord_0 : decode cX10_addWord 0 = .ok (.bipush 24, 2) := by decide +kernel
theorem dX10_addWord_2 : decode cX10_addWord 2 = .ok (.istore_n 2, 1) := by decide +kernel
theorem dX10_addWord_3 : decode cX10_addWord 3 = .ok (.iload_n 2, 1) := by decide +kernel
theorem dX10_addWord_4 : decode cX10_addWord 4 = .ok (.ifCond .lt 42, 3) := by decide +kernel
theorem dX10_addWord_7 : decode cX10_addWord 7 = .ok (.aload_n 0, 1) := by decide +kernel
theorem dX10_addWord_8 : decode cX10_addWord 8 = .ok (.getfield 19, 3) := by decide +kernel
theorem dX10_addWord_11 : decode cX10_addWord 11 = .ok (.sipush 800, 3) := by decide +kernel
theorem dX10_addWord_14 : decode cX10_addWord 14 = .ok (.if_icmp .ge 32, 3) := by decide +kernel
theorem dX10_addWord_17 : decode cX10_addWord 17 = .ok (.aload_n 0, 1) := by decide +kernel
theorem dX10_addWord_18 : decode cX10_addWord 18 = .ok (.getfield 9, 3) := by decide +kernel
theorem dX10_addWord_21 : decode cX10_addWord 21 = .ok (.aload_n 0, 1) := by decide +kernel
theorem dX10_addWord_22 : decode cX10_addWord 22 = .ok (.getfield 19, 3) := by decide +kernel
theorem dX10_addWord_25 : decode cX10_addWord 25 = .ok (.iload_n 1, 1) := by decide +kernel
theorem dX10_addWord_26 : decode cX10_addWord 26 = .ok (.iload_n 2, 1) := by decide +kernel
theorem dX10_addWord_27 : decode cX10_addWord 27 = .ok (.ishr, 1) := by decide +kernel
theorem dX10_addWord_28 : decode cX10_addWord 28 = .ok (.i2b, 1) := by decide +kernel
theorem dX10_addWord_29 : decode cX10_addWord 29 = .ok (.bastore, 1) := by decide +kernel
theorem dX10_addWord_30 : decode cX10_addWord 30 = .ok (.aload_n 0, 1) := by decide +kernel
theorem dX10_addWord_31 : decode cX10_addWord 31 = .ok (.dup, 1) := by decide +kernel
theorem dX10_addWord_32 : decode cX10_addWord 32 = .ok (.getfield 19, 3) := by decide +kernel
theorem dX10_addWord_35 : decode cX10_addWord 35 = .ok (.iconst 1, 1) := by decide +kernel
theorem dX10_addWord_36 : decode cX10_addWord 36 = .ok (.iadd, 1) := by decide +kernel
theorem dX10_addWord_37 : decode cX10_addWord 37 = .ok (.putfield 19, 3) := by decide +kernel
theorem dX10_addWord_40 : decode cX10_addWord 40 = .ok (.iinc 2 (-8), 3) := by decide +kernel
theorem dX10_addWord_43 : decode cX10_addWord 43 = .ok (.goto (-40), 3) := by decide +kernel
theorem dX10_addWord_46 : decode cX10_addWord 46 = .ok (.return_, 1) := by decide +kernel
def f_X10_addWord_3 (N : Nat) (R : Nat → Nat → Nat) : Nat → SI → Nat → Int32 → Int32 → Option (Unit × SI)
  | 0, _, _, _, _ => none
  | n + 1, σ, x0, x1, x2 => if x2 < 0 then (some ((), σ)) else (if (800 : Int32) ≤ (σ x0 1) then (some ((), σ)) else (ck (σ x0 1) 800 (sq (up σ (R x0 0) (σ x0 1).toNatClampNeg (vp_nar .byte ((x1 >>> (x2 &&& 31)).toInt8.toInt32))) (fun σ5 => sq (up σ5 x0 1 ((σ5 x0 1) + (1 : Int32))) (fun σ6 => f_X10_addWord_3 N R n σ6 x0 x1 (x2 + (-8)))))))
def f_X10_addWord (N : Nat) (R : Nat → Nat → Nat) (σ : SI) (x0 : Nat) (x1 : Int32) : Option (Unit × SI) := f_X10_addWord_3 N R N σ x0 x1 (24 : Int32)
set_option maxHeartbeats 4000000 in
set_option maxRecDepth 100000 in
theorem w_X10_addWord_3 {l : Launch} {g : GL} {p : Program} {e : Jvm.Env} {s : State} {m : MethodId} {args : Array Value} {below : List Frame} {meth : Method} {c : Code} {R : Nat → Nat → Nat} {L : Nat → Nat → Int64} {r : (Unit × SI)} {N : Nat} (C : Cx l g p s m meth c cX10_addWord 3 RX10) (hr : meth.sig.returnType = none) (hSh : ShR R) : ∀ (n : Nat) (σ : SI) (x0 : Nat) (x1 : Int32) (x2 : Int32), f_X10_addWord_3 N R n σ x0 x1 x2 = some r → Ok 194 x0 10 → ∀ (H : Heap) (locs : List Loc) (ls : Array Slot), S2 g s σ R L H locs → lv_has ls 3 [(0, .ref (gb g + x0)), (1, .int x1), (2, .int x2)] → W p l e (rmd 1 0 0) s m args below meth c H locs 0 0 (MQ below (Qg g 194 (PV R L r)) args s 0 0 (gA g)) (F0 m 3 ls []) := by
  have hx := C.1
  have hb := C.2.1
  intro n
  induction n with
  | zero =>
    intro σ x0 x1 x2 h
    cases (show (none : Option (Unit × SI)) = some r from h)
  | succ n ih =>
    intro σ x0 x1 x2 h hx0 H locs ls S hl
    rw [f_X10_addWord_3] at h
    refine lv_iload_n hx hb dX10_addWord_3 rfl (lv_at hl 2 rfl) ?_
    refine lv_if_lt (tgt := 46) hx hb dX10_addWord_4 (by decide) (fun c1 => ?_) (fun c1 => ?_)
    · have h := it_p c1 h
      exact x_vret C S hr h dX10_addWord_46
    · have h := it_n c1 h
      refine lv_aload_n hx hb dX10_addWord_7 rfl (lv_at hl 0 rfl) ?_
      refine x_getI C S KX10 hx0 1 (by decide) rfl rfl fl_RX10_19 dX10_addWord_8 ?_
      refine lv_sipush (v := (800 : Int32)) hx hb dX10_addWord_11 (by decide) ?_
      refine lv_icmp_ge (tgt := 46) hx hb dX10_addWord_14 (by decide) (fun c2 => ?_) (fun c2 => ?_)
      · have h := it_p c2 h
        exact x_vret C S hr h dX10_addWord_46
      · have h := it_n c2 h
        refine lv_aload_n hx hb dX10_addWord_17 rfl (lv_at hl 0 rfl) ?_
        have hR3 : Ok 194 (R x0 0) 20800 := hSh x0 10 0 20800 hx0.1 rfl
        refine x_getR C S KX10 hx0 0 (by decide) rfl rfl fl_RX10_9 hR3 dX10_addWord_18 ?_
        refine lv_aload_n hx hb dX10_addWord_21 rfl (lv_at hl 0 rfl) ?_
        refine x_getI C S KX10 hx0 1 (by decide) rfl rfl fl_RX10_19 dX10_addWord_22 ?_
        refine lv_iload_n hx hb dX10_addWord_25 rfl (lv_at hl 1 rfl) ?_
        refine lv_iload_n hx hb dX10_addWord_26 rfl (lv_at hl 2 rfl) ?_
        refine lv_ishr hx hb dX10_addWord_27 ?_
        refine lv_i2b hx hb dX10_addWord_28 rfl ?_
        obtain ⟨hi4, h⟩ := ck_el h
        obtain ⟨σ5, hs5, h⟩ := sq_el h
        refine x_bast (len := 800) C S (by decide) hR3 hi4 dX10_addWord_29 hs5 (fun H locs S => ?_)
        refine lv_aload_n hx hb dX10_addWord_30 rfl (lv_at hl 0 rfl) ?_
        refine lv_dup hx hb dX10_addWord_31 rfl ?_
        refine x_getI C S KX10 hx0 1 (by decide) rfl rfl fl_RX10_19 dX10_addWord_32 ?_
        refine lv_iconst (v := (1 : Int32)) hx hb dX10_addWord_35 (by decide) ?_
        refine lv_iadd hx hb dX10_addWord_36 ?_
        obtain ⟨σ6, hs6, h⟩ := sq_el h
        refine x_putI C S KX10 hx0 1 (by decide) rfl rfl rfl ⟨rfl, rfl⟩ fl_RX10_19 dX10_addWord_37 hs6 (fun H locs S => ?_)
        refine lv_iinc (v := x2 + (-8)) (lv' := [(2, .int (x2 + (-8))), (0, .ref (gb g + x0)), (1, .int x1)]) hx hb dX10_addWord_40 hl (k := 2) rfl rfl (by decide) rfl (fun ls hl => ?_)
        refine lv_goto (tgt := 3) hx hb dX10_addWord_43 (by decide) ?_
        exact ih σ6 x0 x1 (x2 + (-8)) h hx0 H locs ls S (lv_sub hl [1, 2, 0] rfl)
set_option maxHeartbeats 4000000 in
set_option maxRecDepth 100000 in
theorem ok_X10_addWord {l : Launch} {g : GL} {R : Nat → Nat → Nat} {L : Nat → Nat → Int64} {N : Nat} {σ : SI} {x0 : Nat} {x1 : Int32} {r : (Unit × SI)} (h : f_X10_addWord N R σ x0 x1 = some r) (hSh : ShR R) (hx0 : Ok 194 x0 10) : Ct l g 1 yX10_addWord cX10_addWord 3 none 194 194 0 0 [.ref (gb g + x0), .int x1] (mkS σ R L) (PV R L r) := by
  refine Met.ofW (cc := cX10_addWord) (maxL := 3) (ret := none) (by decide) rfl ?_
  intro p e s m args below meth c s₁ B hml hv
  obtain ⟨rfl, hE, hLo, hWd⟩ := hv
  have hr : meth.sig.returnType = none := B.returns
  have C : Cx l g p s m meth c cX10_addWord 3 RX10 := ⟨B.exec, B.bytes, hml, findClass_of_methodNamed B.named, hE, hLo, B.notSynchronized⟩
  have S : S2 g s σ R L s.heap [] := ⟨hWd, va_S.rf⟩
  have hx := C.1
  have hb := C.2.1
  have hl := lv_entry ([.ref (gb g + x0), .int x1]) (n := 3) (Nat.le_of_ble_eq_true rfl)
  rw [lg_entry_eq]
  generalize (lg_sl ([.ref (gb g + x0), .int x1]) ++ List.replicate (3 - (lg_sl ([.ref (gb g + x0), .int x1])).length) Slot.unset).toArray = ls at hl ⊢
  have hl : lv_has ls 3 [(0, .ref (gb g + x0)), (1, .int x1)] := hl
  generalize hH : s.heap = H at S ⊢
  generalize hlc : ([] : List Loc) = locs at S ⊢
  rw [f_X10_addWord] at h
  refine lv_bipush (v := (24 : Int32)) hx hb dX10_addWord_0 (by decide) ?_
  refine lv_istore_n (lv' := [(2, .int (24 : Int32)), (0, .ref (gb g + x0)), (1, .int x1)]) hx hb dX10_addWord_2 rfl hl (by decide) rfl (fun ls hl => ?_)
  exact w_X10_addWord_3 C hr hSh N σ x0 x1 (24 : Int32) h hx0 H locs ls S (lv_sub hl [1, 2, 0] rfl)
theorem dX10_begin_0 : decode cX10_begin 0 = .ok (.aload_n 0, 1) := by decide +kernel
theorem dX10_begin_1 : decode cX10_begin 1 = .ok (.iconst 0, 1) := by decide +kernel
theorem dX10_begin_2 : decode cX10_begin 2 = .ok (.putfield 22, 3) := by decide +kernel
theorem dX10_begin_5 : decode cX10_begin 5 = .ok (.aload_n 0, 1) := by decide +kernel
theorem dX10_begin_6 : decode cX10_begin 6 = .ok (.iconst (-1), 1) := by decide +kernel
theorem dX10_begin_7 : decode cX10_begin 7 = .ok (.putfield 15, 3) := by decide +kernel
theorem dX10_begin_10 : decode cX10_begin 10 = .ok (.aload_n 0, 1) := by decide +kernel
theorem dX10_begin_11 : decode cX10_begin 11 = .ok (.iconst 0, 1) := by decide +kernel
theorem dX10_begin_12 : decode cX10_begin 12 = .ok (.putfield 25, 3) := by decide +kernel
theorem dX10_begin_15 : decode cX10_begin 15 = .ok (.return_, 1) := by decide +kernel
def f_X10_begin (N : Nat) (R : Nat → Nat → Nat) (σ : SI) (x0 : Nat) : Option (Unit × SI) := sq (up σ x0 2 (0 : Int32)) (fun σ1 => sq (up σ1 x0 3 (-1 : Int32)) (fun σ2 => sq (up σ2 x0 4 (0 : Int32)) (fun σ3 => some ((), σ3))))
set_option maxHeartbeats 4000000 in
set_option maxRecDepth 100000 in
theorem ok_X10_begin {l : Launch} {g : GL} {R : Nat → Nat → Nat} {L : Nat → Nat → Int64} {N : Nat} {σ : SI} {x0 : Nat} {r : (Unit × SI)} (h : f_X10_begin N R σ x0 = some r) (hSh : ShR R) (hx0 : Ok 194 x0 10) : Ct l g 1 yX10_begin cX10_begin 1 none 194 194 0 0 [.ref (gb g + x0)] (mkS σ R L) (PV R L r) := by
  refine Met.ofW (cc := cX10_begin) (maxL := 1) (ret := none) (by decide) rfl ?_
  intro p e s m args below meth c s₁ B hml hv
  obtain ⟨rfl, hE, hLo, hWd⟩ := hv
  have hr : meth.sig.returnType = none := B.returns
  have C : Cx l g p s m meth c cX10_begin 1 RX10 := ⟨B.exec, B.bytes, hml, findClass_of_methodNamed B.named, hE, hLo, B.notSynchronized⟩
  have S : S2 g s σ R L s.heap [] := ⟨hWd, va_S.rf⟩
  have hx := C.1
  have hb := C.2.1
  have hl := lv_entry ([.ref (gb g + x0)]) (n := 1) (Nat.le_of_ble_eq_true rfl)
  rw [lg_entry_eq]
  generalize (lg_sl ([.ref (gb g + x0)]) ++ List.replicate (1 - (lg_sl ([.ref (gb g + x0)])).length) Slot.unset).toArray = ls at hl ⊢
  have hl : lv_has ls 1 [(0, .ref (gb g + x0))] := hl
  generalize hH : s.heap = H at S ⊢
  generalize hlc : ([] : List Loc) = locs at S ⊢
  rw [f_X10_begin] at h
  refine lv_aload_n hx hb dX10_begin_0 rfl (lv_at hl 0 rfl) ?_
  refine lv_iconst (v := (0 : Int32)) hx hb dX10_begin_1 (by decide) ?_
  obtain ⟨σ1, hs1, h⟩ := sq_el h
  refine x_putI C S KX10 hx0 2 (by decide) rfl rfl rfl ⟨rfl, rfl⟩ fl_RX10_22 dX10_begin_2 hs1 (fun H locs S => ?_)
  refine lv_aload_n hx hb dX10_begin_5 rfl (lv_at hl 0 rfl) ?_
  refine lv_iconst (v := (-1 : Int32)) hx hb dX10_begin_6 (by decide) ?_
  obtain ⟨σ2, hs2, h⟩ := sq_el h
  refine x_putI C S KX10 hx0 3 (by decide) rfl rfl rfl ⟨rfl, rfl⟩ fl_RX10_15 dX10_begin_7 hs2 (fun H locs S => ?_)
  refine lv_aload_n hx hb dX10_begin_10 rfl (lv_at hl 0 rfl) ?_
  refine lv_iconst (v := (0 : Int32)) hx hb dX10_begin_11 (by decide) ?_
  obtain ⟨σ3, hs3, h⟩ := sq_el h
  refine x_putI C S KX10 hx0 4 (by decide) rfl rfl rfl ⟨rfl, rfl⟩ fl_RX10_25 dX10_begin_12 hs3 (fun H locs S => ?_)
  exact x_vret C S hr h dX10_begin_15
theorem dX10_failed_0 : decode cX10_failed 0 = .ok (.aload_n 0, 1) := by decide +kernel
theorem dX10_failed_1 : decode cX10_failed 1 = .ok (.getfield 25, 3) := by decide +kernel
theorem dX10_failed_4 : decode cX10_failed 4 = .ok (.ifCond .eq 7, 3) := by decide +kernel
theorem dX10_failed_7 : decode cX10_failed 7 = .ok (.iconst 1, 1) := by decide +kernel
theorem dX10_failed_8 : decode cX10_failed 8 = .ok (.goto 4, 3) := by decide +kernel
theorem dX10_failed_11 : decode cX10_failed 11 = .ok (.iconst 0, 1) := by decide +kernel
theorem dX10_failed_12 : decode cX10_failed 12 = .ok (.ireturn, 1) := by decide +kernel
def f_X10_failed (N : Nat) (R : Nat → Nat → Nat) (σ : SI) (x0 : Nat) : Option (Int32 × SI) := if (σ x0 4) = 0 then (some ((0 : Int32), σ)) else (some ((1 : Int32), σ))
set_option maxHeartbeats 4000000 in
set_option maxRecDepth 100000 in
theorem ok_X10_failed {l : Launch} {g : GL} {R : Nat → Nat → Nat} {L : Nat → Nat → Int64} {N : Nat} {σ : SI} {x0 : Nat} {r : (Int32 × SI)} (h : f_X10_failed N R σ x0 = some r) (hSh : ShR R) (hx0 : Ok 194 x0 10) : Ct l g 1 yX10_failed cX10_failed 1 (some .boolean) 194 194 0 0 [.ref (gb g + x0)] (mkS σ R L) (PI R L r) := by
  refine Met.ofW (cc := cX10_failed) (maxL := 1) (ret := (some .boolean)) (by decide) rfl ?_
  intro p e s m args below meth c s₁ B hml hv
  obtain ⟨rfl, hE, hLo, hWd⟩ := hv
  have hr : meth.sig.returnType = (some .boolean) := B.returns
  have C : Cx l g p s m meth c cX10_failed 1 RX10 := ⟨B.exec, B.bytes, hml, findClass_of_methodNamed B.named, hE, hLo, B.notSynchronized⟩
  have S : S2 g s σ R L s.heap [] := ⟨hWd, va_S.rf⟩
  have hx := C.1
  have hb := C.2.1
  have hl := lv_entry ([.ref (gb g + x0)]) (n := 1) (Nat.le_of_ble_eq_true rfl)
  rw [lg_entry_eq]
  generalize (lg_sl ([.ref (gb g + x0)]) ++ List.replicate (1 - (lg_sl ([.ref (gb g + x0)])).length) Slot.unset).toArray = ls at hl ⊢
  have hl : lv_has ls 1 [(0, .ref (gb g + x0))] := hl
  generalize hH : s.heap = H at S ⊢
  generalize hlc : ([] : List Loc) = locs at S ⊢
  rw [f_X10_failed] at h
  refine lv_aload_n hx hb dX10_failed_0 rfl (lv_at hl 0 rfl) ?_
  refine x_getI C S KX10 hx0 4 (by decide) rfl rfl fl_RX10_25 dX10_failed_1 ?_
  refine lv_if_eq (tgt := 11) hx hb dX10_failed_4 (by decide) (fun c1 => ?_) (fun c1 => ?_)
  · have h := it_p c1 h
    refine lv_iconst (v := (0 : Int32)) hx hb dX10_failed_11 (by decide) ?_
    exact x_zret C S hr (by decide) h dX10_failed_12
  · have h := it_n c1 h
    refine lv_iconst (v := (1 : Int32)) hx hb dX10_failed_7 (by decide) ?_
    refine lv_goto (tgt := 12) hx hb dX10_failed_8 (by decide) ?_
    exact x_zret C S hr (by decide) h dX10_failed_12
theorem dX10_fail_0 : decode cX10_fail 0 = .ok (.aload_n 0, 1) := by decide +kernel
theorem dX10_fail_1 : decode cX10_fail 1 = .ok (.getfield 25, 3) := by decide +kernel
theorem dX10_fail_4 : decode cX10_fail 4 = .ok (.ifCond .ne 13, 3) := by decide +kernel
theorem dX10_fail_7 : decode cX10_fail 7 = .ok (.aload_n 0, 1) := by decide +kernel
theorem dX10_fail_8 : decode cX10_fail 8 = .ok (.iload_n 1, 1) := by decide +kernel
theorem dX10_fail_9 : decode cX10_fail 9 = .ok (.putfield 15, 3) := by decide +kernel
theorem dX10_fail_12 : decode cX10_fail 12 = .ok (.aload_n 0, 1) := by decide +kernel
theorem dX10_fail_13 : decode cX10_fail 13 = .ok (.iload_n 2, 1) := by decide +kernel
theorem dX10_fail_14 : decode cX10_fail 14 = .ok (.putfield 25, 3) := by decide +kernel
theorem dX10_fail_17 : decode cX10_fail 17 = .ok (.return_, 1) := by decide +kernel
def f_X10_fail (N : Nat) (R : Nat → Nat → Nat) (σ : SI) (x0 : Nat) (x1 : Int32) (x2 : Int32) : Option (Unit × SI) := if (σ x0 4) = 0 then (sq (up σ x0 3 x1) (fun σ2 => sq (up σ2 x0 4 x2) (fun σ3 => some ((), σ3)))) else (some ((), σ))
set_option maxHeartbeats 4000000 in
set_option maxRecDepth 100000 in
theorem ok_X10_fail {l : Launch} {g : GL} {R : Nat → Nat → Nat} {L : Nat → Nat → Int64} {N : Nat} {σ : SI} {x0 : Nat} {x1 : Int32} {x2 : Int32} {r : (Unit × SI)} (h : f_X10_fail N R σ x0 x1 x2 = some r) (hSh : ShR R) (hx0 : Ok 194 x0 10) : Ct l g 1 yX10_fail cX10_fail 3 none 194 194 0 0 [.ref (gb g + x0), .int x1, .int x2] (mkS σ R L) (PV R L r) := by
  refine Met.ofW (cc := cX10_fail) (maxL := 3) (ret := none) (by decide) rfl ?_
  intro p e s m args below meth c s₁ B hml hv
  obtain ⟨rfl, hE, hLo, hWd⟩ := hv
  have hr : meth.sig.returnType = none := B.returns
  have C : Cx l g p s m meth c cX10_fail 3 RX10 := ⟨B.exec, B.bytes, hml, findClass_of_methodNamed B.named, hE, hLo, B.notSynchronized⟩
  have S : S2 g s σ R L s.heap [] := ⟨hWd, va_S.rf⟩
  have hx := C.1
  have hb := C.2.1
  have hl := lv_entry ([.ref (gb g + x0), .int x1, .int x2]) (n := 3) (Nat.le_of_ble_eq_true rfl)
  rw [lg_entry_eq]
  generalize (lg_sl ([.ref (gb g + x0), .int x1, .int x2]) ++ List.replicate (3 - (lg_sl ([.ref (gb g + x0), .int x1, .int x2])).length) Slot.unset).toArray = ls at hl ⊢
  have hl : lv_has ls 3 [(0, .ref (gb g + x0)), (1, .int x1), (2, .int x2)] := hl
  generalize hH : s.heap = H at S ⊢
  generalize hlc : ([] : List Loc) = locs at S ⊢
  rw [f_X10_fail] at h
  refine lv_aload_n hx hb dX10_fail_0 rfl (lv_at hl 0 rfl) ?_
  refine x_getI C S KX10 hx0 4 (by decide) rfl rfl fl_RX10_25 dX10_fail_1 ?_
  refine lv_if_ne (tgt := 17) hx hb dX10_fail_4 (by decide) (fun c1 => ?_) (fun c1 => ?_)
  · have h := it_n c1 h
    exact x_vret C S hr h dX10_fail_17
  · have h := it_p c1 h
    refine lv_aload_n hx hb dX10_fail_7 rfl (lv_at hl 0 rfl) ?_
    refine lv_iload_n hx hb dX10_fail_8 rfl (lv_at hl 1 rfl) ?_
    obtain ⟨σ2, hs2, h⟩ := sq_el h
    refine x_putI C S KX10 hx0 3 (by decide) rfl rfl rfl ⟨rfl, rfl⟩ fl_RX10_15 dX10_fail_9 hs2 (fun H locs S => ?_)
    refine lv_aload_n hx hb dX10_fail_12 rfl (lv_at hl 0 rfl) ?_
    refine lv_iload_n hx hb dX10_fail_13 rfl (lv_at hl 2 rfl) ?_
    obtain ⟨σ3, hs3, h⟩ := sq_el h
    refine x_putI C S KX10 hx0 4 (by decide) rfl rfl rfl ⟨rfl, rfl⟩ fl_RX10_25 dX10_fail_14 hs3 (fun H locs S => ?_)
    exact x_vret C S hr h dX10_fail_17
theorem dX10_skipSpaces_0 : decode cX10_skipSpaces 0 = .ok (.aload_n 0, 1) := by decide +kernel
theorem dX10_skipSpaces_1 : decode cX10_skipSpaces 1 = .ok (.getfield 22, 3) := by decide +kernel
theorem dX10_skipSpaces_4 : decode cX10_skipSpaces 4 = .ok (.aload_n 0, 1) := by decide +kernel
theorem dX10_skipSpaces_5 : decode cX10_skipSpaces 5 = .ok (.getfield 19, 3) := by decide +kernel
theorem dX10_skipSpaces_8 : decode cX10_skipSpaces 8 = .ok (.if_icmp .ge 58, 3) := by decide +kernel
theorem dX10_skipSpaces_11 : decode cX10_skipSpaces 11 = .ok (.aload_n 0, 1) := by decide +kernel
theorem dX10_skipSpaces_12 : decode cX10_skipSpaces 12 = .ok (.getfield 9, 3) := by decide +kernel
theorem dX10_skipSpaces_15 : decode cX10_skipSpaces 15 = .ok (.aload_n 0, 1) := by decide +kernel
theorem dX10_skipSpaces_16 : decode cX10_skipSpaces 16 = .ok (.getfield 22, 3) := by decide +kernel
theorem dX10_skipSpaces_19 : decode cX10_skipSpaces 19 = .ok (.baload, 1) := by decide +kernel
theorem dX10_skipSpaces_20 : decode cX10_skipSpaces 20 = .ok (.bipush 32, 2) := by decide +kernel
theorem dX10_skipSpaces_22 : decode cX10_skipSpaces 22 = .ok (.if_icmp .eq 31, 3) := by decide +kernel
theorem dX10_skipSpaces_25 : decode cX10_skipSpaces 25 = .ok (.aload_n 0, 1) := by decide +kernel
theorem dX10_skipSpaces_26 : decode cX10_skipSpaces 26 = .ok (.getfield 9, 3) := by decide +kernel
theorem dX10_skipSpaces_29 : decode cX10_skipSpaces 29 = .ok (.aload_n 0, 1) := by decide +kernel
theorem dX10_skipSpaces_30 : decode cX10_skipSpaces 30 = .ok (.getfield 22, 3) := by decide +kernel
theorem dX10_skipSpaces_33 : decode cX10_skipSpaces 33 = .ok (.baload, 1) := by decide +kernel
theorem dX10_skipSpaces_34 : decode cX10_skipSpaces 34 = .ok (.bipush 9, 2) := by decide +kernel
theorem dX10_skipSpaces_36 : decode cX10_skipSpaces 36 = .ok (.if_icmp .eq 17, 3) := by decide +kernel
theorem dX10_skipSpaces_39 : decode cX10_skipSpaces 39 = .ok (.aload_n 0, 1) := by decide +kernel
theorem dX10_skipSpaces_40 : decode cX10_skipSpaces 40 = .ok (.getfield 9, 3) := by decide +kernel
theorem dX10_skipSpaces_43 : decode cX10_skipSpaces 43 = .ok (.aload_n 0, 1) := by decide +kernel
theorem dX10_skipSpaces_44 : decode cX10_skipSpaces 44 = .ok (.getfield 22, 3) := by decide +kernel
theorem dX10_skipSpaces_47 : decode cX10_skipSpaces 47 = .ok (.baload, 1) := by decide +kernel
theorem dX10_skipSpaces_48 : decode cX10_skipSpaces 48 = .ok (.bipush 10, 2) := by decide +kernel
theorem dX10_skipSpaces_50 : decode cX10_skipSpaces 50 = .ok (.if_icmp .ne 16, 3) := by decide +kernel
theorem dX10_skipSpaces_53 : decode cX10_skipSpaces 53 = .ok (.aload_n 0, 1) := by decide +kernel
theorem dX10_skipSpaces_54 : decode cX10_skipSpaces 54 = .ok (.dup, 1) := by decide +kernel
theorem dX10_skipSpaces_55 : decode cX10_skipSpaces 55 = .ok (.getfield 22, 3) := by decide +kernel
theorem dX10_skipSpaces_58 : decode cX10_skipSpaces 58 = .ok (.iconst 1, 1) := by decide +kernel
theorem dX10_skipSpaces_59 : decode cX10_skipSpaces 59 = .ok (.iadd, 1) := by decide +kernel
theorem dX10_skipSpaces_60 : decode cX10_skipSpaces 60 = .ok (.putfield 22, 3) := by decide +kernel
theorem dX10_skipSpaces_63 : decode cX10_skipSpaces 63 = .ok (.goto (-63), 3) := by decide +kernel
theorem dX10_skipSpaces_66 : decode cX10_skipSpaces 66 = .ok (.return_, 1) := by decide +kernel
def f_X10_skipSpaces_53 (N : Nat) (R : Nat → Nat → Nat) (k0 : SI → Nat → Option (Unit × SI)) (σ : SI) (x0 : Nat) : Option (Unit × SI) := sq (up σ x0 2 ((σ x0 2) + (1 : Int32))) (fun σ5 => k0 σ5 x0)
def f_X10_skipSpaces_0 (N : Nat) (R : Nat → Nat → Nat) : Nat → SI → Nat → Option (Unit × SI)
  | 0, _, _ => none
  | n + 1, σ, x0 => if (σ x0 1) ≤ (σ x0 2) then (some ((), σ)) else (ck (σ x0 2) 800 (if (σ (R x0 0) (σ x0 2).toNatClampNeg) = (32 : Int32) then (f_X10_skipSpaces_53 N R (fun σ x0 => f_X10_skipSpaces_0 N R n σ x0) σ x0) else (ck (σ x0 2) 800 (if (σ (R x0 0) (σ x0 2).toNatClampNeg) = (9 : Int32) then (f_X10_skipSpaces_53 N R (fun σ x0 => f_X10_skipSpaces_0 N R n σ x0) σ x0) else (ck (σ x0 2) 800 (if (σ (R x0 0) (σ x0 2).toNatClampNeg) = (10 : Int32) then (f_X10_skipSpaces_53 N R (fun σ x0 => f_X10_skipSpaces_0 N R n σ x0) σ x0) else (some ((), σ))))))))
def f_X10_skipSpaces (N : Nat) (R : Nat → Nat → Nat) (σ : SI) (x0 : Nat) : Option (Unit × SI) := f_X10_skipSpaces_0 N R N σ x0
set_option maxHeartbeats 4000000 in
set_option maxRecDepth 100000 in
theorem w_X10_skipSpaces_53 {l : Launch} {g : GL} {p : Program} {e : Jvm.Env} {s : State} {m : MethodId} {args : Array Value} {below : List Frame} {meth : Method} {c : Code} {R : Nat → Nat → Nat} {L : Nat → Nat → Int64} {r : (Unit × SI)} {N : Nat} {k0 : SI → Nat → Option (Unit × SI)} (C : Cx l g p s m meth c cX10_skipSpaces 1 RX10) (hr : meth.sig.returnType = none) (hSh : ShR R) (hk0 : ∀ (σ : SI) (x0 : Nat), k0 σ x0 = some r → Ok 194 x0 10 → ∀ (H : Heap) (locs : List Loc) (ls : Array Slot), S2 g s σ R L H locs → lv_has ls 1 [(0, .ref (gb g + x0))] → W p l e (rmd 1 0 0) s m args below meth c H locs 0 0 (MQ below (Qg g 194 (PV R L r)) args s 0 0 (gA g)) (F0 m 0 ls [])) : ∀ (σ : SI) (x0 : Nat), f_X10_skipSpaces_53 N R k0 σ x0 = some r → Ok 194 x0 10 → ∀ (H : Heap) (locs : List Loc) (ls : Array Slot), S2 g s σ R L H locs → lv_has ls 1 [(0, .ref (gb g + x0))] → W p l e (rmd 1 0 0) s m args below meth c H locs 0 0 (MQ below (Qg g 194 (PV R L r)) args s 0 0 (gA g)) (F0 m 53 ls []) := by
  have hx := C.1
  have hb := C.2.1
  intro σ x0 h hx0 H locs ls S hl
  rw [f_X10_skipSpaces_53] at h
  refine lv_aload_n hx hb dX10_skipSpaces_53 rfl (lv_at hl 0 rfl) ?_
  refine lv_dup hx hb dX10_skipSpaces_54 rfl ?_
  refine x_getI C S KX10 hx0 2 (by decide) rfl rfl fl_RX10_22 dX10_skipSpaces_55 ?_
  refine lv_iconst (v := (1 : Int32)) hx hb dX10_skipSpaces_58 (by decide) ?_
  refine lv_iadd hx hb dX10_skipSpaces_59 ?_
  obtain ⟨σ5, hs5, h⟩ := sq_el h
  refine x_putI C S KX10 hx0 2 (by decide) rfl rfl rfl ⟨rfl, rfl⟩ fl_RX10_22 dX10_skipSpaces_60 hs5 (fun H locs S => ?_)
  refine lv_goto (tgt := 0) hx hb dX10_skipSpaces_63 (by decide) ?_
  exact hk0 σ5 x0 h hx0 H locs ls S (lv_sub hl [0] rfl)
set_option maxHeartbeats 4000000 in
set_option maxRecDepth 100000 in
theorem w_X10_skipSpaces_0 {l : Launch} {g : GL} {p : Program} {e : Jvm.Env} {s : State} {m : MethodId} {args : Array Value} {below : List Frame} {meth : Method} {c : Code} {R : Nat → Nat → Nat} {L : Nat → Nat → Int64} {r : (Unit × SI)} {N : Nat} (C : Cx l g p s m meth c cX10_skipSpaces 1 RX10) (hr : meth.sig.returnType = none) (hSh : ShR R) : ∀ (n : Nat) (σ : SI) (x0 : Nat), f_X10_skipSpaces_0 N R n σ x0 = some r → Ok 194 x0 10 → ∀ (H : Heap) (locs : List Loc) (ls : Array Slot), S2 g s σ R L H locs → lv_has ls 1 [(0, .ref (gb g + x0))] → W p l e (rmd 1 0 0) s m args below meth c H locs 0 0 (MQ below (Qg g 194 (PV R L r)) args s 0 0 (gA g)) (F0 m 0 ls []) := by
  have hx := C.1
  have hb := C.2.1
  intro n
  induction n with
  | zero =>
    intro σ x0 h
    cases (show (none : Option (Unit × SI)) = some r from h)
  | succ n ih =>
    intro σ x0 h hx0 H locs ls S hl
    rw [f_X10_skipSpaces_0] at h
    refine lv_aload_n hx hb dX10_skipSpaces_0 rfl (lv_at hl 0 rfl) ?_
    refine x_getI C S KX10 hx0 2 (by decide) rfl rfl fl_RX10_22 dX10_skipSpaces_1 ?_
    refine lv_aload_n hx hb dX10_skipSpaces_4 rfl (lv_at hl 0 rfl) ?_
    refine x_getI C S KX10 hx0 1 (by decide) rfl rfl fl_RX10_19 dX10_skipSpaces_5 ?_
    refine lv_icmp_ge (tgt := 66) hx hb dX10_skipSpaces_8 (by decide) (fun c1 => ?_) (fun c1 => ?_)
    · have h := it_p c1 h
      exact x_vret C S hr h dX10_skipSpaces_66
    · have h := it_n c1 h
      refine lv_aload_n hx hb dX10_skipSpaces_11 rfl (lv_at hl 0 rfl) ?_
      have hR2 : Ok 194 (R x0 0) 20800 := hSh x0 10 0 20800 hx0.1 rfl
      refine x_getR C S KX10 hx0 0 (by decide) rfl rfl fl_RX10_9 hR2 dX10_skipSpaces_12 ?_
      refine lv_aload_n hx hb dX10_skipSpaces_15 rfl (lv_at hl 0 rfl) ?_
      refine x_getI C S KX10 hx0 2 (by decide) rfl rfl fl_RX10_22 dX10_skipSpaces_16 ?_
      obtain ⟨hi3, h⟩ := ck_el h
      refine x_bald (len := 800) C S (by decide) hR2 hi3 dX10_skipSpaces_19 ?_
      refine lv_bipush (v := (32 : Int32)) hx hb dX10_skipSpaces_20 (by decide) ?_
      refine lv_icmp_eq (tgt := 53) hx hb dX10_skipSpaces_22 (by decide) (fun c4 => ?_) (fun c4 => ?_)
      · have h := it_p c4 h
        exact w_X10_skipSpaces_53 C hr hSh ih σ x0 h hx0 H locs ls S (lv_sub hl [0] rfl)
      · have h := it_n c4 h
        refine lv_aload_n hx hb dX10_skipSpaces_25 rfl (lv_at hl 0 rfl) ?_
        have hR6 : Ok 194 (R x0 0) 20800 := hSh x0 10 0 20800 hx0.1 rfl
        refine x_getR C S KX10 hx0 0 (by decide) rfl rfl fl_RX10_9 hR6 dX10_skipSpaces_26 ?_
        refine lv_aload_n hx hb dX10_skipSpaces_29 rfl (lv_at hl 0 rfl) ?_
        refine x_getI C S KX10 hx0 2 (by decide) rfl rfl fl_RX10_22 dX10_skipSpaces_30 ?_
        obtain ⟨hi7, h⟩ := ck_el h
        refine x_bald (len := 800) C S (by decide) hR6 hi7 dX10_skipSpaces_33 ?_
        refine lv_bipush (v := (9 : Int32)) hx hb dX10_skipSpaces_34 (by decide) ?_
        refine lv_icmp_eq (tgt := 53) hx hb dX10_skipSpaces_36 (by decide) (fun c8 => ?_) (fun c8 => ?_)
        · have h := it_p c8 h
          exact w_X10_skipSpaces_53 C hr hSh ih σ x0 h hx0 H locs ls S (lv_sub hl [0] rfl)
        · have h := it_n c8 h
          refine lv_aload_n hx hb dX10_skipSpaces_39 rfl (lv_at hl 0 rfl) ?_
          have hR9 : Ok 194 (R x0 0) 20800 := hSh x0 10 0 20800 hx0.1 rfl
          refine x_getR C S KX10 hx0 0 (by decide) rfl rfl fl_RX10_9 hR9 dX10_skipSpaces_40 ?_
          refine lv_aload_n hx hb dX10_skipSpaces_43 rfl (lv_at hl 0 rfl) ?_
          refine x_getI C S KX10 hx0 2 (by decide) rfl rfl fl_RX10_22 dX10_skipSpaces_44 ?_
          obtain ⟨hi10, h⟩ := ck_el h
          refine x_bald (len := 800) C S (by decide) hR9 hi10 dX10_skipSpaces_47 ?_
          refine lv_bipush (v := (10 : Int32)) hx hb dX10_skipSpaces_48 (by decide) ?_
          refine lv_icmp_ne (tgt := 66) hx hb dX10_skipSpaces_50 (by decide) (fun c11 => ?_) (fun c11 => ?_)
          · have h := it_n c11 h
            exact x_vret C S hr h dX10_skipSpaces_66
          · have h := it_p c11 h
            exact w_X10_skipSpaces_53 C hr hSh ih σ x0 h hx0 H locs ls S (lv_sub hl [0] rfl)
set_option maxHeartbeats 4000000 in
set_option maxRecDepth 100000 in
theorem ok_X10_skipSpaces {l : Launch} {g : GL} {R : Nat → Nat → Nat} {L : Nat → Nat → Int64} {N : Nat} {σ : SI} {x0 : Nat} {r : (Unit × SI)} (h : f_X10_skipSpaces N R σ x0 = some r) (hSh : ShR R) (hx0 : Ok 194 x0 10) : Ct l g 1 yX10_skipSpaces cX10_skipSpaces 1 none 194 194 0 0 [.ref (gb g + x0)] (mkS σ R L) (PV R L r) := by
  refine Met.ofW (cc := cX10_skipSpaces) (maxL := 1) (ret := none) (by decide) rfl ?_
  intro p e s m args below meth c s₁ B hml hv
  obtain ⟨rfl, hE, hLo, hWd⟩ := hv
  have hr : meth.sig.returnType = none := B.returns
  have C : Cx l g p s m meth c cX10_skipSpaces 1 RX10 := ⟨B.exec, B.bytes, hml, findClass_of_methodNamed B.named, hE, hLo, B.notSynchronized⟩
  have S : S2 g s σ R L s.heap [] := ⟨hWd, va_S.rf⟩
  have hx := C.1
  have hb := C.2.1
  have hl := lv_entry ([.ref (gb g + x0)]) (n := 1) (Nat.le_of_ble_eq_true rfl)
  rw [lg_entry_eq]
  generalize (lg_sl ([.ref (gb g + x0)]) ++ List.replicate (1 - (lg_sl ([.ref (gb g + x0)])).length) Slot.unset).toArray = ls at hl ⊢
  have hl : lv_has ls 1 [(0, .ref (gb g + x0))] := hl
  generalize hH : s.heap = H at S ⊢
  generalize hlc : ([] : List Loc) = locs at S ⊢
  rw [f_X10_skipSpaces] at h
  exact w_X10_skipSpaces_0 C hr hSh N σ x0 h hx0 H locs ls S (lv_sub hl [0] rfl)
theorem dX10_endOfRun_0 : decode cX10_endOfRun 0 = .ok (.aload_n 0, 1) := by decide +kernel
theorem dX10_endOfRun_1 : decode cX10_endOfRun 1 = .ok (.getfield 22, 3) := by decide +kernel
theorem dX10_endOfRun_4 : decode cX10_endOfRun 4 = .ok (.istore_n 3, 1) := by decide +kernel
theorem dX10_endOfRun_5 : decode cX10_endOfRun 5 = .ok (.iload_n 3, 1) := by decide +kernel
theorem dX10_endOfRun_6 : decode cX10_endOfRun 6 = .ok (.aload_n 0, 1) := by decide +kernel
theorem dX10_endOfRun_7 : decode cX10_endOfRun 7 = .ok (.getfield 19, 3) := by decide +kernel
theorem dX10_endOfRun_10 : decode cX10_endOfRun 10 = .ok (.if_icmp .ge 29, 3) := by decide +kernel
theorem dX10_endOfRun_13 : decode cX10_endOfRun 13 = .ok (.aload_n 0, 1) := by decide +kernel
theorem dX10_endOfRun_14 : decode cX10_endOfRun 14 = .ok (.getfield 9, 3) := by decide +kernel
theorem dX10_endOfRun_17 : decode cX10_endOfRun 17 = .ok (.iload_n 3, 1) := by decide +kernel
theorem dX10_endOfRun_18 : decode cX10_endOfRun 18 = .ok (.baload, 1) := by decide +kernel
theorem dX10_endOfRun_19 : decode cX10_endOfRun 19 = .ok (.iload_n 1, 1) := by decide +kernel
theorem dX10_endOfRun_20 : decode cX10_endOfRun 20 = .ok (.if_icmp .lt 19, 3) := by decide +kernel
theorem dX10_endOfRun_23 : decode cX10_endOfRun 23 = .ok (.aload_n 0, 1) := by decide +kernel
theorem dX10_endOfRun_24 : decode cX10_endOfRun 24 = .ok (.getfield 9, 3) := by decide +kernel
theorem dX10_endOfRun_27 : decode cX10_endOfRun 27 = .ok (.iload_n 3, 1) := by decide +kernel
theorem dX10_endOfRun_28 : decode cX10_endOfRun 28 = .ok (.baload, 1) := by decide +kernel
theorem dX10_endOfRun_29 : decode cX10_endOfRun 29 = .ok (.iload_n 2, 1) := by decide +kernel
theorem dX10_endOfRun_30 : decode cX10_endOfRun 30 = .ok (.if_icmp .gt 9, 3) := by decide +kernel
theorem dX10_endOfRun_33 : decode cX10_endOfRun 33 = .ok (.iinc 3 1, 3) := by decide +kernel
theorem dX10_endOfRun_36 : decode cX10_endOfRun 36 = .ok (.goto (-31), 3) := by decide +kernel
theorem dX10_endOfRun_39 : decode cX10_endOfRun 39 = .ok (.iload_n 3, 1) := by decide +kernel
theorem dX10_endOfRun_40 : decode cX10_endOfRun 40 = .ok (.ireturn, 1) := by decide +kernel
def f_X10_endOfRun_5 (N : Nat) (R : Nat → Nat → Nat) : Nat → SI → Nat → Int32 → Int32 → Int32 → Option (Int32 × SI)
  | 0, _, _, _, _, _ => none
  | n + 1, σ, x0, x1, x2, x3 => if (σ x0 1) ≤ x3 then (some (x3, σ)) else (ck x3 800 (if (σ (R x0 0) x3.toNatClampNeg) < x1 then (some (x3, σ)) else (ck x3 800 (if x2 < (σ (R x0 0) x3.toNatClampNeg) then (some (x3, σ)) else (f_X10_endOfRun_5 N R n σ x0 x1 x2 (x3 + 1))))))
def f_X10_endOfRun (N : Nat) (R : Nat → Nat → Nat) (σ : SI) (x0 : Nat) (x1 : Int32) (x2 : Int32) : Option (Int32 × SI) := f_X10_endOfRun_5 N R N σ x0 x1 x2 (σ x0 2)
set_option maxHeartbeats 4000000 in
set_option maxRecDepth 100000 in
theorem w_X10_endOfRun_5 {l : Launch} {g : GL} {p : Program} {e : Jvm.Env} {s : State} {m : MethodId} {args : Array Value} {below : List Frame} {meth : Method} {c : Code} {R : Nat → Nat → Nat} {L : Nat → Nat → Int64} {r : (Int32 × SI)} {N : Nat} (C : Cx l g p s m meth c cX10_endOfRun 4 RX10) (hr : meth.sig.returnType = (some .int)) (hSh : ShR R) : ∀ (n : Nat) (σ : SI) (x0 : Nat) (x1 : Int32) (x2 : Int32) (x3 : Int32), f_X10_endOfRun_5 N R n σ x0 x1 x2 x3 = some r → Ok 194 x0 10 → ∀ (H : Heap) (locs : List Loc) (ls : Array Slot), S2 g s σ R L H locs → lv_has ls 4 [(0, .ref (gb g + x0)), (1, .int x1), (2, .int x2), (3, .int x3)] → W p l e (rmd 1 0 0) s m args below meth c H locs 0 0 (MQ below (Qg g 194 (PI R L r)) args s 0 0 (gA g)) (F0 m 5 ls []) := by
  have hx := C.1
  have hb := C.2.1
  intro n
  induction n with
  | zero =>
    intro σ x0 x1 x2 x3 h
    cases (show (none : Option (Int32 × SI)) = some r from h)
  | succ n ih =>
    intro σ x0 x1 x2 x3 h hx0 H locs ls S hl
    rw [f_X10_endOfRun_5] at h
    refine lv_iload_n hx hb dX10_endOfRun_5 rfl (lv_at hl 3 rfl) ?_
    refine lv_aload_n hx hb dX10_endOfRun_6 rfl (lv_at hl 0 rfl) ?_
    refine x_getI C S KX10 hx0 1 (by decide) rfl rfl fl_RX10_19 dX10_endOfRun_7 ?_
    refine lv_icmp_ge (tgt := 39) hx hb dX10_endOfRun_10 (by decide) (fun c1 => ?_) (fun c1 => ?_)
    · have h := it_p c1 h
      refine lv_iload_n hx hb dX10_endOfRun_39 rfl (lv_at hl 3 rfl) ?_
      exact x_iret C S hr h dX10_endOfRun_40
    · have h := it_n c1 h
      refine lv_aload_n hx hb dX10_endOfRun_13 rfl (lv_at hl 0 rfl) ?_
      have hR2 : Ok 194 (R x0 0) 20800 := hSh x0 10 0 20800 hx0.1 rfl
      refine x_getR C S KX10 hx0 0 (by decide) rfl rfl fl_RX10_9 hR2 dX10_endOfRun_14 ?_
      refine lv_iload_n hx hb dX10_endOfRun_17 rfl (lv_at hl 3 rfl) ?_
      obtain ⟨hi3, h⟩ := ck_el h
      refine x_bald (len := 800) C S (by decide) hR2 hi3 dX10_endOfRun_18 ?_
      refine lv_iload_n hx hb dX10_endOfRun_19 rfl (lv_at hl 1 rfl) ?_
      refine lv_icmp_lt (tgt := 39) hx hb dX10_endOfRun_20 (by decide) (fun c4 => ?_) (fun c4 => ?_)
      · have h := it_p c4 h
        refine lv_iload_n hx hb dX10_endOfRun_39 rfl (lv_at hl 3 rfl) ?_
        exact x_iret C S hr h dX10_endOfRun_40
      · have h := it_n c4 h
        refine lv_aload_n hx hb dX10_endOfRun_23 rfl (lv_at hl 0 rfl) ?_
        have hR5 : Ok 194 (R x0 0) 20800 := hSh x0 10 0 20800 hx0.1 rfl
        refine x_getR C S KX10 hx0 0 (by decide) rfl rfl fl_RX10_9 hR5 dX10_endOfRun_24 ?_
        refine lv_iload_n hx hb dX10_endOfRun_27 rfl (lv_at hl 3 rfl) ?_
        obtain ⟨hi6, h⟩ := ck_el h
        refine x_bald (len := 800) C S (by decide) hR5 hi6 dX10_endOfRun_28 ?_
        refine lv_iload_n hx hb dX10_endOfRun_29 rfl (lv_at hl 2 rfl) ?_
        refine lv_icmp_gt (tgt := 39) hx hb dX10_endOfRun_30 (by decide) (fun c7 => ?_) (fun c7 => ?_)
        · have h := it_p c7 h
          refine lv_iload_n hx hb dX10_endOfRun_39 rfl (lv_at hl 3 rfl) ?_
          exact x_iret C S hr h dX10_endOfRun_40
        · have h := it_n c7 h
          refine lv_iinc (v := x3 + 1) (lv' := [(3, .int (x3 + 1)), (0, .ref (gb g + x0)), (1, .int x1), (2, .int x2)]) hx hb dX10_endOfRun_33 hl (k := 3) rfl rfl (by decide) rfl (fun ls hl => ?_)
          refine lv_goto (tgt := 5) hx hb dX10_endOfRun_36 (by decide) ?_
          exact ih σ x0 x1 x2 (x3 + 1) h hx0 H locs ls S (lv_sub hl [1, 2, 3, 0] rfl)
set_option maxHeartbeats 4000000 in
set_option maxRecDepth 100000 in
theorem ok_X10_endOfRun {l : Launch} {g : GL} {R : Nat → Nat → Nat} {L : Nat → Nat → Int64} {N : Nat} {σ : SI} {x0 : Nat} {x1 : Int32} {x2 : Int32} {r : (Int32 × SI)} (h : f_X10_endOfRun N R σ x0 x1 x2 = some r) (hSh : ShR R) (hx0 : Ok 194 x0 10) : Ct l g 1 yX10_endOfRun cX10_endOfRun 4 (some .int) 194 194 0 0 [.ref (gb g + x0), .int x1, .int x2] (mkS σ R L) (PI R L r) := by
  refine Met.ofW (cc := cX10_endOfRun) (maxL := 4) (ret := (some .int)) (by decide) rfl ?_
  intro p e s m args below meth c s₁ B hml hv
  obtain ⟨rfl, hE, hLo, hWd⟩ := hv
  have hr : meth.sig.returnType = (some .int) := B.returns
  have C : Cx l g p s m meth c cX10_endOfRun 4 RX10 := ⟨B.exec, B.bytes, hml, findClass_of_methodNamed B.named, hE, hLo, B.notSynchronized⟩
  have S : S2 g s σ R L s.heap [] := ⟨hWd, va_S.rf⟩
  have hx := C.1
  have hb := C.2.1
  have hl := lv_entry ([.ref (gb g + x0), .int x1, .int x2]) (n := 4) (Nat.le_of_ble_eq_true rfl)
  rw [lg_entry_eq]
  generalize (lg_sl ([.ref (gb g + x0), .int x1, .int x2]) ++ List.replicate (4 - (lg_sl ([.ref (gb g + x0), .int x1, .int x2])).length) Slot.unset).toArray = ls at hl ⊢
  have hl : lv_has ls 4 [(0, .ref (gb g + x0)), (1, .int x1), (2, .int x2)] := hl
  generalize hH : s.heap = H at S ⊢
  generalize hlc : ([] : List Loc) = locs at S ⊢
  rw [f_X10_endOfRun] at h
  refine lv_aload_n hx hb dX10_endOfRun_0 rfl (lv_at hl 0 rfl) ?_
  refine x_getI C S KX10 hx0 2 (by decide) rfl rfl fl_RX10_22 dX10_endOfRun_1 ?_
  refine lv_istore_n (lv' := [(3, .int (σ x0 2)), (0, .ref (gb g + x0)), (1, .int x1), (2, .int x2)]) hx hb dX10_endOfRun_4 rfl hl (by decide) rfl (fun ls hl => ?_)
  exact w_X10_endOfRun_5 C hr hSh N σ x0 x1 x2 (σ x0 2) h hx0 H locs ls S (lv_sub hl [1, 2, 3, 0] rfl)
theorem dX10_atEnd_0 : decode cX10_atEnd 0 = .ok (.aload_n 0, 1) := by decide +kernel
theorem dX10_atEnd_1 : decode cX10_atEnd 1 = .ok (.invokevirtual 28, 3) := by decide +kernel
theorem dX10_atEnd_4 : decode cX10_atEnd 4 = .ok (.aload_n 0, 1) := by decide +kernel
theorem dX10_atEnd_5 : decode cX10_atEnd 5 = .ok (.getfield 22, 3) := by decide +kernel
theorem dX10_atEnd_8 : decode cX10_atEnd 8 = .ok (.aload_n 0, 1) := by decide +kernel
theorem dX10_atEnd_9 : decode cX10_atEnd 9 = .ok (.getfield 19, 3) := by decide +kernel
theorem dX10_atEnd_12 : decode cX10_atEnd 12 = .ok (.if_icmp .lt 7, 3) := by decide +kernel
theorem dX10_atEnd_15 : decode cX10_atEnd 15 = .ok (.iconst 1, 1) := by decide +kernel
theorem dX10_atEnd_16 : decode cX10_atEnd 16 = .ok (.goto 4, 3) := by decide +kernel
theorem dX10_atEnd_19 : decode cX10_atEnd 19 = .ok (.iconst 0, 1) := by decide +kernel
theorem dX10_atEnd_20 : decode cX10_atEnd 20 = .ok (.ireturn, 1) := by decide +kernel
def f_X10_atEnd (N : Nat) (R : Nat → Nat → Nat) (σ : SI) (x0 : Nat) : Option (Int32 × SI) := bd (f_X10_skipSpaces N R σ x0) (fun _ σ1 => if (σ1 x0 2) < (σ1 x0 1) then (some ((0 : Int32), σ1)) else (some ((1 : Int32), σ1)))
set_option maxHeartbeats 4000000 in
set_option maxRecDepth 100000 in
theorem ok_X10_atEnd {l : Launch} {g : GL} {R : Nat → Nat → Nat} {L : Nat → Nat → Int64} {N : Nat} {σ : SI} {x0 : Nat} {r : (Int32 × SI)} (h : f_X10_atEnd N R σ x0 = some r) (hSh : ShR R) (hx0 : Ok 194 x0 10) : Ct l g 2 yX10_atEnd cX10_atEnd 1 (some .boolean) 194 194 0 0 [.ref (gb g + x0)] (mkS σ R L) (PI R L r) := by
  refine Met.ofW (cc := cX10_atEnd) (maxL := 1) (ret := (some .boolean)) (by decide) rfl ?_
  intro p e s m args below meth c s₁ B hml hv
  obtain ⟨rfl, hE, hLo, hWd⟩ := hv
  have hr : meth.sig.returnType = (some .boolean) := B.returns
  have C : Cx l g p s m meth c cX10_atEnd 1 RX10 := ⟨B.exec, B.bytes, hml, findClass_of_methodNamed B.named, hE, hLo, B.notSynchronized⟩
  have S : S2 g s σ R L s.heap [] := ⟨hWd, va_S.rf⟩
  have hx := C.1
  have hb := C.2.1
  have hl := lv_entry ([.ref (gb g + x0)]) (n := 1) (Nat.le_of_ble_eq_true rfl)
  rw [lg_entry_eq]
  generalize (lg_sl ([.ref (gb g + x0)]) ++ List.replicate (1 - (lg_sl ([.ref (gb g + x0)])).length) Slot.unset).toArray = ls at hl ⊢
  have hl : lv_has ls 1 [(0, .ref (gb g + x0))] := hl
  generalize hH : s.heap = H at S ⊢
  generalize hlc : ([] : List Loc) = locs at S ⊢
  rw [f_X10_atEnd] at h
  refine lv_aload_n hx hb dX10_atEnd_0 rfl (lv_at hl 0 rfl) ?_
  obtain ⟨a1, σ1, hc1, h⟩ := bd_el h
  refine x_callVV C S KX10 hx0 (ok_X10_skipSpaces (L := L) hc1 hSh hx0) ⟨cd_X10_skipSpaces, ni_RX10, ml_RX10_28, in_X10_skipSpaces, sl_X10_skipSpaces⟩ ⟨by decide, by decide⟩ rfl ⟨by decide, by decide⟩ hl.1 rfl (Nat.le_of_ble_eq_true rfl) ⟨by decide, by decide⟩ dX10_atEnd_1 (fun H locs S => ?_)
  refine lv_aload_n hx hb dX10_atEnd_4 rfl (lv_at hl 0 rfl) ?_
  refine x_getI C S KX10 hx0 2 (by decide) rfl rfl fl_RX10_22 dX10_atEnd_5 ?_
  refine lv_aload_n hx hb dX10_atEnd_8 rfl (lv_at hl 0 rfl) ?_
  refine x_getI C S KX10 hx0 1 (by decide) rfl rfl fl_RX10_19 dX10_atEnd_9 ?_
  refine lv_icmp_lt (tgt := 19) hx hb dX10_atEnd_12 (by decide) (fun c2 => ?_) (fun c2 => ?_)
  · have h := it_p c2 h
    refine lv_iconst (v := (0 : Int32)) hx hb dX10_atEnd_19 (by decide) ?_
    exact x_zret C S hr (by decide) h dX10_atEnd_20
  · have h := it_n c2 h
    refine lv_iconst (v := (1 : Int32)) hx hb dX10_atEnd_15 (by decide) ?_
    refine lv_goto (tgt := 20) hx hb dX10_atEnd_16 (by decide) ?_
    exact x_zret C S hr (by decide) h dX10_atEnd_20
theorem dX10_numberFollows_0 : decode cX10_numberFollows 0 = .ok (.aload_n 0, 1) := by decide +kernel
theorem dX10_numberFollows_1 : decode cX10_numberFollows 1 = .ok (.invokevirtual 28, 3) := by decide +kernel
theorem dX10_numberFollows_4 : decode cX10_numberFollows 4 = .ok (.aload_n 0, 1) := by decide +kernel
theorem dX10_numberFollows_5 : decode cX10_numberFollows 5 = .ok (.bipush 48, 2) := by decide +kernel
theorem dX10_numberFollows_7 : decode cX10_numberFollows 7 = .ok (.bipush 57, 2) := by decide +kernel
theorem dX10_numberFollows_9 : decode cX10_numberFollows 9 = .ok (.invokevirtual 31, 3) := by decide +kernel
theorem dX10_numberFollows_12 : decode cX10_numberFollows 12 = .ok (.aload_n 0, 1) := by decide +kernel
theorem dX10_numberFollows_13 : decode cX10_numberFollows 13 = .ok (.getfield 22, 3) := by decide +kernel
theorem dX10_numberFollows_16 : decode cX10_numberFollows 16 = .ok (.if_icmp .le 7, 3) := by decide +kernel
theorem dX10_numberFollows_19 : decode cX10_numberFollows 19 = .ok (.iconst 1, 1) := by decide +kernel
theorem dX10_numberFollows_20 : decode cX10_numberFollows 20 = .ok (.goto 4, 3) := by decide +kernel
theorem dX10_numberFollows_23 : decode cX10_numberFollows 23 = .ok (.iconst 0, 1) := by decide +kernel
theorem dX10_numberFollows_24 : decode cX10_numberFollows 24 = .ok (.ireturn, 1) := by decide +kernel
def f_X10_numberFollows (N : Nat) (R : Nat → Nat → Nat) (σ : SI) (x0 : Nat) : Option (Int32 × SI) := bd (f_X10_skipSpaces N R σ x0) (fun _ σ1 => bd (f_X10_endOfRun N R σ1 x0 (48 : Int32) (57 : Int32)) (fun a2 σ2 => if a2 ≤ (σ2 x0 2) then (some ((0 : Int32), σ2)) else (some ((1 : Int32), σ2))))
set_option maxHeartbeats 4000000 in
set_option maxRecDepth 100000 in
theorem ok_X10_numberFollows {l : Launch} {g : GL} {R : Nat → Nat → Nat} {L : Nat → Nat → Int64} {N : Nat} {σ : SI} {x0 : Nat} {r : (Int32 × SI)} (h : f_X10_numberFollows N R σ x0 = some r) (hSh : ShR R) (hx0 : Ok 194 x0 10) : Ct l g 2 yX10_numberFollows cX10_numberFollows 1 (some .boolean) 194 194 0 0 [.ref (gb g + x0)] (mkS σ R L) (PI R L r) := by
  refine Met.ofW (cc := cX10_numberFollows) (maxL := 1) (ret := (some .boolean)) (by decide) rfl ?_
  intro p e s m args below meth c s₁ B hml hv
  obtain ⟨rfl, hE, hLo, hWd⟩ := hv
  have hr : meth.sig.returnType = (some .boolean) := B.returns
  have C : Cx l g p s m meth c cX10_numberFollows 1 RX10 := ⟨B.exec, B.bytes, hml, findClass_of_methodNamed B.named, hE, hLo, B.notSynchronized⟩
  have S : S2 g s σ R L s.heap [] := ⟨hWd, va_S.rf⟩
  have hx := C.1
  have hb := C.2.1
  have hl := lv_entry ([.ref (gb g + x0)]) (n := 1) (Nat.le_of_ble_eq_true rfl)
  rw [lg_entry_eq]
  generalize (lg_sl ([.ref (gb g + x0)]) ++ List.replicate (1 - (lg_sl ([.ref (gb g + x0)])).length) Slot.unset).toArray = ls at hl ⊢
  have hl : lv_has ls 1 [(0, .ref (gb g + x0))] := hl
  generalize hH : s.heap = H at S ⊢
  generalize hlc : ([] : List Loc) = locs at S ⊢
  rw [f_X10_numberFollows] at h
  refine lv_aload_n hx hb dX10_numberFollows_0 rfl (lv_at hl 0 rfl) ?_
  obtain ⟨a1, σ1, hc1, h⟩ := bd_el h
  refine x_callVV C S KX10 hx0 (ok_X10_skipSpaces (L := L) hc1 hSh hx0) ⟨cd_X10_skipSpaces, ni_RX10, ml_RX10_28, in_X10_skipSpaces, sl_X10_skipSpaces⟩ ⟨by decide, by decide⟩ rfl ⟨by decide, by decide⟩ hl.1 rfl (Nat.le_of_ble_eq_true rfl) ⟨by decide, by decide⟩ dX10_numberFollows_1 (fun H locs S => ?_)
  refine lv_aload_n hx hb dX10_numberFollows_4 rfl (lv_at hl 0 rfl) ?_
  refine lv_bipush (v := (48 : Int32)) hx hb dX10_numberFollows_5 (by decide) ?_
  refine lv_bipush (v := (57 : Int32)) hx hb dX10_numberFollows_7 (by decide) ?_
  obtain ⟨a2, σ2, hc2, h⟩ := bd_el h
  refine x_callVI C S KX10 hx0 (ok_X10_endOfRun (L := L) hc2 hSh hx0) ⟨cd_X10_endOfRun, ni_RX10, ml_RX10_31, in_X10_endOfRun, sl_X10_endOfRun⟩ ⟨by decide, by decide⟩ rfl ⟨by decide, by decide⟩ hl.1 rfl (Nat.le_of_ble_eq_true rfl) ⟨by decide, by decide⟩ dX10_numberFollows_9 (fun H locs S => ?_)
  refine lv_aload_n hx hb dX10_numberFollows_12 rfl (lv_at hl 0 rfl) ?_
  refine x_getI C S KX10 hx0 2 (by decide) rfl rfl fl_RX10_22 dX10_numberFollows_13 ?_
  refine lv_icmp_le (tgt := 23) hx hb dX10_numberFollows_16 (by decide) (fun c3 => ?_) (fun c3 => ?_)
  · have h := it_p c3 h
    refine lv_iconst (v := (0 : Int32)) hx hb dX10_numberFollows_23 (by decide) ?_
    exact x_zret C S hr (by decide) h dX10_numberFollows_24
  · have h := it_n c3 h
    refine lv_iconst (v := (1 : Int32)) hx hb dX10_numberFollows_19 (by decide) ?_
    refine lv_goto (tgt := 24) hx hb dX10_numberFollows_20 (by decide) ?_
    exact x_zret C S hr (by decide) h dX10_numberFollows_24
theorem dX10_need_0 : decode cX10_need 0 = .ok (.iload_n 1, 1) := by decide +kernel
theorem dX10_need_1 : decode cX10_need 1 = .ok (.ifCond .ne 12, 3) := by decide +kernel
theorem dX10_need_4 : decode cX10_need 4 = .ok (.aload_n 0, 1) := by decide +kernel
theorem dX10_need_5 : decode cX10_need 5 = .ok (.aload_n 0, 1) := by decide +kernel
theorem dX10_need_6 : decode cX10_need 6 = .ok (.getfield 22, 3) := by decide +kernel
theorem dX10_need_9 : decode cX10_need 9 = .ok (.iconst 1, 1) := by decide +kernel
theorem dX10_need_10 : decode cX10_need 10 = .ok (.invokevirtual 35, 3) := by decide +kernel
theorem dX10_need_13 : decode cX10_need 13 = .ok (.return_, 1) := by decide +kernel
def f_X10_need (N : Nat) (R : Nat → Nat → Nat) (σ : SI) (x0 : Nat) (x1 : Int32) : Option (Unit × SI) := if x1 = 0 then (bd (f_X10_fail N R σ x0 (σ x0 2) (1 : Int32)) (fun _ σ2 => some ((), σ2))) else (some ((), σ))
set_option maxHeartbeats 4000000 in
set_option maxRecDepth 100000 in
theorem ok_X10_need {l : Launch} {g : GL} {R : Nat → Nat → Nat} {L : Nat → Nat → Int64} {N : Nat} {σ : SI} {x0 : Nat} {x1 : Int32} {r : (Unit × SI)} (h : f_X10_need N R σ x0 x1 = some r) (hSh : ShR R) (hx0 : Ok 194 x0 10) : Ct l g 2 yX10_need cX10_need 2 none 194 194 0 0 [.ref (gb g + x0), .int x1] (mkS σ R L) (PV R L r) := by
  refine Met.ofW (cc := cX10_need) (maxL := 2) (ret := none) (by decide) rfl ?_
  intro p e s m args below meth c s₁ B hml hv
  obtain ⟨rfl, hE, hLo, hWd⟩ := hv
  have hr : meth.sig.returnType = none := B.returns
  have C : Cx l g p s m meth c cX10_need 2 RX10 := ⟨B.exec, B.bytes, hml, findClass_of_methodNamed B.named, hE, hLo, B.notSynchronized⟩
  have S : S2 g s σ R L s.heap [] := ⟨hWd, va_S.rf⟩
  have hx := C.1
  have hb := C.2.1
  have hl := lv_entry ([.ref (gb g + x0), .int x1]) (n := 2) (Nat.le_of_ble_eq_true rfl)
  rw [lg_entry_eq]
  generalize (lg_sl ([.ref (gb g + x0), .int x1]) ++ List.replicate (2 - (lg_sl ([.ref (gb g + x0), .int x1])).length) Slot.unset).toArray = ls at hl ⊢
  have hl : lv_has ls 2 [(0, .ref (gb g + x0)), (1, .int x1)] := hl
  generalize hH : s.heap = H at S ⊢
  generalize hlc : ([] : List Loc) = locs at S ⊢
  rw [f_X10_need] at h
  refine lv_iload_n hx hb dX10_need_0 rfl (lv_at hl 1 rfl) ?_
  refine lv_if_ne (tgt := 13) hx hb dX10_need_1 (by decide) (fun c1 => ?_) (fun c1 => ?_)
  · have h := it_n c1 h
    exact x_vret C S hr h dX10_need_13
  · have h := it_p c1 h
    refine lv_aload_n hx hb dX10_need_4 rfl (lv_at hl 0 rfl) ?_
    refine lv_aload_n hx hb dX10_need_5 rfl (lv_at hl 0 rfl) ?_
    refine x_getI C S KX10 hx0 2 (by decide) rfl rfl fl_RX10_22 dX10_need_6 ?_
    refine lv_iconst (v := (1 : Int32)) hx hb dX10_need_9 (by decide) ?_
    obtain ⟨a2, σ2, hc2, h⟩ := bd_el h
    refine x_callVV C S KX10 hx0 (ok_X10_fail (L := L) hc2 hSh hx0) ⟨cd_X10_fail, ni_RX10, ml_RX10_35, in_X10_fail, sl_X10_fail⟩ ⟨by decide, by decide⟩ rfl ⟨by decide, by decide⟩ hl.1 rfl (Nat.le_of_ble_eq_true rfl) ⟨by decide, by decide⟩ dX10_need_10 (fun H locs S => ?_)
    exact x_vret C S hr h dX10_need_13
theorem dX10_tookSemicolon_0 : decode cX10_tookSemicolon 0 = .ok (.aload_n 0, 1) := by decide +kernel
theorem dX10_tookSemicolon_1 : decode cX10_tookSemicolon 1 = .ok (.invokevirtual 28, 3) := by decide +kernel
theorem dX10_tookSemicolon_4 : decode cX10_tookSemicolon 4 = .ok (.aload_n 0, 1) := by decide +kernel
theorem dX10_tookSemicolon_5 : decode cX10_tookSemicolon 5 = .ok (.getfield 22, 3) := by decide +kernel
theorem dX10_tookSemicolon_8 : decode cX10_tookSemicolon 8 = .ok (.aload_n 0, 1) := by decide +kernel
theorem dX10_tookSemicolon_9 : decode cX10_tookSemicolon 9 = .ok (.getfield 19, 3) := by decide +kernel
theorem dX10_tookSemicolon_12 : decode cX10_tookSemicolon 12 = .ok (.if_icmp .ge 29, 3) := by decide +kernel
theorem dX10_tookSemicolon_15 : decode cX10_tookSemicolon 15 = .ok (.aload_n 0, 1) := by decide +kernel
theorem dX10_tookSemicolon_16 : decode cX10_tookSemicolon 16 = .ok (.getfield 9, 3) := by decide +kernel
theorem dX10_tookSemicolon_19 : decode cX10_tookSemicolon 19 = .ok (.aload_n 0, 1) := by decide +kernel
theorem dX10_tookSemicolon_20 : decode cX10_tookSemicolon 20 = .ok (.getfield 22, 3) := by decide +kernel
theorem dX10_tookSemicolon_23 : decode cX10_tookSemicolon 23 = .ok (.baload, 1) := by decide +kernel
theorem dX10_tookSemicolon_24 : decode cX10_tookSemicolon 24 = .ok (.bipush 59, 2) := by decide +kernel
theorem dX10_tookSemicolon_26 : decode cX10_tookSemicolon 26 = .ok (.if_icmp .ne 15, 3) := by decide +kernel
theorem dX10_tookSemicolon_29 : decode cX10_tookSemicolon 29 = .ok (.aload_n 0, 1) := by decide +kernel
theorem dX10_tookSemicolon_30 : decode cX10_tookSemicolon 30 = .ok (.dup, 1) := by decide +kernel
theorem dX10_tookSemicolon_31 : decode cX10_tookSemicolon 31 = .ok (.getfield 22, 3) := by decide +kernel
theorem dX10_tookSemicolon_34 : decode cX10_tookSemicolon 34 = .ok (.iconst 1, 1) := by decide +kernel
theorem dX10_tookSemicolon_35 : decode cX10_tookSemicolon 35 = .ok (.iadd, 1) := by decide +kernel
theorem dX10_tookSemicolon_36 : decode cX10_tookSemicolon 36 = .ok (.putfield 22, 3) := by decide +kernel
theorem dX10_tookSemicolon_39 : decode cX10_tookSemicolon 39 = .ok (.iconst 1, 1) := by decide +kernel
theorem dX10_tookSemicolon_40 : decode cX10_tookSemicolon 40 = .ok (.ireturn, 1) := by decide +kernel
theorem dX10_tookSemicolon_41 : decode cX10_tookSemicolon 41 = .ok (.iconst 0, 1) := by decide +kernel
theorem dX10_tookSemicolon_42 : decode cX10_tookSemicolon 42 = .ok (.ireturn, 1) := by decide +kernel
def f_X10_tookSemicolon (N : Nat) (R : Nat → Nat → Nat) (σ : SI) (x0 : Nat) : Option (Int32 × SI) := bd (f_X10_skipSpaces N R σ x0) (fun _ σ1 => if (σ1 x0 1) ≤ (σ1 x0 2) then (some ((0 : Int32), σ1)) else (ck (σ1 x0 2) 800 (if (σ1 (R x0 0) (σ1 x0 2).toNatClampNeg) = (59 : Int32) then (sq (up σ1 x0 2 ((σ1 x0 2) + (1 : Int32))) (fun σ6 => some ((1 : Int32), σ6))) else (some ((0 : Int32), σ1)))))
set_option maxHeartbeats 4000000 in
set_option maxRecDepth 100000 in
theorem ok_X10_tookSemicolon {l : Launch} {g : GL} {R : Nat → Nat → Nat} {L : Nat → Nat → Int64} {N : Nat} {σ : SI} {x0 : Nat} {r : (Int32 × SI)} (h : f_X10_tookSemicolon N R σ x0 = some r) (hSh : ShR R) (hx0 : Ok 194 x0 10) : Ct l g 2 yX10_tookSemicolon cX10_tookSemicolon 1 (some .boolean) 194 194 0 0 [.ref (gb g + x0)] (mkS σ R L) (PI R L r) := by
  refine Met.ofW (cc := cX10_tookSemicolon) (maxL := 1) (ret := (some .boolean)) (by decide) rfl ?_
  intro p e s m args below meth c s₁ B hml hv
  obtain ⟨rfl, hE, hLo, hWd⟩ := hv
  have hr : meth.sig.returnType = (some .boolean) := B.returns
  have C : Cx l g p s m meth c cX10_tookSemicolon 1 RX10 := ⟨B.exec, B.bytes, hml, findClass_of_methodNamed B.named, hE, hLo, B.notSynchronized⟩
  have S : S2 g s σ R L s.heap [] := ⟨hWd, va_S.rf⟩
  have hx := C.1
  have hb := C.2.1
  have hl := lv_entry ([.ref (gb g + x0)]) (n := 1) (Nat.le_of_ble_eq_true rfl)
  rw [lg_entry_eq]
  generalize (lg_sl ([.ref (gb g + x0)]) ++ List.replicate (1 - (lg_sl ([.ref (gb g + x0)])).length) Slot.unset).toArray = ls at hl ⊢
  have hl : lv_has ls 1 [(0, .ref (gb g + x0))] := hl
  generalize hH : s.heap = H at S ⊢
  generalize hlc : ([] : List Loc) = locs at S ⊢
  rw [f_X10_tookSemicolon] at h
  refine lv_aload_n hx hb dX10_tookSemicolon_0 rfl (lv_at hl 0 rfl) ?_
  obtain ⟨a1, σ1, hc1, h⟩ := bd_el h
  refine x_callVV C S KX10 hx0 (ok_X10_skipSpaces (L := L) hc1 hSh hx0) ⟨cd_X10_skipSpaces, ni_RX10, ml_RX10_28, in_X10_skipSpaces, sl_X10_skipSpaces⟩ ⟨by decide, by decide⟩ rfl ⟨by decide, by decide⟩ hl.1 rfl (Nat.le_of_ble_eq_true rfl) ⟨by decide, by decide⟩ dX10_tookSemicolon_1 (fun H locs S => ?_)
  refine lv_aload_n hx hb dX10_tookSemicolon_4 rfl (lv_at hl 0 rfl) ?_
  refine x_getI C S KX10 hx0 2 (by decide) rfl rfl fl_RX10_22 dX10_tookSemicolon_5 ?_
  refine lv_aload_n hx hb dX10_tookSemicolon_8 rfl (lv_at hl 0 rfl) ?_
  refine x_getI C S KX10 hx0 1 (by decide) rfl rfl fl_RX10_19 dX10_tookSemicolon_9 ?_
  refine lv_icmp_ge (tgt := 41) hx hb dX10_tookSemicolon_12 (by decide) (fun c2 => ?_) (fun c2 => ?_)
  · have h := it_p c2 h
    refine lv_iconst (v := (0 : Int32)) hx hb dX10_tookSemicolon_41 (by decide) ?_
    exact x_zret C S hr (by decide) h dX10_tookSemicolon_42
  · have h := it_n c2 h
    refine lv_aload_n hx hb dX10_tookSemicolon_15 rfl (lv_at hl 0 rfl) ?_
    have hR3 : Ok 194 (R x0 0) 20800 := hSh x0 10 0 20800 hx0.1 rfl
    refine x_getR C S KX10 hx0 0 (by decide) rfl rfl fl_RX10_9 hR3 dX10_tookSemicolon_16 ?_
    refine lv_aload_n hx hb dX10_tookSemicolon_19 rfl (lv_at hl 0 rfl) ?_
    refine x_getI C S KX10 hx0 2 (by decide) rfl rfl fl_RX10_22 dX10_tookSemicolon_20 ?_
    obtain ⟨hi4, h⟩ := ck_el h
    refine x_bald (len := 800) C S (by decide) hR3 hi4 dX10_tookSemicolon_23 ?_
    refine lv_bipush (v := (59 : Int32)) hx hb dX10_tookSemicolon_24 (by decide) ?_
    refine lv_icmp_ne (tgt := 41) hx hb dX10_tookSemicolon_26 (by decide) (fun c5 => ?_) (fun c5 => ?_)
    · have h := it_n c5 h
      refine lv_iconst (v := (0 : Int32)) hx hb dX10_tookSemicolon_41 (by decide) ?_
      exact x_zret C S hr (by decide) h dX10_tookSemicolon_42
    · have h := it_p c5 h
      refine lv_aload_n hx hb dX10_tookSemicolon_29 rfl (lv_at hl 0 rfl) ?_
      refine lv_dup hx hb dX10_tookSemicolon_30 rfl ?_
      refine x_getI C S KX10 hx0 2 (by decide) rfl rfl fl_RX10_22 dX10_tookSemicolon_31 ?_
      refine lv_iconst (v := (1 : Int32)) hx hb dX10_tookSemicolon_34 (by decide) ?_
      refine lv_iadd hx hb dX10_tookSemicolon_35 ?_
      obtain ⟨σ6, hs6, h⟩ := sq_el h
      refine x_putI C S KX10 hx0 2 (by decide) rfl rfl rfl ⟨rfl, rfl⟩ fl_RX10_22 dX10_tookSemicolon_36 hs6 (fun H locs S => ?_)
      refine lv_iconst (v := (1 : Int32)) hx hb dX10_tookSemicolon_39 (by decide) ?_
      exact x_zret C S hr (by decide) h dX10_tookSemicolon_40
theorem dX10_nameUpTo_0 : decode cX10_nameUpTo 0 = .ok (.iconst 0, 1) := by decide +kernel
theorem dX10_nameUpTo_1 : decode cX10_nameUpTo 1 = .ok (.istore_n 2, 1) := by decide +kernel
theorem dX10_nameUpTo_2 : decode cX10_nameUpTo 2 = .ok (.aload_n 0, 1) := by decide +kernel
theorem dX10_nameUpTo_3 : decode cX10_nameUpTo 3 = .ok (.getfield 22, 3) := by decide +kernel
theorem dX10_nameUpTo_6 : decode cX10_nameUpTo 6 = .ok (.istore_n 3, 1) := by decide +kernel
theorem dX10_nameUpTo_7 : decode cX10_nameUpTo 7 = .ok (.iload_n 3, 1) := by decide +kernel
theorem dX10_nameUpTo_8 : decode cX10_nameUpTo 8 = .ok (.iload_n 1, 1) := by decide +kernel
theorem dX10_nameUpTo_9 : decode cX10_nameUpTo 9 = .ok (.if_icmp .ge 26, 3) := by decide +kernel
theorem dX10_nameUpTo_12 : decode cX10_nameUpTo 12 = .ok (.iload_n 2, 1) := by decide +kernel
theorem dX10_nameUpTo_13 : decode cX10_nameUpTo 13 = .ok (.bipush 32, 2) := by decide +kernel
theorem dX10_nameUpTo_15 : decode cX10_nameUpTo 15 = .ok (.imul, 1) := by decide +kernel
theorem dX10_nameUpTo_16 : decode cX10_nameUpTo 16 = .ok (.aload_n 0, 1) := by decide +kernel
theorem dX10_nameUpTo_17 : decode cX10_nameUpTo 17 = .ok (.getfield 9, 3) := by decide +kernel
theorem dX10_nameUpTo_20 : decode cX10_nameUpTo 20 = .ok (.iload_n 3, 1) := by decide +kernel
theorem dX10_nameUpTo_21 : decode cX10_nameUpTo 21 = .ok (.baload, 1) := by decide +kernel
theorem dX10_nameUpTo_22 : decode cX10_nameUpTo 22 = .ok (.iadd, 1) := by decide +kernel
theorem dX10_nameUpTo_23 : decode cX10_nameUpTo 23 = .ok (.bipush 97, 2) := by decide +kernel
theorem dX10_nameUpTo_25 : decode cX10_nameUpTo 25 = .ok (.isub, 1) := by decide +kernel
theorem dX10_nameUpTo_26 : decode cX10_nameUpTo 26 = .ok (.iconst 1, 1) := by decide +kernel
theorem dX10_nameUpTo_27 : decode cX10_nameUpTo 27 = .ok (.iadd, 1) := by decide +kernel
theorem dX10_nameUpTo_28 : decode cX10_nameUpTo 28 = .ok (.istore_n 2, 1) := by decide +kernel
theorem dX10_nameUpTo_29 : decode cX10_nameUpTo 29 = .ok (.iinc 3 1, 3) := by decide +kernel
theorem dX10_nameUpTo_32 : decode cX10_nameUpTo 32 = .ok (.goto (-25), 3) := by decide +kernel
theorem dX10_nameUpTo_35 : decode cX10_nameUpTo 35 = .ok (.iload_n 2, 1) := by decide +kernel
theorem dX10_nameUpTo_36 : decode cX10_nameUpTo 36 = .ok (.ireturn, 1) := by decide +kernel
def f_X10_nameUpTo_7 (N : Nat) (R : Nat → Nat → Nat) : Nat → SI → Nat → Int32 → Int32 → Int32 → Option (Int32 × SI)
  | 0, _, _, _, _, _ => none
  | n + 1, σ, x0, x1, x2, x3 => if x1 ≤ x3 then (some (x2, σ)) else (ck x3 800 (f_X10_nameUpTo_7 N R n σ x0 x1 ((((x2 * (32 : Int32)) + (σ (R x0 0) x3.toNatClampNeg)) - (97 : Int32)) + (1 : Int32)) (x3 + 1)))
def f_X10_nameUpTo (N : Nat) (R : Nat → Nat → Nat) (σ : SI) (x0 : Nat) (x1 : Int32) : Option (Int32 × SI) := f_X10_nameUpTo_7 N R N σ x0 x1 (0 : Int32) (σ x0 2)
set_option maxHeartbeats 4000000 in
set_option maxRecDepth 100000 in
theorem w_X10_nameUpTo_7 {l : Launch} {g : GL} {p : Program} {e : Jvm.Env} {s : State} {m : MethodId} {args : Array Value} {below : List Frame} {meth : Method} {c : Code} {R : Nat → Nat → Nat} {L : Nat → Nat → Int64} {r : (Int32 × SI)} {N : Nat} (C : Cx l g p s m meth c cX10_nameUpTo 4 RX10) (hr : meth.sig.returnType = (some .int)) (hSh : ShR R) : ∀ (n : Nat) (σ : SI) (x0 : Nat) (x1 : Int32) (x2 : Int32) (x3 : Int32), f_X10_nameUpTo_7 N R n σ x0 x1 x2 x3 = some r → Ok 194 x0 10 → ∀ (H : Heap) (locs : List Loc) (ls : Array Slot), S2 g s σ R L H locs → lv_has ls 4 [(0, .ref (gb g + x0)), (1, .int x1), (2, .int x2), (3, .int x3)] → W p l e (rmd 1 0 0) s m args below meth c H locs 0 0 (MQ below (Qg g 194 (PI R L r)) args s 0 0 (gA g)) (F0 m 7 ls []) := by
  have hx := C.1
  have hb := C.2.1
  intro n
  induction n with
  | zero =>
    intro σ x0 x1 x2 x3 h
    cases (show (none : Option (Int32 × SI)) = some r from h)
  | succ n ih =>
    intro σ x0 x1 x2 x3 h hx0 H locs ls S hl
    rw [f_X10_nameUpTo_7] at h
    refine lv_iload_n hx hb dX10_nameUpTo_7 rfl (lv_at hl 3 rfl) ?_
    refine lv_iload_n hx hb dX10_nameUpTo_8 rfl (lv_at hl 1 rfl) ?_
    refine lv_icmp_ge (tgt := 35) hx hb dX10_nameUpTo_9 (by decide) (fun c1 => ?_) (fun c1 => ?_)
    · have h := it_p c1 h
      refine lv_iload_n hx hb dX10_nameUpTo_35 rfl (lv_at hl 2 rfl) ?_
      exact x_iret C S hr h dX10_nameUpTo_36
    · have h := it_n c1 h
      refine lv_iload_n hx hb dX10_nameUpTo_12 rfl (lv_at hl 2 rfl) ?_
      refine lv_bipush (v := (32 : Int32)) hx hb dX10_nameUpTo_13 (by decide) ?_
      refine lv_imul hx hb dX10_nameUpTo_15 ?_
      refine lv_aload_n hx hb dX10_nameUpTo_16 rfl (lv_at hl 0 rfl) ?_
      have hR2 : Ok 194 (R x0 0) 20800 := hSh x0 10 0 20800 hx0.1 rfl
      refine x_getR C S KX10 hx0 0 (by decide) rfl rfl fl_RX10_9 hR2 dX10_nameUpTo_17 ?_
      refine lv_iload_n hx hb dX10_nameUpTo_20 rfl (lv_at hl 3 rfl) ?_
      obtain ⟨hi3, h⟩ := ck_el h
      refine x_bald (len := 800) C S (by decide) hR2 hi3 dX10_nameUpTo_21 ?_
      refine lv_iadd hx hb dX10_nameUpTo_22 ?_
      refine lv_bipush (v := (97 : Int32)) hx hb dX10_nameUpTo_23 (by decide) ?_
      refine lv_isub hx hb dX10_nameUpTo_25 ?_
      refine lv_iconst (v := (1 : Int32)) hx hb dX10_nameUpTo_26 (by decide) ?_
      refine lv_iadd hx hb dX10_nameUpTo_27 ?_
      refine lv_istore_n (lv' := [(2, .int ((((x2 * (32 : Int32)) + (σ (R x0 0) x3.toNatClampNeg)) - (97 : Int32)) + (1 : Int32))), (0, .ref (gb g + x0)), (1, .int x1), (3, .int x3)]) hx hb dX10_nameUpTo_28 rfl hl (by decide) rfl (fun ls hl => ?_)
      refine lv_iinc (v := x3 + 1) (lv' := [(3, .int (x3 + 1)), (2, .int ((((x2 * (32 : Int32)) + (σ (R x0 0) x3.toNatClampNeg)) - (97 : Int32)) + (1 : Int32))), (0, .ref (gb g + x0)), (1, .int x1)]) hx hb dX10_nameUpTo_29 hl (k := 3) rfl rfl (by decide) rfl (fun ls hl => ?_)
      refine lv_goto (tgt := 7) hx hb dX10_nameUpTo_32 (by decide) ?_
      exact ih σ x0 x1 ((((x2 * (32 : Int32)) + (σ (R x0 0) x3.toNatClampNeg)) - (97 : Int32)) + (1 : Int32)) (x3 + 1) h hx0 H locs ls S (lv_sub hl [2, 3, 1, 0] rfl)
set_option maxHeartbeats 4000000 in
set_option maxRecDepth 100000 in
theorem ok_X10_nameUpTo {l : Launch} {g : GL} {R : Nat → Nat → Nat} {L : Nat → Nat → Int64} {N : Nat} {σ : SI} {x0 : Nat} {x1 : Int32} {r : (Int32 × SI)} (h : f_X10_nameUpTo N R σ x0 x1 = some r) (hSh : ShR R) (hx0 : Ok 194 x0 10) : Ct l g 1 yX10_nameUpTo cX10_nameUpTo 4 (some .int) 194 194 0 0 [.ref (gb g + x0), .int x1] (mkS σ R L) (PI R L r) := by
  refine Met.ofW (cc := cX10_nameUpTo) (maxL := 4) (ret := (some .int)) (by decide) rfl ?_
  intro p e s m args below meth c s₁ B hml hv
  obtain ⟨rfl, hE, hLo, hWd⟩ := hv
  have hr : meth.sig.returnType = (some .int) := B.returns
  have C : Cx l g p s m meth c cX10_nameUpTo 4 RX10 := ⟨B.exec, B.bytes, hml, findClass_of_methodNamed B.named, hE, hLo, B.notSynchronized⟩
  have S : S2 g s σ R L s.heap [] := ⟨hWd, va_S.rf⟩
  have hx := C.1
  have hb := C.2.1
  have hl := lv_entry ([.ref (gb g + x0), .int x1]) (n := 4) (Nat.le_of_ble_eq_true rfl)
  rw [lg_entry_eq]
  generalize (lg_sl ([.ref (gb g + x0), .int x1]) ++ List.replicate (4 - (lg_sl ([.ref (gb g + x0), .int x1])).length) Slot.unset).toArray = ls at hl ⊢
  have hl : lv_has ls 4 [(0, .ref (gb g + x0)), (1, .int x1)] := hl
  generalize hH : s.heap = H at S ⊢
  generalize hlc : ([] : List Loc) = locs at S ⊢
  rw [f_X10_nameUpTo] at h
  refine lv_iconst (v := (0 : Int32)) hx hb dX10_nameUpTo_0 (by decide) ?_
  refine lv_istore_n (lv' := [(2, .int (0 : Int32)), (0, .ref (gb g + x0)), (1, .int x1)]) hx hb dX10_nameUpTo_1 rfl hl (by decide) rfl (fun ls hl => ?_)
  refine lv_aload_n hx hb dX10_nameUpTo_2 rfl (lv_at hl 1 rfl) ?_
  refine x_getI C S KX10 hx0 2 (by decide) rfl rfl fl_RX10_22 dX10_nameUpTo_3 ?_
  refine lv_istore_n (lv' := [(3, .int (σ x0 2)), (2, .int (0 : Int32)), (0, .ref (gb g + x0)), (1, .int x1)]) hx hb dX10_nameUpTo_6 rfl hl (by decide) rfl (fun ls hl => ?_)
  exact w_X10_nameUpTo_7 C hr hSh N σ x0 x1 (0 : Int32) (σ x0 2) h hx0 H locs ls S (lv_sub hl [2, 3, 1, 0] rfl)
theorem dX10_valueUpTo_0 : decode cX10_valueUpTo 0 = .ok (.iconst 0, 1) := by decide +kernel
theorem dX10_valueUpTo_1 : decode cX10_valueUpTo 1 = .ok (.istore_n 2, 1) := by decide +kernel
theorem dX10_valueUpTo_2 : decode cX10_valueUpTo 2 = .ok (.aload_n 0, 1) := by decide +kernel
theorem dX10_valueUpTo_3 : decode cX10_valueUpTo 3 = .ok (.getfield 22, 3) := by decide +kernel
theorem dX10_valueUpTo_6 : decode cX10_valueUpTo 6 = .ok (.istore_n 3, 1) := by decide +kernel
theorem dX10_valueUpTo_7 : decode cX10_valueUpTo 7 = .ok (.iload_n 3, 1) := by decide +kernel
theorem dX10_valueUpTo_8 : decode cX10_valueUpTo 8 = .ok (.iload_n 1, 1) := by decide +kernel
theorem dX10_valueUpTo_9 : decode cX10_valueUpTo 9 = .ok (.if_icmp .ge 24, 3) := by decide +kernel
theorem dX10_valueUpTo_12 : decode cX10_valueUpTo 12 = .ok (.iload_n 2, 1) := by decide +kernel
theorem dX10_valueUpTo_13 : decode cX10_valueUpTo 13 = .ok (.bipush 10, 2) := by decide +kernel
theorem dX10_valueUpTo_15 : decode cX10_valueUpTo 15 = .ok (.imul, 1) := by decide +kernel
theorem dX10_valueUpTo_16 : decode cX10_valueUpTo 16 = .ok (.aload_n 0, 1) := by decide +kernel
theorem dX10_valueUpTo_17 : decode cX10_valueUpTo 17 = .ok (.getfield 9, 3) := by decide +kernel
theorem dX10_valueUpTo_20 : decode cX10_valueUpTo 20 = .ok (.iload_n 3, 1) := by decide +kernel
theorem dX10_valueUpTo_21 : decode cX10_valueUpTo 21 = .ok (.baload, 1) := by decide +kernel
theorem dX10_valueUpTo_22 : decode cX10_valueUpTo 22 = .ok (.iadd, 1) := by decide +kernel
theorem dX10_valueUpTo_23 : decode cX10_valueUpTo 23 = .ok (.bipush 48, 2) := by decide +kernel
theorem dX10_valueUpTo_25 : decode cX10_valueUpTo 25 = .ok (.isub, 1) := by decide +kernel
theorem dX10_valueUpTo_26 : decode cX10_valueUpTo 26 = .ok (.istore_n 2, 1) := by decide +kernel
theorem dX10_valueUpTo_27 : decode cX10_valueUpTo 27 = .ok (.iinc 3 1, 3) := by decide +kernel
theorem dX10_valueUpTo_30 : decode cX10_valueUpTo 30 = .ok (.goto (-23), 3) := by decide +kernel
theorem dX10_valueUpTo_33 : decode cX10_valueUpTo 33 = .ok (.iload_n 2, 1) := by decide +kernel
theorem dX10_valueUpTo_34 : decode cX10_valueUpTo 34 = .ok (.ireturn, 1) := by decide +kernel
def f_X10_valueUpTo_7 (N : Nat) (R : Nat → Nat → Nat) : Nat → SI → Nat → Int32 → Int32 → Int32 → Option (Int32 × SI)
  | 0, _, _, _, _, _ => none
  | n + 1, σ, x0, x1, x2, x3 => if x1 ≤ x3 then (some (x2, σ)) else (ck x3 800 (f_X10_valueUpTo_7 N R n σ x0 x1 (((x2 * (10 : Int32)) + (σ (R x0 0) x3.toNatClampNeg)) - (48 : Int32)) (x3 + 1)))
def f_X10_valueUpTo (N : Nat) (R : Nat → Nat → Nat) (σ : SI) (x0 : Nat) (x1 : Int32) : Option (Int32 × SI) := f_X10_valueUpTo_7 N R N σ x0 x1 (0 : Int32) (σ x0 2)
set_option maxHeartbeats 4000000 in
set_option maxRecDepth 100000 in
theorem w_X10_valueUpTo_7 {l : Launch} {g : GL} {p : Program} {e : Jvm.Env} {s : State} {m : MethodId} {args : Array Value} {below : List Frame} {meth : Method} {c : Code} {R : Nat → Nat → Nat} {L : Nat → Nat → Int64} {r : (Int32 × SI)} {N : Nat} (C : Cx l g p s m meth c cX10_valueUpTo 4 RX10) (hr : meth.sig.returnType = (some .int)) (hSh : ShR R) : ∀ (n : Nat) (σ : SI) (x0 : Nat) (x1 : Int32) (x2 : Int32) (x3 : Int32), f_X10_valueUpTo_7 N R n σ x0 x1 x2 x3 = some r → Ok 194 x0 10 → ∀ (H : Heap) (locs : List Loc) (ls : Array Slot), S2 g s σ R L H locs → lv_has ls 4 [(0, .ref (gb g + x0)), (1, .int x1), (2, .int x2), (3, .int x3)] → W p l e (rmd 1 0 0) s m args below meth c H locs 0 0 (MQ below (Qg g 194 (PI R L r)) args s 0 0 (gA g)) (F0 m 7 ls []) := by
  have hx := C.1
  have hb := C.2.1
  intro n
  induction n with
  | zero =>
    intro σ x0 x1 x2 x3 h
    cases (show (none : Option (Int32 × SI)) = some r from h)
  | succ n ih =>
    intro σ x0 x1 x2 x3 h hx0 H locs ls S hl
    rw [f_X10_valueUpTo_7] at h
    refine lv_iload_n hx hb dX10_valueUpTo_7 rfl (lv_at hl 3 rfl) ?_
    refine lv_iload_n hx hb dX10_valueUpTo_8 rfl (lv_at hl 1 rfl) ?_
    refine lv_icmp_ge (tgt := 33) hx hb dX10_valueUpTo_9 (by decide) (fun c1 => ?_) (fun c1 => ?_)
    · have h := it_p c1 h
      refine lv_iload_n hx hb dX10_valueUpTo_33 rfl (lv_at hl 2 rfl) ?_
      exact x_iret C S hr h dX10_valueUpTo_34
    · have h := it_n c1 h
      refine lv_iload_n hx hb dX10_valueUpTo_12 rfl (lv_at hl 2 rfl) ?_
      refine lv_bipush (v := (10 : Int32)) hx hb dX10_valueUpTo_13 (by decide) ?_
      refine lv_imul hx hb dX10_valueUpTo_15 ?_
      refine lv_aload_n hx hb dX10_valueUpTo_16 rfl (lv_at hl 0 rfl) ?_
      have hR2 : Ok 194 (R x0 0) 20800 := hSh x0 10 0 20800 hx0.1 rfl
      refine x_getR C S KX10 hx0 0 (by decide) rfl rfl fl_RX10_9 hR2 dX10_valueUpTo_17 ?_
      refine lv_iload_n hx hb dX10_valueUpTo_20 rfl (lv_at hl 3 rfl) ?_
      obtain ⟨hi3, h⟩ := ck_el h
      refine x_bald (len := 800) C S (by decide) hR2 hi3 dX10_valueUpTo_21 ?_
      refine lv_iadd hx hb dX10_valueUpTo_22 ?_
      refine lv_bipush (v := (48 : Int32)) hx hb dX10_valueUpTo_23 (by decide) ?_
      refine lv_isub hx hb dX10_valueUpTo_25 ?_
      refine lv_istore_n (lv' := [(2, .int (((x2 * (10 : Int32)) + (σ (R x0 0) x3.toNatClampNeg)) - (48 : Int32))), (0, .ref (gb g + x0)), (1, .int x1), (3, .int x3)]) hx hb dX10_valueUpTo_26 rfl hl (by decide) rfl (fun ls hl => ?_)
      refine lv_iinc (v := x3 + 1) (lv' := [(3, .int (x3 + 1)), (2, .int (((x2 * (10 : Int32)) + (σ (R x0 0) x3.toNatClampNeg)) - (48 : Int32))), (0, .ref (gb g + x0)), (1, .int x1)]) hx hb dX10_valueUpTo_27 hl (k := 3) rfl rfl (by decide) rfl (fun ls hl => ?_)
      refine lv_goto (tgt := 7) hx hb dX10_valueUpTo_30 (by decide) ?_
      exact ih σ x0 x1 (((x2 * (10 : Int32)) + (σ (R x0 0) x3.toNatClampNeg)) - (48 : Int32)) (x3 + 1) h hx0 H locs ls S (lv_sub hl [2, 3, 1, 0] rfl)
set_option maxHeartbeats 4000000 in
set_option maxRecDepth 100000 in
theorem ok_X10_valueUpTo {l : Launch} {g : GL} {R : Nat → Nat → Nat} {L : Nat → Nat → Int64} {N : Nat} {σ : SI} {x0 : Nat} {x1 : Int32} {r : (Int32 × SI)} (h : f_X10_valueUpTo N R σ x0 x1 = some r) (hSh : ShR R) (hx0 : Ok 194 x0 10) : Ct l g 1 yX10_valueUpTo cX10_valueUpTo 4 (some .int) 194 194 0 0 [.ref (gb g + x0), .int x1] (mkS σ R L) (PI R L r) := by
  refine Met.ofW (cc := cX10_valueUpTo) (maxL := 4) (ret := (some .int)) (by decide) rfl ?_
  intro p e s m args below meth c s₁ B hml hv
  obtain ⟨rfl, hE, hLo, hWd⟩ := hv
  have hr : meth.sig.returnType = (some .int) := B.returns
  have C : Cx l g p s m meth c cX10_valueUpTo 4 RX10 := ⟨B.exec, B.bytes, hml, findClass_of_methodNamed B.named, hE, hLo, B.notSynchronized⟩
  have S : S2 g s σ R L s.heap [] := ⟨hWd, va_S.rf⟩
  have hx := C.1
  have hb := C.2.1
  have hl := lv_entry ([.ref (gb g + x0), .int x1]) (n := 4) (Nat.le_of_ble_eq_true rfl)
  rw [lg_entry_eq]
  generalize (lg_sl ([.ref (gb g + x0), .int x1]) ++ List.replicate (4 - (lg_sl ([.ref (gb g + x0), .int x1])).length) Slot.unset).toArray = ls at hl ⊢
  have hl : lv_has ls 4 [(0, .ref (gb g + x0)), (1, .int x1)] := hl
  generalize hH : s.heap = H at S ⊢
  generalize hlc : ([] : List Loc) = locs at S ⊢
  rw [f_X10_valueUpTo] at h
  refine lv_iconst (v := (0 : Int32)) hx hb dX10_valueUpTo_0 (by decide) ?_
  refine lv_istore_n (lv' := [(2, .int (0 : Int32)), (0, .ref (gb g + x0)), (1, .int x1)]) hx hb dX10_valueUpTo_1 rfl hl (by decide) rfl (fun ls hl => ?_)
  refine lv_aload_n hx hb dX10_valueUpTo_2 rfl (lv_at hl 1 rfl) ?_
  refine x_getI C S KX10 hx0 2 (by decide) rfl rfl fl_RX10_22 dX10_valueUpTo_3 ?_
  refine lv_istore_n (lv' := [(3, .int (σ x0 2)), (2, .int (0 : Int32)), (0, .ref (gb g + x0)), (1, .int x1)]) hx hb dX10_valueUpTo_6 rfl hl (by decide) rfl (fun ls hl => ?_)
  exact w_X10_valueUpTo_7 C hr hSh N σ x0 x1 (0 : Int32) (σ x0 2) h hx0 H locs ls S (lv_sub hl [2, 3, 1, 0] rfl)
theorem dX11_append_0 : decode cX11_append 0 = .ok (.aload_n 0, 1) := by decide +kernel
theorem dX11_append_1 : decode cX11_append 1 = .ok (.getfield 10, 3) := by decide +kernel
theorem dX11_append_4 : decode cX11_append 4 = .ok (.getfield 68, 3) := by decide +kernel
theorem dX11_append_7 : decode cX11_append 7 = .ok (.astore 6, 2) := by decide +kernel
theorem dX11_append_9 : decode cX11_append 9 = .ok (.aload 6, 2) := by decide +kernel
theorem dX11_append_11 : decode cX11_append 11 = .ok (.bipush 20, 2) := by decide +kernel
theorem dX11_append_13 : decode cX11_append 13 = .ok (.invokevirtual 72, 3) := by decide +kernel
theorem dX11_append_16 : decode cX11_append 16 = .ok (.ifCond .ne 5, 3) := by decide +kernel
theorem dX11_append_19 : decode cX11_append 19 = .ok (.iconst (-1), 1) := by decide +kernel
theorem dX11_append_20 : decode cX11_append 20 = .ok (.ireturn, 1) := by decide +kernel
theorem dX11_append_21 : decode cX11_append 21 = .ok (.aload 6, 2) := by decide +kernel
theorem dX11_append_23 : decode cX11_append 23 = .ok (.iload_n 1, 1) := by decide +kernel
theorem dX11_append_24 : decode cX11_append 24 = .ok (.invokevirtual 78, 3) := by decide +kernel
theorem dX11_append_27 : decode cX11_append 27 = .ok (.aload 6, 2) := by decide +kernel
theorem dX11_append_29 : decode cX11_append 29 = .ok (.iload_n 2, 1) := by decide +kernel
theorem dX11_append_30 : decode cX11_append 30 = .ok (.invokevirtual 78, 3) := by decide +kernel
theorem dX11_append_33 : decode cX11_append 33 = .ok (.aload 6, 2) := by decide +kernel
theorem dX11_append_35 : decode cX11_append 35 = .ok (.iload_n 3, 1) := by decide +kernel
theorem dX11_append_36 : decode cX11_append 36 = .ok (.invokevirtual 78, 3) := by decide +kernel
theorem dX11_append_39 : decode cX11_append 39 = .ok (.aload 6, 2) := by decide +kernel
theorem dX11_append_41 : decode cX11_append 41 = .ok (.iload 4, 2) := by decide +kernel
theorem dX11_append_43 : decode cX11_append 43 = .ok (.invokevirtual 78, 3) := by decide +kernel
theorem dX11_append_46 : decode cX11_append 46 = .ok (.aload 6, 2) := by decide +kernel
theorem dX11_append_48 : decode cX11_append 48 = .ok (.iload 5, 2) := by decide +kernel
theorem dX11_append_50 : decode cX11_append 50 = .ok (.invokevirtual 78, 3) := by decide +kernel
theorem dX11_append_53 : decode cX11_append 53 = .ok (.aload 6, 2) := by decide +kernel
theorem dX11_append_55 : decode cX11_append 55 = .ok (.getfield 82, 3) := by decide +kernel
theorem dX11_append_58 : decode cX11_append 58 = .ok (.ireturn, 1) := by decide +kernel
def f_X11_append (N : Nat) (R : Nat → Nat → Nat) (σ : SI) (x0 : Nat) (x1 : Int32) (x2 : Int32) (x3 : Int32) (x4 : Int32) (x5 : Int32) : Option (Int32 × SI) := bd (f_X10_hasRoom N R σ (R (R x0 0) 0) (20 : Int32)) (fun a3 σ3 => if a3 = 0 then (some ((-1 : Int32), σ3)) else (bd (f_X10_addWord N R σ3 (R (R x0 0) 0) x1) (fun _ σ5 => bd (f_X10_addWord N R σ5 (R (R x0 0) 0) x2) (fun _ σ6 => bd (f_X10_addWord N R σ6 (R (R x0 0) 0) x3) (fun _ σ7 => bd (f_X10_addWord N R σ7 (R (R x0 0) 0) x4) (fun _ σ8 => bd (f_X10_addWord N R σ8 (R (R x0 0) 0) x5) (fun _ σ9 => some (σ9 (R (R x0 0) 0) 1, σ9))))))))
set_option maxHeartbeats 4000000 in
set_option maxRecDepth 100000 in
theorem ok_X11_append {l : Launch} {g : GL} {R : Nat → Nat → Nat} {L : Nat → Nat → Int64} {N : Nat} {σ : SI} {x0 : Nat} {x1 : Int32} {x2 : Int32} {x3 : Int32} {x4 : Int32} {x5 : Int32} {r : (Int32 × SI)} (h : f_X11_append N R σ x0 x1 x2 x3 x4 x5 = some r) (hSh : ShR R) (hx0 : Ok 194 x0 11) : Ct l g 2 yX11_append cX11_append 7 (some .int) 194 194 0 0 [.ref (gb g + x0), .int x1, .int x2, .int x3, .int x4, .int x5] (mkS σ R L) (PI R L r) := by
  refine Met.ofW (cc := cX11_append) (maxL := 7) (ret := (some .int)) (by decide) rfl ?_
  intro p e s m args below meth c s₁ B hml hv
  obtain ⟨rfl, hE, hLo, hWd⟩ := hv
  have hr : meth.sig.returnType = (some .int) := B.returns
  have C : Cx l g p s m meth c cX11_append 7 RX11 := ⟨B.exec, B.bytes, hml, findClass_of_methodNamed B.named, hE, hLo, B.notSynchronized⟩
  have S : S2 g s σ R L s.heap [] := ⟨hWd, va_S.rf⟩
  have hx := C.1
  have hb := C.2.1
  have hl := lv_entry ([.ref (gb g + x0), .int x1, .int x2, .int x3, .int x4, .int x5]) (n := 7) (Nat.le_of_ble_eq_true rfl)
  rw [lg_entry_eq]
  generalize (lg_sl ([.ref (gb g + x0), .int x1, .int x2, .int x3, .int x4, .int x5]) ++ List.replicate (7 - (lg_sl ([.ref (gb g + x0), .int x1, .int x2, .int x3, .int x4, .int x5])).length) Slot.unset).toArray = ls at hl ⊢
  have hl : lv_has ls 7 [(0, .ref (gb g + x0)), (1, .int x1), (2, .int x2), (3, .int x3), (4, .int x4), (5, .int x5)] := hl
  generalize hH : s.heap = H at S ⊢
  generalize hlc : ([] : List Loc) = locs at S ⊢
  rw [f_X11_append] at h
  refine lv_aload_n hx hb dX11_append_0 rfl (lv_at hl 0 rfl) ?_
  have hR1 : Ok 194 (R x0 0) 5 := hSh x0 11 0 5 hx0.1 rfl
  refine x_getR C S KX11 hx0 0 (by decide) rfl rfl fl_RX11_10 hR1 dX11_append_1 ?_
  have hR2 : Ok 194 (R (R x0 0) 0) 10 := hSh (R x0 0) 5 0 10 hR1.1 rfl
  refine x_getR C S KX5 hR1 0 (by decide) rfl rfl fl_RX11_68 hR2 dX11_append_4 ?_
  refine lv_astore (lv' := [(6, .ref (gb g + (R (R x0 0) 0))), (0, .ref (gb g + x0)), (1, .int x1), (2, .int x2), (3, .int x3), (4, .int x4), (5, .int x5)]) hx hb dX11_append_7 hl (by decide) rfl (fun ls hl => ?_)
  refine lv_aload hx hb dX11_append_9 (lv_at hl 0 rfl) ?_
  refine lv_bipush (v := (20 : Int32)) hx hb dX11_append_11 (by decide) ?_
  obtain ⟨a3, σ3, hc3, h⟩ := bd_el h
  refine x_callVI C S KX10 hR2 (ok_X10_hasRoom (L := L) hc3 hSh hR2) ⟨cd_X10_hasRoom, ni_RX10, ml_RX11_72, in_X10_hasRoom, sl_X10_hasRoom⟩ ⟨by decide, by decide⟩ rfl ⟨by decide, by decide⟩ hl.1 rfl (Nat.le_of_ble_eq_true rfl) ⟨by decide, by decide⟩ dX11_append_13 (fun H locs S => ?_)
  refine lv_if_ne (tgt := 21) hx hb dX11_append_16 (by decide) (fun c4 => ?_) (fun c4 => ?_)
  · have h := it_n c4 h
    refine lv_aload hx hb dX11_append_21 (lv_at hl 0 rfl) ?_
    refine lv_iload_n hx hb dX11_append_23 rfl (lv_at hl 2 rfl) ?_
    obtain ⟨a5, σ5, hc5, h⟩ := bd_el h
    refine x_callVV C S KX10 hR2 (ok_X10_addWord (L := L) hc5 hSh hR2) ⟨cd_X10_addWord, ni_RX10, ml_RX11_78, in_X10_addWord, sl_X10_addWord⟩ ⟨by decide, by decide⟩ rfl ⟨by decide, by decide⟩ hl.1 rfl (Nat.le_of_ble_eq_true rfl) ⟨by decide, by decide⟩ dX11_append_24 (fun H locs S => ?_)
    refine lv_aload hx hb dX11_append_27 (lv_at hl 0 rfl) ?_
    refine lv_iload_n hx hb dX11_append_29 rfl (lv_at hl 3 rfl) ?_
    obtain ⟨a6, σ6, hc6, h⟩ := bd_el h
    refine x_callVV C S KX10 hR2 (ok_X10_addWord (L := L) hc6 hSh hR2) ⟨cd_X10_addWord, ni_RX10, ml_RX11_78, in_X10_addWord, sl_X10_addWord⟩ ⟨by decide, by decide⟩ rfl ⟨by decide, by decide⟩ hl.1 rfl (Nat.le_of_ble_eq_true rfl) ⟨by decide, by decide⟩ dX11_append_30 (fun H locs S => ?_)
    refine lv_aload hx hb dX11_append_33 (lv_at hl 0 rfl) ?_
    refine lv_iload_n hx hb dX11_append_35 rfl (lv_at hl 4 rfl) ?_
    obtain ⟨a7, σ7, hc7, h⟩ := bd_el h
    refine x_callVV C S KX10 hR2 (ok_X10_addWord (L := L) hc7 hSh hR2) ⟨cd_X10_addWord, ni_RX10, ml_RX11_78, in_X10_addWord, sl_X10_addWord⟩ ⟨by decide, by decide⟩ rfl ⟨by decide, by decide⟩ hl.1 rfl (Nat.le_of_ble_eq_true rfl) ⟨by decide, by decide⟩ dX11_append_36 (fun H locs S => ?_)
    refine lv_aload hx hb dX11_append_39 (lv_at hl 0 rfl) ?_
    refine lv_iload hx hb dX11_append_41 (lv_at hl 5 rfl) ?_
    obtain ⟨a8, σ8, hc8, h⟩ := bd_el h
    refine x_callVV C S KX10 hR2 (ok_X10_addWord (L := L) hc8 hSh hR2) ⟨cd_X10_addWord, ni_RX10, ml_RX11_78, in_X10_addWord, sl_X10_addWord⟩ ⟨by decide, by decide⟩ rfl ⟨by decide, by decide⟩ hl.1 rfl (Nat.le_of_ble_eq_true rfl) ⟨by decide, by decide⟩ dX11_append_43 (fun H locs S => ?_)
    refine lv_aload hx hb dX11_append_46 (lv_at hl 0 rfl) ?_
    refine lv_iload hx hb dX11_append_48 (lv_at hl 6 rfl) ?_
    obtain ⟨a9, σ9, hc9, h⟩ := bd_el h
    refine x_callVV C S KX10 hR2 (ok_X10_addWord (L := L) hc9 hSh hR2) ⟨cd_X10_addWord, ni_RX10, ml_RX11_78, in_X10_addWord, sl_X10_addWord⟩ ⟨by decide, by decide⟩ rfl ⟨by decide, by decide⟩ hl.1 rfl (Nat.le_of_ble_eq_true rfl) ⟨by decide, by decide⟩ dX11_append_50 (fun H locs S => ?_)
    refine lv_aload hx hb dX11_append_53 (lv_at hl 0 rfl) ?_
    refine x_getI C S KX10 hR2 1 (by decide) rfl rfl fl_RX11_82 dX11_append_55 ?_
    exact x_iret C S hr h dX11_append_58
  · have h := it_p c4 h
    refine lv_iconst (v := (-1 : Int32)) hx hb dX11_append_19 (by decide) ?_
    exact x_iret C S hr h dX11_append_20
theorem dX11_startCount_0 : decode cX11_startCount 0 = .ok (.aload_n 0, 1) := by decide +kernel
theorem dX11_startCount_1 : decode cX11_startCount 1 = .ok (.getfield 61, 3) := by decide +kernel
theorem dX11_startCount_4 : decode cX11_startCount 4 = .ok (.invokevirtual 121, 3) := by decide +kernel
theorem dX11_startCount_7 : decode cX11_startCount 7 = .ok (.ireturn, 1) := by decide +kernel
def f_X11_startCount (N : Nat) (R : Nat → Nat → Nat) (σ : SI) (x0 : Nat) : Option (Int32 × SI) := bd (f_X9_startTotal N R σ (R x0 8)) (fun a2 σ2 => some (a2, σ2))
set_option maxHeartbeats 4000000 in
set_option maxRecDepth 100000 in
theorem ok_X11_startCount {l : Launch} {g : GL} {R : Nat → Nat → Nat} {L : Nat → Nat → Int64} {N : Nat} {σ : SI} {x0 : Nat} {r : (Int32 × SI)} (h : f_X11_startCount N R σ x0 = some r) (hSh : ShR R) (hx0 : Ok 194 x0 11) : Ct l g 3 yX11_startCount cX11_startCount 1 (some .int) 194 194 0 0 [.ref (gb g + x0)] (mkS σ R L) (PI R L r) := by
  refine Met.ofW (cc := cX11_startCount) (maxL := 1) (ret := (some .int)) (by decide) rfl ?_
  intro p e s m args below meth c s₁ B hml hv
  obtain ⟨rfl, hE, hLo, hWd⟩ := hv
  have hr : meth.sig.returnType = (some .int) := B.returns
  have C : Cx l g p s m meth c cX11_startCount 1 RX11 := ⟨B.exec, B.bytes, hml, findClass_of_methodNamed B.named, hE, hLo, B.notSynchronized⟩
  have S : S2 g s σ R L s.heap [] := ⟨hWd, va_S.rf⟩
  have hx := C.1
  have hb := C.2.1
  have hl := lv_entry ([.ref (gb g + x0)]) (n := 1) (Nat.le_of_ble_eq_true rfl)
  rw [lg_entry_eq]
  generalize (lg_sl ([.ref (gb g + x0)]) ++ List.replicate (1 - (lg_sl ([.ref (gb g + x0)])).length) Slot.unset).toArray = ls at hl ⊢
  have hl : lv_has ls 1 [(0, .ref (gb g + x0))] := hl
  generalize hH : s.heap = H at S ⊢
  generalize hlc : ([] : List Loc) = locs at S ⊢
  rw [f_X11_startCount] at h
  refine lv_aload_n hx hb dX11_startCount_0 rfl (lv_at hl 0 rfl) ?_
  have hR1 : Ok 194 (R x0 8) 9 := hSh x0 11 8 9 hx0.1 rfl
  refine x_getR C S KX11 hx0 8 (by decide) rfl rfl fl_RX11_61 hR1 dX11_startCount_1 ?_
  obtain ⟨a2, σ2, hc2, h⟩ := bd_el h
  refine x_callVI C S KX9 hR1 (ok_X9_startTotal (L := L) hc2 hSh hR1) ⟨cd_X9_startTotal, ni_RX9, ml_RX11_121, in_X9_startTotal, sl_X9_startTotal⟩ ⟨by decide, by decide⟩ rfl ⟨by decide, by decide⟩ hl.1 rfl (Nat.le_of_ble_eq_true rfl) ⟨by decide, by decide⟩ dX11_startCount_4 (fun H locs S => ?_)
  exact x_iret C S hr h dX11_startCount_7
theorem dX11_nextBlast_0 : decode cX11_nextBlast 0 = .ok (.aload_n 0, 1) := by decide +kernel
theorem dX11_nextBlast_1 : decode cX11_nextBlast 1 = .ok (.getfield 61, 3) := by decide +kernel
theorem dX11_nextBlast_4 : decode cX11_nextBlast 4 = .ok (.iload_n 1, 1) := by decide +kernel
theorem dX11_nextBlast_5 : decode cX11_nextBlast 5 = .ok (.invokevirtual 254, 3) := by decide +kernel
theorem dX11_nextBlast_8 : decode cX11_nextBlast 8 = .ok (.ireturn, 1) := by decide +kernel
def f_X11_nextBlast (N : Nat) (R : Nat → Nat → Nat) (σ : SI) (x0 : Nat) (x1 : Int32) : Option (Int32 × SI) := bd (f_X9_firstScheduled N R σ (R x0 8) x1) (fun a2 σ2 => some (a2, σ2))
set_option maxHeartbeats 4000000 in
set_option maxRecDepth 100000 in
theorem ok_X11_nextBlast {l : Launch} {g : GL} {R : Nat → Nat → Nat} {L : Nat → Nat → Int64} {N : Nat} {σ : SI} {x0 : Nat} {x1 : Int32} {r : (Int32 × SI)} (h : f_X11_nextBlast N R σ x0 x1 = some r) (hSh : ShR R) (hx0 : Ok 194 x0 11) : Ct l g 2 yX11_nextBlast cX11_nextBlast 2 (some .int) 194 194 0 0 [.ref (gb g + x0), .int x1] (mkS σ R L) (PI R L r) := by
  refine Met.ofW (cc := cX11_nextBlast) (maxL := 2) (ret := (some .int)) (by decide) rfl ?_
  intro p e s m args below meth c s₁ B hml hv
  obtain ⟨rfl, hE, hLo, hWd⟩ := hv
  have hr : meth.sig.returnType = (some .int) := B.returns
  have C : Cx l g p s m meth c cX11_nextBlast 2 RX11 := ⟨B.exec, B.bytes, hml, findClass_of_methodNamed B.named, hE, hLo, B.notSynchronized⟩
  have S : S2 g s σ R L s.heap [] := ⟨hWd, va_S.rf⟩
  have hx := C.1
  have hb := C.2.1
  have hl := lv_entry ([.ref (gb g + x0), .int x1]) (n := 2) (Nat.le_of_ble_eq_true rfl)
  rw [lg_entry_eq]
  generalize (lg_sl ([.ref (gb g + x0), .int x1]) ++ List.replicate (2 - (lg_sl ([.ref (gb g + x0), .int x1])).length) Slot.unset).toArray = ls at hl ⊢
  have hl : lv_has ls 2 [(0, .ref (gb g + x0)), (1, .int x1)] := hl
  generalize hH : s.heap = H at S ⊢
  generalize hlc : ([] : List Loc) = locs at S ⊢
  rw [f_X11_nextBlast] at h
  refine lv_aload_n hx hb dX11_nextBlast_0 rfl (lv_at hl 0 rfl) ?_
  have hR1 : Ok 194 (R x0 8) 9 := hSh x0 11 8 9 hx0.1 rfl
  refine x_getR C S KX11 hx0 8 (by decide) rfl rfl fl_RX11_61 hR1 dX11_nextBlast_1 ?_
  refine lv_iload_n hx hb dX11_nextBlast_4 rfl (lv_at hl 1 rfl) ?_
  obtain ⟨a2, σ2, hc2, h⟩ := bd_el h
  refine x_callVI C S KX9 hR1 (ok_X9_firstScheduled (L := L) hc2 hSh hR1) ⟨cd_X9_firstScheduled, ni_RX9, ml_RX11_254, in_X9_firstScheduled, sl_X9_firstScheduled⟩ ⟨by decide, by decide⟩ rfl ⟨by decide, by decide⟩ hl.1 rfl (Nat.le_of_ble_eq_true rfl) ⟨by decide, by decide⟩ dX11_nextBlast_5 (fun H locs S => ?_)
  exact x_iret C S hr h dX11_nextBlast_8
theorem dX11_recordAction_0 : decode cX11_recordAction 0 = .ok (.aload_n 0, 1) := by decide +kernel
theorem dX11_recordAction_1 : decode cX11_recordAction 1 = .ok (.getfield 19, 3) := by decide +kernel
theorem dX11_recordAction_4 : decode cX11_recordAction 4 = .ok (.aload_n 0, 1) := by decide +kernel
theorem dX11_recordAction_5 : decode cX11_recordAction 5 = .ok (.getfield 61, 3) := by decide +kernel
theorem dX11_recordAction_8 : decode cX11_recordAction 8 = .ok (.invokevirtual 388, 3) := by decide +kernel
theorem dX11_recordAction_11 : decode cX11_recordAction 11 = .ok (.aload_n 0, 1) := by decide +kernel
theorem dX11_recordAction_12 : decode cX11_recordAction 12 = .ok (.getfield 26, 3) := by decide +kernel
theorem dX11_recordAction_15 : decode cX11_recordAction 15 = .ok (.invokevirtual 103, 3) := by decide +kernel
theorem dX11_recordAction_18 : decode cX11_recordAction 18 = .ok (.return_, 1) := by decide +kernel
def f_X11_recordAction (N : Nat) (R : Nat → Nat → Nat) (σ : SI) (x0 : Nat) : Option (Unit × SI) := bd (f_X2_record N R σ (R x0 1) (R x0 8)) (fun _ σ3 => bd (f_X6_forget N R σ3 (R x0 2)) (fun _ σ5 => some ((), σ5)))
set_option maxHeartbeats 4000000 in
set_option maxRecDepth 100000 in
theorem ok_X11_recordAction {l : Launch} {g : GL} {R : Nat → Nat → Nat} {L : Nat → Nat → Int64} {N : Nat} {σ : SI} {x0 : Nat} {r : (Unit × SI)} (h : f_X11_recordAction N R σ x0 = some r) (hSh : ShR R) (hx0 : Ok 194 x0 11) : Ct l g 2 yX11_recordAction cX11_recordAction 1 none 194 194 0 0 [.ref (gb g + x0)] (mkS σ R L) (PV R L r) := by
  refine Met.ofW (cc := cX11_recordAction) (maxL := 1) (ret := none) (by decide) rfl ?_
  intro p e s m args below meth c s₁ B hml hv
  obtain ⟨rfl, hE, hLo, hWd⟩ := hv
  have hr : meth.sig.returnType = none := B.returns
  have C : Cx l g p s m meth c cX11_recordAction 1 RX11 := ⟨B.exec, B.bytes, hml, findClass_of_methodNamed B.named, hE, hLo, B.notSynchronized⟩
  have S : S2 g s σ R L s.heap [] := ⟨hWd, va_S.rf⟩
  have hx := C.1
  have hb := C.2.1
  have hl := lv_entry ([.ref (gb g + x0)]) (n := 1) (Nat.le_of_ble_eq_true rfl)
  rw [lg_entry_eq]
  generalize (lg_sl ([.ref (gb g + x0)]) ++ List.replicate (1 - (lg_sl ([.ref (gb g + x0)])).length) Slot.unset).toArray = ls at hl ⊢
  have hl : lv_has ls 1 [(0, .ref (gb g + x0))] := hl
  generalize hH : s.heap = H at S ⊢
  generalize hlc : ([] : List Loc) = locs at S ⊢
  rw [f_X11_recordAction] at h
  refine lv_aload_n hx hb dX11_recordAction_0 rfl (lv_at hl 0 rfl) ?_
  have hR1 : Ok 194 (R x0 1) 2 := hSh x0 11 1 2 hx0.1 rfl
  refine x_getR C S KX11 hx0 1 (by decide) rfl rfl fl_RX11_19 hR1 dX11_recordAction_1 ?_
  refine lv_aload_n hx hb dX11_recordAction_4 rfl (lv_at hl 0 rfl) ?_
  have hR2 : Ok 194 (R x0 8) 9 := hSh x0 11 8 9 hx0.1 rfl
  refine x_getR C S KX11 hx0 8 (by decide) rfl rfl fl_RX11_61 hR2 dX11_recordAction_5 ?_
  obtain ⟨a3, σ3, hc3, h⟩ := bd_el h
  refine x_callVV C S KX2 hR1 (ok_X2_record (L := L) hc3 hSh hR1 hR2) ⟨cd_X2_record, ni_RX2, ml_RX11_388, in_X2_record, sl_X2_record⟩ ⟨by decide, by decide⟩ rfl ⟨by decide, by decide⟩ hl.1 rfl (Nat.le_of_ble_eq_true rfl) ⟨by decide, by decide⟩ dX11_recordAction_8 (fun H locs S => ?_)
  refine lv_aload_n hx hb dX11_recordAction_11 rfl (lv_at hl 0 rfl) ?_
  have hR4 : Ok 194 (R x0 2) 6 := hSh x0 11 2 6 hx0.1 rfl
  refine x_getR C S KX11 hx0 2 (by decide) rfl rfl fl_RX11_26 hR4 dX11_recordAction_12 ?_
  obtain ⟨a5, σ5, hc5, h⟩ := bd_el h
  refine x_callVV C S KX6 hR4 (ok_X6_forget (L := L) hc5 hSh hR4) ⟨cd_X6_forget, ni_RX6, ml_RX11_103, in_X6_forget, sl_X6_forget⟩ ⟨by decide, by decide⟩ rfl ⟨by decide, by decide⟩ hl.1 rfl (Nat.le_of_ble_eq_true rfl) ⟨by decide, by decide⟩ dX11_recordAction_15 (fun H locs S => ?_)
  exact x_vret C S hr h dX11_recordAction_18
theorem dX12_siren_0 : decode cX12_siren 0 = .ok (.iconst 0, 1) := by decide +kernel
theorem dX12_siren_1 : decode cX12_siren 1 = .ok (.istore_n 2, 1) := by decide +kernel
theorem dX12_siren_2 : decode cX12_siren 2 = .ok (.iload_n 2, 1) := by decide +kernel
theorem dX12_siren_3 : decode cX12_siren 3 = .ok (.aload_n 0, 1) := by decide +kernel
theorem dX12_siren_4 : decode cX12_siren 4 = .ok (.invokevirtual 142, 3) := by decide +kernel
theorem dX12_siren_7 : decode cX12_siren 7 = .ok (.if_icmp .ge 52, 3) := by decide +kernel
theorem dX12_siren_10 : decode cX12_siren 10 = .ok (.iconst 0, 1) := by decide +kernel
theorem dX12_siren_11 : decode cX12_siren 11 = .ok (.istore_n 3, 1) := by decide +kernel
theorem dX12_siren_12 : decode cX12_siren 12 = .ok (.iload_n 3, 1) := by decide +kernel
theorem dX12_siren_13 : decode cX12_siren 13 = .ok (.iconst 3, 1) := by decide +kernel
theorem dX12_siren_14 : decode cX12_siren 14 = .ok (.if_icmp .ge 39, 3) := by decide +kernel
theorem dX12_siren_17 : decode cX12_siren 17 = .ok (.aload_n 0, 1) := by decide +kernel
theorem dX12_siren_18 : decode cX12_siren 18 = .ok (.iload_n 2, 1) := by decide +kernel
theorem dX12_siren_19 : decode cX12_siren 19 = .ok (.invokevirtual 281, 3) := by decide +kernel
theorem dX12_siren_22 : decode cX12_siren 22 = .ok (.iconst (-1), 1) := by decide +kernel
theorem dX12_siren_23 : decode cX12_siren 23 = .ok (.if_icmp .eq 24, 3) := by decide +kernel
theorem dX12_siren_26 : decode cX12_siren 26 = .ok (.aload_n 0, 1) := by decide +kernel
theorem dX12_siren_27 : decode cX12_siren 27 = .ok (.aload_n 0, 1) := by decide +kernel
theorem dX12_siren_28 : decode cX12_siren 28 = .ok (.iload_n 2, 1) := by decide +kernel
theorem dX12_siren_29 : decode cX12_siren 29 = .ok (.iload_n 3, 1) := by decide +kernel
theorem dX12_siren_30 : decode cX12_siren 30 = .ok (.invokevirtual 333, 3) := by decide +kernel
theorem dX12_siren_33 : decode cX12_siren 33 = .ok (.invokevirtual 336, 3) := by decide +kernel
theorem dX12_siren_36 : decode cX12_siren 36 = .ok (.iload_n 1, 1) := by decide +kernel
theorem dX12_siren_37 : decode cX12_siren 37 = .ok (.if_icmp .ne 10, 3) := by decide +kernel
theorem dX12_siren_40 : decode cX12_siren 40 = .ok (.aload_n 0, 1) := by decide +kernel
theorem dX12_siren_41 : decode cX12_siren 41 = .ok (.iload_n 2, 1) := by decide +kernel
theorem dX12_siren_42 : decode cX12_siren 42 = .ok (.iload_n 3, 1) := by decide +kernel
theorem dX12_siren_43 : decode cX12_siren 43 = .ok (.invokevirtual 333, 3) := by decide +kernel
theorem dX12_siren_46 : decode cX12_siren 46 = .ok (.ireturn, 1) := by decide +kernel
theorem dX12_siren_47 : decode cX12_siren 47 = .ok (.iinc 3 1, 3) := by decide +kernel
theorem dX12_siren_50 : decode cX12_siren 50 = .ok (.goto (-38), 3) := by decide +kernel
theorem dX12_siren_53 : decode cX12_siren 53 = .ok (.iinc 2 1, 3) := by decide +kernel
theorem dX12_siren_56 : decode cX12_siren 56 = .ok (.goto (-54), 3) := by decide +kernel
theorem dX12_siren_59 : decode cX12_siren 59 = .ok (.iconst (-1), 1) := by decide +kernel
theorem dX12_siren_60 : decode cX12_siren 60 = .ok (.ireturn, 1) := by decide +kernel
def f_X12_siren_47 (N : Nat) (R : Nat → Nat → Nat) (k2 : SI → Nat → Int32 → Int32 → Option (Int32 × SI)) (k12 : SI → Nat → Int32 → Int32 → Int32 → Option (Int32 × SI)) (σ : SI) (x0 : Nat) (x1 : Int32) (x2 : Int32) (x3 : Int32) : Option (Int32 × SI) := k12 σ x0 x1 x2 (x3 + 1)
def f_X12_siren_12 (N : Nat) (R : Nat → Nat → Nat) (k2 : SI → Nat → Int32 → Int32 → Option (Int32 × SI)) : Nat → SI → Nat → Int32 → Int32 → Int32 → Option (Int32 × SI)
  | 0, _, _, _, _, _ => none
  | n + 1, σ, x0, x1, x2, x3 => if (3 : Int32) ≤ x3 then (k2 σ x0 x1 (x2 + 1)) else (bd (f_X12_time N R σ x0 x2) (fun a4 σ4 => if a4 = (-1 : Int32) then (f_X12_siren_47 N R k2 (fun σ x0 x1 x2 x3 => f_X12_siren_12 N R k2 n σ x0 x1 x2 x3) σ4 x0 x1 x2 x3) else (bd (f_X12_sirenOf N R σ4 x0 x2 x3) (fun a6 σ6 => bd (f_X12_before N R σ6 x0 a6) (fun a7 σ7 => if a7 = x1 then (bd (f_X12_sirenOf N R σ7 x0 x2 x3) (fun a9 σ9 => some (a9, σ9))) else (f_X12_siren_47 N R k2 (fun σ x0 x1 x2 x3 => f_X12_siren_12 N R k2 n σ x0 x1 x2 x3) σ7 x0 x1 x2 x3))))))
def f_X12_siren_2 (N : Nat) (R : Nat → Nat → Nat) : Nat → SI → Nat → Int32 → Int32 → Option (Int32 × SI)
  | 0, _, _, _, _ => none
  | n + 1, σ, x0, x1, x2 => bd (f_X12_blasts N R σ x0) (fun a1 σ1 => if a1 ≤ x2 then (some ((-1 : Int32), σ1)) else (f_X12_siren_12 N R (fun σ x0 x1 x2 => f_X12_siren_2 N R n σ x0 x1 x2) N σ1 x0 x1 x2 (0 : Int32)))
def f_X12_siren (N : Nat) (R : Nat → Nat → Nat) (σ : SI) (x0 : Nat) (x1 : Int32) : Option (Int32 × SI) := f_X12_siren_2 N R N σ x0 x1 (0 : Int32)
set_option maxHeartbeats 4000000 in
set_option maxRecDepth 100000 in
theorem w_X12_siren_47 {l : Launch} {g : GL} {p : Program} {e : Jvm.Env} {s : State} {m : MethodId} {args : Array Value} {below : List Frame} {meth : Method} {c : Code} {R : Nat → Nat → Nat} {L : Nat → Nat → Int64} {r : (Int32 × SI)} {N : Nat} {k2 : SI → Nat → Int32 → Int32 → Option (Int32 × SI)} {k12 : SI → Nat → Int32 → Int32 → Int32 → Option (Int32 × SI)} (C : Cx l g p s m meth c cX12_siren 4 RX12) (hr : meth.sig.returnType = (some .int)) (hSh : ShR R) (hk2 : ∀ (σ : SI) (x0 : Nat) (x1 : Int32) (x2 : Int32), k2 σ x0 x1 x2 = some r → Ok 194 x0 12 → ∀ (H : Heap) (locs : List Loc) (ls : Array Slot), S2 g s σ R L H locs → lv_has ls 4 [(0, .ref (gb g + x0)), (1, .int x1), (2, .int x2)] → W p l e (rmd 4 0 0) s m args below meth c H locs 0 0 (MQ below (Qg g 194 (PI R L r)) args s 0 0 (gA g)) (F0 m 2 ls [])) (hk12 : ∀ (σ : SI) (x0 : Nat) (x1 : Int32) (x2 : Int32) (x3 : Int32), k12 σ x0 x1 x2 x3 = some r → Ok 194 x0 12 → ∀ (H : Heap) (locs : List Loc) (ls : Array Slot), S2 g s σ R L H locs → lv_has ls 4 [(0, .ref (gb g + x0)), (1, .int x1), (2, .int x2), (3, .int x3)] → W p l e (rmd 4 0 0) s m args below meth c H locs 0 0 (MQ below (Qg g 194 (PI R L r)) args s 0 0 (gA g)) (F0 m 12 ls [])) : ∀ (σ : SI) (x0 : Nat) (x1 : Int32) (x2 : Int32) (x3 : Int32), f_X12_siren_47 N R k2 k12 σ x0 x1 x2 x3 = some r → Ok 194 x0 12 → ∀ (H : Heap) (locs : List Loc) (ls : Array Slot), S2 g s σ R L H locs → lv_has ls 4 [(0, .ref (gb g + x0)), (1, .int x1), (2, .int x2), (3, .int x3)] → W p l e (rmd 4 0 0) s m args below meth c H locs 0 0 (MQ below (Qg g 194 (PI R L r)) args s 0 0 (gA g)) (F0 m 47 ls []) := by
  have hx := C.1
  have hb := C.2.1
  intro σ x0 x1 x2 x3 h hx0 H locs ls S hl
  rw [f_X12_siren_47] at h
  refine lv_iinc (v := x3 + 1) (lv' := [(3, .int (x3 + 1)), (0, .ref (gb g + x0)), (1, .int x1), (2, .int x2)]) hx hb dX12_siren_47 hl (k := 3) rfl rfl (by decide) rfl (fun ls hl => ?_)
  refine lv_goto (tgt := 12) hx hb dX12_siren_50 (by decide) ?_
  exact hk12 σ x0 x1 x2 (x3 + 1) h hx0 H locs ls S (lv_sub hl [1, 2, 3, 0] rfl)
set_option maxHeartbeats 4000000 in
set_option maxRecDepth 100000 in
theorem w_X12_siren_12 {l : Launch} {g : GL} {p : Program} {e : Jvm.Env} {s : State} {m : MethodId} {args : Array Value} {below : List Frame} {meth : Method} {c : Code} {R : Nat → Nat → Nat} {L : Nat → Nat → Int64} {r : (Int32 × SI)} {N : Nat} {k2 : SI → Nat → Int32 → Int32 → Option (Int32 × SI)} (C : Cx l g p s m meth c cX12_siren 4 RX12) (hr : meth.sig.returnType = (some .int)) (hSh : ShR R) (hk2 : ∀ (σ : SI) (x0 : Nat) (x1 : Int32) (x2 : Int32), k2 σ x0 x1 x2 = some r → Ok 194 x0 12 → ∀ (H : Heap) (locs : List Loc) (ls : Array Slot), S2 g s σ R L H locs → lv_has ls 4 [(0, .ref (gb g + x0)), (1, .int x1), (2, .int x2)] → W p l e (rmd 4 0 0) s m args below meth c H locs 0 0 (MQ below (Qg g 194 (PI R L r)) args s 0 0 (gA g)) (F0 m 2 ls [])) : ∀ (n : Nat) (σ : SI) (x0 : Nat) (x1 : Int32) (x2 : Int32) (x3 : Int32), f_X12_siren_12 N R k2 n σ x0 x1 x2 x3 = some r → Ok 194 x0 12 → ∀ (H : Heap) (locs : List Loc) (ls : Array Slot), S2 g s σ R L H locs → lv_has ls 4 [(0, .ref (gb g + x0)), (1, .int x1), (2, .int x2), (3, .int x3)] → W p l e (rmd 4 0 0) s m args below meth c H locs 0 0 (MQ below (Qg g 194 (PI R L r)) args s 0 0 (gA g)) (F0 m 12 ls []) := by
  have hx := C.1
  have hb := C.2.1
  intro n
  induction n with
  | zero =>
    intro σ x0 x1 x2 x3 h
    cases (show (none : Option (Int32 × SI)) = some r from h)
  | succ n ih =>
    intro σ x0 x1 x2 x3 h hx0 H locs ls S hl
    rw [f_X12_siren_12] at h
    refine lv_iload_n hx hb dX12_siren_12 rfl (lv_at hl 3 rfl) ?_
    refine lv_iconst (v := (3 : Int32)) hx hb dX12_siren_13 (by decide) ?_
    refine lv_icmp_ge (tgt := 53) hx hb dX12_siren_14 (by decide) (fun c3 => ?_) (fun c3 => ?_)
    · have h := it_p c3 h
      refine lv_iinc (v := x2 + 1) (lv' := [(2, .int (x2 + 1)), (0, .ref (gb g + x0)), (1, .int x1), (3, .int x3)]) hx hb dX12_siren_53 hl (k := 2) rfl rfl (by decide) rfl (fun ls hl => ?_)
      refine lv_goto (tgt := 2) hx hb dX12_siren_56 (by decide) ?_
      exact hk2 σ x0 x1 (x2 + 1) h hx0 H locs ls S (lv_sub hl [1, 2, 0] rfl)
    · have h := it_n c3 h
      refine lv_aload_n hx hb dX12_siren_17 rfl (lv_at hl 0 rfl) ?_
      refine lv_iload_n hx hb dX12_siren_18 rfl (lv_at hl 2 rfl) ?_
      obtain ⟨a4, σ4, hc4, h⟩ := bd_el h
      refine x_callVI C S KX12 hx0 (ok_X12_time (L := L) hc4 hSh hx0) ⟨cd_X12_time, ni_RX12, ml_RX12_281, in_X12_time, sl_X12_time⟩ ⟨by decide, by decide⟩ rfl ⟨by decide, by decide⟩ hl.1 rfl (Nat.le_of_ble_eq_true rfl) ⟨by decide, by decide⟩ dX12_siren_19 (fun H locs S => ?_)
      refine lv_iconst (v := (-1 : Int32)) hx hb dX12_siren_22 (by decide) ?_
      refine lv_icmp_eq (tgt := 47) hx hb dX12_siren_23 (by decide) (fun c5 => ?_) (fun c5 => ?_)
      · have h := it_p c5 h
        exact w_X12_siren_47 C hr hSh hk2 ih σ4 x0 x1 x2 x3 h hx0 H locs ls S (lv_sub hl [0, 1, 2, 3] rfl)
      · have h := it_n c5 h
        refine lv_aload_n hx hb dX12_siren_26 rfl (lv_at hl 0 rfl) ?_
        refine lv_aload_n hx hb dX12_siren_27 rfl (lv_at hl 0 rfl) ?_
        refine lv_iload_n hx hb dX12_siren_28 rfl (lv_at hl 2 rfl) ?_
        refine lv_iload_n hx hb dX12_siren_29 rfl (lv_at hl 3 rfl) ?_
        obtain ⟨a6, σ6, hc6, h⟩ := bd_el h
        refine x_callVI C S KX12 hx0 (ok_X12_sirenOf (L := L) hc6 hSh hx0) ⟨cd_X12_sirenOf, ni_RX12, ml_RX12_333, in_X12_sirenOf, sl_X12_sirenOf⟩ ⟨by decide, by decide⟩ rfl ⟨by decide, by decide⟩ hl.1 rfl (Nat.le_of_ble_eq_true rfl) ⟨by decide, by decide⟩ dX12_siren_30 (fun H locs S => ?_)
        obtain ⟨a7, σ7, hc7, h⟩ := bd_el h
        refine x_callVI C S KX12 hx0 (ok_X12_before (L := L) hc7 hSh hx0) ⟨cd_X12_before, ni_RX12, ml_RX12_336, in_X12_before, sl_X12_before⟩ ⟨by decide, by decide⟩ rfl ⟨by decide, by decide⟩ hl.1 rfl (Nat.le_of_ble_eq_true rfl) ⟨by decide, by decide⟩ dX12_siren_33 (fun H locs S => ?_)
        refine lv_iload_n hx hb dX12_siren_36 rfl (lv_at hl 1 rfl) ?_
        refine lv_icmp_ne (tgt := 47) hx hb dX12_siren_37 (by decide) (fun c8 => ?_) (fun c8 => ?_)
        · have h := it_n c8 h
          exact w_X12_siren_47 C hr hSh hk2 ih σ7 x0 x1 x2 x3 h hx0 H locs ls S (lv_sub hl [0, 1, 2, 3] rfl)
        · have h := it_p c8 h
          refine lv_aload_n hx hb dX12_siren_40 rfl (lv_at hl 0 rfl) ?_
          refine lv_iload_n hx hb dX12_siren_41 rfl (lv_at hl 2 rfl) ?_
          refine lv_iload_n hx hb dX12_siren_42 rfl (lv_at hl 3 rfl) ?_
          obtain ⟨a9, σ9, hc9, h⟩ := bd_el h
          refine x_callVI C S KX12 hx0 (ok_X12_sirenOf (L := L) hc9 hSh hx0) ⟨cd_X12_sirenOf, ni_RX12, ml_RX12_333, in_X12_sirenOf, sl_X12_sirenOf⟩ ⟨by decide, by decide⟩ rfl ⟨by decide, by decide⟩ hl.1 rfl (Nat.le_of_ble_eq_true rfl) ⟨by decide, by decide⟩ dX12_siren_43 (fun H locs S => ?_)
          exact x_iret C S hr h dX12_siren_46
set_option maxHeartbeats 4000000 in
set_option maxRecDepth 100000 in
theorem w_X12_siren_2 {l : Launch} {g : GL} {p : Program} {e : Jvm.Env} {s : State} {m : MethodId} {args : Array Value} {below : List Frame} {meth : Method} {c : Code} {R : Nat → Nat → Nat} {L : Nat → Nat → Int64} {r : (Int32 × SI)} {N : Nat} (C : Cx l g p s m meth c cX12_siren 4 RX12) (hr : meth.sig.returnType = (some .int)) (hSh : ShR R) : ∀ (n : Nat) (σ : SI) (x0 : Nat) (x1 : Int32) (x2 : Int32), f_X12_siren_2 N R n σ x0 x1 x2 = some r → Ok 194 x0 12 → ∀ (H : Heap) (locs : List Loc) (ls : Array Slot), S2 g s σ R L H locs → lv_has ls 4 [(0, .ref (gb g + x0)), (1, .int x1), (2, .int x2)] → W p l e (rmd 4 0 0) s m args below meth c H locs 0 0 (MQ below (Qg g 194 (PI R L r)) args s 0 0 (gA g)) (F0 m 2 ls []) := by
  have hx := C.1
  have hb := C.2.1
  intro n
  induction n with
  | zero =>
    intro σ x0 x1 x2 h
    cases (show (none : Option (Int32 × SI)) = some r from h)
  | succ n ih =>
    intro σ x0 x1 x2 h hx0 H locs ls S hl
    rw [f_X12_siren_2] at h
    refine lv_iload_n hx hb dX12_siren_2 rfl (lv_at hl 2 rfl) ?_
    refine lv_aload_n hx hb dX12_siren_3 rfl (lv_at hl 0 rfl) ?_
    obtain ⟨a1, σ1, hc1, h⟩ := bd_el h
    refine x_callVI C S KX12 hx0 (ok_X12_blasts (L := L) hc1 hSh hx0) ⟨cd_X12_blasts, ni_RX12, ml_RX12_142, in_X12_blasts, sl_X12_blasts⟩ ⟨by decide, by decide⟩ rfl ⟨by decide, by decide⟩ hl.1 rfl (Nat.le_of_ble_eq_true rfl) ⟨by decide, by decide⟩ dX12_siren_4 (fun H locs S => ?_)
    refine lv_icmp_ge (tgt := 59) hx hb dX12_siren_7 (by decide) (fun c2 => ?_) (fun c2 => ?_)
    · have h := it_p c2 h
      refine lv_iconst (v := (-1 : Int32)) hx hb dX12_siren_59 (by decide) ?_
      exact x_iret C S hr h dX12_siren_60
    · have h := it_n c2 h
      refine lv_iconst (v := (0 : Int32)) hx hb dX12_siren_10 (by decide) ?_
      refine lv_istore_n (lv' := [(3, .int (0 : Int32)), (0, .ref (gb g + x0)), (1, .int x1), (2, .int x2)]) hx hb dX12_siren_11 rfl hl (by decide) rfl (fun ls hl => ?_)
      exact w_X12_siren_12 C hr hSh ih N σ1 x0 x1 x2 (0 : Int32) h hx0 H locs ls S (lv_sub hl [1, 2, 3, 0] rfl)
set_option maxHeartbeats 4000000 in
set_option maxRecDepth 100000 in
theorem ok_X12_siren {l : Launch} {g : GL} {R : Nat → Nat → Nat} {L : Nat → Nat → Int64} {N : Nat} {σ : SI} {x0 : Nat} {x1 : Int32} {r : (Int32 × SI)} (h : f_X12_siren N R σ x0 x1 = some r) (hSh : ShR R) (hx0 : Ok 194 x0 12) : Ct l g 4 yX12_siren cX12_siren 4 (some .int) 194 194 0 0 [.ref (gb g + x0), .int x1] (mkS σ R L) (PI R L r) := by
  refine Met.ofW (cc := cX12_siren) (maxL := 4) (ret := (some .int)) (by decide) rfl ?_
  intro p e s m args below meth c s₁ B hml hv
  obtain ⟨rfl, hE, hLo, hWd⟩ := hv
  have hr : meth.sig.returnType = (some .int) := B.returns
  have C : Cx l g p s m meth c cX12_siren 4 RX12 := ⟨B.exec, B.bytes, hml, findClass_of_methodNamed B.named, hE, hLo, B.notSynchronized⟩
  have S : S2 g s σ R L s.heap [] := ⟨hWd, va_S.rf⟩
  have hx := C.1
  have hb := C.2.1
  have hl := lv_entry ([.ref (gb g + x0), .int x1]) (n := 4) (Nat.le_of_ble_eq_true rfl)
  rw [lg_entry_eq]
  generalize (lg_sl ([.ref (gb g + x0), .int x1]) ++ List.replicate (4 - (lg_sl ([.ref (gb g + x0), .int x1])).length) Slot.unset).toArray = ls at hl ⊢
  have hl : lv_has ls 4 [(0, .ref (gb g + x0)), (1, .int x1)] := hl
  generalize hH : s.heap = H at S ⊢
  generalize hlc : ([] : List Loc) = locs at S ⊢
  rw [f_X12_siren] at h
  refine lv_iconst (v := (0 : Int32)) hx hb dX12_siren_0 (by decide) ?_
  refine lv_istore_n (lv' := [(2, .int (0 : Int32)), (0, .ref (gb g + x0)), (1, .int x1)]) hx hb dX12_siren_1 rfl hl (by decide) rfl (fun ls hl => ?_)
  exact w_X12_siren_2 C hr hSh N σ x0 x1 (0 : Int32) h hx0 H locs ls S (lv_sub hl [1, 2, 0] rfl)
theorem dX12_sirenMinute_0 : decode cX12_sirenMinute 0 = .ok (.aload_n 0, 1) := by decide +kernel
theorem dX12_sirenMinute_1 : decode cX12_sirenMinute 1 = .ok (.iconst 0, 1) := by decide +kernel
theorem dX12_sirenMinute_2 : decode cX12_sirenMinute 2 = .ok (.putfield 3, 3) := by decide +kernel
theorem dX12_sirenMinute_5 : decode cX12_sirenMinute 5 = .ok (.aload_n 0, 1) := by decide +kernel
theorem dX12_sirenMinute_6 : decode cX12_sirenMinute 6 = .ok (.iload_n 1, 1) := by decide +kernel
theorem dX12_sirenMinute_7 : decode cX12_sirenMinute 7 = .ok (.invokevirtual 342, 3) := by decide +kernel
theorem dX12_sirenMinute_10 : decode cX12_sirenMinute 10 = .ok (.ifCond .eq 7, 3) := by decide +kernel
theorem dX12_sirenMinute_13 : decode cX12_sirenMinute 13 = .ok (.iconst 0, 1) := by decide +kernel
theorem dX12_sirenMinute_14 : decode cX12_sirenMinute 14 = .ok (.goto 14, 3) := by decide +kernel
theorem dX12_sirenMinute_17 : decode cX12_sirenMinute 17 = .ok (.aload_n 0, 1) := by decide +kernel
theorem dX12_sirenMinute_18 : decode cX12_sirenMinute 18 = .ok (.iload_n 1, 1) := by decide +kernel
theorem dX12_sirenMinute_19 : decode cX12_sirenMinute 19 = .ok (.invokevirtual 345, 3) := by decide +kernel
theorem dX12_sirenMinute_22 : decode cX12_sirenMinute 22 = .ok (.bipush 100, 2) := by decide +kernel
theorem dX12_sirenMinute_24 : decode cX12_sirenMinute 24 = .ok (.idiv, 1) := by decide +kernel
theorem dX12_sirenMinute_25 : decode cX12_sirenMinute 25 = .ok (.bipush 100, 2) := by decide +kernel
theorem dX12_sirenMinute_27 : decode cX12_sirenMinute 27 = .ok (.isub, 1) := by decide +kernel
theorem dX12_sirenMinute_28 : decode cX12_sirenMinute 28 = .ok (.ireturn, 1) := by decide +kernel
def f_X12_sirenMinute (N : Nat) (R : Nat → Nat → Nat) (σ : SI) (x0 : Nat) (x1 : Int32) : Option (Int32 × SI) := sq (up σ x0 0 (0 : Int32)) (fun σ1 => bd (f_X12_noSiren N R σ1 x0 x1) (fun a2 σ2 => if a2 = 0 then (bd (f_X12_siren N R σ2 x0 x1) (fun a4 σ4 => some ((a4 / (100 : Int32)) - (100 : Int32), σ4))) else (some ((0 : Int32), σ2))))
set_option maxHeartbeats 4000000 in
set_option maxRecDepth 100000 in
theorem ok_X12_sirenMinute {l : Launch} {g : GL} {R : Nat → Nat → Nat} {L : Nat → Nat → Int64} {N : Nat} {σ : SI} {x0 : Nat} {x1 : Int32} {r : (Int32 × SI)} (h : f_X12_sirenMinute N R σ x0 x1 = some r) (hSh : ShR R) (hx0 : Ok 194 x0 12) : Ct l g 5 yX12_sirenMinute cX12_sirenMinute 2 (some .int) 194 194 0 0 [.ref (gb g + x0), .int x1] (mkS σ R L) (PI R L r) := by
  refine Met.ofW (cc := cX12_sirenMinute) (maxL := 2) (ret := (some .int)) (by decide) rfl ?_
  intro p e s m args below meth c s₁ B hml hv
  obtain ⟨rfl, hE, hLo, hWd⟩ := hv
  have hr : meth.sig.returnType = (some .int) := B.returns
  have C : Cx l g p s m meth c cX12_sirenMinute 2 RX12 := ⟨B.exec, B.bytes, hml, findClass_of_methodNamed B.named, hE, hLo, B.notSynchronized⟩
  have S : S2 g s σ R L s.heap [] := ⟨hWd, va_S.rf⟩
  have hx := C.1
  have hb := C.2.1
  have hl := lv_entry ([.ref (gb g + x0), .int x1]) (n := 2) (Nat.le_of_ble_eq_true rfl)
  rw [lg_entry_eq]
  generalize (lg_sl ([.ref (gb g + x0), .int x1]) ++ List.replicate (2 - (lg_sl ([.ref (gb g + x0), .int x1])).length) Slot.unset).toArray = ls at hl ⊢
  have hl : lv_has ls 2 [(0, .ref (gb g + x0)), (1, .int x1)] := hl
  generalize hH : s.heap = H at S ⊢
  generalize hlc : ([] : List Loc) = locs at S ⊢
  rw [f_X12_sirenMinute] at h
  refine lv_aload_n hx hb dX12_sirenMinute_0 rfl (lv_at hl 0 rfl) ?_
  refine lv_iconst (v := (0 : Int32)) hx hb dX12_sirenMinute_1 (by decide) ?_
  obtain ⟨σ1, hs1, h⟩ := sq_el h
  refine x_putI C S KX12 hx0 0 (by decide) rfl rfl rfl ⟨rfl, rfl⟩ fl_RX12_3 dX12_sirenMinute_2 hs1 (fun H locs S => ?_)
  refine lv_aload_n hx hb dX12_sirenMinute_5 rfl (lv_at hl 0 rfl) ?_
  refine lv_iload_n hx hb dX12_sirenMinute_6 rfl (lv_at hl 1 rfl) ?_
  obtain ⟨a2, σ2, hc2, h⟩ := bd_el h
  refine x_callVI C S KX12 hx0 (ok_X12_noSiren (L := L) hc2 hSh hx0) ⟨cd_X12_noSiren, ni_RX12, ml_RX12_342, in_X12_noSiren, sl_X12_noSiren⟩ ⟨by decide, by decide⟩ rfl ⟨by decide, by decide⟩ hl.1 rfl (Nat.le_of_ble_eq_true rfl) ⟨by decide, by decide⟩ dX12_sirenMinute_7 (fun H locs S => ?_)
  refine lv_if_eq (tgt := 17) hx hb dX12_sirenMinute_10 (by decide) (fun c3 => ?_) (fun c3 => ?_)
  · have h := it_p c3 h
    refine lv_aload_n hx hb dX12_sirenMinute_17 rfl (lv_at hl 0 rfl) ?_
    refine lv_iload_n hx hb dX12_sirenMinute_18 rfl (lv_at hl 1 rfl) ?_
    obtain ⟨a4, σ4, hc4, h⟩ := bd_el h
    refine x_callVI C S KX12 hx0 (ok_X12_siren (L := L) hc4 hSh hx0) ⟨cd_X12_siren, ni_RX12, ml_RX12_345, in_X12_siren, sl_X12_siren⟩ ⟨by decide, by decide⟩ rfl ⟨by decide, by decide⟩ hl.1 rfl (Nat.le_of_ble_eq_true rfl) ⟨by decide, by decide⟩ dX12_sirenMinute_19 (fun H locs S => ?_)
    refine lv_bipush (v := (100 : Int32)) hx hb dX12_sirenMinute_22 (by decide) ?_
    refine lv_idiv hx hb dX12_sirenMinute_24 (by decide) ?_
    refine lv_bipush (v := (100 : Int32)) hx hb dX12_sirenMinute_25 (by decide) ?_
    refine lv_isub hx hb dX12_sirenMinute_27 ?_
    exact x_iret C S hr h dX12_sirenMinute_28
  · have h := it_n c3 h
    refine lv_iconst (v := (0 : Int32)) hx hb dX12_sirenMinute_13 (by decide) ?_
    refine lv_goto (tgt := 28) hx hb dX12_sirenMinute_14 (by decide) ?_
    exact x_iret C S hr h dX12_sirenMinute_28
theorem dX12_sirenKind_0 : decode cX12_sirenKind 0 = .ok (.aload_n 0, 1) := by decide +kernel
theorem dX12_sirenKind_1 : decode cX12_sirenKind 1 = .ok (.iconst 0, 1) := by decide +kernel
theorem dX12_sirenKind_2 : decode cX12_sirenKind 2 = .ok (.putfield 3, 3) := by decide +kernel
theorem dX12_sirenKind_5 : decode cX12_sirenKind 5 = .ok (.aload_n 0, 1) := by decide +kernel
theorem dX12_sirenKind_6 : decode cX12_sirenKind 6 = .ok (.iload_n 1, 1) := by decide +kernel
theorem dX12_sirenKind_7 : decode cX12_sirenKind 7 = .ok (.invokevirtual 342, 3) := by decide +kernel
theorem dX12_sirenKind_10 : decode cX12_sirenKind 10 = .ok (.ifCond .eq 7, 3) := by decide +kernel
theorem dX12_sirenKind_13 : decode cX12_sirenKind 13 = .ok (.iconst 0, 1) := by decide +kernel
theorem dX12_sirenKind_14 : decode cX12_sirenKind 14 = .ok (.goto 14, 3) := by decide +kernel
theorem dX12_sirenKind_17 : decode cX12_sirenKind 17 = .ok (.aload_n 0, 1) := by decide +kernel
theorem dX12_sirenKind_18 : decode cX12_sirenKind 18 = .ok (.iload_n 1, 1) := by decide +kernel
theorem dX12_sirenKind_19 : decode cX12_sirenKind 19 = .ok (.invokevirtual 345, 3) := by decide +kernel
theorem dX12_sirenKind_22 : decode cX12_sirenKind 22 = .ok (.bipush 10, 2) := by decide +kernel
theorem dX12_sirenKind_24 : decode cX12_sirenKind 24 = .ok (.idiv, 1) := by decide +kernel
theorem dX12_sirenKind_25 : decode cX12_sirenKind 25 = .ok (.bipush 10, 2) := by decide +kernel
theorem dX12_sirenKind_27 : decode cX12_sirenKind 27 = .ok (.irem, 1) := by decide +kernel
theorem dX12_sirenKind_28 : decode cX12_sirenKind 28 = .ok (.ireturn, 1) := by decide +kernel
def f_X12_sirenKind (N : Nat) (R : Nat → Nat → Nat) (σ : SI) (x0 : Nat) (x1 : Int32) : Option (Int32 × SI) := sq (up σ x0 0 (0 : Int32)) (fun σ1 => bd (f_X12_noSiren N R σ1 x0 x1) (fun a2 σ2 => if a2 = 0 then (bd (f_X12_siren N R σ2 x0 x1) (fun a4 σ4 => some ((a4 / (10 : Int32)) - (a4 / (10 : Int32)) / (10 : Int32) * (10 : Int32), σ4))) else (some ((0 : Int32), σ2))))
set_option maxHeartbeats 4000000 in
set_option maxRecDepth 100000 in
theorem ok_X12_sirenKind {l : Launch} {g : GL} {R : Nat → Nat → Nat} {L : Nat → Nat → Int64} {N : Nat} {σ : SI} {x0 : Nat} {x1 : Int32} {r : (Int32 × SI)} (h : f_X12_sirenKind N R σ x0 x1 = some r) (hSh : ShR R) (hx0 : Ok 194 x0 12) : Ct l g 5 yX12_sirenKind cX12_sirenKind 2 (some .int) 194 194 0 0 [.ref (gb g + x0), .int x1] (mkS σ R L) (PI R L r) := by
  refine Met.ofW (cc := cX12_sirenKind) (maxL := 2) (ret := (some .int)) (by decide) rfl ?_
  intro p e s m args below meth c s₁ B hml hv
  obtain ⟨rfl, hE, hLo, hWd⟩ := hv
  have hr : meth.sig.returnType = (some .int) := B.returns
  have C : Cx l g p s m meth c cX12_sirenKind 2 RX12 := ⟨B.exec, B.bytes, hml, findClass_of_methodNamed B.named, hE, hLo, B.notSynchronized⟩
  have S : S2 g s σ R L s.heap [] := ⟨hWd, va_S.rf⟩
  have hx := C.1
  have hb := C.2.1
  have hl := lv_entry ([.ref (gb g + x0), .int x1]) (n := 2) (Nat.le_of_ble_eq_true rfl)
  rw [lg_entry_eq]
  generalize (lg_sl ([.ref (gb g + x0), .int x1]) ++ List.replicate (2 - (lg_sl ([.ref (gb g + x0), .int x1])).length) Slot.unset).toArray = ls at hl ⊢
  have hl : lv_has ls 2 [(0, .ref (gb g + x0)), (1, .int x1)] := hl
  generalize hH : s.heap = H at S ⊢
  generalize hlc : ([] : List Loc) = locs at S ⊢
  rw [f_X12_sirenKind] at h
  refine lv_aload_n hx hb dX12_sirenKind_0 rfl (lv_at hl 0 rfl) ?_
  refine lv_iconst (v := (0 : Int32)) hx hb dX12_sirenKind_1 (by decide) ?_
  obtain ⟨σ1, hs1, h⟩ := sq_el h
  refine x_putI C S KX12 hx0 0 (by decide) rfl rfl rfl ⟨rfl, rfl⟩ fl_RX12_3 dX12_sirenKind_2 hs1 (fun H locs S => ?_)
  refine lv_aload_n hx hb dX12_sirenKind_5 rfl (lv_at hl 0 rfl) ?_
  refine lv_iload_n hx hb dX12_sirenKind_6 rfl (lv_at hl 1 rfl) ?_
  obtain ⟨a2, σ2, hc2, h⟩ := bd_el h
  refine x_callVI C S KX12 hx0 (ok_X12_noSiren (L := L) hc2 hSh hx0) ⟨cd_X12_noSiren, ni_RX12, ml_RX12_342, in_X12_noSiren, sl_X12_noSiren⟩ ⟨by decide, by decide⟩ rfl ⟨by decide, by decide⟩ hl.1 rfl (Nat.le_of_ble_eq_true rfl) ⟨by decide, by decide⟩ dX12_sirenKind_7 (fun H locs S => ?_)
  refine lv_if_eq (tgt := 17) hx hb dX12_sirenKind_10 (by decide) (fun c3 => ?_) (fun c3 => ?_)
  · have h := it_p c3 h
    refine lv_aload_n hx hb dX12_sirenKind_17 rfl (lv_at hl 0 rfl) ?_
    refine lv_iload_n hx hb dX12_sirenKind_18 rfl (lv_at hl 1 rfl) ?_
    obtain ⟨a4, σ4, hc4, h⟩ := bd_el h
    refine x_callVI C S KX12 hx0 (ok_X12_siren (L := L) hc4 hSh hx0) ⟨cd_X12_siren, ni_RX12, ml_RX12_345, in_X12_siren, sl_X12_siren⟩ ⟨by decide, by decide⟩ rfl ⟨by decide, by decide⟩ hl.1 rfl (Nat.le_of_ble_eq_true rfl) ⟨by decide, by decide⟩ dX12_sirenKind_19 (fun H locs S => ?_)
    refine lv_bipush (v := (10 : Int32)) hx hb dX12_sirenKind_22 (by decide) ?_
    refine lv_idiv hx hb dX12_sirenKind_24 (by decide) ?_
    refine lv_bipush (v := (10 : Int32)) hx hb dX12_sirenKind_25 (by decide) ?_
    refine lv_irem hx hb dX12_sirenKind_27 (by decide) ?_
    exact x_iret C S hr h dX12_sirenKind_28
  · have h := it_n c3 h
    refine lv_iconst (v := (0 : Int32)) hx hb dX12_sirenKind_13 (by decide) ?_
    refine lv_goto (tgt := 28) hx hb dX12_sirenKind_14 (by decide) ?_
    exact x_iret C S hr h dX12_sirenKind_28
theorem dX12_sirenBlast_0 : decode cX12_sirenBlast 0 = .ok (.aload_n 0, 1) := by decide +kernel
theorem dX12_sirenBlast_1 : decode cX12_sirenBlast 1 = .ok (.iconst 0, 1) := by decide +kernel
theorem dX12_sirenBlast_2 : decode cX12_sirenBlast 2 = .ok (.putfield 3, 3) := by decide +kernel
theorem dX12_sirenBlast_5 : decode cX12_sirenBlast 5 = .ok (.aload_n 0, 1) := by decide +kernel
theorem dX12_sirenBlast_6 : decode cX12_sirenBlast 6 = .ok (.iload_n 1, 1) := by decide +kernel
theorem dX12_sirenBlast_7 : decode cX12_sirenBlast 7 = .ok (.invokevirtual 342, 3) := by decide +kernel
theorem dX12_sirenBlast_10 : decode cX12_sirenBlast 10 = .ok (.ifCond .eq 7, 3) := by decide +kernel
theorem dX12_sirenBlast_13 : decode cX12_sirenBlast 13 = .ok (.iconst 0, 1) := by decide +kernel
theorem dX12_sirenBlast_14 : decode cX12_sirenBlast 14 = .ok (.goto 11, 3) := by decide +kernel
theorem dX12_sirenBlast_17 : decode cX12_sirenBlast 17 = .ok (.aload_n 0, 1) := by decide +kernel
theorem dX12_sirenBlast_18 : decode cX12_sirenBlast 18 = .ok (.iload_n 1, 1) := by decide +kernel
theorem dX12_sirenBlast_19 : decode cX12_sirenBlast 19 = .ok (.invokevirtual 345, 3) := by decide +kernel
theorem dX12_sirenBlast_22 : decode cX12_sirenBlast 22 = .ok (.bipush 10, 2) := by decide +kernel
theorem dX12_sirenBlast_24 : decode cX12_sirenBlast 24 = .ok (.irem, 1) := by decide +kernel
theorem dX12_sirenBlast_25 : decode cX12_sirenBlast 25 = .ok (.ireturn, 1) := by decide +kernel
def f_X12_sirenBlast (N : Nat) (R : Nat → Nat → Nat) (σ : SI) (x0 : Nat) (x1 : Int32) : Option (Int32 × SI) := sq (up σ x0 0 (0 : Int32)) (fun σ1 => bd (f_X12_noSiren N R σ1 x0 x1) (fun a2 σ2 => if a2 = 0 then (bd (f_X12_siren N R σ2 x0 x1) (fun a4 σ4 => some (a4 - a4 / (10 : Int32) * (10 : Int32), σ4))) else (some ((0 : Int32), σ2))))
set_option maxHeartbeats 4000000 in
set_option maxRecDepth 100000 in
theorem ok_X12_sirenBlast {l : Launch} {g : GL} {R : Nat → Nat → Nat} {L : Nat → Nat → Int64} {N : Nat} {σ : SI} {x0 : Nat} {x1 : Int32} {r : (Int32 × SI)} (h : f_X12_sirenBlast N R σ x0 x1 = some r) (hSh : ShR R) (hx0 : Ok 194 x0 12) : Ct l g 5 yX12_sirenBlast cX12_sirenBlast 2 (some .int) 194 194 0 0 [.ref (gb g + x0), .int x1] (mkS σ R L) (PI R L r) := by
  refine Met.ofW (cc := cX12_sirenBlast) (maxL := 2) (ret := (some .int)) (by decide) rfl ?_
  intro p e s m args below meth c s₁ B hml hv
  obtain ⟨rfl, hE, hLo, hWd⟩ := hv
  have hr : meth.sig.returnType = (some .int) := B.returns
  have C : Cx l g p s m meth c cX12_sirenBlast 2 RX12 := ⟨B.exec, B.bytes, hml, findClass_of_methodNamed B.named, hE, hLo, B.notSynchronized⟩
  have S : S2 g s σ R L s.heap [] := ⟨hWd, va_S.rf⟩
  have hx := C.1
  have hb := C.2.1
  have hl := lv_entry ([.ref (gb g + x0), .int x1]) (n := 2) (Nat.le_of_ble_eq_true rfl)
  rw [lg_entry_eq]
  generalize (lg_sl ([.ref (gb g + x0), .int x1]) ++ List.replicate (2 - (lg_sl ([.ref (gb g + x0), .int x1])).length) Slot.unset).toArray = ls at hl ⊢
  have hl : lv_has ls 2 [(0, .ref (gb g + x0)), (1, .int x1)] := hl
  generalize hH : s.heap = H at S ⊢
  generalize hlc : ([] : List Loc) = locs at S ⊢
  rw [f_X12_sirenBlast] at h
  refine lv_aload_n hx hb dX12_sirenBlast_0 rfl (lv_at hl 0 rfl) ?_
  refine lv_iconst (v := (0 : Int32)) hx hb dX12_sirenBlast_1 (by decide) ?_
  obtain ⟨σ1, hs1, h⟩ := sq_el h
  refine x_putI C S KX12 hx0 0 (by decide) rfl rfl rfl ⟨rfl, rfl⟩ fl_RX12_3 dX12_sirenBlast_2 hs1 (fun H locs S => ?_)
  refine lv_aload_n hx hb dX12_sirenBlast_5 rfl (lv_at hl 0 rfl) ?_
  refine lv_iload_n hx hb dX12_sirenBlast_6 rfl (lv_at hl 1 rfl) ?_
  obtain ⟨a2, σ2, hc2, h⟩ := bd_el h
  refine x_callVI C S KX12 hx0 (ok_X12_noSiren (L := L) hc2 hSh hx0) ⟨cd_X12_noSiren, ni_RX12, ml_RX12_342, in_X12_noSiren, sl_X12_noSiren⟩ ⟨by decide, by decide⟩ rfl ⟨by decide, by decide⟩ hl.1 rfl (Nat.le_of_ble_eq_true rfl) ⟨by decide, by decide⟩ dX12_sirenBlast_7 (fun H locs S => ?_)
  refine lv_if_eq (tgt := 17) hx hb dX12_sirenBlast_10 (by decide) (fun c3 => ?_) (fun c3 => ?_)
  · have h := it_p c3 h
    refine lv_aload_n hx hb dX12_sirenBlast_17 rfl (lv_at hl 0 rfl) ?_
    refine lv_iload_n hx hb dX12_sirenBlast_18 rfl (lv_at hl 1 rfl) ?_
    obtain ⟨a4, σ4, hc4, h⟩ := bd_el h
    refine x_callVI C S KX12 hx0 (ok_X12_siren (L := L) hc4 hSh hx0) ⟨cd_X12_siren, ni_RX12, ml_RX12_345, in_X12_siren, sl_X12_siren⟩ ⟨by decide, by decide⟩ rfl ⟨by decide, by decide⟩ hl.1 rfl (Nat.le_of_ble_eq_true rfl) ⟨by decide, by decide⟩ dX12_sirenBlast_19 (fun H locs S => ?_)
    refine lv_bipush (v := (10 : Int32)) hx hb dX12_sirenBlast_22 (by decide) ?_
    refine lv_irem hx hb dX12_sirenBlast_24 (by decide) ?_
    exact x_iret C S hr h dX12_sirenBlast_25
  · have h := it_n c3 h
    refine lv_iconst (v := (0 : Int32)) hx hb dX12_sirenBlast_13 (by decide) ?_
    refine lv_goto (tgt := 25) hx hb dX12_sirenBlast_14 (by decide) ?_
    exact x_iret C S hr h dX12_sirenBlast_25
theorem dX1_addTime_0 : decode cX1_addTime 0 = .ok (.iload_n 1, 1) := by decide +kernel
theorem dX1_addTime_1 : decode cX1_addTime 1 = .ok (.iconst (-1), 1) := by decide +kernel
theorem dX1_addTime_2 : decode cX1_addTime 2 = .ok (.if_icmp .ne 10, 3) := by decide +kernel
theorem dX1_addTime_5 : decode cX1_addTime 5 = .ok (.aload_n 0, 1) := by decide +kernel
theorem dX1_addTime_6 : decode cX1_addTime 6 = .ok (.bipush 45, 2) := by decide +kernel
theorem dX1_addTime_8 : decode cX1_addTime 8 = .ok (.invokevirtual 23, 3) := by decide +kernel
theorem dX1_addTime_11 : decode cX1_addTime 11 = .ok (.return_, 1) := by decide +kernel
theorem dX1_addTime_12 : decode cX1_addTime 12 = .ok (.aload_n 0, 1) := by decide +kernel
theorem dX1_addTime_13 : decode cX1_addTime 13 = .ok (.iload_n 1, 1) := by decide +kernel
theorem dX1_addTime_14 : decode cX1_addTime 14 = .ok (.bipush 60, 2) := by decide +kernel
theorem dX1_addTime_16 : decode cX1_addTime 16 = .ok (.idiv, 1) := by decide +kernel
theorem dX1_addTime_17 : decode cX1_addTime 17 = .ok (.invokevirtual 34, 3) := by decide +kernel
theorem dX1_addTime_20 : decode cX1_addTime 20 = .ok (.aload_n 0, 1) := by decide +kernel
theorem dX1_addTime_21 : decode cX1_addTime 21 = .ok (.bipush 58, 2) := by decide +kernel
theorem dX1_addTime_23 : decode cX1_addTime 23 = .ok (.invokevirtual 23, 3) := by decide +kernel
theorem dX1_addTime_26 : decode cX1_addTime 26 = .ok (.aload_n 0, 1) := by decide +kernel
theorem dX1_addTime_27 : decode cX1_addTime 27 = .ok (.bipush 48, 2) := by decide +kernel
theorem dX1_addTime_29 : decode cX1_addTime 29 = .ok (.iload_n 1, 1) := by decide +kernel
theorem dX1_addTime_30 : decode cX1_addTime 30 = .ok (.bipush 60, 2) := by decide +kernel
theorem dX1_addTime_32 : decode cX1_addTime 32 = .ok (.irem, 1) := by decide +kernel
theorem dX1_addTime_33 : decode cX1_addTime 33 = .ok (.bipush 10, 2) := by decide +kernel
theorem dX1_addTime_35 : decode cX1_addTime 35 = .ok (.idiv, 1) := by decide +kernel
theorem dX1_addTime_36 : decode cX1_addTime 36 = .ok (.iadd, 1) := by decide +kernel
theorem dX1_addTime_37 : decode cX1_addTime 37 = .ok (.invokevirtual 23, 3) := by decide +kernel
theorem dX1_addTime_40 : decode cX1_addTime 40 = .ok (.aload_n 0, 1) := by decide +kernel
theorem dX1_addTime_41 : decode cX1_addTime 41 = .ok (.bipush 48, 2) := by decide +kernel
theorem dX1_addTime_43 : decode cX1_addTime 43 = .ok (.iload_n 1, 1) := by decide +kernel
theorem dX1_addTime_44 : decode cX1_addTime 44 = .ok (.bipush 10, 2) := by decide +kernel
theorem dX1_addTime_46 : decode cX1_addTime 46 = .ok (.irem, 1) := by decide +kernel
theorem dX1_addTime_47 : decode cX1_addTime 47 = .ok (.iadd, 1) := by decide +kernel
theorem dX1_addTime_48 : decode cX1_addTime 48 = .ok (.invokevirtual 23, 3) := by decide +kernel
theorem dX1_addTime_51 : decode cX1_addTime 51 = .ok (.return_, 1) := by decide +kernel
def f_X1_addTime (N : Nat) (R : Nat → Nat → Nat) (σ : SI) (x0 : Nat) (x1 : Int32) : Option (Unit × SI) := if x1 = (-1 : Int32) then (bd (f_X1_add N R σ x0 (45 : Int32)) (fun _ σ6 => some ((), σ6))) else (bd (f_X1_addNumber N R σ x0 (x1 / (60 : Int32))) (fun _ σ2 => bd (f_X1_add N R σ2 x0 (58 : Int32)) (fun _ σ3 => bd (f_X1_add N R σ3 x0 ((48 : Int32) + ((x1 - x1 / (60 : Int32) * (60 : Int32)) / (10 : Int32)))) (fun _ σ4 => bd (f_X1_add N R σ4 x0 ((48 : Int32) + (x1 - x1 / (10 : Int32) * (10 : Int32)))) (fun _ σ5 => some ((), σ5))))))
set_option maxHeartbeats 4000000 in
set_option maxRecDepth 100000 in
theorem ok_X1_addTime {l : Launch} {g : GL} {R : Nat → Nat → Nat} {L : Nat → Nat → Int64} {N : Nat} {σ : SI} {x0 : Nat} {x1 : Int32} {r : (Unit × SI)} (h : f_X1_addTime N R σ x0 x1 = some r) (hSh : ShR R) (hx0 : Ok 194 x0 1) : Ct l g 3 yX1_addTime cX1_addTime 2 none 194 194 0 0 [.ref (gb g + x0), .int x1] (mkS σ R L) (PV R L r) := by
  refine Met.ofW (cc := cX1_addTime) (maxL := 2) (ret := none) (by decide) rfl ?_
  intro p e s m args below meth c s₁ B hml hv
  obtain ⟨rfl, hE, hLo, hWd⟩ := hv
  have hr : meth.sig.returnType = none := B.returns
  have C : Cx l g p s m meth c cX1_addTime 2 RX1 := ⟨B.exec, B.bytes, hml, findClass_of_methodNamed B.named, hE, hLo, B.notSynchronized⟩
  have S : S2 g s σ R L s.heap [] := ⟨hWd, va_S.rf⟩
  have hx := C.1
  have hb := C.2.1
  have hl := lv_entry ([.ref (gb g + x0), .int x1]) (n := 2) (Nat.le_of_ble_eq_true rfl)
  rw [lg_entry_eq]
  generalize (lg_sl ([.ref (gb g + x0), .int x1]) ++ List.replicate (2 - (lg_sl ([.ref (gb g + x0), .int x1])).length) Slot.unset).toArray = ls at hl ⊢
  have hl : lv_has ls 2 [(0, .ref (gb g + x0)), (1, .int x1)] := hl
  generalize hH : s.heap = H at S ⊢
  generalize hlc : ([] : List Loc) = locs at S ⊢
  rw [f_X1_addTime] at h
  refine lv_iload_n hx hb dX1_addTime_0 rfl (lv_at hl 1 rfl) ?_
  refine lv_iconst (v := (-1 : Int32)) hx hb dX1_addTime_1 (by decide) ?_
  refine lv_icmp_ne (tgt := 12) hx hb dX1_addTime_2 (by decide) (fun c1 => ?_) (fun c1 => ?_)
  · have h := it_n c1 h
    refine lv_aload_n hx hb dX1_addTime_12 rfl (lv_at hl 0 rfl) ?_
    refine lv_iload_n hx hb dX1_addTime_13 rfl (lv_at hl 1 rfl) ?_
    refine lv_bipush (v := (60 : Int32)) hx hb dX1_addTime_14 (by decide) ?_
    refine lv_idiv hx hb dX1_addTime_16 (by decide) ?_
    obtain ⟨a2, σ2, hc2, h⟩ := bd_el h
    refine x_callVV C S KX1 hx0 (ok_X1_addNumber (L := L) hc2 hSh hx0) ⟨cd_X1_addNumber, ni_RX1, ml_RX1_34, in_X1_addNumber, sl_X1_addNumber⟩ ⟨by decide, by decide⟩ rfl ⟨by decide, by decide⟩ hl.1 rfl (Nat.le_of_ble_eq_true rfl) ⟨by decide, by decide⟩ dX1_addTime_17 (fun H locs S => ?_)
    refine lv_aload_n hx hb dX1_addTime_20 rfl (lv_at hl 0 rfl) ?_
    refine lv_bipush (v := (58 : Int32)) hx hb dX1_addTime_21 (by decide) ?_
    obtain ⟨a3, σ3, hc3, h⟩ := bd_el h
    refine x_callVV C S KX1 hx0 (ok_X1_add (L := L) hc3 hSh hx0) ⟨cd_X1_add, ni_RX1, ml_RX1_23, in_X1_add, sl_X1_add⟩ ⟨by decide, by decide⟩ rfl ⟨by decide, by decide⟩ hl.1 rfl (Nat.le_of_ble_eq_true rfl) ⟨by decide, by decide⟩ dX1_addTime_23 (fun H locs S => ?_)
    refine lv_aload_n hx hb dX1_addTime_26 rfl (lv_at hl 0 rfl) ?_
    refine lv_bipush (v := (48 : Int32)) hx hb dX1_addTime_27 (by decide) ?_
    refine lv_iload_n hx hb dX1_addTime_29 rfl (lv_at hl 1 rfl) ?_
    refine lv_bipush (v := (60 : Int32)) hx hb dX1_addTime_30 (by decide) ?_
    refine lv_irem hx hb dX1_addTime_32 (by decide) ?_
    refine lv_bipush (v := (10 : Int32)) hx hb dX1_addTime_33 (by decide) ?_
    refine lv_idiv hx hb dX1_addTime_35 (by decide) ?_
    refine lv_iadd hx hb dX1_addTime_36 ?_
    obtain ⟨a4, σ4, hc4, h⟩ := bd_el h
    refine x_callVV C S KX1 hx0 (ok_X1_add (L := L) hc4 hSh hx0) ⟨cd_X1_add, ni_RX1, ml_RX1_23, in_X1_add, sl_X1_add⟩ ⟨by decide, by decide⟩ rfl ⟨by decide, by decide⟩ hl.1 rfl (Nat.le_of_ble_eq_true rfl) ⟨by decide, by decide⟩ dX1_addTime_37 (fun H locs S => ?_)
    refine lv_aload_n hx hb dX1_addTime_40 rfl (lv_at hl 0 rfl) ?_
    refine lv_bipush (v := (48 : Int32)) hx hb dX1_addTime_41 (by decide) ?_
    refine lv_iload_n hx hb dX1_addTime_43 rfl (lv_at hl 1 rfl) ?_
    refine lv_bipush (v := (10 : Int32)) hx hb dX1_addTime_44 (by decide) ?_
    refine lv_irem hx hb dX1_addTime_46 (by decide) ?_
    refine lv_iadd hx hb dX1_addTime_47 ?_
    obtain ⟨a5, σ5, hc5, h⟩ := bd_el h
    refine x_callVV C S KX1 hx0 (ok_X1_add (L := L) hc5 hSh hx0) ⟨cd_X1_add, ni_RX1, ml_RX1_23, in_X1_add, sl_X1_add⟩ ⟨by decide, by decide⟩ rfl ⟨by decide, by decide⟩ hl.1 rfl (Nat.le_of_ble_eq_true rfl) ⟨by decide, by decide⟩ dX1_addTime_48 (fun H locs S => ?_)
    exact x_vret C S hr h dX1_addTime_51
  · have h := it_p c1 h
    refine lv_aload_n hx hb dX1_addTime_5 rfl (lv_at hl 0 rfl) ?_
    refine lv_bipush (v := (45 : Int32)) hx hb dX1_addTime_6 (by decide) ?_
    obtain ⟨a6, σ6, hc6, h⟩ := bd_el h
    refine x_callVV C S KX1 hx0 (ok_X1_add (L := L) hc6 hSh hx0) ⟨cd_X1_add, ni_RX1, ml_RX1_23, in_X1_add, sl_X1_add⟩ ⟨by decide, by decide⟩ rfl ⟨by decide, by decide⟩ hl.1 rfl (Nat.le_of_ble_eq_true rfl) ⟨by decide, by decide⟩ dX1_addTime_8 (fun H locs S => ?_)
    exact x_vret C S hr h dX1_addTime_11
theorem dX2_restore_0 : decode cX2_restore 0 = .ok (.aload_n 0, 1) := by decide +kernel
theorem dX2_restore_1 : decode cX2_restore 1 = .ok (.aload_n 0, 1) := by decide +kernel
theorem dX2_restore_2 : decode cX2_restore 2 = .ok (.getfield 20, 3) := by decide +kernel
theorem dX2_restore_5 : decode cX2_restore 5 = .ok (.bipush 16, 2) := by decide +kernel
theorem dX2_restore_7 : decode cX2_restore 7 = .ok (.iadd, 1) := by decide +kernel
theorem dX2_restore_8 : decode cX2_restore 8 = .ok (.iconst 1, 1) := by decide +kernel
theorem dX2_restore_9 : decode cX2_restore 9 = .ok (.isub, 1) := by decide +kernel
theorem dX2_restore_10 : decode cX2_restore 10 = .ok (.bipush 16, 2) := by decide +kernel
theorem dX2_restore_12 : decode cX2_restore 12 = .ok (.irem, 1) := by decide +kernel
theorem dX2_restore_13 : decode cX2_restore 13 = .ok (.putfield 20, 3) := by decide +kernel
theorem dX2_restore_16 : decode cX2_restore 16 = .ok (.aload_n 0, 1) := by decide +kernel
theorem dX2_restore_17 : decode cX2_restore 17 = .ok (.dup, 1) := by decide +kernel
theorem dX2_restore_18 : decode cX2_restore 18 = .ok (.getfield 16, 3) := by decide +kernel
theorem dX2_restore_21 : decode cX2_restore 21 = .ok (.iconst 1, 1) := by decide +kernel
theorem dX2_restore_22 : decode cX2_restore 22 = .ok (.isub, 1) := by decide +kernel
theorem dX2_restore_23 : decode cX2_restore 23 = .ok (.putfield 16, 3) := by decide +kernel
theorem dX2_restore_26 : decode cX2_restore 26 = .ok (.aload_n 0, 1) := by decide +kernel
theorem dX2_restore_27 : decode cX2_restore 27 = .ok (.getfield 13, 3) := by decide +kernel
theorem dX2_restore_30 : decode cX2_restore 30 = .ok (.aload_n 0, 1) := by decide +kernel
theorem dX2_restore_31 : decode cX2_restore 31 = .ok (.getfield 20, 3) := by decide +kernel
theorem dX2_restore_34 : decode cX2_restore 34 = .ok (.aaload, 1) := by decide +kernel
theorem dX2_restore_35 : decode cX2_restore 35 = .ok (.astore_n 2, 1) := by decide +kernel
theorem dX2_restore_36 : decode cX2_restore 36 = .ok (.iconst 0, 1) := by decide +kernel
theorem dX2_restore_37 : decode cX2_restore 37 = .ok (.istore_n 3, 1) := by decide +kernel
theorem dX2_restore_38 : decode cX2_restore 38 = .ok (.iload_n 3, 1) := by decide +kernel
theorem dX2_restore_39 : decode cX2_restore 39 = .ok (.aload_n 1, 1) := by decide +kernel
theorem dX2_restore_40 : decode cX2_restore 40 = .ok (.getfield 23, 3) := by decide +kernel
theorem dX2_restore_43 : decode cX2_restore 43 = .ok (.if_icmp .ge 91, 3) := by decide +kernel
theorem dX2_restore_46 : decode cX2_restore 46 = .ok (.aload_n 1, 1) := by decide +kernel
theorem dX2_restore_47 : decode cX2_restore 47 = .ok (.getfield 28, 3) := by decide +kernel
theorem dX2_restore_50 : decode cX2_restore 50 = .ok (.iload_n 3, 1) := by decide +kernel
theorem dX2_restore_51 : decode cX2_restore 51 = .ok (.aaload, 1) := by decide +kernel
theorem dX2_restore_52 : decode cX2_restore 52 = .ok (.astore 4, 2) := by decide +kernel
theorem dX2_restore_54 : decode cX2_restore 54 = .ok (.iload_n 3, 1) := by decide +kernel
theorem dX2_restore_55 : decode cX2_restore 55 = .ok (.bipush 14, 2) := by decide +kernel
theorem dX2_restore_57 : decode cX2_restore 57 = .ok (.imul, 1) := by decide +kernel
theorem dX2_restore_58 : decode cX2_restore 58 = .ok (.istore 5, 2) := by decide +kernel
theorem dX2_restore_60 : decode cX2_restore 60 = .ok (.aload_n 1, 1) := by decide +kernel
theorem dX2_restore_61 : decode cX2_restore 61 = .ok (.getfield 32, 3) := by decide +kernel
theorem dX2_restore_64 : decode cX2_restore 64 = .ok (.iload_n 3, 1) := by decide +kernel
theorem dX2_restore_65 : decode cX2_restore 65 = .ok (.aload_n 2, 1) := by decide +kernel
theorem dX2_restore_66 : decode cX2_restore 66 = .ok (.iload 5, 2) := by decide +kernel
theorem dX2_restore_68 : decode cX2_restore 68 = .ok (.iaload, 1) := by decide +kernel
theorem dX2_restore_69 : decode cX2_restore 69 = .ok (.iastore, 1) := by decide +kernel
theorem dX2_restore_70 : decode cX2_restore 70 = .ok (.aload 4, 2) := by decide +kernel
theorem dX2_restore_72 : decode cX2_restore 72 = .ok (.aload_n 2, 1) := by decide +kernel
theorem dX2_restore_73 : decode cX2_restore 73 = .ok (.iload 5, 2) := by decide +kernel
theorem dX2_restore_75 : decode cX2_restore 75 = .ok (.iconst 1, 1) := by decide +kernel
theorem dX2_restore_76 : decode cX2_restore 76 = .ok (.iadd, 1) := by decide +kernel
theorem dX2_restore_77 : decode cX2_restore 77 = .ok (.iaload, 1) := by decide +kernel
theorem dX2_restore_78 : decode cX2_restore 78 = .ok (.ifCond .eq 7, 3) := by decide +kernel
theorem dX2_restore_81 : decode cX2_restore 81 = .ok (.iconst 1, 1) := by decide +kernel
theorem dX2_restore_82 : decode cX2_restore 82 = .ok (.goto 4, 3) := by decide +kernel
theorem dX2_restore_85 : decode cX2_restore 85 = .ok (.iconst 0, 1) := by decide +kernel
theorem dX2_restore_86 : decode cX2_restore 86 = .ok (.putfield 36, 3) := by decide +kernel
theorem dX2_restore_89 : decode cX2_restore 89 = .ok (.iconst 0, 1) := by decide +kernel
theorem dX2_restore_90 : decode cX2_restore 90 = .ok (.istore 6, 2) := by decide +kernel
theorem dX2_restore_92 : decode cX2_restore 92 = .ok (.iload 6, 2) := by decide +kernel
theorem dX2_restore_94 : decode cX2_restore 94 = .ok (.bipush 12, 2) := by decide +kernel
theorem dX2_restore_96 : decode cX2_restore 96 = .ok (.if_icmp .ge 26, 3) := by decide +kernel
theorem dX2_restore_99 : decode cX2_restore 99 = .ok (.aload 4, 2) := by decide +kernel
theorem dX2_restore_101 : decode cX2_restore 101 = .ok (.getfield 42, 3) := by decide +kernel
theorem dX2_restore_104 : decode cX2_restore 104 = .ok (.iload 6, 2) := by decide +kernel
theorem dX2_restore_106 : decode cX2_restore 106 = .ok (.aload_n 2, 1) := by decide +kernel
theorem dX2_restore_107 : decode cX2_restore 107 = .ok (.iload 5, 2) := by decide +kernel
theorem dX2_restore_109 : decode cX2_restore 109 = .ok (.iconst 2, 1) := by decide +kernel
theorem dX2_restore_110 : decode cX2_restore 110 = .ok (.iadd, 1) := by decide +kernel
theorem dX2_restore_111 : decode cX2_restore 111 = .ok (.iload 6, 2) := by decide +kernel
theorem dX2_restore_113 : decode cX2_restore 113 = .ok (.iadd, 1) := by decide +kernel
theorem dX2_restore_114 : decode cX2_restore 114 = .ok (.iaload, 1) := by decide +kernel
theorem dX2_restore_115 : decode cX2_restore 115 = .ok (.iastore, 1) := by decide +kernel
theorem dX2_restore_116 : decode cX2_restore 116 = .ok (.iinc 6 1, 3) := by decide +kernel
theorem dX2_restore_119 : decode cX2_restore 119 = .ok (.goto (-27), 3) := by decide +kernel
theorem dX2_restore_122 : decode cX2_restore 122 = .ok (.aload_n 1, 1) := by decide +kernel
theorem dX2_restore_123 : decode cX2_restore 123 = .ok (.aload 4, 2) := by decide +kernel
theorem dX2_restore_125 : decode cX2_restore 125 = .ok (.invokevirtual 51, 3) := by decide +kernel
theorem dX2_restore_128 : decode cX2_restore 128 = .ok (.iinc 3 1, 3) := by decide +kernel
theorem dX2_restore_131 : decode cX2_restore 131 = .ok (.goto (-93), 3) := by decide +kernel
theorem dX2_restore_134 : decode cX2_restore 134 = .ok (.return_, 1) := by decide +kernel
def f_X2_restore_92 (N : Nat) (R : Nat → Nat → Nat) (k38 : SI → Nat → Nat → Int32 → Option (Unit × SI)) : Nat → SI → Nat → Nat → Int32 → Nat → Int32 → Int32 → Option (Unit × SI)
  | 0, _, _, _, _, _, _, _ => none
  | n + 1, σ, x1, x2, x3, x4, x5, x6 => if (12 : Int32) ≤ x6 then (bd (f_X9_weigh N R σ x1 x4) (fun _ σ18 => k38 σ18 x1 x2 (x3 + 1))) else (ck ((x5 + (2 : Int32)) + x6) 84 (ck x6 12 (sq (up σ (R x4 1) x6.toNatClampNeg (σ x2 ((x5 + (2 : Int32)) + x6).toNatClampNeg)) (fun σ22 => f_X2_restore_92 N R k38 n σ22 x1 x2 x3 x4 x5 (x6 + 1)))))
def f_X2_restore_38 (N : Nat) (R : Nat → Nat → Nat) : Nat → SI → Nat → Nat → Int32 → Option (Unit × SI)
  | 0, _, _, _, _ => none
  | n + 1, σ, x1, x2, x3 => if (σ x1 11) ≤ x3 then (some ((), σ)) else (ck x3 6 (ck (x3 * (14 : Int32)) 84 (ck x3 6 (sq (up σ (R x1 6) x3.toNatClampNeg (σ x2 (x3 * (14 : Int32)).toNatClampNeg)) (fun σ13 => ck ((x3 * (14 : Int32)) + (1 : Int32)) 84 (if (σ13 x2 ((x3 * (14 : Int32)) + (1 : Int32)).toNatClampNeg) = 0 then (sq (up σ13 (R (R x1 2) x3.toNatClampNeg) 13 (0 : Int32)) (fun σ16 => f_X2_restore_92 N R (fun σ x1 x2 x3 => f_X2_restore_38 N R n σ x1 x2 x3) N σ16 x1 x2 x3 (R (R x1 2) x3.toNatClampNeg) (x3 * (14 : Int32)) (0 : Int32))) else (sq (up σ13 (R (R x1 2) x3.toNatClampNeg) 13 (1 : Int32)) (fun σ23 => f_X2_restore_92 N R (fun σ x1 x2 x3 => f_X2_restore_38 N R n σ x1 x2 x3) N σ23 x1 x2 x3 (R (R x1 2) x3.toNatClampNeg) (x3 * (14 : Int32)) (0 : Int32)))))))))
def f_X2_restore (N : Nat) (R : Nat → Nat → Nat) (σ : SI) (x0 : Nat) (x1 : Nat) : Option (Unit × SI) := sq (up σ x0 1 ((((σ x0 1) + (16 : Int32)) - (1 : Int32)) - (((σ x0 1) + (16 : Int32)) - (1 : Int32)) / (16 : Int32) * (16 : Int32))) (fun σ1 => sq (up σ1 x0 2 ((σ1 x0 2) - (1 : Int32))) (fun σ2 => ck (σ2 x0 1) 16 (f_X2_restore_38 N R N σ2 x1 (R (R x0 0) (σ2 x0 1).toNatClampNeg) (0 : Int32))))
set_option maxHeartbeats 4000000 in
set_option maxRecDepth 100000 in
theorem w_X2_restore_92 {l : Launch} {g : GL} {p : Program} {e : Jvm.Env} {s : State} {m : MethodId} {args : Array Value} {below : List Frame} {meth : Method} {c : Code} {R : Nat → Nat → Nat} {L : Nat → Nat → Int64} {r : (Unit × SI)} {N : Nat} {k38 : SI → Nat → Nat → Int32 → Option (Unit × SI)} (C : Cx l g p s m meth c cX2_restore 7 RX2) (hr : meth.sig.returnType = none) (hSh : ShR R) (hk38 : ∀ (σ : SI) (x1 : Nat) (x2 : Nat) (x3 : Int32), k38 σ x1 x2 x3 = some r → Ok 194 x1 9 → Ok 194 x2 10084 → ∀ (H : Heap) (locs : List Loc) (ls : Array Slot), S2 g s σ R L H locs → lv_has ls 7 [(1, .ref (gb g + x1)), (2, .ref (gb g + x2)), (3, .int x3)] → W p l e (rmd 4 0 0) s m args below meth c H locs 0 0 (MQ below (Qg g 194 (PV R L r)) args s 0 0 (gA g)) (F0 m 38 ls [])) : ∀ (n : Nat) (σ : SI) (x1 : Nat) (x2 : Nat) (x3 : Int32) (x4 : Nat) (x5 : Int32) (x6 : Int32), f_X2_restore_92 N R k38 n σ x1 x2 x3 x4 x5 x6 = some r → Ok 194 x1 9 → Ok 194 x2 10084 → Ok 194 x4 0 → ∀ (H : Heap) (locs : List Loc) (ls : Array Slot), S2 g s σ R L H locs → lv_has ls 7 [(1, .ref (gb g + x1)), (2, .ref (gb g + x2)), (3, .int x3), (4, .ref (gb g + x4)), (5, .int x5), (6, .int x6)] → W p l e (rmd 4 0 0) s m args below meth c H locs 0 0 (MQ below (Qg g 194 (PV R L r)) args s 0 0 (gA g)) (F0 m 92 ls []) := by
  have hx := C.1
  have hb := C.2.1
  intro n
  induction n with
  | zero =>
    intro σ x1 x2 x3 x4 x5 x6 h
    cases (show (none : Option (Unit × SI)) = some r from h)
  | succ n ih =>
    intro σ x1 x2 x3 x4 x5 x6 h hx1 hx2 hx4 H locs ls S hl
    rw [f_X2_restore_92] at h
    refine lv_iload hx hb dX2_restore_92 (lv_at hl 5 rfl) ?_
    refine lv_bipush (v := (12 : Int32)) hx hb dX2_restore_94 (by decide) ?_
    refine lv_icmp_ge (tgt := 122) hx hb dX2_restore_96 (by decide) (fun c17 => ?_) (fun c17 => ?_)
    · have h := it_p c17 h
      refine lv_aload_n hx hb dX2_restore_122 rfl (lv_at hl 0 rfl) ?_
      refine lv_aload hx hb dX2_restore_123 (lv_at hl 3 rfl) ?_
      obtain ⟨a18, σ18, hc18, h⟩ := bd_el h
      refine x_callVV C S KX9 hx1 (ok_X9_weigh (L := L) hc18 hSh hx1 hx4) ⟨cd_X9_weigh, ni_RX9, ml_RX2_51, in_X9_weigh, sl_X9_weigh⟩ ⟨by decide, by decide⟩ rfl ⟨by decide, by decide⟩ hl.1 rfl (Nat.le_of_ble_eq_true rfl) ⟨by decide, by decide⟩ dX2_restore_125 (fun H locs S => ?_)
      refine lv_iinc (v := x3 + 1) (lv' := [(3, .int (x3 + 1)), (1, .ref (gb g + x1)), (2, .ref (gb g + x2)), (4, .ref (gb g + x4)), (5, .int x5), (6, .int x6)]) hx hb dX2_restore_128 hl (k := 2) rfl rfl (by decide) rfl (fun ls hl => ?_)
      refine lv_goto (tgt := 38) hx hb dX2_restore_131 (by decide) ?_
      exact hk38 σ18 x1 x2 (x3 + 1) h hx1 hx2 H locs ls S (lv_sub hl [1, 2, 0] rfl)
    · have h := it_n c17 h
      refine lv_aload hx hb dX2_restore_99 (lv_at hl 3 rfl) ?_
      have hR19 : Ok 194 (R x4 1) 10012 := hSh x4 0 1 10012 hx4.1 rfl
      refine x_getR C S KX0 hx4 1 (by decide) rfl rfl fl_RX2_42 hR19 dX2_restore_101 ?_
      refine lv_iload hx hb dX2_restore_104 (lv_at hl 5 rfl) ?_
      refine lv_aload_n hx hb dX2_restore_106 rfl (lv_at hl 1 rfl) ?_
      refine lv_iload hx hb dX2_restore_107 (lv_at hl 4 rfl) ?_
      refine lv_iconst (v := (2 : Int32)) hx hb dX2_restore_109 (by decide) ?_
      refine lv_iadd hx hb dX2_restore_110 ?_
      refine lv_iload hx hb dX2_restore_111 (lv_at hl 5 rfl) ?_
      refine lv_iadd hx hb dX2_restore_113 ?_
      obtain ⟨hi20, h⟩ := ck_el h
      refine x_iald (len := 84) C S (by decide) hx2 hi20 dX2_restore_114 ?_
      obtain ⟨hi21, h⟩ := ck_el h
      obtain ⟨σ22, hs22, h⟩ := sq_el h
      refine x_iast (len := 12) C S (by decide) hR19 hi21 dX2_restore_115 hs22 (fun H locs S => ?_)
      refine lv_iinc (v := x6 + 1) (lv' := [(6, .int (x6 + 1)), (1, .ref (gb g + x1)), (2, .ref (gb g + x2)), (3, .int x3), (4, .ref (gb g + x4)), (5, .int x5)]) hx hb dX2_restore_116 hl (k := 5) rfl rfl (by decide) rfl (fun ls hl => ?_)
      refine lv_goto (tgt := 92) hx hb dX2_restore_119 (by decide) ?_
      exact ih σ22 x1 x2 x3 x4 x5 (x6 + 1) h hx1 hx2 hx4 H locs ls S (lv_sub hl [1, 2, 3, 4, 5, 0] rfl)
set_option maxHeartbeats 4000000 in
set_option maxRecDepth 100000 in
theorem w_X2_restore_38 {l : Launch} {g : GL} {p : Program} {e : Jvm.Env} {s : State} {m : MethodId} {args : Array Value} {below : List Frame} {meth : Method} {c : Code} {R : Nat → Nat → Nat} {L : Nat → Nat → Int64} {r : (Unit × SI)} {N : Nat} (C : Cx l g p s m meth c cX2_restore 7 RX2) (hr : meth.sig.returnType = none) (hSh : ShR R) : ∀ (n : Nat) (σ : SI) (x1 : Nat) (x2 : Nat) (x3 : Int32), f_X2_restore_38 N R n σ x1 x2 x3 = some r → Ok 194 x1 9 → Ok 194 x2 10084 → ∀ (H : Heap) (locs : List Loc) (ls : Array Slot), S2 g s σ R L H locs → lv_has ls 7 [(1, .ref (gb g + x1)), (2, .ref (gb g + x2)), (3, .int x3)] → W p l e (rmd 4 0 0) s m args below meth c H locs 0 0 (MQ below (Qg g 194 (PV R L r)) args s 0 0 (gA g)) (F0 m 38 ls []) := by
  have hx := C.1
  have hb := C.2.1
  intro n
  induction n with
  | zero =>
    intro σ x1 x2 x3 h
    cases (show (none : Option (Unit × SI)) = some r from h)
  | succ n ih =>
    intro σ x1 x2 x3 h hx1 hx2 H locs ls S hl
    rw [f_X2_restore_38] at h
    refine lv_iload_n hx hb dX2_restore_38 rfl (lv_at hl 2 rfl) ?_
    refine lv_aload_n hx hb dX2_restore_39 rfl (lv_at hl 0 rfl) ?_
    refine x_getI C S KX9 hx1 11 (by decide) rfl rfl fl_RX2_23 dX2_restore_40 ?_
    refine lv_icmp_ge (tgt := 134) hx hb dX2_restore_43 (by decide) (fun c6 => ?_) (fun c6 => ?_)
    · have h := it_p c6 h
      exact x_vret C S hr h dX2_restore_134
    · have h := it_n c6 h
      refine lv_aload_n hx hb dX2_restore_46 rfl (lv_at hl 0 rfl) ?_
      have hR7 : Ok 194 (R x1 2) 50006 := hSh x1 9 2 50006 hx1.1 rfl
      refine x_getR C S KX9 hx1 2 (by decide) rfl rfl fl_RX2_28 hR7 dX2_restore_47 ?_
      refine lv_iload_n hx hb dX2_restore_50 rfl (lv_at hl 2 rfl) ?_
      obtain ⟨hi8, h⟩ := ck_el h
      have hR9 : Ok 194 (R (R x1 2) x3.toNatClampNeg) 0 := hSh (R x1 2) 50006 x3.toNatClampNeg 0 hR7.1 (if_pos (vp_lt hi8))
      refine x_aald (len := 6) C S (by decide) 4 (by decide) rfl hR7 hi8 hR9 dX2_restore_51 ?_
      refine lv_astore (lv' := [(4, .ref (gb g + (R (R x1 2) x3.toNatClampNeg))), (1, .ref (gb g + x1)), (2, .ref (gb g + x2)), (3, .int x3)]) hx hb dX2_restore_52 hl (by decide) rfl (fun ls hl => ?_)
      refine lv_iload_n hx hb dX2_restore_54 rfl (lv_at hl 3 rfl) ?_
      refine lv_bipush (v := (14 : Int32)) hx hb dX2_restore_55 (by decide) ?_
      refine lv_imul hx hb dX2_restore_57 ?_
      refine lv_istore (lv' := [(5, .int (x3 * (14 : Int32))), (4, .ref (gb g + (R (R x1 2) x3.toNatClampNeg))), (1, .ref (gb g + x1)), (2, .ref (gb g + x2)), (3, .int x3)]) hx hb dX2_restore_58 hl (by decide) rfl (fun ls hl => ?_)
      refine lv_aload_n hx hb dX2_restore_60 rfl (lv_at hl 2 rfl) ?_
      have hR10 : Ok 194 (R x1 6) 10006 := hSh x1 9 6 10006 hx1.1 rfl
      refine x_getR C S KX9 hx1 6 (by decide) rfl rfl fl_RX2_32 hR10 dX2_restore_61 ?_
      refine lv_iload_n hx hb dX2_restore_64 rfl (lv_at hl 4 rfl) ?_
      refine lv_aload_n hx hb dX2_restore_65 rfl (lv_at hl 3 rfl) ?_
      refine lv_iload hx hb dX2_restore_66 (lv_at hl 0 rfl) ?_
      obtain ⟨hi11, h⟩ := ck_el h
      refine x_iald (len := 84) C S (by decide) hx2 hi11 dX2_restore_68 ?_
      obtain ⟨hi12, h⟩ := ck_el h
      obtain ⟨σ13, hs13, h⟩ := sq_el h
      refine x_iast (len := 6) C S (by decide) hR10 hi12 dX2_restore_69 hs13 (fun H locs S => ?_)
      refine lv_aload hx hb dX2_restore_70 (lv_at hl 1 rfl) ?_
      refine lv_aload_n hx hb dX2_restore_72 rfl (lv_at hl 3 rfl) ?_
      refine lv_iload hx hb dX2_restore_73 (lv_at hl 0 rfl) ?_
      refine lv_iconst (v := (1 : Int32)) hx hb dX2_restore_75 (by decide) ?_
      refine lv_iadd hx hb dX2_restore_76 ?_
      obtain ⟨hi14, h⟩ := ck_el h
      refine x_iald (len := 84) C S (by decide) hx2 hi14 dX2_restore_77 ?_
      refine lv_if_eq (tgt := 85) hx hb dX2_restore_78 (by decide) (fun c15 => ?_) (fun c15 => ?_)
      · have h := it_p c15 h
        refine lv_iconst (v := (0 : Int32)) hx hb dX2_restore_85 (by decide) ?_
        obtain ⟨σ16, hs16, h⟩ := sq_el h
        refine x_putI C S KX0 hR9 13 (by decide) rfl rfl rfl ⟨rfl, rfl⟩ fl_RX2_36 dX2_restore_86 hs16 (fun H locs S => ?_)
        refine lv_iconst (v := (0 : Int32)) hx hb dX2_restore_89 (by decide) ?_
        refine lv_istore (lv' := [(6, .int (0 : Int32)), (5, .int (x3 * (14 : Int32))), (4, .ref (gb g + (R (R x1 2) x3.toNatClampNeg))), (1, .ref (gb g + x1)), (2, .ref (gb g + x2)), (3, .int x3)]) hx hb dX2_restore_90 hl (by decide) rfl (fun ls hl => ?_)
        exact w_X2_restore_92 C hr hSh ih N σ16 x1 x2 x3 (R (R x1 2) x3.toNatClampNeg) (x3 * (14 : Int32)) (0 : Int32) h hx1 hx2 hR9 H locs ls S (lv_sub hl [3, 4, 5, 2, 1, 0] rfl)
      · have h := it_n c15 h
        refine lv_iconst (v := (1 : Int32)) hx hb dX2_restore_81 (by decide) ?_
        refine lv_goto (tgt := 86) hx hb dX2_restore_82 (by decide) ?_
        obtain ⟨σ23, hs23, h⟩ := sq_el h
        refine x_putI C S KX0 hR9 13 (by decide) rfl rfl rfl ⟨rfl, rfl⟩ fl_RX2_36 dX2_restore_86 hs23 (fun H locs S => ?_)
        refine lv_iconst (v := (0 : Int32)) hx hb dX2_restore_89 (by decide) ?_
        refine lv_istore (lv' := [(6, .int (0 : Int32)), (5, .int (x3 * (14 : Int32))), (4, .ref (gb g + (R (R x1 2) x3.toNatClampNeg))), (1, .ref (gb g + x1)), (2, .ref (gb g + x2)), (3, .int x3)]) hx hb dX2_restore_90 hl (by decide) rfl (fun ls hl => ?_)
        exact w_X2_restore_92 C hr hSh ih N σ23 x1 x2 x3 (R (R x1 2) x3.toNatClampNeg) (x3 * (14 : Int32)) (0 : Int32) h hx1 hx2 hR9 H locs ls S (lv_sub hl [3, 4, 5, 2, 1, 0] rfl)
set_option maxHeartbeats 4000000 in
set_option maxRecDepth 100000 in
theorem ok_X2_restore {l : Launch} {g : GL} {R : Nat → Nat → Nat} {L : Nat → Nat → Int64} {N : Nat} {σ : SI} {x0 : Nat} {x1 : Nat} {r : (Unit × SI)} (h : f_X2_restore N R σ x0 x1 = some r) (hSh : ShR R) (hx0 : Ok 194 x0 2) (hx1 : Ok 194 x1 9) : Ct l g 4 yX2_restore cX2_restore 7 none 194 194 0 0 [.ref (gb g + x0), .ref (gb g + x1)] (mkS σ R L) (PV R L r) := by
  refine Met.ofW (cc := cX2_restore) (maxL := 7) (ret := none) (by decide) rfl ?_
  intro p e s m args below meth c s₁ B hml hv
  obtain ⟨rfl, hE, hLo, hWd⟩ := hv
  have hr : meth.sig.returnType = none := B.returns
  have C : Cx l g p s m meth c cX2_restore 7 RX2 := ⟨B.exec, B.bytes, hml, findClass_of_methodNamed B.named, hE, hLo, B.notSynchronized⟩
  have S : S2 g s σ R L s.heap [] := ⟨hWd, va_S.rf⟩
  have hx := C.1
  have hb := C.2.1
  have hl := lv_entry ([.ref (gb g + x0), .ref (gb g + x1)]) (n := 7) (Nat.le_of_ble_eq_true rfl)
  rw [lg_entry_eq]
  generalize (lg_sl ([.ref (gb g + x0), .ref (gb g + x1)]) ++ List.replicate (7 - (lg_sl ([.ref (gb g + x0), .ref (gb g + x1)])).length) Slot.unset).toArray = ls at hl ⊢
  have hl : lv_has ls 7 [(0, .ref (gb g + x0)), (1, .ref (gb g + x1))] := hl
  generalize hH : s.heap = H at S ⊢
  generalize hlc : ([] : List Loc) = locs at S ⊢
  rw [f_X2_restore] at h
  refine lv_aload_n hx hb dX2_restore_0 rfl (lv_at hl 0 rfl) ?_
  refine lv_aload_n hx hb dX2_restore_1 rfl (lv_at hl 0 rfl) ?_
  refine x_getI C S KX2 hx0 1 (by decide) rfl rfl fl_RX2_20 dX2_restore_2 ?_
  refine lv_bipush (v := (16 : Int32)) hx hb dX2_restore_5 (by decide) ?_
  refine lv_iadd hx hb dX2_restore_7 ?_
  refine lv_iconst (v := (1 : Int32)) hx hb dX2_restore_8 (by decide) ?_
  refine lv_isub hx hb dX2_restore_9 ?_
  refine lv_bipush (v := (16 : Int32)) hx hb dX2_restore_10 (by decide) ?_
  refine lv_irem hx hb dX2_restore_12 (by decide) ?_
  obtain ⟨σ1, hs1, h⟩ := sq_el h
  refine x_putI C S KX2 hx0 1 (by decide) rfl rfl rfl ⟨rfl, rfl⟩ fl_RX2_20 dX2_restore_13 hs1 (fun H locs S => ?_)
  refine lv_aload_n hx hb dX2_restore_16 rfl (lv_at hl 0 rfl) ?_
  refine lv_dup hx hb dX2_restore_17 rfl ?_
  refine x_getI C S KX2 hx0 2 (by decide) rfl rfl fl_RX2_16 dX2_restore_18 ?_
  refine lv_iconst (v := (1 : Int32)) hx hb dX2_restore_21 (by decide) ?_
  refine lv_isub hx hb dX2_restore_22 ?_
  obtain ⟨σ2, hs2, h⟩ := sq_el h
  refine x_putI C S KX2 hx0 2 (by decide) rfl rfl rfl ⟨rfl, rfl⟩ fl_RX2_16 dX2_restore_23 hs2 (fun H locs S => ?_)
  refine lv_aload_n hx hb dX2_restore_26 rfl (lv_at hl 0 rfl) ?_
  have hR3 : Ok 194 (R x0 0) 80016 := hSh x0 2 0 80016 hx0.1 rfl
  refine x_getR C S KX2 hx0 0 (by decide) rfl rfl fl_RX2_13 hR3 dX2_restore_27 ?_
  refine lv_aload_n hx hb dX2_restore_30 rfl (lv_at hl 0 rfl) ?_
  refine x_getI C S KX2 hx0 1 (by decide) rfl rfl fl_RX2_20 dX2_restore_31 ?_
  obtain ⟨hi4, h⟩ := ck_el h
  have hR5 : Ok 194 (R (R x0 0) (σ2 x0 1).toNatClampNeg) 10084 := hSh (R x0 0) 80016 (σ2 x0 1).toNatClampNeg 10084 hR3.1 (if_pos (vp_lt hi4))
  refine x_aald2 (len := 16) C S (by decide) hR3 hi4 hR5 dX2_restore_34 ?_
  refine lv_astore_n (lv' := [(2, .ref (gb g + (R (R x0 0) (σ2 x0 1).toNatClampNeg))), (0, .ref (gb g + x0)), (1, .ref (gb g + x1))]) hx hb dX2_restore_35 rfl hl (by decide) rfl (fun ls hl => ?_)
  refine lv_iconst (v := (0 : Int32)) hx hb dX2_restore_36 (by decide) ?_
  refine lv_istore_n (lv' := [(3, .int (0 : Int32)), (2, .ref (gb g + (R (R x0 0) (σ2 x0 1).toNatClampNeg))), (0, .ref (gb g + x0)), (1, .ref (gb g + x1))]) hx hb dX2_restore_37 rfl hl (by decide) rfl (fun ls hl => ?_)
  exact w_X2_restore_38 C hr hSh N σ2 x1 (R (R x0 0) (σ2 x0 1).toNatClampNeg) (0 : Int32) h hx1 hR5 H locs ls S (lv_sub hl [3, 1, 0] rfl)
theorem dX3_add_0 : decode cX3_add 0 = .ok (.iload_n 1, 1) := by decide +kernel
theorem dX3_add_1 : decode cX3_add 1 = .ok (.iload_n 2, 1) := by decide +kernel
theorem dX3_add_2 : decode cX3_add 2 = .ok (.if_icmp .lt 4, 3) := by decide +kernel
theorem dX3_add_5 : decode cX3_add 5 = .ok (.return_, 1) := by decide +kernel
theorem dX3_add_6 : decode cX3_add 6 = .ok (.iload_n 1, 1) := by decide +kernel
theorem dX3_add_7 : decode cX3_add 7 = .ok (.istore_n 3, 1) := by decide +kernel
theorem dX3_add_8 : decode cX3_add 8 = .ok (.iload_n 2, 1) := by decide +kernel
theorem dX3_add_9 : decode cX3_add 9 = .ok (.istore 4, 2) := by decide +kernel
theorem dX3_add_11 : decode cX3_add 11 = .ok (.iconst 0, 1) := by decide +kernel
theorem dX3_add_12 : decode cX3_add 12 = .ok (.istore 5, 2) := by decide +kernel
theorem dX3_add_14 : decode cX3_add 14 = .ok (.iconst 0, 1) := by decide +kernel
theorem dX3_add_15 : decode cX3_add 15 = .ok (.istore 6, 2) := by decide +kernel
theorem dX3_add_17 : decode cX3_add 17 = .ok (.iload 6, 2) := by decide +kernel
theorem dX3_add_19 : decode cX3_add 19 = .ok (.aload_n 0, 1) := by decide +kernel
theorem dX3_add_20 : decode cX3_add 20 = .ok (.getfield 18, 3) := by decide +kernel
theorem dX3_add_23 : decode cX3_add 23 = .ok (.if_icmp .ge 92, 3) := by decide +kernel
theorem dX3_add_26 : decode cX3_add 26 = .ok (.aload_n 0, 1) := by decide +kernel
theorem dX3_add_27 : decode cX3_add 27 = .ok (.getfield 15, 3) := by decide +kernel
theorem dX3_add_30 : decode cX3_add 30 = .ok (.iload 6, 2) := by decide +kernel
theorem dX3_add_32 : decode cX3_add 32 = .ok (.iaload, 1) := by decide +kernel
theorem dX3_add_33 : decode cX3_add 33 = .ok (.iload_n 3, 1) := by decide +kernel
theorem dX3_add_34 : decode cX3_add 34 = .ok (.if_icmp .lt 15, 3) := by decide +kernel
theorem dX3_add_37 : decode cX3_add 37 = .ok (.aload_n 0, 1) := by decide +kernel
theorem dX3_add_38 : decode cX3_add 38 = .ok (.getfield 11, 3) := by decide +kernel
theorem dX3_add_41 : decode cX3_add 41 = .ok (.iload 6, 2) := by decide +kernel
theorem dX3_add_43 : decode cX3_add 43 = .ok (.iaload, 1) := by decide +kernel
theorem dX3_add_44 : decode cX3_add 44 = .ok (.iload 4, 2) := by decide +kernel
theorem dX3_add_46 : decode cX3_add 46 = .ok (.if_icmp .le 37, 3) := by decide +kernel
theorem dX3_add_49 : decode cX3_add 49 = .ok (.aload_n 0, 1) := by decide +kernel
theorem dX3_add_50 : decode cX3_add 50 = .ok (.getfield 11, 3) := by decide +kernel
theorem dX3_add_53 : decode cX3_add 53 = .ok (.iload 5, 2) := by decide +kernel
theorem dX3_add_55 : decode cX3_add 55 = .ok (.aload_n 0, 1) := by decide +kernel
theorem dX3_add_56 : decode cX3_add 56 = .ok (.getfield 11, 3) := by decide +kernel
theorem dX3_add_59 : decode cX3_add 59 = .ok (.iload 6, 2) := by decide +kernel
theorem dX3_add_61 : decode cX3_add 61 = .ok (.iaload, 1) := by decide +kernel
theorem dX3_add_62 : decode cX3_add 62 = .ok (.iastore, 1) := by decide +kernel
theorem dX3_add_63 : decode cX3_add 63 = .ok (.aload_n 0, 1) := by decide +kernel
theorem dX3_add_64 : decode cX3_add 64 = .ok (.getfield 15, 3) := by decide +kernel
theorem dX3_add_67 : decode cX3_add 67 = .ok (.iload 5, 2) := by decide +kernel
theorem dX3_add_69 : decode cX3_add 69 = .ok (.aload_n 0, 1) := by decide +kernel
theorem dX3_add_70 : decode cX3_add 70 = .ok (.getfield 15, 3) := by decide +kernel
theorem dX3_add_73 : decode cX3_add 73 = .ok (.iload 6, 2) := by decide +kernel
theorem dX3_add_75 : decode cX3_add 75 = .ok (.iaload, 1) := by decide +kernel
theorem dX3_add_76 : decode cX3_add 76 = .ok (.iastore, 1) := by decide +kernel
theorem dX3_add_77 : decode cX3_add 77 = .ok (.iinc 5 1, 3) := by decide +kernel
theorem dX3_add_80 : decode cX3_add 80 = .ok (.goto 29, 3) := by decide +kernel
theorem dX3_add_83 : decode cX3_add 83 = .ok (.iload_n 3, 1) := by decide +kernel
theorem dX3_add_84 : decode cX3_add 84 = .ok (.aload_n 0, 1) := by decide +kernel
theorem dX3_add_85 : decode cX3_add 85 = .ok (.getfield 11, 3) := by decide +kernel
theorem dX3_add_88 : decode cX3_add 88 = .ok (.iload 6, 2) := by decide +kernel
theorem dX3_add_90 : decode cX3_add 90 = .ok (.iaload, 1) := by decide +kernel
theorem dX3_add_91 : decode cX3_add 91 = .ok (.invokestatic 22, 3) := by decide +kernel
theorem dX3_add_94 : decode cX3_add 94 = .ok (.istore_n 3, 1) := by decide +kernel
theorem dX3_add_95 : decode cX3_add 95 = .ok (.iload 4, 2) := by decide +kernel
theorem dX3_add_97 : decode cX3_add 97 = .ok (.aload_n 0, 1) := by decide +kernel
theorem dX3_add_98 : decode cX3_add 98 = .ok (.getfield 15, 3) := by decide +kernel
theorem dX3_add_101 : decode cX3_add 101 = .ok (.iload 6, 2) := by decide +kernel
theorem dX3_add_103 : decode cX3_add 103 = .ok (.iaload, 1) := by decide +kernel
theorem dX3_add_104 : decode cX3_add 104 = .ok (.invokestatic 28, 3) := by decide +kernel
theorem dX3_add_107 : decode cX3_add 107 = .ok (.istore 4, 2) := by decide +kernel
theorem dX3_add_109 : decode cX3_add 109 = .ok (.iinc 6 1, 3) := by decide +kernel
theorem dX3_add_112 : decode cX3_add 112 = .ok (.goto (-95), 3) := by decide +kernel
theorem dX3_add_115 : decode cX3_add 115 = .ok (.aload_n 0, 1) := by decide +kernel
theorem dX3_add_116 : decode cX3_add 116 = .ok (.iload 5, 2) := by decide +kernel
theorem dX3_add_118 : decode cX3_add 118 = .ok (.putfield 18, 3) := by decide +kernel
theorem dX3_add_121 : decode cX3_add 121 = .ok (.aload_n 0, 1) := by decide +kernel
theorem dX3_add_122 : decode cX3_add 122 = .ok (.iload_n 3, 1) := by decide +kernel
theorem dX3_add_123 : decode cX3_add 123 = .ok (.iload 4, 2) := by decide +kernel
theorem dX3_add_125 : decode cX3_add 125 = .ok (.invokevirtual 31, 3) := by decide +kernel
theorem dX3_add_128 : decode cX3_add 128 = .ok (.return_, 1) := by decide +kernel
def f_X3_add_109 (N : Nat) (R : Nat → Nat → Nat) (k17 : SI → Nat → Int32 → Int32 → Int32 → Int32 → Option (Unit × SI)) (σ : SI) (x0 : Nat) (x3 : Int32) (x4 : Int32) (x5 : Int32) (x6 : Int32) : Option (Unit × SI) := k17 σ x0 x3 x4 x5 (x6 + 1)
def f_X3_add_49 (N : Nat) (R : Nat → Nat → Nat) (k17 : SI → Nat → Int32 → Int32 → Int32 → Int32 → Option (Unit × SI)) (σ : SI) (x0 : Nat) (x3 : Int32) (x4 : Int32) (x5 : Int32) (x6 : Int32) : Option (Unit × SI) := ck x6 8 (ck x5 8 (sq (up σ (R x0 0) x5.toNatClampNeg (σ (R x0 0) x6.toNatClampNeg)) (fun σ12 => ck x6 8 (ck x5 8 (sq (up σ12 (R x0 1) x5.toNatClampNeg (σ12 (R x0 1) x6.toNatClampNeg)) (fun σ17 => f_X3_add_109 N R k17 σ17 x0 x3 x4 (x5 + 1) x6))))))
def f_X3_add_17 (N : Nat) (R : Nat → Nat → Nat) : Nat → SI → Nat → Int32 → Int32 → Int32 → Int32 → Option (Unit × SI)
  | 0, _, _, _, _, _, _ => none
  | n + 1, σ, x0, x3, x4, x5, x6 => if (σ x0 2) ≤ x6 then (sq (up σ x0 2 x5) (fun σ3 => bd (f_X3_insert N R σ3 x0 x3 x4) (fun _ σ4 => some ((), σ4)))) else (ck x6 8 (if (σ (R x0 1) x6.toNatClampNeg) < x3 then (f_X3_add_49 N R (fun σ x0 x3 x4 x5 x6 => f_X3_add_17 N R n σ x0 x3 x4 x5 x6) σ x0 x3 x4 x5 x6) else (ck x6 8 (if (σ (R x0 0) x6.toNatClampNeg) ≤ x4 then (ck x6 8 (ck x6 8 (f_X3_add_109 N R (fun σ x0 x3 x4 x5 x6 => f_X3_add_17 N R n σ x0 x3 x4 x5 x6) σ x0 (if (σ (R x0 0) x6.toNatClampNeg) < x3 then (σ (R x0 0) x6.toNatClampNeg) else x3) (if x4 < (σ (R x0 1) x6.toNatClampNeg) then (σ (R x0 1) x6.toNatClampNeg) else x4) x5 x6))) else (f_X3_add_49 N R (fun σ x0 x3 x4 x5 x6 => f_X3_add_17 N R n σ x0 x3 x4 x5 x6) σ x0 x3 x4 x5 x6)))))
def f_X3_add (N : Nat) (R : Nat → Nat → Nat) (σ : SI) (x0 : Nat) (x1 : Int32) (x2 : Int32) : Option (Unit × SI) := if x1 < x2 then (f_X3_add_17 N R N σ x0 x1 x2 (0 : Int32) (0 : Int32)) else (some ((), σ))
set_option maxHeartbeats 4000000 in
set_option maxRecDepth 100000 in
theorem w_X3_add_109 {l : Launch} {g : GL} {p : Program} {e : Jvm.Env} {s : State} {m : MethodId} {args : Array Value} {below : List Frame} {meth : Method} {c : Code} {R : Nat → Nat → Nat} {L : Nat → Nat → Int64} {r : (Unit × SI)} {N : Nat} {k17 : SI → Nat → Int32 → Int32 → Int32 → Int32 → Option (Unit × SI)} (C : Cx l g p s m meth c cX3_add 7 RX3) (hr : meth.sig.returnType = none) (hSh : ShR R) (hk17 : ∀ (σ : SI) (x0 : Nat) (x3 : Int32) (x4 : Int32) (x5 : Int32) (x6 : Int32), k17 σ x0 x3 x4 x5 x6 = some r → Ok 194 x0 3 → ∀ (H : Heap) (locs : List Loc) (ls : Array Slot), S2 g s σ R L H locs → lv_has ls 7 [(0, .ref (gb g + x0)), (3, .int x3), (4, .int x4), (5, .int x5), (6, .int x6)] → W p l e (rmd 2 0 0) s m args below meth c H locs 0 0 (MQ below (Qg g 194 (PV R L r)) args s 0 0 (gA g)) (F0 m 17 ls [])) : ∀ (σ : SI) (x0 : Nat) (x3 : Int32) (x4 : Int32) (x5 : Int32) (x6 : Int32), f_X3_add_109 N R k17 σ x0 x3 x4 x5 x6 = some r → Ok 194 x0 3 → ∀ (H : Heap) (locs : List Loc) (ls : Array Slot), S2 g s σ R L H locs → lv_has ls 7 [(0, .ref (gb g + x0)), (3, .int x3), (4, .int x4), (5, .int x5), (6, .int x6)] → W p l e (rmd 2 0 0) s m args below meth c H locs 0 0 (MQ below (Qg g 194 (PV R L r)) args s 0 0 (gA g)) (F0 m 109 ls []) := by
  have hx := C.1
  have hb := C.2.1
  intro σ x0 x3 x4 x5 x6 h hx0 H locs ls S hl
  rw [f_X3_add_109] at h
  refine lv_iinc (v := x6 + 1) (lv' := [(6, .int (x6 + 1)), (0, .ref (gb g + x0)), (3, .int x3), (4, .int x4), (5, .int x5)]) hx hb dX3_add_109 hl (k := 4) rfl rfl (by decide) rfl (fun ls hl => ?_)
  refine lv_goto (tgt := 17) hx hb dX3_add_112 (by decide) ?_
  exact hk17 σ x0 x3 x4 x5 (x6 + 1) h hx0 H locs ls S (lv_sub hl [1, 2, 3, 4, 0] rfl)
set_option maxHeartbeats 4000000 in
set_option maxRecDepth 100000 in
theorem w_X3_add_49 {l : Launch} {g : GL} {p : Program} {e : Jvm.Env} {s : State} {m : MethodId} {args : Array Value} {below : List Frame} {meth : Method} {c : Code} {R : Nat → Nat → Nat} {L : Nat → Nat → Int64} {r : (Unit × SI)} {N : Nat} {k17 : SI → Nat → Int32 → Int32 → Int32 → Int32 → Option (Unit × SI)} (C : Cx l g p s m meth c cX3_add 7 RX3) (hr : meth.sig.returnType = none) (hSh : ShR R) (hk17 : ∀ (σ : SI) (x0 : Nat) (x3 : Int32) (x4 : Int32) (x5 : Int32) (x6 : Int32), k17 σ x0 x3 x4 x5 x6 = some r → Ok 194 x0 3 → ∀ (H : Heap) (locs : List Loc) (ls : Array Slot), S2 g s σ R L H locs → lv_has ls 7 [(0, .ref (gb g + x0)), (3, .int x3), (4, .int x4), (5, .int x5), (6, .int x6)] → W p l e (rmd 2 0 0) s m args below meth c H locs 0 0 (MQ below (Qg g 194 (PV R L r)) args s 0 0 (gA g)) (F0 m 17 ls [])) : ∀ (σ : SI) (x0 : Nat) (x3 : Int32) (x4 : Int32) (x5 : Int32) (x6 : Int32), f_X3_add_49 N R k17 σ x0 x3 x4 x5 x6 = some r → Ok 194 x0 3 → ∀ (H : Heap) (locs : List Loc) (ls : Array Slot), S2 g s σ R L H locs → lv_has ls 7 [(0, .ref (gb g + x0)), (3, .int x3), (4, .int x4), (5, .int x5), (6, .int x6)] → W p l e (rmd 2 0 0) s m args below meth c H locs 0 0 (MQ below (Qg g 194 (PV R L r)) args s 0 0 (gA g)) (F0 m 49 ls []) := by
  have hx := C.1
  have hb := C.2.1
  intro σ x0 x3 x4 x5 x6 h hx0 H locs ls S hl
  rw [f_X3_add_49] at h
  refine lv_aload_n hx hb dX3_add_49 rfl (lv_at hl 0 rfl) ?_
  have hR8 : Ok 194 (R x0 0) 10008 := hSh x0 3 0 10008 hx0.1 rfl
  refine x_getR C S KX3 hx0 0 (by decide) rfl rfl fl_RX3_11 hR8 dX3_add_50 ?_
  refine lv_iload hx hb dX3_add_53 (lv_at hl 3 rfl) ?_
  refine lv_aload_n hx hb dX3_add_55 rfl (lv_at hl 0 rfl) ?_
  have hR9 : Ok 194 (R x0 0) 10008 := hSh x0 3 0 10008 hx0.1 rfl
  refine x_getR C S KX3 hx0 0 (by decide) rfl rfl fl_RX3_11 hR9 dX3_add_56 ?_
  refine lv_iload hx hb dX3_add_59 (lv_at hl 4 rfl) ?_
  obtain ⟨hi10, h⟩ := ck_el h
  refine x_iald (len := 8) C S (by decide) hR9 hi10 dX3_add_61 ?_
  obtain ⟨hi11, h⟩ := ck_el h
  obtain ⟨σ12, hs12, h⟩ := sq_el h
  refine x_iast (len := 8) C S (by decide) hR8 hi11 dX3_add_62 hs12 (fun H locs S => ?_)
  refine lv_aload_n hx hb dX3_add_63 rfl (lv_at hl 0 rfl) ?_
  have hR13 : Ok 194 (R x0 1) 10008 := hSh x0 3 1 10008 hx0.1 rfl
  refine x_getR C S KX3 hx0 1 (by decide) rfl rfl fl_RX3_15 hR13 dX3_add_64 ?_
  refine lv_iload hx hb dX3_add_67 (lv_at hl 3 rfl) ?_
  refine lv_aload_n hx hb dX3_add_69 rfl (lv_at hl 0 rfl) ?_
  have hR14 : Ok 194 (R x0 1) 10008 := hSh x0 3 1 10008 hx0.1 rfl
  refine x_getR C S KX3 hx0 1 (by decide) rfl rfl fl_RX3_15 hR14 dX3_add_70 ?_
  refine lv_iload hx hb dX3_add_73 (lv_at hl 4 rfl) ?_
  obtain ⟨hi15, h⟩ := ck_el h
  refine x_iald (len := 8) C S (by decide) hR14 hi15 dX3_add_75 ?_
  obtain ⟨hi16, h⟩ := ck_el h
  obtain ⟨σ17, hs17, h⟩ := sq_el h
  refine x_iast (len := 8) C S (by decide) hR13 hi16 dX3_add_76 hs17 (fun H locs S => ?_)
  refine lv_iinc (v := x5 + 1) (lv' := [(5, .int (x5 + 1)), (0, .ref (gb g + x0)), (3, .int x3), (4, .int x4), (6, .int x6)]) hx hb dX3_add_77 hl (k := 3) rfl rfl (by decide) rfl (fun ls hl => ?_)
  refine lv_goto (tgt := 109) hx hb dX3_add_80 (by decide) ?_
  exact w_X3_add_109 C hr hSh hk17 σ17 x0 x3 x4 (x5 + 1) x6 h hx0 H locs ls S (lv_sub hl [1, 2, 3, 0, 4] rfl)
set_option maxHeartbeats 4000000 in
set_option maxRecDepth 100000 in
theorem w_X3_add_17 {l : Launch} {g : GL} {p : Program} {e : Jvm.Env} {s : State} {m : MethodId} {args : Array Value} {below : List Frame} {meth : Method} {c : Code} {R : Nat → Nat → Nat} {L : Nat → Nat → Int64} {r : (Unit × SI)} {N : Nat} (C : Cx l g p s m meth c cX3_add 7 RX3) (hr : meth.sig.returnType = none) (hSh : ShR R) : ∀ (n : Nat) (σ : SI) (x0 : Nat) (x3 : Int32) (x4 : Int32) (x5 : Int32) (x6 : Int32), f_X3_add_17 N R n σ x0 x3 x4 x5 x6 = some r → Ok 194 x0 3 → ∀ (H : Heap) (locs : List Loc) (ls : Array Slot), S2 g s σ R L H locs → lv_has ls 7 [(0, .ref (gb g + x0)), (3, .int x3), (4, .int x4), (5, .int x5), (6, .int x6)] → W p l e (rmd 2 0 0) s m args below meth c H locs 0 0 (MQ below (Qg g 194 (PV R L r)) args s 0 0 (gA g)) (F0 m 17 ls []) := by
  have hx := C.1
  have hb := C.2.1
  intro n
  induction n with
  | zero =>
    intro σ x0 x3 x4 x5 x6 h
    cases (show (none : Option (Unit × SI)) = some r from h)
  | succ n ih =>
    intro σ x0 x3 x4 x5 x6 h hx0 H locs ls S hl
    rw [f_X3_add_17] at h
    refine lv_iload hx hb dX3_add_17 (lv_at hl 4 rfl) ?_
    refine lv_aload_n hx hb dX3_add_19 rfl (lv_at hl 0 rfl) ?_
    refine x_getI C S KX3 hx0 2 (by decide) rfl rfl fl_RX3_18 dX3_add_20 ?_
    refine lv_icmp_ge (tgt := 115) hx hb dX3_add_23 (by decide) (fun c2 => ?_) (fun c2 => ?_)
    · have h := it_p c2 h
      refine lv_aload_n hx hb dX3_add_115 rfl (lv_at hl 0 rfl) ?_
      refine lv_iload hx hb dX3_add_116 (lv_at hl 3 rfl) ?_
      obtain ⟨σ3, hs3, h⟩ := sq_el h
      refine x_putI C S KX3 hx0 2 (by decide) rfl rfl rfl ⟨rfl, rfl⟩ fl_RX3_18 dX3_add_118 hs3 (fun H locs S => ?_)
      refine lv_aload_n hx hb dX3_add_121 rfl (lv_at hl 0 rfl) ?_
      refine lv_iload_n hx hb dX3_add_122 rfl (lv_at hl 1 rfl) ?_
      refine lv_iload hx hb dX3_add_123 (lv_at hl 2 rfl) ?_
      obtain ⟨a4, σ4, hc4, h⟩ := bd_el h
      refine x_callVV C S KX3 hx0 (ok_X3_insert (L := L) hc4 hSh hx0) ⟨cd_X3_insert, ni_RX3, ml_RX3_31, in_X3_insert, sl_X3_insert⟩ ⟨by decide, by decide⟩ rfl ⟨by decide, by decide⟩ hl.1 rfl (Nat.le_of_ble_eq_true rfl) ⟨by decide, by decide⟩ dX3_add_125 (fun H locs S => ?_)
      exact x_vret C S hr h dX3_add_128
    · have h := it_n c2 h
      refine lv_aload_n hx hb dX3_add_26 rfl (lv_at hl 0 rfl) ?_
      have hR5 : Ok 194 (R x0 1) 10008 := hSh x0 3 1 10008 hx0.1 rfl
      refine x_getR C S KX3 hx0 1 (by decide) rfl rfl fl_RX3_15 hR5 dX3_add_27 ?_
      refine lv_iload hx hb dX3_add_30 (lv_at hl 4 rfl) ?_
      obtain ⟨hi6, h⟩ := ck_el h
      refine x_iald (len := 8) C S (by decide) hR5 hi6 dX3_add_32 ?_
      refine lv_iload_n hx hb dX3_add_33 rfl (lv_at hl 1 rfl) ?_
      refine lv_icmp_lt (tgt := 49) hx hb dX3_add_34 (by decide) (fun c7 => ?_) (fun c7 => ?_)
      · have h := it_p c7 h
        exact w_X3_add_49 C hr hSh ih σ x0 x3 x4 x5 x6 h hx0 H locs ls S (lv_sub hl [0, 1, 2, 3, 4] rfl)
      · have h := it_n c7 h
        refine lv_aload_n hx hb dX3_add_37 rfl (lv_at hl 0 rfl) ?_
        have hR18 : Ok 194 (R x0 0) 10008 := hSh x0 3 0 10008 hx0.1 rfl
        refine x_getR C S KX3 hx0 0 (by decide) rfl rfl fl_RX3_11 hR18 dX3_add_38 ?_
        refine lv_iload hx hb dX3_add_41 (lv_at hl 4 rfl) ?_
        obtain ⟨hi19, h⟩ := ck_el h
        refine x_iald (len := 8) C S (by decide) hR18 hi19 dX3_add_43 ?_
        refine lv_iload hx hb dX3_add_44 (lv_at hl 2 rfl) ?_
        refine lv_icmp_le (tgt := 83) hx hb dX3_add_46 (by decide) (fun c20 => ?_) (fun c20 => ?_)
        · have h := it_p c20 h
          refine lv_iload_n hx hb dX3_add_83 rfl (lv_at hl 1 rfl) ?_
          refine lv_aload_n hx hb dX3_add_84 rfl (lv_at hl 0 rfl) ?_
          have hR21 : Ok 194 (R x0 0) 10008 := hSh x0 3 0 10008 hx0.1 rfl
          refine x_getR C S KX3 hx0 0 (by decide) rfl rfl fl_RX3_11 hR21 dX3_add_85 ?_
          refine lv_iload hx hb dX3_add_88 (lv_at hl 4 rfl) ?_
          obtain ⟨hi22, h⟩ := ck_el h
          refine x_iald (len := 8) C S (by decide) hR21 hi22 dX3_add_90 ?_
          refine x_min C hl.1 ⟨ml_RX3_22, st_math_min, ni_math, cd_math_min⟩ (Nat.le_of_ble_eq_true rfl) (Nat.le_of_ble_eq_true rfl) (Nat.le_of_ble_eq_true rfl) (Nat.le_of_ble_eq_true rfl) dX3_add_91 ?_
          refine lv_istore_n (lv' := [(3, .int (if (σ (R x0 0) x6.toNatClampNeg) < x3 then (σ (R x0 0) x6.toNatClampNeg) else x3)), (0, .ref (gb g + x0)), (4, .int x4), (5, .int x5), (6, .int x6)]) hx hb dX3_add_94 rfl hl (by decide) rfl (fun ls hl => ?_)
          refine lv_iload hx hb dX3_add_95 (lv_at hl 2 rfl) ?_
          refine lv_aload_n hx hb dX3_add_97 rfl (lv_at hl 1 rfl) ?_
          have hR23 : Ok 194 (R x0 1) 10008 := hSh x0 3 1 10008 hx0.1 rfl
          refine x_getR C S KX3 hx0 1 (by decide) rfl rfl fl_RX3_15 hR23 dX3_add_98 ?_
          refine lv_iload hx hb dX3_add_101 (lv_at hl 4 rfl) ?_
          obtain ⟨hi24, h⟩ := ck_el h
          refine x_iald (len := 8) C S (by decide) hR23 hi24 dX3_add_103 ?_
          refine x_max C hl.1 ⟨ml_RX3_28, st_math_max, ni_math, cd_math_max⟩ (Nat.le_of_ble_eq_true rfl) (Nat.le_of_ble_eq_true rfl) (Nat.le_of_ble_eq_true rfl) (Nat.le_of_ble_eq_true rfl) dX3_add_104 ?_
          refine lv_istore (lv' := [(4, .int (if x4 < (σ (R x0 1) x6.toNatClampNeg) then (σ (R x0 1) x6.toNatClampNeg) else x4)), (3, .int (if (σ (R x0 0) x6.toNatClampNeg) < x3 then (σ (R x0 0) x6.toNatClampNeg) else x3)), (0, .ref (gb g + x0)), (5, .int x5), (6, .int x6)]) hx hb dX3_add_107 hl (by decide) rfl (fun ls hl => ?_)
          exact w_X3_add_109 C hr hSh ih σ x0 (if (σ (R x0 0) x6.toNatClampNeg) < x3 then (σ (R x0 0) x6.toNatClampNeg) else x3) (if x4 < (σ (R x0 1) x6.toNatClampNeg) then (σ (R x0 1) x6.toNatClampNeg) else x4) x5 x6 h hx0 H locs ls S (lv_sub hl [2, 1, 0, 3, 4] rfl)
        · have h := it_n c20 h
          exact w_X3_add_49 C hr hSh ih σ x0 x3 x4 x5 x6 h hx0 H locs ls S (lv_sub hl [0, 1, 2, 3, 4] rfl)
set_option maxHeartbeats 4000000 in
set_option maxRecDepth 100000 in
theorem ok_X3_add {l : Launch} {g : GL} {R : Nat → Nat → Nat} {L : Nat → Nat → Int64} {N : Nat} {σ : SI} {x0 : Nat} {x1 : Int32} {x2 : Int32} {r : (Unit × SI)} (h : f_X3_add N R σ x0 x1 x2 = some r) (hSh : ShR R) (hx0 : Ok 194 x0 3) : Ct l g 2 yX3_add cX3_add 7 none 194 194 0 0 [.ref (gb g + x0), .int x1, .int x2] (mkS σ R L) (PV R L r) := by
  refine Met.ofW (cc := cX3_add) (maxL := 7) (ret := none) (by decide) rfl ?_
  intro p e s m args below meth c s₁ B hml hv
  obtain ⟨rfl, hE, hLo, hWd⟩ := hv
  have hr : meth.sig.returnType = none := B.returns
  have C : Cx l g p s m meth c cX3_add 7 RX3 := ⟨B.exec, B.bytes, hml, findClass_of_methodNamed B.named, hE, hLo, B.notSynchronized⟩
  have S : S2 g s σ R L s.heap [] := ⟨hWd, va_S.rf⟩
  have hx := C.1
  have hb := C.2.1
  have hl := lv_entry ([.ref (gb g + x0), .int x1, .int x2]) (n := 7) (Nat.le_of_ble_eq_true rfl)
  rw [lg_entry_eq]
  generalize (lg_sl ([.ref (gb g + x0), .int x1, .int x2]) ++ List.replicate (7 - (lg_sl ([.ref (gb g + x0), .int x1, .int x2])).length) Slot.unset).toArray = ls at hl ⊢
  have hl : lv_has ls 7 [(0, .ref (gb g + x0)), (1, .int x1), (2, .int x2)] := hl
  generalize hH : s.heap = H at S ⊢
  generalize hlc : ([] : List Loc) = locs at S ⊢
  rw [f_X3_add] at h
  refine lv_iload_n hx hb dX3_add_0 rfl (lv_at hl 1 rfl) ?_
  refine lv_iload_n hx hb dX3_add_1 rfl (lv_at hl 2 rfl) ?_
  refine lv_icmp_lt (tgt := 6) hx hb dX3_add_2 (by decide) (fun c1 => ?_) (fun c1 => ?_)
  · have h := it_p c1 h
    refine lv_iload_n hx hb dX3_add_6 rfl (lv_at hl 1 rfl) ?_
    refine lv_istore_n (lv' := [(3, .int x1), (0, .ref (gb g + x0)), (1, .int x1), (2, .int x2)]) hx hb dX3_add_7 rfl hl (by decide) rfl (fun ls hl => ?_)
    refine lv_iload_n hx hb dX3_add_8 rfl (lv_at hl 3 rfl) ?_
    refine lv_istore (lv' := [(4, .int x2), (3, .int x1), (0, .ref (gb g + x0)), (1, .int x1), (2, .int x2)]) hx hb dX3_add_9 hl (by decide) rfl (fun ls hl => ?_)
    refine lv_iconst (v := (0 : Int32)) hx hb dX3_add_11 (by decide) ?_
    refine lv_istore (lv' := [(5, .int (0 : Int32)), (4, .int x2), (3, .int x1), (0, .ref (gb g + x0)), (1, .int x1), (2, .int x2)]) hx hb dX3_add_12 hl (by decide) rfl (fun ls hl => ?_)
    refine lv_iconst (v := (0 : Int32)) hx hb dX3_add_14 (by decide) ?_
    refine lv_istore (lv' := [(6, .int (0 : Int32)), (5, .int (0 : Int32)), (4, .int x2), (3, .int x1), (0, .ref (gb g + x0)), (1, .int x1), (2, .int x2)]) hx hb dX3_add_15 hl (by decide) rfl (fun ls hl => ?_)
    exact w_X3_add_17 C hr hSh N σ x0 x1 x2 (0 : Int32) (0 : Int32) h hx0 H locs ls S (lv_sub hl [4, 3, 2, 1, 0] rfl)
  · have h := it_n c1 h
    exact x_vret C S hr h dX3_add_5
theorem dX3_size_0 : decode cX3_size 0 = .ok (.aload_n 0, 1) := by decide +kernel
theorem dX3_size_1 : decode cX3_size 1 = .ok (.iconst 0, 1) := by decide +kernel
theorem dX3_size_2 : decode cX3_size 2 = .ok (.sipush 1440, 3) := by decide +kernel
theorem dX3_size_5 : decode cX3_size 5 = .ok (.invokevirtual 35, 3) := by decide +kernel
theorem dX3_size_8 : decode cX3_size 8 = .ok (.ireturn, 1) := by decide +kernel
def f_X3_size (N : Nat) (R : Nat → Nat → Nat) (σ : SI) (x0 : Nat) : Option (Int32 × SI) := bd (f_X3_sizeWithin N R σ x0 (0 : Int32) (1440 : Int32)) (fun a1 σ1 => some (a1, σ1))
set_option maxHeartbeats 4000000 in
set_option maxRecDepth 100000 in
theorem ok_X3_size {l : Launch} {g : GL} {R : Nat → Nat → Nat} {L : Nat → Nat → Int64} {N : Nat} {σ : SI} {x0 : Nat} {r : (Int32 × SI)} (h : f_X3_size N R σ x0 = some r) (hSh : ShR R) (hx0 : Ok 194 x0 3) : Ct l g 2 yX3_size cX3_size 1 (some .int) 194 194 0 0 [.ref (gb g + x0)] (mkS σ R L) (PI R L r) := by
  refine Met.ofW (cc := cX3_size) (maxL := 1) (ret := (some .int)) (by decide) rfl ?_
  intro p e s m args below meth c s₁ B hml hv
  obtain ⟨rfl, hE, hLo, hWd⟩ := hv
  have hr : meth.sig.returnType = (some .int) := B.returns
  have C : Cx l g p s m meth c cX3_size 1 RX3 := ⟨B.exec, B.bytes, hml, findClass_of_methodNamed B.named, hE, hLo, B.notSynchronized⟩
  have S : S2 g s σ R L s.heap [] := ⟨hWd, va_S.rf⟩
  have hx := C.1
  have hb := C.2.1
  have hl := lv_entry ([.ref (gb g + x0)]) (n := 1) (Nat.le_of_ble_eq_true rfl)
  rw [lg_entry_eq]
  generalize (lg_sl ([.ref (gb g + x0)]) ++ List.replicate (1 - (lg_sl ([.ref (gb g + x0)])).length) Slot.unset).toArray = ls at hl ⊢
  have hl : lv_has ls 1 [(0, .ref (gb g + x0))] := hl
  generalize hH : s.heap = H at S ⊢
  generalize hlc : ([] : List Loc) = locs at S ⊢
  rw [f_X3_size] at h
  refine lv_aload_n hx hb dX3_size_0 rfl (lv_at hl 0 rfl) ?_
  refine lv_iconst (v := (0 : Int32)) hx hb dX3_size_1 (by decide) ?_
  refine lv_sipush (v := (1440 : Int32)) hx hb dX3_size_2 (by decide) ?_
  obtain ⟨a1, σ1, hc1, h⟩ := bd_el h
  refine x_callVI C S KX3 hx0 (ok_X3_sizeWithin (L := L) hc1 hSh hx0) ⟨cd_X3_sizeWithin, ni_RX3, ml_RX3_35, in_X3_sizeWithin, sl_X3_sizeWithin⟩ ⟨by decide, by decide⟩ rfl ⟨by decide, by decide⟩ hl.1 rfl (Nat.le_of_ble_eq_true rfl) ⟨by decide, by decide⟩ dX3_size_5 (fun H locs S => ?_)
  exact x_iret C S hr h dX3_size_8
theorem dX6_newlyClosedOf_0 : decode cX6_newlyClosedOf 0 = .ok (.aload_n 1, 1) := by decide +kernel
theorem dX6_newlyClosedOf_1 : decode cX6_newlyClosedOf 1 = .ok (.iload_n 3, 1) := by decide +kernel
theorem dX6_newlyClosedOf_2 : decode cX6_newlyClosedOf 2 = .ok (.invokevirtual 80, 3) := by decide +kernel
theorem dX6_newlyClosedOf_5 : decode cX6_newlyClosedOf 5 = .ok (.istore 4, 2) := by decide +kernel
theorem dX6_newlyClosedOf_7 : decode cX6_newlyClosedOf 7 = .ok (.aload_n 1, 1) := by decide +kernel
theorem dX6_newlyClosedOf_8 : decode cX6_newlyClosedOf 8 = .ok (.iload_n 3, 1) := by decide +kernel
theorem dX6_newlyClosedOf_9 : decode cX6_newlyClosedOf 9 = .ok (.invokevirtual 83, 3) := by decide +kernel
theorem dX6_newlyClosedOf_12 : decode cX6_newlyClosedOf 12 = .ok (.istore 5, 2) := by decide +kernel
theorem dX6_newlyClosedOf_14 : decode cX6_newlyClosedOf 14 = .ok (.iconst 0, 1) := by decide +kernel
theorem dX6_newlyClosedOf_15 : decode cX6_newlyClosedOf 15 = .ok (.istore 6, 2) := by decide +kernel
theorem dX6_newlyClosedOf_17 : decode cX6_newlyClosedOf 17 = .ok (.iload 6, 2) := by decide +kernel
theorem dX6_newlyClosedOf_19 : decode cX6_newlyClosedOf 19 = .ok (.aload_n 1, 1) := by decide +kernel
theorem dX6_newlyClosedOf_20 : decode cX6_newlyClosedOf 20 = .ok (.getfield 29, 3) := by decide +kernel
theorem dX6_newlyClosedOf_23 : decode cX6_newlyClosedOf 23 = .ok (.if_icmp .ge 87, 3) := by decide +kernel
theorem dX6_newlyClosedOf_26 : decode cX6_newlyClosedOf 26 = .ok (.aload_n 0, 1) := by decide +kernel
theorem dX6_newlyClosedOf_27 : decode cX6_newlyClosedOf 27 = .ok (.getfield 15, 3) := by decide +kernel
theorem dX6_newlyClosedOf_30 : decode cX6_newlyClosedOf 30 = .ok (.iload 6, 2) := by decide +kernel
theorem dX6_newlyClosedOf_32 : decode cX6_newlyClosedOf 32 = .ok (.iaload, 1) := by decide +kernel
theorem dX6_newlyClosedOf_33 : decode cX6_newlyClosedOf 33 = .ok (.iconst (-1), 1) := by decide +kernel
theorem dX6_newlyClosedOf_34 : decode cX6_newlyClosedOf 34 = .ok (.if_icmp .eq 70, 3) := by decide +kernel
theorem dX6_newlyClosedOf_37 : decode cX6_newlyClosedOf 37 = .ok (.aload_n 1, 1) := by decide +kernel
theorem dX6_newlyClosedOf_38 : decode cX6_newlyClosedOf 38 = .ok (.getfield 67, 3) := by decide +kernel
theorem dX6_newlyClosedOf_41 : decode cX6_newlyClosedOf 41 = .ok (.iload 6, 2) := by decide +kernel
theorem dX6_newlyClosedOf_43 : decode cX6_newlyClosedOf 43 = .ok (.aaload, 1) := by decide +kernel
theorem dX6_newlyClosedOf_44 : decode cX6_newlyClosedOf 44 = .ok (.iload_n 2, 1) := by decide +kernel
theorem dX6_newlyClosedOf_45 : decode cX6_newlyClosedOf 45 = .ok (.invokevirtual 71, 3) := by decide +kernel
theorem dX6_newlyClosedOf_48 : decode cX6_newlyClosedOf 48 = .ok (.ifCond .ne 6, 3) := by decide +kernel
theorem dX6_newlyClosedOf_51 : decode cX6_newlyClosedOf 51 = .ok (.goto 53, 3) := by decide +kernel
theorem dX6_newlyClosedOf_54 : decode cX6_newlyClosedOf 54 = .ok (.aload_n 0, 1) := by decide +kernel
theorem dX6_newlyClosedOf_55 : decode cX6_newlyClosedOf 55 = .ok (.getfield 15, 3) := by decide +kernel
theorem dX6_newlyClosedOf_58 : decode cX6_newlyClosedOf 58 = .ok (.iload 6, 2) := by decide +kernel
theorem dX6_newlyClosedOf_60 : decode cX6_newlyClosedOf 60 = .ok (.iaload, 1) := by decide +kernel
theorem dX6_newlyClosedOf_61 : decode cX6_newlyClosedOf 61 = .ok (.iload_n 3, 1) := by decide +kernel
theorem dX6_newlyClosedOf_62 : decode cX6_newlyClosedOf 62 = .ok (.if_icmp .gt 24, 3) := by decide +kernel
theorem dX6_newlyClosedOf_65 : decode cX6_newlyClosedOf 65 = .ok (.iload 4, 2) := by decide +kernel
theorem dX6_newlyClosedOf_67 : decode cX6_newlyClosedOf 67 = .ok (.aload_n 1, 1) := by decide +kernel
theorem dX6_newlyClosedOf_68 : decode cX6_newlyClosedOf 68 = .ok (.aload_n 0, 1) := by decide +kernel
theorem dX6_newlyClosedOf_69 : decode cX6_newlyClosedOf 69 = .ok (.getfield 15, 3) := by decide +kernel
theorem dX6_newlyClosedOf_72 : decode cX6_newlyClosedOf 72 = .ok (.iload 6, 2) := by decide +kernel
theorem dX6_newlyClosedOf_74 : decode cX6_newlyClosedOf 74 = .ok (.iaload, 1) := by decide +kernel
theorem dX6_newlyClosedOf_75 : decode cX6_newlyClosedOf 75 = .ok (.invokevirtual 83, 3) := by decide +kernel
theorem dX6_newlyClosedOf_78 : decode cX6_newlyClosedOf 78 = .ok (.invokestatic 86, 3) := by decide +kernel
theorem dX6_newlyClosedOf_81 : decode cX6_newlyClosedOf 81 = .ok (.istore 4, 2) := by decide +kernel
theorem dX6_newlyClosedOf_83 : decode cX6_newlyClosedOf 83 = .ok (.goto 21, 3) := by decide +kernel
theorem dX6_newlyClosedOf_86 : decode cX6_newlyClosedOf 86 = .ok (.iload 5, 2) := by decide +kernel
theorem dX6_newlyClosedOf_88 : decode cX6_newlyClosedOf 88 = .ok (.aload_n 1, 1) := by decide +kernel
theorem dX6_newlyClosedOf_89 : decode cX6_newlyClosedOf 89 = .ok (.aload_n 0, 1) := by decide +kernel
theorem dX6_newlyClosedOf_90 : decode cX6_newlyClosedOf 90 = .ok (.getfield 15, 3) := by decide +kernel
theorem dX6_newlyClosedOf_93 : decode cX6_newlyClosedOf 93 = .ok (.iload 6, 2) := by decide +kernel
theorem dX6_newlyClosedOf_95 : decode cX6_newlyClosedOf 95 = .ok (.iaload, 1) := by decide +kernel
theorem dX6_newlyClosedOf_96 : decode cX6_newlyClosedOf 96 = .ok (.invokevirtual 80, 3) := by decide +kernel
theorem dX6_newlyClosedOf_99 : decode cX6_newlyClosedOf 99 = .ok (.invokestatic 92, 3) := by decide +kernel
theorem dX6_newlyClosedOf_102 : decode cX6_newlyClosedOf 102 = .ok (.istore 5, 2) := by decide +kernel
theorem dX6_newlyClosedOf_104 : decode cX6_newlyClosedOf 104 = .ok (.iinc 6 1, 3) := by decide +kernel
theorem dX6_newlyClosedOf_107 : decode cX6_newlyClosedOf 107 = .ok (.goto (-90), 3) := by decide +kernel
theorem dX6_newlyClosedOf_110 : decode cX6_newlyClosedOf 110 = .ok (.iconst 0, 1) := by decide +kernel
theorem dX6_newlyClosedOf_111 : decode cX6_newlyClosedOf 111 = .ok (.iload 5, 2) := by decide +kernel
theorem dX6_newlyClosedOf_113 : decode cX6_newlyClosedOf 113 = .ok (.iload 4, 2) := by decide +kernel
theorem dX6_newlyClosedOf_115 : decode cX6_newlyClosedOf 115 = .ok (.isub, 1) := by decide +kernel
theorem dX6_newlyClosedOf_116 : decode cX6_newlyClosedOf 116 = .ok (.invokestatic 86, 3) := by decide +kernel
theorem dX6_newlyClosedOf_119 : decode cX6_newlyClosedOf 119 = .ok (.ireturn, 1) := by decide +kernel
def f_X6_newlyClosedOf_104 (N : Nat) (R : Nat → Nat → Nat) (k17 : SI → Nat → Nat → Int32 → Int32 → Int32 → Int32 → Int32 → Option (Int32 × SI)) (σ : SI) (x0 : Nat) (x1 : Nat) (x2 : Int32) (x3 : Int32) (x4 : Int32) (x5 : Int32) (x6 : Int32) : Option (Int32 × SI) := k17 σ x0 x1 x2 x3 x4 x5 (x6 + 1)
def f_X6_newlyClosedOf_17 (N : Nat) (R : Nat → Nat → Nat) : Nat → SI → Nat → Nat → Int32 → Int32 → Int32 → Int32 → Int32 → Option (Int32 × SI)
  | 0, _, _, _, _, _, _, _, _ => none
  | n + 1, σ, x0, x1, x2, x3, x4, x5, x6 => if (σ x1 11) ≤ x6 then (some (if (0 : Int32) < (x5 - x4) then (x5 - x4) else (0 : Int32), σ)) else (ck x6 6 (if (σ (R x0 1) x6.toNatClampNeg) = (-1 : Int32) then (f_X6_newlyClosedOf_104 N R (fun σ x0 x1 x2 x3 x4 x5 x6 => f_X6_newlyClosedOf_17 N R n σ x0 x1 x2 x3 x4 x5 x6) σ x0 x1 x2 x3 x4 x5 x6) else (ck x6 6 (bd (f_X0_closesRoad N R σ (R (R x1 2) x6.toNatClampNeg) x2) (fun a10 σ10 => if a10 = 0 then (f_X6_newlyClosedOf_104 N R (fun σ x0 x1 x2 x3 x4 x5 x6 => f_X6_newlyClosedOf_17 N R n σ x0 x1 x2 x3 x4 x5 x6) σ10 x0 x1 x2 x3 x4 x5 x6) else (ck x6 6 (if x3 < (σ10 (R x0 1) x6.toNatClampNeg) then (ck x6 6 (bd (f_X9_closingFirst N R σ10 x1 (σ10 (R x0 1) x6.toNatClampNeg)) (fun a17 σ17 => f_X6_newlyClosedOf_104 N R (fun σ x0 x1 x2 x3 x4 x5 x6 => f_X6_newlyClosedOf_17 N R n σ x0 x1 x2 x3 x4 x5 x6) σ17 x0 x1 x2 x3 x4 (if a17 < x5 then a17 else x5) x6))) else (ck x6 6 (bd (f_X9_closingEnd N R σ10 x1 (σ10 (R x0 1) x6.toNatClampNeg)) (fun a20 σ20 => f_X6_newlyClosedOf_104 N R (fun σ x0 x1 x2 x3 x4 x5 x6 => f_X6_newlyClosedOf_17 N R n σ x0 x1 x2 x3 x4 x5 x6) σ20 x0 x1 x2 x3 (if x4 < a20 then a20 else x4) x5 x6))))))))))
def f_X6_newlyClosedOf (N : Nat) (R : Nat → Nat → Nat) (σ : SI) (x0 : Nat) (x1 : Nat) (x2 : Int32) (x3 : Int32) : Option (Int32 × SI) := bd (f_X9_closingFirst N R σ x1 x3) (fun a1 σ1 => bd (f_X9_closingEnd N R σ1 x1 x3) (fun a2 σ2 => f_X6_newlyClosedOf_17 N R N σ2 x0 x1 x2 x3 a1 a2 (0 : Int32)))
set_option maxHeartbeats 4000000 in
set_option maxRecDepth 100000 in
theorem w_X6_newlyClosedOf_104 {l : Launch} {g : GL} {p : Program} {e : Jvm.Env} {s : State} {m : MethodId} {args : Array Value} {below : List Frame} {meth : Method} {c : Code} {R : Nat → Nat → Nat} {L : Nat → Nat → Int64} {r : (Int32 × SI)} {N : Nat} {k17 : SI → Nat → Nat → Int32 → Int32 → Int32 → Int32 → Int32 → Option (Int32 × SI)} (C : Cx l g p s m meth c cX6_newlyClosedOf 7 RX6) (hr : meth.sig.returnType = (some .int)) (hSh : ShR R) (hk17 : ∀ (σ : SI) (x0 : Nat) (x1 : Nat) (x2 : Int32) (x3 : Int32) (x4 : Int32) (x5 : Int32) (x6 : Int32), k17 σ x0 x1 x2 x3 x4 x5 x6 = some r → Ok 194 x0 6 → Ok 194 x1 9 → ∀ (H : Heap) (locs : List Loc) (ls : Array Slot), S2 g s σ R L H locs → lv_has ls 7 [(0, .ref (gb g + x0)), (1, .ref (gb g + x1)), (2, .int x2), (3, .int x3), (4, .int x4), (5, .int x5), (6, .int x6)] → W p l e (rmd 2 0 0) s m args below meth c H locs 0 0 (MQ below (Qg g 194 (PI R L r)) args s 0 0 (gA g)) (F0 m 17 ls [])) : ∀ (σ : SI) (x0 : Nat) (x1 : Nat) (x2 : Int32) (x3 : Int32) (x4 : Int32) (x5 : Int32) (x6 : Int32), f_X6_newlyClosedOf_104 N R k17 σ x0 x1 x2 x3 x4 x5 x6 = some r → Ok 194 x0 6 → Ok 194 x1 9 → ∀ (H : Heap) (locs : List Loc) (ls : Array Slot), S2 g s σ R L H locs → lv_has ls 7 [(0, .ref (gb g + x0)), (1, .ref (gb g + x1)), (2, .int x2), (3, .int x3), (4, .int x4), (5, .int x5), (6, .int x6)] → W p l e (rmd 2 0 0) s m args below meth c H locs 0 0 (MQ below (Qg g 194 (PI R L r)) args s 0 0 (gA g)) (F0 m 104 ls []) := by
  have hx := C.1
  have hb := C.2.1
  intro σ x0 x1 x2 x3 x4 x5 x6 h hx0 hx1 H locs ls S hl
  rw [f_X6_newlyClosedOf_104] at h
  refine lv_iinc (v := x6 + 1) (lv' := [(6, .int (x6 + 1)), (0, .ref (gb g + x0)), (1, .ref (gb g + x1)), (2, .int x2), (3, .int x3), (4, .int x4), (5, .int x5)]) hx hb dX6_newlyClosedOf_104 hl (k := 6) rfl rfl (by decide) rfl (fun ls hl => ?_)
  refine lv_goto (tgt := 17) hx hb dX6_newlyClosedOf_107 (by decide) ?_
  exact hk17 σ x0 x1 x2 x3 x4 x5 (x6 + 1) h hx0 hx1 H locs ls S (lv_sub hl [1, 2, 3, 4, 5, 6, 0] rfl)
set_option maxHeartbeats 4000000 in
set_option maxRecDepth 100000 in
theorem w_X6_newlyClosedOf_17 {l : Launch} {g : GL} {p : Program} {e : Jvm.Env} {s : State} {m : MethodId} {args : Array Value} {below : List Frame} {meth : Method} {c : Code} {R : Nat → Nat → Nat} {L : Nat → Nat → Int64} {r : (Int32 × SI)} {N : Nat} (C : Cx l g p s m meth c cX6_newlyClosedOf 7 RX6) (hr : meth.sig.returnType = (some .int)) (hSh : ShR R) : ∀ (n : Nat) (σ : SI) (x0 : Nat) (x1 : Nat) (x2 : Int32) (x3 : Int32) (x4 : Int32) (x5 : Int32) (x6 : Int32), f_X6_newlyClosedOf_17 N R n σ x0 x1 x2 x3 x4 x5 x6 = some r → Ok 194 x0 6 → Ok 194 x1 9 → ∀ (H : Heap) (locs : List Loc) (ls : Array Slot), S2 g s σ R L H locs → lv_has ls 7 [(0, .ref (gb g + x0)), (1, .ref (gb g + x1)), (2, .int x2), (3, .int x3), (4, .int x4), (5, .int x5), (6, .int x6)] → W p l e (rmd 2 0 0) s m args below meth c H locs 0 0 (MQ below (Qg g 194 (PI R L r)) args s 0 0 (gA g)) (F0 m 17 ls []) := by
  have hx := C.1
  have hb := C.2.1
  intro n
  induction n with
  | zero =>
    intro σ x0 x1 x2 x3 x4 x5 x6 h
    cases (show (none : Option (Int32 × SI)) = some r from h)
  | succ n ih =>
    intro σ x0 x1 x2 x3 x4 x5 x6 h hx0 hx1 H locs ls S hl
    rw [f_X6_newlyClosedOf_17] at h
    refine lv_iload hx hb dX6_newlyClosedOf_17 (lv_at hl 6 rfl) ?_
    refine lv_aload_n hx hb dX6_newlyClosedOf_19 rfl (lv_at hl 1 rfl) ?_
    refine x_getI C S KX9 hx1 11 (by decide) rfl rfl fl_RX6_29 dX6_newlyClosedOf_20 ?_
    refine lv_icmp_ge (tgt := 110) hx hb dX6_newlyClosedOf_23 (by decide) (fun c3 => ?_) (fun c3 => ?_)
    · have h := it_p c3 h
      refine lv_iconst (v := (0 : Int32)) hx hb dX6_newlyClosedOf_110 (by decide) ?_
      refine lv_iload hx hb dX6_newlyClosedOf_111 (lv_at hl 5 rfl) ?_
      refine lv_iload hx hb dX6_newlyClosedOf_113 (lv_at hl 4 rfl) ?_
      refine lv_isub hx hb dX6_newlyClosedOf_115 ?_
      refine x_max C hl.1 ⟨ml_RX6_86, st_math_max, ni_math, cd_math_max⟩ (Nat.le_of_ble_eq_true rfl) (Nat.le_of_ble_eq_true rfl) (Nat.le_of_ble_eq_true rfl) (Nat.le_of_ble_eq_true rfl) dX6_newlyClosedOf_116 ?_
      exact x_iret C S hr h dX6_newlyClosedOf_119
    · have h := it_n c3 h
      refine lv_aload_n hx hb dX6_newlyClosedOf_26 rfl (lv_at hl 0 rfl) ?_
      have hR4 : Ok 194 (R x0 1) 10006 := hSh x0 6 1 10006 hx0.1 rfl
      refine x_getR C S KX6 hx0 1 (by decide) rfl rfl fl_RX6_15 hR4 dX6_newlyClosedOf_27 ?_
      refine lv_iload hx hb dX6_newlyClosedOf_30 (lv_at hl 6 rfl) ?_
      obtain ⟨hi5, h⟩ := ck_el h
      refine x_iald (len := 6) C S (by decide) hR4 hi5 dX6_newlyClosedOf_32 ?_
      refine lv_iconst (v := (-1 : Int32)) hx hb dX6_newlyClosedOf_33 (by decide) ?_
      refine lv_icmp_eq (tgt := 104) hx hb dX6_newlyClosedOf_34 (by decide) (fun c6 => ?_) (fun c6 => ?_)
      · have h := it_p c6 h
        exact w_X6_newlyClosedOf_104 C hr hSh ih σ x0 x1 x2 x3 x4 x5 x6 h hx0 hx1 H locs ls S (lv_sub hl [0, 1, 2, 3, 4, 5, 6] rfl)
      · have h := it_n c6 h
        refine lv_aload_n hx hb dX6_newlyClosedOf_37 rfl (lv_at hl 1 rfl) ?_
        have hR7 : Ok 194 (R x1 2) 50006 := hSh x1 9 2 50006 hx1.1 rfl
        refine x_getR C S KX9 hx1 2 (by decide) rfl rfl fl_RX6_67 hR7 dX6_newlyClosedOf_38 ?_
        refine lv_iload hx hb dX6_newlyClosedOf_41 (lv_at hl 6 rfl) ?_
        obtain ⟨hi8, h⟩ := ck_el h
        have hR9 : Ok 194 (R (R x1 2) x6.toNatClampNeg) 0 := hSh (R x1 2) 50006 x6.toNatClampNeg 0 hR7.1 (if_pos (vp_lt hi8))
        refine x_aald (len := 6) C S (by decide) 4 (by decide) rfl hR7 hi8 hR9 dX6_newlyClosedOf_43 ?_
        refine lv_iload_n hx hb dX6_newlyClosedOf_44 rfl (lv_at hl 2 rfl) ?_
        obtain ⟨a10, σ10, hc10, h⟩ := bd_el h
        refine x_callVI C S KX0 hR9 (ok_X0_closesRoad (L := L) hc10 hSh hR9) ⟨cd_X0_closesRoad, ni_RX0, ml_RX6_71, in_X0_closesRoad, sl_X0_closesRoad⟩ ⟨by decide, by decide⟩ rfl ⟨by decide, by decide⟩ hl.1 rfl (Nat.le_of_ble_eq_true rfl) ⟨by decide, by decide⟩ dX6_newlyClosedOf_45 (fun H locs S => ?_)
        refine lv_if_ne (tgt := 54) hx hb dX6_newlyClosedOf_48 (by decide) (fun c11 => ?_) (fun c11 => ?_)
        · have h := it_n c11 h
          refine lv_aload_n hx hb dX6_newlyClosedOf_54 rfl (lv_at hl 0 rfl) ?_
          have hR12 : Ok 194 (R x0 1) 10006 := hSh x0 6 1 10006 hx0.1 rfl
          refine x_getR C S KX6 hx0 1 (by decide) rfl rfl fl_RX6_15 hR12 dX6_newlyClosedOf_55 ?_
          refine lv_iload hx hb dX6_newlyClosedOf_58 (lv_at hl 6 rfl) ?_
          obtain ⟨hi13, h⟩ := ck_el h
          refine x_iald (len := 6) C S (by decide) hR12 hi13 dX6_newlyClosedOf_60 ?_
          refine lv_iload_n hx hb dX6_newlyClosedOf_61 rfl (lv_at hl 3 rfl) ?_
          refine lv_icmp_gt (tgt := 86) hx hb dX6_newlyClosedOf_62 (by decide) (fun c14 => ?_) (fun c14 => ?_)
          · have h := it_p c14 h
            refine lv_iload hx hb dX6_newlyClosedOf_86 (lv_at hl 5 rfl) ?_
            refine lv_aload_n hx hb dX6_newlyClosedOf_88 rfl (lv_at hl 1 rfl) ?_
            refine lv_aload_n hx hb dX6_newlyClosedOf_89 rfl (lv_at hl 0 rfl) ?_
            have hR15 : Ok 194 (R x0 1) 10006 := hSh x0 6 1 10006 hx0.1 rfl
            refine x_getR C S KX6 hx0 1 (by decide) rfl rfl fl_RX6_15 hR15 dX6_newlyClosedOf_90 ?_
            refine lv_iload hx hb dX6_newlyClosedOf_93 (lv_at hl 6 rfl) ?_
            obtain ⟨hi16, h⟩ := ck_el h
            refine x_iald (len := 6) C S (by decide) hR15 hi16 dX6_newlyClosedOf_95 ?_
            obtain ⟨a17, σ17, hc17, h⟩ := bd_el h
            refine x_callVI C S KX9 hx1 (ok_X9_closingFirst (L := L) hc17 hSh hx1) ⟨cd_X9_closingFirst, ni_RX9, ml_RX6_80, in_X9_closingFirst, sl_X9_closingFirst⟩ ⟨by decide, by decide⟩ rfl ⟨by decide, by decide⟩ hl.1 rfl (Nat.le_of_ble_eq_true rfl) ⟨by decide, by decide⟩ dX6_newlyClosedOf_96 (fun H locs S => ?_)
            refine x_min C hl.1 ⟨ml_RX6_92, st_math_min, ni_math, cd_math_min⟩ (Nat.le_of_ble_eq_true rfl) (Nat.le_of_ble_eq_true rfl) (Nat.le_of_ble_eq_true rfl) (Nat.le_of_ble_eq_true rfl) dX6_newlyClosedOf_99 ?_
            refine lv_istore (lv' := [(5, .int (if a17 < x5 then a17 else x5)), (0, .ref (gb g + x0)), (1, .ref (gb g + x1)), (2, .int x2), (3, .int x3), (4, .int x4), (6, .int x6)]) hx hb dX6_newlyClosedOf_102 hl (by decide) rfl (fun ls hl => ?_)
            exact w_X6_newlyClosedOf_104 C hr hSh ih σ17 x0 x1 x2 x3 x4 (if a17 < x5 then a17 else x5) x6 h hx0 hx1 H locs ls S (lv_sub hl [1, 2, 3, 4, 5, 0, 6] rfl)
          · have h := it_n c14 h
            refine lv_iload hx hb dX6_newlyClosedOf_65 (lv_at hl 4 rfl) ?_
            refine lv_aload_n hx hb dX6_newlyClosedOf_67 rfl (lv_at hl 1 rfl) ?_
            refine lv_aload_n hx hb dX6_newlyClosedOf_68 rfl (lv_at hl 0 rfl) ?_
            have hR18 : Ok 194 (R x0 1) 10006 := hSh x0 6 1 10006 hx0.1 rfl
            refine x_getR C S KX6 hx0 1 (by decide) rfl rfl fl_RX6_15 hR18 dX6_newlyClosedOf_69 ?_
            refine lv_iload hx hb dX6_newlyClosedOf_72 (lv_at hl 6 rfl) ?_
            obtain ⟨hi19, h⟩ := ck_el h
            refine x_iald (len := 6) C S (by decide) hR18 hi19 dX6_newlyClosedOf_74 ?_
            obtain ⟨a20, σ20, hc20, h⟩ := bd_el h
            refine x_callVI C S KX9 hx1 (ok_X9_closingEnd (L := L) hc20 hSh hx1) ⟨cd_X9_closingEnd, ni_RX9, ml_RX6_83, in_X9_closingEnd, sl_X9_closingEnd⟩ ⟨by decide, by decide⟩ rfl ⟨by decide, by decide⟩ hl.1 rfl (Nat.le_of_ble_eq_true rfl) ⟨by decide, by decide⟩ dX6_newlyClosedOf_75 (fun H locs S => ?_)
            refine x_max C hl.1 ⟨ml_RX6_86, st_math_max, ni_math, cd_math_max⟩ (Nat.le_of_ble_eq_true rfl) (Nat.le_of_ble_eq_true rfl) (Nat.le_of_ble_eq_true rfl) (Nat.le_of_ble_eq_true rfl) dX6_newlyClosedOf_78 ?_
            refine lv_istore (lv' := [(4, .int (if x4 < a20 then a20 else x4)), (0, .ref (gb g + x0)), (1, .ref (gb g + x1)), (2, .int x2), (3, .int x3), (5, .int x5), (6, .int x6)]) hx hb dX6_newlyClosedOf_81 hl (by decide) rfl (fun ls hl => ?_)
            refine lv_goto (tgt := 104) hx hb dX6_newlyClosedOf_83 (by decide) ?_
            exact w_X6_newlyClosedOf_104 C hr hSh ih σ20 x0 x1 x2 x3 (if x4 < a20 then a20 else x4) x5 x6 h hx0 hx1 H locs ls S (lv_sub hl [1, 2, 3, 4, 0, 5, 6] rfl)
        · have h := it_p c11 h
          refine lv_goto (tgt := 104) hx hb dX6_newlyClosedOf_51 (by decide) ?_
          exact w_X6_newlyClosedOf_104 C hr hSh ih σ10 x0 x1 x2 x3 x4 x5 x6 h hx0 hx1 H locs ls S (lv_sub hl [0, 1, 2, 3, 4, 5, 6] rfl)
set_option maxHeartbeats 4000000 in
set_option maxRecDepth 100000 in
theorem ok_X6_newlyClosedOf {l : Launch} {g : GL} {R : Nat → Nat → Nat} {L : Nat → Nat → Int64} {N : Nat} {σ : SI} {x0 : Nat} {x1 : Nat} {x2 : Int32} {x3 : Int32} {r : (Int32 × SI)} (h : f_X6_newlyClosedOf N R σ x0 x1 x2 x3 = some r) (hSh : ShR R) (hx0 : Ok 194 x0 6) (hx1 : Ok 194 x1 9) : Ct l g 2 yX6_newlyClosedOf cX6_newlyClosedOf 7 (some .int) 194 194 0 0 [.ref (gb g + x0), .ref (gb g + x1), .int x2, .int x3] (mkS σ R L) (PI R L r) := by
  refine Met.ofW (cc := cX6_newlyClosedOf) (maxL := 7) (ret := (some .int)) (by decide) rfl ?_
  intro p e s m args below meth c s₁ B hml hv
  obtain ⟨rfl, hE, hLo, hWd⟩ := hv
  have hr : meth.sig.returnType = (some .int) := B.returns
  have C : Cx l g p s m meth c cX6_newlyClosedOf 7 RX6 := ⟨B.exec, B.bytes, hml, findClass_of_methodNamed B.named, hE, hLo, B.notSynchronized⟩
  have S : S2 g s σ R L s.heap [] := ⟨hWd, va_S.rf⟩
  have hx := C.1
  have hb := C.2.1
  have hl := lv_entry ([.ref (gb g + x0), .ref (gb g + x1), .int x2, .int x3]) (n := 7) (Nat.le_of_ble_eq_true rfl)
  rw [lg_entry_eq]
  generalize (lg_sl ([.ref (gb g + x0), .ref (gb g + x1), .int x2, .int x3]) ++ List.replicate (7 - (lg_sl ([.ref (gb g + x0), .ref (gb g + x1), .int x2, .int x3])).length) Slot.unset).toArray = ls at hl ⊢
  have hl : lv_has ls 7 [(0, .ref (gb g + x0)), (1, .ref (gb g + x1)), (2, .int x2), (3, .int x3)] := hl
  generalize hH : s.heap = H at S ⊢
  generalize hlc : ([] : List Loc) = locs at S ⊢
  rw [f_X6_newlyClosedOf] at h
  refine lv_aload_n hx hb dX6_newlyClosedOf_0 rfl (lv_at hl 1 rfl) ?_
  refine lv_iload_n hx hb dX6_newlyClosedOf_1 rfl (lv_at hl 3 rfl) ?_
  obtain ⟨a1, σ1, hc1, h⟩ := bd_el h
  refine x_callVI C S KX9 hx1 (ok_X9_closingFirst (L := L) hc1 hSh hx1) ⟨cd_X9_closingFirst, ni_RX9, ml_RX6_80, in_X9_closingFirst, sl_X9_closingFirst⟩ ⟨by decide, by decide⟩ rfl ⟨by decide, by decide⟩ hl.1 rfl (Nat.le_of_ble_eq_true rfl) ⟨by decide, by decide⟩ dX6_newlyClosedOf_2 (fun H locs S => ?_)
  refine lv_istore (lv' := [(4, .int a1), (0, .ref (gb g + x0)), (1, .ref (gb g + x1)), (2, .int x2), (3, .int x3)]) hx hb dX6_newlyClosedOf_5 hl (by decide) rfl (fun ls hl => ?_)
  refine lv_aload_n hx hb dX6_newlyClosedOf_7 rfl (lv_at hl 2 rfl) ?_
  refine lv_iload_n hx hb dX6_newlyClosedOf_8 rfl (lv_at hl 4 rfl) ?_
  obtain ⟨a2, σ2, hc2, h⟩ := bd_el h
  refine x_callVI C S KX9 hx1 (ok_X9_closingEnd (L := L) hc2 hSh hx1) ⟨cd_X9_closingEnd, ni_RX9, ml_RX6_83, in_X9_closingEnd, sl_X9_closingEnd⟩ ⟨by decide, by decide⟩ rfl ⟨by decide, by decide⟩ hl.1 rfl (Nat.le_of_ble_eq_true rfl) ⟨by decide, by decide⟩ dX6_newlyClosedOf_9 (fun H locs S => ?_)
  refine lv_istore (lv' := [(5, .int a2), (4, .int a1), (0, .ref (gb g + x0)), (1, .ref (gb g + x1)), (2, .int x2), (3, .int x3)]) hx hb dX6_newlyClosedOf_12 hl (by decide) rfl (fun ls hl => ?_)
  refine lv_iconst (v := (0 : Int32)) hx hb dX6_newlyClosedOf_14 (by decide) ?_
  refine lv_istore (lv' := [(6, .int (0 : Int32)), (5, .int a2), (4, .int a1), (0, .ref (gb g + x0)), (1, .ref (gb g + x1)), (2, .int x2), (3, .int x3)]) hx hb dX6_newlyClosedOf_15 hl (by decide) rfl (fun ls hl => ?_)
  exact w_X6_newlyClosedOf_17 C hr hSh N σ2 x0 x1 x2 x3 a1 a2 (0 : Int32) h hx0 hx1 H locs ls S (lv_sub hl [3, 4, 5, 6, 2, 1, 0] rfl)
theorem dX8_gather_0 : decode cX8_gather 0 = .ok (.aload_n 0, 1) := by decide +kernel
theorem dX8_gather_1 : decode cX8_gather 1 = .ok (.iconst 0, 1) := by decide +kernel
theorem dX8_gather_2 : decode cX8_gather 2 = .ok (.putfield 15, 3) := by decide +kernel
theorem dX8_gather_5 : decode cX8_gather 5 = .ok (.iconst 0, 1) := by decide +kernel
theorem dX8_gather_6 : decode cX8_gather 6 = .ok (.istore_n 2, 1) := by decide +kernel
theorem dX8_gather_7 : decode cX8_gather 7 = .ok (.iload_n 2, 1) := by decide +kernel
theorem dX8_gather_8 : decode cX8_gather 8 = .ok (.aload_n 1, 1) := by decide +kernel
theorem dX8_gather_9 : decode cX8_gather 9 = .ok (.getfield 19, 3) := by decide +kernel
theorem dX8_gather_12 : decode cX8_gather 12 = .ok (.if_icmp .ge 52, 3) := by decide +kernel
theorem dX8_gather_15 : decode cX8_gather 15 = .ok (.aload_n 1, 1) := by decide +kernel
theorem dX8_gather_16 : decode cX8_gather 16 = .ok (.getfield 24, 3) := by decide +kernel
theorem dX8_gather_19 : decode cX8_gather 19 = .ok (.iload_n 2, 1) := by decide +kernel
theorem dX8_gather_20 : decode cX8_gather 20 = .ok (.iaload, 1) := by decide +kernel
theorem dX8_gather_21 : decode cX8_gather 21 = .ok (.istore_n 3, 1) := by decide +kernel
theorem dX8_gather_22 : decode cX8_gather 22 = .ok (.iload_n 3, 1) := by decide +kernel
theorem dX8_gather_23 : decode cX8_gather 23 = .ok (.iconst (-1), 1) := by decide +kernel
theorem dX8_gather_24 : decode cX8_gather 24 = .ok (.if_icmp .eq 34, 3) := by decide +kernel
theorem dX8_gather_27 : decode cX8_gather 27 = .ok (.aload_n 0, 1) := by decide +kernel
theorem dX8_gather_28 : decode cX8_gather 28 = .ok (.iload_n 3, 1) := by decide +kernel
theorem dX8_gather_29 : decode cX8_gather 29 = .ok (.bipush 10, 2) := by decide +kernel
theorem dX8_gather_31 : decode cX8_gather 31 = .ok (.isub, 1) := by decide +kernel
theorem dX8_gather_32 : decode cX8_gather 32 = .ok (.iconst 0, 1) := by decide +kernel
theorem dX8_gather_33 : decode cX8_gather 33 = .ok (.iload_n 2, 1) := by decide +kernel
theorem dX8_gather_34 : decode cX8_gather 34 = .ok (.invokevirtual 27, 3) := by decide +kernel
theorem dX8_gather_37 : decode cX8_gather 37 = .ok (.aload_n 0, 1) := by decide +kernel
theorem dX8_gather_38 : decode cX8_gather 38 = .ok (.iload_n 3, 1) := by decide +kernel
theorem dX8_gather_39 : decode cX8_gather 39 = .ok (.iconst 1, 1) := by decide +kernel
theorem dX8_gather_40 : decode cX8_gather 40 = .ok (.isub, 1) := by decide +kernel
theorem dX8_gather_41 : decode cX8_gather 41 = .ok (.iconst 1, 1) := by decide +kernel
theorem dX8_gather_42 : decode cX8_gather 42 = .ok (.iload_n 2, 1) := by decide +kernel
theorem dX8_gather_43 : decode cX8_gather 43 = .ok (.invokevirtual 27, 3) := by decide +kernel
theorem dX8_gather_46 : decode cX8_gather 46 = .ok (.aload_n 0, 1) := by decide +kernel
theorem dX8_gather_47 : decode cX8_gather 47 = .ok (.iload_n 3, 1) := by decide +kernel
theorem dX8_gather_48 : decode cX8_gather 48 = .ok (.aload_n 1, 1) := by decide +kernel
theorem dX8_gather_49 : decode cX8_gather 49 = .ok (.getfield 31, 3) := by decide +kernel
theorem dX8_gather_52 : decode cX8_gather 52 = .ok (.iadd, 1) := by decide +kernel
theorem dX8_gather_53 : decode cX8_gather 53 = .ok (.iconst 2, 1) := by decide +kernel
theorem dX8_gather_54 : decode cX8_gather 54 = .ok (.iload_n 2, 1) := by decide +kernel
theorem dX8_gather_55 : decode cX8_gather 55 = .ok (.invokevirtual 27, 3) := by decide +kernel
theorem dX8_gather_58 : decode cX8_gather 58 = .ok (.iinc 2 1, 3) := by decide +kernel
theorem dX8_gather_61 : decode cX8_gather 61 = .ok (.goto (-54), 3) := by decide +kernel
theorem dX8_gather_64 : decode cX8_gather 64 = .ok (.return_, 1) := by decide +kernel
def f_X8_gather_58 (N : Nat) (R : Nat → Nat → Nat) (k7 : SI → Nat → Nat → Int32 → Option (Unit × SI)) (σ : SI) (x0 : Nat) (x1 : Nat) (x2 : Int32) : Option (Unit × SI) := k7 σ x0 x1 (x2 + 1)
def f_X8_gather_7 (N : Nat) (R : Nat → Nat → Nat) : Nat → SI → Nat → Nat → Int32 → Option (Unit × SI)
  | 0, _, _, _, _ => none
  | n + 1, σ, x0, x1, x2 => if (σ x1 11) ≤ x2 then (some ((), σ)) else (ck x2 6 (if (σ (R x1 6) x2.toNatClampNeg) = (-1 : Int32) then (f_X8_gather_58 N R (fun σ x0 x1 x2 => f_X8_gather_7 N R n σ x0 x1 x2) σ x0 x1 x2) else (bd (f_X8_insert N R σ x0 ((σ (R x1 6) x2.toNatClampNeg) - (10 : Int32)) (0 : Int32) x2) (fun _ σ6 => bd (f_X8_insert N R σ6 x0 ((σ (R x1 6) x2.toNatClampNeg) - (1 : Int32)) (1 : Int32) x2) (fun _ σ7 => bd (f_X8_insert N R σ7 x0 ((σ (R x1 6) x2.toNatClampNeg) + (σ7 x1 16)) (2 : Int32) x2) (fun _ σ8 => f_X8_gather_58 N R (fun σ x0 x1 x2 => f_X8_gather_7 N R n σ x0 x1 x2) σ8 x0 x1 x2))))))
def f_X8_gather (N : Nat) (R : Nat → Nat → Nat) (σ : SI) (x0 : Nat) (x1 : Nat) : Option (Unit × SI) := sq (up σ x0 1 (0 : Int32)) (fun σ1 => f_X8_gather_7 N R N σ1 x0 x1 (0 : Int32))
set_option maxHeartbeats 4000000 in
set_option maxRecDepth 100000 in
theorem w_X8_gather_58 {l : Launch} {g : GL} {p : Program} {e : Jvm.Env} {s : State} {m : MethodId} {args : Array Value} {below : List Frame} {meth : Method} {c : Code} {R : Nat → Nat → Nat} {L : Nat → Nat → Int64} {r : (Unit × SI)} {N : Nat} {k7 : SI → Nat → Nat → Int32 → Option (Unit × SI)} (C : Cx l g p s m meth c cX8_gather 4 RX8) (hr : meth.sig.returnType = none) (hSh : ShR R) (hk7 : ∀ (σ : SI) (x0 : Nat) (x1 : Nat) (x2 : Int32), k7 σ x0 x1 x2 = some r → Ok 194 x0 8 → Ok 194 x1 9 → ∀ (H : Heap) (locs : List Loc) (ls : Array Slot), S2 g s σ R L H locs → lv_has ls 4 [(0, .ref (gb g + x0)), (1, .ref (gb g + x1)), (2, .int x2)] → W p l e (rmd 2 0 0) s m args below meth c H locs 0 0 (MQ below (Qg g 194 (PV R L r)) args s 0 0 (gA g)) (F0 m 7 ls [])) : ∀ (σ : SI) (x0 : Nat) (x1 : Nat) (x2 : Int32), f_X8_gather_58 N R k7 σ x0 x1 x2 = some r → Ok 194 x0 8 → Ok 194 x1 9 → ∀ (H : Heap) (locs : List Loc) (ls : Array Slot), S2 g s σ R L H locs → lv_has ls 4 [(0, .ref (gb g + x0)), (1, .ref (gb g + x1)), (2, .int x2)] → W p l e (rmd 2 0 0) s m args below meth c H locs 0 0 (MQ below (Qg g 194 (PV R L r)) args s 0 0 (gA g)) (F0 m 58 ls []) := by
  have hx := C.1
  have hb := C.2.1
  intro σ x0 x1 x2 h hx0 hx1 H locs ls S hl
  rw [f_X8_gather_58] at h
  refine lv_iinc (v := x2 + 1) (lv' := [(2, .int (x2 + 1)), (0, .ref (gb g + x0)), (1, .ref (gb g + x1))]) hx hb dX8_gather_58 hl (k := 2) rfl rfl (by decide) rfl (fun ls hl => ?_)
  refine lv_goto (tgt := 7) hx hb dX8_gather_61 (by decide) ?_
  exact hk7 σ x0 x1 (x2 + 1) h hx0 hx1 H locs ls S (lv_sub hl [1, 2, 0] rfl)
set_option maxHeartbeats 4000000 in
set_option maxRecDepth 100000 in
theorem w_X8_gather_7 {l : Launch} {g : GL} {p : Program} {e : Jvm.Env} {s : State} {m : MethodId} {args : Array Value} {below : List Frame} {meth : Method} {c : Code} {R : Nat → Nat → Nat} {L : Nat → Nat → Int64} {r : (Unit × SI)} {N : Nat} (C : Cx l g p s m meth c cX8_gather 4 RX8) (hr : meth.sig.returnType = none) (hSh : ShR R) : ∀ (n : Nat) (σ : SI) (x0 : Nat) (x1 : Nat) (x2 : Int32), f_X8_gather_7 N R n σ x0 x1 x2 = some r → Ok 194 x0 8 → Ok 194 x1 9 → ∀ (H : Heap) (locs : List Loc) (ls : Array Slot), S2 g s σ R L H locs → lv_has ls 4 [(0, .ref (gb g + x0)), (1, .ref (gb g + x1)), (2, .int x2)] → W p l e (rmd 2 0 0) s m args below meth c H locs 0 0 (MQ below (Qg g 194 (PV R L r)) args s 0 0 (gA g)) (F0 m 7 ls []) := by
  have hx := C.1
  have hb := C.2.1
  intro n
  induction n with
  | zero =>
    intro σ x0 x1 x2 h
    cases (show (none : Option (Unit × SI)) = some r from h)
  | succ n ih =>
    intro σ x0 x1 x2 h hx0 hx1 H locs ls S hl
    rw [f_X8_gather_7] at h
    refine lv_iload_n hx hb dX8_gather_7 rfl (lv_at hl 2 rfl) ?_
    refine lv_aload_n hx hb dX8_gather_8 rfl (lv_at hl 1 rfl) ?_
    refine x_getI C S KX9 hx1 11 (by decide) rfl rfl fl_RX8_19 dX8_gather_9 ?_
    refine lv_icmp_ge (tgt := 64) hx hb dX8_gather_12 (by decide) (fun c2 => ?_) (fun c2 => ?_)
    · have h := it_p c2 h
      exact x_vret C S hr h dX8_gather_64
    · have h := it_n c2 h
      refine lv_aload_n hx hb dX8_gather_15 rfl (lv_at hl 1 rfl) ?_
      have hR3 : Ok 194 (R x1 6) 10006 := hSh x1 9 6 10006 hx1.1 rfl
      refine x_getR C S KX9 hx1 6 (by decide) rfl rfl fl_RX8_24 hR3 dX8_gather_16 ?_
      refine lv_iload_n hx hb dX8_gather_19 rfl (lv_at hl 2 rfl) ?_
      obtain ⟨hi4, h⟩ := ck_el h
      refine x_iald (len := 6) C S (by decide) hR3 hi4 dX8_gather_20 ?_
      refine lv_istore_n (lv' := [(3, .int (σ (R x1 6) x2.toNatClampNeg)), (0, .ref (gb g + x0)), (1, .ref (gb g + x1)), (2, .int x2)]) hx hb dX8_gather_21 rfl hl (by decide) rfl (fun ls hl => ?_)
      refine lv_iload_n hx hb dX8_gather_22 rfl (lv_at hl 0 rfl) ?_
      refine lv_iconst (v := (-1 : Int32)) hx hb dX8_gather_23 (by decide) ?_
      refine lv_icmp_eq (tgt := 58) hx hb dX8_gather_24 (by decide) (fun c5 => ?_) (fun c5 => ?_)
      · have h := it_p c5 h
        exact w_X8_gather_58 C hr hSh ih σ x0 x1 x2 h hx0 hx1 H locs ls S (lv_sub hl [1, 2, 3] rfl)
      · have h := it_n c5 h
        refine lv_aload_n hx hb dX8_gather_27 rfl (lv_at hl 1 rfl) ?_
        refine lv_iload_n hx hb dX8_gather_28 rfl (lv_at hl 0 rfl) ?_
        refine lv_bipush (v := (10 : Int32)) hx hb dX8_gather_29 (by decide) ?_
        refine lv_isub hx hb dX8_gather_31 ?_
        refine lv_iconst (v := (0 : Int32)) hx hb dX8_gather_32 (by decide) ?_
        refine lv_iload_n hx hb dX8_gather_33 rfl (lv_at hl 3 rfl) ?_
        obtain ⟨a6, σ6, hc6, h⟩ := bd_el h
        refine x_callVV C S KX8 hx0 (ok_X8_insert (L := L) hc6 hSh hx0) ⟨cd_X8_insert, ni_RX8, ml_RX8_27, in_X8_insert, sl_X8_insert⟩ ⟨by decide, by decide⟩ rfl ⟨by decide, by decide⟩ hl.1 rfl (Nat.le_of_ble_eq_true rfl) ⟨by decide, by decide⟩ dX8_gather_34 (fun H locs S => ?_)
        refine lv_aload_n hx hb dX8_gather_37 rfl (lv_at hl 1 rfl) ?_
        refine lv_iload_n hx hb dX8_gather_38 rfl (lv_at hl 0 rfl) ?_
        refine lv_iconst (v := (1 : Int32)) hx hb dX8_gather_39 (by decide) ?_
        refine lv_isub hx hb dX8_gather_40 ?_
        refine lv_iconst (v := (1 : Int32)) hx hb dX8_gather_41 (by decide) ?_
        refine lv_iload_n hx hb dX8_gather_42 rfl (lv_at hl 3 rfl) ?_
        obtain ⟨a7, σ7, hc7, h⟩ := bd_el h
        refine x_callVV C S KX8 hx0 (ok_X8_insert (L := L) hc7 hSh hx0) ⟨cd_X8_insert, ni_RX8, ml_RX8_27, in_X8_insert, sl_X8_insert⟩ ⟨by decide, by decide⟩ rfl ⟨by decide, by decide⟩ hl.1 rfl (Nat.le_of_ble_eq_true rfl) ⟨by decide, by decide⟩ dX8_gather_43 (fun H locs S => ?_)
        refine lv_aload_n hx hb dX8_gather_46 rfl (lv_at hl 1 rfl) ?_
        refine lv_iload_n hx hb dX8_gather_47 rfl (lv_at hl 0 rfl) ?_
        refine lv_aload_n hx hb dX8_gather_48 rfl (lv_at hl 2 rfl) ?_
        refine x_getI C S KX9 hx1 16 (by decide) rfl rfl fl_RX8_31 dX8_gather_49 ?_
        refine lv_iadd hx hb dX8_gather_52 ?_
        refine lv_iconst (v := (2 : Int32)) hx hb dX8_gather_53 (by decide) ?_
        refine lv_iload_n hx hb dX8_gather_54 rfl (lv_at hl 3 rfl) ?_
        obtain ⟨a8, σ8, hc8, h⟩ := bd_el h
        refine x_callVV C S KX8 hx0 (ok_X8_insert (L := L) hc8 hSh hx0) ⟨cd_X8_insert, ni_RX8, ml_RX8_27, in_X8_insert, sl_X8_insert⟩ ⟨by decide, by decide⟩ rfl ⟨by decide, by decide⟩ hl.1 rfl (Nat.le_of_ble_eq_true rfl) ⟨by decide, by decide⟩ dX8_gather_55 (fun H locs S => ?_)
        exact w_X8_gather_58 C hr hSh ih σ8 x0 x1 x2 h hx0 hx1 H locs ls S (lv_sub hl [1, 2, 3] rfl)
set_option maxHeartbeats 4000000 in
set_option maxRecDepth 100000 in
theorem ok_X8_gather {l : Launch} {g : GL} {R : Nat → Nat → Nat} {L : Nat → Nat → Int64} {N : Nat} {σ : SI} {x0 : Nat} {x1 : Nat} {r : (Unit × SI)} (h : f_X8_gather N R σ x0 x1 = some r) (hSh : ShR R) (hx0 : Ok 194 x0 8) (hx1 : Ok 194 x1 9) : Ct l g 2 yX8_gather cX8_gather 4 none 194 194 0 0 [.ref (gb g + x0), .ref (gb g + x1)] (mkS σ R L) (PV R L r) := by
  refine Met.ofW (cc := cX8_gather) (maxL := 4) (ret := none) (by decide) rfl ?_
  intro p e s m args below meth c s₁ B hml hv
  obtain ⟨rfl, hE, hLo, hWd⟩ := hv
  have hr : meth.sig.returnType = none := B.returns
  have C : Cx l g p s m meth c cX8_gather 4 RX8 := ⟨B.exec, B.bytes, hml, findClass_of_methodNamed B.named, hE, hLo, B.notSynchronized⟩
  have S : S2 g s σ R L s.heap [] := ⟨hWd, va_S.rf⟩
  have hx := C.1
  have hb := C.2.1
  have hl := lv_entry ([.ref (gb g + x0), .ref (gb g + x1)]) (n := 4) (Nat.le_of_ble_eq_true rfl)
  rw [lg_entry_eq]
  generalize (lg_sl ([.ref (gb g + x0), .ref (gb g + x1)]) ++ List.replicate (4 - (lg_sl ([.ref (gb g + x0), .ref (gb g + x1)])).length) Slot.unset).toArray = ls at hl ⊢
  have hl : lv_has ls 4 [(0, .ref (gb g + x0)), (1, .ref (gb g + x1))] := hl
  generalize hH : s.heap = H at S ⊢
  generalize hlc : ([] : List Loc) = locs at S ⊢
  rw [f_X8_gather] at h
  refine lv_aload_n hx hb dX8_gather_0 rfl (lv_at hl 0 rfl) ?_
  refine lv_iconst (v := (0 : Int32)) hx hb dX8_gather_1 (by decide) ?_
  obtain ⟨σ1, hs1, h⟩ := sq_el h
  refine x_putI C S KX8 hx0 1 (by decide) rfl rfl rfl ⟨rfl, rfl⟩ fl_RX8_15 dX8_gather_2 hs1 (fun H locs S => ?_)
  refine lv_iconst (v := (0 : Int32)) hx hb dX8_gather_5 (by decide) ?_
  refine lv_istore_n (lv' := [(2, .int (0 : Int32)), (0, .ref (gb g + x0)), (1, .ref (gb g + x1))]) hx hb dX8_gather_6 rfl hl (by decide) rfl (fun ls hl => ?_)
  exact w_X8_gather_7 C hr hSh N σ1 x0 x1 (0 : Int32) h hx0 hx1 H locs ls S (lv_sub hl [1, 2, 0] rfl)
theorem dX9_survey_0 : decode cX9_survey 0 = .ok (.iconst 0, 1) := by decide +kernel
theorem dX9_survey_1 : decode cX9_survey 1 = .ok (.istore_n 1, 1) := by decide +kernel
theorem dX9_survey_2 : decode cX9_survey 2 = .ok (.iload_n 1, 1) := by decide +kernel
theorem dX9_survey_3 : decode cX9_survey 3 = .ok (.aload_n 0, 1) := by decide +kernel
theorem dX9_survey_4 : decode cX9_survey 4 = .ok (.getfield 61, 3) := by decide +kernel
theorem dX9_survey_7 : decode cX9_survey 7 = .ok (.if_icmp .ge 57, 3) := by decide +kernel
theorem dX9_survey_10 : decode cX9_survey 10 = .ok (.aload_n 0, 1) := by decide +kernel
theorem dX9_survey_11 : decode cX9_survey 11 = .ok (.getfield 25, 3) := by decide +kernel
theorem dX9_survey_14 : decode cX9_survey 14 = .ok (.iload_n 1, 1) := by decide +kernel
theorem dX9_survey_15 : decode cX9_survey 15 = .ok (.aaload, 1) := by decide +kernel
theorem dX9_survey_16 : decode cX9_survey 16 = .ok (.astore_n 2, 1) := by decide +kernel
theorem dX9_survey_17 : decode cX9_survey 17 = .ok (.aload_n 0, 1) := by decide +kernel
theorem dX9_survey_18 : decode cX9_survey 18 = .ok (.aload_n 2, 1) := by decide +kernel
theorem dX9_survey_19 : decode cX9_survey 19 = .ok (.invokevirtual 82, 3) := by decide +kernel
theorem dX9_survey_22 : decode cX9_survey 22 = .ok (.aload_n 0, 1) := by decide +kernel
theorem dX9_survey_23 : decode cX9_survey 23 = .ok (.aload_n 2, 1) := by decide +kernel
theorem dX9_survey_24 : decode cX9_survey 24 = .ok (.invokevirtual 86, 3) := by decide +kernel
theorem dX9_survey_27 : decode cX9_survey 27 = .ok (.iconst 0, 1) := by decide +kernel
theorem dX9_survey_28 : decode cX9_survey 28 = .ok (.istore_n 3, 1) := by decide +kernel
theorem dX9_survey_29 : decode cX9_survey 29 = .ok (.iload_n 3, 1) := by decide +kernel
theorem dX9_survey_30 : decode cX9_survey 30 = .ok (.bipush 24, 2) := by decide +kernel
theorem dX9_survey_32 : decode cX9_survey 32 = .ok (.if_icmp .ge 21, 3) := by decide +kernel
theorem dX9_survey_35 : decode cX9_survey 35 = .ok (.aload_n 2, 1) := by decide +kernel
theorem dX9_survey_36 : decode cX9_survey 36 = .ok (.getfield 89, 3) := by decide +kernel
theorem dX9_survey_39 : decode cX9_survey 39 = .ok (.iload_n 3, 1) := by decide +kernel
theorem dX9_survey_40 : decode cX9_survey 40 = .ok (.aload_n 0, 1) := by decide +kernel
theorem dX9_survey_41 : decode cX9_survey 41 = .ok (.aload_n 2, 1) := by decide +kernel
theorem dX9_survey_42 : decode cX9_survey 42 = .ok (.iload_n 3, 1) := by decide +kernel
theorem dX9_survey_43 : decode cX9_survey 43 = .ok (.invokevirtual 92, 3) := by decide +kernel
theorem dX9_survey_46 : decode cX9_survey 46 = .ok (.iastore, 1) := by decide +kernel
theorem dX9_survey_47 : decode cX9_survey 47 = .ok (.iinc 3 1, 3) := by decide +kernel
theorem dX9_survey_50 : decode cX9_survey 50 = .ok (.goto (-21), 3) := by decide +kernel
theorem dX9_survey_53 : decode cX9_survey 53 = .ok (.aload_n 0, 1) := by decide +kernel
theorem dX9_survey_54 : decode cX9_survey 54 = .ok (.aload_n 2, 1) := by decide +kernel
theorem dX9_survey_55 : decode cX9_survey 55 = .ok (.invokevirtual 96, 3) := by decide +kernel
theorem dX9_survey_58 : decode cX9_survey 58 = .ok (.iinc 1 1, 3) := by decide +kernel
theorem dX9_survey_61 : decode cX9_survey 61 = .ok (.goto (-59), 3) := by decide +kernel
theorem dX9_survey_64 : decode cX9_survey 64 = .ok (.return_, 1) := by decide +kernel
def f_X9_survey_29 (N : Nat) (R : Nat → Nat → Nat) (k2 : SI → Nat → Int32 → Option (Unit × SI)) : Nat → SI → Nat → Int32 → Nat → Int32 → Option (Unit × SI)
  | 0, _, _, _, _, _ => none
  | n + 1, σ, x0, x1, x2, x3 => if (24 : Int32) ≤ x3 then (bd (f_X9_weigh N R σ x0 x2) (fun _ σ8 => k2 σ8 x0 (x1 + 1))) else (bd (f_X9_neighboursInDust N R σ x0 x2 x3) (fun a10 σ10 => ck x3 24 (sq (up σ10 (R x2 3) x3.toNatClampNeg a10) (fun σ12 => f_X9_survey_29 N R k2 n σ12 x0 x1 x2 (x3 + 1)))))
def f_X9_survey_2 (N : Nat) (R : Nat → Nat → Nat) : Nat → SI → Nat → Int32 → Option (Unit × SI)
  | 0, _, _, _ => none
  | n + 1, σ, x0, x1 => if (σ x0 11) ≤ x1 then (some ((), σ)) else (ck x1 6 (bd (f_X9_measureNeighbours N R σ x0 (R (R x0 2) x1.toNatClampNeg)) (fun _ σ5 => bd (f_X9_measureRoads N R σ5 x0 (R (R x0 2) x1.toNatClampNeg)) (fun _ σ6 => f_X9_survey_29 N R (fun σ x0 x1 => f_X9_survey_2 N R n σ x0 x1) N σ6 x0 x1 (R (R x0 2) x1.toNatClampNeg) (0 : Int32)))))
def f_X9_survey (N : Nat) (R : Nat → Nat → Nat) (σ : SI) (x0 : Nat) : Option (Unit × SI) := f_X9_survey_2 N R N σ x0 (0 : Int32)
set_option maxHeartbeats 4000000 in
set_option maxRecDepth 100000 in
theorem w_X9_survey_29 {l : Launch} {g : GL} {p : Program} {e : Jvm.Env} {s : State} {m : MethodId} {args : Array Value} {below : List Frame} {meth : Method} {c : Code} {R : Nat → Nat → Nat} {L : Nat → Nat → Int64} {r : (Unit × SI)} {N : Nat} {k2 : SI → Nat → Int32 → Option (Unit × SI)} (C : Cx l g p s m meth c cX9_survey 4 RX9) (hr : meth.sig.returnType = none) (hSh : ShR R) (hk2 : ∀ (σ : SI) (x0 : Nat) (x1 : Int32), k2 σ x0 x1 = some r → Ok 194 x0 9 → ∀ (H : Heap) (locs : List Loc) (ls : Array Slot), S2 g s σ R L H locs → lv_has ls 4 [(0, .ref (gb g + x0)), (1, .int x1)] → W p l e (rmd 4 0 0) s m args below meth c H locs 0 0 (MQ below (Qg g 194 (PV R L r)) args s 0 0 (gA g)) (F0 m 2 ls [])) : ∀ (n : Nat) (σ : SI) (x0 : Nat) (x1 : Int32) (x2 : Nat) (x3 : Int32), f_X9_survey_29 N R k2 n σ x0 x1 x2 x3 = some r → Ok 194 x0 9 → Ok 194 x2 0 → ∀ (H : Heap) (locs : List Loc) (ls : Array Slot), S2 g s σ R L H locs → lv_has ls 4 [(0, .ref (gb g + x0)), (1, .int x1), (2, .ref (gb g + x2)), (3, .int x3)] → W p l e (rmd 4 0 0) s m args below meth c H locs 0 0 (MQ below (Qg g 194 (PV R L r)) args s 0 0 (gA g)) (F0 m 29 ls []) := by
  have hx := C.1
  have hb := C.2.1
  intro n
  induction n with
  | zero =>
    intro σ x0 x1 x2 x3 h
    cases (show (none : Option (Unit × SI)) = some r from h)
  | succ n ih =>
    intro σ x0 x1 x2 x3 h hx0 hx2 H locs ls S hl
    rw [f_X9_survey_29] at h
    refine lv_iload_n hx hb dX9_survey_29 rfl (lv_at hl 3 rfl) ?_
    refine lv_bipush (v := (24 : Int32)) hx hb dX9_survey_30 (by decide) ?_
    refine lv_icmp_ge (tgt := 53) hx hb dX9_survey_32 (by decide) (fun c7 => ?_) (fun c7 => ?_)
    · have h := it_p c7 h
      refine lv_aload_n hx hb dX9_survey_53 rfl (lv_at hl 0 rfl) ?_
      refine lv_aload_n hx hb dX9_survey_54 rfl (lv_at hl 2 rfl) ?_
      obtain ⟨a8, σ8, hc8, h⟩ := bd_el h
      refine x_callVV C S KX9 hx0 (ok_X9_weigh (L := L) hc8 hSh hx0 hx2) ⟨cd_X9_weigh, ni_RX9, ml_RX9_96, in_X9_weigh, sl_X9_weigh⟩ ⟨by decide, by decide⟩ rfl ⟨by decide, by decide⟩ hl.1 rfl (Nat.le_of_ble_eq_true rfl) ⟨by decide, by decide⟩ dX9_survey_55 (fun H locs S => ?_)
      refine lv_iinc (v := x1 + 1) (lv' := [(1, .int (x1 + 1)), (0, .ref (gb g + x0)), (2, .ref (gb g + x2)), (3, .int x3)]) hx hb dX9_survey_58 hl (k := 1) rfl rfl (by decide) rfl (fun ls hl => ?_)
      refine lv_goto (tgt := 2) hx hb dX9_survey_61 (by decide) ?_
      exact hk2 σ8 x0 (x1 + 1) h hx0 H locs ls S (lv_sub hl [1, 0] rfl)
    · have h := it_n c7 h
      refine lv_aload_n hx hb dX9_survey_35 rfl (lv_at hl 2 rfl) ?_
      have hR9 : Ok 194 (R x2 3) 10024 := hSh x2 0 3 10024 hx2.1 rfl
      refine x_getR C S KX0 hx2 3 (by decide) rfl rfl fl_RX9_89 hR9 dX9_survey_36 ?_
      refine lv_iload_n hx hb dX9_survey_39 rfl (lv_at hl 3 rfl) ?_
      refine lv_aload_n hx hb dX9_survey_40 rfl (lv_at hl 0 rfl) ?_
      refine lv_aload_n hx hb dX9_survey_41 rfl (lv_at hl 2 rfl) ?_
      refine lv_iload_n hx hb dX9_survey_42 rfl (lv_at hl 3 rfl) ?_
      obtain ⟨a10, σ10, hc10, h⟩ := bd_el h
      refine x_callVI C S KX9 hx0 (ok_X9_neighboursInDust (L := L) hc10 hSh hx0 hx2) ⟨cd_X9_neighboursInDust, ni_RX9, ml_RX9_92, in_X9_neighboursInDust, sl_X9_neighboursInDust⟩ ⟨by decide, by decide⟩ rfl ⟨by decide, by decide⟩ hl.1 rfl (Nat.le_of_ble_eq_true rfl) ⟨by decide, by decide⟩ dX9_survey_43 (fun H locs S => ?_)
      obtain ⟨hi11, h⟩ := ck_el h
      obtain ⟨σ12, hs12, h⟩ := sq_el h
      refine x_iast (len := 24) C S (by decide) hR9 hi11 dX9_survey_46 hs12 (fun H locs S => ?_)
      refine lv_iinc (v := x3 + 1) (lv' := [(3, .int (x3 + 1)), (0, .ref (gb g + x0)), (1, .int x1), (2, .ref (gb g + x2))]) hx hb dX9_survey_47 hl (k := 3) rfl rfl (by decide) rfl (fun ls hl => ?_)
      refine lv_goto (tgt := 29) hx hb dX9_survey_50 (by decide) ?_
      exact ih σ12 x0 x1 x2 (x3 + 1) h hx0 hx2 H locs ls S (lv_sub hl [1, 2, 3, 0] rfl)
set_option maxHeartbeats 4000000 in
set_option maxRecDepth 100000 in
theorem w_X9_survey_2 {l : Launch} {g : GL} {p : Program} {e : Jvm.Env} {s : State} {m : MethodId} {args : Array Value} {below : List Frame} {meth : Method} {c : Code} {R : Nat → Nat → Nat} {L : Nat → Nat → Int64} {r : (Unit × SI)} {N : Nat} (C : Cx l g p s m meth c cX9_survey 4 RX9) (hr : meth.sig.returnType = none) (hSh : ShR R) : ∀ (n : Nat) (σ : SI) (x0 : Nat) (x1 : Int32), f_X9_survey_2 N R n σ x0 x1 = some r → Ok 194 x0 9 → ∀ (H : Heap) (locs : List Loc) (ls : Array Slot), S2 g s σ R L H locs → lv_has ls 4 [(0, .ref (gb g + x0)), (1, .int x1)] → W p l e (rmd 4 0 0) s m args below meth c H locs 0 0 (MQ below (Qg g 194 (PV R L r)) args s 0 0 (gA g)) (F0 m 2 ls []) := by
  have hx := C.1
  have hb := C.2.1
  intro n
  induction n with
  | zero =>
    intro σ x0 x1 h
    cases (show (none : Option (Unit × SI)) = some r from h)
  | succ n ih =>
    intro σ x0 x1 h hx0 H locs ls S hl
    rw [f_X9_survey_2] at h
    refine lv_iload_n hx hb dX9_survey_2 rfl (lv_at hl 1 rfl) ?_
    refine lv_aload_n hx hb dX9_survey_3 rfl (lv_at hl 0 rfl) ?_
    refine x_getI C S KX9 hx0 11 (by decide) rfl rfl fl_RX9_61 dX9_survey_4 ?_
    refine lv_icmp_ge (tgt := 64) hx hb dX9_survey_7 (by decide) (fun c1 => ?_) (fun c1 => ?_)
    · have h := it_p c1 h
      exact x_vret C S hr h dX9_survey_64
    · have h := it_n c1 h
      refine lv_aload_n hx hb dX9_survey_10 rfl (lv_at hl 0 rfl) ?_
      have hR2 : Ok 194 (R x0 2) 50006 := hSh x0 9 2 50006 hx0.1 rfl
      refine x_getR C S KX9 hx0 2 (by decide) rfl rfl fl_RX9_25 hR2 dX9_survey_11 ?_
      refine lv_iload_n hx hb dX9_survey_14 rfl (lv_at hl 1 rfl) ?_
      obtain ⟨hi3, h⟩ := ck_el h
      have hR4 : Ok 194 (R (R x0 2) x1.toNatClampNeg) 0 := hSh (R x0 2) 50006 x1.toNatClampNeg 0 hR2.1 (if_pos (vp_lt hi3))
      refine x_aald (len := 6) C S (by decide) 4 (by decide) rfl hR2 hi3 hR4 dX9_survey_15 ?_
      refine lv_astore_n (lv' := [(2, .ref (gb g + (R (R x0 2) x1.toNatClampNeg))), (0, .ref (gb g + x0)), (1, .int x1)]) hx hb dX9_survey_16 rfl hl (by decide) rfl (fun ls hl => ?_)
      refine lv_aload_n hx hb dX9_survey_17 rfl (lv_at hl 1 rfl) ?_
      refine lv_aload_n hx hb dX9_survey_18 rfl (lv_at hl 0 rfl) ?_
      obtain ⟨a5, σ5, hc5, h⟩ := bd_el h
      refine x_callVV C S KX9 hx0 (ok_X9_measureNeighbours (L := L) hc5 hSh hx0 hR4) ⟨cd_X9_measureNeighbours, ni_RX9, ml_RX9_82, in_X9_measureNeighbours, sl_X9_measureNeighbours⟩ ⟨by decide, by decide⟩ rfl ⟨by decide, by decide⟩ hl.1 rfl (Nat.le_of_ble_eq_true rfl) ⟨by decide, by decide⟩ dX9_survey_19 (fun H locs S => ?_)
      refine lv_aload_n hx hb dX9_survey_22 rfl (lv_at hl 1 rfl) ?_
      refine lv_aload_n hx hb dX9_survey_23 rfl (lv_at hl 0 rfl) ?_
      obtain ⟨a6, σ6, hc6, h⟩ := bd_el h
      refine x_callVV C S KX9 hx0 (ok_X9_measureRoads (L := L) hc6 hSh hx0 hR4) ⟨cd_X9_measureRoads, ni_RX9, ml_RX9_86, in_X9_measureRoads, sl_X9_measureRoads⟩ ⟨by decide, by decide⟩ rfl ⟨by decide, by decide⟩ hl.1 rfl (Nat.le_of_ble_eq_true rfl) ⟨by decide, by decide⟩ dX9_survey_24 (fun H locs S => ?_)
      refine lv_iconst (v := (0 : Int32)) hx hb dX9_survey_27 (by decide) ?_
      refine lv_istore_n (lv' := [(3, .int (0 : Int32)), (2, .ref (gb g + (R (R x0 2) x1.toNatClampNeg))), (0, .ref (gb g + x0)), (1, .int x1)]) hx hb dX9_survey_28 rfl hl (by decide) rfl (fun ls hl => ?_)
      exact w_X9_survey_29 C hr hSh ih N σ6 x0 x1 (R (R x0 2) x1.toNatClampNeg) (0 : Int32) h hx0 hR4 H locs ls S (lv_sub hl [2, 3, 1, 0] rfl)
set_option maxHeartbeats 4000000 in
set_option maxRecDepth 100000 in
theorem ok_X9_survey {l : Launch} {g : GL} {R : Nat → Nat → Nat} {L : Nat → Nat → Int64} {N : Nat} {σ : SI} {x0 : Nat} {r : (Unit × SI)} (h : f_X9_survey N R σ x0 = some r) (hSh : ShR R) (hx0 : Ok 194 x0 9) : Ct l g 4 yX9_survey cX9_survey 4 none 194 194 0 0 [.ref (gb g + x0)] (mkS σ R L) (PV R L r) := by
  refine Met.ofW (cc := cX9_survey) (maxL := 4) (ret := none) (by decide) rfl ?_
  intro p e s m args below meth c s₁ B hml hv
  obtain ⟨rfl, hE, hLo, hWd⟩ := hv
  have hr : meth.sig.returnType = none := B.returns
  have C : Cx l g p s m meth c cX9_survey 4 RX9 := ⟨B.exec, B.bytes, hml, findClass_of_methodNamed B.named, hE, hLo, B.notSynchronized⟩
  have S : S2 g s σ R L s.heap [] := ⟨hWd, va_S.rf⟩
  have hx := C.1
  have hb := C.2.1
  have hl := lv_entry ([.ref (gb g + x0)]) (n := 4) (Nat.le_of_ble_eq_true rfl)
  rw [lg_entry_eq]
  generalize (lg_sl ([.ref (gb g + x0)]) ++ List.replicate (4 - (lg_sl ([.ref (gb g + x0)])).length) Slot.unset).toArray = ls at hl ⊢
  have hl : lv_has ls 4 [(0, .ref (gb g + x0))] := hl
  generalize hH : s.heap = H at S ⊢
  generalize hlc : ([] : List Loc) = locs at S ⊢
  rw [f_X9_survey] at h
  refine lv_iconst (v := (0 : Int32)) hx hb dX9_survey_0 (by decide) ?_
  refine lv_istore_n (lv' := [(1, .int (0 : Int32)), (0, .ref (gb g + x0))]) hx hb dX9_survey_1 rfl hl (by decide) rfl (fun ls hl => ?_)
  exact w_X9_survey_2 C hr hSh N σ x0 (0 : Int32) h hx0 H locs ls S (lv_sub hl [1, 0] rfl)
theorem dX9_reasonAgainst_0 : decode cX9_reasonAgainst 0 = .ok (.iload_n 2, 1) := by decide +kernel
theorem dX9_reasonAgainst_1 : decode cX9_reasonAgainst 1 = .ok (.aload_n 0, 1) := by decide +kernel
theorem dX9_reasonAgainst_2 : decode cX9_reasonAgainst 2 = .ok (.getfield 64, 3) := by decide +kernel
theorem dX9_reasonAgainst_5 : decode cX9_reasonAgainst 5 = .ok (.if_icmp .lt 11, 3) := by decide +kernel
theorem dX9_reasonAgainst_8 : decode cX9_reasonAgainst 8 = .ok (.iload_n 2, 1) := by decide +kernel
theorem dX9_reasonAgainst_9 : decode cX9_reasonAgainst 9 = .ok (.aload_n 0, 1) := by decide +kernel
theorem dX9_reasonAgainst_10 : decode cX9_reasonAgainst 10 = .ok (.getfield 67, 3) := by decide +kernel
theorem dX9_reasonAgainst_13 : decode cX9_reasonAgainst 13 = .ok (.if_icmp .le 5, 3) := by decide +kernel
theorem dX9_reasonAgainst_16 : decode cX9_reasonAgainst 16 = .ok (.iconst 1, 1) := by decide +kernel
theorem dX9_reasonAgainst_17 : decode cX9_reasonAgainst 17 = .ok (.ireturn, 1) := by decide +kernel
theorem dX9_reasonAgainst_18 : decode cX9_reasonAgainst 18 = .ok (.aload_n 0, 1) := by decide +kernel
theorem dX9_reasonAgainst_19 : decode cX9_reasonAgainst 19 = .ok (.getfield 25, 3) := by decide +kernel
theorem dX9_reasonAgainst_22 : decode cX9_reasonAgainst 22 = .ok (.iload_n 1, 1) := by decide +kernel
theorem dX9_reasonAgainst_23 : decode cX9_reasonAgainst 23 = .ok (.aaload, 1) := by decide +kernel
theorem dX9_reasonAgainst_24 : decode cX9_reasonAgainst 24 = .ok (.astore 4, 2) := by decide +kernel
theorem dX9_reasonAgainst_26 : decode cX9_reasonAgainst 26 = .ok (.aload 4, 2) := by decide +kernel
theorem dX9_reasonAgainst_28 : decode cX9_reasonAgainst 28 = .ok (.getfield 142, 3) := by decide +kernel
theorem dX9_reasonAgainst_31 : decode cX9_reasonAgainst 31 = .ok (.ifCond .eq 5, 3) := by decide +kernel
theorem dX9_reasonAgainst_34 : decode cX9_reasonAgainst 34 = .ok (.iconst 2, 1) := by decide +kernel
theorem dX9_reasonAgainst_35 : decode cX9_reasonAgainst 35 = .ok (.ireturn, 1) := by decide +kernel
theorem dX9_reasonAgainst_36 : decode cX9_reasonAgainst 36 = .ok (.aload_n 0, 1) := by decide +kernel
theorem dX9_reasonAgainst_37 : decode cX9_reasonAgainst 37 = .ok (.aload 4, 2) := by decide +kernel
theorem dX9_reasonAgainst_39 : decode cX9_reasonAgainst 39 = .ok (.iload_n 2, 1) := by decide +kernel
theorem dX9_reasonAgainst_40 : decode cX9_reasonAgainst 40 = .ok (.invokevirtual 157, 3) := by decide +kernel
theorem dX9_reasonAgainst_43 : decode cX9_reasonAgainst 43 = .ok (.ifCond .eq 5, 3) := by decide +kernel
theorem dX9_reasonAgainst_46 : decode cX9_reasonAgainst 46 = .ok (.iconst 3, 1) := by decide +kernel
theorem dX9_reasonAgainst_47 : decode cX9_reasonAgainst 47 = .ok (.ireturn, 1) := by decide +kernel
theorem dX9_reasonAgainst_48 : decode cX9_reasonAgainst 48 = .ok (.aload 4, 2) := by decide +kernel
theorem dX9_reasonAgainst_50 : decode cX9_reasonAgainst 50 = .ok (.getfield 89, 3) := by decide +kernel
theorem dX9_reasonAgainst_53 : decode cX9_reasonAgainst 53 = .ok (.iload_n 2, 1) := by decide +kernel
theorem dX9_reasonAgainst_54 : decode cX9_reasonAgainst 54 = .ok (.bipush 60, 2) := by decide +kernel
theorem dX9_reasonAgainst_56 : decode cX9_reasonAgainst 56 = .ok (.idiv, 1) := by decide +kernel
theorem dX9_reasonAgainst_57 : decode cX9_reasonAgainst 57 = .ok (.iaload, 1) := by decide +kernel
theorem dX9_reasonAgainst_58 : decode cX9_reasonAgainst 58 = .ok (.ifCond .eq 5, 3) := by decide +kernel
theorem dX9_reasonAgainst_61 : decode cX9_reasonAgainst 61 = .ok (.iconst 4, 1) := by decide +kernel
theorem dX9_reasonAgainst_62 : decode cX9_reasonAgainst 62 = .ok (.ireturn, 1) := by decide +kernel
theorem dX9_reasonAgainst_63 : decode cX9_reasonAgainst 63 = .ok (.aload_n 0, 1) := by decide +kernel
theorem dX9_reasonAgainst_64 : decode cX9_reasonAgainst 64 = .ok (.iload_n 1, 1) := by decide +kernel
theorem dX9_reasonAgainst_65 : decode cX9_reasonAgainst 65 = .ok (.iload_n 2, 1) := by decide +kernel
theorem dX9_reasonAgainst_66 : decode cX9_reasonAgainst 66 = .ok (.aload_n 3, 1) := by decide +kernel
theorem dX9_reasonAgainst_67 : decode cX9_reasonAgainst 67 = .ok (.invokevirtual 161, 3) := by decide +kernel
theorem dX9_reasonAgainst_70 : decode cX9_reasonAgainst 70 = .ok (.ifCond .eq 7, 3) := by decide +kernel
theorem dX9_reasonAgainst_73 : decode cX9_reasonAgainst 73 = .ok (.iconst 5, 1) := by decide +kernel
theorem dX9_reasonAgainst_74 : decode cX9_reasonAgainst 74 = .ok (.goto 4, 3) := by decide +kernel
theorem dX9_reasonAgainst_77 : decode cX9_reasonAgainst 77 = .ok (.iconst 0, 1) := by decide +kernel
theorem dX9_reasonAgainst_78 : decode cX9_reasonAgainst 78 = .ok (.ireturn, 1) := by decide +kernel
def f_X9_reasonAgainst (N : Nat) (R : Nat → Nat → Nat) (σ : SI) (x0 : Nat) (x1 : Int32) (x2 : Int32) (x3 : Nat) : Option (Int32 × SI) := if x2 < (σ x0 12) then (some ((1 : Int32), σ)) else (if x2 ≤ (σ x0 13) then (ck x1 6 (if (σ (R (R x0 2) x1.toNatClampNeg) 10) = 0 then (bd (f_X9_quietFor N R σ x0 (R (R x0 2) x1.toNatClampNeg) x2) (fun a7 σ7 => if a7 = 0 then (ck (x2 / (60 : Int32)) 24 (if (σ7 (R (R (R x0 2) x1.toNatClampNeg) 3) (x2 / (60 : Int32)).toNatClampNeg) = 0 then (bd (f_X9_crowded N R σ7 x0 x1 x2 x3) (fun a12 σ12 => if a12 = 0 then (some ((0 : Int32), σ12)) else (some ((5 : Int32), σ12)))) else (some ((4 : Int32), σ7)))) else (some ((3 : Int32), σ7)))) else (some ((2 : Int32), σ)))) else (some ((1 : Int32), σ)))
set_option maxHeartbeats 4000000 in
set_option maxRecDepth 100000 in
theorem ok_X9_reasonAgainst {l : Launch} {g : GL} {R : Nat → Nat → Nat} {L : Nat → Nat → Int64} {N : Nat} {σ : SI} {x0 : Nat} {x1 : Int32} {x2 : Int32} {x3 : Nat} {r : (Int32 × SI)} (h : f_X9_reasonAgainst N R σ x0 x1 x2 x3 = some r) (hSh : ShR R) (hx0 : Ok 194 x0 9) (hx3 : Ok 194 x3 10006) : Ct l g 3 yX9_reasonAgainst cX9_reasonAgainst 5 (some .int) 194 194 0 0 [.ref (gb g + x0), .int x1, .int x2, .ref (gb g + x3)] (mkS σ R L) (PI R L r) := by
  refine Met.ofW (cc := cX9_reasonAgainst) (maxL := 5) (ret := (some .int)) (by decide) rfl ?_
  intro p e s m args below meth c s₁ B hml hv
  obtain ⟨rfl, hE, hLo, hWd⟩ := hv
  have hr : meth.sig.returnType = (some .int) := B.returns
  have C : Cx l g p s m meth c cX9_reasonAgainst 5 RX9 := ⟨B.exec, B.bytes, hml, findClass_of_methodNamed B.named, hE, hLo, B.notSynchronized⟩
  have S : S2 g s σ R L s.heap [] := ⟨hWd, va_S.rf⟩
  have hx := C.1
  have hb := C.2.1
  have hl := lv_entry ([.ref (gb g + x0), .int x1, .int x2, .ref (gb g + x3)]) (n := 5) (Nat.le_of_ble_eq_true rfl)
  rw [lg_entry_eq]
  generalize (lg_sl ([.ref (gb g + x0), .int x1, .int x2, .ref (gb g + x3)]) ++ List.replicate (5 - (lg_sl ([.ref (gb g + x0), .int x1, .int x2, .ref (gb g + x3)])).length) Slot.unset).toArray = ls at hl ⊢
  have hl : lv_has ls 5 [(0, .ref (gb g + x0)), (1, .int x1), (2, .int x2), (3, .ref (gb g + x3))] := hl
  generalize hH : s.heap = H at S ⊢
  generalize hlc : ([] : List Loc) = locs at S ⊢
  rw [f_X9_reasonAgainst] at h
  refine lv_iload_n hx hb dX9_reasonAgainst_0 rfl (lv_at hl 2 rfl) ?_
  refine lv_aload_n hx hb dX9_reasonAgainst_1 rfl (lv_at hl 0 rfl) ?_
  refine x_getI C S KX9 hx0 12 (by decide) rfl rfl fl_RX9_64 dX9_reasonAgainst_2 ?_
  refine lv_icmp_lt (tgt := 16) hx hb dX9_reasonAgainst_5 (by decide) (fun c1 => ?_) (fun c1 => ?_)
  · have h := it_p c1 h
    refine lv_iconst (v := (1 : Int32)) hx hb dX9_reasonAgainst_16 (by decide) ?_
    exact x_iret C S hr h dX9_reasonAgainst_17
  · have h := it_n c1 h
    refine lv_iload_n hx hb dX9_reasonAgainst_8 rfl (lv_at hl 2 rfl) ?_
    refine lv_aload_n hx hb dX9_reasonAgainst_9 rfl (lv_at hl 0 rfl) ?_
    refine x_getI C S KX9 hx0 13 (by decide) rfl rfl fl_RX9_67 dX9_reasonAgainst_10 ?_
    refine lv_icmp_le (tgt := 18) hx hb dX9_reasonAgainst_13 (by decide) (fun c2 => ?_) (fun c2 => ?_)
    · have h := it_p c2 h
      refine lv_aload_n hx hb dX9_reasonAgainst_18 rfl (lv_at hl 0 rfl) ?_
      have hR3 : Ok 194 (R x0 2) 50006 := hSh x0 9 2 50006 hx0.1 rfl
      refine x_getR C S KX9 hx0 2 (by decide) rfl rfl fl_RX9_25 hR3 dX9_reasonAgainst_19 ?_
      refine lv_iload_n hx hb dX9_reasonAgainst_22 rfl (lv_at hl 1 rfl) ?_
      obtain ⟨hi4, h⟩ := ck_el h
      have hR5 : Ok 194 (R (R x0 2) x1.toNatClampNeg) 0 := hSh (R x0 2) 50006 x1.toNatClampNeg 0 hR3.1 (if_pos (vp_lt hi4))
      refine x_aald (len := 6) C S (by decide) 4 (by decide) rfl hR3 hi4 hR5 dX9_reasonAgainst_23 ?_
      refine lv_astore (lv' := [(4, .ref (gb g + (R (R x0 2) x1.toNatClampNeg))), (0, .ref (gb g + x0)), (1, .int x1), (2, .int x2), (3, .ref (gb g + x3))]) hx hb dX9_reasonAgainst_24 hl (by decide) rfl (fun ls hl => ?_)
      refine lv_aload hx hb dX9_reasonAgainst_26 (lv_at hl 0 rfl) ?_
      refine x_getI C S KX0 hR5 10 (by decide) rfl rfl fl_RX9_142 dX9_reasonAgainst_28 ?_
      refine lv_if_eq (tgt := 36) hx hb dX9_reasonAgainst_31 (by decide) (fun c6 => ?_) (fun c6 => ?_)
      · have h := it_p c6 h
        refine lv_aload_n hx hb dX9_reasonAgainst_36 rfl (lv_at hl 1 rfl) ?_
        refine lv_aload hx hb dX9_reasonAgainst_37 (lv_at hl 0 rfl) ?_
        refine lv_iload_n hx hb dX9_reasonAgainst_39 rfl (lv_at hl 3 rfl) ?_
        obtain ⟨a7, σ7, hc7, h⟩ := bd_el h
        refine x_callVI C S KX9 hx0 (ok_X9_quietFor (L := L) hc7 hSh hx0 hR5) ⟨cd_X9_quietFor, ni_RX9, ml_RX9_157, in_X9_quietFor, sl_X9_quietFor⟩ ⟨by decide, by decide⟩ rfl ⟨by decide, by decide⟩ hl.1 rfl (Nat.le_of_ble_eq_true rfl) ⟨by decide, by decide⟩ dX9_reasonAgainst_40 (fun H locs S => ?_)
        refine lv_if_eq (tgt := 48) hx hb dX9_reasonAgainst_43 (by decide) (fun c8 => ?_) (fun c8 => ?_)
        · have h := it_p c8 h
          refine lv_aload hx hb dX9_reasonAgainst_48 (lv_at hl 0 rfl) ?_
          have hR9 : Ok 194 (R (R (R x0 2) x1.toNatClampNeg) 3) 10024 := hSh (R (R x0 2) x1.toNatClampNeg) 0 3 10024 hR5.1 rfl
          refine x_getR C S KX0 hR5 3 (by decide) rfl rfl fl_RX9_89 hR9 dX9_reasonAgainst_50 ?_
          refine lv_iload_n hx hb dX9_reasonAgainst_53 rfl (lv_at hl 3 rfl) ?_
          refine lv_bipush (v := (60 : Int32)) hx hb dX9_reasonAgainst_54 (by decide) ?_
          refine lv_idiv hx hb dX9_reasonAgainst_56 (by decide) ?_
          obtain ⟨hi10, h⟩ := ck_el h
          refine x_iald (len := 24) C S (by decide) hR9 hi10 dX9_reasonAgainst_57 ?_
          refine lv_if_eq (tgt := 63) hx hb dX9_reasonAgainst_58 (by decide) (fun c11 => ?_) (fun c11 => ?_)
          · have h := it_p c11 h
            refine lv_aload_n hx hb dX9_reasonAgainst_63 rfl (lv_at hl 1 rfl) ?_
            refine lv_iload_n hx hb dX9_reasonAgainst_64 rfl (lv_at hl 2 rfl) ?_
            refine lv_iload_n hx hb dX9_reasonAgainst_65 rfl (lv_at hl 3 rfl) ?_
            refine lv_aload_n hx hb dX9_reasonAgainst_66 rfl (lv_at hl 4 rfl) ?_
            obtain ⟨a12, σ12, hc12, h⟩ := bd_el h
            refine x_callVI C S KX9 hx0 (ok_X9_crowded (L := L) hc12 hSh hx0 hx3) ⟨cd_X9_crowded, ni_RX9, ml_RX9_161, in_X9_crowded, sl_X9_crowded⟩ ⟨by decide, by decide⟩ rfl ⟨by decide, by decide⟩ hl.1 rfl (Nat.le_of_ble_eq_true rfl) ⟨by decide, by decide⟩ dX9_reasonAgainst_67 (fun H locs S => ?_)
            refine lv_if_eq (tgt := 77) hx hb dX9_reasonAgainst_70 (by decide) (fun c13 => ?_) (fun c13 => ?_)
            · have h := it_p c13 h
              refine lv_iconst (v := (0 : Int32)) hx hb dX9_reasonAgainst_77 (by decide) ?_
              exact x_iret C S hr h dX9_reasonAgainst_78
            · have h := it_n c13 h
              refine lv_iconst (v := (5 : Int32)) hx hb dX9_reasonAgainst_73 (by decide) ?_
              refine lv_goto (tgt := 78) hx hb dX9_reasonAgainst_74 (by decide) ?_
              exact x_iret C S hr h dX9_reasonAgainst_78
          · have h := it_n c11 h
            refine lv_iconst (v := (4 : Int32)) hx hb dX9_reasonAgainst_61 (by decide) ?_
            exact x_iret C S hr h dX9_reasonAgainst_62
        · have h := it_n c8 h
          refine lv_iconst (v := (3 : Int32)) hx hb dX9_reasonAgainst_46 (by decide) ?_
          exact x_iret C S hr h dX9_reasonAgainst_47
      · have h := it_n c6 h
        refine lv_iconst (v := (2 : Int32)) hx hb dX9_reasonAgainst_34 (by decide) ?_
        exact x_iret C S hr h dX9_reasonAgainst_35
    · have h := it_n c2 h
      refine lv_iconst (v := (1 : Int32)) hx hb dX9_reasonAgainst_16 (by decide) ?_
      exact x_iret C S hr h dX9_reasonAgainst_17
theorem dX9_collectClosed_0 : decode cX9_collectClosed 0 = .ok (.aload_n 2, 1) := by decide +kernel
theorem dX9_collectClosed_1 : decode cX9_collectClosed 1 = .ok (.invokevirtual 173, 3) := by decide +kernel
theorem dX9_collectClosed_4 : decode cX9_collectClosed 4 = .ok (.iconst 0, 1) := by decide +kernel
theorem dX9_collectClosed_5 : decode cX9_collectClosed 5 = .ok (.istore_n 3, 1) := by decide +kernel
theorem dX9_collectClosed_6 : decode cX9_collectClosed 6 = .ok (.iload_n 3, 1) := by decide +kernel
theorem dX9_collectClosed_7 : decode cX9_collectClosed 7 = .ok (.aload_n 0, 1) := by decide +kernel
theorem dX9_collectClosed_8 : decode cX9_collectClosed 8 = .ok (.getfield 61, 3) := by decide +kernel
theorem dX9_collectClosed_11 : decode cX9_collectClosed 11 = .ok (.if_icmp .ge 56, 3) := by decide +kernel
theorem dX9_collectClosed_14 : decode cX9_collectClosed 14 = .ok (.aload_n 0, 1) := by decide +kernel
theorem dX9_collectClosed_15 : decode cX9_collectClosed 15 = .ok (.getfield 39, 3) := by decide +kernel
theorem dX9_collectClosed_18 : decode cX9_collectClosed 18 = .ok (.iload_n 3, 1) := by decide +kernel
theorem dX9_collectClosed_19 : decode cX9_collectClosed 19 = .ok (.iaload, 1) := by decide +kernel
theorem dX9_collectClosed_20 : decode cX9_collectClosed 20 = .ok (.iconst (-1), 1) := by decide +kernel
theorem dX9_collectClosed_21 : decode cX9_collectClosed 21 = .ok (.if_icmp .eq 40, 3) := by decide +kernel
theorem dX9_collectClosed_24 : decode cX9_collectClosed 24 = .ok (.aload_n 0, 1) := by decide +kernel
theorem dX9_collectClosed_25 : decode cX9_collectClosed 25 = .ok (.getfield 25, 3) := by decide +kernel
theorem dX9_collectClosed_28 : decode cX9_collectClosed 28 = .ok (.iload_n 3, 1) := by decide +kernel
theorem dX9_collectClosed_29 : decode cX9_collectClosed 29 = .ok (.aaload, 1) := by decide +kernel
theorem dX9_collectClosed_30 : decode cX9_collectClosed 30 = .ok (.iload_n 1, 1) := by decide +kernel
theorem dX9_collectClosed_31 : decode cX9_collectClosed 31 = .ok (.invokevirtual 178, 3) := by decide +kernel
theorem dX9_collectClosed_34 : decode cX9_collectClosed 34 = .ok (.ifCond .eq 27, 3) := by decide +kernel
theorem dX9_collectClosed_37 : decode cX9_collectClosed 37 = .ok (.aload_n 2, 1) := by decide +kernel
theorem dX9_collectClosed_38 : decode cX9_collectClosed 38 = .ok (.aload_n 0, 1) := by decide +kernel
theorem dX9_collectClosed_39 : decode cX9_collectClosed 39 = .ok (.aload_n 0, 1) := by decide +kernel
theorem dX9_collectClosed_40 : decode cX9_collectClosed 40 = .ok (.getfield 39, 3) := by decide +kernel
theorem dX9_collectClosed_43 : decode cX9_collectClosed 43 = .ok (.iload_n 3, 1) := by decide +kernel
theorem dX9_collectClosed_44 : decode cX9_collectClosed 44 = .ok (.iaload, 1) := by decide +kernel
theorem dX9_collectClosed_45 : decode cX9_collectClosed 45 = .ok (.invokevirtual 181, 3) := by decide +kernel
theorem dX9_collectClosed_48 : decode cX9_collectClosed 48 = .ok (.aload_n 0, 1) := by decide +kernel
theorem dX9_collectClosed_49 : decode cX9_collectClosed 49 = .ok (.aload_n 0, 1) := by decide +kernel
theorem dX9_collectClosed_50 : decode cX9_collectClosed 50 = .ok (.getfield 39, 3) := by decide +kernel
theorem dX9_collectClosed_53 : decode cX9_collectClosed 53 = .ok (.iload_n 3, 1) := by decide +kernel
theorem dX9_collectClosed_54 : decode cX9_collectClosed 54 = .ok (.iaload, 1) := by decide +kernel
theorem dX9_collectClosed_55 : decode cX9_collectClosed 55 = .ok (.invokevirtual 184, 3) := by decide +kernel
theorem dX9_collectClosed_58 : decode cX9_collectClosed 58 = .ok (.invokevirtual 187, 3) := by decide +kernel
theorem dX9_collectClosed_61 : decode cX9_collectClosed 61 = .ok (.iinc 3 1, 3) := by decide +kernel
theorem dX9_collectClosed_64 : decode cX9_collectClosed 64 = .ok (.goto (-58), 3) := by decide +kernel
theorem dX9_collectClosed_67 : decode cX9_collectClosed 67 = .ok (.return_, 1) := by decide +kernel
def f_X9_collectClosed_61 (N : Nat) (R : Nat → Nat → Nat) (k6 : SI → Nat → Int32 → Nat → Int32 → Option (Unit × SI)) (σ : SI) (x0 : Nat) (x1 : Int32) (x2 : Nat) (x3 : Int32) : Option (Unit × SI) := k6 σ x0 x1 x2 (x3 + 1)
def f_X9_collectClosed_6 (N : Nat) (R : Nat → Nat → Nat) : Nat → SI → Nat → Int32 → Nat → Int32 → Option (Unit × SI)
  | 0, _, _, _, _, _ => none
  | n + 1, σ, x0, x1, x2, x3 => if (σ x0 11) ≤ x3 then (some ((), σ)) else (ck x3 6 (if (σ (R x0 6) x3.toNatClampNeg) = (-1 : Int32) then (f_X9_collectClosed_61 N R (fun σ x0 x1 x2 x3 => f_X9_collectClosed_6 N R n σ x0 x1 x2 x3) σ x0 x1 x2 x3) else (ck x3 6 (bd (f_X0_closesRoad N R σ (R (R x0 2) x3.toNatClampNeg) x1) (fun a9 σ9 => if a9 = 0 then (f_X9_collectClosed_61 N R (fun σ x0 x1 x2 x3 => f_X9_collectClosed_6 N R n σ x0 x1 x2 x3) σ9 x0 x1 x2 x3) else (ck x3 6 (bd (f_X9_closingFirst N R σ9 x0 (σ9 (R x0 6) x3.toNatClampNeg)) (fun a13 σ13 => ck x3 6 (bd (f_X9_closingEnd N R σ13 x0 (σ13 (R x0 6) x3.toNatClampNeg)) (fun a16 σ16 => bd (f_X3_add N R σ16 x2 a13 a16) (fun _ σ17 => f_X9_collectClosed_61 N R (fun σ x0 x1 x2 x3 => f_X9_collectClosed_6 N R n σ x0 x1 x2 x3) σ17 x0 x1 x2 x3)))))))))))
def f_X9_collectClosed (N : Nat) (R : Nat → Nat → Nat) (σ : SI) (x0 : Nat) (x1 : Int32) (x2 : Nat) : Option (Unit × SI) := bd (f_X3_clear N R σ x2) (fun _ σ1 => f_X9_collectClosed_6 N R N σ1 x0 x1 x2 (0 : Int32))
set_option maxHeartbeats 4000000 in
set_option maxRecDepth 100000 in
theorem w_X9_collectClosed_61 {l : Launch} {g : GL} {p : Program} {e : Jvm.Env} {s : State} {m : MethodId} {args : Array Value} {below : List Frame} {meth : Method} {c : Code} {R : Nat → Nat → Nat} {L : Nat → Nat → Int64} {r : (Unit × SI)} {N : Nat} {k6 : SI → Nat → Int32 → Nat → Int32 → Option (Unit × SI)} (C : Cx l g p s m meth c cX9_collectClosed 4 RX9) (hr : meth.sig.returnType = none) (hSh : ShR R) (hk6 : ∀ (σ : SI) (x0 : Nat) (x1 : Int32) (x2 : Nat) (x3 : Int32), k6 σ x0 x1 x2 x3 = some r → Ok 194 x0 9 → Ok 194 x2 3 → ∀ (H : Heap) (locs : List Loc) (ls : Array Slot), S2 g s σ R L H locs → lv_has ls 4 [(0, .ref (gb g + x0)), (1, .int x1), (2, .ref (gb g + x2)), (3, .int x3)] → W p l e (rmd 3 0 0) s m args below meth c H locs 0 0 (MQ below (Qg g 194 (PV R L r)) args s 0 0 (gA g)) (F0 m 6 ls [])) : ∀ (σ : SI) (x0 : Nat) (x1 : Int32) (x2 : Nat) (x3 : Int32), f_X9_collectClosed_61 N R k6 σ x0 x1 x2 x3 = some r → Ok 194 x0 9 → Ok 194 x2 3 → ∀ (H : Heap) (locs : List Loc) (ls : Array Slot), S2 g s σ R L H locs → lv_has ls 4 [(0, .ref (gb g + x0)), (1, .int x1), (2, .ref (gb g + x2)), (3, .int x3)] → W p l e (rmd 3 0 0) s m args below meth c H locs 0 0 (MQ below (Qg g 194 (PV R L r)) args s 0 0 (gA g)) (F0 m 61 ls []) := by
  have hx := C.1
  have hb := C.2.1
  intro σ x0 x1 x2 x3 h hx0 hx2 H locs ls S hl
  rw [f_X9_collectClosed_61] at h
  refine lv_iinc (v := x3 + 1) (lv' := [(3, .int (x3 + 1)), (0, .ref (gb g + x0)), (1, .int x1), (2, .ref (gb g + x2))]) hx hb dX9_collectClosed_61 hl (k := 3) rfl rfl (by decide) rfl (fun ls hl => ?_)
  refine lv_goto (tgt := 6) hx hb dX9_collectClosed_64 (by decide) ?_
  exact hk6 σ x0 x1 x2 (x3 + 1) h hx0 hx2 H locs ls S (lv_sub hl [1, 2, 3, 0] rfl)
set_option maxHeartbeats 4000000 in
set_option maxRecDepth 100000 in
theorem w_X9_collectClosed_6 {l : Launch} {g : GL} {p : Program} {e : Jvm.Env} {s : State} {m : MethodId} {args : Array Value} {below : List Frame} {meth : Method} {c : Code} {R : Nat → Nat → Nat} {L : Nat → Nat → Int64} {r : (Unit × SI)} {N : Nat} (C : Cx l g p s m meth c cX9_collectClosed 4 RX9) (hr : meth.sig.returnType = none) (hSh : ShR R) : ∀ (n : Nat) (σ : SI) (x0 : Nat) (x1 : Int32) (x2 : Nat) (x3 : Int32), f_X9_collectClosed_6 N R n σ x0 x1 x2 x3 = some r → Ok 194 x0 9 → Ok 194 x2 3 → ∀ (H : Heap) (locs : List Loc) (ls : Array Slot), S2 g s σ R L H locs → lv_has ls 4 [(0, .ref (gb g + x0)), (1, .int x1), (2, .ref (gb g + x2)), (3, .int x3)] → W p l e (rmd 3 0 0) s m args below meth c H locs 0 0 (MQ below (Qg g 194 (PV R L r)) args s 0 0 (gA g)) (F0 m 6 ls []) := by
  have hx := C.1
  have hb := C.2.1
  intro n
  induction n with
  | zero =>
    intro σ x0 x1 x2 x3 h
    cases (show (none : Option (Unit × SI)) = some r from h)
  | succ n ih =>
    intro σ x0 x1 x2 x3 h hx0 hx2 H locs ls S hl
    rw [f_X9_collectClosed_6] at h
    refine lv_iload_n hx hb dX9_collectClosed_6 rfl (lv_at hl 3 rfl) ?_
    refine lv_aload_n hx hb dX9_collectClosed_7 rfl (lv_at hl 0 rfl) ?_
    refine x_getI C S KX9 hx0 11 (by decide) rfl rfl fl_RX9_61 dX9_collectClosed_8 ?_
    refine lv_icmp_ge (tgt := 67) hx hb dX9_collectClosed_11 (by decide) (fun c2 => ?_) (fun c2 => ?_)
    · have h := it_p c2 h
      exact x_vret C S hr h dX9_collectClosed_67
    · have h := it_n c2 h
      refine lv_aload_n hx hb dX9_collectClosed_14 rfl (lv_at hl 0 rfl) ?_
      have hR3 : Ok 194 (R x0 6) 10006 := hSh x0 9 6 10006 hx0.1 rfl
      refine x_getR C S KX9 hx0 6 (by decide) rfl rfl fl_RX9_39 hR3 dX9_collectClosed_15 ?_
      refine lv_iload_n hx hb dX9_collectClosed_18 rfl (lv_at hl 3 rfl) ?_
      obtain ⟨hi4, h⟩ := ck_el h
      refine x_iald (len := 6) C S (by decide) hR3 hi4 dX9_collectClosed_19 ?_
      refine lv_iconst (v := (-1 : Int32)) hx hb dX9_collectClosed_20 (by decide) ?_
      refine lv_icmp_eq (tgt := 61) hx hb dX9_collectClosed_21 (by decide) (fun c5 => ?_) (fun c5 => ?_)
      · have h := it_p c5 h
        exact w_X9_collectClosed_61 C hr hSh ih σ x0 x1 x2 x3 h hx0 hx2 H locs ls S (lv_sub hl [0, 1, 2, 3] rfl)
      · have h := it_n c5 h
        refine lv_aload_n hx hb dX9_collectClosed_24 rfl (lv_at hl 0 rfl) ?_
        have hR6 : Ok 194 (R x0 2) 50006 := hSh x0 9 2 50006 hx0.1 rfl
        refine x_getR C S KX9 hx0 2 (by decide) rfl rfl fl_RX9_25 hR6 dX9_collectClosed_25 ?_
        refine lv_iload_n hx hb dX9_collectClosed_28 rfl (lv_at hl 3 rfl) ?_
        obtain ⟨hi7, h⟩ := ck_el h
        have hR8 : Ok 194 (R (R x0 2) x3.toNatClampNeg) 0 := hSh (R x0 2) 50006 x3.toNatClampNeg 0 hR6.1 (if_pos (vp_lt hi7))
        refine x_aald (len := 6) C S (by decide) 4 (by decide) rfl hR6 hi7 hR8 dX9_collectClosed_29 ?_
        refine lv_iload_n hx hb dX9_collectClosed_30 rfl (lv_at hl 1 rfl) ?_
        obtain ⟨a9, σ9, hc9, h⟩ := bd_el h
        refine x_callVI C S KX0 hR8 (ok_X0_closesRoad (L := L) hc9 hSh hR8) ⟨cd_X0_closesRoad, ni_RX0, ml_RX9_178, in_X0_closesRoad, sl_X0_closesRoad⟩ ⟨by decide, by decide⟩ rfl ⟨by decide, by decide⟩ hl.1 rfl (Nat.le_of_ble_eq_true rfl) ⟨by decide, by decide⟩ dX9_collectClosed_31 (fun H locs S => ?_)
        refine lv_if_eq (tgt := 61) hx hb dX9_collectClosed_34 (by decide) (fun c10 => ?_) (fun c10 => ?_)
        · have h := it_p c10 h
          exact w_X9_collectClosed_61 C hr hSh ih σ9 x0 x1 x2 x3 h hx0 hx2 H locs ls S (lv_sub hl [0, 1, 2, 3] rfl)
        · have h := it_n c10 h
          refine lv_aload_n hx hb dX9_collectClosed_37 rfl (lv_at hl 2 rfl) ?_
          refine lv_aload_n hx hb dX9_collectClosed_38 rfl (lv_at hl 0 rfl) ?_
          refine lv_aload_n hx hb dX9_collectClosed_39 rfl (lv_at hl 0 rfl) ?_
          have hR11 : Ok 194 (R x0 6) 10006 := hSh x0 9 6 10006 hx0.1 rfl
          refine x_getR C S KX9 hx0 6 (by decide) rfl rfl fl_RX9_39 hR11 dX9_collectClosed_40 ?_
          refine lv_iload_n hx hb dX9_collectClosed_43 rfl (lv_at hl 3 rfl) ?_
          obtain ⟨hi12, h⟩ := ck_el h
          refine x_iald (len := 6) C S (by decide) hR11 hi12 dX9_collectClosed_44 ?_
          obtain ⟨a13, σ13, hc13, h⟩ := bd_el h
          refine x_callVI C S KX9 hx0 (ok_X9_closingFirst (L := L) hc13 hSh hx0) ⟨cd_X9_closingFirst, ni_RX9, ml_RX9_181, in_X9_closingFirst, sl_X9_closingFirst⟩ ⟨by decide, by decide⟩ rfl ⟨by decide, by decide⟩ hl.1 rfl (Nat.le_of_ble_eq_true rfl) ⟨by decide, by decide⟩ dX9_collectClosed_45 (fun H locs S => ?_)
          refine lv_aload_n hx hb dX9_collectClosed_48 rfl (lv_at hl 0 rfl) ?_
          refine lv_aload_n hx hb dX9_collectClosed_49 rfl (lv_at hl 0 rfl) ?_
          have hR14 : Ok 194 (R x0 6) 10006 := hSh x0 9 6 10006 hx0.1 rfl
          refine x_getR C S KX9 hx0 6 (by decide) rfl rfl fl_RX9_39 hR14 dX9_collectClosed_50 ?_
          refine lv_iload_n hx hb dX9_collectClosed_53 rfl (lv_at hl 3 rfl) ?_
          obtain ⟨hi15, h⟩ := ck_el h
          refine x_iald (len := 6) C S (by decide) hR14 hi15 dX9_collectClosed_54 ?_
          obtain ⟨a16, σ16, hc16, h⟩ := bd_el h
          refine x_callVI C S KX9 hx0 (ok_X9_closingEnd (L := L) hc16 hSh hx0) ⟨cd_X9_closingEnd, ni_RX9, ml_RX9_184, in_X9_closingEnd, sl_X9_closingEnd⟩ ⟨by decide, by decide⟩ rfl ⟨by decide, by decide⟩ hl.1 rfl (Nat.le_of_ble_eq_true rfl) ⟨by decide, by decide⟩ dX9_collectClosed_55 (fun H locs S => ?_)
          obtain ⟨a17, σ17, hc17, h⟩ := bd_el h
          refine x_callVV C S KX3 hx2 (ok_X3_add (L := L) hc17 hSh hx2) ⟨cd_X3_add, ni_RX3, ml_RX9_187, in_X3_add, sl_X3_add⟩ ⟨by decide, by decide⟩ rfl ⟨by decide, by decide⟩ hl.1 rfl (Nat.le_of_ble_eq_true rfl) ⟨by decide, by decide⟩ dX9_collectClosed_58 (fun H locs S => ?_)
          exact w_X9_collectClosed_61 C hr hSh ih σ17 x0 x1 x2 x3 h hx0 hx2 H locs ls S (lv_sub hl [0, 1, 2, 3] rfl)
set_option maxHeartbeats 4000000 in
set_option maxRecDepth 100000 in
theorem ok_X9_collectClosed {l : Launch} {g : GL} {R : Nat → Nat → Nat} {L : Nat → Nat → Int64} {N : Nat} {σ : SI} {x0 : Nat} {x1 : Int32} {x2 : Nat} {r : (Unit × SI)} (h : f_X9_collectClosed N R σ x0 x1 x2 = some r) (hSh : ShR R) (hx0 : Ok 194 x0 9) (hx2 : Ok 194 x2 3) : Ct l g 3 yX9_collectClosed cX9_collectClosed 4 none 194 194 0 0 [.ref (gb g + x0), .int x1, .ref (gb g + x2)] (mkS σ R L) (PV R L r) := by
  refine Met.ofW (cc := cX9_collectClosed) (maxL := 4) (ret := none) (by decide) rfl ?_
  intro p e s m args below meth c s₁ B hml hv
  obtain ⟨rfl, hE, hLo, hWd⟩ := hv
  have hr : meth.sig.returnType = none := B.returns
  have C : Cx l g p s m meth c cX9_collectClosed 4 RX9 := ⟨B.exec, B.bytes, hml, findClass_of_methodNamed B.named, hE, hLo, B.notSynchronized⟩
  have S : S2 g s σ R L s.heap [] := ⟨hWd, va_S.rf⟩
  have hx := C.1
  have hb := C.2.1
  have hl := lv_entry ([.ref (gb g + x0), .int x1, .ref (gb g + x2)]) (n := 4) (Nat.le_of_ble_eq_true rfl)
  rw [lg_entry_eq]
  generalize (lg_sl ([.ref (gb g + x0), .int x1, .ref (gb g + x2)]) ++ List.replicate (4 - (lg_sl ([.ref (gb g + x0), .int x1, .ref (gb g + x2)])).length) Slot.unset).toArray = ls at hl ⊢
  have hl : lv_has ls 4 [(0, .ref (gb g + x0)), (1, .int x1), (2, .ref (gb g + x2))] := hl
  generalize hH : s.heap = H at S ⊢
  generalize hlc : ([] : List Loc) = locs at S ⊢
  rw [f_X9_collectClosed] at h
  refine lv_aload_n hx hb dX9_collectClosed_0 rfl (lv_at hl 2 rfl) ?_
  obtain ⟨a1, σ1, hc1, h⟩ := bd_el h
  refine x_callVV C S KX3 hx2 (ok_X3_clear (L := L) hc1 hSh hx2) ⟨cd_X3_clear, ni_RX3, ml_RX9_173, in_X3_clear, sl_X3_clear⟩ ⟨by decide, by decide⟩ rfl ⟨by decide, by decide⟩ hl.1 rfl (Nat.le_of_ble_eq_true rfl) ⟨by decide, by decide⟩ dX9_collectClosed_1 (fun H locs S => ?_)
  refine lv_iconst (v := (0 : Int32)) hx hb dX9_collectClosed_4 (by decide) ?_
  refine lv_istore_n (lv' := [(3, .int (0 : Int32)), (0, .ref (gb g + x0)), (1, .int x1), (2, .ref (gb g + x2))]) hx hb dX9_collectClosed_5 rfl hl (by decide) rfl (fun ls hl => ?_)
  exact w_X9_collectClosed_6 C hr hSh N σ1 x0 x1 x2 (0 : Int32) h hx0 hx2 H locs ls S (lv_sub hl [1, 2, 3, 0] rfl)
