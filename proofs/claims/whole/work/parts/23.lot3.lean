theorem dX12_triedClosed_0 : decode cX12_triedClosed 0 = .ok (.iconst 0, 1) := by decide +kernel
theorem dX12_triedClosed_1 : decode cX12_triedClosed 1 = .ok (.istore_n 2, 1) := by decide +kernel
theorem dX12_triedClosed_2 : decode cX12_triedClosed 2 = .ok (.iconst 0, 1) := by decide +kernel
theorem dX12_triedClosed_3 : decode cX12_triedClosed 3 = .ok (.istore_n 3, 1) := by decide +kernel
theorem dX12_triedClosed_4 : decode cX12_triedClosed 4 = .ok (.iconst (-1), 1) := by decide +kernel
theorem dX12_triedClosed_5 : decode cX12_triedClosed 5 = .ok (.istore 4, 2) := by decide +kernel
theorem dX12_triedClosed_7 : decode cX12_triedClosed 7 = .ok (.iconst 0, 1) := by decide +kernel
theorem dX12_triedClosed_8 : decode cX12_triedClosed 8 = .ok (.istore 5, 2) := by decide +kernel
theorem dX12_triedClosed_10 : decode cX12_triedClosed 10 = .ok (.iload 5, 2) := by decide +kernel
theorem dX12_triedClosed_12 : decode cX12_triedClosed 12 = .ok (.aload_n 0, 1) := by decide +kernel
theorem dX12_triedClosed_13 : decode cX12_triedClosed 13 = .ok (.invokevirtual 142, 3) := by decide +kernel
theorem dX12_triedClosed_16 : decode cX12_triedClosed 16 = .ok (.if_icmp .ge 181, 3) := by decide +kernel
theorem dX12_triedClosed_19 : decode cX12_triedClosed 19 = .ok (.iconst (-1), 1) := by decide +kernel
theorem dX12_triedClosed_20 : decode cX12_triedClosed 20 = .ok (.istore 6, 2) := by decide +kernel
theorem dX12_triedClosed_22 : decode cX12_triedClosed 22 = .ok (.iconst 0, 1) := by decide +kernel
theorem dX12_triedClosed_23 : decode cX12_triedClosed 23 = .ok (.istore 7, 2) := by decide +kernel
theorem dX12_triedClosed_25 : decode cX12_triedClosed 25 = .ok (.iload 7, 2) := by decide +kernel
theorem dX12_triedClosed_27 : decode cX12_triedClosed 27 = .ok (.aload_n 0, 1) := by decide +kernel
theorem dX12_triedClosed_28 : decode cX12_triedClosed 28 = .ok (.invokevirtual 142, 3) := by decide +kernel
theorem dX12_triedClosed_31 : decode cX12_triedClosed 31 = .ok (.if_icmp .ge 74, 3) := by decide +kernel
theorem dX12_triedClosed_34 : decode cX12_triedClosed 34 = .ok (.bipush 6, 2) := by decide +kernel
theorem dX12_triedClosed_36 : decode cX12_triedClosed 36 = .ok (.aload_n 0, 1) := by decide +kernel
theorem dX12_triedClosed_37 : decode cX12_triedClosed 37 = .ok (.getfield 113, 3) := by decide +kernel
theorem dX12_triedClosed_40 : decode cX12_triedClosed 40 = .ok (.iload 7, 2) := by decide +kernel
theorem dX12_triedClosed_42 : decode cX12_triedClosed 42 = .ok (.iaload, 1) := by decide +kernel
theorem dX12_triedClosed_43 : decode cX12_triedClosed 43 = .ok (.imul, 1) := by decide +kernel
theorem dX12_triedClosed_44 : decode cX12_triedClosed 44 = .ok (.iload 7, 2) := by decide +kernel
theorem dX12_triedClosed_46 : decode cX12_triedClosed 46 = .ok (.iadd, 1) := by decide +kernel
theorem dX12_triedClosed_47 : decode cX12_triedClosed 47 = .ok (.istore 8, 2) := by decide +kernel
theorem dX12_triedClosed_49 : decode cX12_triedClosed 49 = .ok (.aload_n 0, 1) := by decide +kernel
theorem dX12_triedClosed_50 : decode cX12_triedClosed 50 = .ok (.getfield 119, 3) := by decide +kernel
theorem dX12_triedClosed_53 : decode cX12_triedClosed 53 = .ok (.iload 7, 2) := by decide +kernel
theorem dX12_triedClosed_55 : decode cX12_triedClosed 55 = .ok (.iaload, 1) := by decide +kernel
theorem dX12_triedClosed_56 : decode cX12_triedClosed 56 = .ok (.iload_n 1, 1) := by decide +kernel
theorem dX12_triedClosed_57 : decode cX12_triedClosed 57 = .ok (.ishr, 1) := by decide +kernel
theorem dX12_triedClosed_58 : decode cX12_triedClosed 58 = .ok (.iconst 1, 1) := by decide +kernel
theorem dX12_triedClosed_59 : decode cX12_triedClosed 59 = .ok (.iand, 1) := by decide +kernel
theorem dX12_triedClosed_60 : decode cX12_triedClosed 60 = .ok (.iconst 1, 1) := by decide +kernel
theorem dX12_triedClosed_61 : decode cX12_triedClosed 61 = .ok (.if_icmp .ne 38, 3) := by decide +kernel
theorem dX12_triedClosed_64 : decode cX12_triedClosed 64 = .ok (.iload 8, 2) := by decide +kernel
theorem dX12_triedClosed_66 : decode cX12_triedClosed 66 = .ok (.iload 4, 2) := by decide +kernel
theorem dX12_triedClosed_68 : decode cX12_triedClosed 68 = .ok (.if_icmp .le 31, 3) := by decide +kernel
theorem dX12_triedClosed_71 : decode cX12_triedClosed 71 = .ok (.iload 6, 2) := by decide +kernel
theorem dX12_triedClosed_73 : decode cX12_triedClosed 73 = .ok (.iconst (-1), 1) := by decide +kernel
theorem dX12_triedClosed_74 : decode cX12_triedClosed 74 = .ok (.if_icmp .eq 21, 3) := by decide +kernel
theorem dX12_triedClosed_77 : decode cX12_triedClosed 77 = .ok (.iload 8, 2) := by decide +kernel
theorem dX12_triedClosed_79 : decode cX12_triedClosed 79 = .ok (.bipush 6, 2) := by decide +kernel
theorem dX12_triedClosed_81 : decode cX12_triedClosed 81 = .ok (.aload_n 0, 1) := by decide +kernel
theorem dX12_triedClosed_82 : decode cX12_triedClosed 82 = .ok (.getfield 113, 3) := by decide +kernel
theorem dX12_triedClosed_85 : decode cX12_triedClosed 85 = .ok (.iload 6, 2) := by decide +kernel
theorem dX12_triedClosed_87 : decode cX12_triedClosed 87 = .ok (.iaload, 1) := by decide +kernel
theorem dX12_triedClosed_88 : decode cX12_triedClosed 88 = .ok (.imul, 1) := by decide +kernel
theorem dX12_triedClosed_89 : decode cX12_triedClosed 89 = .ok (.iload 6, 2) := by decide +kernel
theorem dX12_triedClosed_91 : decode cX12_triedClosed 91 = .ok (.iadd, 1) := by decide +kernel
theorem dX12_triedClosed_92 : decode cX12_triedClosed 92 = .ok (.if_icmp .ge 7, 3) := by decide +kernel
theorem dX12_triedClosed_95 : decode cX12_triedClosed 95 = .ok (.iload 7, 2) := by decide +kernel
theorem dX12_triedClosed_97 : decode cX12_triedClosed 97 = .ok (.istore 6, 2) := by decide +kernel
theorem dX12_triedClosed_99 : decode cX12_triedClosed 99 = .ok (.iinc 7 1, 3) := by decide +kernel
theorem dX12_triedClosed_102 : decode cX12_triedClosed 102 = .ok (.goto (-77), 3) := by decide +kernel
theorem dX12_triedClosed_105 : decode cX12_triedClosed 105 = .ok (.iload 6, 2) := by decide +kernel
theorem dX12_triedClosed_107 : decode cX12_triedClosed 107 = .ok (.iconst (-1), 1) := by decide +kernel
theorem dX12_triedClosed_108 : decode cX12_triedClosed 108 = .ok (.if_icmp .ne 5, 3) := by decide +kernel
theorem dX12_triedClosed_111 : decode cX12_triedClosed 111 = .ok (.iload_n 2, 1) := by decide +kernel
theorem dX12_triedClosed_112 : decode cX12_triedClosed 112 = .ok (.ireturn, 1) := by decide +kernel
theorem dX12_triedClosed_113 : decode cX12_triedClosed 113 = .ok (.bipush 6, 2) := by decide +kernel
theorem dX12_triedClosed_115 : decode cX12_triedClosed 115 = .ok (.aload_n 0, 1) := by decide +kernel
theorem dX12_triedClosed_116 : decode cX12_triedClosed 116 = .ok (.getfield 113, 3) := by decide +kernel
theorem dX12_triedClosed_119 : decode cX12_triedClosed 119 = .ok (.iload 6, 2) := by decide +kernel
theorem dX12_triedClosed_121 : decode cX12_triedClosed 121 = .ok (.iaload, 1) := by decide +kernel
theorem dX12_triedClosed_122 : decode cX12_triedClosed 122 = .ok (.imul, 1) := by decide +kernel
theorem dX12_triedClosed_123 : decode cX12_triedClosed 123 = .ok (.iload 6, 2) := by decide +kernel
theorem dX12_triedClosed_125 : decode cX12_triedClosed 125 = .ok (.iadd, 1) := by decide +kernel
theorem dX12_triedClosed_126 : decode cX12_triedClosed 126 = .ok (.istore 4, 2) := by decide +kernel
theorem dX12_triedClosed_128 : decode cX12_triedClosed 128 = .ok (.iload_n 3, 1) := by decide +kernel
theorem dX12_triedClosed_129 : decode cX12_triedClosed 129 = .ok (.aload_n 0, 1) := by decide +kernel
theorem dX12_triedClosed_130 : decode cX12_triedClosed 130 = .ok (.getfield 113, 3) := by decide +kernel
theorem dX12_triedClosed_133 : decode cX12_triedClosed 133 = .ok (.iload 6, 2) := by decide +kernel
theorem dX12_triedClosed_135 : decode cX12_triedClosed 135 = .ok (.iaload, 1) := by decide +kernel
theorem dX12_triedClosed_136 : decode cX12_triedClosed 136 = .ok (.aload_n 0, 1) := by decide +kernel
theorem dX12_triedClosed_137 : decode cX12_triedClosed 137 = .ok (.getfield 88, 3) := by decide +kernel
theorem dX12_triedClosed_140 : decode cX12_triedClosed 140 = .ok (.bipush 6, 2) := by decide +kernel
theorem dX12_triedClosed_142 : decode cX12_triedClosed 142 = .ok (.iaload, 1) := by decide +kernel
theorem dX12_triedClosed_143 : decode cX12_triedClosed 143 = .ok (.isub, 1) := by decide +kernel
theorem dX12_triedClosed_144 : decode cX12_triedClosed 144 = .ok (.invokestatic 220, 3) := by decide +kernel
theorem dX12_triedClosed_147 : decode cX12_triedClosed 147 = .ok (.istore 7, 2) := by decide +kernel
theorem dX12_triedClosed_149 : decode cX12_triedClosed 149 = .ok (.sipush 1440, 3) := by decide +kernel
theorem dX12_triedClosed_152 : decode cX12_triedClosed 152 = .ok (.aload_n 0, 1) := by decide +kernel
theorem dX12_triedClosed_153 : decode cX12_triedClosed 153 = .ok (.getfield 113, 3) := by decide +kernel
theorem dX12_triedClosed_156 : decode cX12_triedClosed 156 = .ok (.iload 6, 2) := by decide +kernel
theorem dX12_triedClosed_158 : decode cX12_triedClosed 158 = .ok (.iaload, 1) := by decide +kernel
theorem dX12_triedClosed_159 : decode cX12_triedClosed 159 = .ok (.aload_n 0, 1) := by decide +kernel
theorem dX12_triedClosed_160 : decode cX12_triedClosed 160 = .ok (.getfield 88, 3) := by decide +kernel
theorem dX12_triedClosed_163 : decode cX12_triedClosed 163 = .ok (.bipush 7, 2) := by decide +kernel
theorem dX12_triedClosed_165 : decode cX12_triedClosed 165 = .ok (.iaload, 1) := by decide +kernel
theorem dX12_triedClosed_166 : decode cX12_triedClosed 166 = .ok (.iadd, 1) := by decide +kernel
theorem dX12_triedClosed_167 : decode cX12_triedClosed 167 = .ok (.invokestatic 215, 3) := by decide +kernel
theorem dX12_triedClosed_170 : decode cX12_triedClosed 170 = .ok (.istore 8, 2) := by decide +kernel
theorem dX12_triedClosed_172 : decode cX12_triedClosed 172 = .ok (.iload_n 2, 1) := by decide +kernel
theorem dX12_triedClosed_173 : decode cX12_triedClosed 173 = .ok (.iconst 0, 1) := by decide +kernel
theorem dX12_triedClosed_174 : decode cX12_triedClosed 174 = .ok (.iload 8, 2) := by decide +kernel
theorem dX12_triedClosed_176 : decode cX12_triedClosed 176 = .ok (.iload 7, 2) := by decide +kernel
theorem dX12_triedClosed_178 : decode cX12_triedClosed 178 = .ok (.isub, 1) := by decide +kernel
theorem dX12_triedClosed_179 : decode cX12_triedClosed 179 = .ok (.invokestatic 220, 3) := by decide +kernel
theorem dX12_triedClosed_182 : decode cX12_triedClosed 182 = .ok (.iadd, 1) := by decide +kernel
theorem dX12_triedClosed_183 : decode cX12_triedClosed 183 = .ok (.istore_n 2, 1) := by decide +kernel
theorem dX12_triedClosed_184 : decode cX12_triedClosed 184 = .ok (.iload_n 3, 1) := by decide +kernel
theorem dX12_triedClosed_185 : decode cX12_triedClosed 185 = .ok (.iload 8, 2) := by decide +kernel
theorem dX12_triedClosed_187 : decode cX12_triedClosed 187 = .ok (.invokestatic 220, 3) := by decide +kernel
theorem dX12_triedClosed_190 : decode cX12_triedClosed 190 = .ok (.istore_n 3, 1) := by decide +kernel
theorem dX12_triedClosed_191 : decode cX12_triedClosed 191 = .ok (.iinc 5 1, 3) := by decide +kernel
theorem dX12_triedClosed_194 : decode cX12_triedClosed 194 = .ok (.goto (-184), 3) := by decide +kernel
theorem dX12_triedClosed_197 : decode cX12_triedClosed 197 = .ok (.iload_n 2, 1) := by decide +kernel
theorem dX12_triedClosed_198 : decode cX12_triedClosed 198 = .ok (.ireturn, 1) := by decide +kernel
def f_X12_triedClosed_99 (N : Nat) (R : Nat → Nat → Nat) (k10 : SI → Nat → Int32 → Int32 → Int32 → Int32 → Int32 → Option (Int32 × SI)) (k25 : SI → Nat → Int32 → Int32 → Int32 → Int32 → Int32 → Int32 → Int32 → Option (Int32 × SI)) (σ : SI) (x0 : Nat) (x1 : Int32) (x2 : Int32) (x3 : Int32) (x4 : Int32) (x5 : Int32) (x6 : Int32) (x7 : Int32) : Option (Int32 × SI) := k25 σ x0 x1 x2 x3 x4 x5 x6 (x7 + 1)
def f_X12_triedClosed_95 (N : Nat) (R : Nat → Nat → Nat) (k10 : SI → Nat → Int32 → Int32 → Int32 → Int32 → Int32 → Option (Int32 × SI)) (k25 : SI → Nat → Int32 → Int32 → Int32 → Int32 → Int32 → Int32 → Int32 → Option (Int32 × SI)) (σ : SI) (x0 : Nat) (x1 : Int32) (x2 : Int32) (x3 : Int32) (x4 : Int32) (x5 : Int32) (x7 : Int32) : Option (Int32 × SI) := f_X12_triedClosed_99 N R k10 k25 σ x0 x1 x2 x3 x4 x5 x7 x7
def f_X12_triedClosed_25 (N : Nat) (R : Nat → Nat → Nat) (k10 : SI → Nat → Int32 → Int32 → Int32 → Int32 → Int32 → Option (Int32 × SI)) : Nat → SI → Nat → Int32 → Int32 → Int32 → Int32 → Int32 → Int32 → Int32 → Option (Int32 × SI)
  | 0, _, _, _, _, _, _, _, _, _ => none
  | n + 1, σ, x0, x1, x2, x3, x4, x5, x6, x7 => bd (f_X12_blasts N R σ x0) (fun a3 σ3 => if a3 ≤ x7 then (if x6 = (-1 : Int32) then (some (x2, σ3)) else (ck x6 6 (ck x6 6 (ck (6 : Int32) 417 (ck x6 6 (ck (7 : Int32) 417 (k10 σ3 x0 x1 (x2 + (if (0 : Int32) < ((if ((σ3 (R x0 20) x6.toNatClampNeg) + (σ3 (R x0 11) (7 : Int32).toNatClampNeg)) < (1440 : Int32) then ((σ3 (R x0 20) x6.toNatClampNeg) + (σ3 (R x0 11) (7 : Int32).toNatClampNeg)) else (1440 : Int32)) - (if x3 < ((σ3 (R x0 20) x6.toNatClampNeg) - (σ3 (R x0 11) (6 : Int32).toNatClampNeg)) then ((σ3 (R x0 20) x6.toNatClampNeg) - (σ3 (R x0 11) (6 : Int32).toNatClampNeg)) else x3)) then ((if ((σ3 (R x0 20) x6.toNatClampNeg) + (σ3 (R x0 11) (7 : Int32).toNatClampNeg)) < (1440 : Int32) then ((σ3 (R x0 20) x6.toNatClampNeg) + (σ3 (R x0 11) (7 : Int32).toNatClampNeg)) else (1440 : Int32)) - (if x3 < ((σ3 (R x0 20) x6.toNatClampNeg) - (σ3 (R x0 11) (6 : Int32).toNatClampNeg)) then ((σ3 (R x0 20) x6.toNatClampNeg) - (σ3 (R x0 11) (6 : Int32).toNatClampNeg)) else x3)) else (0 : Int32))) (if x3 < (if ((σ3 (R x0 20) x6.toNatClampNeg) + (σ3 (R x0 11) (7 : Int32).toNatClampNeg)) < (1440 : Int32) then ((σ3 (R x0 20) x6.toNatClampNeg) + (σ3 (R x0 11) (7 : Int32).toNatClampNeg)) else (1440 : Int32)) then (if ((σ3 (R x0 20) x6.toNatClampNeg) + (σ3 (R x0 11) (7 : Int32).toNatClampNeg)) < (1440 : Int32) then ((σ3 (R x0 20) x6.toNatClampNeg) + (σ3 (R x0 11) (7 : Int32).toNatClampNeg)) else (1440 : Int32)) else x3) (((6 : Int32) * (σ3 (R x0 20) x6.toNatClampNeg)) + x6) (x5 + 1)))))))) else (ck x7 6 (ck x7 6 (if (((σ3 (R x0 22) x7.toNatClampNeg) >>> (x1 &&& 31)) &&& (1 : Int32)) = (1 : Int32) then (if (((6 : Int32) * (σ3 (R x0 20) x7.toNatClampNeg)) + x7) ≤ x4 then (f_X12_triedClosed_99 N R k10 (fun σ x0 x1 x2 x3 x4 x5 x6 x7 => f_X12_triedClosed_25 N R k10 n σ x0 x1 x2 x3 x4 x5 x6 x7) σ3 x0 x1 x2 x3 x4 x5 x6 x7) else (if x6 = (-1 : Int32) then (f_X12_triedClosed_95 N R k10 (fun σ x0 x1 x2 x3 x4 x5 x6 x7 => f_X12_triedClosed_25 N R k10 n σ x0 x1 x2 x3 x4 x5 x6 x7) σ3 x0 x1 x2 x3 x4 x5 x7) else (ck x6 6 (if (((6 : Int32) * (σ3 (R x0 20) x6.toNatClampNeg)) + x6) ≤ (((6 : Int32) * (σ3 (R x0 20) x7.toNatClampNeg)) + x7) then (f_X12_triedClosed_99 N R k10 (fun σ x0 x1 x2 x3 x4 x5 x6 x7 => f_X12_triedClosed_25 N R k10 n σ x0 x1 x2 x3 x4 x5 x6 x7) σ3 x0 x1 x2 x3 x4 x5 x6 x7) else (f_X12_triedClosed_95 N R k10 (fun σ x0 x1 x2 x3 x4 x5 x6 x7 => f_X12_triedClosed_25 N R k10 n σ x0 x1 x2 x3 x4 x5 x6 x7) σ3 x0 x1 x2 x3 x4 x5 x7))))) else (f_X12_triedClosed_99 N R k10 (fun σ x0 x1 x2 x3 x4 x5 x6 x7 => f_X12_triedClosed_25 N R k10 n σ x0 x1 x2 x3 x4 x5 x6 x7) σ3 x0 x1 x2 x3 x4 x5 x6 x7)))))
def f_X12_triedClosed_10 (N : Nat) (R : Nat → Nat → Nat) : Nat → SI → Nat → Int32 → Int32 → Int32 → Int32 → Int32 → Option (Int32 × SI)
  | 0, _, _, _, _, _, _, _ => none
  | n + 1, σ, x0, x1, x2, x3, x4, x5 => bd (f_X12_blasts N R σ x0) (fun a1 σ1 => if a1 ≤ x5 then (some (x2, σ1)) else (f_X12_triedClosed_25 N R (fun σ x0 x1 x2 x3 x4 x5 => f_X12_triedClosed_10 N R n σ x0 x1 x2 x3 x4 x5) N σ1 x0 x1 x2 x3 x4 x5 (-1 : Int32) (0 : Int32)))
def f_X12_triedClosed (N : Nat) (R : Nat → Nat → Nat) (σ : SI) (x0 : Nat) (x1 : Int32) : Option (Int32 × SI) := f_X12_triedClosed_10 N R N σ x0 x1 (0 : Int32) (0 : Int32) (-1 : Int32) (0 : Int32)
set_option maxHeartbeats 4000000 in
set_option maxRecDepth 100000 in
theorem w_X12_triedClosed_99 {l : Launch} {g : GL} {p : Program} {e : Jvm.Env} {s : State} {m : MethodId} {args : Array Value} {below : List Frame} {meth : Method} {c : Code} {R : Nat → Nat → Nat} {L : Nat → Nat → Int64} {r : (Int32 × SI)} {N : Nat} {k10 : SI → Nat → Int32 → Int32 → Int32 → Int32 → Int32 → Option (Int32 × SI)} {k25 : SI → Nat → Int32 → Int32 → Int32 → Int32 → Int32 → Int32 → Int32 → Option (Int32 × SI)} (C : Cx l g p s m meth c cX12_triedClosed 9 RX12) (hr : meth.sig.returnType = (some .int)) (hSh : ShR R) (hk10 : ∀ (σ : SI) (x0 : Nat) (x1 : Int32) (x2 : Int32) (x3 : Int32) (x4 : Int32) (x5 : Int32), k10 σ x0 x1 x2 x3 x4 x5 = some r → Ok 194 x0 12 → ∀ (H : Heap) (locs : List Loc) (ls : Array Slot), S2 g s σ R L H locs → lv_has ls 9 [(0, .ref (gb g + x0)), (1, .int x1), (2, .int x2), (3, .int x3), (4, .int x4), (5, .int x5)] → W p l e (rmd 2 0 0) s m args below meth c H locs 0 0 (MQ below (Qg g 194 (PI R L r)) args s 0 0 (gA g)) (F0 m 10 ls [])) (hk25 : ∀ (σ : SI) (x0 : Nat) (x1 : Int32) (x2 : Int32) (x3 : Int32) (x4 : Int32) (x5 : Int32) (x6 : Int32) (x7 : Int32), k25 σ x0 x1 x2 x3 x4 x5 x6 x7 = some r → Ok 194 x0 12 → ∀ (H : Heap) (locs : List Loc) (ls : Array Slot), S2 g s σ R L H locs → lv_has ls 9 [(0, .ref (gb g + x0)), (1, .int x1), (2, .int x2), (3, .int x3), (4, .int x4), (5, .int x5), (6, .int x6), (7, .int x7)] → W p l e (rmd 2 0 0) s m args below meth c H locs 0 0 (MQ below (Qg g 194 (PI R L r)) args s 0 0 (gA g)) (F0 m 25 ls [])) : ∀ (σ : SI) (x0 : Nat) (x1 : Int32) (x2 : Int32) (x3 : Int32) (x4 : Int32) (x5 : Int32) (x6 : Int32) (x7 : Int32), f_X12_triedClosed_99 N R k10 k25 σ x0 x1 x2 x3 x4 x5 x6 x7 = some r → Ok 194 x0 12 → ∀ (H : Heap) (locs : List Loc) (ls : Array Slot), S2 g s σ R L H locs → lv_has ls 9 [(0, .ref (gb g + x0)), (1, .int x1), (2, .int x2), (3, .int x3), (4, .int x4), (5, .int x5), (6, .int x6), (7, .int x7)] → W p l e (rmd 2 0 0) s m args below meth c H locs 0 0 (MQ below (Qg g 194 (PI R L r)) args s 0 0 (gA g)) (F0 m 99 ls []) := by
  have hx := C.1
  have hb := C.2.1
  intro σ x0 x1 x2 x3 x4 x5 x6 x7 h hx0 H locs ls S hl
  rw [f_X12_triedClosed_99] at h
  refine lv_iinc (v := x7 + 1) (lv' := [(7, .int (x7 + 1)), (0, .ref (gb g + x0)), (1, .int x1), (2, .int x2), (3, .int x3), (4, .int x4), (5, .int x5), (6, .int x6)]) hx hb dX12_triedClosed_99 hl (k := 7) rfl rfl (by decide) rfl (fun ls hl => ?_)
  refine lv_goto (tgt := 25) hx hb dX12_triedClosed_102 (by decide) ?_
  exact hk25 σ x0 x1 x2 x3 x4 x5 x6 (x7 + 1) h hx0 H locs ls S (lv_sub hl [1, 2, 3, 4, 5, 6, 7, 0] rfl)
set_option maxHeartbeats 4000000 in
set_option maxRecDepth 100000 in
theorem w_X12_triedClosed_95 {l : Launch} {g : GL} {p : Program} {e : Jvm.Env} {s : State} {m : MethodId} {args : Array Value} {below : List Frame} {meth : Method} {c : Code} {R : Nat → Nat → Nat} {L : Nat → Nat → Int64} {r : (Int32 × SI)} {N : Nat} {k10 : SI → Nat → Int32 → Int32 → Int32 → Int32 → Int32 → Option (Int32 × SI)} {k25 : SI → Nat → Int32 → Int32 → Int32 → Int32 → Int32 → Int32 → Int32 → Option (Int32 × SI)} (C : Cx l g p s m meth c cX12_triedClosed 9 RX12) (hr : meth.sig.returnType = (some .int)) (hSh : ShR R) (hk10 : ∀ (σ : SI) (x0 : Nat) (x1 : Int32) (x2 : Int32) (x3 : Int32) (x4 : Int32) (x5 : Int32), k10 σ x0 x1 x2 x3 x4 x5 = some r → Ok 194 x0 12 → ∀ (H : Heap) (locs : List Loc) (ls : Array Slot), S2 g s σ R L H locs → lv_has ls 9 [(0, .ref (gb g + x0)), (1, .int x1), (2, .int x2), (3, .int x3), (4, .int x4), (5, .int x5)] → W p l e (rmd 2 0 0) s m args below meth c H locs 0 0 (MQ below (Qg g 194 (PI R L r)) args s 0 0 (gA g)) (F0 m 10 ls [])) (hk25 : ∀ (σ : SI) (x0 : Nat) (x1 : Int32) (x2 : Int32) (x3 : Int32) (x4 : Int32) (x5 : Int32) (x6 : Int32) (x7 : Int32), k25 σ x0 x1 x2 x3 x4 x5 x6 x7 = some r → Ok 194 x0 12 → ∀ (H : Heap) (locs : List Loc) (ls : Array Slot), S2 g s σ R L H locs → lv_has ls 9 [(0, .ref (gb g + x0)), (1, .int x1), (2, .int x2), (3, .int x3), (4, .int x4), (5, .int x5), (6, .int x6), (7, .int x7)] → W p l e (rmd 2 0 0) s m args below meth c H locs 0 0 (MQ below (Qg g 194 (PI R L r)) args s 0 0 (gA g)) (F0 m 25 ls [])) : ∀ (σ : SI) (x0 : Nat) (x1 : Int32) (x2 : Int32) (x3 : Int32) (x4 : Int32) (x5 : Int32) (x7 : Int32), f_X12_triedClosed_95 N R k10 k25 σ x0 x1 x2 x3 x4 x5 x7 = some r → Ok 194 x0 12 → ∀ (H : Heap) (locs : List Loc) (ls : Array Slot), S2 g s σ R L H locs → lv_has ls 9 [(0, .ref (gb g + x0)), (1, .int x1), (2, .int x2), (3, .int x3), (4, .int x4), (5, .int x5), (7, .int x7)] → W p l e (rmd 2 0 0) s m args below meth c H locs 0 0 (MQ below (Qg g 194 (PI R L r)) args s 0 0 (gA g)) (F0 m 95 ls []) := by
  have hx := C.1
  have hb := C.2.1
  intro σ x0 x1 x2 x3 x4 x5 x7 h hx0 H locs ls S hl
  rw [f_X12_triedClosed_95] at h
  refine lv_iload hx hb dX12_triedClosed_95 (lv_at hl 6 rfl) ?_
  refine lv_istore (lv' := [(6, .int x7), (0, .ref (gb g + x0)), (1, .int x1), (2, .int x2), (3, .int x3), (4, .int x4), (5, .int x5), (7, .int x7)]) hx hb dX12_triedClosed_97 hl (by decide) rfl (fun ls hl => ?_)
  exact w_X12_triedClosed_99 C hr hSh hk10 hk25 σ x0 x1 x2 x3 x4 x5 x7 x7 h hx0 H locs ls S (lv_sub hl [1, 2, 3, 4, 5, 6, 0, 7] rfl)
set_option maxHeartbeats 4000000 in
set_option maxRecDepth 100000 in
theorem w_X12_triedClosed_25 {l : Launch} {g : GL} {p : Program} {e : Jvm.Env} {s : State} {m : MethodId} {args : Array Value} {below : List Frame} {meth : Method} {c : Code} {R : Nat → Nat → Nat} {L : Nat → Nat → Int64} {r : (Int32 × SI)} {N : Nat} {k10 : SI → Nat → Int32 → Int32 → Int32 → Int32 → Int32 → Option (Int32 × SI)} (C : Cx l g p s m meth c cX12_triedClosed 9 RX12) (hr : meth.sig.returnType = (some .int)) (hSh : ShR R) (hk10 : ∀ (σ : SI) (x0 : Nat) (x1 : Int32) (x2 : Int32) (x3 : Int32) (x4 : Int32) (x5 : Int32), k10 σ x0 x1 x2 x3 x4 x5 = some r → Ok 194 x0 12 → ∀ (H : Heap) (locs : List Loc) (ls : Array Slot), S2 g s σ R L H locs → lv_has ls 9 [(0, .ref (gb g + x0)), (1, .int x1), (2, .int x2), (3, .int x3), (4, .int x4), (5, .int x5)] → W p l e (rmd 2 0 0) s m args below meth c H locs 0 0 (MQ below (Qg g 194 (PI R L r)) args s 0 0 (gA g)) (F0 m 10 ls [])) : ∀ (n : Nat) (σ : SI) (x0 : Nat) (x1 : Int32) (x2 : Int32) (x3 : Int32) (x4 : Int32) (x5 : Int32) (x6 : Int32) (x7 : Int32), f_X12_triedClosed_25 N R k10 n σ x0 x1 x2 x3 x4 x5 x6 x7 = some r → Ok 194 x0 12 → ∀ (H : Heap) (locs : List Loc) (ls : Array Slot), S2 g s σ R L H locs → lv_has ls 9 [(0, .ref (gb g + x0)), (1, .int x1), (2, .int x2), (3, .int x3), (4, .int x4), (5, .int x5), (6, .int x6), (7, .int x7)] → W p l e (rmd 2 0 0) s m args below meth c H locs 0 0 (MQ below (Qg g 194 (PI R L r)) args s 0 0 (gA g)) (F0 m 25 ls []) := by
  have hx := C.1
  have hb := C.2.1
  intro n
  induction n with
  | zero =>
    intro σ x0 x1 x2 x3 x4 x5 x6 x7 h
    cases (show (none : Option (Int32 × SI)) = some r from h)
  | succ n ih =>
    intro σ x0 x1 x2 x3 x4 x5 x6 x7 h hx0 H locs ls S hl
    rw [f_X12_triedClosed_25] at h
    refine lv_iload hx hb dX12_triedClosed_25 (lv_at hl 7 rfl) ?_
    refine lv_aload_n hx hb dX12_triedClosed_27 rfl (lv_at hl 0 rfl) ?_
    obtain ⟨a3, σ3, hc3, h⟩ := bd_el h
    refine x_callVI C S KX12 hx0 (ok_X12_blasts (L := L) hc3 hSh hx0) ⟨cd_X12_blasts, ni_RX12, ml_RX12_142, in_X12_blasts, sl_X12_blasts⟩ ⟨by decide, by decide⟩ rfl ⟨by decide, by decide⟩ hl.1 rfl (Nat.le_of_ble_eq_true rfl) ⟨by decide, by decide⟩ dX12_triedClosed_28 (fun H locs S => ?_)
    refine lv_icmp_ge (tgt := 105) hx hb dX12_triedClosed_31 (by decide) (fun c4 => ?_) (fun c4 => ?_)
    · have h := it_p c4 h
      refine lv_iload hx hb dX12_triedClosed_105 (lv_at hl 6 rfl) ?_
      refine lv_iconst (v := (-1 : Int32)) hx hb dX12_triedClosed_107 (by decide) ?_
      refine lv_icmp_ne (tgt := 113) hx hb dX12_triedClosed_108 (by decide) (fun c5 => ?_) (fun c5 => ?_)
      · have h := it_n c5 h
        refine lv_bipush (v := (6 : Int32)) hx hb dX12_triedClosed_113 (by decide) ?_
        refine lv_aload_n hx hb dX12_triedClosed_115 rfl (lv_at hl 0 rfl) ?_
        have hR6 : Ok 194 (R x0 20) 10006 := hSh x0 12 20 10006 hx0.1 rfl
        refine x_getR C S KX12 hx0 20 (by decide) rfl rfl fl_RX12_113 hR6 dX12_triedClosed_116 ?_
        refine lv_iload hx hb dX12_triedClosed_119 (lv_at hl 6 rfl) ?_
        obtain ⟨hi7, h⟩ := ck_el h
        refine x_iald (len := 6) C S (by decide) hR6 hi7 dX12_triedClosed_121 ?_
        refine lv_imul hx hb dX12_triedClosed_122 ?_
        refine lv_iload hx hb dX12_triedClosed_123 (lv_at hl 6 rfl) ?_
        refine lv_iadd hx hb dX12_triedClosed_125 ?_
        refine lv_istore (lv' := [(4, .int (((6 : Int32) * (σ3 (R x0 20) x6.toNatClampNeg)) + x6)), (0, .ref (gb g + x0)), (1, .int x1), (2, .int x2), (3, .int x3), (5, .int x5), (6, .int x6), (7, .int x7)]) hx hb dX12_triedClosed_126 hl (by decide) rfl (fun ls hl => ?_)
        refine lv_iload_n hx hb dX12_triedClosed_128 rfl (lv_at hl 4 rfl) ?_
        refine lv_aload_n hx hb dX12_triedClosed_129 rfl (lv_at hl 1 rfl) ?_
        have hR8 : Ok 194 (R x0 20) 10006 := hSh x0 12 20 10006 hx0.1 rfl
        refine x_getR C S KX12 hx0 20 (by decide) rfl rfl fl_RX12_113 hR8 dX12_triedClosed_130 ?_
        refine lv_iload hx hb dX12_triedClosed_133 (lv_at hl 6 rfl) ?_
        obtain ⟨hi9, h⟩ := ck_el h
        refine x_iald (len := 6) C S (by decide) hR8 hi9 dX12_triedClosed_135 ?_
        refine lv_aload_n hx hb dX12_triedClosed_136 rfl (lv_at hl 1 rfl) ?_
        have hR10 : Ok 194 (R x0 11) 10417 := hSh x0 12 11 10417 hx0.1 rfl
        refine x_getR C S KX12 hx0 11 (by decide) rfl rfl fl_RX12_88 hR10 dX12_triedClosed_137 ?_
        refine lv_bipush (v := (6 : Int32)) hx hb dX12_triedClosed_140 (by decide) ?_
        obtain ⟨hi11, h⟩ := ck_el h
        refine x_iald (len := 417) C S (by decide) hR10 hi11 dX12_triedClosed_142 ?_
        refine lv_isub hx hb dX12_triedClosed_143 ?_
        refine x_max C hl.1 ⟨ml_RX12_220, st_math_max, ni_math, cd_math_max⟩ (Nat.le_of_ble_eq_true rfl) (Nat.le_of_ble_eq_true rfl) (Nat.le_of_ble_eq_true rfl) (Nat.le_of_ble_eq_true rfl) dX12_triedClosed_144 ?_
        refine lv_istore (lv' := [(7, .int (if x3 < ((σ3 (R x0 20) x6.toNatClampNeg) - (σ3 (R x0 11) (6 : Int32).toNatClampNeg)) then ((σ3 (R x0 20) x6.toNatClampNeg) - (σ3 (R x0 11) (6 : Int32).toNatClampNeg)) else x3)), (4, .int (((6 : Int32) * (σ3 (R x0 20) x6.toNatClampNeg)) + x6)), (0, .ref (gb g + x0)), (1, .int x1), (2, .int x2), (3, .int x3), (5, .int x5), (6, .int x6)]) hx hb dX12_triedClosed_147 hl (by decide) rfl (fun ls hl => ?_)
        refine lv_sipush (v := (1440 : Int32)) hx hb dX12_triedClosed_149 (by decide) ?_
        refine lv_aload_n hx hb dX12_triedClosed_152 rfl (lv_at hl 2 rfl) ?_
        have hR12 : Ok 194 (R x0 20) 10006 := hSh x0 12 20 10006 hx0.1 rfl
        refine x_getR C S KX12 hx0 20 (by decide) rfl rfl fl_RX12_113 hR12 dX12_triedClosed_153 ?_
        refine lv_iload hx hb dX12_triedClosed_156 (lv_at hl 7 rfl) ?_
        obtain ⟨hi13, h⟩ := ck_el h
        refine x_iald (len := 6) C S (by decide) hR12 hi13 dX12_triedClosed_158 ?_
        refine lv_aload_n hx hb dX12_triedClosed_159 rfl (lv_at hl 2 rfl) ?_
        have hR14 : Ok 194 (R x0 11) 10417 := hSh x0 12 11 10417 hx0.1 rfl
        refine x_getR C S KX12 hx0 11 (by decide) rfl rfl fl_RX12_88 hR14 dX12_triedClosed_160 ?_
        refine lv_bipush (v := (7 : Int32)) hx hb dX12_triedClosed_163 (by decide) ?_
        obtain ⟨hi15, h⟩ := ck_el h
        refine x_iald (len := 417) C S (by decide) hR14 hi15 dX12_triedClosed_165 ?_
        refine lv_iadd hx hb dX12_triedClosed_166 ?_
        refine x_min C hl.1 ⟨ml_RX12_215, st_math_min, ni_math, cd_math_min⟩ (Nat.le_of_ble_eq_true rfl) (Nat.le_of_ble_eq_true rfl) (Nat.le_of_ble_eq_true rfl) (Nat.le_of_ble_eq_true rfl) dX12_triedClosed_167 ?_
        refine lv_istore (lv' := [(8, .int (if ((σ3 (R x0 20) x6.toNatClampNeg) + (σ3 (R x0 11) (7 : Int32).toNatClampNeg)) < (1440 : Int32) then ((σ3 (R x0 20) x6.toNatClampNeg) + (σ3 (R x0 11) (7 : Int32).toNatClampNeg)) else (1440 : Int32))), (7, .int (if x3 < ((σ3 (R x0 20) x6.toNatClampNeg) - (σ3 (R x0 11) (6 : Int32).toNatClampNeg)) then ((σ3 (R x0 20) x6.toNatClampNeg) - (σ3 (R x0 11) (6 : Int32).toNatClampNeg)) else x3)), (4, .int (((6 : Int32) * (σ3 (R x0 20) x6.toNatClampNeg)) + x6)), (0, .ref (gb g + x0)), (1, .int x1), (2, .int x2), (3, .int x3), (5, .int x5), (6, .int x6)]) hx hb dX12_triedClosed_170 hl (by decide) rfl (fun ls hl => ?_)
        refine lv_iload_n hx hb dX12_triedClosed_172 rfl (lv_at hl 5 rfl) ?_
        refine lv_iconst (v := (0 : Int32)) hx hb dX12_triedClosed_173 (by decide) ?_
        refine lv_iload hx hb dX12_triedClosed_174 (lv_at hl 0 rfl) ?_
        refine lv_iload hx hb dX12_triedClosed_176 (lv_at hl 1 rfl) ?_
        refine lv_isub hx hb dX12_triedClosed_178 ?_
        refine x_max C hl.1 ⟨ml_RX12_220, st_math_max, ni_math, cd_math_max⟩ (Nat.le_of_ble_eq_true rfl) (Nat.le_of_ble_eq_true rfl) (Nat.le_of_ble_eq_true rfl) (Nat.le_of_ble_eq_true rfl) dX12_triedClosed_179 ?_
        refine lv_iadd hx hb dX12_triedClosed_182 ?_
        refine lv_istore_n (lv' := [(2, .int (x2 + (if (0 : Int32) < ((if ((σ3 (R x0 20) x6.toNatClampNeg) + (σ3 (R x0 11) (7 : Int32).toNatClampNeg)) < (1440 : Int32) then ((σ3 (R x0 20) x6.toNatClampNeg) + (σ3 (R x0 11) (7 : Int32).toNatClampNeg)) else (1440 : Int32)) - (if x3 < ((σ3 (R x0 20) x6.toNatClampNeg) - (σ3 (R x0 11) (6 : Int32).toNatClampNeg)) then ((σ3 (R x0 20) x6.toNatClampNeg) - (σ3 (R x0 11) (6 : Int32).toNatClampNeg)) else x3)) then ((if ((σ3 (R x0 20) x6.toNatClampNeg) + (σ3 (R x0 11) (7 : Int32).toNatClampNeg)) < (1440 : Int32) then ((σ3 (R x0 20) x6.toNatClampNeg) + (σ3 (R x0 11) (7 : Int32).toNatClampNeg)) else (1440 : Int32)) - (if x3 < ((σ3 (R x0 20) x6.toNatClampNeg) - (σ3 (R x0 11) (6 : Int32).toNatClampNeg)) then ((σ3 (R x0 20) x6.toNatClampNeg) - (σ3 (R x0 11) (6 : Int32).toNatClampNeg)) else x3)) else (0 : Int32)))), (8, .int (if ((σ3 (R x0 20) x6.toNatClampNeg) + (σ3 (R x0 11) (7 : Int32).toNatClampNeg)) < (1440 : Int32) then ((σ3 (R x0 20) x6.toNatClampNeg) + (σ3 (R x0 11) (7 : Int32).toNatClampNeg)) else (1440 : Int32))), (7, .int (if x3 < ((σ3 (R x0 20) x6.toNatClampNeg) - (σ3 (R x0 11) (6 : Int32).toNatClampNeg)) then ((σ3 (R x0 20) x6.toNatClampNeg) - (σ3 (R x0 11) (6 : Int32).toNatClampNeg)) else x3)), (4, .int (((6 : Int32) * (σ3 (R x0 20) x6.toNatClampNeg)) + x6)), (0, .ref (gb g + x0)), (1, .int x1), (3, .int x3), (5, .int x5), (6, .int x6)]) hx hb dX12_triedClosed_183 rfl hl (by decide) rfl (fun ls hl => ?_)
        refine lv_iload_n hx hb dX12_triedClosed_184 rfl (lv_at hl 6 rfl) ?_
        refine lv_iload hx hb dX12_triedClosed_185 (lv_at hl 1 rfl) ?_
        refine x_max C hl.1 ⟨ml_RX12_220, st_math_max, ni_math, cd_math_max⟩ (Nat.le_of_ble_eq_true rfl) (Nat.le_of_ble_eq_true rfl) (Nat.le_of_ble_eq_true rfl) (Nat.le_of_ble_eq_true rfl) dX12_triedClosed_187 ?_
        refine lv_istore_n (lv' := [(3, .int (if x3 < (if ((σ3 (R x0 20) x6.toNatClampNeg) + (σ3 (R x0 11) (7 : Int32).toNatClampNeg)) < (1440 : Int32) then ((σ3 (R x0 20) x6.toNatClampNeg) + (σ3 (R x0 11) (7 : Int32).toNatClampNeg)) else (1440 : Int32)) then (if ((σ3 (R x0 20) x6.toNatClampNeg) + (σ3 (R x0 11) (7 : Int32).toNatClampNeg)) < (1440 : Int32) then ((σ3 (R x0 20) x6.toNatClampNeg) + (σ3 (R x0 11) (7 : Int32).toNatClampNeg)) else (1440 : Int32)) else x3)), (2, .int (x2 + (if (0 : Int32) < ((if ((σ3 (R x0 20) x6.toNatClampNeg) + (σ3 (R x0 11) (7 : Int32).toNatClampNeg)) < (1440 : Int32) then ((σ3 (R x0 20) x6.toNatClampNeg) + (σ3 (R x0 11) (7 : Int32).toNatClampNeg)) else (1440 : Int32)) - (if x3 < ((σ3 (R x0 20) x6.toNatClampNeg) - (σ3 (R x0 11) (6 : Int32).toNatClampNeg)) then ((σ3 (R x0 20) x6.toNatClampNeg) - (σ3 (R x0 11) (6 : Int32).toNatClampNeg)) else x3)) then ((if ((σ3 (R x0 20) x6.toNatClampNeg) + (σ3 (R x0 11) (7 : Int32).toNatClampNeg)) < (1440 : Int32) then ((σ3 (R x0 20) x6.toNatClampNeg) + (σ3 (R x0 11) (7 : Int32).toNatClampNeg)) else (1440 : Int32)) - (if x3 < ((σ3 (R x0 20) x6.toNatClampNeg) - (σ3 (R x0 11) (6 : Int32).toNatClampNeg)) then ((σ3 (R x0 20) x6.toNatClampNeg) - (σ3 (R x0 11) (6 : Int32).toNatClampNeg)) else x3)) else (0 : Int32)))), (8, .int (if ((σ3 (R x0 20) x6.toNatClampNeg) + (σ3 (R x0 11) (7 : Int32).toNatClampNeg)) < (1440 : Int32) then ((σ3 (R x0 20) x6.toNatClampNeg) + (σ3 (R x0 11) (7 : Int32).toNatClampNeg)) else (1440 : Int32))), (7, .int (if x3 < ((σ3 (R x0 20) x6.toNatClampNeg) - (σ3 (R x0 11) (6 : Int32).toNatClampNeg)) then ((σ3 (R x0 20) x6.toNatClampNeg) - (σ3 (R x0 11) (6 : Int32).toNatClampNeg)) else x3)), (4, .int (((6 : Int32) * (σ3 (R x0 20) x6.toNatClampNeg)) + x6)), (0, .ref (gb g + x0)), (1, .int x1), (5, .int x5), (6, .int x6)]) hx hb dX12_triedClosed_190 rfl hl (by decide) rfl (fun ls hl => ?_)
        refine lv_iinc (v := x5 + 1) (lv' := [(5, .int (x5 + 1)), (3, .int (if x3 < (if ((σ3 (R x0 20) x6.toNatClampNeg) + (σ3 (R x0 11) (7 : Int32).toNatClampNeg)) < (1440 : Int32) then ((σ3 (R x0 20) x6.toNatClampNeg) + (σ3 (R x0 11) (7 : Int32).toNatClampNeg)) else (1440 : Int32)) then (if ((σ3 (R x0 20) x6.toNatClampNeg) + (σ3 (R x0 11) (7 : Int32).toNatClampNeg)) < (1440 : Int32) then ((σ3 (R x0 20) x6.toNatClampNeg) + (σ3 (R x0 11) (7 : Int32).toNatClampNeg)) else (1440 : Int32)) else x3)), (2, .int (x2 + (if (0 : Int32) < ((if ((σ3 (R x0 20) x6.toNatClampNeg) + (σ3 (R x0 11) (7 : Int32).toNatClampNeg)) < (1440 : Int32) then ((σ3 (R x0 20) x6.toNatClampNeg) + (σ3 (R x0 11) (7 : Int32).toNatClampNeg)) else (1440 : Int32)) - (if x3 < ((σ3 (R x0 20) x6.toNatClampNeg) - (σ3 (R x0 11) (6 : Int32).toNatClampNeg)) then ((σ3 (R x0 20) x6.toNatClampNeg) - (σ3 (R x0 11) (6 : Int32).toNatClampNeg)) else x3)) then ((if ((σ3 (R x0 20) x6.toNatClampNeg) + (σ3 (R x0 11) (7 : Int32).toNatClampNeg)) < (1440 : Int32) then ((σ3 (R x0 20) x6.toNatClampNeg) + (σ3 (R x0 11) (7 : Int32).toNatClampNeg)) else (1440 : Int32)) - (if x3 < ((σ3 (R x0 20) x6.toNatClampNeg) - (σ3 (R x0 11) (6 : Int32).toNatClampNeg)) then ((σ3 (R x0 20) x6.toNatClampNeg) - (σ3 (R x0 11) (6 : Int32).toNatClampNeg)) else x3)) else (0 : Int32)))), (8, .int (if ((σ3 (R x0 20) x6.toNatClampNeg) + (σ3 (R x0 11) (7 : Int32).toNatClampNeg)) < (1440 : Int32) then ((σ3 (R x0 20) x6.toNatClampNeg) + (σ3 (R x0 11) (7 : Int32).toNatClampNeg)) else (1440 : Int32))), (7, .int (if x3 < ((σ3 (R x0 20) x6.toNatClampNeg) - (σ3 (R x0 11) (6 : Int32).toNatClampNeg)) then ((σ3 (R x0 20) x6.toNatClampNeg) - (σ3 (R x0 11) (6 : Int32).toNatClampNeg)) else x3)), (4, .int (((6 : Int32) * (σ3 (R x0 20) x6.toNatClampNeg)) + x6)), (0, .ref (gb g + x0)), (1, .int x1), (6, .int x6)]) hx hb dX12_triedClosed_191 hl (k := 7) rfl rfl (by decide) rfl (fun ls hl => ?_)
        refine lv_goto (tgt := 10) hx hb dX12_triedClosed_194 (by decide) ?_
        exact hk10 σ3 x0 x1 (x2 + (if (0 : Int32) < ((if ((σ3 (R x0 20) x6.toNatClampNeg) + (σ3 (R x0 11) (7 : Int32).toNatClampNeg)) < (1440 : Int32) then ((σ3 (R x0 20) x6.toNatClampNeg) + (σ3 (R x0 11) (7 : Int32).toNatClampNeg)) else (1440 : Int32)) - (if x3 < ((σ3 (R x0 20) x6.toNatClampNeg) - (σ3 (R x0 11) (6 : Int32).toNatClampNeg)) then ((σ3 (R x0 20) x6.toNatClampNeg) - (σ3 (R x0 11) (6 : Int32).toNatClampNeg)) else x3)) then ((if ((σ3 (R x0 20) x6.toNatClampNeg) + (σ3 (R x0 11) (7 : Int32).toNatClampNeg)) < (1440 : Int32) then ((σ3 (R x0 20) x6.toNatClampNeg) + (σ3 (R x0 11) (7 : Int32).toNatClampNeg)) else (1440 : Int32)) - (if x3 < ((σ3 (R x0 20) x6.toNatClampNeg) - (σ3 (R x0 11) (6 : Int32).toNatClampNeg)) then ((σ3 (R x0 20) x6.toNatClampNeg) - (σ3 (R x0 11) (6 : Int32).toNatClampNeg)) else x3)) else (0 : Int32))) (if x3 < (if ((σ3 (R x0 20) x6.toNatClampNeg) + (σ3 (R x0 11) (7 : Int32).toNatClampNeg)) < (1440 : Int32) then ((σ3 (R x0 20) x6.toNatClampNeg) + (σ3 (R x0 11) (7 : Int32).toNatClampNeg)) else (1440 : Int32)) then (if ((σ3 (R x0 20) x6.toNatClampNeg) + (σ3 (R x0 11) (7 : Int32).toNatClampNeg)) < (1440 : Int32) then ((σ3 (R x0 20) x6.toNatClampNeg) + (σ3 (R x0 11) (7 : Int32).toNatClampNeg)) else (1440 : Int32)) else x3) (((6 : Int32) * (σ3 (R x0 20) x6.toNatClampNeg)) + x6) (x5 + 1) h hx0 H locs ls S (lv_sub hl [6, 7, 2, 1, 5, 0] rfl)
      · have h := it_p c5 h
        refine lv_iload_n hx hb dX12_triedClosed_111 rfl (lv_at hl 2 rfl) ?_
        exact x_iret C S hr h dX12_triedClosed_112
    · have h := it_n c4 h
      refine lv_bipush (v := (6 : Int32)) hx hb dX12_triedClosed_34 (by decide) ?_
      refine lv_aload_n hx hb dX12_triedClosed_36 rfl (lv_at hl 0 rfl) ?_
      have hR16 : Ok 194 (R x0 20) 10006 := hSh x0 12 20 10006 hx0.1 rfl
      refine x_getR C S KX12 hx0 20 (by decide) rfl rfl fl_RX12_113 hR16 dX12_triedClosed_37 ?_
      refine lv_iload hx hb dX12_triedClosed_40 (lv_at hl 7 rfl) ?_
      obtain ⟨hi17, h⟩ := ck_el h
      refine x_iald (len := 6) C S (by decide) hR16 hi17 dX12_triedClosed_42 ?_
      refine lv_imul hx hb dX12_triedClosed_43 ?_
      refine lv_iload hx hb dX12_triedClosed_44 (lv_at hl 7 rfl) ?_
      refine lv_iadd hx hb dX12_triedClosed_46 ?_
      refine lv_istore (lv' := [(8, .int (((6 : Int32) * (σ3 (R x0 20) x7.toNatClampNeg)) + x7)), (0, .ref (gb g + x0)), (1, .int x1), (2, .int x2), (3, .int x3), (4, .int x4), (5, .int x5), (6, .int x6), (7, .int x7)]) hx hb dX12_triedClosed_47 hl (by decide) rfl (fun ls hl => ?_)
      refine lv_aload_n hx hb dX12_triedClosed_49 rfl (lv_at hl 1 rfl) ?_
      have hR18 : Ok 194 (R x0 22) 10006 := hSh x0 12 22 10006 hx0.1 rfl
      refine x_getR C S KX12 hx0 22 (by decide) rfl rfl fl_RX12_119 hR18 dX12_triedClosed_50 ?_
      refine lv_iload hx hb dX12_triedClosed_53 (lv_at hl 8 rfl) ?_
      obtain ⟨hi19, h⟩ := ck_el h
      refine x_iald (len := 6) C S (by decide) hR18 hi19 dX12_triedClosed_55 ?_
      refine lv_iload_n hx hb dX12_triedClosed_56 rfl (lv_at hl 2 rfl) ?_
      refine lv_ishr hx hb dX12_triedClosed_57 ?_
      refine lv_iconst (v := (1 : Int32)) hx hb dX12_triedClosed_58 (by decide) ?_
      refine lv_iand hx hb dX12_triedClosed_59 ?_
      refine lv_iconst (v := (1 : Int32)) hx hb dX12_triedClosed_60 (by decide) ?_
      refine lv_icmp_ne (tgt := 99) hx hb dX12_triedClosed_61 (by decide) (fun c20 => ?_) (fun c20 => ?_)
      · have h := it_n c20 h
        exact w_X12_triedClosed_99 C hr hSh hk10 ih σ3 x0 x1 x2 x3 x4 x5 x6 x7 h hx0 H locs ls S (lv_sub hl [1, 2, 3, 4, 5, 6, 7, 8] rfl)
      · have h := it_p c20 h
        refine lv_iload hx hb dX12_triedClosed_64 (lv_at hl 0 rfl) ?_
        refine lv_iload hx hb dX12_triedClosed_66 (lv_at hl 5 rfl) ?_
        refine lv_icmp_le (tgt := 99) hx hb dX12_triedClosed_68 (by decide) (fun c21 => ?_) (fun c21 => ?_)
        · have h := it_p c21 h
          exact w_X12_triedClosed_99 C hr hSh hk10 ih σ3 x0 x1 x2 x3 x4 x5 x6 x7 h hx0 H locs ls S (lv_sub hl [1, 2, 3, 4, 5, 6, 7, 8] rfl)
        · have h := it_n c21 h
          refine lv_iload hx hb dX12_triedClosed_71 (lv_at hl 7 rfl) ?_
          refine lv_iconst (v := (-1 : Int32)) hx hb dX12_triedClosed_73 (by decide) ?_
          refine lv_icmp_eq (tgt := 95) hx hb dX12_triedClosed_74 (by decide) (fun c22 => ?_) (fun c22 => ?_)
          · have h := it_p c22 h
            exact w_X12_triedClosed_95 C hr hSh hk10 ih σ3 x0 x1 x2 x3 x4 x5 x7 h hx0 H locs ls S (lv_sub hl [1, 2, 3, 4, 5, 6, 8] rfl)
          · have h := it_n c22 h
            refine lv_iload hx hb dX12_triedClosed_77 (lv_at hl 0 rfl) ?_
            refine lv_bipush (v := (6 : Int32)) hx hb dX12_triedClosed_79 (by decide) ?_
            refine lv_aload_n hx hb dX12_triedClosed_81 rfl (lv_at hl 1 rfl) ?_
            have hR23 : Ok 194 (R x0 20) 10006 := hSh x0 12 20 10006 hx0.1 rfl
            refine x_getR C S KX12 hx0 20 (by decide) rfl rfl fl_RX12_113 hR23 dX12_triedClosed_82 ?_
            refine lv_iload hx hb dX12_triedClosed_85 (lv_at hl 7 rfl) ?_
            obtain ⟨hi24, h⟩ := ck_el h
            refine x_iald (len := 6) C S (by decide) hR23 hi24 dX12_triedClosed_87 ?_
            refine lv_imul hx hb dX12_triedClosed_88 ?_
            refine lv_iload hx hb dX12_triedClosed_89 (lv_at hl 7 rfl) ?_
            refine lv_iadd hx hb dX12_triedClosed_91 ?_
            refine lv_icmp_ge (tgt := 99) hx hb dX12_triedClosed_92 (by decide) (fun c25 => ?_) (fun c25 => ?_)
            · have h := it_p c25 h
              exact w_X12_triedClosed_99 C hr hSh hk10 ih σ3 x0 x1 x2 x3 x4 x5 x6 x7 h hx0 H locs ls S (lv_sub hl [1, 2, 3, 4, 5, 6, 7, 8] rfl)
            · have h := it_n c25 h
              exact w_X12_triedClosed_95 C hr hSh hk10 ih σ3 x0 x1 x2 x3 x4 x5 x7 h hx0 H locs ls S (lv_sub hl [1, 2, 3, 4, 5, 6, 8] rfl)
set_option maxHeartbeats 4000000 in
set_option maxRecDepth 100000 in
theorem w_X12_triedClosed_10 {l : Launch} {g : GL} {p : Program} {e : Jvm.Env} {s : State} {m : MethodId} {args : Array Value} {below : List Frame} {meth : Method} {c : Code} {R : Nat → Nat → Nat} {L : Nat → Nat → Int64} {r : (Int32 × SI)} {N : Nat} (C : Cx l g p s m meth c cX12_triedClosed 9 RX12) (hr : meth.sig.returnType = (some .int)) (hSh : ShR R) : ∀ (n : Nat) (σ : SI) (x0 : Nat) (x1 : Int32) (x2 : Int32) (x3 : Int32) (x4 : Int32) (x5 : Int32), f_X12_triedClosed_10 N R n σ x0 x1 x2 x3 x4 x5 = some r → Ok 194 x0 12 → ∀ (H : Heap) (locs : List Loc) (ls : Array Slot), S2 g s σ R L H locs → lv_has ls 9 [(0, .ref (gb g + x0)), (1, .int x1), (2, .int x2), (3, .int x3), (4, .int x4), (5, .int x5)] → W p l e (rmd 2 0 0) s m args below meth c H locs 0 0 (MQ below (Qg g 194 (PI R L r)) args s 0 0 (gA g)) (F0 m 10 ls []) := by
  have hx := C.1
  have hb := C.2.1
  intro n
  induction n with
  | zero =>
    intro σ x0 x1 x2 x3 x4 x5 h
    cases (show (none : Option (Int32 × SI)) = some r from h)
  | succ n ih =>
    intro σ x0 x1 x2 x3 x4 x5 h hx0 H locs ls S hl
    rw [f_X12_triedClosed_10] at h
    refine lv_iload hx hb dX12_triedClosed_10 (lv_at hl 5 rfl) ?_
    refine lv_aload_n hx hb dX12_triedClosed_12 rfl (lv_at hl 0 rfl) ?_
    obtain ⟨a1, σ1, hc1, h⟩ := bd_el h
    refine x_callVI C S KX12 hx0 (ok_X12_blasts (L := L) hc1 hSh hx0) ⟨cd_X12_blasts, ni_RX12, ml_RX12_142, in_X12_blasts, sl_X12_blasts⟩ ⟨by decide, by decide⟩ rfl ⟨by decide, by decide⟩ hl.1 rfl (Nat.le_of_ble_eq_true rfl) ⟨by decide, by decide⟩ dX12_triedClosed_13 (fun H locs S => ?_)
    refine lv_icmp_ge (tgt := 197) hx hb dX12_triedClosed_16 (by decide) (fun c2 => ?_) (fun c2 => ?_)
    · have h := it_p c2 h
      refine lv_iload_n hx hb dX12_triedClosed_197 rfl (lv_at hl 2 rfl) ?_
      exact x_iret C S hr h dX12_triedClosed_198
    · have h := it_n c2 h
      refine lv_iconst (v := (-1 : Int32)) hx hb dX12_triedClosed_19 (by decide) ?_
      refine lv_istore (lv' := [(6, .int (-1 : Int32)), (0, .ref (gb g + x0)), (1, .int x1), (2, .int x2), (3, .int x3), (4, .int x4), (5, .int x5)]) hx hb dX12_triedClosed_20 hl (by decide) rfl (fun ls hl => ?_)
      refine lv_iconst (v := (0 : Int32)) hx hb dX12_triedClosed_22 (by decide) ?_
      refine lv_istore (lv' := [(7, .int (0 : Int32)), (6, .int (-1 : Int32)), (0, .ref (gb g + x0)), (1, .int x1), (2, .int x2), (3, .int x3), (4, .int x4), (5, .int x5)]) hx hb dX12_triedClosed_23 hl (by decide) rfl (fun ls hl => ?_)
      exact w_X12_triedClosed_25 C hr hSh ih N σ1 x0 x1 x2 x3 x4 x5 (-1 : Int32) (0 : Int32) h hx0 H locs ls S (lv_sub hl [2, 3, 4, 5, 6, 7, 1, 0] rfl)
set_option maxHeartbeats 4000000 in
set_option maxRecDepth 100000 in
theorem ok_X12_triedClosed {l : Launch} {g : GL} {R : Nat → Nat → Nat} {L : Nat → Nat → Int64} {N : Nat} {σ : SI} {x0 : Nat} {x1 : Int32} {r : (Int32 × SI)} (h : f_X12_triedClosed N R σ x0 x1 = some r) (hSh : ShR R) (hx0 : Ok 194 x0 12) : Ct l g 2 yX12_triedClosed cX12_triedClosed 9 (some .int) 194 194 0 0 [.ref (gb g + x0), .int x1] (mkS σ R L) (PI R L r) := by
  refine Met.ofW (cc := cX12_triedClosed) (maxL := 9) (ret := (some .int)) (by decide) rfl ?_
  intro p e s m args below meth c s₁ B hml hv
  obtain ⟨rfl, hE, hLo, hWd⟩ := hv
  have hr : meth.sig.returnType = (some .int) := B.returns
  have C : Cx l g p s m meth c cX12_triedClosed 9 RX12 := ⟨B.exec, B.bytes, hml, findClass_of_methodNamed B.named, hE, hLo, B.notSynchronized⟩
  have S : S2 g s σ R L s.heap [] := ⟨hWd, va_S.rf⟩
  have hx := C.1
  have hb := C.2.1
  have hl := lv_entry ([.ref (gb g + x0), .int x1]) (n := 9) (Nat.le_of_ble_eq_true rfl)
  rw [lg_entry_eq]
  generalize (lg_sl ([.ref (gb g + x0), .int x1]) ++ List.replicate (9 - (lg_sl ([.ref (gb g + x0), .int x1])).length) Slot.unset).toArray = ls at hl ⊢
  have hl : lv_has ls 9 [(0, .ref (gb g + x0)), (1, .int x1)] := hl
  generalize hH : s.heap = H at S ⊢
  generalize hlc : ([] : List Loc) = locs at S ⊢
  rw [f_X12_triedClosed] at h
  refine lv_iconst (v := (0 : Int32)) hx hb dX12_triedClosed_0 (by decide) ?_
  refine lv_istore_n (lv' := [(2, .int (0 : Int32)), (0, .ref (gb g + x0)), (1, .int x1)]) hx hb dX12_triedClosed_1 rfl hl (by decide) rfl (fun ls hl => ?_)
  refine lv_iconst (v := (0 : Int32)) hx hb dX12_triedClosed_2 (by decide) ?_
  refine lv_istore_n (lv' := [(3, .int (0 : Int32)), (2, .int (0 : Int32)), (0, .ref (gb g + x0)), (1, .int x1)]) hx hb dX12_triedClosed_3 rfl hl (by decide) rfl (fun ls hl => ?_)
  refine lv_iconst (v := (-1 : Int32)) hx hb dX12_triedClosed_4 (by decide) ?_
  refine lv_istore (lv' := [(4, .int (-1 : Int32)), (3, .int (0 : Int32)), (2, .int (0 : Int32)), (0, .ref (gb g + x0)), (1, .int x1)]) hx hb dX12_triedClosed_5 hl (by decide) rfl (fun ls hl => ?_)
  refine lv_iconst (v := (0 : Int32)) hx hb dX12_triedClosed_7 (by decide) ?_
  refine lv_istore (lv' := [(5, .int (0 : Int32)), (4, .int (-1 : Int32)), (3, .int (0 : Int32)), (2, .int (0 : Int32)), (0, .ref (gb g + x0)), (1, .int x1)]) hx hb dX12_triedClosed_8 hl (by decide) rfl (fun ls hl => ?_)
  exact w_X12_triedClosed_10 C hr hSh N σ x0 x1 (0 : Int32) (0 : Int32) (-1 : Int32) (0 : Int32) h hx0 H locs ls S (lv_sub hl [4, 5, 3, 2, 1, 0] rfl)
theorem dX12_isTooClose_0 : decode cX12_isTooClose 0 = .ok (.iconst 0, 1) := by decide +kernel
theorem dX12_isTooClose_1 : decode cX12_isTooClose 1 = .ok (.istore_n 3, 1) := by decide +kernel
theorem dX12_isTooClose_2 : decode cX12_isTooClose 2 = .ok (.iload_n 3, 1) := by decide +kernel
theorem dX12_isTooClose_3 : decode cX12_isTooClose 3 = .ok (.iload_n 1, 1) := by decide +kernel
theorem dX12_isTooClose_4 : decode cX12_isTooClose 4 = .ok (.if_icmp .ge 41, 3) := by decide +kernel
theorem dX12_isTooClose_7 : decode cX12_isTooClose 7 = .ok (.aload_n 0, 1) := by decide +kernel
theorem dX12_isTooClose_8 : decode cX12_isTooClose 8 = .ok (.iload_n 3, 1) := by decide +kernel
theorem dX12_isTooClose_9 : decode cX12_isTooClose 9 = .ok (.invokevirtual 281, 3) := by decide +kernel
theorem dX12_isTooClose_12 : decode cX12_isTooClose 12 = .ok (.iconst (-1), 1) := by decide +kernel
theorem dX12_isTooClose_13 : decode cX12_isTooClose 13 = .ok (.if_icmp .ne 26, 3) := by decide +kernel
theorem dX12_isTooClose_16 : decode cX12_isTooClose 16 = .ok (.aload_n 0, 1) := by decide +kernel
theorem dX12_isTooClose_17 : decode cX12_isTooClose 17 = .ok (.getfield 113, 3) := by decide +kernel
theorem dX12_isTooClose_20 : decode cX12_isTooClose 20 = .ok (.iload_n 3, 1) := by decide +kernel
theorem dX12_isTooClose_21 : decode cX12_isTooClose 21 = .ok (.iaload, 1) := by decide +kernel
theorem dX12_isTooClose_22 : decode cX12_isTooClose 22 = .ok (.iload_n 2, 1) := by decide +kernel
theorem dX12_isTooClose_23 : decode cX12_isTooClose 23 = .ok (.isub, 1) := by decide +kernel
theorem dX12_isTooClose_24 : decode cX12_isTooClose 24 = .ok (.invokestatic 272, 3) := by decide +kernel
theorem dX12_isTooClose_27 : decode cX12_isTooClose 27 = .ok (.aload_n 0, 1) := by decide +kernel
theorem dX12_isTooClose_28 : decode cX12_isTooClose 28 = .ok (.getfield 88, 3) := by decide +kernel
theorem dX12_isTooClose_31 : decode cX12_isTooClose 31 = .ok (.bipush 8, 2) := by decide +kernel
theorem dX12_isTooClose_33 : decode cX12_isTooClose 33 = .ok (.iaload, 1) := by decide +kernel
theorem dX12_isTooClose_34 : decode cX12_isTooClose 34 = .ok (.if_icmp .ge 5, 3) := by decide +kernel
theorem dX12_isTooClose_37 : decode cX12_isTooClose 37 = .ok (.iconst 1, 1) := by decide +kernel
theorem dX12_isTooClose_38 : decode cX12_isTooClose 38 = .ok (.ireturn, 1) := by decide +kernel
theorem dX12_isTooClose_39 : decode cX12_isTooClose 39 = .ok (.iinc 3 1, 3) := by decide +kernel
theorem dX12_isTooClose_42 : decode cX12_isTooClose 42 = .ok (.goto (-40), 3) := by decide +kernel
theorem dX12_isTooClose_45 : decode cX12_isTooClose 45 = .ok (.iconst 0, 1) := by decide +kernel
theorem dX12_isTooClose_46 : decode cX12_isTooClose 46 = .ok (.ireturn, 1) := by decide +kernel
def f_X12_isTooClose_39 (N : Nat) (R : Nat → Nat → Nat) (k2 : SI → Nat → Int32 → Int32 → Int32 → Option (Int32 × SI)) (σ : SI) (x0 : Nat) (x1 : Int32) (x2 : Int32) (x3 : Int32) : Option (Int32 × SI) := k2 σ x0 x1 x2 (x3 + 1)
def f_X12_isTooClose_2 (N : Nat) (R : Nat → Nat → Nat) : Nat → SI → Nat → Int32 → Int32 → Int32 → Option (Int32 × SI)
  | 0, _, _, _, _, _ => none
  | n + 1, σ, x0, x1, x2, x3 => if x1 ≤ x3 then (some ((0 : Int32), σ)) else (bd (f_X12_time N R σ x0 x3) (fun a2 σ2 => if a2 = (-1 : Int32) then (ck x3 6 (ck (8 : Int32) 417 (if (σ2 (R x0 11) (8 : Int32).toNatClampNeg) ≤ (if 0 ≤ ((σ2 (R x0 20) x3.toNatClampNeg) - x2) then ((σ2 (R x0 20) x3.toNatClampNeg) - x2) else 0 - ((σ2 (R x0 20) x3.toNatClampNeg) - x2)) then (f_X12_isTooClose_39 N R (fun σ x0 x1 x2 x3 => f_X12_isTooClose_2 N R n σ x0 x1 x2 x3) σ2 x0 x1 x2 x3) else (some ((1 : Int32), σ2))))) else (f_X12_isTooClose_39 N R (fun σ x0 x1 x2 x3 => f_X12_isTooClose_2 N R n σ x0 x1 x2 x3) σ2 x0 x1 x2 x3)))
def f_X12_isTooClose (N : Nat) (R : Nat → Nat → Nat) (σ : SI) (x0 : Nat) (x1 : Int32) (x2 : Int32) : Option (Int32 × SI) := f_X12_isTooClose_2 N R N σ x0 x1 x2 (0 : Int32)
set_option maxHeartbeats 4000000 in
set_option maxRecDepth 100000 in
theorem w_X12_isTooClose_39 {l : Launch} {g : GL} {p : Program} {e : Jvm.Env} {s : State} {m : MethodId} {args : Array Value} {below : List Frame} {meth : Method} {c : Code} {R : Nat → Nat → Nat} {L : Nat → Nat → Int64} {r : (Int32 × SI)} {N : Nat} {k2 : SI → Nat → Int32 → Int32 → Int32 → Option (Int32 × SI)} (C : Cx l g p s m meth c cX12_isTooClose 4 RX12) (hr : meth.sig.returnType = (some .boolean)) (hSh : ShR R) (hk2 : ∀ (σ : SI) (x0 : Nat) (x1 : Int32) (x2 : Int32) (x3 : Int32), k2 σ x0 x1 x2 x3 = some r → Ok 194 x0 12 → ∀ (H : Heap) (locs : List Loc) (ls : Array Slot), S2 g s σ R L H locs → lv_has ls 4 [(0, .ref (gb g + x0)), (1, .int x1), (2, .int x2), (3, .int x3)] → W p l e (rmd 2 0 0) s m args below meth c H locs 0 0 (MQ below (Qg g 194 (PI R L r)) args s 0 0 (gA g)) (F0 m 2 ls [])) : ∀ (σ : SI) (x0 : Nat) (x1 : Int32) (x2 : Int32) (x3 : Int32), f_X12_isTooClose_39 N R k2 σ x0 x1 x2 x3 = some r → Ok 194 x0 12 → ∀ (H : Heap) (locs : List Loc) (ls : Array Slot), S2 g s σ R L H locs → lv_has ls 4 [(0, .ref (gb g + x0)), (1, .int x1), (2, .int x2), (3, .int x3)] → W p l e (rmd 2 0 0) s m args below meth c H locs 0 0 (MQ below (Qg g 194 (PI R L r)) args s 0 0 (gA g)) (F0 m 39 ls []) := by
  have hx := C.1
  have hb := C.2.1
  intro σ x0 x1 x2 x3 h hx0 H locs ls S hl
  rw [f_X12_isTooClose_39] at h
  refine lv_iinc (v := x3 + 1) (lv' := [(3, .int (x3 + 1)), (0, .ref (gb g + x0)), (1, .int x1), (2, .int x2)]) hx hb dX12_isTooClose_39 hl (k := 3) rfl rfl (by decide) rfl (fun ls hl => ?_)
  refine lv_goto (tgt := 2) hx hb dX12_isTooClose_42 (by decide) ?_
  exact hk2 σ x0 x1 x2 (x3 + 1) h hx0 H locs ls S (lv_sub hl [1, 2, 3, 0] rfl)
set_option maxHeartbeats 4000000 in
set_option maxRecDepth 100000 in
theorem w_X12_isTooClose_2 {l : Launch} {g : GL} {p : Program} {e : Jvm.Env} {s : State} {m : MethodId} {args : Array Value} {below : List Frame} {meth : Method} {c : Code} {R : Nat → Nat → Nat} {L : Nat → Nat → Int64} {r : (Int32 × SI)} {N : Nat} (C : Cx l g p s m meth c cX12_isTooClose 4 RX12) (hr : meth.sig.returnType = (some .boolean)) (hSh : ShR R) : ∀ (n : Nat) (σ : SI) (x0 : Nat) (x1 : Int32) (x2 : Int32) (x3 : Int32), f_X12_isTooClose_2 N R n σ x0 x1 x2 x3 = some r → Ok 194 x0 12 → ∀ (H : Heap) (locs : List Loc) (ls : Array Slot), S2 g s σ R L H locs → lv_has ls 4 [(0, .ref (gb g + x0)), (1, .int x1), (2, .int x2), (3, .int x3)] → W p l e (rmd 2 0 0) s m args below meth c H locs 0 0 (MQ below (Qg g 194 (PI R L r)) args s 0 0 (gA g)) (F0 m 2 ls []) := by
  have hx := C.1
  have hb := C.2.1
  intro n
  induction n with
  | zero =>
    intro σ x0 x1 x2 x3 h
    cases (show (none : Option (Int32 × SI)) = some r from h)
  | succ n ih =>
    intro σ x0 x1 x2 x3 h hx0 H locs ls S hl
    rw [f_X12_isTooClose_2] at h
    refine lv_iload_n hx hb dX12_isTooClose_2 rfl (lv_at hl 3 rfl) ?_
    refine lv_iload_n hx hb dX12_isTooClose_3 rfl (lv_at hl 1 rfl) ?_
    refine lv_icmp_ge (tgt := 45) hx hb dX12_isTooClose_4 (by decide) (fun c1 => ?_) (fun c1 => ?_)
    · have h := it_p c1 h
      refine lv_iconst (v := (0 : Int32)) hx hb dX12_isTooClose_45 (by decide) ?_
      exact x_zret C S hr (by decide) h dX12_isTooClose_46
    · have h := it_n c1 h
      refine lv_aload_n hx hb dX12_isTooClose_7 rfl (lv_at hl 0 rfl) ?_
      refine lv_iload_n hx hb dX12_isTooClose_8 rfl (lv_at hl 3 rfl) ?_
      obtain ⟨a2, σ2, hc2, h⟩ := bd_el h
      refine x_callVI C S KX12 hx0 (ok_X12_time (L := L) hc2 hSh hx0) ⟨cd_X12_time, ni_RX12, ml_RX12_281, in_X12_time, sl_X12_time⟩ ⟨by decide, by decide⟩ rfl ⟨by decide, by decide⟩ hl.1 rfl (Nat.le_of_ble_eq_true rfl) ⟨by decide, by decide⟩ dX12_isTooClose_9 (fun H locs S => ?_)
      refine lv_iconst (v := (-1 : Int32)) hx hb dX12_isTooClose_12 (by decide) ?_
      refine lv_icmp_ne (tgt := 39) hx hb dX12_isTooClose_13 (by decide) (fun c3 => ?_) (fun c3 => ?_)
      · have h := it_n c3 h
        exact w_X12_isTooClose_39 C hr hSh ih σ2 x0 x1 x2 x3 h hx0 H locs ls S (lv_sub hl [0, 1, 2, 3] rfl)
      · have h := it_p c3 h
        refine lv_aload_n hx hb dX12_isTooClose_16 rfl (lv_at hl 0 rfl) ?_
        have hR4 : Ok 194 (R x0 20) 10006 := hSh x0 12 20 10006 hx0.1 rfl
        refine x_getR C S KX12 hx0 20 (by decide) rfl rfl fl_RX12_113 hR4 dX12_isTooClose_17 ?_
        refine lv_iload_n hx hb dX12_isTooClose_20 rfl (lv_at hl 3 rfl) ?_
        obtain ⟨hi5, h⟩ := ck_el h
        refine x_iald (len := 6) C S (by decide) hR4 hi5 dX12_isTooClose_21 ?_
        refine lv_iload_n hx hb dX12_isTooClose_22 rfl (lv_at hl 2 rfl) ?_
        refine lv_isub hx hb dX12_isTooClose_23 ?_
        refine x_abs C hl.1 ⟨ml_RX12_272, st_math_abs, ni_math, cd_math_abs⟩ (Nat.le_of_ble_eq_true rfl) (Nat.le_of_ble_eq_true rfl) (Nat.le_of_ble_eq_true rfl) (Nat.le_of_ble_eq_true rfl) dX12_isTooClose_24 ?_
        refine lv_aload_n hx hb dX12_isTooClose_27 rfl (lv_at hl 0 rfl) ?_
        have hR6 : Ok 194 (R x0 11) 10417 := hSh x0 12 11 10417 hx0.1 rfl
        refine x_getR C S KX12 hx0 11 (by decide) rfl rfl fl_RX12_88 hR6 dX12_isTooClose_28 ?_
        refine lv_bipush (v := (8 : Int32)) hx hb dX12_isTooClose_31 (by decide) ?_
        obtain ⟨hi7, h⟩ := ck_el h
        refine x_iald (len := 417) C S (by decide) hR6 hi7 dX12_isTooClose_33 ?_
        refine lv_icmp_ge (tgt := 39) hx hb dX12_isTooClose_34 (by decide) (fun c8 => ?_) (fun c8 => ?_)
        · have h := it_p c8 h
          exact w_X12_isTooClose_39 C hr hSh ih σ2 x0 x1 x2 x3 h hx0 H locs ls S (lv_sub hl [0, 1, 2, 3] rfl)
        · have h := it_n c8 h
          refine lv_iconst (v := (1 : Int32)) hx hb dX12_isTooClose_37 (by decide) ?_
          exact x_zret C S hr (by decide) h dX12_isTooClose_38
set_option maxHeartbeats 4000000 in
set_option maxRecDepth 100000 in
theorem ok_X12_isTooClose {l : Launch} {g : GL} {R : Nat → Nat → Nat} {L : Nat → Nat → Int64} {N : Nat} {σ : SI} {x0 : Nat} {x1 : Int32} {x2 : Int32} {r : (Int32 × SI)} (h : f_X12_isTooClose N R σ x0 x1 x2 = some r) (hSh : ShR R) (hx0 : Ok 194 x0 12) : Ct l g 2 yX12_isTooClose cX12_isTooClose 4 (some .boolean) 194 194 0 0 [.ref (gb g + x0), .int x1, .int x2] (mkS σ R L) (PI R L r) := by
  refine Met.ofW (cc := cX12_isTooClose) (maxL := 4) (ret := (some .boolean)) (by decide) rfl ?_
  intro p e s m args below meth c s₁ B hml hv
  obtain ⟨rfl, hE, hLo, hWd⟩ := hv
  have hr : meth.sig.returnType = (some .boolean) := B.returns
  have C : Cx l g p s m meth c cX12_isTooClose 4 RX12 := ⟨B.exec, B.bytes, hml, findClass_of_methodNamed B.named, hE, hLo, B.notSynchronized⟩
  have S : S2 g s σ R L s.heap [] := ⟨hWd, va_S.rf⟩
  have hx := C.1
  have hb := C.2.1
  have hl := lv_entry ([.ref (gb g + x0), .int x1, .int x2]) (n := 4) (Nat.le_of_ble_eq_true rfl)
  rw [lg_entry_eq]
  generalize (lg_sl ([.ref (gb g + x0), .int x1, .int x2]) ++ List.replicate (4 - (lg_sl ([.ref (gb g + x0), .int x1, .int x2])).length) Slot.unset).toArray = ls at hl ⊢
  have hl : lv_has ls 4 [(0, .ref (gb g + x0)), (1, .int x1), (2, .int x2)] := hl
  generalize hH : s.heap = H at S ⊢
  generalize hlc : ([] : List Loc) = locs at S ⊢
  rw [f_X12_isTooClose] at h
  refine lv_iconst (v := (0 : Int32)) hx hb dX12_isTooClose_0 (by decide) ?_
  refine lv_istore_n (lv' := [(3, .int (0 : Int32)), (0, .ref (gb g + x0)), (1, .int x1), (2, .int x2)]) hx hb dX12_isTooClose_1 rfl hl (by decide) rfl (fun ls hl => ?_)
  exact w_X12_isTooClose_2 C hr hSh N σ x0 x1 x2 (0 : Int32) h hx0 H locs ls S (lv_sub hl [1, 2, 3, 0] rfl)
theorem dX12_says_0 : decode cX12_says 0 = .ok (.aload_n 0, 1) := by decide +kernel
theorem dX12_says_1 : decode cX12_says 1 = .ok (.getfield 125, 3) := by decide +kernel
theorem dX12_says_4 : decode cX12_says 4 = .ok (.aload_n 0, 1) := by decide +kernel
theorem dX12_says_5 : decode cX12_says 5 = .ok (.getfield 366, 3) := by decide +kernel
theorem dX12_says_8 : decode cX12_says 8 = .ok (.iload_n 1, 1) := by decide +kernel
theorem dX12_says_9 : decode cX12_says 9 = .ok (.i2b, 1) := by decide +kernel
theorem dX12_says_10 : decode cX12_says 10 = .ok (.bastore, 1) := by decide +kernel
theorem dX12_says_11 : decode cX12_says 11 = .ok (.aload_n 0, 1) := by decide +kernel
theorem dX12_says_12 : decode cX12_says 12 = .ok (.dup, 1) := by decide +kernel
theorem dX12_says_13 : decode cX12_says 13 = .ok (.getfield 366, 3) := by decide +kernel
theorem dX12_says_16 : decode cX12_says 16 = .ok (.iconst 1, 1) := by decide +kernel
theorem dX12_says_17 : decode cX12_says 17 = .ok (.iadd, 1) := by decide +kernel
theorem dX12_says_18 : decode cX12_says 18 = .ok (.putfield 366, 3) := by decide +kernel
theorem dX12_says_21 : decode cX12_says 21 = .ok (.return_, 1) := by decide +kernel
def f_X12_says (N : Nat) (R : Nat → Nat → Nat) (σ : SI) (x0 : Nat) (x1 : Int32) : Option (Unit × SI) := ck (σ x0 26) 60 (sq (up σ (R x0 25) (σ x0 26).toNatClampNeg (vp_nar .byte x1.toInt8.toInt32)) (fun σ3 => sq (up σ3 x0 26 ((σ3 x0 26) + (1 : Int32))) (fun σ4 => some ((), σ4))))
set_option maxHeartbeats 4000000 in
set_option maxRecDepth 100000 in
theorem ok_X12_says {l : Launch} {g : GL} {R : Nat → Nat → Nat} {L : Nat → Nat → Int64} {N : Nat} {σ : SI} {x0 : Nat} {x1 : Int32} {r : (Unit × SI)} (h : f_X12_says N R σ x0 x1 = some r) (hSh : ShR R) (hx0 : Ok 194 x0 12) : Ct l g 1 yX12_says cX12_says 2 none 194 194 0 0 [.ref (gb g + x0), .int x1] (mkS σ R L) (PV R L r) := by
  refine Met.ofW (cc := cX12_says) (maxL := 2) (ret := none) (by decide) rfl ?_
  intro p e s m args below meth c s₁ B hml hv
  obtain ⟨rfl, hE, hLo, hWd⟩ := hv
  have hr : meth.sig.returnType = none := B.returns
  have C : Cx l g p s m meth c cX12_says 2 RX12 := ⟨B.exec, B.bytes, hml, findClass_of_methodNamed B.named, hE, hLo, B.notSynchronized⟩
  have S : S2 g s σ R L s.heap [] := ⟨hWd, va_S.rf⟩
  have hx := C.1
  have hb := C.2.1
  have hl := lv_entry ([.ref (gb g + x0), .int x1]) (n := 2) (Nat.le_of_ble_eq_true rfl)
  rw [lg_entry_eq]
  generalize (lg_sl ([.ref (gb g + x0), .int x1]) ++ List.replicate (2 - (lg_sl ([.ref (gb g + x0), .int x1])).length) Slot.unset).toArray = ls at hl ⊢
  have hl : lv_has ls 2 [(0, .ref (gb g + x0)), (1, .int x1)] := hl
  generalize hH : s.heap = H at S ⊢
  generalize hlc : ([] : List Loc) = locs at S ⊢
  rw [f_X12_says] at h
  refine lv_aload_n hx hb dX12_says_0 rfl (lv_at hl 0 rfl) ?_
  have hR1 : Ok 194 (R x0 25) 20060 := hSh x0 12 25 20060 hx0.1 rfl
  refine x_getR C S KX12 hx0 25 (by decide) rfl rfl fl_RX12_125 hR1 dX12_says_1 ?_
  refine lv_aload_n hx hb dX12_says_4 rfl (lv_at hl 0 rfl) ?_
  refine x_getI C S KX12 hx0 26 (by decide) rfl rfl fl_RX12_366 dX12_says_5 ?_
  refine lv_iload_n hx hb dX12_says_8 rfl (lv_at hl 1 rfl) ?_
  refine lv_i2b hx hb dX12_says_9 rfl ?_
  obtain ⟨hi2, h⟩ := ck_el h
  obtain ⟨σ3, hs3, h⟩ := sq_el h
  refine x_bast (len := 60) C S (by decide) hR1 hi2 dX12_says_10 hs3 (fun H locs S => ?_)
  refine lv_aload_n hx hb dX12_says_11 rfl (lv_at hl 0 rfl) ?_
  refine lv_dup hx hb dX12_says_12 rfl ?_
  refine x_getI C S KX12 hx0 26 (by decide) rfl rfl fl_RX12_366 dX12_says_13 ?_
  refine lv_iconst (v := (1 : Int32)) hx hb dX12_says_16 (by decide) ?_
  refine lv_iadd hx hb dX12_says_17 ?_
  obtain ⟨σ4, hs4, h⟩ := sq_el h
  refine x_putI C S KX12 hx0 26 (by decide) rfl rfl rfl ⟨rfl, rfl⟩ fl_RX12_366 dX12_says_18 hs4 (fun H locs S => ?_)
  exact x_vret C S hr h dX12_says_21
theorem dX12_formattedByte_0 : decode cX12_formattedByte 0 = .ok (.aload_n 0, 1) := by decide +kernel
theorem dX12_formattedByte_1 : decode cX12_formattedByte 1 = .ok (.iconst 0, 1) := by decide +kernel
theorem dX12_formattedByte_2 : decode cX12_formattedByte 2 = .ok (.putfield 3, 3) := by decide +kernel
theorem dX12_formattedByte_5 : decode cX12_formattedByte 5 = .ok (.iload_n 1, 1) := by decide +kernel
theorem dX12_formattedByte_6 : decode cX12_formattedByte 6 = .ok (.iconst 0, 1) := by decide +kernel
theorem dX12_formattedByte_7 : decode cX12_formattedByte 7 = .ok (.aload_n 0, 1) := by decide +kernel
theorem dX12_formattedByte_8 : decode cX12_formattedByte 8 = .ok (.getfield 366, 3) := by decide +kernel
theorem dX12_formattedByte_11 : decode cX12_formattedByte 11 = .ok (.iconst 1, 1) := by decide +kernel
theorem dX12_formattedByte_12 : decode cX12_formattedByte 12 = .ok (.isub, 1) := by decide +kernel
theorem dX12_formattedByte_13 : decode cX12_formattedByte 13 = .ok (.invokestatic 71, 3) := by decide +kernel
theorem dX12_formattedByte_16 : decode cX12_formattedByte 16 = .ok (.ifCond .eq 12, 3) := by decide +kernel
theorem dX12_formattedByte_19 : decode cX12_formattedByte 19 = .ok (.aload_n 0, 1) := by decide +kernel
theorem dX12_formattedByte_20 : decode cX12_formattedByte 20 = .ok (.getfield 125, 3) := by decide +kernel
theorem dX12_formattedByte_23 : decode cX12_formattedByte 23 = .ok (.iload_n 1, 1) := by decide +kernel
theorem dX12_formattedByte_24 : decode cX12_formattedByte 24 = .ok (.baload, 1) := by decide +kernel
theorem dX12_formattedByte_25 : decode cX12_formattedByte 25 = .ok (.goto 4, 3) := by decide +kernel
theorem dX12_formattedByte_28 : decode cX12_formattedByte 28 = .ok (.iconst (-1), 1) := by decide +kernel
theorem dX12_formattedByte_29 : decode cX12_formattedByte 29 = .ok (.ireturn, 1) := by decide +kernel
def f_X12_formattedByte (N : Nat) (R : Nat → Nat → Nat) (σ : SI) (x0 : Nat) (x1 : Int32) : Option (Int32 × SI) := sq (up σ x0 0 (0 : Int32)) (fun σ1 => bd (f_X12_in N R σ1 x1 (0 : Int32) ((σ1 x0 26) - (1 : Int32))) (fun a2 σ2 => if a2 = 0 then (some ((-1 : Int32), σ2)) else (ck x1 60 (some (σ2 (R x0 25) x1.toNatClampNeg, σ2)))))
set_option maxHeartbeats 4000000 in
set_option maxRecDepth 100000 in
theorem ok_X12_formattedByte {l : Launch} {g : GL} {R : Nat → Nat → Nat} {L : Nat → Nat → Int64} {N : Nat} {σ : SI} {x0 : Nat} {x1 : Int32} {r : (Int32 × SI)} (h : f_X12_formattedByte N R σ x0 x1 = some r) (hSh : ShR R) (hx0 : Ok 194 x0 12) : Ct l g 2 yX12_formattedByte cX12_formattedByte 2 (some .int) 194 194 0 0 [.ref (gb g + x0), .int x1] (mkS σ R L) (PI R L r) := by
  refine Met.ofW (cc := cX12_formattedByte) (maxL := 2) (ret := (some .int)) (by decide) rfl ?_
  intro p e s m args below meth c s₁ B hml hv
  obtain ⟨rfl, hE, hLo, hWd⟩ := hv
  have hr : meth.sig.returnType = (some .int) := B.returns
  have C : Cx l g p s m meth c cX12_formattedByte 2 RX12 := ⟨B.exec, B.bytes, hml, findClass_of_methodNamed B.named, hE, hLo, B.notSynchronized⟩
  have S : S2 g s σ R L s.heap [] := ⟨hWd, va_S.rf⟩
  have hx := C.1
  have hb := C.2.1
  have hl := lv_entry ([.ref (gb g + x0), .int x1]) (n := 2) (Nat.le_of_ble_eq_true rfl)
  rw [lg_entry_eq]
  generalize (lg_sl ([.ref (gb g + x0), .int x1]) ++ List.replicate (2 - (lg_sl ([.ref (gb g + x0), .int x1])).length) Slot.unset).toArray = ls at hl ⊢
  have hl : lv_has ls 2 [(0, .ref (gb g + x0)), (1, .int x1)] := hl
  generalize hH : s.heap = H at S ⊢
  generalize hlc : ([] : List Loc) = locs at S ⊢
  rw [f_X12_formattedByte] at h
  refine lv_aload_n hx hb dX12_formattedByte_0 rfl (lv_at hl 0 rfl) ?_
  refine lv_iconst (v := (0 : Int32)) hx hb dX12_formattedByte_1 (by decide) ?_
  obtain ⟨σ1, hs1, h⟩ := sq_el h
  refine x_putI C S KX12 hx0 0 (by decide) rfl rfl rfl ⟨rfl, rfl⟩ fl_RX12_3 dX12_formattedByte_2 hs1 (fun H locs S => ?_)
  refine lv_iload_n hx hb dX12_formattedByte_5 rfl (lv_at hl 1 rfl) ?_
  refine lv_iconst (v := (0 : Int32)) hx hb dX12_formattedByte_6 (by decide) ?_
  refine lv_aload_n hx hb dX12_formattedByte_7 rfl (lv_at hl 0 rfl) ?_
  refine x_getI C S KX12 hx0 26 (by decide) rfl rfl fl_RX12_366 dX12_formattedByte_8 ?_
  refine lv_iconst (v := (1 : Int32)) hx hb dX12_formattedByte_11 (by decide) ?_
  refine lv_isub hx hb dX12_formattedByte_12 ?_
  obtain ⟨a2, σ2, hc2, h⟩ := bd_el h
  refine x_callSI C S (ok_X12_in (L := L) hc2 hSh) ⟨cd_X12_in, ni_RX12, ml_RX12_71, st_X12_in⟩ ⟨by decide, by decide⟩ rfl ⟨by decide, by decide⟩ hl.1 rfl (Nat.le_of_ble_eq_true rfl) ⟨by decide, by decide⟩ dX12_formattedByte_13 (fun H locs S => ?_)
  refine lv_if_eq (tgt := 28) hx hb dX12_formattedByte_16 (by decide) (fun c3 => ?_) (fun c3 => ?_)
  · have h := it_p c3 h
    refine lv_iconst (v := (-1 : Int32)) hx hb dX12_formattedByte_28 (by decide) ?_
    exact x_iret C S hr h dX12_formattedByte_29
  · have h := it_n c3 h
    refine lv_aload_n hx hb dX12_formattedByte_19 rfl (lv_at hl 0 rfl) ?_
    have hR4 : Ok 194 (R x0 25) 20060 := hSh x0 12 25 20060 hx0.1 rfl
    refine x_getR C S KX12 hx0 25 (by decide) rfl rfl fl_RX12_125 hR4 dX12_formattedByte_20 ?_
    refine lv_iload_n hx hb dX12_formattedByte_23 rfl (lv_at hl 1 rfl) ?_
    obtain ⟨hi5, h⟩ := ck_el h
    refine x_bald (len := 60) C S (by decide) hR4 hi5 dX12_formattedByte_24 ?_
    refine lv_goto (tgt := 29) hx hb dX12_formattedByte_25 (by decide) ?_
    exact x_iret C S hr h dX12_formattedByte_29
theorem dX0_addCharge_0 : decode cX0_addCharge 0 = .ok (.aload_n 0, 1) := by decide +kernel
theorem dX0_addCharge_1 : decode cX0_addCharge 1 = .ok (.getfield 24, 3) := by decide +kernel
theorem dX0_addCharge_4 : decode cX0_addCharge 4 = .ok (.bipush 12, 2) := by decide +kernel
theorem dX0_addCharge_6 : decode cX0_addCharge 6 = .ok (.if_icmp .ge 33, 3) := by decide +kernel
theorem dX0_addCharge_9 : decode cX0_addCharge 9 = .ok (.aload_n 0, 1) := by decide +kernel
theorem dX0_addCharge_10 : decode cX0_addCharge 10 = .ok (.getfield 9, 3) := by decide +kernel
theorem dX0_addCharge_13 : decode cX0_addCharge 13 = .ok (.aload_n 0, 1) := by decide +kernel
theorem dX0_addCharge_14 : decode cX0_addCharge 14 = .ok (.getfield 24, 3) := by decide +kernel
theorem dX0_addCharge_17 : decode cX0_addCharge 17 = .ok (.iload_n 1, 1) := by decide +kernel
theorem dX0_addCharge_18 : decode cX0_addCharge 18 = .ok (.iastore, 1) := by decide +kernel
theorem dX0_addCharge_19 : decode cX0_addCharge 19 = .ok (.aload_n 0, 1) := by decide +kernel
theorem dX0_addCharge_20 : decode cX0_addCharge 20 = .ok (.getfield 15, 3) := by decide +kernel
theorem dX0_addCharge_23 : decode cX0_addCharge 23 = .ok (.aload_n 0, 1) := by decide +kernel
theorem dX0_addCharge_24 : decode cX0_addCharge 24 = .ok (.getfield 24, 3) := by decide +kernel
theorem dX0_addCharge_27 : decode cX0_addCharge 27 = .ok (.iload_n 2, 1) := by decide +kernel
theorem dX0_addCharge_28 : decode cX0_addCharge 28 = .ok (.iastore, 1) := by decide +kernel
theorem dX0_addCharge_29 : decode cX0_addCharge 29 = .ok (.aload_n 0, 1) := by decide +kernel
theorem dX0_addCharge_30 : decode cX0_addCharge 30 = .ok (.dup, 1) := by decide +kernel
theorem dX0_addCharge_31 : decode cX0_addCharge 31 = .ok (.getfield 24, 3) := by decide +kernel
theorem dX0_addCharge_34 : decode cX0_addCharge 34 = .ok (.iconst 1, 1) := by decide +kernel
theorem dX0_addCharge_35 : decode cX0_addCharge 35 = .ok (.iadd, 1) := by decide +kernel
theorem dX0_addCharge_36 : decode cX0_addCharge 36 = .ok (.putfield 24, 3) := by decide +kernel
theorem dX0_addCharge_39 : decode cX0_addCharge 39 = .ok (.return_, 1) := by decide +kernel
def f_X0_addCharge (N : Nat) (R : Nat → Nat → Nat) (σ : SI) (x0 : Nat) (x1 : Int32) (x2 : Int32) : Option (Unit × SI) := if (12 : Int32) ≤ (σ x0 7) then (some ((), σ)) else (ck (σ x0 7) 12 (sq (up σ (R x0 0) (σ x0 7).toNatClampNeg x1) (fun σ4 => ck (σ4 x0 7) 12 (sq (up σ4 (R x0 1) (σ4 x0 7).toNatClampNeg x2) (fun σ7 => sq (up σ7 x0 7 ((σ7 x0 7) + (1 : Int32))) (fun σ8 => some ((), σ8)))))))
set_option maxHeartbeats 4000000 in
set_option maxRecDepth 100000 in
theorem ok_X0_addCharge {l : Launch} {g : GL} {R : Nat → Nat → Nat} {L : Nat → Nat → Int64} {N : Nat} {σ : SI} {x0 : Nat} {x1 : Int32} {x2 : Int32} {r : (Unit × SI)} (h : f_X0_addCharge N R σ x0 x1 x2 = some r) (hSh : ShR R) (hx0 : Ok 194 x0 0) : Ct l g 1 yX0_addCharge cX0_addCharge 3 none 194 194 0 0 [.ref (gb g + x0), .int x1, .int x2] (mkS σ R L) (PV R L r) := by
  refine Met.ofW (cc := cX0_addCharge) (maxL := 3) (ret := none) (by decide) rfl ?_
  intro p e s m args below meth c s₁ B hml hv
  obtain ⟨rfl, hE, hLo, hWd⟩ := hv
  have hr : meth.sig.returnType = none := B.returns
  have C : Cx l g p s m meth c cX0_addCharge 3 RX0 := ⟨B.exec, B.bytes, hml, findClass_of_methodNamed B.named, hE, hLo, B.notSynchronized⟩
  have S : S2 g s σ R L s.heap [] := ⟨hWd, va_S.rf⟩
  have hx := C.1
  have hb := C.2.1
  have hl := lv_entry ([.ref (gb g + x0), .int x1, .int x2]) (n := 3) (Nat.le_of_ble_eq_true rfl)
  rw [lg_entry_eq]
  generalize (lg_sl ([.ref (gb g + x0), .int x1, .int x2]) ++ List.replicate (3 - (lg_sl ([.ref (gb g + x0), .int x1, .int x2])).length) Slot.unset).toArray = ls at hl ⊢
  have hl : lv_has ls 3 [(0, .ref (gb g + x0)), (1, .int x1), (2, .int x2)] := hl
  generalize hH : s.heap = H at S ⊢
  generalize hlc : ([] : List Loc) = locs at S ⊢
  rw [f_X0_addCharge] at h
  refine lv_aload_n hx hb dX0_addCharge_0 rfl (lv_at hl 0 rfl) ?_
  refine x_getI C S KX0 hx0 7 (by decide) rfl rfl fl_RX0_24 dX0_addCharge_1 ?_
  refine lv_bipush (v := (12 : Int32)) hx hb dX0_addCharge_4 (by decide) ?_
  refine lv_icmp_ge (tgt := 39) hx hb dX0_addCharge_6 (by decide) (fun c1 => ?_) (fun c1 => ?_)
  · have h := it_p c1 h
    exact x_vret C S hr h dX0_addCharge_39
  · have h := it_n c1 h
    refine lv_aload_n hx hb dX0_addCharge_9 rfl (lv_at hl 0 rfl) ?_
    have hR2 : Ok 194 (R x0 0) 10012 := hSh x0 0 0 10012 hx0.1 rfl
    refine x_getR C S KX0 hx0 0 (by decide) rfl rfl fl_RX0_9 hR2 dX0_addCharge_10 ?_
    refine lv_aload_n hx hb dX0_addCharge_13 rfl (lv_at hl 0 rfl) ?_
    refine x_getI C S KX0 hx0 7 (by decide) rfl rfl fl_RX0_24 dX0_addCharge_14 ?_
    refine lv_iload_n hx hb dX0_addCharge_17 rfl (lv_at hl 1 rfl) ?_
    obtain ⟨hi3, h⟩ := ck_el h
    obtain ⟨σ4, hs4, h⟩ := sq_el h
    refine x_iast (len := 12) C S (by decide) hR2 hi3 dX0_addCharge_18 hs4 (fun H locs S => ?_)
    refine lv_aload_n hx hb dX0_addCharge_19 rfl (lv_at hl 0 rfl) ?_
    have hR5 : Ok 194 (R x0 1) 10012 := hSh x0 0 1 10012 hx0.1 rfl
    refine x_getR C S KX0 hx0 1 (by decide) rfl rfl fl_RX0_15 hR5 dX0_addCharge_20 ?_
    refine lv_aload_n hx hb dX0_addCharge_23 rfl (lv_at hl 0 rfl) ?_
    refine x_getI C S KX0 hx0 7 (by decide) rfl rfl fl_RX0_24 dX0_addCharge_24 ?_
    refine lv_iload_n hx hb dX0_addCharge_27 rfl (lv_at hl 2 rfl) ?_
    obtain ⟨hi6, h⟩ := ck_el h
    obtain ⟨σ7, hs7, h⟩ := sq_el h
    refine x_iast (len := 12) C S (by decide) hR5 hi6 dX0_addCharge_28 hs7 (fun H locs S => ?_)
    refine lv_aload_n hx hb dX0_addCharge_29 rfl (lv_at hl 0 rfl) ?_
    refine lv_dup hx hb dX0_addCharge_30 rfl ?_
    refine x_getI C S KX0 hx0 7 (by decide) rfl rfl fl_RX0_24 dX0_addCharge_31 ?_
    refine lv_iconst (v := (1 : Int32)) hx hb dX0_addCharge_34 (by decide) ?_
    refine lv_iadd hx hb dX0_addCharge_35 ?_
    obtain ⟨σ8, hs8, h⟩ := sq_el h
    refine x_putI C S KX0 hx0 7 (by decide) rfl rfl rfl ⟨rfl, rfl⟩ fl_RX0_24 dX0_addCharge_36 hs8 (fun H locs S => ?_)
    exact x_vret C S hr h dX0_addCharge_39
theorem dX0_spreadDelays_0 : decode cX0_spreadDelays 0 = .ok (.iconst 0, 1) := by decide +kernel
theorem dX0_spreadDelays_1 : decode cX0_spreadDelays 1 = .ok (.istore_n 2, 1) := by decide +kernel
theorem dX0_spreadDelays_2 : decode cX0_spreadDelays 2 = .ok (.iload_n 2, 1) := by decide +kernel
theorem dX0_spreadDelays_3 : decode cX0_spreadDelays 3 = .ok (.aload_n 0, 1) := by decide +kernel
theorem dX0_spreadDelays_4 : decode cX0_spreadDelays 4 = .ok (.getfield 24, 3) := by decide +kernel
theorem dX0_spreadDelays_7 : decode cX0_spreadDelays 7 = .ok (.if_icmp .ge 18, 3) := by decide +kernel
theorem dX0_spreadDelays_10 : decode cX0_spreadDelays 10 = .ok (.aload_n 0, 1) := by decide +kernel
theorem dX0_spreadDelays_11 : decode cX0_spreadDelays 11 = .ok (.getfield 15, 3) := by decide +kernel
theorem dX0_spreadDelays_14 : decode cX0_spreadDelays 14 = .ok (.iload_n 2, 1) := by decide +kernel
theorem dX0_spreadDelays_15 : decode cX0_spreadDelays 15 = .ok (.iload_n 2, 1) := by decide +kernel
theorem dX0_spreadDelays_16 : decode cX0_spreadDelays 16 = .ok (.iload_n 1, 1) := by decide +kernel
theorem dX0_spreadDelays_17 : decode cX0_spreadDelays 17 = .ok (.imul, 1) := by decide +kernel
theorem dX0_spreadDelays_18 : decode cX0_spreadDelays 18 = .ok (.iastore, 1) := by decide +kernel
theorem dX0_spreadDelays_19 : decode cX0_spreadDelays 19 = .ok (.iinc 2 1, 3) := by decide +kernel
theorem dX0_spreadDelays_22 : decode cX0_spreadDelays 22 = .ok (.goto (-20), 3) := by decide +kernel
theorem dX0_spreadDelays_25 : decode cX0_spreadDelays 25 = .ok (.return_, 1) := by decide +kernel
def f_X0_spreadDelays_2 (N : Nat) (R : Nat → Nat → Nat) : Nat → SI → Nat → Int32 → Int32 → Option (Unit × SI)
  | 0, _, _, _, _ => none
  | n + 1, σ, x0, x1, x2 => if (σ x0 7) ≤ x2 then (some ((), σ)) else (ck x2 12 (sq (up σ (R x0 1) x2.toNatClampNeg (x2 * x1)) (fun σ4 => f_X0_spreadDelays_2 N R n σ4 x0 x1 (x2 + 1))))
def f_X0_spreadDelays (N : Nat) (R : Nat → Nat → Nat) (σ : SI) (x0 : Nat) (x1 : Int32) : Option (Unit × SI) := f_X0_spreadDelays_2 N R N σ x0 x1 (0 : Int32)
set_option maxHeartbeats 4000000 in
set_option maxRecDepth 100000 in
theorem w_X0_spreadDelays_2 {l : Launch} {g : GL} {p : Program} {e : Jvm.Env} {s : State} {m : MethodId} {args : Array Value} {below : List Frame} {meth : Method} {c : Code} {R : Nat → Nat → Nat} {L : Nat → Nat → Int64} {r : (Unit × SI)} {N : Nat} (C : Cx l g p s m meth c cX0_spreadDelays 3 RX0) (hr : meth.sig.returnType = none) (hSh : ShR R) : ∀ (n : Nat) (σ : SI) (x0 : Nat) (x1 : Int32) (x2 : Int32), f_X0_spreadDelays_2 N R n σ x0 x1 x2 = some r → Ok 194 x0 0 → ∀ (H : Heap) (locs : List Loc) (ls : Array Slot), S2 g s σ R L H locs → lv_has ls 3 [(0, .ref (gb g + x0)), (1, .int x1), (2, .int x2)] → W p l e (rmd 1 0 0) s m args below meth c H locs 0 0 (MQ below (Qg g 194 (PV R L r)) args s 0 0 (gA g)) (F0 m 2 ls []) := by
  have hx := C.1
  have hb := C.2.1
  intro n
  induction n with
  | zero =>
    intro σ x0 x1 x2 h
    cases (show (none : Option (Unit × SI)) = some r from h)
  | succ n ih =>
    intro σ x0 x1 x2 h hx0 H locs ls S hl
    rw [f_X0_spreadDelays_2] at h
    refine lv_iload_n hx hb dX0_spreadDelays_2 rfl (lv_at hl 2 rfl) ?_
    refine lv_aload_n hx hb dX0_spreadDelays_3 rfl (lv_at hl 0 rfl) ?_
    refine x_getI C S KX0 hx0 7 (by decide) rfl rfl fl_RX0_24 dX0_spreadDelays_4 ?_
    refine lv_icmp_ge (tgt := 25) hx hb dX0_spreadDelays_7 (by decide) (fun c1 => ?_) (fun c1 => ?_)
    · have h := it_p c1 h
      exact x_vret C S hr h dX0_spreadDelays_25
    · have h := it_n c1 h
      refine lv_aload_n hx hb dX0_spreadDelays_10 rfl (lv_at hl 0 rfl) ?_
      have hR2 : Ok 194 (R x0 1) 10012 := hSh x0 0 1 10012 hx0.1 rfl
      refine x_getR C S KX0 hx0 1 (by decide) rfl rfl fl_RX0_15 hR2 dX0_spreadDelays_11 ?_
      refine lv_iload_n hx hb dX0_spreadDelays_14 rfl (lv_at hl 2 rfl) ?_
      refine lv_iload_n hx hb dX0_spreadDelays_15 rfl (lv_at hl 2 rfl) ?_
      refine lv_iload_n hx hb dX0_spreadDelays_16 rfl (lv_at hl 1 rfl) ?_
      refine lv_imul hx hb dX0_spreadDelays_17 ?_
      obtain ⟨hi3, h⟩ := ck_el h
      obtain ⟨σ4, hs4, h⟩ := sq_el h
      refine x_iast (len := 12) C S (by decide) hR2 hi3 dX0_spreadDelays_18 hs4 (fun H locs S => ?_)
      refine lv_iinc (v := x2 + 1) (lv' := [(2, .int (x2 + 1)), (0, .ref (gb g + x0)), (1, .int x1)]) hx hb dX0_spreadDelays_19 hl (k := 2) rfl rfl (by decide) rfl (fun ls hl => ?_)
      refine lv_goto (tgt := 2) hx hb dX0_spreadDelays_22 (by decide) ?_
      exact ih σ4 x0 x1 (x2 + 1) h hx0 H locs ls S (lv_sub hl [1, 2, 0] rfl)
set_option maxHeartbeats 4000000 in
set_option maxRecDepth 100000 in
theorem ok_X0_spreadDelays {l : Launch} {g : GL} {R : Nat → Nat → Nat} {L : Nat → Nat → Int64} {N : Nat} {σ : SI} {x0 : Nat} {x1 : Int32} {r : (Unit × SI)} (h : f_X0_spreadDelays N R σ x0 x1 = some r) (hSh : ShR R) (hx0 : Ok 194 x0 0) : Ct l g 1 yX0_spreadDelays cX0_spreadDelays 3 none 194 194 0 0 [.ref (gb g + x0), .int x1] (mkS σ R L) (PV R L r) := by
  refine Met.ofW (cc := cX0_spreadDelays) (maxL := 3) (ret := none) (by decide) rfl ?_
  intro p e s m args below meth c s₁ B hml hv
  obtain ⟨rfl, hE, hLo, hWd⟩ := hv
  have hr : meth.sig.returnType = none := B.returns
  have C : Cx l g p s m meth c cX0_spreadDelays 3 RX0 := ⟨B.exec, B.bytes, hml, findClass_of_methodNamed B.named, hE, hLo, B.notSynchronized⟩
  have S : S2 g s σ R L s.heap [] := ⟨hWd, va_S.rf⟩
  have hx := C.1
  have hb := C.2.1
  have hl := lv_entry ([.ref (gb g + x0), .int x1]) (n := 3) (Nat.le_of_ble_eq_true rfl)
  rw [lg_entry_eq]
  generalize (lg_sl ([.ref (gb g + x0), .int x1]) ++ List.replicate (3 - (lg_sl ([.ref (gb g + x0), .int x1])).length) Slot.unset).toArray = ls at hl ⊢
  have hl : lv_has ls 3 [(0, .ref (gb g + x0)), (1, .int x1)] := hl
  generalize hH : s.heap = H at S ⊢
  generalize hlc : ([] : List Loc) = locs at S ⊢
  rw [f_X0_spreadDelays] at h
  refine lv_iconst (v := (0 : Int32)) hx hb dX0_spreadDelays_0 (by decide) ?_
  refine lv_istore_n (lv' := [(2, .int (0 : Int32)), (0, .ref (gb g + x0)), (1, .int x1)]) hx hb dX0_spreadDelays_1 rfl hl (by decide) rfl (fun ls hl => ?_)
  exact w_X0_spreadDelays_2 C hr hSh N σ x0 x1 (0 : Int32) h hx0 H locs ls S (lv_sub hl [1, 2, 0] rfl)
theorem dX0_sumOfSizes_0 : decode cX0_sumOfSizes 0 = .ok (.iconst 0, 1) := by decide +kernel
theorem dX0_sumOfSizes_1 : decode cX0_sumOfSizes 1 = .ok (.istore_n 1, 1) := by decide +kernel
theorem dX0_sumOfSizes_2 : decode cX0_sumOfSizes 2 = .ok (.iconst 0, 1) := by decide +kernel
theorem dX0_sumOfSizes_3 : decode cX0_sumOfSizes 3 = .ok (.istore_n 2, 1) := by decide +kernel
theorem dX0_sumOfSizes_4 : decode cX0_sumOfSizes 4 = .ok (.iload_n 2, 1) := by decide +kernel
theorem dX0_sumOfSizes_5 : decode cX0_sumOfSizes 5 = .ok (.aload_n 0, 1) := by decide +kernel
theorem dX0_sumOfSizes_6 : decode cX0_sumOfSizes 6 = .ok (.getfield 24, 3) := by decide +kernel
theorem dX0_sumOfSizes_9 : decode cX0_sumOfSizes 9 = .ok (.if_icmp .ge 18, 3) := by decide +kernel
theorem dX0_sumOfSizes_12 : decode cX0_sumOfSizes 12 = .ok (.iload_n 1, 1) := by decide +kernel
theorem dX0_sumOfSizes_13 : decode cX0_sumOfSizes 13 = .ok (.aload_n 0, 1) := by decide +kernel
theorem dX0_sumOfSizes_14 : decode cX0_sumOfSizes 14 = .ok (.getfield 9, 3) := by decide +kernel
theorem dX0_sumOfSizes_17 : decode cX0_sumOfSizes 17 = .ok (.iload_n 2, 1) := by decide +kernel
theorem dX0_sumOfSizes_18 : decode cX0_sumOfSizes 18 = .ok (.iaload, 1) := by decide +kernel
theorem dX0_sumOfSizes_19 : decode cX0_sumOfSizes 19 = .ok (.iadd, 1) := by decide +kernel
theorem dX0_sumOfSizes_20 : decode cX0_sumOfSizes 20 = .ok (.istore_n 1, 1) := by decide +kernel
theorem dX0_sumOfSizes_21 : decode cX0_sumOfSizes 21 = .ok (.iinc 2 1, 3) := by decide +kernel
theorem dX0_sumOfSizes_24 : decode cX0_sumOfSizes 24 = .ok (.goto (-20), 3) := by decide +kernel
theorem dX0_sumOfSizes_27 : decode cX0_sumOfSizes 27 = .ok (.iload_n 1, 1) := by decide +kernel
theorem dX0_sumOfSizes_28 : decode cX0_sumOfSizes 28 = .ok (.ireturn, 1) := by decide +kernel
def f_X0_sumOfSizes_4 (N : Nat) (R : Nat → Nat → Nat) : Nat → SI → Nat → Int32 → Int32 → Option (Int32 × SI)
  | 0, _, _, _, _ => none
  | n + 1, σ, x0, x1, x2 => if (σ x0 7) ≤ x2 then (some (x1, σ)) else (ck x2 12 (f_X0_sumOfSizes_4 N R n σ x0 (x1 + (σ (R x0 0) x2.toNatClampNeg)) (x2 + 1)))
def f_X0_sumOfSizes (N : Nat) (R : Nat → Nat → Nat) (σ : SI) (x0 : Nat) : Option (Int32 × SI) := f_X0_sumOfSizes_4 N R N σ x0 (0 : Int32) (0 : Int32)
set_option maxHeartbeats 4000000 in
set_option maxRecDepth 100000 in
theorem w_X0_sumOfSizes_4 {l : Launch} {g : GL} {p : Program} {e : Jvm.Env} {s : State} {m : MethodId} {args : Array Value} {below : List Frame} {meth : Method} {c : Code} {R : Nat → Nat → Nat} {L : Nat → Nat → Int64} {r : (Int32 × SI)} {N : Nat} (C : Cx l g p s m meth c cX0_sumOfSizes 3 RX0) (hr : meth.sig.returnType = (some .int)) (hSh : ShR R) : ∀ (n : Nat) (σ : SI) (x0 : Nat) (x1 : Int32) (x2 : Int32), f_X0_sumOfSizes_4 N R n σ x0 x1 x2 = some r → Ok 194 x0 0 → ∀ (H : Heap) (locs : List Loc) (ls : Array Slot), S2 g s σ R L H locs → lv_has ls 3 [(0, .ref (gb g + x0)), (1, .int x1), (2, .int x2)] → W p l e (rmd 1 0 0) s m args below meth c H locs 0 0 (MQ below (Qg g 194 (PI R L r)) args s 0 0 (gA g)) (F0 m 4 ls []) := by
  have hx := C.1
  have hb := C.2.1
  intro n
  induction n with
  | zero =>
    intro σ x0 x1 x2 h
    cases (show (none : Option (Int32 × SI)) = some r from h)
  | succ n ih =>
    intro σ x0 x1 x2 h hx0 H locs ls S hl
    rw [f_X0_sumOfSizes_4] at h
    refine lv_iload_n hx hb dX0_sumOfSizes_4 rfl (lv_at hl 2 rfl) ?_
    refine lv_aload_n hx hb dX0_sumOfSizes_5 rfl (lv_at hl 0 rfl) ?_
    refine x_getI C S KX0 hx0 7 (by decide) rfl rfl fl_RX0_24 dX0_sumOfSizes_6 ?_
    refine lv_icmp_ge (tgt := 27) hx hb dX0_sumOfSizes_9 (by decide) (fun c1 => ?_) (fun c1 => ?_)
    · have h := it_p c1 h
      refine lv_iload_n hx hb dX0_sumOfSizes_27 rfl (lv_at hl 1 rfl) ?_
      exact x_iret C S hr h dX0_sumOfSizes_28
    · have h := it_n c1 h
      refine lv_iload_n hx hb dX0_sumOfSizes_12 rfl (lv_at hl 1 rfl) ?_
      refine lv_aload_n hx hb dX0_sumOfSizes_13 rfl (lv_at hl 0 rfl) ?_
      have hR2 : Ok 194 (R x0 0) 10012 := hSh x0 0 0 10012 hx0.1 rfl
      refine x_getR C S KX0 hx0 0 (by decide) rfl rfl fl_RX0_9 hR2 dX0_sumOfSizes_14 ?_
      refine lv_iload_n hx hb dX0_sumOfSizes_17 rfl (lv_at hl 2 rfl) ?_
      obtain ⟨hi3, h⟩ := ck_el h
      refine x_iald (len := 12) C S (by decide) hR2 hi3 dX0_sumOfSizes_18 ?_
      refine lv_iadd hx hb dX0_sumOfSizes_19 ?_
      refine lv_istore_n (lv' := [(1, .int (x1 + (σ (R x0 0) x2.toNatClampNeg))), (0, .ref (gb g + x0)), (2, .int x2)]) hx hb dX0_sumOfSizes_20 rfl hl (by decide) rfl (fun ls hl => ?_)
      refine lv_iinc (v := x2 + 1) (lv' := [(2, .int (x2 + 1)), (1, .int (x1 + (σ (R x0 0) x2.toNatClampNeg))), (0, .ref (gb g + x0))]) hx hb dX0_sumOfSizes_21 hl (k := 2) rfl rfl (by decide) rfl (fun ls hl => ?_)
      refine lv_goto (tgt := 4) hx hb dX0_sumOfSizes_24 (by decide) ?_
      exact ih σ x0 (x1 + (σ (R x0 0) x2.toNatClampNeg)) (x2 + 1) h hx0 H locs ls S (lv_sub hl [2, 1, 0] rfl)
set_option maxHeartbeats 4000000 in
set_option maxRecDepth 100000 in
theorem ok_X0_sumOfSizes {l : Launch} {g : GL} {R : Nat → Nat → Nat} {L : Nat → Nat → Int64} {N : Nat} {σ : SI} {x0 : Nat} {r : (Int32 × SI)} (h : f_X0_sumOfSizes N R σ x0 = some r) (hSh : ShR R) (hx0 : Ok 194 x0 0) : Ct l g 1 yX0_sumOfSizes cX0_sumOfSizes 3 (some .int) 194 194 0 0 [.ref (gb g + x0)] (mkS σ R L) (PI R L r) := by
  refine Met.ofW (cc := cX0_sumOfSizes) (maxL := 3) (ret := (some .int)) (by decide) rfl ?_
  intro p e s m args below meth c s₁ B hml hv
  obtain ⟨rfl, hE, hLo, hWd⟩ := hv
  have hr : meth.sig.returnType = (some .int) := B.returns
  have C : Cx l g p s m meth c cX0_sumOfSizes 3 RX0 := ⟨B.exec, B.bytes, hml, findClass_of_methodNamed B.named, hE, hLo, B.notSynchronized⟩
  have S : S2 g s σ R L s.heap [] := ⟨hWd, va_S.rf⟩
  have hx := C.1
  have hb := C.2.1
  have hl := lv_entry ([.ref (gb g + x0)]) (n := 3) (Nat.le_of_ble_eq_true rfl)
  rw [lg_entry_eq]
  generalize (lg_sl ([.ref (gb g + x0)]) ++ List.replicate (3 - (lg_sl ([.ref (gb g + x0)])).length) Slot.unset).toArray = ls at hl ⊢
  have hl : lv_has ls 3 [(0, .ref (gb g + x0))] := hl
  generalize hH : s.heap = H at S ⊢
  generalize hlc : ([] : List Loc) = locs at S ⊢
  rw [f_X0_sumOfSizes] at h
  refine lv_iconst (v := (0 : Int32)) hx hb dX0_sumOfSizes_0 (by decide) ?_
  refine lv_istore_n (lv' := [(1, .int (0 : Int32)), (0, .ref (gb g + x0))]) hx hb dX0_sumOfSizes_1 rfl hl (by decide) rfl (fun ls hl => ?_)
  refine lv_iconst (v := (0 : Int32)) hx hb dX0_sumOfSizes_2 (by decide) ?_
  refine lv_istore_n (lv' := [(2, .int (0 : Int32)), (1, .int (0 : Int32)), (0, .ref (gb g + x0))]) hx hb dX0_sumOfSizes_3 rfl hl (by decide) rfl (fun ls hl => ?_)
  exact w_X0_sumOfSizes_4 C hr hSh N σ x0 (0 : Int32) (0 : Int32) h hx0 H locs ls S (lv_sub hl [2, 1, 0] rfl)
theorem dX0_spanOfDelays_0 : decode cX0_spanOfDelays 0 = .ok (.aload_n 0, 1) := by decide +kernel
theorem dX0_spanOfDelays_1 : decode cX0_spanOfDelays 1 = .ok (.getfield 15, 3) := by decide +kernel
theorem dX0_spanOfDelays_4 : decode cX0_spanOfDelays 4 = .ok (.iconst 0, 1) := by decide +kernel
theorem dX0_spanOfDelays_5 : decode cX0_spanOfDelays 5 = .ok (.iaload, 1) := by decide +kernel
theorem dX0_spanOfDelays_6 : decode cX0_spanOfDelays 6 = .ok (.istore_n 1, 1) := by decide +kernel
theorem dX0_spanOfDelays_7 : decode cX0_spanOfDelays 7 = .ok (.aload_n 0, 1) := by decide +kernel
theorem dX0_spanOfDelays_8 : decode cX0_spanOfDelays 8 = .ok (.getfield 15, 3) := by decide +kernel
theorem dX0_spanOfDelays_11 : decode cX0_spanOfDelays 11 = .ok (.iconst 0, 1) := by decide +kernel
theorem dX0_spanOfDelays_12 : decode cX0_spanOfDelays 12 = .ok (.iaload, 1) := by decide +kernel
theorem dX0_spanOfDelays_13 : decode cX0_spanOfDelays 13 = .ok (.istore_n 2, 1) := by decide +kernel
theorem dX0_spanOfDelays_14 : decode cX0_spanOfDelays 14 = .ok (.iconst 1, 1) := by decide +kernel
theorem dX0_spanOfDelays_15 : decode cX0_spanOfDelays 15 = .ok (.istore_n 3, 1) := by decide +kernel
theorem dX0_spanOfDelays_16 : decode cX0_spanOfDelays 16 = .ok (.iload_n 3, 1) := by decide +kernel
theorem dX0_spanOfDelays_17 : decode cX0_spanOfDelays 17 = .ok (.aload_n 0, 1) := by decide +kernel
theorem dX0_spanOfDelays_18 : decode cX0_spanOfDelays 18 = .ok (.getfield 24, 3) := by decide +kernel
theorem dX0_spanOfDelays_21 : decode cX0_spanOfDelays 21 = .ok (.if_icmp .ge 31, 3) := by decide +kernel
theorem dX0_spanOfDelays_24 : decode cX0_spanOfDelays 24 = .ok (.iload_n 1, 1) := by decide +kernel
theorem dX0_spanOfDelays_25 : decode cX0_spanOfDelays 25 = .ok (.aload_n 0, 1) := by decide +kernel
theorem dX0_spanOfDelays_26 : decode cX0_spanOfDelays 26 = .ok (.getfield 15, 3) := by decide +kernel
theorem dX0_spanOfDelays_29 : decode cX0_spanOfDelays 29 = .ok (.iload_n 3, 1) := by decide +kernel
theorem dX0_spanOfDelays_30 : decode cX0_spanOfDelays 30 = .ok (.iaload, 1) := by decide +kernel
theorem dX0_spanOfDelays_31 : decode cX0_spanOfDelays 31 = .ok (.invokestatic 28, 3) := by decide +kernel
theorem dX0_spanOfDelays_34 : decode cX0_spanOfDelays 34 = .ok (.istore_n 1, 1) := by decide +kernel
theorem dX0_spanOfDelays_35 : decode cX0_spanOfDelays 35 = .ok (.iload_n 2, 1) := by decide +kernel
theorem dX0_spanOfDelays_36 : decode cX0_spanOfDelays 36 = .ok (.aload_n 0, 1) := by decide +kernel
theorem dX0_spanOfDelays_37 : decode cX0_spanOfDelays 37 = .ok (.getfield 15, 3) := by decide +kernel
theorem dX0_spanOfDelays_40 : decode cX0_spanOfDelays 40 = .ok (.iload_n 3, 1) := by decide +kernel
theorem dX0_spanOfDelays_41 : decode cX0_spanOfDelays 41 = .ok (.iaload, 1) := by decide +kernel
theorem dX0_spanOfDelays_42 : decode cX0_spanOfDelays 42 = .ok (.invokestatic 34, 3) := by decide +kernel
theorem dX0_spanOfDelays_45 : decode cX0_spanOfDelays 45 = .ok (.istore_n 2, 1) := by decide +kernel
theorem dX0_spanOfDelays_46 : decode cX0_spanOfDelays 46 = .ok (.iinc 3 1, 3) := by decide +kernel
theorem dX0_spanOfDelays_49 : decode cX0_spanOfDelays 49 = .ok (.goto (-33), 3) := by decide +kernel
theorem dX0_spanOfDelays_52 : decode cX0_spanOfDelays 52 = .ok (.iload_n 2, 1) := by decide +kernel
theorem dX0_spanOfDelays_53 : decode cX0_spanOfDelays 53 = .ok (.iload_n 1, 1) := by decide +kernel
theorem dX0_spanOfDelays_54 : decode cX0_spanOfDelays 54 = .ok (.isub, 1) := by decide +kernel
theorem dX0_spanOfDelays_55 : decode cX0_spanOfDelays 55 = .ok (.ireturn, 1) := by decide +kernel
def f_X0_spanOfDelays_16 (N : Nat) (R : Nat → Nat → Nat) : Nat → SI → Nat → Int32 → Int32 → Int32 → Option (Int32 × SI)
  | 0, _, _, _, _, _ => none
  | n + 1, σ, x0, x1, x2, x3 => if (σ x0 7) ≤ x3 then (some (x2 - x1, σ)) else (ck x3 12 (ck x3 12 (f_X0_spanOfDelays_16 N R n σ x0 (if (σ (R x0 1) x3.toNatClampNeg) < x1 then (σ (R x0 1) x3.toNatClampNeg) else x1) (if x2 < (σ (R x0 1) x3.toNatClampNeg) then (σ (R x0 1) x3.toNatClampNeg) else x2) (x3 + 1))))
def f_X0_spanOfDelays (N : Nat) (R : Nat → Nat → Nat) (σ : SI) (x0 : Nat) : Option (Int32 × SI) := ck (0 : Int32) 12 (ck (0 : Int32) 12 (f_X0_spanOfDelays_16 N R N σ x0 (σ (R x0 1) (0 : Int32).toNatClampNeg) (σ (R x0 1) (0 : Int32).toNatClampNeg) (1 : Int32)))
set_option maxHeartbeats 4000000 in
set_option maxRecDepth 100000 in
theorem w_X0_spanOfDelays_16 {l : Launch} {g : GL} {p : Program} {e : Jvm.Env} {s : State} {m : MethodId} {args : Array Value} {below : List Frame} {meth : Method} {c : Code} {R : Nat → Nat → Nat} {L : Nat → Nat → Int64} {r : (Int32 × SI)} {N : Nat} (C : Cx l g p s m meth c cX0_spanOfDelays 4 RX0) (hr : meth.sig.returnType = (some .int)) (hSh : ShR R) : ∀ (n : Nat) (σ : SI) (x0 : Nat) (x1 : Int32) (x2 : Int32) (x3 : Int32), f_X0_spanOfDelays_16 N R n σ x0 x1 x2 x3 = some r → Ok 194 x0 0 → ∀ (H : Heap) (locs : List Loc) (ls : Array Slot), S2 g s σ R L H locs → lv_has ls 4 [(0, .ref (gb g + x0)), (1, .int x1), (2, .int x2), (3, .int x3)] → W p l e (rmd 1 0 0) s m args below meth c H locs 0 0 (MQ below (Qg g 194 (PI R L r)) args s 0 0 (gA g)) (F0 m 16 ls []) := by
  have hx := C.1
  have hb := C.2.1
  intro n
  induction n with
  | zero =>
    intro σ x0 x1 x2 x3 h
    cases (show (none : Option (Int32 × SI)) = some r from h)
  | succ n ih =>
    intro σ x0 x1 x2 x3 h hx0 H locs ls S hl
    rw [f_X0_spanOfDelays_16] at h
    refine lv_iload_n hx hb dX0_spanOfDelays_16 rfl (lv_at hl 3 rfl) ?_
    refine lv_aload_n hx hb dX0_spanOfDelays_17 rfl (lv_at hl 0 rfl) ?_
    refine x_getI C S KX0 hx0 7 (by decide) rfl rfl fl_RX0_24 dX0_spanOfDelays_18 ?_
    refine lv_icmp_ge (tgt := 52) hx hb dX0_spanOfDelays_21 (by decide) (fun c5 => ?_) (fun c5 => ?_)
    · have h := it_p c5 h
      refine lv_iload_n hx hb dX0_spanOfDelays_52 rfl (lv_at hl 2 rfl) ?_
      refine lv_iload_n hx hb dX0_spanOfDelays_53 rfl (lv_at hl 1 rfl) ?_
      refine lv_isub hx hb dX0_spanOfDelays_54 ?_
      exact x_iret C S hr h dX0_spanOfDelays_55
    · have h := it_n c5 h
      refine lv_iload_n hx hb dX0_spanOfDelays_24 rfl (lv_at hl 1 rfl) ?_
      refine lv_aload_n hx hb dX0_spanOfDelays_25 rfl (lv_at hl 0 rfl) ?_
      have hR6 : Ok 194 (R x0 1) 10012 := hSh x0 0 1 10012 hx0.1 rfl
      refine x_getR C S KX0 hx0 1 (by decide) rfl rfl fl_RX0_15 hR6 dX0_spanOfDelays_26 ?_
      refine lv_iload_n hx hb dX0_spanOfDelays_29 rfl (lv_at hl 3 rfl) ?_
      obtain ⟨hi7, h⟩ := ck_el h
      refine x_iald (len := 12) C S (by decide) hR6 hi7 dX0_spanOfDelays_30 ?_
      refine x_min C hl.1 ⟨ml_RX0_28, st_math_min, ni_math, cd_math_min⟩ (Nat.le_of_ble_eq_true rfl) (Nat.le_of_ble_eq_true rfl) (Nat.le_of_ble_eq_true rfl) (Nat.le_of_ble_eq_true rfl) dX0_spanOfDelays_31 ?_
      refine lv_istore_n (lv' := [(1, .int (if (σ (R x0 1) x3.toNatClampNeg) < x1 then (σ (R x0 1) x3.toNatClampNeg) else x1)), (0, .ref (gb g + x0)), (2, .int x2), (3, .int x3)]) hx hb dX0_spanOfDelays_34 rfl hl (by decide) rfl (fun ls hl => ?_)
      refine lv_iload_n hx hb dX0_spanOfDelays_35 rfl (lv_at hl 2 rfl) ?_
      refine lv_aload_n hx hb dX0_spanOfDelays_36 rfl (lv_at hl 1 rfl) ?_
      have hR8 : Ok 194 (R x0 1) 10012 := hSh x0 0 1 10012 hx0.1 rfl
      refine x_getR C S KX0 hx0 1 (by decide) rfl rfl fl_RX0_15 hR8 dX0_spanOfDelays_37 ?_
      refine lv_iload_n hx hb dX0_spanOfDelays_40 rfl (lv_at hl 3 rfl) ?_
      obtain ⟨hi9, h⟩ := ck_el h
      refine x_iald (len := 12) C S (by decide) hR8 hi9 dX0_spanOfDelays_41 ?_
      refine x_max C hl.1 ⟨ml_RX0_34, st_math_max, ni_math, cd_math_max⟩ (Nat.le_of_ble_eq_true rfl) (Nat.le_of_ble_eq_true rfl) (Nat.le_of_ble_eq_true rfl) (Nat.le_of_ble_eq_true rfl) dX0_spanOfDelays_42 ?_
      refine lv_istore_n (lv' := [(2, .int (if x2 < (σ (R x0 1) x3.toNatClampNeg) then (σ (R x0 1) x3.toNatClampNeg) else x2)), (1, .int (if (σ (R x0 1) x3.toNatClampNeg) < x1 then (σ (R x0 1) x3.toNatClampNeg) else x1)), (0, .ref (gb g + x0)), (3, .int x3)]) hx hb dX0_spanOfDelays_45 rfl hl (by decide) rfl (fun ls hl => ?_)
      refine lv_iinc (v := x3 + 1) (lv' := [(3, .int (x3 + 1)), (2, .int (if x2 < (σ (R x0 1) x3.toNatClampNeg) then (σ (R x0 1) x3.toNatClampNeg) else x2)), (1, .int (if (σ (R x0 1) x3.toNatClampNeg) < x1 then (σ (R x0 1) x3.toNatClampNeg) else x1)), (0, .ref (gb g + x0))]) hx hb dX0_spanOfDelays_46 hl (k := 3) rfl rfl (by decide) rfl (fun ls hl => ?_)
      refine lv_goto (tgt := 16) hx hb dX0_spanOfDelays_49 (by decide) ?_
      exact ih σ x0 (if (σ (R x0 1) x3.toNatClampNeg) < x1 then (σ (R x0 1) x3.toNatClampNeg) else x1) (if x2 < (σ (R x0 1) x3.toNatClampNeg) then (σ (R x0 1) x3.toNatClampNeg) else x2) (x3 + 1) h hx0 H locs ls S (lv_sub hl [3, 2, 1, 0] rfl)
set_option maxHeartbeats 4000000 in
set_option maxRecDepth 100000 in
theorem ok_X0_spanOfDelays {l : Launch} {g : GL} {R : Nat → Nat → Nat} {L : Nat → Nat → Int64} {N : Nat} {σ : SI} {x0 : Nat} {r : (Int32 × SI)} (h : f_X0_spanOfDelays N R σ x0 = some r) (hSh : ShR R) (hx0 : Ok 194 x0 0) : Ct l g 1 yX0_spanOfDelays cX0_spanOfDelays 4 (some .int) 194 194 0 0 [.ref (gb g + x0)] (mkS σ R L) (PI R L r) := by
  refine Met.ofW (cc := cX0_spanOfDelays) (maxL := 4) (ret := (some .int)) (by decide) rfl ?_
  intro p e s m args below meth c s₁ B hml hv
  obtain ⟨rfl, hE, hLo, hWd⟩ := hv
  have hr : meth.sig.returnType = (some .int) := B.returns
  have C : Cx l g p s m meth c cX0_spanOfDelays 4 RX0 := ⟨B.exec, B.bytes, hml, findClass_of_methodNamed B.named, hE, hLo, B.notSynchronized⟩
  have S : S2 g s σ R L s.heap [] := ⟨hWd, va_S.rf⟩
  have hx := C.1
  have hb := C.2.1
  have hl := lv_entry ([.ref (gb g + x0)]) (n := 4) (Nat.le_of_ble_eq_true rfl)
  rw [lg_entry_eq]
  generalize (lg_sl ([.ref (gb g + x0)]) ++ List.replicate (4 - (lg_sl ([.ref (gb g + x0)])).length) Slot.unset).toArray = ls at hl ⊢
  have hl : lv_has ls 4 [(0, .ref (gb g + x0))] := hl
  generalize hH : s.heap = H at S ⊢
  generalize hlc : ([] : List Loc) = locs at S ⊢
  rw [f_X0_spanOfDelays] at h
  refine lv_aload_n hx hb dX0_spanOfDelays_0 rfl (lv_at hl 0 rfl) ?_
  have hR1 : Ok 194 (R x0 1) 10012 := hSh x0 0 1 10012 hx0.1 rfl
  refine x_getR C S KX0 hx0 1 (by decide) rfl rfl fl_RX0_15 hR1 dX0_spanOfDelays_1 ?_
  refine lv_iconst (v := (0 : Int32)) hx hb dX0_spanOfDelays_4 (by decide) ?_
  obtain ⟨hi2, h⟩ := ck_el h
  refine x_iald (len := 12) C S (by decide) hR1 hi2 dX0_spanOfDelays_5 ?_
  refine lv_istore_n (lv' := [(1, .int (σ (R x0 1) (0 : Int32).toNatClampNeg)), (0, .ref (gb g + x0))]) hx hb dX0_spanOfDelays_6 rfl hl (by decide) rfl (fun ls hl => ?_)
  refine lv_aload_n hx hb dX0_spanOfDelays_7 rfl (lv_at hl 1 rfl) ?_
  have hR3 : Ok 194 (R x0 1) 10012 := hSh x0 0 1 10012 hx0.1 rfl
  refine x_getR C S KX0 hx0 1 (by decide) rfl rfl fl_RX0_15 hR3 dX0_spanOfDelays_8 ?_
  refine lv_iconst (v := (0 : Int32)) hx hb dX0_spanOfDelays_11 (by decide) ?_
  obtain ⟨hi4, h⟩ := ck_el h
  refine x_iald (len := 12) C S (by decide) hR3 hi4 dX0_spanOfDelays_12 ?_
  refine lv_istore_n (lv' := [(2, .int (σ (R x0 1) (0 : Int32).toNatClampNeg)), (1, .int (σ (R x0 1) (0 : Int32).toNatClampNeg)), (0, .ref (gb g + x0))]) hx hb dX0_spanOfDelays_13 rfl hl (by decide) rfl (fun ls hl => ?_)
  refine lv_iconst (v := (1 : Int32)) hx hb dX0_spanOfDelays_14 (by decide) ?_
  refine lv_istore_n (lv' := [(3, .int (1 : Int32)), (2, .int (σ (R x0 1) (0 : Int32).toNatClampNeg)), (1, .int (σ (R x0 1) (0 : Int32).toNatClampNeg)), (0, .ref (gb g + x0))]) hx hb dX0_spanOfDelays_15 rfl hl (by decide) rfl (fun ls hl => ?_)
  exact w_X0_spanOfDelays_16 C hr hSh N σ x0 (σ (R x0 1) (0 : Int32).toNatClampNeg) (σ (R x0 1) (0 : Int32).toNatClampNeg) (1 : Int32) h hx0 H locs ls S (lv_sub hl [3, 2, 1, 0] rfl)
theorem dX0_sumFromDelay_0 : decode cX0_sumFromDelay 0 = .ok (.iconst 0, 1) := by decide +kernel
theorem dX0_sumFromDelay_1 : decode cX0_sumFromDelay 1 = .ok (.istore_n 2, 1) := by decide +kernel
theorem dX0_sumFromDelay_2 : decode cX0_sumFromDelay 2 = .ok (.iconst 0, 1) := by decide +kernel
theorem dX0_sumFromDelay_3 : decode cX0_sumFromDelay 3 = .ok (.istore_n 3, 1) := by decide +kernel
theorem dX0_sumFromDelay_4 : decode cX0_sumFromDelay 4 = .ok (.iload_n 3, 1) := by decide +kernel
theorem dX0_sumFromDelay_5 : decode cX0_sumFromDelay 5 = .ok (.aload_n 0, 1) := by decide +kernel
theorem dX0_sumFromDelay_6 : decode cX0_sumFromDelay 6 = .ok (.getfield 24, 3) := by decide +kernel
theorem dX0_sumFromDelay_9 : decode cX0_sumFromDelay 9 = .ok (.if_icmp .ge 41, 3) := by decide +kernel
theorem dX0_sumFromDelay_12 : decode cX0_sumFromDelay 12 = .ok (.aload_n 0, 1) := by decide +kernel
theorem dX0_sumFromDelay_13 : decode cX0_sumFromDelay 13 = .ok (.getfield 15, 3) := by decide +kernel
theorem dX0_sumFromDelay_16 : decode cX0_sumFromDelay 16 = .ok (.iload_n 3, 1) := by decide +kernel
theorem dX0_sumFromDelay_17 : decode cX0_sumFromDelay 17 = .ok (.iaload, 1) := by decide +kernel
theorem dX0_sumFromDelay_18 : decode cX0_sumFromDelay 18 = .ok (.iload_n 1, 1) := by decide +kernel
theorem dX0_sumFromDelay_19 : decode cX0_sumFromDelay 19 = .ok (.if_icmp .lt 25, 3) := by decide +kernel
theorem dX0_sumFromDelay_22 : decode cX0_sumFromDelay 22 = .ok (.aload_n 0, 1) := by decide +kernel
theorem dX0_sumFromDelay_23 : decode cX0_sumFromDelay 23 = .ok (.getfield 15, 3) := by decide +kernel
theorem dX0_sumFromDelay_26 : decode cX0_sumFromDelay 26 = .ok (.iload_n 3, 1) := by decide +kernel
theorem dX0_sumFromDelay_27 : decode cX0_sumFromDelay 27 = .ok (.iaload, 1) := by decide +kernel
theorem dX0_sumFromDelay_28 : decode cX0_sumFromDelay 28 = .ok (.iload_n 1, 1) := by decide +kernel
theorem dX0_sumFromDelay_29 : decode cX0_sumFromDelay 29 = .ok (.bipush 7, 2) := by decide +kernel
theorem dX0_sumFromDelay_31 : decode cX0_sumFromDelay 31 = .ok (.iadd, 1) := by decide +kernel
theorem dX0_sumFromDelay_32 : decode cX0_sumFromDelay 32 = .ok (.if_icmp .gt 12, 3) := by decide +kernel
theorem dX0_sumFromDelay_35 : decode cX0_sumFromDelay 35 = .ok (.iload_n 2, 1) := by decide +kernel
theorem dX0_sumFromDelay_36 : decode cX0_sumFromDelay 36 = .ok (.aload_n 0, 1) := by decide +kernel
theorem dX0_sumFromDelay_37 : decode cX0_sumFromDelay 37 = .ok (.getfield 9, 3) := by decide +kernel
theorem dX0_sumFromDelay_40 : decode cX0_sumFromDelay 40 = .ok (.iload_n 3, 1) := by decide +kernel
theorem dX0_sumFromDelay_41 : decode cX0_sumFromDelay 41 = .ok (.iaload, 1) := by decide +kernel
theorem dX0_sumFromDelay_42 : decode cX0_sumFromDelay 42 = .ok (.iadd, 1) := by decide +kernel
theorem dX0_sumFromDelay_43 : decode cX0_sumFromDelay 43 = .ok (.istore_n 2, 1) := by decide +kernel
theorem dX0_sumFromDelay_44 : decode cX0_sumFromDelay 44 = .ok (.iinc 3 1, 3) := by decide +kernel
theorem dX0_sumFromDelay_47 : decode cX0_sumFromDelay 47 = .ok (.goto (-43), 3) := by decide +kernel
theorem dX0_sumFromDelay_50 : decode cX0_sumFromDelay 50 = .ok (.iload_n 2, 1) := by decide +kernel
theorem dX0_sumFromDelay_51 : decode cX0_sumFromDelay 51 = .ok (.ireturn, 1) := by decide +kernel
def f_X0_sumFromDelay_44 (N : Nat) (R : Nat → Nat → Nat) (k4 : SI → Nat → Int32 → Int32 → Int32 → Option (Int32 × SI)) (σ : SI) (x0 : Nat) (x1 : Int32) (x2 : Int32) (x3 : Int32) : Option (Int32 × SI) := k4 σ x0 x1 x2 (x3 + 1)
def f_X0_sumFromDelay_4 (N : Nat) (R : Nat → Nat → Nat) : Nat → SI → Nat → Int32 → Int32 → Int32 → Option (Int32 × SI)
  | 0, _, _, _, _, _ => none
  | n + 1, σ, x0, x1, x2, x3 => if (σ x0 7) ≤ x3 then (some (x2, σ)) else (ck x3 12 (if (σ (R x0 1) x3.toNatClampNeg) < x1 then (f_X0_sumFromDelay_44 N R (fun σ x0 x1 x2 x3 => f_X0_sumFromDelay_4 N R n σ x0 x1 x2 x3) σ x0 x1 x2 x3) else (ck x3 12 (if (x1 + (7 : Int32)) < (σ (R x0 1) x3.toNatClampNeg) then (f_X0_sumFromDelay_44 N R (fun σ x0 x1 x2 x3 => f_X0_sumFromDelay_4 N R n σ x0 x1 x2 x3) σ x0 x1 x2 x3) else (ck x3 12 (f_X0_sumFromDelay_44 N R (fun σ x0 x1 x2 x3 => f_X0_sumFromDelay_4 N R n σ x0 x1 x2 x3) σ x0 x1 (x2 + (σ (R x0 0) x3.toNatClampNeg)) x3))))))
def f_X0_sumFromDelay (N : Nat) (R : Nat → Nat → Nat) (σ : SI) (x0 : Nat) (x1 : Int32) : Option (Int32 × SI) := f_X0_sumFromDelay_4 N R N σ x0 x1 (0 : Int32) (0 : Int32)
set_option maxHeartbeats 4000000 in
set_option maxRecDepth 100000 in
theorem w_X0_sumFromDelay_44 {l : Launch} {g : GL} {p : Program} {e : Jvm.Env} {s : State} {m : MethodId} {args : Array Value} {below : List Frame} {meth : Method} {c : Code} {R : Nat → Nat → Nat} {L : Nat → Nat → Int64} {r : (Int32 × SI)} {N : Nat} {k4 : SI → Nat → Int32 → Int32 → Int32 → Option (Int32 × SI)} (C : Cx l g p s m meth c cX0_sumFromDelay 4 RX0) (hr : meth.sig.returnType = (some .int)) (hSh : ShR R) (hk4 : ∀ (σ : SI) (x0 : Nat) (x1 : Int32) (x2 : Int32) (x3 : Int32), k4 σ x0 x1 x2 x3 = some r → Ok 194 x0 0 → ∀ (H : Heap) (locs : List Loc) (ls : Array Slot), S2 g s σ R L H locs → lv_has ls 4 [(0, .ref (gb g + x0)), (1, .int x1), (2, .int x2), (3, .int x3)] → W p l e (rmd 1 0 0) s m args below meth c H locs 0 0 (MQ below (Qg g 194 (PI R L r)) args s 0 0 (gA g)) (F0 m 4 ls [])) : ∀ (σ : SI) (x0 : Nat) (x1 : Int32) (x2 : Int32) (x3 : Int32), f_X0_sumFromDelay_44 N R k4 σ x0 x1 x2 x3 = some r → Ok 194 x0 0 → ∀ (H : Heap) (locs : List Loc) (ls : Array Slot), S2 g s σ R L H locs → lv_has ls 4 [(0, .ref (gb g + x0)), (1, .int x1), (2, .int x2), (3, .int x3)] → W p l e (rmd 1 0 0) s m args below meth c H locs 0 0 (MQ below (Qg g 194 (PI R L r)) args s 0 0 (gA g)) (F0 m 44 ls []) := by
  have hx := C.1
  have hb := C.2.1
  intro σ x0 x1 x2 x3 h hx0 H locs ls S hl
  rw [f_X0_sumFromDelay_44] at h
  refine lv_iinc (v := x3 + 1) (lv' := [(3, .int (x3 + 1)), (0, .ref (gb g + x0)), (1, .int x1), (2, .int x2)]) hx hb dX0_sumFromDelay_44 hl (k := 3) rfl rfl (by decide) rfl (fun ls hl => ?_)
  refine lv_goto (tgt := 4) hx hb dX0_sumFromDelay_47 (by decide) ?_
  exact hk4 σ x0 x1 x2 (x3 + 1) h hx0 H locs ls S (lv_sub hl [1, 2, 3, 0] rfl)
set_option maxHeartbeats 4000000 in
set_option maxRecDepth 100000 in
theorem w_X0_sumFromDelay_4 {l : Launch} {g : GL} {p : Program} {e : Jvm.Env} {s : State} {m : MethodId} {args : Array Value} {below : List Frame} {meth : Method} {c : Code} {R : Nat → Nat → Nat} {L : Nat → Nat → Int64} {r : (Int32 × SI)} {N : Nat} (C : Cx l g p s m meth c cX0_sumFromDelay 4 RX0) (hr : meth.sig.returnType = (some .int)) (hSh : ShR R) : ∀ (n : Nat) (σ : SI) (x0 : Nat) (x1 : Int32) (x2 : Int32) (x3 : Int32), f_X0_sumFromDelay_4 N R n σ x0 x1 x2 x3 = some r → Ok 194 x0 0 → ∀ (H : Heap) (locs : List Loc) (ls : Array Slot), S2 g s σ R L H locs → lv_has ls 4 [(0, .ref (gb g + x0)), (1, .int x1), (2, .int x2), (3, .int x3)] → W p l e (rmd 1 0 0) s m args below meth c H locs 0 0 (MQ below (Qg g 194 (PI R L r)) args s 0 0 (gA g)) (F0 m 4 ls []) := by
  have hx := C.1
  have hb := C.2.1
  intro n
  induction n with
  | zero =>
    intro σ x0 x1 x2 x3 h
    cases (show (none : Option (Int32 × SI)) = some r from h)
  | succ n ih =>
    intro σ x0 x1 x2 x3 h hx0 H locs ls S hl
    rw [f_X0_sumFromDelay_4] at h
    refine lv_iload_n hx hb dX0_sumFromDelay_4 rfl (lv_at hl 3 rfl) ?_
    refine lv_aload_n hx hb dX0_sumFromDelay_5 rfl (lv_at hl 0 rfl) ?_
    refine x_getI C S KX0 hx0 7 (by decide) rfl rfl fl_RX0_24 dX0_sumFromDelay_6 ?_
    refine lv_icmp_ge (tgt := 50) hx hb dX0_sumFromDelay_9 (by decide) (fun c1 => ?_) (fun c1 => ?_)
    · have h := it_p c1 h
      refine lv_iload_n hx hb dX0_sumFromDelay_50 rfl (lv_at hl 2 rfl) ?_
      exact x_iret C S hr h dX0_sumFromDelay_51
    · have h := it_n c1 h
      refine lv_aload_n hx hb dX0_sumFromDelay_12 rfl (lv_at hl 0 rfl) ?_
      have hR2 : Ok 194 (R x0 1) 10012 := hSh x0 0 1 10012 hx0.1 rfl
      refine x_getR C S KX0 hx0 1 (by decide) rfl rfl fl_RX0_15 hR2 dX0_sumFromDelay_13 ?_
      refine lv_iload_n hx hb dX0_sumFromDelay_16 rfl (lv_at hl 3 rfl) ?_
      obtain ⟨hi3, h⟩ := ck_el h
      refine x_iald (len := 12) C S (by decide) hR2 hi3 dX0_sumFromDelay_17 ?_
      refine lv_iload_n hx hb dX0_sumFromDelay_18 rfl (lv_at hl 1 rfl) ?_
      refine lv_icmp_lt (tgt := 44) hx hb dX0_sumFromDelay_19 (by decide) (fun c4 => ?_) (fun c4 => ?_)
      · have h := it_p c4 h
        exact w_X0_sumFromDelay_44 C hr hSh ih σ x0 x1 x2 x3 h hx0 H locs ls S (lv_sub hl [0, 1, 2, 3] rfl)
      · have h := it_n c4 h
        refine lv_aload_n hx hb dX0_sumFromDelay_22 rfl (lv_at hl 0 rfl) ?_
        have hR5 : Ok 194 (R x0 1) 10012 := hSh x0 0 1 10012 hx0.1 rfl
        refine x_getR C S KX0 hx0 1 (by decide) rfl rfl fl_RX0_15 hR5 dX0_sumFromDelay_23 ?_
        refine lv_iload_n hx hb dX0_sumFromDelay_26 rfl (lv_at hl 3 rfl) ?_
        obtain ⟨hi6, h⟩ := ck_el h
        refine x_iald (len := 12) C S (by decide) hR5 hi6 dX0_sumFromDelay_27 ?_
        refine lv_iload_n hx hb dX0_sumFromDelay_28 rfl (lv_at hl 1 rfl) ?_
        refine lv_bipush (v := (7 : Int32)) hx hb dX0_sumFromDelay_29 (by decide) ?_
        refine lv_iadd hx hb dX0_sumFromDelay_31 ?_
        refine lv_icmp_gt (tgt := 44) hx hb dX0_sumFromDelay_32 (by decide) (fun c7 => ?_) (fun c7 => ?_)
        · have h := it_p c7 h
          exact w_X0_sumFromDelay_44 C hr hSh ih σ x0 x1 x2 x3 h hx0 H locs ls S (lv_sub hl [0, 1, 2, 3] rfl)
        · have h := it_n c7 h
          refine lv_iload_n hx hb dX0_sumFromDelay_35 rfl (lv_at hl 2 rfl) ?_
          refine lv_aload_n hx hb dX0_sumFromDelay_36 rfl (lv_at hl 0 rfl) ?_
          have hR8 : Ok 194 (R x0 0) 10012 := hSh x0 0 0 10012 hx0.1 rfl
          refine x_getR C S KX0 hx0 0 (by decide) rfl rfl fl_RX0_9 hR8 dX0_sumFromDelay_37 ?_
          refine lv_iload_n hx hb dX0_sumFromDelay_40 rfl (lv_at hl 3 rfl) ?_
          obtain ⟨hi9, h⟩ := ck_el h
          refine x_iald (len := 12) C S (by decide) hR8 hi9 dX0_sumFromDelay_41 ?_
          refine lv_iadd hx hb dX0_sumFromDelay_42 ?_
          refine lv_istore_n (lv' := [(2, .int (x2 + (σ (R x0 0) x3.toNatClampNeg))), (0, .ref (gb g + x0)), (1, .int x1), (3, .int x3)]) hx hb dX0_sumFromDelay_43 rfl hl (by decide) rfl (fun ls hl => ?_)
          exact w_X0_sumFromDelay_44 C hr hSh ih σ x0 x1 (x2 + (σ (R x0 0) x3.toNatClampNeg)) x3 h hx0 H locs ls S (lv_sub hl [1, 2, 0, 3] rfl)
set_option maxHeartbeats 4000000 in
set_option maxRecDepth 100000 in
theorem ok_X0_sumFromDelay {l : Launch} {g : GL} {R : Nat → Nat → Nat} {L : Nat → Nat → Int64} {N : Nat} {σ : SI} {x0 : Nat} {x1 : Int32} {r : (Int32 × SI)} (h : f_X0_sumFromDelay N R σ x0 x1 = some r) (hSh : ShR R) (hx0 : Ok 194 x0 0) : Ct l g 1 yX0_sumFromDelay cX0_sumFromDelay 4 (some .int) 194 194 0 0 [.ref (gb g + x0), .int x1] (mkS σ R L) (PI R L r) := by
  refine Met.ofW (cc := cX0_sumFromDelay) (maxL := 4) (ret := (some .int)) (by decide) rfl ?_
  intro p e s m args below meth c s₁ B hml hv
  obtain ⟨rfl, hE, hLo, hWd⟩ := hv
  have hr : meth.sig.returnType = (some .int) := B.returns
  have C : Cx l g p s m meth c cX0_sumFromDelay 4 RX0 := ⟨B.exec, B.bytes, hml, findClass_of_methodNamed B.named, hE, hLo, B.notSynchronized⟩
  have S : S2 g s σ R L s.heap [] := ⟨hWd, va_S.rf⟩
  have hx := C.1
  have hb := C.2.1
  have hl := lv_entry ([.ref (gb g + x0), .int x1]) (n := 4) (Nat.le_of_ble_eq_true rfl)
  rw [lg_entry_eq]
  generalize (lg_sl ([.ref (gb g + x0), .int x1]) ++ List.replicate (4 - (lg_sl ([.ref (gb g + x0), .int x1])).length) Slot.unset).toArray = ls at hl ⊢
  have hl : lv_has ls 4 [(0, .ref (gb g + x0)), (1, .int x1)] := hl
  generalize hH : s.heap = H at S ⊢
  generalize hlc : ([] : List Loc) = locs at S ⊢
  rw [f_X0_sumFromDelay] at h
  refine lv_iconst (v := (0 : Int32)) hx hb dX0_sumFromDelay_0 (by decide) ?_
  refine lv_istore_n (lv' := [(2, .int (0 : Int32)), (0, .ref (gb g + x0)), (1, .int x1)]) hx hb dX0_sumFromDelay_1 rfl hl (by decide) rfl (fun ls hl => ?_)
  refine lv_iconst (v := (0 : Int32)) hx hb dX0_sumFromDelay_2 (by decide) ?_
  refine lv_istore_n (lv' := [(3, .int (0 : Int32)), (2, .int (0 : Int32)), (0, .ref (gb g + x0)), (1, .int x1)]) hx hb dX0_sumFromDelay_3 rfl hl (by decide) rfl (fun ls hl => ?_)
  exact w_X0_sumFromDelay_4 C hr hSh N σ x0 x1 (0 : Int32) (0 : Int32) h hx0 H locs ls S (lv_sub hl [2, 3, 1, 0] rfl)
theorem dX0_measureWindow_0 : decode cX0_measureWindow 0 = .ok (.aload_n 0, 1) := by decide +kernel
theorem dX0_measureWindow_1 : decode cX0_measureWindow 1 = .ok (.iconst 0, 1) := by decide +kernel
theorem dX0_measureWindow_2 : decode cX0_measureWindow 2 = .ok (.putfield 37, 3) := by decide +kernel
theorem dX0_measureWindow_5 : decode cX0_measureWindow 5 = .ok (.aload_n 0, 1) := by decide +kernel
theorem dX0_measureWindow_6 : decode cX0_measureWindow 6 = .ok (.iconst 0, 1) := by decide +kernel
theorem dX0_measureWindow_7 : decode cX0_measureWindow 7 = .ok (.putfield 40, 3) := by decide +kernel
theorem dX0_measureWindow_10 : decode cX0_measureWindow 10 = .ok (.iconst 0, 1) := by decide +kernel
theorem dX0_measureWindow_11 : decode cX0_measureWindow 11 = .ok (.istore_n 1, 1) := by decide +kernel
theorem dX0_measureWindow_12 : decode cX0_measureWindow 12 = .ok (.iload_n 1, 1) := by decide +kernel
theorem dX0_measureWindow_13 : decode cX0_measureWindow 13 = .ok (.aload_n 0, 1) := by decide +kernel
theorem dX0_measureWindow_14 : decode cX0_measureWindow 14 = .ok (.getfield 24, 3) := by decide +kernel
theorem dX0_measureWindow_17 : decode cX0_measureWindow 17 = .ok (.if_icmp .ge 64, 3) := by decide +kernel
theorem dX0_measureWindow_20 : decode cX0_measureWindow 20 = .ok (.aload_n 0, 1) := by decide +kernel
theorem dX0_measureWindow_21 : decode cX0_measureWindow 21 = .ok (.aload_n 0, 1) := by decide +kernel
theorem dX0_measureWindow_22 : decode cX0_measureWindow 22 = .ok (.getfield 15, 3) := by decide +kernel
theorem dX0_measureWindow_25 : decode cX0_measureWindow 25 = .ok (.iload_n 1, 1) := by decide +kernel
theorem dX0_measureWindow_26 : decode cX0_measureWindow 26 = .ok (.iaload, 1) := by decide +kernel
theorem dX0_measureWindow_27 : decode cX0_measureWindow 27 = .ok (.invokevirtual 43, 3) := by decide +kernel
theorem dX0_measureWindow_30 : decode cX0_measureWindow 30 = .ok (.istore_n 2, 1) := by decide +kernel
theorem dX0_measureWindow_31 : decode cX0_measureWindow 31 = .ok (.iload_n 2, 1) := by decide +kernel
theorem dX0_measureWindow_32 : decode cX0_measureWindow 32 = .ok (.aload_n 0, 1) := by decide +kernel
theorem dX0_measureWindow_33 : decode cX0_measureWindow 33 = .ok (.getfield 37, 3) := by decide +kernel
theorem dX0_measureWindow_36 : decode cX0_measureWindow 36 = .ok (.if_icmp .gt 24, 3) := by decide +kernel
theorem dX0_measureWindow_39 : decode cX0_measureWindow 39 = .ok (.iload_n 2, 1) := by decide +kernel
theorem dX0_measureWindow_40 : decode cX0_measureWindow 40 = .ok (.aload_n 0, 1) := by decide +kernel
theorem dX0_measureWindow_41 : decode cX0_measureWindow 41 = .ok (.getfield 37, 3) := by decide +kernel
theorem dX0_measureWindow_44 : decode cX0_measureWindow 44 = .ok (.if_icmp .ne 31, 3) := by decide +kernel
theorem dX0_measureWindow_47 : decode cX0_measureWindow 47 = .ok (.aload_n 0, 1) := by decide +kernel
theorem dX0_measureWindow_48 : decode cX0_measureWindow 48 = .ok (.getfield 15, 3) := by decide +kernel
theorem dX0_measureWindow_51 : decode cX0_measureWindow 51 = .ok (.iload_n 1, 1) := by decide +kernel
theorem dX0_measureWindow_52 : decode cX0_measureWindow 52 = .ok (.iaload, 1) := by decide +kernel
theorem dX0_measureWindow_53 : decode cX0_measureWindow 53 = .ok (.aload_n 0, 1) := by decide +kernel
theorem dX0_measureWindow_54 : decode cX0_measureWindow 54 = .ok (.getfield 40, 3) := by decide +kernel
theorem dX0_measureWindow_57 : decode cX0_measureWindow 57 = .ok (.if_icmp .ge 18, 3) := by decide +kernel
theorem dX0_measureWindow_60 : decode cX0_measureWindow 60 = .ok (.aload_n 0, 1) := by decide +kernel
theorem dX0_measureWindow_61 : decode cX0_measureWindow 61 = .ok (.iload_n 2, 1) := by decide +kernel
theorem dX0_measureWindow_62 : decode cX0_measureWindow 62 = .ok (.putfield 37, 3) := by decide +kernel
theorem dX0_measureWindow_65 : decode cX0_measureWindow 65 = .ok (.aload_n 0, 1) := by decide +kernel
theorem dX0_measureWindow_66 : decode cX0_measureWindow 66 = .ok (.aload_n 0, 1) := by decide +kernel
theorem dX0_measureWindow_67 : decode cX0_measureWindow 67 = .ok (.getfield 15, 3) := by decide +kernel
theorem dX0_measureWindow_70 : decode cX0_measureWindow 70 = .ok (.iload_n 1, 1) := by decide +kernel
theorem dX0_measureWindow_71 : decode cX0_measureWindow 71 = .ok (.iaload, 1) := by decide +kernel
theorem dX0_measureWindow_72 : decode cX0_measureWindow 72 = .ok (.putfield 40, 3) := by decide +kernel
theorem dX0_measureWindow_75 : decode cX0_measureWindow 75 = .ok (.iinc 1 1, 3) := by decide +kernel
theorem dX0_measureWindow_78 : decode cX0_measureWindow 78 = .ok (.goto (-66), 3) := by decide +kernel
theorem dX0_measureWindow_81 : decode cX0_measureWindow 81 = .ok (.return_, 1) := by decide +kernel
def f_X0_measureWindow_75 (N : Nat) (R : Nat → Nat → Nat) (k12 : SI → Nat → Int32 → Option (Unit × SI)) (σ : SI) (x0 : Nat) (x1 : Int32) : Option (Unit × SI) := k12 σ x0 (x1 + 1)
def f_X0_measureWindow_60 (N : Nat) (R : Nat → Nat → Nat) (k12 : SI → Nat → Int32 → Option (Unit × SI)) (σ : SI) (x0 : Nat) (x1 : Int32) (x2 : Int32) : Option (Unit × SI) := sq (up σ x0 8 x2) (fun σ8 => ck x1 12 (sq (up σ8 x0 9 (σ8 (R x0 1) x1.toNatClampNeg)) (fun σ11 => f_X0_measureWindow_75 N R k12 σ11 x0 x1)))
def f_X0_measureWindow_12 (N : Nat) (R : Nat → Nat → Nat) : Nat → SI → Nat → Int32 → Option (Unit × SI)
  | 0, _, _, _ => none
  | n + 1, σ, x0, x1 => if (σ x0 7) ≤ x1 then (some ((), σ)) else (ck x1 12 (bd (f_X0_sumFromDelay N R σ x0 (σ (R x0 1) x1.toNatClampNeg)) (fun a6 σ6 => if (σ6 x0 8) < a6 then (f_X0_measureWindow_60 N R (fun σ x0 x1 => f_X0_measureWindow_12 N R n σ x0 x1) σ6 x0 x1 a6) else (if a6 = (σ6 x0 8) then (ck x1 12 (if (σ6 x0 9) ≤ (σ6 (R x0 1) x1.toNatClampNeg) then (f_X0_measureWindow_75 N R (fun σ x0 x1 => f_X0_measureWindow_12 N R n σ x0 x1) σ6 x0 x1) else (f_X0_measureWindow_60 N R (fun σ x0 x1 => f_X0_measureWindow_12 N R n σ x0 x1) σ6 x0 x1 a6))) else (f_X0_measureWindow_75 N R (fun σ x0 x1 => f_X0_measureWindow_12 N R n σ x0 x1) σ6 x0 x1)))))
def f_X0_measureWindow (N : Nat) (R : Nat → Nat → Nat) (σ : SI) (x0 : Nat) : Option (Unit × SI) := sq (up σ x0 8 (0 : Int32)) (fun σ1 => sq (up σ1 x0 9 (0 : Int32)) (fun σ2 => f_X0_measureWindow_12 N R N σ2 x0 (0 : Int32)))
set_option maxHeartbeats 4000000 in
set_option maxRecDepth 100000 in
theorem w_X0_measureWindow_75 {l : Launch} {g : GL} {p : Program} {e : Jvm.Env} {s : State} {m : MethodId} {args : Array Value} {below : List Frame} {meth : Method} {c : Code} {R : Nat → Nat → Nat} {L : Nat → Nat → Int64} {r : (Unit × SI)} {N : Nat} {k12 : SI → Nat → Int32 → Option (Unit × SI)} (C : Cx l g p s m meth c cX0_measureWindow 3 RX0) (hr : meth.sig.returnType = none) (hSh : ShR R) (hk12 : ∀ (σ : SI) (x0 : Nat) (x1 : Int32), k12 σ x0 x1 = some r → Ok 194 x0 0 → ∀ (H : Heap) (locs : List Loc) (ls : Array Slot), S2 g s σ R L H locs → lv_has ls 3 [(0, .ref (gb g + x0)), (1, .int x1)] → W p l e (rmd 2 0 0) s m args below meth c H locs 0 0 (MQ below (Qg g 194 (PV R L r)) args s 0 0 (gA g)) (F0 m 12 ls [])) : ∀ (σ : SI) (x0 : Nat) (x1 : Int32), f_X0_measureWindow_75 N R k12 σ x0 x1 = some r → Ok 194 x0 0 → ∀ (H : Heap) (locs : List Loc) (ls : Array Slot), S2 g s σ R L H locs → lv_has ls 3 [(0, .ref (gb g + x0)), (1, .int x1)] → W p l e (rmd 2 0 0) s m args below meth c H locs 0 0 (MQ below (Qg g 194 (PV R L r)) args s 0 0 (gA g)) (F0 m 75 ls []) := by
  have hx := C.1
  have hb := C.2.1
  intro σ x0 x1 h hx0 H locs ls S hl
  rw [f_X0_measureWindow_75] at h
  refine lv_iinc (v := x1 + 1) (lv' := [(1, .int (x1 + 1)), (0, .ref (gb g + x0))]) hx hb dX0_measureWindow_75 hl (k := 1) rfl rfl (by decide) rfl (fun ls hl => ?_)
  refine lv_goto (tgt := 12) hx hb dX0_measureWindow_78 (by decide) ?_
  exact hk12 σ x0 (x1 + 1) h hx0 H locs ls S (lv_sub hl [1, 0] rfl)
set_option maxHeartbeats 4000000 in
set_option maxRecDepth 100000 in
theorem w_X0_measureWindow_60 {l : Launch} {g : GL} {p : Program} {e : Jvm.Env} {s : State} {m : MethodId} {args : Array Value} {below : List Frame} {meth : Method} {c : Code} {R : Nat → Nat → Nat} {L : Nat → Nat → Int64} {r : (Unit × SI)} {N : Nat} {k12 : SI → Nat → Int32 → Option (Unit × SI)} (C : Cx l g p s m meth c cX0_measureWindow 3 RX0) (hr : meth.sig.returnType = none) (hSh : ShR R) (hk12 : ∀ (σ : SI) (x0 : Nat) (x1 : Int32), k12 σ x0 x1 = some r → Ok 194 x0 0 → ∀ (H : Heap) (locs : List Loc) (ls : Array Slot), S2 g s σ R L H locs → lv_has ls 3 [(0, .ref (gb g + x0)), (1, .int x1)] → W p l e (rmd 2 0 0) s m args below meth c H locs 0 0 (MQ below (Qg g 194 (PV R L r)) args s 0 0 (gA g)) (F0 m 12 ls [])) : ∀ (σ : SI) (x0 : Nat) (x1 : Int32) (x2 : Int32), f_X0_measureWindow_60 N R k12 σ x0 x1 x2 = some r → Ok 194 x0 0 → ∀ (H : Heap) (locs : List Loc) (ls : Array Slot), S2 g s σ R L H locs → lv_has ls 3 [(0, .ref (gb g + x0)), (1, .int x1), (2, .int x2)] → W p l e (rmd 2 0 0) s m args below meth c H locs 0 0 (MQ below (Qg g 194 (PV R L r)) args s 0 0 (gA g)) (F0 m 60 ls []) := by
  have hx := C.1
  have hb := C.2.1
  intro σ x0 x1 x2 h hx0 H locs ls S hl
  rw [f_X0_measureWindow_60] at h
  refine lv_aload_n hx hb dX0_measureWindow_60 rfl (lv_at hl 0 rfl) ?_
  refine lv_iload_n hx hb dX0_measureWindow_61 rfl (lv_at hl 2 rfl) ?_
  obtain ⟨σ8, hs8, h⟩ := sq_el h
  refine x_putI C S KX0 hx0 8 (by decide) rfl rfl rfl ⟨rfl, rfl⟩ fl_RX0_37 dX0_measureWindow_62 hs8 (fun H locs S => ?_)
  refine lv_aload_n hx hb dX0_measureWindow_65 rfl (lv_at hl 0 rfl) ?_
  refine lv_aload_n hx hb dX0_measureWindow_66 rfl (lv_at hl 0 rfl) ?_
  have hR9 : Ok 194 (R x0 1) 10012 := hSh x0 0 1 10012 hx0.1 rfl
  refine x_getR C S KX0 hx0 1 (by decide) rfl rfl fl_RX0_15 hR9 dX0_measureWindow_67 ?_
  refine lv_iload_n hx hb dX0_measureWindow_70 rfl (lv_at hl 1 rfl) ?_
  obtain ⟨hi10, h⟩ := ck_el h
  refine x_iald (len := 12) C S (by decide) hR9 hi10 dX0_measureWindow_71 ?_
  obtain ⟨σ11, hs11, h⟩ := sq_el h
  refine x_putI C S KX0 hx0 9 (by decide) rfl rfl rfl ⟨rfl, rfl⟩ fl_RX0_40 dX0_measureWindow_72 hs11 (fun H locs S => ?_)
  exact w_X0_measureWindow_75 C hr hSh hk12 σ11 x0 x1 h hx0 H locs ls S (lv_sub hl [0, 1] rfl)
set_option maxHeartbeats 4000000 in
set_option maxRecDepth 100000 in
theorem w_X0_measureWindow_12 {l : Launch} {g : GL} {p : Program} {e : Jvm.Env} {s : State} {m : MethodId} {args : Array Value} {below : List Frame} {meth : Method} {c : Code} {R : Nat → Nat → Nat} {L : Nat → Nat → Int64} {r : (Unit × SI)} {N : Nat} (C : Cx l g p s m meth c cX0_measureWindow 3 RX0) (hr : meth.sig.returnType = none) (hSh : ShR R) : ∀ (n : Nat) (σ : SI) (x0 : Nat) (x1 : Int32), f_X0_measureWindow_12 N R n σ x0 x1 = some r → Ok 194 x0 0 → ∀ (H : Heap) (locs : List Loc) (ls : Array Slot), S2 g s σ R L H locs → lv_has ls 3 [(0, .ref (gb g + x0)), (1, .int x1)] → W p l e (rmd 2 0 0) s m args below meth c H locs 0 0 (MQ below (Qg g 194 (PV R L r)) args s 0 0 (gA g)) (F0 m 12 ls []) := by
  have hx := C.1
  have hb := C.2.1
  intro n
  induction n with
  | zero =>
    intro σ x0 x1 h
    cases (show (none : Option (Unit × SI)) = some r from h)
  | succ n ih =>
    intro σ x0 x1 h hx0 H locs ls S hl
    rw [f_X0_measureWindow_12] at h
    refine lv_iload_n hx hb dX0_measureWindow_12 rfl (lv_at hl 1 rfl) ?_
    refine lv_aload_n hx hb dX0_measureWindow_13 rfl (lv_at hl 0 rfl) ?_
    refine x_getI C S KX0 hx0 7 (by decide) rfl rfl fl_RX0_24 dX0_measureWindow_14 ?_
    refine lv_icmp_ge (tgt := 81) hx hb dX0_measureWindow_17 (by decide) (fun c3 => ?_) (fun c3 => ?_)
    · have h := it_p c3 h
      exact x_vret C S hr h dX0_measureWindow_81
    · have h := it_n c3 h
      refine lv_aload_n hx hb dX0_measureWindow_20 rfl (lv_at hl 0 rfl) ?_
      refine lv_aload_n hx hb dX0_measureWindow_21 rfl (lv_at hl 0 rfl) ?_
      have hR4 : Ok 194 (R x0 1) 10012 := hSh x0 0 1 10012 hx0.1 rfl
      refine x_getR C S KX0 hx0 1 (by decide) rfl rfl fl_RX0_15 hR4 dX0_measureWindow_22 ?_
      refine lv_iload_n hx hb dX0_measureWindow_25 rfl (lv_at hl 1 rfl) ?_
      obtain ⟨hi5, h⟩ := ck_el h
      refine x_iald (len := 12) C S (by decide) hR4 hi5 dX0_measureWindow_26 ?_
      obtain ⟨a6, σ6, hc6, h⟩ := bd_el h
      refine x_callVI C S KX0 hx0 (ok_X0_sumFromDelay (L := L) hc6 hSh hx0) ⟨cd_X0_sumFromDelay, ni_RX0, ml_RX0_43, in_X0_sumFromDelay, sl_X0_sumFromDelay⟩ ⟨by decide, by decide⟩ rfl ⟨by decide, by decide⟩ hl.1 rfl (Nat.le_of_ble_eq_true rfl) ⟨by decide, by decide⟩ dX0_measureWindow_27 (fun H locs S => ?_)
      refine lv_istore_n (lv' := [(2, .int a6), (0, .ref (gb g + x0)), (1, .int x1)]) hx hb dX0_measureWindow_30 rfl hl (by decide) rfl (fun ls hl => ?_)
      refine lv_iload_n hx hb dX0_measureWindow_31 rfl (lv_at hl 0 rfl) ?_
      refine lv_aload_n hx hb dX0_measureWindow_32 rfl (lv_at hl 1 rfl) ?_
      refine x_getI C S KX0 hx0 8 (by decide) rfl rfl fl_RX0_37 dX0_measureWindow_33 ?_
      refine lv_icmp_gt (tgt := 60) hx hb dX0_measureWindow_36 (by decide) (fun c7 => ?_) (fun c7 => ?_)
      · have h := it_p c7 h
        exact w_X0_measureWindow_60 C hr hSh ih σ6 x0 x1 a6 h hx0 H locs ls S (lv_sub hl [1, 2, 0] rfl)
      · have h := it_n c7 h
        refine lv_iload_n hx hb dX0_measureWindow_39 rfl (lv_at hl 0 rfl) ?_
        refine lv_aload_n hx hb dX0_measureWindow_40 rfl (lv_at hl 1 rfl) ?_
        refine x_getI C S KX0 hx0 8 (by decide) rfl rfl fl_RX0_37 dX0_measureWindow_41 ?_
        refine lv_icmp_ne (tgt := 75) hx hb dX0_measureWindow_44 (by decide) (fun c12 => ?_) (fun c12 => ?_)
        · have h := it_n c12 h
          exact w_X0_measureWindow_75 C hr hSh ih σ6 x0 x1 h hx0 H locs ls S (lv_sub hl [1, 2] rfl)
        · have h := it_p c12 h
          refine lv_aload_n hx hb dX0_measureWindow_47 rfl (lv_at hl 1 rfl) ?_
          have hR13 : Ok 194 (R x0 1) 10012 := hSh x0 0 1 10012 hx0.1 rfl
          refine x_getR C S KX0 hx0 1 (by decide) rfl rfl fl_RX0_15 hR13 dX0_measureWindow_48 ?_
          refine lv_iload_n hx hb dX0_measureWindow_51 rfl (lv_at hl 2 rfl) ?_
          obtain ⟨hi14, h⟩ := ck_el h
          refine x_iald (len := 12) C S (by decide) hR13 hi14 dX0_measureWindow_52 ?_
          refine lv_aload_n hx hb dX0_measureWindow_53 rfl (lv_at hl 1 rfl) ?_
          refine x_getI C S KX0 hx0 9 (by decide) rfl rfl fl_RX0_40 dX0_measureWindow_54 ?_
          refine lv_icmp_ge (tgt := 75) hx hb dX0_measureWindow_57 (by decide) (fun c15 => ?_) (fun c15 => ?_)
          · have h := it_p c15 h
            exact w_X0_measureWindow_75 C hr hSh ih σ6 x0 x1 h hx0 H locs ls S (lv_sub hl [1, 2] rfl)
          · have h := it_n c15 h
            exact w_X0_measureWindow_60 C hr hSh ih σ6 x0 x1 a6 h hx0 H locs ls S (lv_sub hl [1, 2, 0] rfl)
set_option maxHeartbeats 4000000 in
set_option maxRecDepth 100000 in
theorem ok_X0_measureWindow {l : Launch} {g : GL} {R : Nat → Nat → Nat} {L : Nat → Nat → Int64} {N : Nat} {σ : SI} {x0 : Nat} {r : (Unit × SI)} (h : f_X0_measureWindow N R σ x0 = some r) (hSh : ShR R) (hx0 : Ok 194 x0 0) : Ct l g 2 yX0_measureWindow cX0_measureWindow 3 none 194 194 0 0 [.ref (gb g + x0)] (mkS σ R L) (PV R L r) := by
  refine Met.ofW (cc := cX0_measureWindow) (maxL := 3) (ret := none) (by decide) rfl ?_
  intro p e s m args below meth c s₁ B hml hv
  obtain ⟨rfl, hE, hLo, hWd⟩ := hv
  have hr : meth.sig.returnType = none := B.returns
  have C : Cx l g p s m meth c cX0_measureWindow 3 RX0 := ⟨B.exec, B.bytes, hml, findClass_of_methodNamed B.named, hE, hLo, B.notSynchronized⟩
  have S : S2 g s σ R L s.heap [] := ⟨hWd, va_S.rf⟩
  have hx := C.1
  have hb := C.2.1
  have hl := lv_entry ([.ref (gb g + x0)]) (n := 3) (Nat.le_of_ble_eq_true rfl)
  rw [lg_entry_eq]
  generalize (lg_sl ([.ref (gb g + x0)]) ++ List.replicate (3 - (lg_sl ([.ref (gb g + x0)])).length) Slot.unset).toArray = ls at hl ⊢
  have hl : lv_has ls 3 [(0, .ref (gb g + x0))] := hl
  generalize hH : s.heap = H at S ⊢
  generalize hlc : ([] : List Loc) = locs at S ⊢
  rw [f_X0_measureWindow] at h
  refine lv_aload_n hx hb dX0_measureWindow_0 rfl (lv_at hl 0 rfl) ?_
  refine lv_iconst (v := (0 : Int32)) hx hb dX0_measureWindow_1 (by decide) ?_
  obtain ⟨σ1, hs1, h⟩ := sq_el h
  refine x_putI C S KX0 hx0 8 (by decide) rfl rfl rfl ⟨rfl, rfl⟩ fl_RX0_37 dX0_measureWindow_2 hs1 (fun H locs S => ?_)
  refine lv_aload_n hx hb dX0_measureWindow_5 rfl (lv_at hl 0 rfl) ?_
  refine lv_iconst (v := (0 : Int32)) hx hb dX0_measureWindow_6 (by decide) ?_
  obtain ⟨σ2, hs2, h⟩ := sq_el h
  refine x_putI C S KX0 hx0 9 (by decide) rfl rfl rfl ⟨rfl, rfl⟩ fl_RX0_40 dX0_measureWindow_7 hs2 (fun H locs S => ?_)
  refine lv_iconst (v := (0 : Int32)) hx hb dX0_measureWindow_10 (by decide) ?_
  refine lv_istore_n (lv' := [(1, .int (0 : Int32)), (0, .ref (gb g + x0))]) hx hb dX0_measureWindow_11 rfl hl (by decide) rfl (fun ls hl => ?_)
  exact w_X0_measureWindow_12 C hr hSh N σ2 x0 (0 : Int32) h hx0 H locs ls S (lv_sub hl [1, 0] rfl)
theorem dX0_windowIfGap_0 : decode cX0_windowIfGap 0 = .ok (.iload_n 1, 1) := by decide +kernel
theorem dX0_windowIfGap_1 : decode cX0_windowIfGap 1 = .ok (.ifCond .ne 10, 3) := by decide +kernel
theorem dX0_windowIfGap_4 : decode cX0_windowIfGap 4 = .ok (.aload_n 0, 1) := by decide +kernel
theorem dX0_windowIfGap_5 : decode cX0_windowIfGap 5 = .ok (.getfield 24, 3) := by decide +kernel
theorem dX0_windowIfGap_8 : decode cX0_windowIfGap 8 = .ok (.goto 11, 3) := by decide +kernel
theorem dX0_windowIfGap_11 : decode cX0_windowIfGap 11 = .ok (.bipush 7, 2) := by decide +kernel
theorem dX0_windowIfGap_13 : decode cX0_windowIfGap 13 = .ok (.iload_n 1, 1) := by decide +kernel
theorem dX0_windowIfGap_14 : decode cX0_windowIfGap 14 = .ok (.invokestatic 47, 3) := by decide +kernel
theorem dX0_windowIfGap_17 : decode cX0_windowIfGap 17 = .ok (.iconst 1, 1) := by decide +kernel
theorem dX0_windowIfGap_18 : decode cX0_windowIfGap 18 = .ok (.iadd, 1) := by decide +kernel
theorem dX0_windowIfGap_19 : decode cX0_windowIfGap 19 = .ok (.istore_n 2, 1) := by decide +kernel
theorem dX0_windowIfGap_20 : decode cX0_windowIfGap 20 = .ok (.iconst 0, 1) := by decide +kernel
theorem dX0_windowIfGap_21 : decode cX0_windowIfGap 21 = .ok (.istore_n 3, 1) := by decide +kernel
theorem dX0_windowIfGap_22 : decode cX0_windowIfGap 22 = .ok (.iconst 0, 1) := by decide +kernel
theorem dX0_windowIfGap_23 : decode cX0_windowIfGap 23 = .ok (.istore 4, 2) := by decide +kernel
theorem dX0_windowIfGap_25 : decode cX0_windowIfGap 25 = .ok (.iload 4, 2) := by decide +kernel
theorem dX0_windowIfGap_27 : decode cX0_windowIfGap 27 = .ok (.aload_n 0, 1) := by decide +kernel
theorem dX0_windowIfGap_28 : decode cX0_windowIfGap 28 = .ok (.getfield 24, 3) := by decide +kernel
theorem dX0_windowIfGap_31 : decode cX0_windowIfGap 31 = .ok (.if_icmp .ge 59, 3) := by decide +kernel
theorem dX0_windowIfGap_34 : decode cX0_windowIfGap 34 = .ok (.iconst 0, 1) := by decide +kernel
theorem dX0_windowIfGap_35 : decode cX0_windowIfGap 35 = .ok (.istore 5, 2) := by decide +kernel
theorem dX0_windowIfGap_37 : decode cX0_windowIfGap 37 = .ok (.iload 4, 2) := by decide +kernel
theorem dX0_windowIfGap_39 : decode cX0_windowIfGap 39 = .ok (.istore 6, 2) := by decide +kernel
theorem dX0_windowIfGap_41 : decode cX0_windowIfGap 41 = .ok (.iload 6, 2) := by decide +kernel
theorem dX0_windowIfGap_43 : decode cX0_windowIfGap 43 = .ok (.aload_n 0, 1) := by decide +kernel
theorem dX0_windowIfGap_44 : decode cX0_windowIfGap 44 = .ok (.getfield 24, 3) := by decide +kernel
theorem dX0_windowIfGap_47 : decode cX0_windowIfGap 47 = .ok (.if_icmp .ge 30, 3) := by decide +kernel
theorem dX0_windowIfGap_50 : decode cX0_windowIfGap 50 = .ok (.iload 6, 2) := by decide +kernel
theorem dX0_windowIfGap_52 : decode cX0_windowIfGap 52 = .ok (.iload 4, 2) := by decide +kernel
theorem dX0_windowIfGap_54 : decode cX0_windowIfGap 54 = .ok (.iload_n 2, 1) := by decide +kernel
theorem dX0_windowIfGap_55 : decode cX0_windowIfGap 55 = .ok (.iadd, 1) := by decide +kernel
theorem dX0_windowIfGap_56 : decode cX0_windowIfGap 56 = .ok (.if_icmp .ge 21, 3) := by decide +kernel
theorem dX0_windowIfGap_59 : decode cX0_windowIfGap 59 = .ok (.iload 5, 2) := by decide +kernel
theorem dX0_windowIfGap_61 : decode cX0_windowIfGap 61 = .ok (.aload_n 0, 1) := by decide +kernel
theorem dX0_windowIfGap_62 : decode cX0_windowIfGap 62 = .ok (.getfield 9, 3) := by decide +kernel
theorem dX0_windowIfGap_65 : decode cX0_windowIfGap 65 = .ok (.iload 6, 2) := by decide +kernel
theorem dX0_windowIfGap_67 : decode cX0_windowIfGap 67 = .ok (.iaload, 1) := by decide +kernel
theorem dX0_windowIfGap_68 : decode cX0_windowIfGap 68 = .ok (.iadd, 1) := by decide +kernel
theorem dX0_windowIfGap_69 : decode cX0_windowIfGap 69 = .ok (.istore 5, 2) := by decide +kernel
theorem dX0_windowIfGap_71 : decode cX0_windowIfGap 71 = .ok (.iinc 6 1, 3) := by decide +kernel
theorem dX0_windowIfGap_74 : decode cX0_windowIfGap 74 = .ok (.goto (-33), 3) := by decide +kernel
theorem dX0_windowIfGap_77 : decode cX0_windowIfGap 77 = .ok (.iload_n 3, 1) := by decide +kernel
theorem dX0_windowIfGap_78 : decode cX0_windowIfGap 78 = .ok (.iload 5, 2) := by decide +kernel
theorem dX0_windowIfGap_80 : decode cX0_windowIfGap 80 = .ok (.invokestatic 34, 3) := by decide +kernel
theorem dX0_windowIfGap_83 : decode cX0_windowIfGap 83 = .ok (.istore_n 3, 1) := by decide +kernel
theorem dX0_windowIfGap_84 : decode cX0_windowIfGap 84 = .ok (.iinc 4 1, 3) := by decide +kernel
theorem dX0_windowIfGap_87 : decode cX0_windowIfGap 87 = .ok (.goto (-62), 3) := by decide +kernel
theorem dX0_windowIfGap_90 : decode cX0_windowIfGap 90 = .ok (.iload_n 3, 1) := by decide +kernel
theorem dX0_windowIfGap_91 : decode cX0_windowIfGap 91 = .ok (.ireturn, 1) := by decide +kernel
def f_X0_windowIfGap_77 (N : Nat) (R : Nat → Nat → Nat) (k25 : SI → Nat → Int32 → Int32 → Int32 → Option (Int32 × SI)) (σ : SI) (x0 : Nat) (x2 : Int32) (x3 : Int32) (x4 : Int32) (x5 : Int32) : Option (Int32 × SI) := k25 σ x0 x2 (if x3 < x5 then x5 else x3) (x4 + 1)
def f_X0_windowIfGap_41 (N : Nat) (R : Nat → Nat → Nat) (k25 : SI → Nat → Int32 → Int32 → Int32 → Option (Int32 × SI)) : Nat → SI → Nat → Int32 → Int32 → Int32 → Int32 → Int32 → Option (Int32 × SI)
  | 0, _, _, _, _, _, _, _ => none
  | n + 1, σ, x0, x2, x3, x4, x5, x6 => if (σ x0 7) ≤ x6 then (f_X0_windowIfGap_77 N R k25 σ x0 x2 x3 x4 x5) else (if (x4 + x2) ≤ x6 then (f_X0_windowIfGap_77 N R k25 σ x0 x2 x3 x4 x5) else (ck x6 12 (f_X0_windowIfGap_41 N R k25 n σ x0 x2 x3 x4 (x5 + (σ (R x0 0) x6.toNatClampNeg)) (x6 + 1))))
def f_X0_windowIfGap_25 (N : Nat) (R : Nat → Nat → Nat) : Nat → SI → Nat → Int32 → Int32 → Int32 → Option (Int32 × SI)
  | 0, _, _, _, _, _ => none
  | n + 1, σ, x0, x2, x3, x4 => if (σ x0 7) ≤ x4 then (some (x3, σ)) else (f_X0_windowIfGap_41 N R (fun σ x0 x2 x3 x4 => f_X0_windowIfGap_25 N R n σ x0 x2 x3 x4) N σ x0 x2 x3 x4 (0 : Int32) x4)
def f_X0_windowIfGap (N : Nat) (R : Nat → Nat → Nat) (σ : SI) (x0 : Nat) (x1 : Int32) : Option (Int32 × SI) := if x1 = 0 then (f_X0_windowIfGap_25 N R N σ x0 (σ x0 7) (0 : Int32) (0 : Int32)) else (bd (f_X11_quotient N R σ (7 : Int32) x1) (fun a2 σ2 => f_X0_windowIfGap_25 N R N σ2 x0 (a2 + (1 : Int32)) (0 : Int32) (0 : Int32)))
set_option maxHeartbeats 4000000 in
set_option maxRecDepth 100000 in
theorem w_X0_windowIfGap_77 {l : Launch} {g : GL} {p : Program} {e : Jvm.Env} {s : State} {m : MethodId} {args : Array Value} {below : List Frame} {meth : Method} {c : Code} {R : Nat → Nat → Nat} {L : Nat → Nat → Int64} {r : (Int32 × SI)} {N : Nat} {k25 : SI → Nat → Int32 → Int32 → Int32 → Option (Int32 × SI)} (C : Cx l g p s m meth c cX0_windowIfGap 7 RX0) (hr : meth.sig.returnType = (some .int)) (hSh : ShR R) (hk25 : ∀ (σ : SI) (x0 : Nat) (x2 : Int32) (x3 : Int32) (x4 : Int32), k25 σ x0 x2 x3 x4 = some r → Ok 194 x0 0 → ∀ (H : Heap) (locs : List Loc) (ls : Array Slot), S2 g s σ R L H locs → lv_has ls 7 [(0, .ref (gb g + x0)), (2, .int x2), (3, .int x3), (4, .int x4)] → W p l e (rmd 2 0 0) s m args below meth c H locs 0 0 (MQ below (Qg g 194 (PI R L r)) args s 0 0 (gA g)) (F0 m 25 ls [])) : ∀ (σ : SI) (x0 : Nat) (x2 : Int32) (x3 : Int32) (x4 : Int32) (x5 : Int32), f_X0_windowIfGap_77 N R k25 σ x0 x2 x3 x4 x5 = some r → Ok 194 x0 0 → ∀ (H : Heap) (locs : List Loc) (ls : Array Slot), S2 g s σ R L H locs → lv_has ls 7 [(0, .ref (gb g + x0)), (2, .int x2), (3, .int x3), (4, .int x4), (5, .int x5)] → W p l e (rmd 2 0 0) s m args below meth c H locs 0 0 (MQ below (Qg g 194 (PI R L r)) args s 0 0 (gA g)) (F0 m 77 ls []) := by
  have hx := C.1
  have hb := C.2.1
  intro σ x0 x2 x3 x4 x5 h hx0 H locs ls S hl
  rw [f_X0_windowIfGap_77] at h
  refine lv_iload_n hx hb dX0_windowIfGap_77 rfl (lv_at hl 2 rfl) ?_
  refine lv_iload hx hb dX0_windowIfGap_78 (lv_at hl 4 rfl) ?_
  refine x_max C hl.1 ⟨ml_RX0_34, st_math_max, ni_math, cd_math_max⟩ (Nat.le_of_ble_eq_true rfl) (Nat.le_of_ble_eq_true rfl) (Nat.le_of_ble_eq_true rfl) (Nat.le_of_ble_eq_true rfl) dX0_windowIfGap_80 ?_
  refine lv_istore_n (lv' := [(3, .int (if x3 < x5 then x5 else x3)), (0, .ref (gb g + x0)), (2, .int x2), (4, .int x4), (5, .int x5)]) hx hb dX0_windowIfGap_83 rfl hl (by decide) rfl (fun ls hl => ?_)
  refine lv_iinc (v := x4 + 1) (lv' := [(4, .int (x4 + 1)), (3, .int (if x3 < x5 then x5 else x3)), (0, .ref (gb g + x0)), (2, .int x2), (5, .int x5)]) hx hb dX0_windowIfGap_84 hl (k := 3) rfl rfl (by decide) rfl (fun ls hl => ?_)
  refine lv_goto (tgt := 25) hx hb dX0_windowIfGap_87 (by decide) ?_
  exact hk25 σ x0 x2 (if x3 < x5 then x5 else x3) (x4 + 1) h hx0 H locs ls S (lv_sub hl [2, 3, 1, 0] rfl)
set_option maxHeartbeats 4000000 in
set_option maxRecDepth 100000 in
theorem w_X0_windowIfGap_41 {l : Launch} {g : GL} {p : Program} {e : Jvm.Env} {s : State} {m : MethodId} {args : Array Value} {below : List Frame} {meth : Method} {c : Code} {R : Nat → Nat → Nat} {L : Nat → Nat → Int64} {r : (Int32 × SI)} {N : Nat} {k25 : SI → Nat → Int32 → Int32 → Int32 → Option (Int32 × SI)} (C : Cx l g p s m meth c cX0_windowIfGap 7 RX0) (hr : meth.sig.returnType = (some .int)) (hSh : ShR R) (hk25 : ∀ (σ : SI) (x0 : Nat) (x2 : Int32) (x3 : Int32) (x4 : Int32), k25 σ x0 x2 x3 x4 = some r → Ok 194 x0 0 → ∀ (H : Heap) (locs : List Loc) (ls : Array Slot), S2 g s σ R L H locs → lv_has ls 7 [(0, .ref (gb g + x0)), (2, .int x2), (3, .int x3), (4, .int x4)] → W p l e (rmd 2 0 0) s m args below meth c H locs 0 0 (MQ below (Qg g 194 (PI R L r)) args s 0 0 (gA g)) (F0 m 25 ls [])) : ∀ (n : Nat) (σ : SI) (x0 : Nat) (x2 : Int32) (x3 : Int32) (x4 : Int32) (x5 : Int32) (x6 : Int32), f_X0_windowIfGap_41 N R k25 n σ x0 x2 x3 x4 x5 x6 = some r → Ok 194 x0 0 → ∀ (H : Heap) (locs : List Loc) (ls : Array Slot), S2 g s σ R L H locs → lv_has ls 7 [(0, .ref (gb g + x0)), (2, .int x2), (3, .int x3), (4, .int x4), (5, .int x5), (6, .int x6)] → W p l e (rmd 2 0 0) s m args below meth c H locs 0 0 (MQ below (Qg g 194 (PI R L r)) args s 0 0 (gA g)) (F0 m 41 ls []) := by
  have hx := C.1
  have hb := C.2.1
  intro n
  induction n with
  | zero =>
    intro σ x0 x2 x3 x4 x5 x6 h
    cases (show (none : Option (Int32 × SI)) = some r from h)
  | succ n ih =>
    intro σ x0 x2 x3 x4 x5 x6 h hx0 H locs ls S hl
    rw [f_X0_windowIfGap_41] at h
    refine lv_iload hx hb dX0_windowIfGap_41 (lv_at hl 5 rfl) ?_
    refine lv_aload_n hx hb dX0_windowIfGap_43 rfl (lv_at hl 0 rfl) ?_
    refine x_getI C S KX0 hx0 7 (by decide) rfl rfl fl_RX0_24 dX0_windowIfGap_44 ?_
    refine lv_icmp_ge (tgt := 77) hx hb dX0_windowIfGap_47 (by decide) (fun c4 => ?_) (fun c4 => ?_)
    · have h := it_p c4 h
      exact w_X0_windowIfGap_77 C hr hSh hk25 σ x0 x2 x3 x4 x5 h hx0 H locs ls S (lv_sub hl [0, 1, 2, 3, 4] rfl)
    · have h := it_n c4 h
      refine lv_iload hx hb dX0_windowIfGap_50 (lv_at hl 5 rfl) ?_
      refine lv_iload hx hb dX0_windowIfGap_52 (lv_at hl 3 rfl) ?_
      refine lv_iload_n hx hb dX0_windowIfGap_54 rfl (lv_at hl 1 rfl) ?_
      refine lv_iadd hx hb dX0_windowIfGap_55 ?_
      refine lv_icmp_ge (tgt := 77) hx hb dX0_windowIfGap_56 (by decide) (fun c5 => ?_) (fun c5 => ?_)
      · have h := it_p c5 h
        exact w_X0_windowIfGap_77 C hr hSh hk25 σ x0 x2 x3 x4 x5 h hx0 H locs ls S (lv_sub hl [0, 1, 2, 3, 4] rfl)
      · have h := it_n c5 h
        refine lv_iload hx hb dX0_windowIfGap_59 (lv_at hl 4 rfl) ?_
        refine lv_aload_n hx hb dX0_windowIfGap_61 rfl (lv_at hl 0 rfl) ?_
        have hR6 : Ok 194 (R x0 0) 10012 := hSh x0 0 0 10012 hx0.1 rfl
        refine x_getR C S KX0 hx0 0 (by decide) rfl rfl fl_RX0_9 hR6 dX0_windowIfGap_62 ?_
        refine lv_iload hx hb dX0_windowIfGap_65 (lv_at hl 5 rfl) ?_
        obtain ⟨hi7, h⟩ := ck_el h
        refine x_iald (len := 12) C S (by decide) hR6 hi7 dX0_windowIfGap_67 ?_
        refine lv_iadd hx hb dX0_windowIfGap_68 ?_
        refine lv_istore (lv' := [(5, .int (x5 + (σ (R x0 0) x6.toNatClampNeg))), (0, .ref (gb g + x0)), (2, .int x2), (3, .int x3), (4, .int x4), (6, .int x6)]) hx hb dX0_windowIfGap_69 hl (by decide) rfl (fun ls hl => ?_)
        refine lv_iinc (v := x6 + 1) (lv' := [(6, .int (x6 + 1)), (5, .int (x5 + (σ (R x0 0) x6.toNatClampNeg))), (0, .ref (gb g + x0)), (2, .int x2), (3, .int x3), (4, .int x4)]) hx hb dX0_windowIfGap_71 hl (k := 5) rfl rfl (by decide) rfl (fun ls hl => ?_)
        refine lv_goto (tgt := 41) hx hb dX0_windowIfGap_74 (by decide) ?_
        exact ih σ x0 x2 x3 x4 (x5 + (σ (R x0 0) x6.toNatClampNeg)) (x6 + 1) h hx0 H locs ls S (lv_sub hl [2, 3, 4, 5, 1, 0] rfl)
set_option maxHeartbeats 4000000 in
set_option maxRecDepth 100000 in
theorem w_X0_windowIfGap_25 {l : Launch} {g : GL} {p : Program} {e : Jvm.Env} {s : State} {m : MethodId} {args : Array Value} {below : List Frame} {meth : Method} {c : Code} {R : Nat → Nat → Nat} {L : Nat → Nat → Int64} {r : (Int32 × SI)} {N : Nat} (C : Cx l g p s m meth c cX0_windowIfGap 7 RX0) (hr : meth.sig.returnType = (some .int)) (hSh : ShR R) : ∀ (n : Nat) (σ : SI) (x0 : Nat) (x2 : Int32) (x3 : Int32) (x4 : Int32), f_X0_windowIfGap_25 N R n σ x0 x2 x3 x4 = some r → Ok 194 x0 0 → ∀ (H : Heap) (locs : List Loc) (ls : Array Slot), S2 g s σ R L H locs → lv_has ls 7 [(0, .ref (gb g + x0)), (2, .int x2), (3, .int x3), (4, .int x4)] → W p l e (rmd 2 0 0) s m args below meth c H locs 0 0 (MQ below (Qg g 194 (PI R L r)) args s 0 0 (gA g)) (F0 m 25 ls []) := by
  have hx := C.1
  have hb := C.2.1
  intro n
  induction n with
  | zero =>
    intro σ x0 x2 x3 x4 h
    cases (show (none : Option (Int32 × SI)) = some r from h)
  | succ n ih =>
    intro σ x0 x2 x3 x4 h hx0 H locs ls S hl
    rw [f_X0_windowIfGap_25] at h
    refine lv_iload hx hb dX0_windowIfGap_25 (lv_at hl 3 rfl) ?_
    refine lv_aload_n hx hb dX0_windowIfGap_27 rfl (lv_at hl 0 rfl) ?_
    refine x_getI C S KX0 hx0 7 (by decide) rfl rfl fl_RX0_24 dX0_windowIfGap_28 ?_
    refine lv_icmp_ge (tgt := 90) hx hb dX0_windowIfGap_31 (by decide) (fun c3 => ?_) (fun c3 => ?_)
    · have h := it_p c3 h
      refine lv_iload_n hx hb dX0_windowIfGap_90 rfl (lv_at hl 2 rfl) ?_
      exact x_iret C S hr h dX0_windowIfGap_91
    · have h := it_n c3 h
      refine lv_iconst (v := (0 : Int32)) hx hb dX0_windowIfGap_34 (by decide) ?_
      refine lv_istore (lv' := [(5, .int (0 : Int32)), (0, .ref (gb g + x0)), (2, .int x2), (3, .int x3), (4, .int x4)]) hx hb dX0_windowIfGap_35 hl (by decide) rfl (fun ls hl => ?_)
      refine lv_iload hx hb dX0_windowIfGap_37 (lv_at hl 4 rfl) ?_
      refine lv_istore (lv' := [(6, .int x4), (5, .int (0 : Int32)), (0, .ref (gb g + x0)), (2, .int x2), (3, .int x3), (4, .int x4)]) hx hb dX0_windowIfGap_39 hl (by decide) rfl (fun ls hl => ?_)
      exact w_X0_windowIfGap_41 C hr hSh ih N σ x0 x2 x3 x4 (0 : Int32) x4 h hx0 H locs ls S (lv_sub hl [2, 3, 4, 5, 1, 0] rfl)
set_option maxHeartbeats 4000000 in
set_option maxRecDepth 100000 in
theorem ok_X0_windowIfGap {l : Launch} {g : GL} {R : Nat → Nat → Nat} {L : Nat → Nat → Int64} {N : Nat} {σ : SI} {x0 : Nat} {x1 : Int32} {r : (Int32 × SI)} (h : f_X0_windowIfGap N R σ x0 x1 = some r) (hSh : ShR R) (hx0 : Ok 194 x0 0) : Ct l g 2 yX0_windowIfGap cX0_windowIfGap 7 (some .int) 194 194 0 0 [.ref (gb g + x0), .int x1] (mkS σ R L) (PI R L r) := by
  refine Met.ofW (cc := cX0_windowIfGap) (maxL := 7) (ret := (some .int)) (by decide) rfl ?_
  intro p e s m args below meth c s₁ B hml hv
  obtain ⟨rfl, hE, hLo, hWd⟩ := hv
  have hr : meth.sig.returnType = (some .int) := B.returns
  have C : Cx l g p s m meth c cX0_windowIfGap 7 RX0 := ⟨B.exec, B.bytes, hml, findClass_of_methodNamed B.named, hE, hLo, B.notSynchronized⟩
  have S : S2 g s σ R L s.heap [] := ⟨hWd, va_S.rf⟩
  have hx := C.1
  have hb := C.2.1
  have hl := lv_entry ([.ref (gb g + x0), .int x1]) (n := 7) (Nat.le_of_ble_eq_true rfl)
  rw [lg_entry_eq]
  generalize (lg_sl ([.ref (gb g + x0), .int x1]) ++ List.replicate (7 - (lg_sl ([.ref (gb g + x0), .int x1])).length) Slot.unset).toArray = ls at hl ⊢
  have hl : lv_has ls 7 [(0, .ref (gb g + x0)), (1, .int x1)] := hl
  generalize hH : s.heap = H at S ⊢
  generalize hlc : ([] : List Loc) = locs at S ⊢
  rw [f_X0_windowIfGap] at h
  refine lv_iload_n hx hb dX0_windowIfGap_0 rfl (lv_at hl 1 rfl) ?_
  refine lv_if_ne (tgt := 11) hx hb dX0_windowIfGap_1 (by decide) (fun c1 => ?_) (fun c1 => ?_)
  · have h := it_n c1 h
    refine lv_bipush (v := (7 : Int32)) hx hb dX0_windowIfGap_11 (by decide) ?_
    refine lv_iload_n hx hb dX0_windowIfGap_13 rfl (lv_at hl 1 rfl) ?_
    obtain ⟨a2, σ2, hc2, h⟩ := bd_el h
    refine x_callNI C S (ok_X11_quotient (L := L) hc2 hSh) ⟨cd_X11_quotient, ni_RX11, mn_RX0_47, st_X11_quotient⟩ ⟨by decide, by decide⟩ rfl ⟨by decide, by decide⟩ hl.1 rfl (Nat.le_of_ble_eq_true rfl) ⟨by decide, by decide⟩ dX0_windowIfGap_14 (fun H locs S => ?_)
    refine lv_iconst (v := (1 : Int32)) hx hb dX0_windowIfGap_17 (by decide) ?_
    refine lv_iadd hx hb dX0_windowIfGap_18 ?_
    refine lv_istore_n (lv' := [(2, .int (a2 + (1 : Int32))), (0, .ref (gb g + x0)), (1, .int x1)]) hx hb dX0_windowIfGap_19 rfl hl (by decide) rfl (fun ls hl => ?_)
    refine lv_iconst (v := (0 : Int32)) hx hb dX0_windowIfGap_20 (by decide) ?_
    refine lv_istore_n (lv' := [(3, .int (0 : Int32)), (2, .int (a2 + (1 : Int32))), (0, .ref (gb g + x0)), (1, .int x1)]) hx hb dX0_windowIfGap_21 rfl hl (by decide) rfl (fun ls hl => ?_)
    refine lv_iconst (v := (0 : Int32)) hx hb dX0_windowIfGap_22 (by decide) ?_
    refine lv_istore (lv' := [(4, .int (0 : Int32)), (3, .int (0 : Int32)), (2, .int (a2 + (1 : Int32))), (0, .ref (gb g + x0)), (1, .int x1)]) hx hb dX0_windowIfGap_23 hl (by decide) rfl (fun ls hl => ?_)
    exact w_X0_windowIfGap_25 C hr hSh N σ2 x0 (a2 + (1 : Int32)) (0 : Int32) (0 : Int32) h hx0 H locs ls S (lv_sub hl [3, 2, 1, 0] rfl)
  · have h := it_p c1 h
    refine lv_aload_n hx hb dX0_windowIfGap_4 rfl (lv_at hl 0 rfl) ?_
    refine x_getI C S KX0 hx0 7 (by decide) rfl rfl fl_RX0_24 dX0_windowIfGap_5 ?_
    refine lv_goto (tgt := 19) hx hb dX0_windowIfGap_8 (by decide) ?_
    refine lv_istore_n (lv' := [(2, .int (σ x0 7)), (0, .ref (gb g + x0)), (1, .int x1)]) hx hb dX0_windowIfGap_19 rfl hl (by decide) rfl (fun ls hl => ?_)
    refine lv_iconst (v := (0 : Int32)) hx hb dX0_windowIfGap_20 (by decide) ?_
    refine lv_istore_n (lv' := [(3, .int (0 : Int32)), (2, .int (σ x0 7)), (0, .ref (gb g + x0)), (1, .int x1)]) hx hb dX0_windowIfGap_21 rfl hl (by decide) rfl (fun ls hl => ?_)
    refine lv_iconst (v := (0 : Int32)) hx hb dX0_windowIfGap_22 (by decide) ?_
    refine lv_istore (lv' := [(4, .int (0 : Int32)), (3, .int (0 : Int32)), (2, .int (σ x0 7)), (0, .ref (gb g + x0)), (1, .int x1)]) hx hb dX0_windowIfGap_23 hl (by decide) rfl (fun ls hl => ?_)
    exact w_X0_windowIfGap_25 C hr hSh N σ x0 (σ x0 7) (0 : Int32) (0 : Int32) h hx0 H locs ls S (lv_sub hl [3, 2, 1, 0] rfl)
theorem dX0_shakes_0 : decode cX0_shakes 0 = .ok (.sipush 1000, 3) := by decide +kernel
theorem dX0_shakes_3 : decode cX0_shakes 3 = .ok (.iload_n 2, 1) := by decide +kernel
theorem dX0_shakes_4 : decode cX0_shakes 4 = .ok (.imul, 1) := by decide +kernel
theorem dX0_shakes_5 : decode cX0_shakes 5 = .ok (.aload_n 0, 1) := by decide +kernel
theorem dX0_shakes_6 : decode cX0_shakes 6 = .ok (.getfield 18, 3) := by decide +kernel
theorem dX0_shakes_9 : decode cX0_shakes 9 = .ok (.iload_n 1, 1) := by decide +kernel
theorem dX0_shakes_10 : decode cX0_shakes 10 = .ok (.iaload, 1) := by decide +kernel
theorem dX0_shakes_11 : decode cX0_shakes 11 = .ok (.iconst 1, 1) := by decide +kernel
theorem dX0_shakes_12 : decode cX0_shakes 12 = .ok (.iadd, 1) := by decide +kernel
theorem dX0_shakes_13 : decode cX0_shakes 13 = .ok (.invokestatic 47, 3) := by decide +kernel
theorem dX0_shakes_16 : decode cX0_shakes 16 = .ok (.ireturn, 1) := by decide +kernel
def f_X0_shakes (N : Nat) (R : Nat → Nat → Nat) (σ : SI) (x0 : Nat) (x1 : Int32) (x2 : Int32) : Option (Int32 × SI) := ck x1 8 (bd (f_X11_quotient N R σ ((1000 : Int32) * x2) ((σ (R x0 2) x1.toNatClampNeg) + (1 : Int32))) (fun a3 σ3 => some (a3, σ3)))
set_option maxHeartbeats 4000000 in
set_option maxRecDepth 100000 in
theorem ok_X0_shakes {l : Launch} {g : GL} {R : Nat → Nat → Nat} {L : Nat → Nat → Int64} {N : Nat} {σ : SI} {x0 : Nat} {x1 : Int32} {x2 : Int32} {r : (Int32 × SI)} (h : f_X0_shakes N R σ x0 x1 x2 = some r) (hSh : ShR R) (hx0 : Ok 194 x0 0) : Ct l g 2 yX0_shakes cX0_shakes 3 (some .int) 194 194 0 0 [.ref (gb g + x0), .int x1, .int x2] (mkS σ R L) (PI R L r) := by
  refine Met.ofW (cc := cX0_shakes) (maxL := 3) (ret := (some .int)) (by decide) rfl ?_
  intro p e s m args below meth c s₁ B hml hv
  obtain ⟨rfl, hE, hLo, hWd⟩ := hv
  have hr : meth.sig.returnType = (some .int) := B.returns
  have C : Cx l g p s m meth c cX0_shakes 3 RX0 := ⟨B.exec, B.bytes, hml, findClass_of_methodNamed B.named, hE, hLo, B.notSynchronized⟩
  have S : S2 g s σ R L s.heap [] := ⟨hWd, va_S.rf⟩
  have hx := C.1
  have hb := C.2.1
  have hl := lv_entry ([.ref (gb g + x0), .int x1, .int x2]) (n := 3) (Nat.le_of_ble_eq_true rfl)
  rw [lg_entry_eq]
  generalize (lg_sl ([.ref (gb g + x0), .int x1, .int x2]) ++ List.replicate (3 - (lg_sl ([.ref (gb g + x0), .int x1, .int x2])).length) Slot.unset).toArray = ls at hl ⊢
  have hl : lv_has ls 3 [(0, .ref (gb g + x0)), (1, .int x1), (2, .int x2)] := hl
  generalize hH : s.heap = H at S ⊢
  generalize hlc : ([] : List Loc) = locs at S ⊢
  rw [f_X0_shakes] at h
  refine lv_sipush (v := (1000 : Int32)) hx hb dX0_shakes_0 (by decide) ?_
  refine lv_iload_n hx hb dX0_shakes_3 rfl (lv_at hl 2 rfl) ?_
  refine lv_imul hx hb dX0_shakes_4 ?_
  refine lv_aload_n hx hb dX0_shakes_5 rfl (lv_at hl 0 rfl) ?_
  have hR1 : Ok 194 (R x0 2) 10008 := hSh x0 0 2 10008 hx0.1 rfl
  refine x_getR C S KX0 hx0 2 (by decide) rfl rfl fl_RX0_18 hR1 dX0_shakes_6 ?_
  refine lv_iload_n hx hb dX0_shakes_9 rfl (lv_at hl 1 rfl) ?_
  obtain ⟨hi2, h⟩ := ck_el h
  refine x_iald (len := 8) C S (by decide) hR1 hi2 dX0_shakes_10 ?_
  refine lv_iconst (v := (1 : Int32)) hx hb dX0_shakes_11 (by decide) ?_
  refine lv_iadd hx hb dX0_shakes_12 ?_
  obtain ⟨a3, σ3, hc3, h⟩ := bd_el h
  refine x_callNI C S (ok_X11_quotient (L := L) hc3 hSh) ⟨cd_X11_quotient, ni_RX11, mn_RX0_47, st_X11_quotient⟩ ⟨by decide, by decide⟩ rfl ⟨by decide, by decide⟩ hl.1 rfl (Nat.le_of_ble_eq_true rfl) ⟨by decide, by decide⟩ dX0_shakes_13 (fun H locs S => ?_)
  exact x_iret C S hr h dX0_shakes_16
theorem dX0_closesRoad_0 : decode cX0_closesRoad 0 = .ok (.aload_n 0, 1) := by decide +kernel
theorem dX0_closesRoad_1 : decode cX0_closesRoad 1 = .ok (.getfield 50, 3) := by decide +kernel
theorem dX0_closesRoad_4 : decode cX0_closesRoad 4 = .ok (.iload_n 1, 1) := by decide +kernel
theorem dX0_closesRoad_5 : decode cX0_closesRoad 5 = .ok (.ishr, 1) := by decide +kernel
theorem dX0_closesRoad_6 : decode cX0_closesRoad 6 = .ok (.iconst 1, 1) := by decide +kernel
theorem dX0_closesRoad_7 : decode cX0_closesRoad 7 = .ok (.iand, 1) := by decide +kernel
theorem dX0_closesRoad_8 : decode cX0_closesRoad 8 = .ok (.ifCond .eq 7, 3) := by decide +kernel
theorem dX0_closesRoad_11 : decode cX0_closesRoad 11 = .ok (.iconst 1, 1) := by decide +kernel
theorem dX0_closesRoad_12 : decode cX0_closesRoad 12 = .ok (.goto 4, 3) := by decide +kernel
theorem dX0_closesRoad_15 : decode cX0_closesRoad 15 = .ok (.iconst 0, 1) := by decide +kernel
theorem dX0_closesRoad_16 : decode cX0_closesRoad 16 = .ok (.ireturn, 1) := by decide +kernel
def f_X0_closesRoad (N : Nat) (R : Nat → Nat → Nat) (σ : SI) (x0 : Nat) (x1 : Int32) : Option (Int32 × SI) := if (((σ x0 11) >>> (x1 &&& 31)) &&& (1 : Int32)) = 0 then (some ((0 : Int32), σ)) else (some ((1 : Int32), σ))
set_option maxHeartbeats 4000000 in
set_option maxRecDepth 100000 in
theorem ok_X0_closesRoad {l : Launch} {g : GL} {R : Nat → Nat → Nat} {L : Nat → Nat → Int64} {N : Nat} {σ : SI} {x0 : Nat} {x1 : Int32} {r : (Int32 × SI)} (h : f_X0_closesRoad N R σ x0 x1 = some r) (hSh : ShR R) (hx0 : Ok 194 x0 0) : Ct l g 1 yX0_closesRoad cX0_closesRoad 2 (some .boolean) 194 194 0 0 [.ref (gb g + x0), .int x1] (mkS σ R L) (PI R L r) := by
  refine Met.ofW (cc := cX0_closesRoad) (maxL := 2) (ret := (some .boolean)) (by decide) rfl ?_
  intro p e s m args below meth c s₁ B hml hv
  obtain ⟨rfl, hE, hLo, hWd⟩ := hv
  have hr : meth.sig.returnType = (some .boolean) := B.returns
  have C : Cx l g p s m meth c cX0_closesRoad 2 RX0 := ⟨B.exec, B.bytes, hml, findClass_of_methodNamed B.named, hE, hLo, B.notSynchronized⟩
  have S : S2 g s σ R L s.heap [] := ⟨hWd, va_S.rf⟩
  have hx := C.1
  have hb := C.2.1
  have hl := lv_entry ([.ref (gb g + x0), .int x1]) (n := 2) (Nat.le_of_ble_eq_true rfl)
  rw [lg_entry_eq]
  generalize (lg_sl ([.ref (gb g + x0), .int x1]) ++ List.replicate (2 - (lg_sl ([.ref (gb g + x0), .int x1])).length) Slot.unset).toArray = ls at hl ⊢
  have hl : lv_has ls 2 [(0, .ref (gb g + x0)), (1, .int x1)] := hl
  generalize hH : s.heap = H at S ⊢
  generalize hlc : ([] : List Loc) = locs at S ⊢
  rw [f_X0_closesRoad] at h
  refine lv_aload_n hx hb dX0_closesRoad_0 rfl (lv_at hl 0 rfl) ?_
  refine x_getI C S KX0 hx0 11 (by decide) rfl rfl fl_RX0_50 dX0_closesRoad_1 ?_
  refine lv_iload_n hx hb dX0_closesRoad_4 rfl (lv_at hl 1 rfl) ?_
  refine lv_ishr hx hb dX0_closesRoad_5 ?_
  refine lv_iconst (v := (1 : Int32)) hx hb dX0_closesRoad_6 (by decide) ?_
  refine lv_iand hx hb dX0_closesRoad_7 ?_
  refine lv_if_eq (tgt := 15) hx hb dX0_closesRoad_8 (by decide) (fun c1 => ?_) (fun c1 => ?_)
  · have h := it_p c1 h
    refine lv_iconst (v := (0 : Int32)) hx hb dX0_closesRoad_15 (by decide) ?_
    exact x_zret C S hr (by decide) h dX0_closesRoad_16
  · have h := it_n c1 h
    refine lv_iconst (v := (1 : Int32)) hx hb dX0_closesRoad_11 (by decide) ?_
    refine lv_goto (tgt := 16) hx hb dX0_closesRoad_12 (by decide) ?_
    exact x_zret C S hr (by decide) h dX0_closesRoad_16
theorem dX1_add_0 : decode cX1_add 0 = .ok (.aload_n 0, 1) := by decide +kernel
theorem dX1_add_1 : decode cX1_add 1 = .ok (.getfield 15, 3) := by decide +kernel
theorem dX1_add_4 : decode cX1_add 4 = .ok (.aload_n 0, 1) := by decide +kernel
theorem dX1_add_5 : decode cX1_add 5 = .ok (.getfield 9, 3) := by decide +kernel
theorem dX1_add_8 : decode cX1_add 8 = .ok (.arraylength, 1) := by decide +kernel
theorem dX1_add_9 : decode cX1_add 9 = .ok (.if_icmp .ge 24, 3) := by decide +kernel
theorem dX1_add_12 : decode cX1_add 12 = .ok (.aload_n 0, 1) := by decide +kernel
theorem dX1_add_13 : decode cX1_add 13 = .ok (.getfield 9, 3) := by decide +kernel
theorem dX1_add_16 : decode cX1_add 16 = .ok (.aload_n 0, 1) := by decide +kernel
theorem dX1_add_17 : decode cX1_add 17 = .ok (.getfield 15, 3) := by decide +kernel
theorem dX1_add_20 : decode cX1_add 20 = .ok (.iload_n 1, 1) := by decide +kernel
theorem dX1_add_21 : decode cX1_add 21 = .ok (.i2b, 1) := by decide +kernel
theorem dX1_add_22 : decode cX1_add 22 = .ok (.bastore, 1) := by decide +kernel
theorem dX1_add_23 : decode cX1_add 23 = .ok (.aload_n 0, 1) := by decide +kernel
theorem dX1_add_24 : decode cX1_add 24 = .ok (.dup, 1) := by decide +kernel
theorem dX1_add_25 : decode cX1_add 25 = .ok (.getfield 15, 3) := by decide +kernel
theorem dX1_add_28 : decode cX1_add 28 = .ok (.iconst 1, 1) := by decide +kernel
theorem dX1_add_29 : decode cX1_add 29 = .ok (.iadd, 1) := by decide +kernel
theorem dX1_add_30 : decode cX1_add 30 = .ok (.putfield 15, 3) := by decide +kernel
theorem dX1_add_33 : decode cX1_add 33 = .ok (.return_, 1) := by decide +kernel
def f_X1_add (N : Nat) (R : Nat → Nat → Nat) (σ : SI) (x0 : Nat) (x1 : Int32) : Option (Unit × SI) := if (Int32.ofNat 40) ≤ (σ x0 1) then (some ((), σ)) else (ck (σ x0 1) 40 (sq (up σ (R x0 0) (σ x0 1).toNatClampNeg (vp_nar .byte x1.toInt8.toInt32)) (fun σ5 => sq (up σ5 x0 1 ((σ5 x0 1) + (1 : Int32))) (fun σ6 => some ((), σ6)))))
set_option maxHeartbeats 4000000 in
set_option maxRecDepth 100000 in
theorem ok_X1_add {l : Launch} {g : GL} {R : Nat → Nat → Nat} {L : Nat → Nat → Int64} {N : Nat} {σ : SI} {x0 : Nat} {x1 : Int32} {r : (Unit × SI)} (h : f_X1_add N R σ x0 x1 = some r) (hSh : ShR R) (hx0 : Ok 194 x0 1) : Ct l g 1 yX1_add cX1_add 2 none 194 194 0 0 [.ref (gb g + x0), .int x1] (mkS σ R L) (PV R L r) := by
  refine Met.ofW (cc := cX1_add) (maxL := 2) (ret := none) (by decide) rfl ?_
  intro p e s m args below meth c s₁ B hml hv
  obtain ⟨rfl, hE, hLo, hWd⟩ := hv
  have hr : meth.sig.returnType = none := B.returns
  have C : Cx l g p s m meth c cX1_add 2 RX1 := ⟨B.exec, B.bytes, hml, findClass_of_methodNamed B.named, hE, hLo, B.notSynchronized⟩
  have S : S2 g s σ R L s.heap [] := ⟨hWd, va_S.rf⟩
  have hx := C.1
  have hb := C.2.1
  have hl := lv_entry ([.ref (gb g + x0), .int x1]) (n := 2) (Nat.le_of_ble_eq_true rfl)
  rw [lg_entry_eq]
  generalize (lg_sl ([.ref (gb g + x0), .int x1]) ++ List.replicate (2 - (lg_sl ([.ref (gb g + x0), .int x1])).length) Slot.unset).toArray = ls at hl ⊢
  have hl : lv_has ls 2 [(0, .ref (gb g + x0)), (1, .int x1)] := hl
  generalize hH : s.heap = H at S ⊢
  generalize hlc : ([] : List Loc) = locs at S ⊢
  rw [f_X1_add] at h
  refine lv_aload_n hx hb dX1_add_0 rfl (lv_at hl 0 rfl) ?_
  refine x_getI C S KX1 hx0 1 (by decide) rfl rfl fl_RX1_15 dX1_add_1 ?_
  refine lv_aload_n hx hb dX1_add_4 rfl (lv_at hl 0 rfl) ?_
  have hR1 : Ok 194 (R x0 0) 20040 := hSh x0 1 0 20040 hx0.1 rfl
  refine x_getR C S KX1 hx0 0 (by decide) rfl rfl fl_RX1_9 hR1 dX1_add_5 ?_
  refine v_alenB (len := 40) C S (by decide) hR1 dX1_add_8 ?_
  refine lv_icmp_ge (tgt := 33) hx hb dX1_add_9 (by decide) (fun c2 => ?_) (fun c2 => ?_)
  · have h := it_p c2 h
    exact x_vret C S hr h dX1_add_33
  · have h := it_n c2 h
    refine lv_aload_n hx hb dX1_add_12 rfl (lv_at hl 0 rfl) ?_
    have hR3 : Ok 194 (R x0 0) 20040 := hSh x0 1 0 20040 hx0.1 rfl
    refine x_getR C S KX1 hx0 0 (by decide) rfl rfl fl_RX1_9 hR3 dX1_add_13 ?_
    refine lv_aload_n hx hb dX1_add_16 rfl (lv_at hl 0 rfl) ?_
    refine x_getI C S KX1 hx0 1 (by decide) rfl rfl fl_RX1_15 dX1_add_17 ?_
    refine lv_iload_n hx hb dX1_add_20 rfl (lv_at hl 1 rfl) ?_
    refine lv_i2b hx hb dX1_add_21 rfl ?_
    obtain ⟨hi4, h⟩ := ck_el h
    obtain ⟨σ5, hs5, h⟩ := sq_el h
    refine x_bast (len := 40) C S (by decide) hR3 hi4 dX1_add_22 hs5 (fun H locs S => ?_)
    refine lv_aload_n hx hb dX1_add_23 rfl (lv_at hl 0 rfl) ?_
    refine lv_dup hx hb dX1_add_24 rfl ?_
    refine x_getI C S KX1 hx0 1 (by decide) rfl rfl fl_RX1_15 dX1_add_25 ?_
    refine lv_iconst (v := (1 : Int32)) hx hb dX1_add_28 (by decide) ?_
    refine lv_iadd hx hb dX1_add_29 ?_
    obtain ⟨σ6, hs6, h⟩ := sq_el h
    refine x_putI C S KX1 hx0 1 (by decide) rfl rfl rfl ⟨rfl, rfl⟩ fl_RX1_15 dX1_add_30 hs6 (fun H locs S => ?_)
    exact x_vret C S hr h dX1_add_33
theorem dX1_addName_0 : decode cX1_addName 0 = .ok (.bipush 25, 2) := by decide +kernel
theorem dX1_addName_2 : decode cX1_addName 2 = .ok (.istore_n 2, 1) := by decide +kernel
theorem dX1_addName_3 : decode cX1_addName 3 = .ok (.iload_n 2, 1) := by decide +kernel
theorem dX1_addName_4 : decode cX1_addName 4 = .ok (.ifCond .lt 30, 3) := by decide +kernel
theorem dX1_addName_7 : decode cX1_addName 7 = .ok (.iload_n 1, 1) := by decide +kernel
theorem dX1_addName_8 : decode cX1_addName 8 = .ok (.iload_n 2, 1) := by decide +kernel
theorem dX1_addName_9 : decode cX1_addName 9 = .ok (.ishr, 1) := by decide +kernel
theorem dX1_addName_10 : decode cX1_addName 10 = .ok (.bipush 31, 2) := by decide +kernel
theorem dX1_addName_12 : decode cX1_addName 12 = .ok (.iand, 1) := by decide +kernel
theorem dX1_addName_13 : decode cX1_addName 13 = .ok (.istore_n 3, 1) := by decide +kernel
theorem dX1_addName_14 : decode cX1_addName 14 = .ok (.iload_n 3, 1) := by decide +kernel
theorem dX1_addName_15 : decode cX1_addName 15 = .ok (.ifCond .eq 13, 3) := by decide +kernel
theorem dX1_addName_18 : decode cX1_addName 18 = .ok (.aload_n 0, 1) := by decide +kernel
theorem dX1_addName_19 : decode cX1_addName 19 = .ok (.bipush 97, 2) := by decide +kernel
theorem dX1_addName_21 : decode cX1_addName 21 = .ok (.iload_n 3, 1) := by decide +kernel
theorem dX1_addName_22 : decode cX1_addName 22 = .ok (.iadd, 1) := by decide +kernel
theorem dX1_addName_23 : decode cX1_addName 23 = .ok (.iconst 1, 1) := by decide +kernel
theorem dX1_addName_24 : decode cX1_addName 24 = .ok (.isub, 1) := by decide +kernel
theorem dX1_addName_25 : decode cX1_addName 25 = .ok (.invokevirtual 23, 3) := by decide +kernel
theorem dX1_addName_28 : decode cX1_addName 28 = .ok (.iinc 2 (-5), 3) := by decide +kernel
theorem dX1_addName_31 : decode cX1_addName 31 = .ok (.goto (-28), 3) := by decide +kernel
theorem dX1_addName_34 : decode cX1_addName 34 = .ok (.return_, 1) := by decide +kernel
def f_X1_addName_28 (N : Nat) (R : Nat → Nat → Nat) (k3 : SI → Nat → Int32 → Int32 → Option (Unit × SI)) (σ : SI) (x0 : Nat) (x1 : Int32) (x2 : Int32) : Option (Unit × SI) := k3 σ x0 x1 (x2 + (-5))
def f_X1_addName_3 (N : Nat) (R : Nat → Nat → Nat) : Nat → SI → Nat → Int32 → Int32 → Option (Unit × SI)
  | 0, _, _, _, _ => none
  | n + 1, σ, x0, x1, x2 => if x2 < 0 then (some ((), σ)) else (if ((x1 >>> (x2 &&& 31)) &&& (31 : Int32)) = 0 then (f_X1_addName_28 N R (fun σ x0 x1 x2 => f_X1_addName_3 N R n σ x0 x1 x2) σ x0 x1 x2) else (bd (f_X1_add N R σ x0 (((97 : Int32) + ((x1 >>> (x2 &&& 31)) &&& (31 : Int32))) - (1 : Int32))) (fun _ σ3 => f_X1_addName_28 N R (fun σ x0 x1 x2 => f_X1_addName_3 N R n σ x0 x1 x2) σ3 x0 x1 x2)))
def f_X1_addName (N : Nat) (R : Nat → Nat → Nat) (σ : SI) (x0 : Nat) (x1 : Int32) : Option (Unit × SI) := f_X1_addName_3 N R N σ x0 x1 (25 : Int32)
set_option maxHeartbeats 4000000 in
set_option maxRecDepth 100000 in
theorem w_X1_addName_28 {l : Launch} {g : GL} {p : Program} {e : Jvm.Env} {s : State} {m : MethodId} {args : Array Value} {below : List Frame} {meth : Method} {c : Code} {R : Nat → Nat → Nat} {L : Nat → Nat → Int64} {r : (Unit × SI)} {N : Nat} {k3 : SI → Nat → Int32 → Int32 → Option (Unit × SI)} (C : Cx l g p s m meth c cX1_addName 4 RX1) (hr : meth.sig.returnType = none) (hSh : ShR R) (hk3 : ∀ (σ : SI) (x0 : Nat) (x1 : Int32) (x2 : Int32), k3 σ x0 x1 x2 = some r → Ok 194 x0 1 → ∀ (H : Heap) (locs : List Loc) (ls : Array Slot), S2 g s σ R L H locs → lv_has ls 4 [(0, .ref (gb g + x0)), (1, .int x1), (2, .int x2)] → W p l e (rmd 2 0 0) s m args below meth c H locs 0 0 (MQ below (Qg g 194 (PV R L r)) args s 0 0 (gA g)) (F0 m 3 ls [])) : ∀ (σ : SI) (x0 : Nat) (x1 : Int32) (x2 : Int32), f_X1_addName_28 N R k3 σ x0 x1 x2 = some r → Ok 194 x0 1 → ∀ (H : Heap) (locs : List Loc) (ls : Array Slot), S2 g s σ R L H locs → lv_has ls 4 [(0, .ref (gb g + x0)), (1, .int x1), (2, .int x2)] → W p l e (rmd 2 0 0) s m args below meth c H locs 0 0 (MQ below (Qg g 194 (PV R L r)) args s 0 0 (gA g)) (F0 m 28 ls []) := by
  have hx := C.1
  have hb := C.2.1
  intro σ x0 x1 x2 h hx0 H locs ls S hl
  rw [f_X1_addName_28] at h
  refine lv_iinc (v := x2 + (-5)) (lv' := [(2, .int (x2 + (-5))), (0, .ref (gb g + x0)), (1, .int x1)]) hx hb dX1_addName_28 hl (k := 2) rfl rfl (by decide) rfl (fun ls hl => ?_)
  refine lv_goto (tgt := 3) hx hb dX1_addName_31 (by decide) ?_
  exact hk3 σ x0 x1 (x2 + (-5)) h hx0 H locs ls S (lv_sub hl [1, 2, 0] rfl)
set_option maxHeartbeats 4000000 in
set_option maxRecDepth 100000 in
theorem w_X1_addName_3 {l : Launch} {g : GL} {p : Program} {e : Jvm.Env} {s : State} {m : MethodId} {args : Array Value} {below : List Frame} {meth : Method} {c : Code} {R : Nat → Nat → Nat} {L : Nat → Nat → Int64} {r : (Unit × SI)} {N : Nat} (C : Cx l g p s m meth c cX1_addName 4 RX1) (hr : meth.sig.returnType = none) (hSh : ShR R) : ∀ (n : Nat) (σ : SI) (x0 : Nat) (x1 : Int32) (x2 : Int32), f_X1_addName_3 N R n σ x0 x1 x2 = some r → Ok 194 x0 1 → ∀ (H : Heap) (locs : List Loc) (ls : Array Slot), S2 g s σ R L H locs → lv_has ls 4 [(0, .ref (gb g + x0)), (1, .int x1), (2, .int x2)] → W p l e (rmd 2 0 0) s m args below meth c H locs 0 0 (MQ below (Qg g 194 (PV R L r)) args s 0 0 (gA g)) (F0 m 3 ls []) := by
  have hx := C.1
  have hb := C.2.1
  intro n
  induction n with
  | zero =>
    intro σ x0 x1 x2 h
    cases (show (none : Option (Unit × SI)) = some r from h)
  | succ n ih =>
    intro σ x0 x1 x2 h hx0 H locs ls S hl
    rw [f_X1_addName_3] at h
    refine lv_iload_n hx hb dX1_addName_3 rfl (lv_at hl 2 rfl) ?_
    refine lv_if_lt (tgt := 34) hx hb dX1_addName_4 (by decide) (fun c1 => ?_) (fun c1 => ?_)
    · have h := it_p c1 h
      exact x_vret C S hr h dX1_addName_34
    · have h := it_n c1 h
      refine lv_iload_n hx hb dX1_addName_7 rfl (lv_at hl 1 rfl) ?_
      refine lv_iload_n hx hb dX1_addName_8 rfl (lv_at hl 2 rfl) ?_
      refine lv_ishr hx hb dX1_addName_9 ?_
      refine lv_bipush (v := (31 : Int32)) hx hb dX1_addName_10 (by decide) ?_
      refine lv_iand hx hb dX1_addName_12 ?_
      refine lv_istore_n (lv' := [(3, .int ((x1 >>> (x2 &&& 31)) &&& (31 : Int32))), (0, .ref (gb g + x0)), (1, .int x1), (2, .int x2)]) hx hb dX1_addName_13 rfl hl (by decide) rfl (fun ls hl => ?_)
      refine lv_iload_n hx hb dX1_addName_14 rfl (lv_at hl 0 rfl) ?_
      refine lv_if_eq (tgt := 28) hx hb dX1_addName_15 (by decide) (fun c2 => ?_) (fun c2 => ?_)
      · have h := it_p c2 h
        exact w_X1_addName_28 C hr hSh ih σ x0 x1 x2 h hx0 H locs ls S (lv_sub hl [1, 2, 3] rfl)
      · have h := it_n c2 h
        refine lv_aload_n hx hb dX1_addName_18 rfl (lv_at hl 1 rfl) ?_
        refine lv_bipush (v := (97 : Int32)) hx hb dX1_addName_19 (by decide) ?_
        refine lv_iload_n hx hb dX1_addName_21 rfl (lv_at hl 0 rfl) ?_
        refine lv_iadd hx hb dX1_addName_22 ?_
        refine lv_iconst (v := (1 : Int32)) hx hb dX1_addName_23 (by decide) ?_
        refine lv_isub hx hb dX1_addName_24 ?_
        obtain ⟨a3, σ3, hc3, h⟩ := bd_el h
        refine x_callVV C S KX1 hx0 (ok_X1_add (L := L) hc3 hSh hx0) ⟨cd_X1_add, ni_RX1, ml_RX1_23, in_X1_add, sl_X1_add⟩ ⟨by decide, by decide⟩ rfl ⟨by decide, by decide⟩ hl.1 rfl (Nat.le_of_ble_eq_true rfl) ⟨by decide, by decide⟩ dX1_addName_25 (fun H locs S => ?_)
        exact w_X1_addName_28 C hr hSh ih σ3 x0 x1 x2 h hx0 H locs ls S (lv_sub hl [1, 2, 3] rfl)
set_option maxHeartbeats 4000000 in
set_option maxRecDepth 100000 in
theorem ok_X1_addName {l : Launch} {g : GL} {R : Nat → Nat → Nat} {L : Nat → Nat → Int64} {N : Nat} {σ : SI} {x0 : Nat} {x1 : Int32} {r : (Unit × SI)} (h : f_X1_addName N R σ x0 x1 = some r) (hSh : ShR R) (hx0 : Ok 194 x0 1) : Ct l g 2 yX1_addName cX1_addName 4 none 194 194 0 0 [.ref (gb g + x0), .int x1] (mkS σ R L) (PV R L r) := by
  refine Met.ofW (cc := cX1_addName) (maxL := 4) (ret := none) (by decide) rfl ?_
  intro p e s m args below meth c s₁ B hml hv
  obtain ⟨rfl, hE, hLo, hWd⟩ := hv
  have hr : meth.sig.returnType = none := B.returns
  have C : Cx l g p s m meth c cX1_addName 4 RX1 := ⟨B.exec, B.bytes, hml, findClass_of_methodNamed B.named, hE, hLo, B.notSynchronized⟩
  have S : S2 g s σ R L s.heap [] := ⟨hWd, va_S.rf⟩
  have hx := C.1
  have hb := C.2.1
  have hl := lv_entry ([.ref (gb g + x0), .int x1]) (n := 4) (Nat.le_of_ble_eq_true rfl)
  rw [lg_entry_eq]
  generalize (lg_sl ([.ref (gb g + x0), .int x1]) ++ List.replicate (4 - (lg_sl ([.ref (gb g + x0), .int x1])).length) Slot.unset).toArray = ls at hl ⊢
  have hl : lv_has ls 4 [(0, .ref (gb g + x0)), (1, .int x1)] := hl
  generalize hH : s.heap = H at S ⊢
  generalize hlc : ([] : List Loc) = locs at S ⊢
  rw [f_X1_addName] at h
  refine lv_bipush (v := (25 : Int32)) hx hb dX1_addName_0 (by decide) ?_
  refine lv_istore_n (lv' := [(2, .int (25 : Int32)), (0, .ref (gb g + x0)), (1, .int x1)]) hx hb dX1_addName_2 rfl hl (by decide) rfl (fun ls hl => ?_)
  exact w_X1_addName_3 C hr hSh N σ x0 x1 (25 : Int32) h hx0 H locs ls S (lv_sub hl [1, 2, 0] rfl)
theorem dX1_addNumber_0 : decode cX1_addNumber 0 = .ok (.sipush 10000, 3) := by decide +kernel
theorem dX1_addNumber_3 : decode cX1_addNumber 3 = .ok (.istore_n 2, 1) := by decide +kernel
theorem dX1_addNumber_4 : decode cX1_addNumber 4 = .ok (.iload_n 2, 1) := by decide +kernel
theorem dX1_addNumber_5 : decode cX1_addNumber 5 = .ok (.iconst 1, 1) := by decide +kernel
theorem dX1_addNumber_6 : decode cX1_addNumber 6 = .ok (.if_icmp .lt 34, 3) := by decide +kernel
theorem dX1_addNumber_9 : decode cX1_addNumber 9 = .ok (.iload_n 1, 1) := by decide +kernel
theorem dX1_addNumber_10 : decode cX1_addNumber 10 = .ok (.iload_n 2, 1) := by decide +kernel
theorem dX1_addNumber_11 : decode cX1_addNumber 11 = .ok (.if_icmp .ge 8, 3) := by decide +kernel
theorem dX1_addNumber_14 : decode cX1_addNumber 14 = .ok (.iload_n 2, 1) := by decide +kernel
theorem dX1_addNumber_15 : decode cX1_addNumber 15 = .ok (.iconst 1, 1) := by decide +kernel
theorem dX1_addNumber_16 : decode cX1_addNumber 16 = .ok (.if_icmp .ne 16, 3) := by decide +kernel
theorem dX1_addNumber_19 : decode cX1_addNumber 19 = .ok (.aload_n 0, 1) := by decide +kernel
theorem dX1_addNumber_20 : decode cX1_addNumber 20 = .ok (.bipush 48, 2) := by decide +kernel
theorem dX1_addNumber_22 : decode cX1_addNumber 22 = .ok (.iload_n 1, 1) := by decide +kernel
theorem dX1_addNumber_23 : decode cX1_addNumber 23 = .ok (.iload_n 2, 1) := by decide +kernel
theorem dX1_addNumber_24 : decode cX1_addNumber 24 = .ok (.idiv, 1) := by decide +kernel
theorem dX1_addNumber_25 : decode cX1_addNumber 25 = .ok (.bipush 10, 2) := by decide +kernel
theorem dX1_addNumber_27 : decode cX1_addNumber 27 = .ok (.irem, 1) := by decide +kernel
theorem dX1_addNumber_28 : decode cX1_addNumber 28 = .ok (.iadd, 1) := by decide +kernel
theorem dX1_addNumber_29 : decode cX1_addNumber 29 = .ok (.invokevirtual 23, 3) := by decide +kernel
theorem dX1_addNumber_32 : decode cX1_addNumber 32 = .ok (.iload_n 2, 1) := by decide +kernel
theorem dX1_addNumber_33 : decode cX1_addNumber 33 = .ok (.bipush 10, 2) := by decide +kernel
theorem dX1_addNumber_35 : decode cX1_addNumber 35 = .ok (.idiv, 1) := by decide +kernel
theorem dX1_addNumber_36 : decode cX1_addNumber 36 = .ok (.istore_n 2, 1) := by decide +kernel
theorem dX1_addNumber_37 : decode cX1_addNumber 37 = .ok (.goto (-33), 3) := by decide +kernel
theorem dX1_addNumber_40 : decode cX1_addNumber 40 = .ok (.return_, 1) := by decide +kernel
def f_X1_addNumber_32 (N : Nat) (R : Nat → Nat → Nat) (k4 : SI → Nat → Int32 → Int32 → Option (Unit × SI)) (σ : SI) (x0 : Nat) (x1 : Int32) (x2 : Int32) : Option (Unit × SI) := k4 σ x0 x1 (x2 / (10 : Int32))
def f_X1_addNumber_19 (N : Nat) (R : Nat → Nat → Nat) (k4 : SI → Nat → Int32 → Int32 → Option (Unit × SI)) (σ : SI) (x0 : Nat) (x1 : Int32) (x2 : Int32) : Option (Unit × SI) := cd x2 (bd (f_X1_add N R σ x0 ((48 : Int32) + ((x1 / x2) - (x1 / x2) / (10 : Int32) * (10 : Int32)))) (fun _ σ4 => f_X1_addNumber_32 N R k4 σ4 x0 x1 x2))
def f_X1_addNumber_4 (N : Nat) (R : Nat → Nat → Nat) : Nat → SI → Nat → Int32 → Int32 → Option (Unit × SI)
  | 0, _, _, _, _ => none
  | n + 1, σ, x0, x1, x2 => if x2 < (1 : Int32) then (some ((), σ)) else (if x2 ≤ x1 then (f_X1_addNumber_19 N R (fun σ x0 x1 x2 => f_X1_addNumber_4 N R n σ x0 x1 x2) σ x0 x1 x2) else (if x2 = (1 : Int32) then (f_X1_addNumber_19 N R (fun σ x0 x1 x2 => f_X1_addNumber_4 N R n σ x0 x1 x2) σ x0 x1 x2) else (f_X1_addNumber_32 N R (fun σ x0 x1 x2 => f_X1_addNumber_4 N R n σ x0 x1 x2) σ x0 x1 x2)))
def f_X1_addNumber (N : Nat) (R : Nat → Nat → Nat) (σ : SI) (x0 : Nat) (x1 : Int32) : Option (Unit × SI) := f_X1_addNumber_4 N R N σ x0 x1 (10000 : Int32)
set_option maxHeartbeats 4000000 in
set_option maxRecDepth 100000 in
theorem w_X1_addNumber_32 {l : Launch} {g : GL} {p : Program} {e : Jvm.Env} {s : State} {m : MethodId} {args : Array Value} {below : List Frame} {meth : Method} {c : Code} {R : Nat → Nat → Nat} {L : Nat → Nat → Int64} {r : (Unit × SI)} {N : Nat} {k4 : SI → Nat → Int32 → Int32 → Option (Unit × SI)} (C : Cx l g p s m meth c cX1_addNumber 3 RX1) (hr : meth.sig.returnType = none) (hSh : ShR R) (hk4 : ∀ (σ : SI) (x0 : Nat) (x1 : Int32) (x2 : Int32), k4 σ x0 x1 x2 = some r → Ok 194 x0 1 → ∀ (H : Heap) (locs : List Loc) (ls : Array Slot), S2 g s σ R L H locs → lv_has ls 3 [(0, .ref (gb g + x0)), (1, .int x1), (2, .int x2)] → W p l e (rmd 2 0 0) s m args below meth c H locs 0 0 (MQ below (Qg g 194 (PV R L r)) args s 0 0 (gA g)) (F0 m 4 ls [])) : ∀ (σ : SI) (x0 : Nat) (x1 : Int32) (x2 : Int32), f_X1_addNumber_32 N R k4 σ x0 x1 x2 = some r → Ok 194 x0 1 → ∀ (H : Heap) (locs : List Loc) (ls : Array Slot), S2 g s σ R L H locs → lv_has ls 3 [(0, .ref (gb g + x0)), (1, .int x1), (2, .int x2)] → W p l e (rmd 2 0 0) s m args below meth c H locs 0 0 (MQ below (Qg g 194 (PV R L r)) args s 0 0 (gA g)) (F0 m 32 ls []) := by
  have hx := C.1
  have hb := C.2.1
  intro σ x0 x1 x2 h hx0 H locs ls S hl
  rw [f_X1_addNumber_32] at h
  refine lv_iload_n hx hb dX1_addNumber_32 rfl (lv_at hl 2 rfl) ?_
  refine lv_bipush (v := (10 : Int32)) hx hb dX1_addNumber_33 (by decide) ?_
  refine lv_idiv hx hb dX1_addNumber_35 (by decide) ?_
  refine lv_istore_n (lv' := [(2, .int (x2 / (10 : Int32))), (0, .ref (gb g + x0)), (1, .int x1)]) hx hb dX1_addNumber_36 rfl hl (by decide) rfl (fun ls hl => ?_)
  refine lv_goto (tgt := 4) hx hb dX1_addNumber_37 (by decide) ?_
  exact hk4 σ x0 x1 (x2 / (10 : Int32)) h hx0 H locs ls S (lv_sub hl [1, 2, 0] rfl)
set_option maxHeartbeats 4000000 in
set_option maxRecDepth 100000 in
theorem w_X1_addNumber_19 {l : Launch} {g : GL} {p : Program} {e : Jvm.Env} {s : State} {m : MethodId} {args : Array Value} {below : List Frame} {meth : Method} {c : Code} {R : Nat → Nat → Nat} {L : Nat → Nat → Int64} {r : (Unit × SI)} {N : Nat} {k4 : SI → Nat → Int32 → Int32 → Option (Unit × SI)} (C : Cx l g p s m meth c cX1_addNumber 3 RX1) (hr : meth.sig.returnType = none) (hSh : ShR R) (hk4 : ∀ (σ : SI) (x0 : Nat) (x1 : Int32) (x2 : Int32), k4 σ x0 x1 x2 = some r → Ok 194 x0 1 → ∀ (H : Heap) (locs : List Loc) (ls : Array Slot), S2 g s σ R L H locs → lv_has ls 3 [(0, .ref (gb g + x0)), (1, .int x1), (2, .int x2)] → W p l e (rmd 2 0 0) s m args below meth c H locs 0 0 (MQ below (Qg g 194 (PV R L r)) args s 0 0 (gA g)) (F0 m 4 ls [])) : ∀ (σ : SI) (x0 : Nat) (x1 : Int32) (x2 : Int32), f_X1_addNumber_19 N R k4 σ x0 x1 x2 = some r → Ok 194 x0 1 → ∀ (H : Heap) (locs : List Loc) (ls : Array Slot), S2 g s σ R L H locs → lv_has ls 3 [(0, .ref (gb g + x0)), (1, .int x1), (2, .int x2)] → W p l e (rmd 2 0 0) s m args below meth c H locs 0 0 (MQ below (Qg g 194 (PV R L r)) args s 0 0 (gA g)) (F0 m 19 ls []) := by
  have hx := C.1
  have hb := C.2.1
  intro σ x0 x1 x2 h hx0 H locs ls S hl
  rw [f_X1_addNumber_19] at h
  refine lv_aload_n hx hb dX1_addNumber_19 rfl (lv_at hl 0 rfl) ?_
  refine lv_bipush (v := (48 : Int32)) hx hb dX1_addNumber_20 (by decide) ?_
  refine lv_iload_n hx hb dX1_addNumber_22 rfl (lv_at hl 1 rfl) ?_
  refine lv_iload_n hx hb dX1_addNumber_23 rfl (lv_at hl 2 rfl) ?_
  obtain ⟨hz3, h⟩ := cd_el h
  refine lv_idiv hx hb dX1_addNumber_24 hz3 ?_
  refine lv_bipush (v := (10 : Int32)) hx hb dX1_addNumber_25 (by decide) ?_
  refine lv_irem hx hb dX1_addNumber_27 (by decide) ?_
  refine lv_iadd hx hb dX1_addNumber_28 ?_
  obtain ⟨a4, σ4, hc4, h⟩ := bd_el h
  refine x_callVV C S KX1 hx0 (ok_X1_add (L := L) hc4 hSh hx0) ⟨cd_X1_add, ni_RX1, ml_RX1_23, in_X1_add, sl_X1_add⟩ ⟨by decide, by decide⟩ rfl ⟨by decide, by decide⟩ hl.1 rfl (Nat.le_of_ble_eq_true rfl) ⟨by decide, by decide⟩ dX1_addNumber_29 (fun H locs S => ?_)
  exact w_X1_addNumber_32 C hr hSh hk4 σ4 x0 x1 x2 h hx0 H locs ls S (lv_sub hl [0, 1, 2] rfl)
set_option maxHeartbeats 4000000 in
set_option maxRecDepth 100000 in
theorem w_X1_addNumber_4 {l : Launch} {g : GL} {p : Program} {e : Jvm.Env} {s : State} {m : MethodId} {args : Array Value} {below : List Frame} {meth : Method} {c : Code} {R : Nat → Nat → Nat} {L : Nat → Nat → Int64} {r : (Unit × SI)} {N : Nat} (C : Cx l g p s m meth c cX1_addNumber 3 RX1) (hr : meth.sig.returnType = none) (hSh : ShR R) : ∀ (n : Nat) (σ : SI) (x0 : Nat) (x1 : Int32) (x2 : Int32), f_X1_addNumber_4 N R n σ x0 x1 x2 = some r → Ok 194 x0 1 → ∀ (H : Heap) (locs : List Loc) (ls : Array Slot), S2 g s σ R L H locs → lv_has ls 3 [(0, .ref (gb g + x0)), (1, .int x1), (2, .int x2)] → W p l e (rmd 2 0 0) s m args below meth c H locs 0 0 (MQ below (Qg g 194 (PV R L r)) args s 0 0 (gA g)) (F0 m 4 ls []) := by
  have hx := C.1
  have hb := C.2.1
  intro n
  induction n with
  | zero =>
    intro σ x0 x1 x2 h
    cases (show (none : Option (Unit × SI)) = some r from h)
  | succ n ih =>
    intro σ x0 x1 x2 h hx0 H locs ls S hl
    rw [f_X1_addNumber_4] at h
    refine lv_iload_n hx hb dX1_addNumber_4 rfl (lv_at hl 2 rfl) ?_
    refine lv_iconst (v := (1 : Int32)) hx hb dX1_addNumber_5 (by decide) ?_
    refine lv_icmp_lt (tgt := 40) hx hb dX1_addNumber_6 (by decide) (fun c1 => ?_) (fun c1 => ?_)
    · have h := it_p c1 h
      exact x_vret C S hr h dX1_addNumber_40
    · have h := it_n c1 h
      refine lv_iload_n hx hb dX1_addNumber_9 rfl (lv_at hl 1 rfl) ?_
      refine lv_iload_n hx hb dX1_addNumber_10 rfl (lv_at hl 2 rfl) ?_
      refine lv_icmp_ge (tgt := 19) hx hb dX1_addNumber_11 (by decide) (fun c2 => ?_) (fun c2 => ?_)
      · have h := it_p c2 h
        exact w_X1_addNumber_19 C hr hSh ih σ x0 x1 x2 h hx0 H locs ls S (lv_sub hl [0, 1, 2] rfl)
      · have h := it_n c2 h
        refine lv_iload_n hx hb dX1_addNumber_14 rfl (lv_at hl 2 rfl) ?_
        refine lv_iconst (v := (1 : Int32)) hx hb dX1_addNumber_15 (by decide) ?_
        refine lv_icmp_ne (tgt := 32) hx hb dX1_addNumber_16 (by decide) (fun c5 => ?_) (fun c5 => ?_)
        · have h := it_n c5 h
          exact w_X1_addNumber_32 C hr hSh ih σ x0 x1 x2 h hx0 H locs ls S (lv_sub hl [0, 1, 2] rfl)
        · have h := it_p c5 h
          exact w_X1_addNumber_19 C hr hSh ih σ x0 x1 x2 h hx0 H locs ls S (lv_sub hl [0, 1, 2] rfl)
set_option maxHeartbeats 4000000 in
set_option maxRecDepth 100000 in
theorem ok_X1_addNumber {l : Launch} {g : GL} {R : Nat → Nat → Nat} {L : Nat → Nat → Int64} {N : Nat} {σ : SI} {x0 : Nat} {x1 : Int32} {r : (Unit × SI)} (h : f_X1_addNumber N R σ x0 x1 = some r) (hSh : ShR R) (hx0 : Ok 194 x0 1) : Ct l g 2 yX1_addNumber cX1_addNumber 3 none 194 194 0 0 [.ref (gb g + x0), .int x1] (mkS σ R L) (PV R L r) := by
  refine Met.ofW (cc := cX1_addNumber) (maxL := 3) (ret := none) (by decide) rfl ?_
  intro p e s m args below meth c s₁ B hml hv
  obtain ⟨rfl, hE, hLo, hWd⟩ := hv
  have hr : meth.sig.returnType = none := B.returns
  have C : Cx l g p s m meth c cX1_addNumber 3 RX1 := ⟨B.exec, B.bytes, hml, findClass_of_methodNamed B.named, hE, hLo, B.notSynchronized⟩
  have S : S2 g s σ R L s.heap [] := ⟨hWd, va_S.rf⟩
  have hx := C.1
  have hb := C.2.1
  have hl := lv_entry ([.ref (gb g + x0), .int x1]) (n := 3) (Nat.le_of_ble_eq_true rfl)
  rw [lg_entry_eq]
  generalize (lg_sl ([.ref (gb g + x0), .int x1]) ++ List.replicate (3 - (lg_sl ([.ref (gb g + x0), .int x1])).length) Slot.unset).toArray = ls at hl ⊢
  have hl : lv_has ls 3 [(0, .ref (gb g + x0)), (1, .int x1)] := hl
  generalize hH : s.heap = H at S ⊢
  generalize hlc : ([] : List Loc) = locs at S ⊢
  rw [f_X1_addNumber] at h
  refine lv_sipush (v := (10000 : Int32)) hx hb dX1_addNumber_0 (by decide) ?_
  refine lv_istore_n (lv' := [(2, .int (10000 : Int32)), (0, .ref (gb g + x0)), (1, .int x1)]) hx hb dX1_addNumber_3 rfl hl (by decide) rfl (fun ls hl => ?_)
  exact w_X1_addNumber_4 C hr hSh N σ x0 x1 (10000 : Int32) h hx0 H locs ls S (lv_sub hl [1, 2, 0] rfl)
theorem dX2_clear_0 : decode cX2_clear 0 = .ok (.aload_n 0, 1) := by decide +kernel
theorem dX2_clear_1 : decode cX2_clear 1 = .ok (.iconst 0, 1) := by decide +kernel
theorem dX2_clear_2 : decode cX2_clear 2 = .ok (.putfield 16, 3) := by decide +kernel
theorem dX2_clear_5 : decode cX2_clear 5 = .ok (.return_, 1) := by decide +kernel
def f_X2_clear (N : Nat) (R : Nat → Nat → Nat) (σ : SI) (x0 : Nat) : Option (Unit × SI) := sq (up σ x0 2 (0 : Int32)) (fun σ1 => some ((), σ1))
set_option maxHeartbeats 4000000 in
set_option maxRecDepth 100000 in
theorem ok_X2_clear {l : Launch} {g : GL} {R : Nat → Nat → Nat} {L : Nat → Nat → Int64} {N : Nat} {σ : SI} {x0 : Nat} {r : (Unit × SI)} (h : f_X2_clear N R σ x0 = some r) (hSh : ShR R) (hx0 : Ok 194 x0 2) : Ct l g 1 yX2_clear cX2_clear 1 none 194 194 0 0 [.ref (gb g + x0)] (mkS σ R L) (PV R L r) := by
  refine Met.ofW (cc := cX2_clear) (maxL := 1) (ret := none) (by decide) rfl ?_
  intro p e s m args below meth c s₁ B hml hv
  obtain ⟨rfl, hE, hLo, hWd⟩ := hv
  have hr : meth.sig.returnType = none := B.returns
  have C : Cx l g p s m meth c cX2_clear 1 RX2 := ⟨B.exec, B.bytes, hml, findClass_of_methodNamed B.named, hE, hLo, B.notSynchronized⟩
  have S : S2 g s σ R L s.heap [] := ⟨hWd, va_S.rf⟩
  have hx := C.1
  have hb := C.2.1
  have hl := lv_entry ([.ref (gb g + x0)]) (n := 1) (Nat.le_of_ble_eq_true rfl)
  rw [lg_entry_eq]
  generalize (lg_sl ([.ref (gb g + x0)]) ++ List.replicate (1 - (lg_sl ([.ref (gb g + x0)])).length) Slot.unset).toArray = ls at hl ⊢
  have hl : lv_has ls 1 [(0, .ref (gb g + x0))] := hl
  generalize hH : s.heap = H at S ⊢
  generalize hlc : ([] : List Loc) = locs at S ⊢
  rw [f_X2_clear] at h
  refine lv_aload_n hx hb dX2_clear_0 rfl (lv_at hl 0 rfl) ?_
  refine lv_iconst (v := (0 : Int32)) hx hb dX2_clear_1 (by decide) ?_
  obtain ⟨σ1, hs1, h⟩ := sq_el h
  refine x_putI C S KX2 hx0 2 (by decide) rfl rfl rfl ⟨rfl, rfl⟩ fl_RX2_16 dX2_clear_2 hs1 (fun H locs S => ?_)
  exact x_vret C S hr h dX2_clear_5
theorem dX2_record_0 : decode cX2_record 0 = .ok (.aload_n 0, 1) := by decide +kernel
theorem dX2_record_1 : decode cX2_record 1 = .ok (.getfield 13, 3) := by decide +kernel
theorem dX2_record_4 : decode cX2_record 4 = .ok (.aload_n 0, 1) := by decide +kernel
theorem dX2_record_5 : decode cX2_record 5 = .ok (.getfield 20, 3) := by decide +kernel
theorem dX2_record_8 : decode cX2_record 8 = .ok (.aaload, 1) := by decide +kernel
theorem dX2_record_9 : decode cX2_record 9 = .ok (.astore_n 2, 1) := by decide +kernel
theorem dX2_record_10 : decode cX2_record 10 = .ok (.iconst 0, 1) := by decide +kernel
theorem dX2_record_11 : decode cX2_record 11 = .ok (.istore_n 3, 1) := by decide +kernel
theorem dX2_record_12 : decode cX2_record 12 = .ok (.iload_n 3, 1) := by decide +kernel
theorem dX2_record_13 : decode cX2_record 13 = .ok (.aload_n 1, 1) := by decide +kernel
theorem dX2_record_14 : decode cX2_record 14 = .ok (.getfield 23, 3) := by decide +kernel
theorem dX2_record_17 : decode cX2_record 17 = .ok (.if_icmp .ge 85, 3) := by decide +kernel
theorem dX2_record_20 : decode cX2_record 20 = .ok (.aload_n 1, 1) := by decide +kernel
theorem dX2_record_21 : decode cX2_record 21 = .ok (.getfield 28, 3) := by decide +kernel
theorem dX2_record_24 : decode cX2_record 24 = .ok (.iload_n 3, 1) := by decide +kernel
theorem dX2_record_25 : decode cX2_record 25 = .ok (.aaload, 1) := by decide +kernel
theorem dX2_record_26 : decode cX2_record 26 = .ok (.astore 4, 2) := by decide +kernel
theorem dX2_record_28 : decode cX2_record 28 = .ok (.iload_n 3, 1) := by decide +kernel
theorem dX2_record_29 : decode cX2_record 29 = .ok (.bipush 14, 2) := by decide +kernel
theorem dX2_record_31 : decode cX2_record 31 = .ok (.imul, 1) := by decide +kernel
theorem dX2_record_32 : decode cX2_record 32 = .ok (.istore 5, 2) := by decide +kernel
theorem dX2_record_34 : decode cX2_record 34 = .ok (.aload_n 2, 1) := by decide +kernel
theorem dX2_record_35 : decode cX2_record 35 = .ok (.iload 5, 2) := by decide +kernel
theorem dX2_record_37 : decode cX2_record 37 = .ok (.aload_n 1, 1) := by decide +kernel
theorem dX2_record_38 : decode cX2_record 38 = .ok (.getfield 32, 3) := by decide +kernel
theorem dX2_record_41 : decode cX2_record 41 = .ok (.iload_n 3, 1) := by decide +kernel
theorem dX2_record_42 : decode cX2_record 42 = .ok (.iaload, 1) := by decide +kernel
theorem dX2_record_43 : decode cX2_record 43 = .ok (.iastore, 1) := by decide +kernel
theorem dX2_record_44 : decode cX2_record 44 = .ok (.aload_n 2, 1) := by decide +kernel
theorem dX2_record_45 : decode cX2_record 45 = .ok (.iload 5, 2) := by decide +kernel
theorem dX2_record_47 : decode cX2_record 47 = .ok (.iconst 1, 1) := by decide +kernel
theorem dX2_record_48 : decode cX2_record 48 = .ok (.iadd, 1) := by decide +kernel
theorem dX2_record_49 : decode cX2_record 49 = .ok (.aload 4, 2) := by decide +kernel
theorem dX2_record_51 : decode cX2_record 51 = .ok (.getfield 36, 3) := by decide +kernel
theorem dX2_record_54 : decode cX2_record 54 = .ok (.ifCond .eq 7, 3) := by decide +kernel
theorem dX2_record_57 : decode cX2_record 57 = .ok (.iconst 1, 1) := by decide +kernel
theorem dX2_record_58 : decode cX2_record 58 = .ok (.goto 4, 3) := by decide +kernel
theorem dX2_record_61 : decode cX2_record 61 = .ok (.iconst 0, 1) := by decide +kernel
theorem dX2_record_62 : decode cX2_record 62 = .ok (.iastore, 1) := by decide +kernel
theorem dX2_record_63 : decode cX2_record 63 = .ok (.iconst 0, 1) := by decide +kernel
theorem dX2_record_64 : decode cX2_record 64 = .ok (.istore 6, 2) := by decide +kernel
theorem dX2_record_66 : decode cX2_record 66 = .ok (.iload 6, 2) := by decide +kernel
theorem dX2_record_68 : decode cX2_record 68 = .ok (.bipush 12, 2) := by decide +kernel
theorem dX2_record_70 : decode cX2_record 70 = .ok (.if_icmp .ge 26, 3) := by decide +kernel
theorem dX2_record_73 : decode cX2_record 73 = .ok (.aload_n 2, 1) := by decide +kernel
theorem dX2_record_74 : decode cX2_record 74 = .ok (.iload 5, 2) := by decide +kernel
theorem dX2_record_76 : decode cX2_record 76 = .ok (.iconst 2, 1) := by decide +kernel
theorem dX2_record_77 : decode cX2_record 77 = .ok (.iadd, 1) := by decide +kernel
theorem dX2_record_78 : decode cX2_record 78 = .ok (.iload 6, 2) := by decide +kernel
theorem dX2_record_80 : decode cX2_record 80 = .ok (.iadd, 1) := by decide +kernel
theorem dX2_record_81 : decode cX2_record 81 = .ok (.aload 4, 2) := by decide +kernel
theorem dX2_record_83 : decode cX2_record 83 = .ok (.getfield 42, 3) := by decide +kernel
theorem dX2_record_86 : decode cX2_record 86 = .ok (.iload 6, 2) := by decide +kernel
theorem dX2_record_88 : decode cX2_record 88 = .ok (.iaload, 1) := by decide +kernel
theorem dX2_record_89 : decode cX2_record 89 = .ok (.iastore, 1) := by decide +kernel
theorem dX2_record_90 : decode cX2_record 90 = .ok (.iinc 6 1, 3) := by decide +kernel
theorem dX2_record_93 : decode cX2_record 93 = .ok (.goto (-27), 3) := by decide +kernel
theorem dX2_record_96 : decode cX2_record 96 = .ok (.iinc 3 1, 3) := by decide +kernel
theorem dX2_record_99 : decode cX2_record 99 = .ok (.goto (-87), 3) := by decide +kernel
theorem dX2_record_102 : decode cX2_record 102 = .ok (.aload_n 0, 1) := by decide +kernel
theorem dX2_record_103 : decode cX2_record 103 = .ok (.aload_n 0, 1) := by decide +kernel
theorem dX2_record_104 : decode cX2_record 104 = .ok (.getfield 20, 3) := by decide +kernel
theorem dX2_record_107 : decode cX2_record 107 = .ok (.iconst 1, 1) := by decide +kernel
theorem dX2_record_108 : decode cX2_record 108 = .ok (.iadd, 1) := by decide +kernel
theorem dX2_record_109 : decode cX2_record 109 = .ok (.bipush 16, 2) := by decide +kernel
theorem dX2_record_111 : decode cX2_record 111 = .ok (.irem, 1) := by decide +kernel
theorem dX2_record_112 : decode cX2_record 112 = .ok (.putfield 20, 3) := by decide +kernel
theorem dX2_record_115 : decode cX2_record 115 = .ok (.aload_n 0, 1) := by decide +kernel
theorem dX2_record_116 : decode cX2_record 116 = .ok (.aload_n 0, 1) := by decide +kernel
theorem dX2_record_117 : decode cX2_record 117 = .ok (.getfield 16, 3) := by decide +kernel
theorem dX2_record_120 : decode cX2_record 120 = .ok (.iconst 1, 1) := by decide +kernel
theorem dX2_record_121 : decode cX2_record 121 = .ok (.iadd, 1) := by decide +kernel
theorem dX2_record_122 : decode cX2_record 122 = .ok (.bipush 16, 2) := by decide +kernel
theorem dX2_record_124 : decode cX2_record 124 = .ok (.invokestatic 45, 3) := by decide +kernel
theorem dX2_record_127 : decode cX2_record 127 = .ok (.putfield 16, 3) := by decide +kernel
theorem dX2_record_130 : decode cX2_record 130 = .ok (.return_, 1) := by decide +kernel
def f_X2_record_66 (N : Nat) (R : Nat → Nat → Nat) (k12 : SI → Nat → Nat → Nat → Int32 → Option (Unit × SI)) : Nat → SI → Nat → Nat → Nat → Int32 → Nat → Int32 → Int32 → Option (Unit × SI)
  | 0, _, _, _, _, _, _, _, _ => none
  | n + 1, σ, x0, x1, x2, x3, x4, x5, x6 => if (12 : Int32) ≤ x6 then (k12 σ x0 x1 x2 (x3 + 1)) else (ck x6 12 (ck ((x5 + (2 : Int32)) + x6) 84 (sq (up σ x2 ((x5 + (2 : Int32)) + x6).toNatClampNeg (σ (R x4 1) x6.toNatClampNeg)) (fun σ21 => f_X2_record_66 N R k12 n σ21 x0 x1 x2 x3 x4 x5 (x6 + 1)))))
def f_X2_record_12 (N : Nat) (R : Nat → Nat → Nat) : Nat → SI → Nat → Nat → Nat → Int32 → Option (Unit × SI)
  | 0, _, _, _, _, _ => none
  | n + 1, σ, x0, x1, x2, x3 => if (σ x1 11) ≤ x3 then (sq (up σ x0 1 (((σ x0 1) + (1 : Int32)) - ((σ x0 1) + (1 : Int32)) / (16 : Int32) * (16 : Int32))) (fun σ5 => sq (up σ5 x0 2 (if (16 : Int32) < ((σ5 x0 2) + (1 : Int32)) then (16 : Int32) else ((σ5 x0 2) + (1 : Int32)))) (fun σ6 => some ((), σ6)))) else (ck x3 6 (ck x3 6 (ck (x3 * (14 : Int32)) 84 (sq (up σ x2 (x3 * (14 : Int32)).toNatClampNeg (σ (R x1 6) x3.toNatClampNeg)) (fun σ13 => if (σ13 (R (R x1 2) x3.toNatClampNeg) 13) = 0 then (ck ((x3 * (14 : Int32)) + (1 : Int32)) 84 (sq (up σ13 x2 ((x3 * (14 : Int32)) + (1 : Int32)).toNatClampNeg (0 : Int32)) (fun σ16 => f_X2_record_66 N R (fun σ x0 x1 x2 x3 => f_X2_record_12 N R n σ x0 x1 x2 x3) N σ16 x0 x1 x2 x3 (R (R x1 2) x3.toNatClampNeg) (x3 * (14 : Int32)) (0 : Int32)))) else (ck ((x3 * (14 : Int32)) + (1 : Int32)) 84 (sq (up σ13 x2 ((x3 * (14 : Int32)) + (1 : Int32)).toNatClampNeg (1 : Int32)) (fun σ23 => f_X2_record_66 N R (fun σ x0 x1 x2 x3 => f_X2_record_12 N R n σ x0 x1 x2 x3) N σ23 x0 x1 x2 x3 (R (R x1 2) x3.toNatClampNeg) (x3 * (14 : Int32)) (0 : Int32)))))))))
def f_X2_record (N : Nat) (R : Nat → Nat → Nat) (σ : SI) (x0 : Nat) (x1 : Nat) : Option (Unit × SI) := ck (σ x0 1) 16 (f_X2_record_12 N R N σ x0 x1 (R (R x0 0) (σ x0 1).toNatClampNeg) (0 : Int32))
set_option maxHeartbeats 4000000 in
set_option maxRecDepth 100000 in
theorem w_X2_record_66 {l : Launch} {g : GL} {p : Program} {e : Jvm.Env} {s : State} {m : MethodId} {args : Array Value} {below : List Frame} {meth : Method} {c : Code} {R : Nat → Nat → Nat} {L : Nat → Nat → Int64} {r : (Unit × SI)} {N : Nat} {k12 : SI → Nat → Nat → Nat → Int32 → Option (Unit × SI)} (C : Cx l g p s m meth c cX2_record 7 RX2) (hr : meth.sig.returnType = none) (hSh : ShR R) (hk12 : ∀ (σ : SI) (x0 : Nat) (x1 : Nat) (x2 : Nat) (x3 : Int32), k12 σ x0 x1 x2 x3 = some r → Ok 194 x0 2 → Ok 194 x1 9 → Ok 194 x2 10084 → ∀ (H : Heap) (locs : List Loc) (ls : Array Slot), S2 g s σ R L H locs → lv_has ls 7 [(0, .ref (gb g + x0)), (1, .ref (gb g + x1)), (2, .ref (gb g + x2)), (3, .int x3)] → W p l e (rmd 1 0 0) s m args below meth c H locs 0 0 (MQ below (Qg g 194 (PV R L r)) args s 0 0 (gA g)) (F0 m 12 ls [])) : ∀ (n : Nat) (σ : SI) (x0 : Nat) (x1 : Nat) (x2 : Nat) (x3 : Int32) (x4 : Nat) (x5 : Int32) (x6 : Int32), f_X2_record_66 N R k12 n σ x0 x1 x2 x3 x4 x5 x6 = some r → Ok 194 x0 2 → Ok 194 x1 9 → Ok 194 x2 10084 → Ok 194 x4 0 → ∀ (H : Heap) (locs : List Loc) (ls : Array Slot), S2 g s σ R L H locs → lv_has ls 7 [(0, .ref (gb g + x0)), (1, .ref (gb g + x1)), (2, .ref (gb g + x2)), (3, .int x3), (4, .ref (gb g + x4)), (5, .int x5), (6, .int x6)] → W p l e (rmd 1 0 0) s m args below meth c H locs 0 0 (MQ below (Qg g 194 (PV R L r)) args s 0 0 (gA g)) (F0 m 66 ls []) := by
  have hx := C.1
  have hb := C.2.1
  intro n
  induction n with
  | zero =>
    intro σ x0 x1 x2 x3 x4 x5 x6 h
    cases (show (none : Option (Unit × SI)) = some r from h)
  | succ n ih =>
    intro σ x0 x1 x2 x3 x4 x5 x6 h hx0 hx1 hx2 hx4 H locs ls S hl
    rw [f_X2_record_66] at h
    refine lv_iload hx hb dX2_record_66 (lv_at hl 6 rfl) ?_
    refine lv_bipush (v := (12 : Int32)) hx hb dX2_record_68 (by decide) ?_
    refine lv_icmp_ge (tgt := 96) hx hb dX2_record_70 (by decide) (fun c17 => ?_) (fun c17 => ?_)
    · have h := it_p c17 h
      refine lv_iinc (v := x3 + 1) (lv' := [(3, .int (x3 + 1)), (0, .ref (gb g + x0)), (1, .ref (gb g + x1)), (2, .ref (gb g + x2)), (4, .ref (gb g + x4)), (5, .int x5), (6, .int x6)]) hx hb dX2_record_96 hl (k := 3) rfl rfl (by decide) rfl (fun ls hl => ?_)
      refine lv_goto (tgt := 12) hx hb dX2_record_99 (by decide) ?_
      exact hk12 σ x0 x1 x2 (x3 + 1) h hx0 hx1 hx2 H locs ls S (lv_sub hl [1, 2, 3, 0] rfl)
    · have h := it_n c17 h
      refine lv_aload_n hx hb dX2_record_73 rfl (lv_at hl 2 rfl) ?_
      refine lv_iload hx hb dX2_record_74 (lv_at hl 5 rfl) ?_
      refine lv_iconst (v := (2 : Int32)) hx hb dX2_record_76 (by decide) ?_
      refine lv_iadd hx hb dX2_record_77 ?_
      refine lv_iload hx hb dX2_record_78 (lv_at hl 6 rfl) ?_
      refine lv_iadd hx hb dX2_record_80 ?_
      refine lv_aload hx hb dX2_record_81 (lv_at hl 4 rfl) ?_
      have hR18 : Ok 194 (R x4 1) 10012 := hSh x4 0 1 10012 hx4.1 rfl
      refine x_getR C S KX0 hx4 1 (by decide) rfl rfl fl_RX2_42 hR18 dX2_record_83 ?_
      refine lv_iload hx hb dX2_record_86 (lv_at hl 6 rfl) ?_
      obtain ⟨hi19, h⟩ := ck_el h
      refine x_iald (len := 12) C S (by decide) hR18 hi19 dX2_record_88 ?_
      obtain ⟨hi20, h⟩ := ck_el h
      obtain ⟨σ21, hs21, h⟩ := sq_el h
      refine x_iast (len := 84) C S (by decide) hx2 hi20 dX2_record_89 hs21 (fun H locs S => ?_)
      refine lv_iinc (v := x6 + 1) (lv' := [(6, .int (x6 + 1)), (0, .ref (gb g + x0)), (1, .ref (gb g + x1)), (2, .ref (gb g + x2)), (3, .int x3), (4, .ref (gb g + x4)), (5, .int x5)]) hx hb dX2_record_90 hl (k := 6) rfl rfl (by decide) rfl (fun ls hl => ?_)
      refine lv_goto (tgt := 66) hx hb dX2_record_93 (by decide) ?_
      exact ih σ21 x0 x1 x2 x3 x4 x5 (x6 + 1) h hx0 hx1 hx2 hx4 H locs ls S (lv_sub hl [1, 2, 3, 4, 5, 6, 0] rfl)
set_option maxHeartbeats 4000000 in
set_option maxRecDepth 100000 in
theorem w_X2_record_12 {l : Launch} {g : GL} {p : Program} {e : Jvm.Env} {s : State} {m : MethodId} {args : Array Value} {below : List Frame} {meth : Method} {c : Code} {R : Nat → Nat → Nat} {L : Nat → Nat → Int64} {r : (Unit × SI)} {N : Nat} (C : Cx l g p s m meth c cX2_record 7 RX2) (hr : meth.sig.returnType = none) (hSh : ShR R) : ∀ (n : Nat) (σ : SI) (x0 : Nat) (x1 : Nat) (x2 : Nat) (x3 : Int32), f_X2_record_12 N R n σ x0 x1 x2 x3 = some r → Ok 194 x0 2 → Ok 194 x1 9 → Ok 194 x2 10084 → ∀ (H : Heap) (locs : List Loc) (ls : Array Slot), S2 g s σ R L H locs → lv_has ls 7 [(0, .ref (gb g + x0)), (1, .ref (gb g + x1)), (2, .ref (gb g + x2)), (3, .int x3)] → W p l e (rmd 1 0 0) s m args below meth c H locs 0 0 (MQ below (Qg g 194 (PV R L r)) args s 0 0 (gA g)) (F0 m 12 ls []) := by
  have hx := C.1
  have hb := C.2.1
  intro n
  induction n with
  | zero =>
    intro σ x0 x1 x2 x3 h
    cases (show (none : Option (Unit × SI)) = some r from h)
  | succ n ih =>
    intro σ x0 x1 x2 x3 h hx0 hx1 hx2 H locs ls S hl
    rw [f_X2_record_12] at h
    refine lv_iload_n hx hb dX2_record_12 rfl (lv_at hl 3 rfl) ?_
    refine lv_aload_n hx hb dX2_record_13 rfl (lv_at hl 1 rfl) ?_
    refine x_getI C S KX9 hx1 11 (by decide) rfl rfl fl_RX2_23 dX2_record_14 ?_
    refine lv_icmp_ge (tgt := 102) hx hb dX2_record_17 (by decide) (fun c4 => ?_) (fun c4 => ?_)
    · have h := it_p c4 h
      refine lv_aload_n hx hb dX2_record_102 rfl (lv_at hl 0 rfl) ?_
      refine lv_aload_n hx hb dX2_record_103 rfl (lv_at hl 0 rfl) ?_
      refine x_getI C S KX2 hx0 1 (by decide) rfl rfl fl_RX2_20 dX2_record_104 ?_
      refine lv_iconst (v := (1 : Int32)) hx hb dX2_record_107 (by decide) ?_
      refine lv_iadd hx hb dX2_record_108 ?_
      refine lv_bipush (v := (16 : Int32)) hx hb dX2_record_109 (by decide) ?_
      refine lv_irem hx hb dX2_record_111 (by decide) ?_
      obtain ⟨σ5, hs5, h⟩ := sq_el h
      refine x_putI C S KX2 hx0 1 (by decide) rfl rfl rfl ⟨rfl, rfl⟩ fl_RX2_20 dX2_record_112 hs5 (fun H locs S => ?_)
      refine lv_aload_n hx hb dX2_record_115 rfl (lv_at hl 0 rfl) ?_
      refine lv_aload_n hx hb dX2_record_116 rfl (lv_at hl 0 rfl) ?_
      refine x_getI C S KX2 hx0 2 (by decide) rfl rfl fl_RX2_16 dX2_record_117 ?_
      refine lv_iconst (v := (1 : Int32)) hx hb dX2_record_120 (by decide) ?_
      refine lv_iadd hx hb dX2_record_121 ?_
      refine lv_bipush (v := (16 : Int32)) hx hb dX2_record_122 (by decide) ?_
      refine x_min C hl.1 ⟨ml_RX2_45, st_math_min, ni_math, cd_math_min⟩ (Nat.le_of_ble_eq_true rfl) (Nat.le_of_ble_eq_true rfl) (Nat.le_of_ble_eq_true rfl) (Nat.le_of_ble_eq_true rfl) dX2_record_124 ?_
      obtain ⟨σ6, hs6, h⟩ := sq_el h
      refine x_putI C S KX2 hx0 2 (by decide) rfl rfl rfl ⟨rfl, rfl⟩ fl_RX2_16 dX2_record_127 hs6 (fun H locs S => ?_)
      exact x_vret C S hr h dX2_record_130
    · have h := it_n c4 h
      refine lv_aload_n hx hb dX2_record_20 rfl (lv_at hl 1 rfl) ?_
      have hR7 : Ok 194 (R x1 2) 50006 := hSh x1 9 2 50006 hx1.1 rfl
      refine x_getR C S KX9 hx1 2 (by decide) rfl rfl fl_RX2_28 hR7 dX2_record_21 ?_
      refine lv_iload_n hx hb dX2_record_24 rfl (lv_at hl 3 rfl) ?_
      obtain ⟨hi8, h⟩ := ck_el h
      have hR9 : Ok 194 (R (R x1 2) x3.toNatClampNeg) 0 := hSh (R x1 2) 50006 x3.toNatClampNeg 0 hR7.1 (if_pos (vp_lt hi8))
      refine x_aald (len := 6) C S (by decide) 4 (by decide) rfl hR7 hi8 hR9 dX2_record_25 ?_
      refine lv_astore (lv' := [(4, .ref (gb g + (R (R x1 2) x3.toNatClampNeg))), (0, .ref (gb g + x0)), (1, .ref (gb g + x1)), (2, .ref (gb g + x2)), (3, .int x3)]) hx hb dX2_record_26 hl (by decide) rfl (fun ls hl => ?_)
      refine lv_iload_n hx hb dX2_record_28 rfl (lv_at hl 4 rfl) ?_
      refine lv_bipush (v := (14 : Int32)) hx hb dX2_record_29 (by decide) ?_
      refine lv_imul hx hb dX2_record_31 ?_
      refine lv_istore (lv' := [(5, .int (x3 * (14 : Int32))), (4, .ref (gb g + (R (R x1 2) x3.toNatClampNeg))), (0, .ref (gb g + x0)), (1, .ref (gb g + x1)), (2, .ref (gb g + x2)), (3, .int x3)]) hx hb dX2_record_32 hl (by decide) rfl (fun ls hl => ?_)
      refine lv_aload_n hx hb dX2_record_34 rfl (lv_at hl 4 rfl) ?_
      refine lv_iload hx hb dX2_record_35 (lv_at hl 0 rfl) ?_
      refine lv_aload_n hx hb dX2_record_37 rfl (lv_at hl 3 rfl) ?_
      have hR10 : Ok 194 (R x1 6) 10006 := hSh x1 9 6 10006 hx1.1 rfl
      refine x_getR C S KX9 hx1 6 (by decide) rfl rfl fl_RX2_32 hR10 dX2_record_38 ?_
      refine lv_iload_n hx hb dX2_record_41 rfl (lv_at hl 5 rfl) ?_
      obtain ⟨hi11, h⟩ := ck_el h
      refine x_iald (len := 6) C S (by decide) hR10 hi11 dX2_record_42 ?_
      obtain ⟨hi12, h⟩ := ck_el h
      obtain ⟨σ13, hs13, h⟩ := sq_el h
      refine x_iast (len := 84) C S (by decide) hx2 hi12 dX2_record_43 hs13 (fun H locs S => ?_)
      refine lv_aload_n hx hb dX2_record_44 rfl (lv_at hl 4 rfl) ?_
      refine lv_iload hx hb dX2_record_45 (lv_at hl 0 rfl) ?_
      refine lv_iconst (v := (1 : Int32)) hx hb dX2_record_47 (by decide) ?_
      refine lv_iadd hx hb dX2_record_48 ?_
      refine lv_aload hx hb dX2_record_49 (lv_at hl 1 rfl) ?_
      refine x_getI C S KX0 hR9 13 (by decide) rfl rfl fl_RX2_36 dX2_record_51 ?_
      refine lv_if_eq (tgt := 61) hx hb dX2_record_54 (by decide) (fun c14 => ?_) (fun c14 => ?_)
      · have h := it_p c14 h
        refine lv_iconst (v := (0 : Int32)) hx hb dX2_record_61 (by decide) ?_
        obtain ⟨hi15, h⟩ := ck_el h
        obtain ⟨σ16, hs16, h⟩ := sq_el h
        refine x_iast (len := 84) C S (by decide) hx2 hi15 dX2_record_62 hs16 (fun H locs S => ?_)
        refine lv_iconst (v := (0 : Int32)) hx hb dX2_record_63 (by decide) ?_
        refine lv_istore (lv' := [(6, .int (0 : Int32)), (5, .int (x3 * (14 : Int32))), (4, .ref (gb g + (R (R x1 2) x3.toNatClampNeg))), (0, .ref (gb g + x0)), (1, .ref (gb g + x1)), (2, .ref (gb g + x2)), (3, .int x3)]) hx hb dX2_record_64 hl (by decide) rfl (fun ls hl => ?_)
        exact w_X2_record_66 C hr hSh ih N σ16 x0 x1 x2 x3 (R (R x1 2) x3.toNatClampNeg) (x3 * (14 : Int32)) (0 : Int32) h hx0 hx1 hx2 hR9 H locs ls S (lv_sub hl [3, 4, 5, 6, 2, 1, 0] rfl)
      · have h := it_n c14 h
        refine lv_iconst (v := (1 : Int32)) hx hb dX2_record_57 (by decide) ?_
        refine lv_goto (tgt := 62) hx hb dX2_record_58 (by decide) ?_
        obtain ⟨hi22, h⟩ := ck_el h
        obtain ⟨σ23, hs23, h⟩ := sq_el h
        refine x_iast (len := 84) C S (by decide) hx2 hi22 dX2_record_62 hs23 (fun H locs S => ?_)
        refine lv_iconst (v := (0 : Int32)) hx hb dX2_record_63 (by decide) ?_
        refine lv_istore (lv' := [(6, .int (0 : Int32)), (5, .int (x3 * (14 : Int32))), (4, .ref (gb g + (R (R x1 2) x3.toNatClampNeg))), (0, .ref (gb g + x0)), (1, .ref (gb g + x1)), (2, .ref (gb g + x2)), (3, .int x3)]) hx hb dX2_record_64 hl (by decide) rfl (fun ls hl => ?_)
        exact w_X2_record_66 C hr hSh ih N σ23 x0 x1 x2 x3 (R (R x1 2) x3.toNatClampNeg) (x3 * (14 : Int32)) (0 : Int32) h hx0 hx1 hx2 hR9 H locs ls S (lv_sub hl [3, 4, 5, 6, 2, 1, 0] rfl)
set_option maxHeartbeats 4000000 in
set_option maxRecDepth 100000 in
theorem ok_X2_record {l : Launch} {g : GL} {R : Nat → Nat → Nat} {L : Nat → Nat → Int64} {N : Nat} {σ : SI} {x0 : Nat} {x1 : Nat} {r : (Unit × SI)} (h : f_X2_record N R σ x0 x1 = some r) (hSh : ShR R) (hx0 : Ok 194 x0 2) (hx1 : Ok 194 x1 9) : Ct l g 1 yX2_record cX2_record 7 none 194 194 0 0 [.ref (gb g + x0), .ref (gb g + x1)] (mkS σ R L) (PV R L r) := by
  refine Met.ofW (cc := cX2_record) (maxL := 7) (ret := none) (by decide) rfl ?_
  intro p e s m args below meth c s₁ B hml hv
  obtain ⟨rfl, hE, hLo, hWd⟩ := hv
  have hr : meth.sig.returnType = none := B.returns
  have C : Cx l g p s m meth c cX2_record 7 RX2 := ⟨B.exec, B.bytes, hml, findClass_of_methodNamed B.named, hE, hLo, B.notSynchronized⟩
  have S : S2 g s σ R L s.heap [] := ⟨hWd, va_S.rf⟩
  have hx := C.1
  have hb := C.2.1
  have hl := lv_entry ([.ref (gb g + x0), .ref (gb g + x1)]) (n := 7) (Nat.le_of_ble_eq_true rfl)
  rw [lg_entry_eq]
  generalize (lg_sl ([.ref (gb g + x0), .ref (gb g + x1)]) ++ List.replicate (7 - (lg_sl ([.ref (gb g + x0), .ref (gb g + x1)])).length) Slot.unset).toArray = ls at hl ⊢
  have hl : lv_has ls 7 [(0, .ref (gb g + x0)), (1, .ref (gb g + x1))] := hl
  generalize hH : s.heap = H at S ⊢
  generalize hlc : ([] : List Loc) = locs at S ⊢
  rw [f_X2_record] at h
  refine lv_aload_n hx hb dX2_record_0 rfl (lv_at hl 0 rfl) ?_
  have hR1 : Ok 194 (R x0 0) 80016 := hSh x0 2 0 80016 hx0.1 rfl
  refine x_getR C S KX2 hx0 0 (by decide) rfl rfl fl_RX2_13 hR1 dX2_record_1 ?_
  refine lv_aload_n hx hb dX2_record_4 rfl (lv_at hl 0 rfl) ?_
  refine x_getI C S KX2 hx0 1 (by decide) rfl rfl fl_RX2_20 dX2_record_5 ?_
  obtain ⟨hi2, h⟩ := ck_el h
  have hR3 : Ok 194 (R (R x0 0) (σ x0 1).toNatClampNeg) 10084 := hSh (R x0 0) 80016 (σ x0 1).toNatClampNeg 10084 hR1.1 (if_pos (vp_lt hi2))
  refine x_aald2 (len := 16) C S (by decide) hR1 hi2 hR3 dX2_record_8 ?_
  refine lv_astore_n (lv' := [(2, .ref (gb g + (R (R x0 0) (σ x0 1).toNatClampNeg))), (0, .ref (gb g + x0)), (1, .ref (gb g + x1))]) hx hb dX2_record_9 rfl hl (by decide) rfl (fun ls hl => ?_)
  refine lv_iconst (v := (0 : Int32)) hx hb dX2_record_10 (by decide) ?_
  refine lv_istore_n (lv' := [(3, .int (0 : Int32)), (2, .ref (gb g + (R (R x0 0) (σ x0 1).toNatClampNeg))), (0, .ref (gb g + x0)), (1, .ref (gb g + x1))]) hx hb dX2_record_11 rfl hl (by decide) rfl (fun ls hl => ?_)
  exact w_X2_record_12 C hr hSh N σ x0 x1 (R (R x0 0) (σ x0 1).toNatClampNeg) (0 : Int32) h hx0 hx1 hR3 H locs ls S (lv_sub hl [2, 3, 1, 0] rfl)
theorem dX3_clear_0 : decode cX3_clear 0 = .ok (.aload_n 0, 1) := by decide +kernel
theorem dX3_clear_1 : decode cX3_clear 1 = .ok (.iconst 0, 1) := by decide +kernel
theorem dX3_clear_2 : decode cX3_clear 2 = .ok (.putfield 18, 3) := by decide +kernel
theorem dX3_clear_5 : decode cX3_clear 5 = .ok (.return_, 1) := by decide +kernel
def f_X3_clear (N : Nat) (R : Nat → Nat → Nat) (σ : SI) (x0 : Nat) : Option (Unit × SI) := sq (up σ x0 2 (0 : Int32)) (fun σ1 => some ((), σ1))
set_option maxHeartbeats 4000000 in
set_option maxRecDepth 100000 in
theorem ok_X3_clear {l : Launch} {g : GL} {R : Nat → Nat → Nat} {L : Nat → Nat → Int64} {N : Nat} {σ : SI} {x0 : Nat} {r : (Unit × SI)} (h : f_X3_clear N R σ x0 = some r) (hSh : ShR R) (hx0 : Ok 194 x0 3) : Ct l g 1 yX3_clear cX3_clear 1 none 194 194 0 0 [.ref (gb g + x0)] (mkS σ R L) (PV R L r) := by
  refine Met.ofW (cc := cX3_clear) (maxL := 1) (ret := none) (by decide) rfl ?_
  intro p e s m args below meth c s₁ B hml hv
  obtain ⟨rfl, hE, hLo, hWd⟩ := hv
  have hr : meth.sig.returnType = none := B.returns
  have C : Cx l g p s m meth c cX3_clear 1 RX3 := ⟨B.exec, B.bytes, hml, findClass_of_methodNamed B.named, hE, hLo, B.notSynchronized⟩
  have S : S2 g s σ R L s.heap [] := ⟨hWd, va_S.rf⟩
  have hx := C.1
  have hb := C.2.1
  have hl := lv_entry ([.ref (gb g + x0)]) (n := 1) (Nat.le_of_ble_eq_true rfl)
  rw [lg_entry_eq]
  generalize (lg_sl ([.ref (gb g + x0)]) ++ List.replicate (1 - (lg_sl ([.ref (gb g + x0)])).length) Slot.unset).toArray = ls at hl ⊢
  have hl : lv_has ls 1 [(0, .ref (gb g + x0))] := hl
  generalize hH : s.heap = H at S ⊢
  generalize hlc : ([] : List Loc) = locs at S ⊢
  rw [f_X3_clear] at h
  refine lv_aload_n hx hb dX3_clear_0 rfl (lv_at hl 0 rfl) ?_
  refine lv_iconst (v := (0 : Int32)) hx hb dX3_clear_1 (by decide) ?_
  obtain ⟨σ1, hs1, h⟩ := sq_el h
  refine x_putI C S KX3 hx0 2 (by decide) rfl rfl rfl ⟨rfl, rfl⟩ fl_RX3_18 dX3_clear_2 hs1 (fun H locs S => ?_)
  exact x_vret C S hr h dX3_clear_5
theorem dX3_insert_0 : decode cX3_insert 0 = .ok (.aload_n 0, 1) := by decide +kernel
theorem dX3_insert_1 : decode cX3_insert 1 = .ok (.getfield 18, 3) := by decide +kernel
theorem dX3_insert_4 : decode cX3_insert 4 = .ok (.bipush 8, 2) := by decide +kernel
theorem dX3_insert_6 : decode cX3_insert 6 = .ok (.if_icmp .lt 4, 3) := by decide +kernel
theorem dX3_insert_9 : decode cX3_insert 9 = .ok (.return_, 1) := by decide +kernel
theorem dX3_insert_10 : decode cX3_insert 10 = .ok (.aload_n 0, 1) := by decide +kernel
theorem dX3_insert_11 : decode cX3_insert 11 = .ok (.getfield 18, 3) := by decide +kernel
theorem dX3_insert_14 : decode cX3_insert 14 = .ok (.istore_n 3, 1) := by decide +kernel
theorem dX3_insert_15 : decode cX3_insert 15 = .ok (.iload_n 3, 1) := by decide +kernel
theorem dX3_insert_16 : decode cX3_insert 16 = .ok (.ifCond .le 49, 3) := by decide +kernel
theorem dX3_insert_19 : decode cX3_insert 19 = .ok (.aload_n 0, 1) := by decide +kernel
theorem dX3_insert_20 : decode cX3_insert 20 = .ok (.getfield 11, 3) := by decide +kernel
theorem dX3_insert_23 : decode cX3_insert 23 = .ok (.iload_n 3, 1) := by decide +kernel
theorem dX3_insert_24 : decode cX3_insert 24 = .ok (.iconst 1, 1) := by decide +kernel
theorem dX3_insert_25 : decode cX3_insert 25 = .ok (.isub, 1) := by decide +kernel
theorem dX3_insert_26 : decode cX3_insert 26 = .ok (.iaload, 1) := by decide +kernel
theorem dX3_insert_27 : decode cX3_insert 27 = .ok (.iload_n 1, 1) := by decide +kernel
theorem dX3_insert_28 : decode cX3_insert 28 = .ok (.if_icmp .le 37, 3) := by decide +kernel
theorem dX3_insert_31 : decode cX3_insert 31 = .ok (.aload_n 0, 1) := by decide +kernel
theorem dX3_insert_32 : decode cX3_insert 32 = .ok (.getfield 11, 3) := by decide +kernel
theorem dX3_insert_35 : decode cX3_insert 35 = .ok (.iload_n 3, 1) := by decide +kernel
theorem dX3_insert_36 : decode cX3_insert 36 = .ok (.aload_n 0, 1) := by decide +kernel
theorem dX3_insert_37 : decode cX3_insert 37 = .ok (.getfield 11, 3) := by decide +kernel
theorem dX3_insert_40 : decode cX3_insert 40 = .ok (.iload_n 3, 1) := by decide +kernel
theorem dX3_insert_41 : decode cX3_insert 41 = .ok (.iconst 1, 1) := by decide +kernel
theorem dX3_insert_42 : decode cX3_insert 42 = .ok (.isub, 1) := by decide +kernel
theorem dX3_insert_43 : decode cX3_insert 43 = .ok (.iaload, 1) := by decide +kernel
theorem dX3_insert_44 : decode cX3_insert 44 = .ok (.iastore, 1) := by decide +kernel
theorem dX3_insert_45 : decode cX3_insert 45 = .ok (.aload_n 0, 1) := by decide +kernel
theorem dX3_insert_46 : decode cX3_insert 46 = .ok (.getfield 15, 3) := by decide +kernel
theorem dX3_insert_49 : decode cX3_insert 49 = .ok (.iload_n 3, 1) := by decide +kernel
theorem dX3_insert_50 : decode cX3_insert 50 = .ok (.aload_n 0, 1) := by decide +kernel
theorem dX3_insert_51 : decode cX3_insert 51 = .ok (.getfield 15, 3) := by decide +kernel
theorem dX3_insert_54 : decode cX3_insert 54 = .ok (.iload_n 3, 1) := by decide +kernel
theorem dX3_insert_55 : decode cX3_insert 55 = .ok (.iconst 1, 1) := by decide +kernel
theorem dX3_insert_56 : decode cX3_insert 56 = .ok (.isub, 1) := by decide +kernel
theorem dX3_insert_57 : decode cX3_insert 57 = .ok (.iaload, 1) := by decide +kernel
theorem dX3_insert_58 : decode cX3_insert 58 = .ok (.iastore, 1) := by decide +kernel
theorem dX3_insert_59 : decode cX3_insert 59 = .ok (.iinc 3 (-1), 3) := by decide +kernel
theorem dX3_insert_62 : decode cX3_insert 62 = .ok (.goto (-47), 3) := by decide +kernel
theorem dX3_insert_65 : decode cX3_insert 65 = .ok (.aload_n 0, 1) := by decide +kernel
theorem dX3_insert_66 : decode cX3_insert 66 = .ok (.getfield 11, 3) := by decide +kernel
theorem dX3_insert_69 : decode cX3_insert 69 = .ok (.iload_n 3, 1) := by decide +kernel
theorem dX3_insert_70 : decode cX3_insert 70 = .ok (.iload_n 1, 1) := by decide +kernel
theorem dX3_insert_71 : decode cX3_insert 71 = .ok (.iastore, 1) := by decide +kernel
theorem dX3_insert_72 : decode cX3_insert 72 = .ok (.aload_n 0, 1) := by decide +kernel
theorem dX3_insert_73 : decode cX3_insert 73 = .ok (.getfield 15, 3) := by decide +kernel
theorem dX3_insert_76 : decode cX3_insert 76 = .ok (.iload_n 3, 1) := by decide +kernel
theorem dX3_insert_77 : decode cX3_insert 77 = .ok (.iload_n 2, 1) := by decide +kernel
theorem dX3_insert_78 : decode cX3_insert 78 = .ok (.iastore, 1) := by decide +kernel
theorem dX3_insert_79 : decode cX3_insert 79 = .ok (.aload_n 0, 1) := by decide +kernel
theorem dX3_insert_80 : decode cX3_insert 80 = .ok (.dup, 1) := by decide +kernel
theorem dX3_insert_81 : decode cX3_insert 81 = .ok (.getfield 18, 3) := by decide +kernel
theorem dX3_insert_84 : decode cX3_insert 84 = .ok (.iconst 1, 1) := by decide +kernel
theorem dX3_insert_85 : decode cX3_insert 85 = .ok (.iadd, 1) := by decide +kernel
theorem dX3_insert_86 : decode cX3_insert 86 = .ok (.putfield 18, 3) := by decide +kernel
theorem dX3_insert_89 : decode cX3_insert 89 = .ok (.return_, 1) := by decide +kernel
def f_X3_insert_65 (N : Nat) (R : Nat → Nat → Nat) (σ : SI) (x0 : Nat) (x1 : Int32) (x2 : Int32) (x3 : Int32) : Option (Unit × SI) := ck x3 8 (sq (up σ (R x0 0) x3.toNatClampNeg x1) (fun σ5 => ck x3 8 (sq (up σ5 (R x0 1) x3.toNatClampNeg x2) (fun σ8 => sq (up σ8 x0 2 ((σ8 x0 2) + (1 : Int32))) (fun σ9 => some ((), σ9))))))
def f_X3_insert_15 (N : Nat) (R : Nat → Nat → Nat) : Nat → SI → Nat → Int32 → Int32 → Int32 → Option (Unit × SI)
  | 0, _, _, _, _, _ => none
  | n + 1, σ, x0, x1, x2, x3 => if x3 ≤ 0 then (f_X3_insert_65 N R σ x0 x1 x2 x3) else (ck (x3 - (1 : Int32)) 8 (if (σ (R x0 0) (x3 - (1 : Int32)).toNatClampNeg) ≤ x1 then (f_X3_insert_65 N R σ x0 x1 x2 x3) else (ck (x3 - (1 : Int32)) 8 (ck x3 8 (sq (up σ (R x0 0) x3.toNatClampNeg (σ (R x0 0) (x3 - (1 : Int32)).toNatClampNeg)) (fun σ17 => ck (x3 - (1 : Int32)) 8 (ck x3 8 (sq (up σ17 (R x0 1) x3.toNatClampNeg (σ17 (R x0 1) (x3 - (1 : Int32)).toNatClampNeg)) (fun σ22 => f_X3_insert_15 N R n σ22 x0 x1 x2 (x3 + (-1)))))))))))
def f_X3_insert (N : Nat) (R : Nat → Nat → Nat) (σ : SI) (x0 : Nat) (x1 : Int32) (x2 : Int32) : Option (Unit × SI) := if (σ x0 2) < (8 : Int32) then (f_X3_insert_15 N R N σ x0 x1 x2 (σ x0 2)) else (some ((), σ))
set_option maxHeartbeats 4000000 in
set_option maxRecDepth 100000 in
theorem w_X3_insert_65 {l : Launch} {g : GL} {p : Program} {e : Jvm.Env} {s : State} {m : MethodId} {args : Array Value} {below : List Frame} {meth : Method} {c : Code} {R : Nat → Nat → Nat} {L : Nat → Nat → Int64} {r : (Unit × SI)} {N : Nat} (C : Cx l g p s m meth c cX3_insert 4 RX3) (hr : meth.sig.returnType = none) (hSh : ShR R) : ∀ (σ : SI) (x0 : Nat) (x1 : Int32) (x2 : Int32) (x3 : Int32), f_X3_insert_65 N R σ x0 x1 x2 x3 = some r → Ok 194 x0 3 → ∀ (H : Heap) (locs : List Loc) (ls : Array Slot), S2 g s σ R L H locs → lv_has ls 4 [(0, .ref (gb g + x0)), (1, .int x1), (2, .int x2), (3, .int x3)] → W p l e (rmd 1 0 0) s m args below meth c H locs 0 0 (MQ below (Qg g 194 (PV R L r)) args s 0 0 (gA g)) (F0 m 65 ls []) := by
  have hx := C.1
  have hb := C.2.1
  intro σ x0 x1 x2 x3 h hx0 H locs ls S hl
  rw [f_X3_insert_65] at h
  refine lv_aload_n hx hb dX3_insert_65 rfl (lv_at hl 0 rfl) ?_
  have hR3 : Ok 194 (R x0 0) 10008 := hSh x0 3 0 10008 hx0.1 rfl
  refine x_getR C S KX3 hx0 0 (by decide) rfl rfl fl_RX3_11 hR3 dX3_insert_66 ?_
  refine lv_iload_n hx hb dX3_insert_69 rfl (lv_at hl 3 rfl) ?_
  refine lv_iload_n hx hb dX3_insert_70 rfl (lv_at hl 1 rfl) ?_
  obtain ⟨hi4, h⟩ := ck_el h
  obtain ⟨σ5, hs5, h⟩ := sq_el h
  refine x_iast (len := 8) C S (by decide) hR3 hi4 dX3_insert_71 hs5 (fun H locs S => ?_)
  refine lv_aload_n hx hb dX3_insert_72 rfl (lv_at hl 0 rfl) ?_
  have hR6 : Ok 194 (R x0 1) 10008 := hSh x0 3 1 10008 hx0.1 rfl
  refine x_getR C S KX3 hx0 1 (by decide) rfl rfl fl_RX3_15 hR6 dX3_insert_73 ?_
  refine lv_iload_n hx hb dX3_insert_76 rfl (lv_at hl 3 rfl) ?_
  refine lv_iload_n hx hb dX3_insert_77 rfl (lv_at hl 2 rfl) ?_
  obtain ⟨hi7, h⟩ := ck_el h
  obtain ⟨σ8, hs8, h⟩ := sq_el h
  refine x_iast (len := 8) C S (by decide) hR6 hi7 dX3_insert_78 hs8 (fun H locs S => ?_)
  refine lv_aload_n hx hb dX3_insert_79 rfl (lv_at hl 0 rfl) ?_
  refine lv_dup hx hb dX3_insert_80 rfl ?_
  refine x_getI C S KX3 hx0 2 (by decide) rfl rfl fl_RX3_18 dX3_insert_81 ?_
  refine lv_iconst (v := (1 : Int32)) hx hb dX3_insert_84 (by decide) ?_
  refine lv_iadd hx hb dX3_insert_85 ?_
  obtain ⟨σ9, hs9, h⟩ := sq_el h
  refine x_putI C S KX3 hx0 2 (by decide) rfl rfl rfl ⟨rfl, rfl⟩ fl_RX3_18 dX3_insert_86 hs9 (fun H locs S => ?_)
  exact x_vret C S hr h dX3_insert_89
set_option maxHeartbeats 4000000 in
set_option maxRecDepth 100000 in
theorem w_X3_insert_15 {l : Launch} {g : GL} {p : Program} {e : Jvm.Env} {s : State} {m : MethodId} {args : Array Value} {below : List Frame} {meth : Method} {c : Code} {R : Nat → Nat → Nat} {L : Nat → Nat → Int64} {r : (Unit × SI)} {N : Nat} (C : Cx l g p s m meth c cX3_insert 4 RX3) (hr : meth.sig.returnType = none) (hSh : ShR R) : ∀ (n : Nat) (σ : SI) (x0 : Nat) (x1 : Int32) (x2 : Int32) (x3 : Int32), f_X3_insert_15 N R n σ x0 x1 x2 x3 = some r → Ok 194 x0 3 → ∀ (H : Heap) (locs : List Loc) (ls : Array Slot), S2 g s σ R L H locs → lv_has ls 4 [(0, .ref (gb g + x0)), (1, .int x1), (2, .int x2), (3, .int x3)] → W p l e (rmd 1 0 0) s m args below meth c H locs 0 0 (MQ below (Qg g 194 (PV R L r)) args s 0 0 (gA g)) (F0 m 15 ls []) := by
  have hx := C.1
  have hb := C.2.1
  intro n
  induction n with
  | zero =>
    intro σ x0 x1 x2 x3 h
    cases (show (none : Option (Unit × SI)) = some r from h)
  | succ n ih =>
    intro σ x0 x1 x2 x3 h hx0 H locs ls S hl
    rw [f_X3_insert_15] at h
    refine lv_iload_n hx hb dX3_insert_15 rfl (lv_at hl 3 rfl) ?_
    refine lv_if_le (tgt := 65) hx hb dX3_insert_16 (by decide) (fun c2 => ?_) (fun c2 => ?_)
    · have h := it_p c2 h
      exact w_X3_insert_65 C hr hSh σ x0 x1 x2 x3 h hx0 H locs ls S (lv_sub hl [0, 1, 2, 3] rfl)
    · have h := it_n c2 h
      refine lv_aload_n hx hb dX3_insert_19 rfl (lv_at hl 0 rfl) ?_
      have hR10 : Ok 194 (R x0 0) 10008 := hSh x0 3 0 10008 hx0.1 rfl
      refine x_getR C S KX3 hx0 0 (by decide) rfl rfl fl_RX3_11 hR10 dX3_insert_20 ?_
      refine lv_iload_n hx hb dX3_insert_23 rfl (lv_at hl 3 rfl) ?_
      refine lv_iconst (v := (1 : Int32)) hx hb dX3_insert_24 (by decide) ?_
      refine lv_isub hx hb dX3_insert_25 ?_
      obtain ⟨hi11, h⟩ := ck_el h
      refine x_iald (len := 8) C S (by decide) hR10 hi11 dX3_insert_26 ?_
      refine lv_iload_n hx hb dX3_insert_27 rfl (lv_at hl 1 rfl) ?_
      refine lv_icmp_le (tgt := 65) hx hb dX3_insert_28 (by decide) (fun c12 => ?_) (fun c12 => ?_)
      · have h := it_p c12 h
        exact w_X3_insert_65 C hr hSh σ x0 x1 x2 x3 h hx0 H locs ls S (lv_sub hl [0, 1, 2, 3] rfl)
      · have h := it_n c12 h
        refine lv_aload_n hx hb dX3_insert_31 rfl (lv_at hl 0 rfl) ?_
        have hR13 : Ok 194 (R x0 0) 10008 := hSh x0 3 0 10008 hx0.1 rfl
        refine x_getR C S KX3 hx0 0 (by decide) rfl rfl fl_RX3_11 hR13 dX3_insert_32 ?_
        refine lv_iload_n hx hb dX3_insert_35 rfl (lv_at hl 3 rfl) ?_
        refine lv_aload_n hx hb dX3_insert_36 rfl (lv_at hl 0 rfl) ?_
        have hR14 : Ok 194 (R x0 0) 10008 := hSh x0 3 0 10008 hx0.1 rfl
        refine x_getR C S KX3 hx0 0 (by decide) rfl rfl fl_RX3_11 hR14 dX3_insert_37 ?_
        refine lv_iload_n hx hb dX3_insert_40 rfl (lv_at hl 3 rfl) ?_
        refine lv_iconst (v := (1 : Int32)) hx hb dX3_insert_41 (by decide) ?_
        refine lv_isub hx hb dX3_insert_42 ?_
        obtain ⟨hi15, h⟩ := ck_el h
        refine x_iald (len := 8) C S (by decide) hR14 hi15 dX3_insert_43 ?_
        obtain ⟨hi16, h⟩ := ck_el h
        obtain ⟨σ17, hs17, h⟩ := sq_el h
        refine x_iast (len := 8) C S (by decide) hR13 hi16 dX3_insert_44 hs17 (fun H locs S => ?_)
        refine lv_aload_n hx hb dX3_insert_45 rfl (lv_at hl 0 rfl) ?_
        have hR18 : Ok 194 (R x0 1) 10008 := hSh x0 3 1 10008 hx0.1 rfl
        refine x_getR C S KX3 hx0 1 (by decide) rfl rfl fl_RX3_15 hR18 dX3_insert_46 ?_
        refine lv_iload_n hx hb dX3_insert_49 rfl (lv_at hl 3 rfl) ?_
        refine lv_aload_n hx hb dX3_insert_50 rfl (lv_at hl 0 rfl) ?_
        have hR19 : Ok 194 (R x0 1) 10008 := hSh x0 3 1 10008 hx0.1 rfl
        refine x_getR C S KX3 hx0 1 (by decide) rfl rfl fl_RX3_15 hR19 dX3_insert_51 ?_
        refine lv_iload_n hx hb dX3_insert_54 rfl (lv_at hl 3 rfl) ?_
        refine lv_iconst (v := (1 : Int32)) hx hb dX3_insert_55 (by decide) ?_
        refine lv_isub hx hb dX3_insert_56 ?_
        obtain ⟨hi20, h⟩ := ck_el h
        refine x_iald (len := 8) C S (by decide) hR19 hi20 dX3_insert_57 ?_
        obtain ⟨hi21, h⟩ := ck_el h
        obtain ⟨σ22, hs22, h⟩ := sq_el h
        refine x_iast (len := 8) C S (by decide) hR18 hi21 dX3_insert_58 hs22 (fun H locs S => ?_)
        refine lv_iinc (v := x3 + (-1)) (lv' := [(3, .int (x3 + (-1))), (0, .ref (gb g + x0)), (1, .int x1), (2, .int x2)]) hx hb dX3_insert_59 hl (k := 3) rfl rfl (by decide) rfl (fun ls hl => ?_)
        refine lv_goto (tgt := 15) hx hb dX3_insert_62 (by decide) ?_
        exact ih σ22 x0 x1 x2 (x3 + (-1)) h hx0 H locs ls S (lv_sub hl [1, 2, 3, 0] rfl)
set_option maxHeartbeats 4000000 in
set_option maxRecDepth 100000 in
theorem ok_X3_insert {l : Launch} {g : GL} {R : Nat → Nat → Nat} {L : Nat → Nat → Int64} {N : Nat} {σ : SI} {x0 : Nat} {x1 : Int32} {x2 : Int32} {r : (Unit × SI)} (h : f_X3_insert N R σ x0 x1 x2 = some r) (hSh : ShR R) (hx0 : Ok 194 x0 3) : Ct l g 1 yX3_insert cX3_insert 4 none 194 194 0 0 [.ref (gb g + x0), .int x1, .int x2] (mkS σ R L) (PV R L r) := by
  refine Met.ofW (cc := cX3_insert) (maxL := 4) (ret := none) (by decide) rfl ?_
  intro p e s m args below meth c s₁ B hml hv
  obtain ⟨rfl, hE, hLo, hWd⟩ := hv
  have hr : meth.sig.returnType = none := B.returns
  have C : Cx l g p s m meth c cX3_insert 4 RX3 := ⟨B.exec, B.bytes, hml, findClass_of_methodNamed B.named, hE, hLo, B.notSynchronized⟩
  have S : S2 g s σ R L s.heap [] := ⟨hWd, va_S.rf⟩
  have hx := C.1
  have hb := C.2.1
  have hl := lv_entry ([.ref (gb g + x0), .int x1, .int x2]) (n := 4) (Nat.le_of_ble_eq_true rfl)
  rw [lg_entry_eq]
  generalize (lg_sl ([.ref (gb g + x0), .int x1, .int x2]) ++ List.replicate (4 - (lg_sl ([.ref (gb g + x0), .int x1, .int x2])).length) Slot.unset).toArray = ls at hl ⊢
  have hl : lv_has ls 4 [(0, .ref (gb g + x0)), (1, .int x1), (2, .int x2)] := hl
  generalize hH : s.heap = H at S ⊢
  generalize hlc : ([] : List Loc) = locs at S ⊢
  rw [f_X3_insert] at h
  refine lv_aload_n hx hb dX3_insert_0 rfl (lv_at hl 0 rfl) ?_
  refine x_getI C S KX3 hx0 2 (by decide) rfl rfl fl_RX3_18 dX3_insert_1 ?_
  refine lv_bipush (v := (8 : Int32)) hx hb dX3_insert_4 (by decide) ?_
  refine lv_icmp_lt (tgt := 10) hx hb dX3_insert_6 (by decide) (fun c1 => ?_) (fun c1 => ?_)
  · have h := it_p c1 h
    refine lv_aload_n hx hb dX3_insert_10 rfl (lv_at hl 0 rfl) ?_
    refine x_getI C S KX3 hx0 2 (by decide) rfl rfl fl_RX3_18 dX3_insert_11 ?_
    refine lv_istore_n (lv' := [(3, .int (σ x0 2)), (0, .ref (gb g + x0)), (1, .int x1), (2, .int x2)]) hx hb dX3_insert_14 rfl hl (by decide) rfl (fun ls hl => ?_)
    exact w_X3_insert_15 C hr hSh N σ x0 x1 x2 (σ x0 2) h hx0 H locs ls S (lv_sub hl [1, 2, 3, 0] rfl)
  · have h := it_n c1 h
    exact x_vret C S hr h dX3_insert_9
theorem dX3_contains_0 : decode cX3_contains 0 = .ok (.iconst 0, 1) := by decide +kernel
theorem dX3_contains_1 : decode cX3_contains 1 = .ok (.istore_n 2, 1) := by decide +kernel
theorem dX3_contains_2 : decode cX3_contains 2 = .ok (.iload_n 2, 1) := by decide +kernel
theorem dX3_contains_3 : decode cX3_contains 3 = .ok (.aload_n 0, 1) := by decide +kernel
theorem dX3_contains_4 : decode cX3_contains 4 = .ok (.getfield 18, 3) := by decide +kernel
theorem dX3_contains_7 : decode cX3_contains 7 = .ok (.if_icmp .ge 31, 3) := by decide +kernel
theorem dX3_contains_10 : decode cX3_contains 10 = .ok (.iload_n 1, 1) := by decide +kernel
theorem dX3_contains_11 : decode cX3_contains 11 = .ok (.aload_n 0, 1) := by decide +kernel
theorem dX3_contains_12 : decode cX3_contains 12 = .ok (.getfield 11, 3) := by decide +kernel
theorem dX3_contains_15 : decode cX3_contains 15 = .ok (.iload_n 2, 1) := by decide +kernel
theorem dX3_contains_16 : decode cX3_contains 16 = .ok (.iaload, 1) := by decide +kernel
theorem dX3_contains_17 : decode cX3_contains 17 = .ok (.if_icmp .lt 15, 3) := by decide +kernel
theorem dX3_contains_20 : decode cX3_contains 20 = .ok (.iload_n 1, 1) := by decide +kernel
theorem dX3_contains_21 : decode cX3_contains 21 = .ok (.aload_n 0, 1) := by decide +kernel
theorem dX3_contains_22 : decode cX3_contains 22 = .ok (.getfield 15, 3) := by decide +kernel
theorem dX3_contains_25 : decode cX3_contains 25 = .ok (.iload_n 2, 1) := by decide +kernel
theorem dX3_contains_26 : decode cX3_contains 26 = .ok (.iaload, 1) := by decide +kernel
theorem dX3_contains_27 : decode cX3_contains 27 = .ok (.if_icmp .ge 5, 3) := by decide +kernel
theorem dX3_contains_30 : decode cX3_contains 30 = .ok (.iconst 1, 1) := by decide +kernel
theorem dX3_contains_31 : decode cX3_contains 31 = .ok (.ireturn, 1) := by decide +kernel
theorem dX3_contains_32 : decode cX3_contains 32 = .ok (.iinc 2 1, 3) := by decide +kernel
theorem dX3_contains_35 : decode cX3_contains 35 = .ok (.goto (-33), 3) := by decide +kernel
theorem dX3_contains_38 : decode cX3_contains 38 = .ok (.iconst 0, 1) := by decide +kernel
theorem dX3_contains_39 : decode cX3_contains 39 = .ok (.ireturn, 1) := by decide +kernel
def f_X3_contains_32 (N : Nat) (R : Nat → Nat → Nat) (k2 : SI → Nat → Int32 → Int32 → Option (Int32 × SI)) (σ : SI) (x0 : Nat) (x1 : Int32) (x2 : Int32) : Option (Int32 × SI) := k2 σ x0 x1 (x2 + 1)
def f_X3_contains_2 (N : Nat) (R : Nat → Nat → Nat) : Nat → SI → Nat → Int32 → Int32 → Option (Int32 × SI)
  | 0, _, _, _, _ => none
  | n + 1, σ, x0, x1, x2 => if (σ x0 2) ≤ x2 then (some ((0 : Int32), σ)) else (ck x2 8 (if x1 < (σ (R x0 0) x2.toNatClampNeg) then (f_X3_contains_32 N R (fun σ x0 x1 x2 => f_X3_contains_2 N R n σ x0 x1 x2) σ x0 x1 x2) else (ck x2 8 (if (σ (R x0 1) x2.toNatClampNeg) ≤ x1 then (f_X3_contains_32 N R (fun σ x0 x1 x2 => f_X3_contains_2 N R n σ x0 x1 x2) σ x0 x1 x2) else (some ((1 : Int32), σ))))))
def f_X3_contains (N : Nat) (R : Nat → Nat → Nat) (σ : SI) (x0 : Nat) (x1 : Int32) : Option (Int32 × SI) := f_X3_contains_2 N R N σ x0 x1 (0 : Int32)
set_option maxHeartbeats 4000000 in
set_option maxRecDepth 100000 in
theorem w_X3_contains_32 {l : Launch} {g : GL} {p : Program} {e : Jvm.Env} {s : State} {m : MethodId} {args : Array Value} {below : List Frame} {meth : Method} {c : Code} {R : Nat → Nat → Nat} {L : Nat → Nat → Int64} {r : (Int32 × SI)} {N : Nat} {k2 : SI → Nat → Int32 → Int32 → Option (Int32 × SI)} (C : Cx l g p s m meth c cX3_contains 3 RX3) (hr : meth.sig.returnType = (some .boolean)) (hSh : ShR R) (hk2 : ∀ (σ : SI) (x0 : Nat) (x1 : Int32) (x2 : Int32), k2 σ x0 x1 x2 = some r → Ok 194 x0 3 → ∀ (H : Heap) (locs : List Loc) (ls : Array Slot), S2 g s σ R L H locs → lv_has ls 3 [(0, .ref (gb g + x0)), (1, .int x1), (2, .int x2)] → W p l e (rmd 1 0 0) s m args below meth c H locs 0 0 (MQ below (Qg g 194 (PI R L r)) args s 0 0 (gA g)) (F0 m 2 ls [])) : ∀ (σ : SI) (x0 : Nat) (x1 : Int32) (x2 : Int32), f_X3_contains_32 N R k2 σ x0 x1 x2 = some r → Ok 194 x0 3 → ∀ (H : Heap) (locs : List Loc) (ls : Array Slot), S2 g s σ R L H locs → lv_has ls 3 [(0, .ref (gb g + x0)), (1, .int x1), (2, .int x2)] → W p l e (rmd 1 0 0) s m args below meth c H locs 0 0 (MQ below (Qg g 194 (PI R L r)) args s 0 0 (gA g)) (F0 m 32 ls []) := by
  have hx := C.1
  have hb := C.2.1
  intro σ x0 x1 x2 h hx0 H locs ls S hl
  rw [f_X3_contains_32] at h
  refine lv_iinc (v := x2 + 1) (lv' := [(2, .int (x2 + 1)), (0, .ref (gb g + x0)), (1, .int x1)]) hx hb dX3_contains_32 hl (k := 2) rfl rfl (by decide) rfl (fun ls hl => ?_)
  refine lv_goto (tgt := 2) hx hb dX3_contains_35 (by decide) ?_
  exact hk2 σ x0 x1 (x2 + 1) h hx0 H locs ls S (lv_sub hl [1, 2, 0] rfl)
set_option maxHeartbeats 4000000 in
set_option maxRecDepth 100000 in
theorem w_X3_contains_2 {l : Launch} {g : GL} {p : Program} {e : Jvm.Env} {s : State} {m : MethodId} {args : Array Value} {below : List Frame} {meth : Method} {c : Code} {R : Nat → Nat → Nat} {L : Nat → Nat → Int64} {r : (Int32 × SI)} {N : Nat} (C : Cx l g p s m meth c cX3_contains 3 RX3) (hr : meth.sig.returnType = (some .boolean)) (hSh : ShR R) : ∀ (n : Nat) (σ : SI) (x0 : Nat) (x1 : Int32) (x2 : Int32), f_X3_contains_2 N R n σ x0 x1 x2 = some r → Ok 194 x0 3 → ∀ (H : Heap) (locs : List Loc) (ls : Array Slot), S2 g s σ R L H locs → lv_has ls 3 [(0, .ref (gb g + x0)), (1, .int x1), (2, .int x2)] → W p l e (rmd 1 0 0) s m args below meth c H locs 0 0 (MQ below (Qg g 194 (PI R L r)) args s 0 0 (gA g)) (F0 m 2 ls []) := by
  have hx := C.1
  have hb := C.2.1
  intro n
  induction n with
  | zero =>
    intro σ x0 x1 x2 h
    cases (show (none : Option (Int32 × SI)) = some r from h)
  | succ n ih =>
    intro σ x0 x1 x2 h hx0 H locs ls S hl
    rw [f_X3_contains_2] at h
    refine lv_iload_n hx hb dX3_contains_2 rfl (lv_at hl 2 rfl) ?_
    refine lv_aload_n hx hb dX3_contains_3 rfl (lv_at hl 0 rfl) ?_
    refine x_getI C S KX3 hx0 2 (by decide) rfl rfl fl_RX3_18 dX3_contains_4 ?_
    refine lv_icmp_ge (tgt := 38) hx hb dX3_contains_7 (by decide) (fun c1 => ?_) (fun c1 => ?_)
    · have h := it_p c1 h
      refine lv_iconst (v := (0 : Int32)) hx hb dX3_contains_38 (by decide) ?_
      exact x_zret C S hr (by decide) h dX3_contains_39
    · have h := it_n c1 h
      refine lv_iload_n hx hb dX3_contains_10 rfl (lv_at hl 1 rfl) ?_
      refine lv_aload_n hx hb dX3_contains_11 rfl (lv_at hl 0 rfl) ?_
      have hR2 : Ok 194 (R x0 0) 10008 := hSh x0 3 0 10008 hx0.1 rfl
      refine x_getR C S KX3 hx0 0 (by decide) rfl rfl fl_RX3_11 hR2 dX3_contains_12 ?_
      refine lv_iload_n hx hb dX3_contains_15 rfl (lv_at hl 2 rfl) ?_
      obtain ⟨hi3, h⟩ := ck_el h
      refine x_iald (len := 8) C S (by decide) hR2 hi3 dX3_contains_16 ?_
      refine lv_icmp_lt (tgt := 32) hx hb dX3_contains_17 (by decide) (fun c4 => ?_) (fun c4 => ?_)
      · have h := it_p c4 h
        exact w_X3_contains_32 C hr hSh ih σ x0 x1 x2 h hx0 H locs ls S (lv_sub hl [0, 1, 2] rfl)
      · have h := it_n c4 h
        refine lv_iload_n hx hb dX3_contains_20 rfl (lv_at hl 1 rfl) ?_
        refine lv_aload_n hx hb dX3_contains_21 rfl (lv_at hl 0 rfl) ?_
        have hR5 : Ok 194 (R x0 1) 10008 := hSh x0 3 1 10008 hx0.1 rfl
        refine x_getR C S KX3 hx0 1 (by decide) rfl rfl fl_RX3_15 hR5 dX3_contains_22 ?_
        refine lv_iload_n hx hb dX3_contains_25 rfl (lv_at hl 2 rfl) ?_
        obtain ⟨hi6, h⟩ := ck_el h
        refine x_iald (len := 8) C S (by decide) hR5 hi6 dX3_contains_26 ?_
        refine lv_icmp_ge (tgt := 32) hx hb dX3_contains_27 (by decide) (fun c7 => ?_) (fun c7 => ?_)
        · have h := it_p c7 h
          exact w_X3_contains_32 C hr hSh ih σ x0 x1 x2 h hx0 H locs ls S (lv_sub hl [0, 1, 2] rfl)
        · have h := it_n c7 h
          refine lv_iconst (v := (1 : Int32)) hx hb dX3_contains_30 (by decide) ?_
          exact x_zret C S hr (by decide) h dX3_contains_31
set_option maxHeartbeats 4000000 in
set_option maxRecDepth 100000 in
theorem ok_X3_contains {l : Launch} {g : GL} {R : Nat → Nat → Nat} {L : Nat → Nat → Int64} {N : Nat} {σ : SI} {x0 : Nat} {x1 : Int32} {r : (Int32 × SI)} (h : f_X3_contains N R σ x0 x1 = some r) (hSh : ShR R) (hx0 : Ok 194 x0 3) : Ct l g 1 yX3_contains cX3_contains 3 (some .boolean) 194 194 0 0 [.ref (gb g + x0), .int x1] (mkS σ R L) (PI R L r) := by
  refine Met.ofW (cc := cX3_contains) (maxL := 3) (ret := (some .boolean)) (by decide) rfl ?_
  intro p e s m args below meth c s₁ B hml hv
  obtain ⟨rfl, hE, hLo, hWd⟩ := hv
  have hr : meth.sig.returnType = (some .boolean) := B.returns
  have C : Cx l g p s m meth c cX3_contains 3 RX3 := ⟨B.exec, B.bytes, hml, findClass_of_methodNamed B.named, hE, hLo, B.notSynchronized⟩
  have S : S2 g s σ R L s.heap [] := ⟨hWd, va_S.rf⟩
  have hx := C.1
  have hb := C.2.1
  have hl := lv_entry ([.ref (gb g + x0), .int x1]) (n := 3) (Nat.le_of_ble_eq_true rfl)
  rw [lg_entry_eq]
  generalize (lg_sl ([.ref (gb g + x0), .int x1]) ++ List.replicate (3 - (lg_sl ([.ref (gb g + x0), .int x1])).length) Slot.unset).toArray = ls at hl ⊢
  have hl : lv_has ls 3 [(0, .ref (gb g + x0)), (1, .int x1)] := hl
  generalize hH : s.heap = H at S ⊢
  generalize hlc : ([] : List Loc) = locs at S ⊢
  rw [f_X3_contains] at h
  refine lv_iconst (v := (0 : Int32)) hx hb dX3_contains_0 (by decide) ?_
  refine lv_istore_n (lv' := [(2, .int (0 : Int32)), (0, .ref (gb g + x0)), (1, .int x1)]) hx hb dX3_contains_1 rfl hl (by decide) rfl (fun ls hl => ?_)
  exact w_X3_contains_2 C hr hSh N σ x0 x1 (0 : Int32) h hx0 H locs ls S (lv_sub hl [1, 2, 0] rfl)
theorem dX3_sizeWithin_0 : decode cX3_sizeWithin 0 = .ok (.iconst 0, 1) := by decide +kernel
theorem dX3_sizeWithin_1 : decode cX3_sizeWithin 1 = .ok (.istore_n 3, 1) := by decide +kernel
theorem dX3_sizeWithin_2 : decode cX3_sizeWithin 2 = .ok (.iconst 0, 1) := by decide +kernel
theorem dX3_sizeWithin_3 : decode cX3_sizeWithin 3 = .ok (.istore 4, 2) := by decide +kernel
theorem dX3_sizeWithin_5 : decode cX3_sizeWithin 5 = .ok (.iload 4, 2) := by decide +kernel
theorem dX3_sizeWithin_7 : decode cX3_sizeWithin 7 = .ok (.aload_n 0, 1) := by decide +kernel
theorem dX3_sizeWithin_8 : decode cX3_sizeWithin 8 = .ok (.getfield 18, 3) := by decide +kernel
theorem dX3_sizeWithin_11 : decode cX3_sizeWithin 11 = .ok (.if_icmp .ge 39, 3) := by decide +kernel
theorem dX3_sizeWithin_14 : decode cX3_sizeWithin 14 = .ok (.iload_n 3, 1) := by decide +kernel
theorem dX3_sizeWithin_15 : decode cX3_sizeWithin 15 = .ok (.iconst 0, 1) := by decide +kernel
theorem dX3_sizeWithin_16 : decode cX3_sizeWithin 16 = .ok (.iload_n 2, 1) := by decide +kernel
theorem dX3_sizeWithin_17 : decode cX3_sizeWithin 17 = .ok (.aload_n 0, 1) := by decide +kernel
theorem dX3_sizeWithin_18 : decode cX3_sizeWithin 18 = .ok (.getfield 15, 3) := by decide +kernel
theorem dX3_sizeWithin_21 : decode cX3_sizeWithin 21 = .ok (.iload 4, 2) := by decide +kernel
theorem dX3_sizeWithin_23 : decode cX3_sizeWithin 23 = .ok (.iaload, 1) := by decide +kernel
theorem dX3_sizeWithin_24 : decode cX3_sizeWithin 24 = .ok (.invokestatic 22, 3) := by decide +kernel
theorem dX3_sizeWithin_27 : decode cX3_sizeWithin 27 = .ok (.iload_n 1, 1) := by decide +kernel
theorem dX3_sizeWithin_28 : decode cX3_sizeWithin 28 = .ok (.aload_n 0, 1) := by decide +kernel
theorem dX3_sizeWithin_29 : decode cX3_sizeWithin 29 = .ok (.getfield 11, 3) := by decide +kernel
theorem dX3_sizeWithin_32 : decode cX3_sizeWithin 32 = .ok (.iload 4, 2) := by decide +kernel
theorem dX3_sizeWithin_34 : decode cX3_sizeWithin 34 = .ok (.iaload, 1) := by decide +kernel
theorem dX3_sizeWithin_35 : decode cX3_sizeWithin 35 = .ok (.invokestatic 28, 3) := by decide +kernel
theorem dX3_sizeWithin_38 : decode cX3_sizeWithin 38 = .ok (.isub, 1) := by decide +kernel
theorem dX3_sizeWithin_39 : decode cX3_sizeWithin 39 = .ok (.invokestatic 28, 3) := by decide +kernel
theorem dX3_sizeWithin_42 : decode cX3_sizeWithin 42 = .ok (.iadd, 1) := by decide +kernel
theorem dX3_sizeWithin_43 : decode cX3_sizeWithin 43 = .ok (.istore_n 3, 1) := by decide +kernel
theorem dX3_sizeWithin_44 : decode cX3_sizeWithin 44 = .ok (.iinc 4 1, 3) := by decide +kernel
theorem dX3_sizeWithin_47 : decode cX3_sizeWithin 47 = .ok (.goto (-42), 3) := by decide +kernel
theorem dX3_sizeWithin_50 : decode cX3_sizeWithin 50 = .ok (.iload_n 3, 1) := by decide +kernel
theorem dX3_sizeWithin_51 : decode cX3_sizeWithin 51 = .ok (.ireturn, 1) := by decide +kernel
def f_X3_sizeWithin_5 (N : Nat) (R : Nat → Nat → Nat) : Nat → SI → Nat → Int32 → Int32 → Int32 → Int32 → Option (Int32 × SI)
  | 0, _, _, _, _, _, _ => none
  | n + 1, σ, x0, x1, x2, x3, x4 => if (σ x0 2) ≤ x4 then (some (x3, σ)) else (ck x4 8 (ck x4 8 (f_X3_sizeWithin_5 N R n σ x0 x1 x2 (x3 + (if (0 : Int32) < ((if (σ (R x0 1) x4.toNatClampNeg) < x2 then (σ (R x0 1) x4.toNatClampNeg) else x2) - (if x1 < (σ (R x0 0) x4.toNatClampNeg) then (σ (R x0 0) x4.toNatClampNeg) else x1)) then ((if (σ (R x0 1) x4.toNatClampNeg) < x2 then (σ (R x0 1) x4.toNatClampNeg) else x2) - (if x1 < (σ (R x0 0) x4.toNatClampNeg) then (σ (R x0 0) x4.toNatClampNeg) else x1)) else (0 : Int32))) (x4 + 1))))
def f_X3_sizeWithin (N : Nat) (R : Nat → Nat → Nat) (σ : SI) (x0 : Nat) (x1 : Int32) (x2 : Int32) : Option (Int32 × SI) := f_X3_sizeWithin_5 N R N σ x0 x1 x2 (0 : Int32) (0 : Int32)
set_option maxHeartbeats 4000000 in
set_option maxRecDepth 100000 in
theorem w_X3_sizeWithin_5 {l : Launch} {g : GL} {p : Program} {e : Jvm.Env} {s : State} {m : MethodId} {args : Array Value} {below : List Frame} {meth : Method} {c : Code} {R : Nat → Nat → Nat} {L : Nat → Nat → Int64} {r : (Int32 × SI)} {N : Nat} (C : Cx l g p s m meth c cX3_sizeWithin 5 RX3) (hr : meth.sig.returnType = (some .int)) (hSh : ShR R) : ∀ (n : Nat) (σ : SI) (x0 : Nat) (x1 : Int32) (x2 : Int32) (x3 : Int32) (x4 : Int32), f_X3_sizeWithin_5 N R n σ x0 x1 x2 x3 x4 = some r → Ok 194 x0 3 → ∀ (H : Heap) (locs : List Loc) (ls : Array Slot), S2 g s σ R L H locs → lv_has ls 5 [(0, .ref (gb g + x0)), (1, .int x1), (2, .int x2), (3, .int x3), (4, .int x4)] → W p l e (rmd 1 0 0) s m args below meth c H locs 0 0 (MQ below (Qg g 194 (PI R L r)) args s 0 0 (gA g)) (F0 m 5 ls []) := by
  have hx := C.1
  have hb := C.2.1
  intro n
  induction n with
  | zero =>
    intro σ x0 x1 x2 x3 x4 h
    cases (show (none : Option (Int32 × SI)) = some r from h)
  | succ n ih =>
    intro σ x0 x1 x2 x3 x4 h hx0 H locs ls S hl
    rw [f_X3_sizeWithin_5] at h
    refine lv_iload hx hb dX3_sizeWithin_5 (lv_at hl 4 rfl) ?_
    refine lv_aload_n hx hb dX3_sizeWithin_7 rfl (lv_at hl 0 rfl) ?_
    refine x_getI C S KX3 hx0 2 (by decide) rfl rfl fl_RX3_18 dX3_sizeWithin_8 ?_
    refine lv_icmp_ge (tgt := 50) hx hb dX3_sizeWithin_11 (by decide) (fun c1 => ?_) (fun c1 => ?_)
    · have h := it_p c1 h
      refine lv_iload_n hx hb dX3_sizeWithin_50 rfl (lv_at hl 3 rfl) ?_
      exact x_iret C S hr h dX3_sizeWithin_51
    · have h := it_n c1 h
      refine lv_iload_n hx hb dX3_sizeWithin_14 rfl (lv_at hl 3 rfl) ?_
      refine lv_iconst (v := (0 : Int32)) hx hb dX3_sizeWithin_15 (by decide) ?_
      refine lv_iload_n hx hb dX3_sizeWithin_16 rfl (lv_at hl 2 rfl) ?_
      refine lv_aload_n hx hb dX3_sizeWithin_17 rfl (lv_at hl 0 rfl) ?_
      have hR2 : Ok 194 (R x0 1) 10008 := hSh x0 3 1 10008 hx0.1 rfl
      refine x_getR C S KX3 hx0 1 (by decide) rfl rfl fl_RX3_15 hR2 dX3_sizeWithin_18 ?_
      refine lv_iload hx hb dX3_sizeWithin_21 (lv_at hl 4 rfl) ?_
      obtain ⟨hi3, h⟩ := ck_el h
      refine x_iald (len := 8) C S (by decide) hR2 hi3 dX3_sizeWithin_23 ?_
      refine x_min C hl.1 ⟨ml_RX3_22, st_math_min, ni_math, cd_math_min⟩ (Nat.le_of_ble_eq_true rfl) (Nat.le_of_ble_eq_true rfl) (Nat.le_of_ble_eq_true rfl) (Nat.le_of_ble_eq_true rfl) dX3_sizeWithin_24 ?_
      refine lv_iload_n hx hb dX3_sizeWithin_27 rfl (lv_at hl 1 rfl) ?_
      refine lv_aload_n hx hb dX3_sizeWithin_28 rfl (lv_at hl 0 rfl) ?_
      have hR4 : Ok 194 (R x0 0) 10008 := hSh x0 3 0 10008 hx0.1 rfl
      refine x_getR C S KX3 hx0 0 (by decide) rfl rfl fl_RX3_11 hR4 dX3_sizeWithin_29 ?_
      refine lv_iload hx hb dX3_sizeWithin_32 (lv_at hl 4 rfl) ?_
      obtain ⟨hi5, h⟩ := ck_el h
      refine x_iald (len := 8) C S (by decide) hR4 hi5 dX3_sizeWithin_34 ?_
      refine x_max C hl.1 ⟨ml_RX3_28, st_math_max, ni_math, cd_math_max⟩ (Nat.le_of_ble_eq_true rfl) (Nat.le_of_ble_eq_true rfl) (Nat.le_of_ble_eq_true rfl) (Nat.le_of_ble_eq_true rfl) dX3_sizeWithin_35 ?_
      refine lv_isub hx hb dX3_sizeWithin_38 ?_
      refine x_max C hl.1 ⟨ml_RX3_28, st_math_max, ni_math, cd_math_max⟩ (Nat.le_of_ble_eq_true rfl) (Nat.le_of_ble_eq_true rfl) (Nat.le_of_ble_eq_true rfl) (Nat.le_of_ble_eq_true rfl) dX3_sizeWithin_39 ?_
      refine lv_iadd hx hb dX3_sizeWithin_42 ?_
      refine lv_istore_n (lv' := [(3, .int (x3 + (if (0 : Int32) < ((if (σ (R x0 1) x4.toNatClampNeg) < x2 then (σ (R x0 1) x4.toNatClampNeg) else x2) - (if x1 < (σ (R x0 0) x4.toNatClampNeg) then (σ (R x0 0) x4.toNatClampNeg) else x1)) then ((if (σ (R x0 1) x4.toNatClampNeg) < x2 then (σ (R x0 1) x4.toNatClampNeg) else x2) - (if x1 < (σ (R x0 0) x4.toNatClampNeg) then (σ (R x0 0) x4.toNatClampNeg) else x1)) else (0 : Int32)))), (0, .ref (gb g + x0)), (1, .int x1), (2, .int x2), (4, .int x4)]) hx hb dX3_sizeWithin_43 rfl hl (by decide) rfl (fun ls hl => ?_)
      refine lv_iinc (v := x4 + 1) (lv' := [(4, .int (x4 + 1)), (3, .int (x3 + (if (0 : Int32) < ((if (σ (R x0 1) x4.toNatClampNeg) < x2 then (σ (R x0 1) x4.toNatClampNeg) else x2) - (if x1 < (σ (R x0 0) x4.toNatClampNeg) then (σ (R x0 0) x4.toNatClampNeg) else x1)) then ((if (σ (R x0 1) x4.toNatClampNeg) < x2 then (σ (R x0 1) x4.toNatClampNeg) else x2) - (if x1 < (σ (R x0 0) x4.toNatClampNeg) then (σ (R x0 0) x4.toNatClampNeg) else x1)) else (0 : Int32)))), (0, .ref (gb g + x0)), (1, .int x1), (2, .int x2)]) hx hb dX3_sizeWithin_44 hl (k := 4) rfl rfl (by decide) rfl (fun ls hl => ?_)
      refine lv_goto (tgt := 5) hx hb dX3_sizeWithin_47 (by decide) ?_
      exact ih σ x0 x1 x2 (x3 + (if (0 : Int32) < ((if (σ (R x0 1) x4.toNatClampNeg) < x2 then (σ (R x0 1) x4.toNatClampNeg) else x2) - (if x1 < (σ (R x0 0) x4.toNatClampNeg) then (σ (R x0 0) x4.toNatClampNeg) else x1)) then ((if (σ (R x0 1) x4.toNatClampNeg) < x2 then (σ (R x0 1) x4.toNatClampNeg) else x2) - (if x1 < (σ (R x0 0) x4.toNatClampNeg) then (σ (R x0 0) x4.toNatClampNeg) else x1)) else (0 : Int32))) (x4 + 1) h hx0 H locs ls S (lv_sub hl [2, 3, 4, 1, 0] rfl)
set_option maxHeartbeats 4000000 in
set_option maxRecDepth 100000 in
theorem ok_X3_sizeWithin {l : Launch} {g : GL} {R : Nat → Nat → Nat} {L : Nat → Nat → Int64} {N : Nat} {σ : SI} {x0 : Nat} {x1 : Int32} {x2 : Int32} {r : (Int32 × SI)} (h : f_X3_sizeWithin N R σ x0 x1 x2 = some r) (hSh : ShR R) (hx0 : Ok 194 x0 3) : Ct l g 1 yX3_sizeWithin cX3_sizeWithin 5 (some .int) 194 194 0 0 [.ref (gb g + x0), .int x1, .int x2] (mkS σ R L) (PI R L r) := by
  refine Met.ofW (cc := cX3_sizeWithin) (maxL := 5) (ret := (some .int)) (by decide) rfl ?_
  intro p e s m args below meth c s₁ B hml hv
  obtain ⟨rfl, hE, hLo, hWd⟩ := hv
  have hr : meth.sig.returnType = (some .int) := B.returns
  have C : Cx l g p s m meth c cX3_sizeWithin 5 RX3 := ⟨B.exec, B.bytes, hml, findClass_of_methodNamed B.named, hE, hLo, B.notSynchronized⟩
  have S : S2 g s σ R L s.heap [] := ⟨hWd, va_S.rf⟩
  have hx := C.1
  have hb := C.2.1
  have hl := lv_entry ([.ref (gb g + x0), .int x1, .int x2]) (n := 5) (Nat.le_of_ble_eq_true rfl)
  rw [lg_entry_eq]
  generalize (lg_sl ([.ref (gb g + x0), .int x1, .int x2]) ++ List.replicate (5 - (lg_sl ([.ref (gb g + x0), .int x1, .int x2])).length) Slot.unset).toArray = ls at hl ⊢
  have hl : lv_has ls 5 [(0, .ref (gb g + x0)), (1, .int x1), (2, .int x2)] := hl
  generalize hH : s.heap = H at S ⊢
  generalize hlc : ([] : List Loc) = locs at S ⊢
  rw [f_X3_sizeWithin] at h
  refine lv_iconst (v := (0 : Int32)) hx hb dX3_sizeWithin_0 (by decide) ?_
  refine lv_istore_n (lv' := [(3, .int (0 : Int32)), (0, .ref (gb g + x0)), (1, .int x1), (2, .int x2)]) hx hb dX3_sizeWithin_1 rfl hl (by decide) rfl (fun ls hl => ?_)
  refine lv_iconst (v := (0 : Int32)) hx hb dX3_sizeWithin_2 (by decide) ?_
  refine lv_istore (lv' := [(4, .int (0 : Int32)), (3, .int (0 : Int32)), (0, .ref (gb g + x0)), (1, .int x1), (2, .int x2)]) hx hb dX3_sizeWithin_3 hl (by decide) rfl (fun ls hl => ?_)
  exact w_X3_sizeWithin_5 C hr hSh N σ x0 x1 x2 (0 : Int32) (0 : Int32) h hx0 H locs ls S (lv_sub hl [2, 3, 4, 1, 0] rfl)
theorem dX4_addWindow_0 : decode cX4_addWindow 0 = .ok (.aload_n 0, 1) := by decide +kernel
theorem dX4_addWindow_1 : decode cX4_addWindow 1 = .ok (.getfield 18, 3) := by decide +kernel
theorem dX4_addWindow_4 : decode cX4_addWindow 4 = .ok (.iconst 4, 1) := by decide +kernel
theorem dX4_addWindow_5 : decode cX4_addWindow 5 = .ok (.if_icmp .ge 33, 3) := by decide +kernel
theorem dX4_addWindow_8 : decode cX4_addWindow 8 = .ok (.aload_n 0, 1) := by decide +kernel
theorem dX4_addWindow_9 : decode cX4_addWindow 9 = .ok (.getfield 9, 3) := by decide +kernel
theorem dX4_addWindow_12 : decode cX4_addWindow 12 = .ok (.aload_n 0, 1) := by decide +kernel
theorem dX4_addWindow_13 : decode cX4_addWindow 13 = .ok (.getfield 18, 3) := by decide +kernel
theorem dX4_addWindow_16 : decode cX4_addWindow 16 = .ok (.iload_n 1, 1) := by decide +kernel
theorem dX4_addWindow_17 : decode cX4_addWindow 17 = .ok (.iastore, 1) := by decide +kernel
theorem dX4_addWindow_18 : decode cX4_addWindow 18 = .ok (.aload_n 0, 1) := by decide +kernel
theorem dX4_addWindow_19 : decode cX4_addWindow 19 = .ok (.getfield 15, 3) := by decide +kernel
theorem dX4_addWindow_22 : decode cX4_addWindow 22 = .ok (.aload_n 0, 1) := by decide +kernel
theorem dX4_addWindow_23 : decode cX4_addWindow 23 = .ok (.getfield 18, 3) := by decide +kernel
theorem dX4_addWindow_26 : decode cX4_addWindow 26 = .ok (.iload_n 2, 1) := by decide +kernel
theorem dX4_addWindow_27 : decode cX4_addWindow 27 = .ok (.iastore, 1) := by decide +kernel
theorem dX4_addWindow_28 : decode cX4_addWindow 28 = .ok (.aload_n 0, 1) := by decide +kernel
theorem dX4_addWindow_29 : decode cX4_addWindow 29 = .ok (.dup, 1) := by decide +kernel
theorem dX4_addWindow_30 : decode cX4_addWindow 30 = .ok (.getfield 18, 3) := by decide +kernel
theorem dX4_addWindow_33 : decode cX4_addWindow 33 = .ok (.iconst 1, 1) := by decide +kernel
theorem dX4_addWindow_34 : decode cX4_addWindow 34 = .ok (.iadd, 1) := by decide +kernel
theorem dX4_addWindow_35 : decode cX4_addWindow 35 = .ok (.putfield 18, 3) := by decide +kernel
theorem dX4_addWindow_38 : decode cX4_addWindow 38 = .ok (.return_, 1) := by decide +kernel
def f_X4_addWindow (N : Nat) (R : Nat → Nat → Nat) (σ : SI) (x0 : Nat) (x1 : Int32) (x2 : Int32) : Option (Unit × SI) := if (4 : Int32) ≤ (σ x0 5) then (some ((), σ)) else (ck (σ x0 5) 4 (sq (up σ (R x0 0) (σ x0 5).toNatClampNeg x1) (fun σ4 => ck (σ4 x0 5) 4 (sq (up σ4 (R x0 1) (σ4 x0 5).toNatClampNeg x2) (fun σ7 => sq (up σ7 x0 5 ((σ7 x0 5) + (1 : Int32))) (fun σ8 => some ((), σ8)))))))
set_option maxHeartbeats 4000000 in
set_option maxRecDepth 100000 in
theorem ok_X4_addWindow {l : Launch} {g : GL} {R : Nat → Nat → Nat} {L : Nat → Nat → Int64} {N : Nat} {σ : SI} {x0 : Nat} {x1 : Int32} {x2 : Int32} {r : (Unit × SI)} (h : f_X4_addWindow N R σ x0 x1 x2 = some r) (hSh : ShR R) (hx0 : Ok 194 x0 4) : Ct l g 1 yX4_addWindow cX4_addWindow 3 none 194 194 0 0 [.ref (gb g + x0), .int x1, .int x2] (mkS σ R L) (PV R L r) := by
  refine Met.ofW (cc := cX4_addWindow) (maxL := 3) (ret := none) (by decide) rfl ?_
  intro p e s m args below meth c s₁ B hml hv
  obtain ⟨rfl, hE, hLo, hWd⟩ := hv
  have hr : meth.sig.returnType = none := B.returns
  have C : Cx l g p s m meth c cX4_addWindow 3 RX4 := ⟨B.exec, B.bytes, hml, findClass_of_methodNamed B.named, hE, hLo, B.notSynchronized⟩
  have S : S2 g s σ R L s.heap [] := ⟨hWd, va_S.rf⟩
  have hx := C.1
  have hb := C.2.1
  have hl := lv_entry ([.ref (gb g + x0), .int x1, .int x2]) (n := 3) (Nat.le_of_ble_eq_true rfl)
  rw [lg_entry_eq]
  generalize (lg_sl ([.ref (gb g + x0), .int x1, .int x2]) ++ List.replicate (3 - (lg_sl ([.ref (gb g + x0), .int x1, .int x2])).length) Slot.unset).toArray = ls at hl ⊢
  have hl : lv_has ls 3 [(0, .ref (gb g + x0)), (1, .int x1), (2, .int x2)] := hl
  generalize hH : s.heap = H at S ⊢
  generalize hlc : ([] : List Loc) = locs at S ⊢
  rw [f_X4_addWindow] at h
  refine lv_aload_n hx hb dX4_addWindow_0 rfl (lv_at hl 0 rfl) ?_
  refine x_getI C S KX4 hx0 5 (by decide) rfl rfl fl_RX4_18 dX4_addWindow_1 ?_
  refine lv_iconst (v := (4 : Int32)) hx hb dX4_addWindow_4 (by decide) ?_
  refine lv_icmp_ge (tgt := 38) hx hb dX4_addWindow_5 (by decide) (fun c1 => ?_) (fun c1 => ?_)
  · have h := it_p c1 h
    exact x_vret C S hr h dX4_addWindow_38
  · have h := it_n c1 h
    refine lv_aload_n hx hb dX4_addWindow_8 rfl (lv_at hl 0 rfl) ?_
    have hR2 : Ok 194 (R x0 0) 10004 := hSh x0 4 0 10004 hx0.1 rfl
    refine x_getR C S KX4 hx0 0 (by decide) rfl rfl fl_RX4_9 hR2 dX4_addWindow_9 ?_
    refine lv_aload_n hx hb dX4_addWindow_12 rfl (lv_at hl 0 rfl) ?_
    refine x_getI C S KX4 hx0 5 (by decide) rfl rfl fl_RX4_18 dX4_addWindow_13 ?_
    refine lv_iload_n hx hb dX4_addWindow_16 rfl (lv_at hl 1 rfl) ?_
    obtain ⟨hi3, h⟩ := ck_el h
    obtain ⟨σ4, hs4, h⟩ := sq_el h
    refine x_iast (len := 4) C S (by decide) hR2 hi3 dX4_addWindow_17 hs4 (fun H locs S => ?_)
    refine lv_aload_n hx hb dX4_addWindow_18 rfl (lv_at hl 0 rfl) ?_
    have hR5 : Ok 194 (R x0 1) 10004 := hSh x0 4 1 10004 hx0.1 rfl
    refine x_getR C S KX4 hx0 1 (by decide) rfl rfl fl_RX4_15 hR5 dX4_addWindow_19 ?_
    refine lv_aload_n hx hb dX4_addWindow_22 rfl (lv_at hl 0 rfl) ?_
    refine x_getI C S KX4 hx0 5 (by decide) rfl rfl fl_RX4_18 dX4_addWindow_23 ?_
    refine lv_iload_n hx hb dX4_addWindow_26 rfl (lv_at hl 2 rfl) ?_
    obtain ⟨hi6, h⟩ := ck_el h
    obtain ⟨σ7, hs7, h⟩ := sq_el h
    refine x_iast (len := 4) C S (by decide) hR5 hi6 dX4_addWindow_27 hs7 (fun H locs S => ?_)
    refine lv_aload_n hx hb dX4_addWindow_28 rfl (lv_at hl 0 rfl) ?_
    refine lv_dup hx hb dX4_addWindow_29 rfl ?_
    refine x_getI C S KX4 hx0 5 (by decide) rfl rfl fl_RX4_18 dX4_addWindow_30 ?_
    refine lv_iconst (v := (1 : Int32)) hx hb dX4_addWindow_33 (by decide) ?_
    refine lv_iadd hx hb dX4_addWindow_34 ?_
    obtain ⟨σ8, hs8, h⟩ := sq_el h
    refine x_putI C S KX4 hx0 5 (by decide) rfl rfl rfl ⟨rfl, rfl⟩ fl_RX4_18 dX4_addWindow_35 hs8 (fun H locs S => ?_)
    exact x_vret C S hr h dX4_addWindow_38
theorem dX4_quietAt_0 : decode cX4_quietAt 0 = .ok (.iconst 0, 1) := by decide +kernel
theorem dX4_quietAt_1 : decode cX4_quietAt 1 = .ok (.istore_n 2, 1) := by decide +kernel
theorem dX4_quietAt_2 : decode cX4_quietAt 2 = .ok (.iload_n 2, 1) := by decide +kernel
theorem dX4_quietAt_3 : decode cX4_quietAt 3 = .ok (.aload_n 0, 1) := by decide +kernel
theorem dX4_quietAt_4 : decode cX4_quietAt 4 = .ok (.getfield 18, 3) := by decide +kernel
theorem dX4_quietAt_7 : decode cX4_quietAt 7 = .ok (.if_icmp .ge 31, 3) := by decide +kernel
theorem dX4_quietAt_10 : decode cX4_quietAt 10 = .ok (.iload_n 1, 1) := by decide +kernel
theorem dX4_quietAt_11 : decode cX4_quietAt 11 = .ok (.aload_n 0, 1) := by decide +kernel
theorem dX4_quietAt_12 : decode cX4_quietAt 12 = .ok (.getfield 9, 3) := by decide +kernel
theorem dX4_quietAt_15 : decode cX4_quietAt 15 = .ok (.iload_n 2, 1) := by decide +kernel
theorem dX4_quietAt_16 : decode cX4_quietAt 16 = .ok (.iaload, 1) := by decide +kernel
theorem dX4_quietAt_17 : decode cX4_quietAt 17 = .ok (.if_icmp .lt 15, 3) := by decide +kernel
theorem dX4_quietAt_20 : decode cX4_quietAt 20 = .ok (.iload_n 1, 1) := by decide +kernel
theorem dX4_quietAt_21 : decode cX4_quietAt 21 = .ok (.aload_n 0, 1) := by decide +kernel
theorem dX4_quietAt_22 : decode cX4_quietAt 22 = .ok (.getfield 15, 3) := by decide +kernel
theorem dX4_quietAt_25 : decode cX4_quietAt 25 = .ok (.iload_n 2, 1) := by decide +kernel
theorem dX4_quietAt_26 : decode cX4_quietAt 26 = .ok (.iaload, 1) := by decide +kernel
theorem dX4_quietAt_27 : decode cX4_quietAt 27 = .ok (.if_icmp .ge 5, 3) := by decide +kernel
theorem dX4_quietAt_30 : decode cX4_quietAt 30 = .ok (.iconst 1, 1) := by decide +kernel
theorem dX4_quietAt_31 : decode cX4_quietAt 31 = .ok (.ireturn, 1) := by decide +kernel
theorem dX4_quietAt_32 : decode cX4_quietAt 32 = .ok (.iinc 2 1, 3) := by decide +kernel
theorem dX4_quietAt_35 : decode cX4_quietAt 35 = .ok (.goto (-33), 3) := by decide +kernel
theorem dX4_quietAt_38 : decode cX4_quietAt 38 = .ok (.iconst 0, 1) := by decide +kernel
theorem dX4_quietAt_39 : decode cX4_quietAt 39 = .ok (.ireturn, 1) := by decide +kernel
def f_X4_quietAt_32 (N : Nat) (R : Nat → Nat → Nat) (k2 : SI → Nat → Int32 → Int32 → Option (Int32 × SI)) (σ : SI) (x0 : Nat) (x1 : Int32) (x2 : Int32) : Option (Int32 × SI) := k2 σ x0 x1 (x2 + 1)
def f_X4_quietAt_2 (N : Nat) (R : Nat → Nat → Nat) : Nat → SI → Nat → Int32 → Int32 → Option (Int32 × SI)
  | 0, _, _, _, _ => none
  | n + 1, σ, x0, x1, x2 => if (σ x0 5) ≤ x2 then (some ((0 : Int32), σ)) else (ck x2 4 (if x1 < (σ (R x0 0) x2.toNatClampNeg) then (f_X4_quietAt_32 N R (fun σ x0 x1 x2 => f_X4_quietAt_2 N R n σ x0 x1 x2) σ x0 x1 x2) else (ck x2 4 (if (σ (R x0 1) x2.toNatClampNeg) ≤ x1 then (f_X4_quietAt_32 N R (fun σ x0 x1 x2 => f_X4_quietAt_2 N R n σ x0 x1 x2) σ x0 x1 x2) else (some ((1 : Int32), σ))))))
def f_X4_quietAt (N : Nat) (R : Nat → Nat → Nat) (σ : SI) (x0 : Nat) (x1 : Int32) : Option (Int32 × SI) := f_X4_quietAt_2 N R N σ x0 x1 (0 : Int32)
set_option maxHeartbeats 4000000 in
set_option maxRecDepth 100000 in
theorem w_X4_quietAt_32 {l : Launch} {g : GL} {p : Program} {e : Jvm.Env} {s : State} {m : MethodId} {args : Array Value} {below : List Frame} {meth : Method} {c : Code} {R : Nat → Nat → Nat} {L : Nat → Nat → Int64} {r : (Int32 × SI)} {N : Nat} {k2 : SI → Nat → Int32 → Int32 → Option (Int32 × SI)} (C : Cx l g p s m meth c cX4_quietAt 3 RX4) (hr : meth.sig.returnType = (some .boolean)) (hSh : ShR R) (hk2 : ∀ (σ : SI) (x0 : Nat) (x1 : Int32) (x2 : Int32), k2 σ x0 x1 x2 = some r → Ok 194 x0 4 → ∀ (H : Heap) (locs : List Loc) (ls : Array Slot), S2 g s σ R L H locs → lv_has ls 3 [(0, .ref (gb g + x0)), (1, .int x1), (2, .int x2)] → W p l e (rmd 1 0 0) s m args below meth c H locs 0 0 (MQ below (Qg g 194 (PI R L r)) args s 0 0 (gA g)) (F0 m 2 ls [])) : ∀ (σ : SI) (x0 : Nat) (x1 : Int32) (x2 : Int32), f_X4_quietAt_32 N R k2 σ x0 x1 x2 = some r → Ok 194 x0 4 → ∀ (H : Heap) (locs : List Loc) (ls : Array Slot), S2 g s σ R L H locs → lv_has ls 3 [(0, .ref (gb g + x0)), (1, .int x1), (2, .int x2)] → W p l e (rmd 1 0 0) s m args below meth c H locs 0 0 (MQ below (Qg g 194 (PI R L r)) args s 0 0 (gA g)) (F0 m 32 ls []) := by
  have hx := C.1
  have hb := C.2.1
  intro σ x0 x1 x2 h hx0 H locs ls S hl
  rw [f_X4_quietAt_32] at h
  refine lv_iinc (v := x2 + 1) (lv' := [(2, .int (x2 + 1)), (0, .ref (gb g + x0)), (1, .int x1)]) hx hb dX4_quietAt_32 hl (k := 2) rfl rfl (by decide) rfl (fun ls hl => ?_)
  refine lv_goto (tgt := 2) hx hb dX4_quietAt_35 (by decide) ?_
  exact hk2 σ x0 x1 (x2 + 1) h hx0 H locs ls S (lv_sub hl [1, 2, 0] rfl)
set_option maxHeartbeats 4000000 in
set_option maxRecDepth 100000 in
theorem w_X4_quietAt_2 {l : Launch} {g : GL} {p : Program} {e : Jvm.Env} {s : State} {m : MethodId} {args : Array Value} {below : List Frame} {meth : Method} {c : Code} {R : Nat → Nat → Nat} {L : Nat → Nat → Int64} {r : (Int32 × SI)} {N : Nat} (C : Cx l g p s m meth c cX4_quietAt 3 RX4) (hr : meth.sig.returnType = (some .boolean)) (hSh : ShR R) : ∀ (n : Nat) (σ : SI) (x0 : Nat) (x1 : Int32) (x2 : Int32), f_X4_quietAt_2 N R n σ x0 x1 x2 = some r → Ok 194 x0 4 → ∀ (H : Heap) (locs : List Loc) (ls : Array Slot), S2 g s σ R L H locs → lv_has ls 3 [(0, .ref (gb g + x0)), (1, .int x1), (2, .int x2)] → W p l e (rmd 1 0 0) s m args below meth c H locs 0 0 (MQ below (Qg g 194 (PI R L r)) args s 0 0 (gA g)) (F0 m 2 ls []) := by
  have hx := C.1
  have hb := C.2.1
  intro n
  induction n with
  | zero =>
    intro σ x0 x1 x2 h
    cases (show (none : Option (Int32 × SI)) = some r from h)
  | succ n ih =>
    intro σ x0 x1 x2 h hx0 H locs ls S hl
    rw [f_X4_quietAt_2] at h
    refine lv_iload_n hx hb dX4_quietAt_2 rfl (lv_at hl 2 rfl) ?_
    refine lv_aload_n hx hb dX4_quietAt_3 rfl (lv_at hl 0 rfl) ?_
    refine x_getI C S KX4 hx0 5 (by decide) rfl rfl fl_RX4_18 dX4_quietAt_4 ?_
    refine lv_icmp_ge (tgt := 38) hx hb dX4_quietAt_7 (by decide) (fun c1 => ?_) (fun c1 => ?_)
    · have h := it_p c1 h
      refine lv_iconst (v := (0 : Int32)) hx hb dX4_quietAt_38 (by decide) ?_
      exact x_zret C S hr (by decide) h dX4_quietAt_39
    · have h := it_n c1 h
      refine lv_iload_n hx hb dX4_quietAt_10 rfl (lv_at hl 1 rfl) ?_
      refine lv_aload_n hx hb dX4_quietAt_11 rfl (lv_at hl 0 rfl) ?_
      have hR2 : Ok 194 (R x0 0) 10004 := hSh x0 4 0 10004 hx0.1 rfl
      refine x_getR C S KX4 hx0 0 (by decide) rfl rfl fl_RX4_9 hR2 dX4_quietAt_12 ?_
      refine lv_iload_n hx hb dX4_quietAt_15 rfl (lv_at hl 2 rfl) ?_
      obtain ⟨hi3, h⟩ := ck_el h
      refine x_iald (len := 4) C S (by decide) hR2 hi3 dX4_quietAt_16 ?_
      refine lv_icmp_lt (tgt := 32) hx hb dX4_quietAt_17 (by decide) (fun c4 => ?_) (fun c4 => ?_)
      · have h := it_p c4 h
        exact w_X4_quietAt_32 C hr hSh ih σ x0 x1 x2 h hx0 H locs ls S (lv_sub hl [0, 1, 2] rfl)
      · have h := it_n c4 h
        refine lv_iload_n hx hb dX4_quietAt_20 rfl (lv_at hl 1 rfl) ?_
        refine lv_aload_n hx hb dX4_quietAt_21 rfl (lv_at hl 0 rfl) ?_
        have hR5 : Ok 194 (R x0 1) 10004 := hSh x0 4 1 10004 hx0.1 rfl
        refine x_getR C S KX4 hx0 1 (by decide) rfl rfl fl_RX4_15 hR5 dX4_quietAt_22 ?_
        refine lv_iload_n hx hb dX4_quietAt_25 rfl (lv_at hl 2 rfl) ?_
        obtain ⟨hi6, h⟩ := ck_el h
        refine x_iald (len := 4) C S (by decide) hR5 hi6 dX4_quietAt_26 ?_
        refine lv_icmp_ge (tgt := 32) hx hb dX4_quietAt_27 (by decide) (fun c7 => ?_) (fun c7 => ?_)
        · have h := it_p c7 h
          exact w_X4_quietAt_32 C hr hSh ih σ x0 x1 x2 h hx0 H locs ls S (lv_sub hl [0, 1, 2] rfl)
        · have h := it_n c7 h
          refine lv_iconst (v := (1 : Int32)) hx hb dX4_quietAt_30 (by decide) ?_
          exact x_zret C S hr (by decide) h dX4_quietAt_31
set_option maxHeartbeats 4000000 in
set_option maxRecDepth 100000 in
theorem ok_X4_quietAt {l : Launch} {g : GL} {R : Nat → Nat → Nat} {L : Nat → Nat → Int64} {N : Nat} {σ : SI} {x0 : Nat} {x1 : Int32} {r : (Int32 × SI)} (h : f_X4_quietAt N R σ x0 x1 = some r) (hSh : ShR R) (hx0 : Ok 194 x0 4) : Ct l g 1 yX4_quietAt cX4_quietAt 3 (some .boolean) 194 194 0 0 [.ref (gb g + x0), .int x1] (mkS σ R L) (PI R L r) := by
  refine Met.ofW (cc := cX4_quietAt) (maxL := 3) (ret := (some .boolean)) (by decide) rfl ?_
  intro p e s m args below meth c s₁ B hml hv
  obtain ⟨rfl, hE, hLo, hWd⟩ := hv
  have hr : meth.sig.returnType = (some .boolean) := B.returns
  have C : Cx l g p s m meth c cX4_quietAt 3 RX4 := ⟨B.exec, B.bytes, hml, findClass_of_methodNamed B.named, hE, hLo, B.notSynchronized⟩
  have S : S2 g s σ R L s.heap [] := ⟨hWd, va_S.rf⟩
  have hx := C.1
  have hb := C.2.1
  have hl := lv_entry ([.ref (gb g + x0), .int x1]) (n := 3) (Nat.le_of_ble_eq_true rfl)
  rw [lg_entry_eq]
  generalize (lg_sl ([.ref (gb g + x0), .int x1]) ++ List.replicate (3 - (lg_sl ([.ref (gb g + x0), .int x1])).length) Slot.unset).toArray = ls at hl ⊢
  have hl : lv_has ls 3 [(0, .ref (gb g + x0)), (1, .int x1)] := hl
  generalize hH : s.heap = H at S ⊢
  generalize hlc : ([] : List Loc) = locs at S ⊢
  rw [f_X4_quietAt] at h
  refine lv_iconst (v := (0 : Int32)) hx hb dX4_quietAt_0 (by decide) ?_
  refine lv_istore_n (lv' := [(2, .int (0 : Int32)), (0, .ref (gb g + x0)), (1, .int x1)]) hx hb dX4_quietAt_1 rfl hl (by decide) rfl (fun ls hl => ?_)
  exact w_X4_quietAt_2 C hr hSh N σ x0 x1 (0 : Int32) h hx0 H locs ls S (lv_sub hl [1, 2, 0] rfl)
theorem dX6_forget_0 : decode cX6_forget 0 = .ok (.aload_n 0, 1) := by decide +kernel
theorem dX6_forget_1 : decode cX6_forget 1 = .ok (.iconst 0, 1) := by decide +kernel
theorem dX6_forget_2 : decode cX6_forget 2 = .ok (.putfield 21, 3) := by decide +kernel
theorem dX6_forget_5 : decode cX6_forget 5 = .ok (.return_, 1) := by decide +kernel
def f_X6_forget (N : Nat) (R : Nat → Nat → Nat) (σ : SI) (x0 : Nat) : Option (Unit × SI) := sq (up σ x0 5 (0 : Int32)) (fun σ1 => some ((), σ1))
set_option maxHeartbeats 4000000 in
set_option maxRecDepth 100000 in
theorem ok_X6_forget {l : Launch} {g : GL} {R : Nat → Nat → Nat} {L : Nat → Nat → Int64} {N : Nat} {σ : SI} {x0 : Nat} {r : (Unit × SI)} (h : f_X6_forget N R σ x0 = some r) (hSh : ShR R) (hx0 : Ok 194 x0 6) : Ct l g 1 yX6_forget cX6_forget 1 none 194 194 0 0 [.ref (gb g + x0)] (mkS σ R L) (PV R L r) := by
  refine Met.ofW (cc := cX6_forget) (maxL := 1) (ret := none) (by decide) rfl ?_
  intro p e s m args below meth c s₁ B hml hv
  obtain ⟨rfl, hE, hLo, hWd⟩ := hv
  have hr : meth.sig.returnType = none := B.returns
  have C : Cx l g p s m meth c cX6_forget 1 RX6 := ⟨B.exec, B.bytes, hml, findClass_of_methodNamed B.named, hE, hLo, B.notSynchronized⟩
  have S : S2 g s σ R L s.heap [] := ⟨hWd, va_S.rf⟩
  have hx := C.1
  have hb := C.2.1
  have hl := lv_entry ([.ref (gb g + x0)]) (n := 1) (Nat.le_of_ble_eq_true rfl)
  rw [lg_entry_eq]
  generalize (lg_sl ([.ref (gb g + x0)]) ++ List.replicate (1 - (lg_sl ([.ref (gb g + x0)])).length) Slot.unset).toArray = ls at hl ⊢
  have hl : lv_has ls 1 [(0, .ref (gb g + x0))] := hl
  generalize hH : s.heap = H at S ⊢
  generalize hlc : ([] : List Loc) = locs at S ⊢
  rw [f_X6_forget] at h
  refine lv_aload_n hx hb dX6_forget_0 rfl (lv_at hl 0 rfl) ?_
  refine lv_iconst (v := (0 : Int32)) hx hb dX6_forget_1 (by decide) ?_
  obtain ⟨σ1, hs1, h⟩ := sq_el h
  refine x_putI C S KX6 hx0 5 (by decide) rfl rfl rfl ⟨rfl, rfl⟩ fl_RX6_21 dX6_forget_2 hs1 (fun H locs S => ?_)
  exact x_vret C S hr h dX6_forget_5
theorem dX6_keep_0 : decode cX6_keep 0 = .ok (.aload_n 0, 1) := by decide +kernel
theorem dX6_keep_1 : decode cX6_keep 1 = .ok (.iload_n 2, 1) := by decide +kernel
theorem dX6_keep_2 : decode cX6_keep 2 = .ok (.putfield 37, 3) := by decide +kernel
theorem dX6_keep_5 : decode cX6_keep 5 = .ok (.iconst 0, 1) := by decide +kernel
theorem dX6_keep_6 : decode cX6_keep 6 = .ok (.istore_n 3, 1) := by decide +kernel
theorem dX6_keep_7 : decode cX6_keep 7 = .ok (.iload_n 3, 1) := by decide +kernel
theorem dX6_keep_8 : decode cX6_keep 8 = .ok (.aload_n 1, 1) := by decide +kernel
theorem dX6_keep_9 : decode cX6_keep 9 = .ok (.getfield 29, 3) := by decide +kernel
theorem dX6_keep_12 : decode cX6_keep 12 = .ok (.if_icmp .ge 21, 3) := by decide +kernel
theorem dX6_keep_15 : decode cX6_keep 15 = .ok (.aload_n 0, 1) := by decide +kernel
theorem dX6_keep_16 : decode cX6_keep 16 = .ok (.getfield 18, 3) := by decide +kernel
theorem dX6_keep_19 : decode cX6_keep 19 = .ok (.iload_n 3, 1) := by decide +kernel
theorem dX6_keep_20 : decode cX6_keep 20 = .ok (.aload_n 0, 1) := by decide +kernel
theorem dX6_keep_21 : decode cX6_keep 21 = .ok (.getfield 15, 3) := by decide +kernel
theorem dX6_keep_24 : decode cX6_keep 24 = .ok (.iload_n 3, 1) := by decide +kernel
theorem dX6_keep_25 : decode cX6_keep 25 = .ok (.iaload, 1) := by decide +kernel
theorem dX6_keep_26 : decode cX6_keep 26 = .ok (.iastore, 1) := by decide +kernel
theorem dX6_keep_27 : decode cX6_keep 27 = .ok (.iinc 3 1, 3) := by decide +kernel
theorem dX6_keep_30 : decode cX6_keep 30 = .ok (.goto (-23), 3) := by decide +kernel
theorem dX6_keep_33 : decode cX6_keep 33 = .ok (.return_, 1) := by decide +kernel
def f_X6_keep_7 (N : Nat) (R : Nat → Nat → Nat) : Nat → SI → Nat → Nat → Int32 → Option (Unit × SI)
  | 0, _, _, _, _ => none
  | n + 1, σ, x0, x1, x3 => if (σ x1 11) ≤ x3 then (some ((), σ)) else (ck x3 6 (ck x3 6 (sq (up σ (R x0 2) x3.toNatClampNeg (σ (R x0 1) x3.toNatClampNeg)) (fun σ7 => f_X6_keep_7 N R n σ7 x0 x1 (x3 + 1)))))
def f_X6_keep (N : Nat) (R : Nat → Nat → Nat) (σ : SI) (x0 : Nat) (x1 : Nat) (x2 : Int32) : Option (Unit × SI) := sq (up σ x0 4 x2) (fun σ1 => f_X6_keep_7 N R N σ1 x0 x1 (0 : Int32))
set_option maxHeartbeats 4000000 in
set_option maxRecDepth 100000 in
theorem w_X6_keep_7 {l : Launch} {g : GL} {p : Program} {e : Jvm.Env} {s : State} {m : MethodId} {args : Array Value} {below : List Frame} {meth : Method} {c : Code} {R : Nat → Nat → Nat} {L : Nat → Nat → Int64} {r : (Unit × SI)} {N : Nat} (C : Cx l g p s m meth c cX6_keep 4 RX6) (hr : meth.sig.returnType = none) (hSh : ShR R) : ∀ (n : Nat) (σ : SI) (x0 : Nat) (x1 : Nat) (x3 : Int32), f_X6_keep_7 N R n σ x0 x1 x3 = some r → Ok 194 x0 6 → Ok 194 x1 9 → ∀ (H : Heap) (locs : List Loc) (ls : Array Slot), S2 g s σ R L H locs → lv_has ls 4 [(0, .ref (gb g + x0)), (1, .ref (gb g + x1)), (3, .int x3)] → W p l e (rmd 1 0 0) s m args below meth c H locs 0 0 (MQ below (Qg g 194 (PV R L r)) args s 0 0 (gA g)) (F0 m 7 ls []) := by
  have hx := C.1
  have hb := C.2.1
  intro n
  induction n with
  | zero =>
    intro σ x0 x1 x3 h
    cases (show (none : Option (Unit × SI)) = some r from h)
  | succ n ih =>
    intro σ x0 x1 x3 h hx0 hx1 H locs ls S hl
    rw [f_X6_keep_7] at h
    refine lv_iload_n hx hb dX6_keep_7 rfl (lv_at hl 2 rfl) ?_
    refine lv_aload_n hx hb dX6_keep_8 rfl (lv_at hl 1 rfl) ?_
    refine x_getI C S KX9 hx1 11 (by decide) rfl rfl fl_RX6_29 dX6_keep_9 ?_
    refine lv_icmp_ge (tgt := 33) hx hb dX6_keep_12 (by decide) (fun c2 => ?_) (fun c2 => ?_)
    · have h := it_p c2 h
      exact x_vret C S hr h dX6_keep_33
    · have h := it_n c2 h
      refine lv_aload_n hx hb dX6_keep_15 rfl (lv_at hl 0 rfl) ?_
      have hR3 : Ok 194 (R x0 2) 10006 := hSh x0 6 2 10006 hx0.1 rfl
      refine x_getR C S KX6 hx0 2 (by decide) rfl rfl fl_RX6_18 hR3 dX6_keep_16 ?_
      refine lv_iload_n hx hb dX6_keep_19 rfl (lv_at hl 2 rfl) ?_
      refine lv_aload_n hx hb dX6_keep_20 rfl (lv_at hl 0 rfl) ?_
      have hR4 : Ok 194 (R x0 1) 10006 := hSh x0 6 1 10006 hx0.1 rfl
      refine x_getR C S KX6 hx0 1 (by decide) rfl rfl fl_RX6_15 hR4 dX6_keep_21 ?_
      refine lv_iload_n hx hb dX6_keep_24 rfl (lv_at hl 2 rfl) ?_
      obtain ⟨hi5, h⟩ := ck_el h
      refine x_iald (len := 6) C S (by decide) hR4 hi5 dX6_keep_25 ?_
      obtain ⟨hi6, h⟩ := ck_el h
      obtain ⟨σ7, hs7, h⟩ := sq_el h
      refine x_iast (len := 6) C S (by decide) hR3 hi6 dX6_keep_26 hs7 (fun H locs S => ?_)
      refine lv_iinc (v := x3 + 1) (lv' := [(3, .int (x3 + 1)), (0, .ref (gb g + x0)), (1, .ref (gb g + x1))]) hx hb dX6_keep_27 hl (k := 2) rfl rfl (by decide) rfl (fun ls hl => ?_)
      refine lv_goto (tgt := 7) hx hb dX6_keep_30 (by decide) ?_
      exact ih σ7 x0 x1 (x3 + 1) h hx0 hx1 H locs ls S (lv_sub hl [1, 2, 0] rfl)
set_option maxHeartbeats 4000000 in
set_option maxRecDepth 100000 in
theorem ok_X6_keep {l : Launch} {g : GL} {R : Nat → Nat → Nat} {L : Nat → Nat → Int64} {N : Nat} {σ : SI} {x0 : Nat} {x1 : Nat} {x2 : Int32} {r : (Unit × SI)} (h : f_X6_keep N R σ x0 x1 x2 = some r) (hSh : ShR R) (hx0 : Ok 194 x0 6) (hx1 : Ok 194 x1 9) : Ct l g 1 yX6_keep cX6_keep 4 none 194 194 0 0 [.ref (gb g + x0), .ref (gb g + x1), .int x2] (mkS σ R L) (PV R L r) := by
  refine Met.ofW (cc := cX6_keep) (maxL := 4) (ret := none) (by decide) rfl ?_
  intro p e s m args below meth c s₁ B hml hv
  obtain ⟨rfl, hE, hLo, hWd⟩ := hv
  have hr : meth.sig.returnType = none := B.returns
  have C : Cx l g p s m meth c cX6_keep 4 RX6 := ⟨B.exec, B.bytes, hml, findClass_of_methodNamed B.named, hE, hLo, B.notSynchronized⟩
  have S : S2 g s σ R L s.heap [] := ⟨hWd, va_S.rf⟩
  have hx := C.1
  have hb := C.2.1
  have hl := lv_entry ([.ref (gb g + x0), .ref (gb g + x1), .int x2]) (n := 4) (Nat.le_of_ble_eq_true rfl)
  rw [lg_entry_eq]
  generalize (lg_sl ([.ref (gb g + x0), .ref (gb g + x1), .int x2]) ++ List.replicate (4 - (lg_sl ([.ref (gb g + x0), .ref (gb g + x1), .int x2])).length) Slot.unset).toArray = ls at hl ⊢
  have hl : lv_has ls 4 [(0, .ref (gb g + x0)), (1, .ref (gb g + x1)), (2, .int x2)] := hl
  generalize hH : s.heap = H at S ⊢
  generalize hlc : ([] : List Loc) = locs at S ⊢
  rw [f_X6_keep] at h
  refine lv_aload_n hx hb dX6_keep_0 rfl (lv_at hl 0 rfl) ?_
  refine lv_iload_n hx hb dX6_keep_1 rfl (lv_at hl 2 rfl) ?_
  obtain ⟨σ1, hs1, h⟩ := sq_el h
  refine x_putI C S KX6 hx0 4 (by decide) rfl rfl rfl ⟨rfl, rfl⟩ fl_RX6_37 dX6_keep_2 hs1 (fun H locs S => ?_)
  refine lv_iconst (v := (0 : Int32)) hx hb dX6_keep_5 (by decide) ?_
  refine lv_istore_n (lv' := [(3, .int (0 : Int32)), (0, .ref (gb g + x0)), (1, .ref (gb g + x1)), (2, .int x2)]) hx hb dX6_keep_6 rfl hl (by decide) rfl (fun ls hl => ?_)
  exact w_X6_keep_7 C hr hSh N σ1 x0 x1 (0 : Int32) h hx0 hx1 H locs ls S (lv_sub hl [1, 2, 0] rfl)
theorem dX7_comesWithin_0 : decode cX7_comesWithin 0 = .ok (.iload_n 3, 1) := by decide +kernel
theorem dX7_comesWithin_1 : decode cX7_comesWithin 1 = .ok (.iload_n 3, 1) := by decide +kernel
theorem dX7_comesWithin_2 : decode cX7_comesWithin 2 = .ok (.imul, 1) := by decide +kernel
theorem dX7_comesWithin_3 : decode cX7_comesWithin 3 = .ok (.istore 4, 2) := by decide +kernel
theorem dX7_comesWithin_5 : decode cX7_comesWithin 5 = .ok (.aload_n 0, 1) := by decide +kernel
theorem dX7_comesWithin_6 : decode cX7_comesWithin 6 = .ok (.getfield 7, 3) := by decide +kernel
theorem dX7_comesWithin_9 : decode cX7_comesWithin 9 = .ok (.aload_n 0, 1) := by decide +kernel
theorem dX7_comesWithin_10 : decode cX7_comesWithin 10 = .ok (.getfield 13, 3) := by decide +kernel
theorem dX7_comesWithin_13 : decode cX7_comesWithin 13 = .ok (.isub, 1) := by decide +kernel
theorem dX7_comesWithin_14 : decode cX7_comesWithin 14 = .ok (.istore 5, 2) := by decide +kernel
theorem dX7_comesWithin_16 : decode cX7_comesWithin 16 = .ok (.aload_n 0, 1) := by decide +kernel
theorem dX7_comesWithin_17 : decode cX7_comesWithin 17 = .ok (.getfield 16, 3) := by decide +kernel
theorem dX7_comesWithin_20 : decode cX7_comesWithin 20 = .ok (.aload_n 0, 1) := by decide +kernel
theorem dX7_comesWithin_21 : decode cX7_comesWithin 21 = .ok (.getfield 19, 3) := by decide +kernel
theorem dX7_comesWithin_24 : decode cX7_comesWithin 24 = .ok (.isub, 1) := by decide +kernel
theorem dX7_comesWithin_25 : decode cX7_comesWithin 25 = .ok (.istore 6, 2) := by decide +kernel
theorem dX7_comesWithin_27 : decode cX7_comesWithin 27 = .ok (.iload 5, 2) := by decide +kernel
theorem dX7_comesWithin_29 : decode cX7_comesWithin 29 = .ok (.iload 6, 2) := by decide +kernel
theorem dX7_comesWithin_31 : decode cX7_comesWithin 31 = .ok (.invokestatic 22, 3) := by decide +kernel
theorem dX7_comesWithin_34 : decode cX7_comesWithin 34 = .ok (.istore 7, 2) := by decide +kernel
theorem dX7_comesWithin_36 : decode cX7_comesWithin 36 = .ok (.iload_n 1, 1) := by decide +kernel
theorem dX7_comesWithin_37 : decode cX7_comesWithin 37 = .ok (.aload_n 0, 1) := by decide +kernel
theorem dX7_comesWithin_38 : decode cX7_comesWithin 38 = .ok (.getfield 13, 3) := by decide +kernel
theorem dX7_comesWithin_41 : decode cX7_comesWithin 41 = .ok (.isub, 1) := by decide +kernel
theorem dX7_comesWithin_42 : decode cX7_comesWithin 42 = .ok (.iload 5, 2) := by decide +kernel
theorem dX7_comesWithin_44 : decode cX7_comesWithin 44 = .ok (.imul, 1) := by decide +kernel
theorem dX7_comesWithin_45 : decode cX7_comesWithin 45 = .ok (.iload_n 2, 1) := by decide +kernel
theorem dX7_comesWithin_46 : decode cX7_comesWithin 46 = .ok (.aload_n 0, 1) := by decide +kernel
theorem dX7_comesWithin_47 : decode cX7_comesWithin 47 = .ok (.getfield 19, 3) := by decide +kernel
theorem dX7_comesWithin_50 : decode cX7_comesWithin 50 = .ok (.isub, 1) := by decide +kernel
theorem dX7_comesWithin_51 : decode cX7_comesWithin 51 = .ok (.iload 6, 2) := by decide +kernel
theorem dX7_comesWithin_53 : decode cX7_comesWithin 53 = .ok (.imul, 1) := by decide +kernel
theorem dX7_comesWithin_54 : decode cX7_comesWithin 54 = .ok (.iadd, 1) := by decide +kernel
theorem dX7_comesWithin_55 : decode cX7_comesWithin 55 = .ok (.istore 8, 2) := by decide +kernel
theorem dX7_comesWithin_57 : decode cX7_comesWithin 57 = .ok (.iload 8, 2) := by decide +kernel
theorem dX7_comesWithin_59 : decode cX7_comesWithin 59 = .ok (.ifCond .gt 29, 3) := by decide +kernel
theorem dX7_comesWithin_62 : decode cX7_comesWithin 62 = .ok (.iload_n 1, 1) := by decide +kernel
theorem dX7_comesWithin_63 : decode cX7_comesWithin 63 = .ok (.aload_n 0, 1) := by decide +kernel
theorem dX7_comesWithin_64 : decode cX7_comesWithin 64 = .ok (.getfield 13, 3) := by decide +kernel
theorem dX7_comesWithin_67 : decode cX7_comesWithin 67 = .ok (.isub, 1) := by decide +kernel
theorem dX7_comesWithin_68 : decode cX7_comesWithin 68 = .ok (.iload_n 2, 1) := by decide +kernel
theorem dX7_comesWithin_69 : decode cX7_comesWithin 69 = .ok (.aload_n 0, 1) := by decide +kernel
theorem dX7_comesWithin_70 : decode cX7_comesWithin 70 = .ok (.getfield 19, 3) := by decide +kernel
theorem dX7_comesWithin_73 : decode cX7_comesWithin 73 = .ok (.isub, 1) := by decide +kernel
theorem dX7_comesWithin_74 : decode cX7_comesWithin 74 = .ok (.invokestatic 22, 3) := by decide +kernel
theorem dX7_comesWithin_77 : decode cX7_comesWithin 77 = .ok (.iload 4, 2) := by decide +kernel
theorem dX7_comesWithin_79 : decode cX7_comesWithin 79 = .ok (.if_icmp .gt 7, 3) := by decide +kernel
theorem dX7_comesWithin_82 : decode cX7_comesWithin 82 = .ok (.iconst 1, 1) := by decide +kernel
theorem dX7_comesWithin_83 : decode cX7_comesWithin 83 = .ok (.goto 4, 3) := by decide +kernel
theorem dX7_comesWithin_86 : decode cX7_comesWithin 86 = .ok (.iconst 0, 1) := by decide +kernel
theorem dX7_comesWithin_87 : decode cX7_comesWithin 87 = .ok (.ireturn, 1) := by decide +kernel
theorem dX7_comesWithin_88 : decode cX7_comesWithin 88 = .ok (.iload 8, 2) := by decide +kernel
theorem dX7_comesWithin_90 : decode cX7_comesWithin 90 = .ok (.iload 7, 2) := by decide +kernel
theorem dX7_comesWithin_92 : decode cX7_comesWithin 92 = .ok (.if_icmp .lt 29, 3) := by decide +kernel
theorem dX7_comesWithin_95 : decode cX7_comesWithin 95 = .ok (.iload_n 1, 1) := by decide +kernel
theorem dX7_comesWithin_96 : decode cX7_comesWithin 96 = .ok (.aload_n 0, 1) := by decide +kernel
theorem dX7_comesWithin_97 : decode cX7_comesWithin 97 = .ok (.getfield 7, 3) := by decide +kernel
theorem dX7_comesWithin_100 : decode cX7_comesWithin 100 = .ok (.isub, 1) := by decide +kernel
theorem dX7_comesWithin_101 : decode cX7_comesWithin 101 = .ok (.iload_n 2, 1) := by decide +kernel
theorem dX7_comesWithin_102 : decode cX7_comesWithin 102 = .ok (.aload_n 0, 1) := by decide +kernel
theorem dX7_comesWithin_103 : decode cX7_comesWithin 103 = .ok (.getfield 16, 3) := by decide +kernel
theorem dX7_comesWithin_106 : decode cX7_comesWithin 106 = .ok (.isub, 1) := by decide +kernel
theorem dX7_comesWithin_107 : decode cX7_comesWithin 107 = .ok (.invokestatic 22, 3) := by decide +kernel
theorem dX7_comesWithin_110 : decode cX7_comesWithin 110 = .ok (.iload 4, 2) := by decide +kernel
theorem dX7_comesWithin_112 : decode cX7_comesWithin 112 = .ok (.if_icmp .gt 7, 3) := by decide +kernel
theorem dX7_comesWithin_115 : decode cX7_comesWithin 115 = .ok (.iconst 1, 1) := by decide +kernel
theorem dX7_comesWithin_116 : decode cX7_comesWithin 116 = .ok (.goto 4, 3) := by decide +kernel
theorem dX7_comesWithin_119 : decode cX7_comesWithin 119 = .ok (.iconst 0, 1) := by decide +kernel
theorem dX7_comesWithin_120 : decode cX7_comesWithin 120 = .ok (.ireturn, 1) := by decide +kernel
theorem dX7_comesWithin_121 : decode cX7_comesWithin 121 = .ok (.iload_n 1, 1) := by decide +kernel
theorem dX7_comesWithin_122 : decode cX7_comesWithin 122 = .ok (.aload_n 0, 1) := by decide +kernel
theorem dX7_comesWithin_123 : decode cX7_comesWithin 123 = .ok (.getfield 13, 3) := by decide +kernel
theorem dX7_comesWithin_126 : decode cX7_comesWithin 126 = .ok (.isub, 1) := by decide +kernel
theorem dX7_comesWithin_127 : decode cX7_comesWithin 127 = .ok (.i2l, 1) := by decide +kernel
theorem dX7_comesWithin_128 : decode cX7_comesWithin 128 = .ok (.iload 6, 2) := by decide +kernel
theorem dX7_comesWithin_130 : decode cX7_comesWithin 130 = .ok (.i2l, 1) := by decide +kernel
theorem dX7_comesWithin_131 : decode cX7_comesWithin 131 = .ok (.lmul, 1) := by decide +kernel
theorem dX7_comesWithin_132 : decode cX7_comesWithin 132 = .ok (.iload_n 2, 1) := by decide +kernel
theorem dX7_comesWithin_133 : decode cX7_comesWithin 133 = .ok (.aload_n 0, 1) := by decide +kernel
theorem dX7_comesWithin_134 : decode cX7_comesWithin 134 = .ok (.getfield 19, 3) := by decide +kernel
theorem dX7_comesWithin_137 : decode cX7_comesWithin 137 = .ok (.isub, 1) := by decide +kernel
theorem dX7_comesWithin_138 : decode cX7_comesWithin 138 = .ok (.i2l, 1) := by decide +kernel
theorem dX7_comesWithin_139 : decode cX7_comesWithin 139 = .ok (.iload 5, 2) := by decide +kernel
theorem dX7_comesWithin_141 : decode cX7_comesWithin 141 = .ok (.i2l, 1) := by decide +kernel
theorem dX7_comesWithin_142 : decode cX7_comesWithin 142 = .ok (.lmul, 1) := by decide +kernel
theorem dX7_comesWithin_143 : decode cX7_comesWithin 143 = .ok (.lsub, 1) := by decide +kernel
theorem dX7_comesWithin_144 : decode cX7_comesWithin 144 = .ok (.lstore 9, 2) := by decide +kernel
theorem dX7_comesWithin_146 : decode cX7_comesWithin 146 = .ok (.lload 9, 2) := by decide +kernel
theorem dX7_comesWithin_148 : decode cX7_comesWithin 148 = .ok (.lload 9, 2) := by decide +kernel
theorem dX7_comesWithin_150 : decode cX7_comesWithin 150 = .ok (.lmul, 1) := by decide +kernel
theorem dX7_comesWithin_151 : decode cX7_comesWithin 151 = .ok (.iload 4, 2) := by decide +kernel
theorem dX7_comesWithin_153 : decode cX7_comesWithin 153 = .ok (.i2l, 1) := by decide +kernel
theorem dX7_comesWithin_154 : decode cX7_comesWithin 154 = .ok (.iload 7, 2) := by decide +kernel
theorem dX7_comesWithin_156 : decode cX7_comesWithin 156 = .ok (.i2l, 1) := by decide +kernel
theorem dX7_comesWithin_157 : decode cX7_comesWithin 157 = .ok (.lmul, 1) := by decide +kernel
theorem dX7_comesWithin_158 : decode cX7_comesWithin 158 = .ok (.lcmp, 1) := by decide +kernel
theorem dX7_comesWithin_159 : decode cX7_comesWithin 159 = .ok (.ifCond .gt 7, 3) := by decide +kernel
theorem dX7_comesWithin_162 : decode cX7_comesWithin 162 = .ok (.iconst 1, 1) := by decide +kernel
theorem dX7_comesWithin_163 : decode cX7_comesWithin 163 = .ok (.goto 4, 3) := by decide +kernel
theorem dX7_comesWithin_166 : decode cX7_comesWithin 166 = .ok (.iconst 0, 1) := by decide +kernel
theorem dX7_comesWithin_167 : decode cX7_comesWithin 167 = .ok (.ireturn, 1) := by decide +kernel
def f_X7_comesWithin (N : Nat) (R : Nat → Nat → Nat) (σ : SI) (x0 : Nat) (x1 : Int32) (x2 : Int32) (x3 : Int32) : Option (Int32 × SI) := bd (f_X11_squareSum N R σ ((σ x0 2) - (σ x0 0)) ((σ x0 3) - (σ x0 1))) (fun a1 σ1 => if 0 < (((x1 - (σ1 x0 0)) * ((σ x0 2) - (σ x0 0))) + ((x2 - (σ1 x0 1)) * ((σ x0 3) - (σ x0 1)))) then (if (((x1 - (σ1 x0 0)) * ((σ x0 2) - (σ x0 0))) + ((x2 - (σ1 x0 1)) * ((σ x0 3) - (σ x0 1)))) < a1 then (if 0 < (lg_cmp (((((x1 - (σ1 x0 0)).toInt64) * (((σ x0 3) - (σ x0 1)).toInt64)) - (((x2 - (σ1 x0 1)).toInt64) * (((σ x0 2) - (σ x0 0)).toInt64))) * ((((x1 - (σ1 x0 0)).toInt64) * (((σ x0 3) - (σ x0 1)).toInt64)) - (((x2 - (σ1 x0 1)).toInt64) * (((σ x0 2) - (σ x0 0)).toInt64)))) (((x3 * x3).toInt64) * a1.toInt64)) then (some ((0 : Int32), σ1)) else (some ((1 : Int32), σ1))) else (bd (f_X11_squareSum N R σ1 (x1 - (σ1 x0 2)) (x2 - (σ1 x0 3))) (fun a5 σ5 => if (x3 * x3) < a5 then (some ((0 : Int32), σ5)) else (some ((1 : Int32), σ5))))) else (bd (f_X11_squareSum N R σ1 (x1 - (σ1 x0 0)) (x2 - (σ1 x0 1))) (fun a7 σ7 => if (x3 * x3) < a7 then (some ((0 : Int32), σ7)) else (some ((1 : Int32), σ7)))))
set_option maxHeartbeats 4000000 in
set_option maxRecDepth 100000 in
theorem ok_X7_comesWithin {l : Launch} {g : GL} {R : Nat → Nat → Nat} {L : Nat → Nat → Int64} {N : Nat} {σ : SI} {x0 : Nat} {x1 : Int32} {x2 : Int32} {x3 : Int32} {r : (Int32 × SI)} (h : f_X7_comesWithin N R σ x0 x1 x2 x3 = some r) (hSh : ShR R) (hx0 : Ok 194 x0 7) : Ct l g 2 yX7_comesWithin cX7_comesWithin 11 (some .boolean) 194 194 0 0 [.ref (gb g + x0), .int x1, .int x2, .int x3] (mkS σ R L) (PI R L r) := by
  refine Met.ofW (cc := cX7_comesWithin) (maxL := 11) (ret := (some .boolean)) (by decide) rfl ?_
  intro p e s m args below meth c s₁ B hml hv
  obtain ⟨rfl, hE, hLo, hWd⟩ := hv
  have hr : meth.sig.returnType = (some .boolean) := B.returns
  have C : Cx l g p s m meth c cX7_comesWithin 11 RX7 := ⟨B.exec, B.bytes, hml, findClass_of_methodNamed B.named, hE, hLo, B.notSynchronized⟩
  have S : S2 g s σ R L s.heap [] := ⟨hWd, va_S.rf⟩
  have hx := C.1
  have hb := C.2.1
  have hl := lv_entry ([.ref (gb g + x0), .int x1, .int x2, .int x3]) (n := 11) (Nat.le_of_ble_eq_true rfl)
  rw [lg_entry_eq]
  generalize (lg_sl ([.ref (gb g + x0), .int x1, .int x2, .int x3]) ++ List.replicate (11 - (lg_sl ([.ref (gb g + x0), .int x1, .int x2, .int x3])).length) Slot.unset).toArray = ls at hl ⊢
  have hl : lv_has ls 11 [(0, .ref (gb g + x0)), (1, .int x1), (2, .int x2), (3, .int x3)] := hl
  generalize hH : s.heap = H at S ⊢
  generalize hlc : ([] : List Loc) = locs at S ⊢
  rw [f_X7_comesWithin] at h
  refine lv_iload_n hx hb dX7_comesWithin_0 rfl (lv_at hl 3 rfl) ?_
  refine lv_iload_n hx hb dX7_comesWithin_1 rfl (lv_at hl 3 rfl) ?_
  refine lv_imul hx hb dX7_comesWithin_2 ?_
  refine lv_istore (lv' := [(4, .int (x3 * x3)), (0, .ref (gb g + x0)), (1, .int x1), (2, .int x2), (3, .int x3)]) hx hb dX7_comesWithin_3 hl (by decide) rfl (fun ls hl => ?_)
  refine lv_aload_n hx hb dX7_comesWithin_5 rfl (lv_at hl 1 rfl) ?_
  refine x_getI C S KX7 hx0 2 (by decide) rfl rfl fl_RX7_7 dX7_comesWithin_6 ?_
  refine lv_aload_n hx hb dX7_comesWithin_9 rfl (lv_at hl 1 rfl) ?_
  refine x_getI C S KX7 hx0 0 (by decide) rfl rfl fl_RX7_13 dX7_comesWithin_10 ?_
  refine lv_isub hx hb dX7_comesWithin_13 ?_
  refine lv_istore (lv' := [(5, .int ((σ x0 2) - (σ x0 0))), (4, .int (x3 * x3)), (0, .ref (gb g + x0)), (1, .int x1), (2, .int x2), (3, .int x3)]) hx hb dX7_comesWithin_14 hl (by decide) rfl (fun ls hl => ?_)
  refine lv_aload_n hx hb dX7_comesWithin_16 rfl (lv_at hl 2 rfl) ?_
  refine x_getI C S KX7 hx0 3 (by decide) rfl rfl fl_RX7_16 dX7_comesWithin_17 ?_
  refine lv_aload_n hx hb dX7_comesWithin_20 rfl (lv_at hl 2 rfl) ?_
  refine x_getI C S KX7 hx0 1 (by decide) rfl rfl fl_RX7_19 dX7_comesWithin_21 ?_
  refine lv_isub hx hb dX7_comesWithin_24 ?_
  refine lv_istore (lv' := [(6, .int ((σ x0 3) - (σ x0 1))), (5, .int ((σ x0 2) - (σ x0 0))), (4, .int (x3 * x3)), (0, .ref (gb g + x0)), (1, .int x1), (2, .int x2), (3, .int x3)]) hx hb dX7_comesWithin_25 hl (by decide) rfl (fun ls hl => ?_)
  refine lv_iload hx hb dX7_comesWithin_27 (lv_at hl 1 rfl) ?_
  refine lv_iload hx hb dX7_comesWithin_29 (lv_at hl 0 rfl) ?_
  obtain ⟨a1, σ1, hc1, h⟩ := bd_el h
  refine x_callNI C S (ok_X11_squareSum (L := L) hc1 hSh) ⟨cd_X11_squareSum, ni_RX11, mn_RX7_22, st_X11_squareSum⟩ ⟨by decide, by decide⟩ rfl ⟨by decide, by decide⟩ hl.1 rfl (Nat.le_of_ble_eq_true rfl) ⟨by decide, by decide⟩ dX7_comesWithin_31 (fun H locs S => ?_)
  refine lv_istore (lv' := [(7, .int a1), (6, .int ((σ x0 3) - (σ x0 1))), (5, .int ((σ x0 2) - (σ x0 0))), (4, .int (x3 * x3)), (0, .ref (gb g + x0)), (1, .int x1), (2, .int x2), (3, .int x3)]) hx hb dX7_comesWithin_34 hl (by decide) rfl (fun ls hl => ?_)
  refine lv_iload_n hx hb dX7_comesWithin_36 rfl (lv_at hl 5 rfl) ?_
  refine lv_aload_n hx hb dX7_comesWithin_37 rfl (lv_at hl 4 rfl) ?_
  refine x_getI C S KX7 hx0 0 (by decide) rfl rfl fl_RX7_13 dX7_comesWithin_38 ?_
  refine lv_isub hx hb dX7_comesWithin_41 ?_
  refine lv_iload hx hb dX7_comesWithin_42 (lv_at hl 2 rfl) ?_
  refine lv_imul hx hb dX7_comesWithin_44 ?_
  refine lv_iload_n hx hb dX7_comesWithin_45 rfl (lv_at hl 6 rfl) ?_
  refine lv_aload_n hx hb dX7_comesWithin_46 rfl (lv_at hl 4 rfl) ?_
  refine x_getI C S KX7 hx0 1 (by decide) rfl rfl fl_RX7_19 dX7_comesWithin_47 ?_
  refine lv_isub hx hb dX7_comesWithin_50 ?_
  refine lv_iload hx hb dX7_comesWithin_51 (lv_at hl 1 rfl) ?_
  refine lv_imul hx hb dX7_comesWithin_53 ?_
  refine lv_iadd hx hb dX7_comesWithin_54 ?_
  refine lv_istore (lv' := [(8, .int (((x1 - (σ1 x0 0)) * ((σ x0 2) - (σ x0 0))) + ((x2 - (σ1 x0 1)) * ((σ x0 3) - (σ x0 1))))), (7, .int a1), (6, .int ((σ x0 3) - (σ x0 1))), (5, .int ((σ x0 2) - (σ x0 0))), (4, .int (x3 * x3)), (0, .ref (gb g + x0)), (1, .int x1), (2, .int x2), (3, .int x3)]) hx hb dX7_comesWithin_55 hl (by decide) rfl (fun ls hl => ?_)
  refine lv_iload hx hb dX7_comesWithin_57 (lv_at hl 0 rfl) ?_
  refine lv_if_gt (tgt := 88) hx hb dX7_comesWithin_59 (by decide) (fun c2 => ?_) (fun c2 => ?_)
  · have h := it_p c2 h
    refine lv_iload hx hb dX7_comesWithin_88 (lv_at hl 0 rfl) ?_
    refine lv_iload hx hb dX7_comesWithin_90 (lv_at hl 1 rfl) ?_
    refine lv_icmp_lt (tgt := 121) hx hb dX7_comesWithin_92 (by decide) (fun c3 => ?_) (fun c3 => ?_)
    · have h := it_p c3 h
      refine lv_iload_n hx hb dX7_comesWithin_121 rfl (lv_at hl 6 rfl) ?_
      refine lv_aload_n hx hb dX7_comesWithin_122 rfl (lv_at hl 5 rfl) ?_
      refine x_getI C S KX7 hx0 0 (by decide) rfl rfl fl_RX7_13 dX7_comesWithin_123 ?_
      refine lv_isub hx hb dX7_comesWithin_126 ?_
      refine lv_i2l hx hb dX7_comesWithin_127 rfl ?_
      refine lv_iload hx hb dX7_comesWithin_128 (lv_at hl 2 rfl) ?_
      refine lv_i2l hx hb dX7_comesWithin_130 rfl ?_
      refine lv_lmul hx hb dX7_comesWithin_131 ?_
      refine lv_iload_n hx hb dX7_comesWithin_132 rfl (lv_at hl 7 rfl) ?_
      refine lv_aload_n hx hb dX7_comesWithin_133 rfl (lv_at hl 5 rfl) ?_
      refine x_getI C S KX7 hx0 1 (by decide) rfl rfl fl_RX7_19 dX7_comesWithin_134 ?_
      refine lv_isub hx hb dX7_comesWithin_137 ?_
      refine lv_i2l hx hb dX7_comesWithin_138 rfl ?_
      refine lv_iload hx hb dX7_comesWithin_139 (lv_at hl 3 rfl) ?_
      refine lv_i2l hx hb dX7_comesWithin_141 rfl ?_
      refine lv_lmul hx hb dX7_comesWithin_142 ?_
      refine lv_lsub hx hb dX7_comesWithin_143 ?_
      refine lv_lstore (lv' := [(9, .long ((((x1 - (σ1 x0 0)).toInt64) * (((σ x0 3) - (σ x0 1)).toInt64)) - (((x2 - (σ1 x0 1)).toInt64) * (((σ x0 2) - (σ x0 0)).toInt64)))), (8, .int (((x1 - (σ1 x0 0)) * ((σ x0 2) - (σ x0 0))) + ((x2 - (σ1 x0 1)) * ((σ x0 3) - (σ x0 1))))), (7, .int a1), (6, .int ((σ x0 3) - (σ x0 1))), (5, .int ((σ x0 2) - (σ x0 0))), (4, .int (x3 * x3)), (0, .ref (gb g + x0)), (1, .int x1), (2, .int x2), (3, .int x3)]) hx hb dX7_comesWithin_144 hl (by decide) rfl (fun ls hl => ?_)
      refine lv_lload hx hb dX7_comesWithin_146 (lv_at hl 0 rfl) ?_
      refine lv_lload hx hb dX7_comesWithin_148 (lv_at hl 0 rfl) ?_
      refine lv_lmul hx hb dX7_comesWithin_150 ?_
      refine lv_iload hx hb dX7_comesWithin_151 (lv_at hl 5 rfl) ?_
      refine lv_i2l hx hb dX7_comesWithin_153 rfl ?_
      refine lv_iload hx hb dX7_comesWithin_154 (lv_at hl 2 rfl) ?_
      refine lv_i2l hx hb dX7_comesWithin_156 rfl ?_
      refine lv_lmul hx hb dX7_comesWithin_157 ?_
      refine W.lcmp hx hb dX7_comesWithin_158 ?_
      refine lv_if_gt (tgt := 166) hx hb dX7_comesWithin_159 (by decide) (fun c4 => ?_) (fun c4 => ?_)
      · have h := it_p c4 h
        refine lv_iconst (v := (0 : Int32)) hx hb dX7_comesWithin_166 (by decide) ?_
        exact x_zret C S hr (by decide) h dX7_comesWithin_167
      · have h := it_n c4 h
        refine lv_iconst (v := (1 : Int32)) hx hb dX7_comesWithin_162 (by decide) ?_
        refine lv_goto (tgt := 167) hx hb dX7_comesWithin_163 (by decide) ?_
        exact x_zret C S hr (by decide) h dX7_comesWithin_167
    · have h := it_n c3 h
      refine lv_iload_n hx hb dX7_comesWithin_95 rfl (lv_at hl 6 rfl) ?_
      refine lv_aload_n hx hb dX7_comesWithin_96 rfl (lv_at hl 5 rfl) ?_
      refine x_getI C S KX7 hx0 2 (by decide) rfl rfl fl_RX7_7 dX7_comesWithin_97 ?_
      refine lv_isub hx hb dX7_comesWithin_100 ?_
      refine lv_iload_n hx hb dX7_comesWithin_101 rfl (lv_at hl 7 rfl) ?_
      refine lv_aload_n hx hb dX7_comesWithin_102 rfl (lv_at hl 5 rfl) ?_
      refine x_getI C S KX7 hx0 3 (by decide) rfl rfl fl_RX7_16 dX7_comesWithin_103 ?_
      refine lv_isub hx hb dX7_comesWithin_106 ?_
      obtain ⟨a5, σ5, hc5, h⟩ := bd_el h
      refine x_callNI C S (ok_X11_squareSum (L := L) hc5 hSh) ⟨cd_X11_squareSum, ni_RX11, mn_RX7_22, st_X11_squareSum⟩ ⟨by decide, by decide⟩ rfl ⟨by decide, by decide⟩ hl.1 rfl (Nat.le_of_ble_eq_true rfl) ⟨by decide, by decide⟩ dX7_comesWithin_107 (fun H locs S => ?_)
      refine lv_iload hx hb dX7_comesWithin_110 (lv_at hl 4 rfl) ?_
      refine lv_icmp_gt (tgt := 119) hx hb dX7_comesWithin_112 (by decide) (fun c6 => ?_) (fun c6 => ?_)
      · have h := it_p c6 h
        refine lv_iconst (v := (0 : Int32)) hx hb dX7_comesWithin_119 (by decide) ?_
        exact x_zret C S hr (by decide) h dX7_comesWithin_120
      · have h := it_n c6 h
        refine lv_iconst (v := (1 : Int32)) hx hb dX7_comesWithin_115 (by decide) ?_
        refine lv_goto (tgt := 120) hx hb dX7_comesWithin_116 (by decide) ?_
        exact x_zret C S hr (by decide) h dX7_comesWithin_120
  · have h := it_n c2 h
    refine lv_iload_n hx hb dX7_comesWithin_62 rfl (lv_at hl 6 rfl) ?_
    refine lv_aload_n hx hb dX7_comesWithin_63 rfl (lv_at hl 5 rfl) ?_
    refine x_getI C S KX7 hx0 0 (by decide) rfl rfl fl_RX7_13 dX7_comesWithin_64 ?_
    refine lv_isub hx hb dX7_comesWithin_67 ?_
    refine lv_iload_n hx hb dX7_comesWithin_68 rfl (lv_at hl 7 rfl) ?_
    refine lv_aload_n hx hb dX7_comesWithin_69 rfl (lv_at hl 5 rfl) ?_
    refine x_getI C S KX7 hx0 1 (by decide) rfl rfl fl_RX7_19 dX7_comesWithin_70 ?_
    refine lv_isub hx hb dX7_comesWithin_73 ?_
    obtain ⟨a7, σ7, hc7, h⟩ := bd_el h
    refine x_callNI C S (ok_X11_squareSum (L := L) hc7 hSh) ⟨cd_X11_squareSum, ni_RX11, mn_RX7_22, st_X11_squareSum⟩ ⟨by decide, by decide⟩ rfl ⟨by decide, by decide⟩ hl.1 rfl (Nat.le_of_ble_eq_true rfl) ⟨by decide, by decide⟩ dX7_comesWithin_74 (fun H locs S => ?_)
    refine lv_iload hx hb dX7_comesWithin_77 (lv_at hl 4 rfl) ?_
    refine lv_icmp_gt (tgt := 86) hx hb dX7_comesWithin_79 (by decide) (fun c8 => ?_) (fun c8 => ?_)
    · have h := it_p c8 h
      refine lv_iconst (v := (0 : Int32)) hx hb dX7_comesWithin_86 (by decide) ?_
      exact x_zret C S hr (by decide) h dX7_comesWithin_87
    · have h := it_n c8 h
      refine lv_iconst (v := (1 : Int32)) hx hb dX7_comesWithin_82 (by decide) ?_
      refine lv_goto (tgt := 87) hx hb dX7_comesWithin_83 (by decide) ?_
      exact x_zret C S hr (by decide) h dX7_comesWithin_87
theorem dX8_insert_0 : decode cX8_insert 0 = .ok (.aload_n 0, 1) := by decide +kernel
theorem dX8_insert_1 : decode cX8_insert 1 = .ok (.getfield 15, 3) := by decide +kernel
theorem dX8_insert_4 : decode cX8_insert 4 = .ok (.aload_n 0, 1) := by decide +kernel
theorem dX8_insert_5 : decode cX8_insert 5 = .ok (.getfield 9, 3) := by decide +kernel
theorem dX8_insert_8 : decode cX8_insert 8 = .ok (.arraylength, 1) := by decide +kernel
theorem dX8_insert_9 : decode cX8_insert 9 = .ok (.if_icmp .lt 4, 3) := by decide +kernel
theorem dX8_insert_12 : decode cX8_insert 12 = .ok (.return_, 1) := by decide +kernel
theorem dX8_insert_13 : decode cX8_insert 13 = .ok (.iload_n 1, 1) := by decide +kernel
theorem dX8_insert_14 : decode cX8_insert 14 = .ok (.bipush 10, 2) := by decide +kernel
theorem dX8_insert_16 : decode cX8_insert 16 = .ok (.iadd, 1) := by decide +kernel
theorem dX8_insert_17 : decode cX8_insert 17 = .ok (.iconst 4, 1) := by decide +kernel
theorem dX8_insert_18 : decode cX8_insert 18 = .ok (.imul, 1) := by decide +kernel
theorem dX8_insert_19 : decode cX8_insert 19 = .ok (.iload_n 2, 1) := by decide +kernel
theorem dX8_insert_20 : decode cX8_insert 20 = .ok (.iadd, 1) := by decide +kernel
theorem dX8_insert_21 : decode cX8_insert 21 = .ok (.bipush 8, 2) := by decide +kernel
theorem dX8_insert_23 : decode cX8_insert 23 = .ok (.imul, 1) := by decide +kernel
theorem dX8_insert_24 : decode cX8_insert 24 = .ok (.iload_n 3, 1) := by decide +kernel
theorem dX8_insert_25 : decode cX8_insert 25 = .ok (.iadd, 1) := by decide +kernel
theorem dX8_insert_26 : decode cX8_insert 26 = .ok (.istore 4, 2) := by decide +kernel
theorem dX8_insert_28 : decode cX8_insert 28 = .ok (.aload_n 0, 1) := by decide +kernel
theorem dX8_insert_29 : decode cX8_insert 29 = .ok (.getfield 15, 3) := by decide +kernel
theorem dX8_insert_32 : decode cX8_insert 32 = .ok (.istore 5, 2) := by decide +kernel
theorem dX8_insert_34 : decode cX8_insert 34 = .ok (.iload 5, 2) := by decide +kernel
theorem dX8_insert_36 : decode cX8_insert 36 = .ok (.ifCond .le 39, 3) := by decide +kernel
theorem dX8_insert_39 : decode cX8_insert 39 = .ok (.aload_n 0, 1) := by decide +kernel
theorem dX8_insert_40 : decode cX8_insert 40 = .ok (.getfield 9, 3) := by decide +kernel
theorem dX8_insert_43 : decode cX8_insert 43 = .ok (.iload 5, 2) := by decide +kernel
theorem dX8_insert_45 : decode cX8_insert 45 = .ok (.iconst 1, 1) := by decide +kernel
theorem dX8_insert_46 : decode cX8_insert 46 = .ok (.isub, 1) := by decide +kernel
theorem dX8_insert_47 : decode cX8_insert 47 = .ok (.iaload, 1) := by decide +kernel
theorem dX8_insert_48 : decode cX8_insert 48 = .ok (.iload 4, 2) := by decide +kernel
theorem dX8_insert_50 : decode cX8_insert 50 = .ok (.if_icmp .le 25, 3) := by decide +kernel
theorem dX8_insert_53 : decode cX8_insert 53 = .ok (.aload_n 0, 1) := by decide +kernel
theorem dX8_insert_54 : decode cX8_insert 54 = .ok (.getfield 9, 3) := by decide +kernel
theorem dX8_insert_57 : decode cX8_insert 57 = .ok (.iload 5, 2) := by decide +kernel
theorem dX8_insert_59 : decode cX8_insert 59 = .ok (.aload_n 0, 1) := by decide +kernel
theorem dX8_insert_60 : decode cX8_insert 60 = .ok (.getfield 9, 3) := by decide +kernel
theorem dX8_insert_63 : decode cX8_insert 63 = .ok (.iload 5, 2) := by decide +kernel
theorem dX8_insert_65 : decode cX8_insert 65 = .ok (.iconst 1, 1) := by decide +kernel
theorem dX8_insert_66 : decode cX8_insert 66 = .ok (.isub, 1) := by decide +kernel
theorem dX8_insert_67 : decode cX8_insert 67 = .ok (.iaload, 1) := by decide +kernel
theorem dX8_insert_68 : decode cX8_insert 68 = .ok (.iastore, 1) := by decide +kernel
theorem dX8_insert_69 : decode cX8_insert 69 = .ok (.iinc 5 (-1), 3) := by decide +kernel
theorem dX8_insert_72 : decode cX8_insert 72 = .ok (.goto (-38), 3) := by decide +kernel
theorem dX8_insert_75 : decode cX8_insert 75 = .ok (.aload_n 0, 1) := by decide +kernel
theorem dX8_insert_76 : decode cX8_insert 76 = .ok (.getfield 9, 3) := by decide +kernel
theorem dX8_insert_79 : decode cX8_insert 79 = .ok (.iload 5, 2) := by decide +kernel
theorem dX8_insert_81 : decode cX8_insert 81 = .ok (.iload 4, 2) := by decide +kernel
theorem dX8_insert_83 : decode cX8_insert 83 = .ok (.iastore, 1) := by decide +kernel
theorem dX8_insert_84 : decode cX8_insert 84 = .ok (.aload_n 0, 1) := by decide +kernel
theorem dX8_insert_85 : decode cX8_insert 85 = .ok (.dup, 1) := by decide +kernel
theorem dX8_insert_86 : decode cX8_insert 86 = .ok (.getfield 15, 3) := by decide +kernel
theorem dX8_insert_89 : decode cX8_insert 89 = .ok (.iconst 1, 1) := by decide +kernel
theorem dX8_insert_90 : decode cX8_insert 90 = .ok (.iadd, 1) := by decide +kernel
theorem dX8_insert_91 : decode cX8_insert 91 = .ok (.putfield 15, 3) := by decide +kernel
theorem dX8_insert_94 : decode cX8_insert 94 = .ok (.return_, 1) := by decide +kernel
def f_X8_insert_75 (N : Nat) (R : Nat → Nat → Nat) (σ : SI) (x0 : Nat) (x4 : Int32) (x5 : Int32) : Option (Unit × SI) := ck x5 18 (sq (up σ (R x0 0) x5.toNatClampNeg x4) (fun σ6 => sq (up σ6 x0 1 ((σ6 x0 1) + (1 : Int32))) (fun σ7 => some ((), σ7))))
def f_X8_insert_34 (N : Nat) (R : Nat → Nat → Nat) : Nat → SI → Nat → Int32 → Int32 → Option (Unit × SI)
  | 0, _, _, _, _ => none
  | n + 1, σ, x0, x4, x5 => if x5 ≤ 0 then (f_X8_insert_75 N R σ x0 x4 x5) else (ck (x5 - (1 : Int32)) 18 (if (σ (R x0 0) (x5 - (1 : Int32)).toNatClampNeg) ≤ x4 then (f_X8_insert_75 N R σ x0 x4 x5) else (ck (x5 - (1 : Int32)) 18 (ck x5 18 (sq (up σ (R x0 0) x5.toNatClampNeg (σ (R x0 0) (x5 - (1 : Int32)).toNatClampNeg)) (fun σ15 => f_X8_insert_34 N R n σ15 x0 x4 (x5 + (-1))))))))
def f_X8_insert (N : Nat) (R : Nat → Nat → Nat) (σ : SI) (x0 : Nat) (x1 : Int32) (x2 : Int32) (x3 : Int32) : Option (Unit × SI) := if (σ x0 1) < (Int32.ofNat 18) then (f_X8_insert_34 N R N σ x0 (((((x1 + (10 : Int32)) * (4 : Int32)) + x2) * (8 : Int32)) + x3) (σ x0 1)) else (some ((), σ))
set_option maxHeartbeats 4000000 in
set_option maxRecDepth 100000 in
theorem w_X8_insert_75 {l : Launch} {g : GL} {p : Program} {e : Jvm.Env} {s : State} {m : MethodId} {args : Array Value} {below : List Frame} {meth : Method} {c : Code} {R : Nat → Nat → Nat} {L : Nat → Nat → Int64} {r : (Unit × SI)} {N : Nat} (C : Cx l g p s m meth c cX8_insert 6 RX8) (hr : meth.sig.returnType = none) (hSh : ShR R) : ∀ (σ : SI) (x0 : Nat) (x4 : Int32) (x5 : Int32), f_X8_insert_75 N R σ x0 x4 x5 = some r → Ok 194 x0 8 → ∀ (H : Heap) (locs : List Loc) (ls : Array Slot), S2 g s σ R L H locs → lv_has ls 6 [(0, .ref (gb g + x0)), (4, .int x4), (5, .int x5)] → W p l e (rmd 1 0 0) s m args below meth c H locs 0 0 (MQ below (Qg g 194 (PV R L r)) args s 0 0 (gA g)) (F0 m 75 ls []) := by
  have hx := C.1
  have hb := C.2.1
  intro σ x0 x4 x5 h hx0 H locs ls S hl
  rw [f_X8_insert_75] at h
  refine lv_aload_n hx hb dX8_insert_75 rfl (lv_at hl 0 rfl) ?_
  have hR4 : Ok 194 (R x0 0) 10018 := hSh x0 8 0 10018 hx0.1 rfl
  refine x_getR C S KX8 hx0 0 (by decide) rfl rfl fl_RX8_9 hR4 dX8_insert_76 ?_
  refine lv_iload hx hb dX8_insert_79 (lv_at hl 2 rfl) ?_
  refine lv_iload hx hb dX8_insert_81 (lv_at hl 1 rfl) ?_
  obtain ⟨hi5, h⟩ := ck_el h
  obtain ⟨σ6, hs6, h⟩ := sq_el h
  refine x_iast (len := 18) C S (by decide) hR4 hi5 dX8_insert_83 hs6 (fun H locs S => ?_)
  refine lv_aload_n hx hb dX8_insert_84 rfl (lv_at hl 0 rfl) ?_
  refine lv_dup hx hb dX8_insert_85 rfl ?_
  refine x_getI C S KX8 hx0 1 (by decide) rfl rfl fl_RX8_15 dX8_insert_86 ?_
  refine lv_iconst (v := (1 : Int32)) hx hb dX8_insert_89 (by decide) ?_
  refine lv_iadd hx hb dX8_insert_90 ?_
  obtain ⟨σ7, hs7, h⟩ := sq_el h
  refine x_putI C S KX8 hx0 1 (by decide) rfl rfl rfl ⟨rfl, rfl⟩ fl_RX8_15 dX8_insert_91 hs7 (fun H locs S => ?_)
  exact x_vret C S hr h dX8_insert_94
set_option maxHeartbeats 4000000 in
set_option maxRecDepth 100000 in
theorem w_X8_insert_34 {l : Launch} {g : GL} {p : Program} {e : Jvm.Env} {s : State} {m : MethodId} {args : Array Value} {below : List Frame} {meth : Method} {c : Code} {R : Nat → Nat → Nat} {L : Nat → Nat → Int64} {r : (Unit × SI)} {N : Nat} (C : Cx l g p s m meth c cX8_insert 6 RX8) (hr : meth.sig.returnType = none) (hSh : ShR R) : ∀ (n : Nat) (σ : SI) (x0 : Nat) (x4 : Int32) (x5 : Int32), f_X8_insert_34 N R n σ x0 x4 x5 = some r → Ok 194 x0 8 → ∀ (H : Heap) (locs : List Loc) (ls : Array Slot), S2 g s σ R L H locs → lv_has ls 6 [(0, .ref (gb g + x0)), (4, .int x4), (5, .int x5)] → W p l e (rmd 1 0 0) s m args below meth c H locs 0 0 (MQ below (Qg g 194 (PV R L r)) args s 0 0 (gA g)) (F0 m 34 ls []) := by
  have hx := C.1
  have hb := C.2.1
  intro n
  induction n with
  | zero =>
    intro σ x0 x4 x5 h
    cases (show (none : Option (Unit × SI)) = some r from h)
  | succ n ih =>
    intro σ x0 x4 x5 h hx0 H locs ls S hl
    rw [f_X8_insert_34] at h
    refine lv_iload hx hb dX8_insert_34 (lv_at hl 2 rfl) ?_
    refine lv_if_le (tgt := 75) hx hb dX8_insert_36 (by decide) (fun c3 => ?_) (fun c3 => ?_)
    · have h := it_p c3 h
      exact w_X8_insert_75 C hr hSh σ x0 x4 x5 h hx0 H locs ls S (lv_sub hl [0, 1, 2] rfl)
    · have h := it_n c3 h
      refine lv_aload_n hx hb dX8_insert_39 rfl (lv_at hl 0 rfl) ?_
      have hR8 : Ok 194 (R x0 0) 10018 := hSh x0 8 0 10018 hx0.1 rfl
      refine x_getR C S KX8 hx0 0 (by decide) rfl rfl fl_RX8_9 hR8 dX8_insert_40 ?_
      refine lv_iload hx hb dX8_insert_43 (lv_at hl 2 rfl) ?_
      refine lv_iconst (v := (1 : Int32)) hx hb dX8_insert_45 (by decide) ?_
      refine lv_isub hx hb dX8_insert_46 ?_
      obtain ⟨hi9, h⟩ := ck_el h
      refine x_iald (len := 18) C S (by decide) hR8 hi9 dX8_insert_47 ?_
      refine lv_iload hx hb dX8_insert_48 (lv_at hl 1 rfl) ?_
      refine lv_icmp_le (tgt := 75) hx hb dX8_insert_50 (by decide) (fun c10 => ?_) (fun c10 => ?_)
      · have h := it_p c10 h
        exact w_X8_insert_75 C hr hSh σ x0 x4 x5 h hx0 H locs ls S (lv_sub hl [0, 1, 2] rfl)
      · have h := it_n c10 h
        refine lv_aload_n hx hb dX8_insert_53 rfl (lv_at hl 0 rfl) ?_
        have hR11 : Ok 194 (R x0 0) 10018 := hSh x0 8 0 10018 hx0.1 rfl
        refine x_getR C S KX8 hx0 0 (by decide) rfl rfl fl_RX8_9 hR11 dX8_insert_54 ?_
        refine lv_iload hx hb dX8_insert_57 (lv_at hl 2 rfl) ?_
        refine lv_aload_n hx hb dX8_insert_59 rfl (lv_at hl 0 rfl) ?_
        have hR12 : Ok 194 (R x0 0) 10018 := hSh x0 8 0 10018 hx0.1 rfl
        refine x_getR C S KX8 hx0 0 (by decide) rfl rfl fl_RX8_9 hR12 dX8_insert_60 ?_
        refine lv_iload hx hb dX8_insert_63 (lv_at hl 2 rfl) ?_
        refine lv_iconst (v := (1 : Int32)) hx hb dX8_insert_65 (by decide) ?_
        refine lv_isub hx hb dX8_insert_66 ?_
        obtain ⟨hi13, h⟩ := ck_el h
        refine x_iald (len := 18) C S (by decide) hR12 hi13 dX8_insert_67 ?_
        obtain ⟨hi14, h⟩ := ck_el h
        obtain ⟨σ15, hs15, h⟩ := sq_el h
        refine x_iast (len := 18) C S (by decide) hR11 hi14 dX8_insert_68 hs15 (fun H locs S => ?_)
        refine lv_iinc (v := x5 + (-1)) (lv' := [(5, .int (x5 + (-1))), (0, .ref (gb g + x0)), (4, .int x4)]) hx hb dX8_insert_69 hl (k := 2) rfl rfl (by decide) rfl (fun ls hl => ?_)
        refine lv_goto (tgt := 34) hx hb dX8_insert_72 (by decide) ?_
        exact ih σ15 x0 x4 (x5 + (-1)) h hx0 H locs ls S (lv_sub hl [1, 2, 0] rfl)
set_option maxHeartbeats 4000000 in
set_option maxRecDepth 100000 in
theorem ok_X8_insert {l : Launch} {g : GL} {R : Nat → Nat → Nat} {L : Nat → Nat → Int64} {N : Nat} {σ : SI} {x0 : Nat} {x1 : Int32} {x2 : Int32} {x3 : Int32} {r : (Unit × SI)} (h : f_X8_insert N R σ x0 x1 x2 x3 = some r) (hSh : ShR R) (hx0 : Ok 194 x0 8) : Ct l g 1 yX8_insert cX8_insert 6 none 194 194 0 0 [.ref (gb g + x0), .int x1, .int x2, .int x3] (mkS σ R L) (PV R L r) := by
  refine Met.ofW (cc := cX8_insert) (maxL := 6) (ret := none) (by decide) rfl ?_
  intro p e s m args below meth c s₁ B hml hv
  obtain ⟨rfl, hE, hLo, hWd⟩ := hv
  have hr : meth.sig.returnType = none := B.returns
  have C : Cx l g p s m meth c cX8_insert 6 RX8 := ⟨B.exec, B.bytes, hml, findClass_of_methodNamed B.named, hE, hLo, B.notSynchronized⟩
  have S : S2 g s σ R L s.heap [] := ⟨hWd, va_S.rf⟩
  have hx := C.1
  have hb := C.2.1
  have hl := lv_entry ([.ref (gb g + x0), .int x1, .int x2, .int x3]) (n := 6) (Nat.le_of_ble_eq_true rfl)
  rw [lg_entry_eq]
  generalize (lg_sl ([.ref (gb g + x0), .int x1, .int x2, .int x3]) ++ List.replicate (6 - (lg_sl ([.ref (gb g + x0), .int x1, .int x2, .int x3])).length) Slot.unset).toArray = ls at hl ⊢
  have hl : lv_has ls 6 [(0, .ref (gb g + x0)), (1, .int x1), (2, .int x2), (3, .int x3)] := hl
  generalize hH : s.heap = H at S ⊢
  generalize hlc : ([] : List Loc) = locs at S ⊢
  rw [f_X8_insert] at h
  refine lv_aload_n hx hb dX8_insert_0 rfl (lv_at hl 0 rfl) ?_
  refine x_getI C S KX8 hx0 1 (by decide) rfl rfl fl_RX8_15 dX8_insert_1 ?_
  refine lv_aload_n hx hb dX8_insert_4 rfl (lv_at hl 0 rfl) ?_
  have hR1 : Ok 194 (R x0 0) 10018 := hSh x0 8 0 10018 hx0.1 rfl
  refine x_getR C S KX8 hx0 0 (by decide) rfl rfl fl_RX8_9 hR1 dX8_insert_5 ?_
  refine v_alenI (len := 18) C S (by decide) hR1 dX8_insert_8 ?_
  refine lv_icmp_lt (tgt := 13) hx hb dX8_insert_9 (by decide) (fun c2 => ?_) (fun c2 => ?_)
  · have h := it_p c2 h
    refine lv_iload_n hx hb dX8_insert_13 rfl (lv_at hl 1 rfl) ?_
    refine lv_bipush (v := (10 : Int32)) hx hb dX8_insert_14 (by decide) ?_
    refine lv_iadd hx hb dX8_insert_16 ?_
    refine lv_iconst (v := (4 : Int32)) hx hb dX8_insert_17 (by decide) ?_
    refine lv_imul hx hb dX8_insert_18 ?_
    refine lv_iload_n hx hb dX8_insert_19 rfl (lv_at hl 2 rfl) ?_
    refine lv_iadd hx hb dX8_insert_20 ?_
    refine lv_bipush (v := (8 : Int32)) hx hb dX8_insert_21 (by decide) ?_
    refine lv_imul hx hb dX8_insert_23 ?_
    refine lv_iload_n hx hb dX8_insert_24 rfl (lv_at hl 3 rfl) ?_
    refine lv_iadd hx hb dX8_insert_25 ?_
    refine lv_istore (lv' := [(4, .int (((((x1 + (10 : Int32)) * (4 : Int32)) + x2) * (8 : Int32)) + x3)), (0, .ref (gb g + x0)), (1, .int x1), (2, .int x2), (3, .int x3)]) hx hb dX8_insert_26 hl (by decide) rfl (fun ls hl => ?_)
    refine lv_aload_n hx hb dX8_insert_28 rfl (lv_at hl 1 rfl) ?_
    refine x_getI C S KX8 hx0 1 (by decide) rfl rfl fl_RX8_15 dX8_insert_29 ?_
    refine lv_istore (lv' := [(5, .int (σ x0 1)), (4, .int (((((x1 + (10 : Int32)) * (4 : Int32)) + x2) * (8 : Int32)) + x3)), (0, .ref (gb g + x0)), (1, .int x1), (2, .int x2), (3, .int x3)]) hx hb dX8_insert_32 hl (by decide) rfl (fun ls hl => ?_)
    exact w_X8_insert_34 C hr hSh N σ x0 (((((x1 + (10 : Int32)) * (4 : Int32)) + x2) * (8 : Int32)) + x3) (σ x0 1) h hx0 H locs ls S (lv_sub hl [2, 1, 0] rfl)
  · have h := it_n c2 h
    exact x_vret C S hr h dX8_insert_12
theorem dX8_minuteOf_0 : decode cX8_minuteOf 0 = .ok (.iload_n 0, 1) := by decide +kernel
theorem dX8_minuteOf_1 : decode cX8_minuteOf 1 = .ok (.bipush 32, 2) := by decide +kernel
theorem dX8_minuteOf_3 : decode cX8_minuteOf 3 = .ok (.idiv, 1) := by decide +kernel
theorem dX8_minuteOf_4 : decode cX8_minuteOf 4 = .ok (.bipush 10, 2) := by decide +kernel
theorem dX8_minuteOf_6 : decode cX8_minuteOf 6 = .ok (.isub, 1) := by decide +kernel
theorem dX8_minuteOf_7 : decode cX8_minuteOf 7 = .ok (.ireturn, 1) := by decide +kernel
def f_X8_minuteOf (N : Nat) (R : Nat → Nat → Nat) (σ : SI) (x0 : Int32) : Option (Int32 × SI) := some ((x0 / (32 : Int32)) - (10 : Int32), σ)
set_option maxHeartbeats 4000000 in
set_option maxRecDepth 100000 in
theorem ok_X8_minuteOf {l : Launch} {g : GL} {R : Nat → Nat → Nat} {L : Nat → Nat → Int64} {N : Nat} {σ : SI} {x0 : Int32} {r : (Int32 × SI)} (h : f_X8_minuteOf N R σ x0 = some r) (hSh : ShR R) : Ct l g 1 yX8_minuteOf cX8_minuteOf 1 (some .int) 194 194 0 0 [.int x0] (mkS σ R L) (PI R L r) := by
  refine Met.ofW (cc := cX8_minuteOf) (maxL := 1) (ret := (some .int)) (by decide) rfl ?_
  intro p e s m args below meth c s₁ B hml hv
  obtain ⟨rfl, hE, hLo, hWd⟩ := hv
  have hr : meth.sig.returnType = (some .int) := B.returns
  have C : Cx l g p s m meth c cX8_minuteOf 1 RX8 := ⟨B.exec, B.bytes, hml, findClass_of_methodNamed B.named, hE, hLo, B.notSynchronized⟩
  have S : S2 g s σ R L s.heap [] := ⟨hWd, va_S.rf⟩
  have hx := C.1
  have hb := C.2.1
  have hl := lv_entry ([.int x0]) (n := 1) (Nat.le_of_ble_eq_true rfl)
  rw [lg_entry_eq]
  generalize (lg_sl ([.int x0]) ++ List.replicate (1 - (lg_sl ([.int x0])).length) Slot.unset).toArray = ls at hl ⊢
  have hl : lv_has ls 1 [(0, .int x0)] := hl
  generalize hH : s.heap = H at S ⊢
  generalize hlc : ([] : List Loc) = locs at S ⊢
  rw [f_X8_minuteOf] at h
  refine lv_iload_n hx hb dX8_minuteOf_0 rfl (lv_at hl 0 rfl) ?_
  refine lv_bipush (v := (32 : Int32)) hx hb dX8_minuteOf_1 (by decide) ?_
  refine lv_idiv hx hb dX8_minuteOf_3 (by decide) ?_
  refine lv_bipush (v := (10 : Int32)) hx hb dX8_minuteOf_4 (by decide) ?_
  refine lv_isub hx hb dX8_minuteOf_6 ?_
  exact x_iret C S hr h dX8_minuteOf_7
theorem dX8_kindOf_0 : decode cX8_kindOf 0 = .ok (.iload_n 0, 1) := by decide +kernel
theorem dX8_kindOf_1 : decode cX8_kindOf 1 = .ok (.bipush 8, 2) := by decide +kernel
theorem dX8_kindOf_3 : decode cX8_kindOf 3 = .ok (.idiv, 1) := by decide +kernel
theorem dX8_kindOf_4 : decode cX8_kindOf 4 = .ok (.iconst 4, 1) := by decide +kernel
theorem dX8_kindOf_5 : decode cX8_kindOf 5 = .ok (.irem, 1) := by decide +kernel
theorem dX8_kindOf_6 : decode cX8_kindOf 6 = .ok (.ireturn, 1) := by decide +kernel
def f_X8_kindOf (N : Nat) (R : Nat → Nat → Nat) (σ : SI) (x0 : Int32) : Option (Int32 × SI) := some ((x0 / (8 : Int32)) - (x0 / (8 : Int32)) / (4 : Int32) * (4 : Int32), σ)
set_option maxHeartbeats 4000000 in
set_option maxRecDepth 100000 in
theorem ok_X8_kindOf {l : Launch} {g : GL} {R : Nat → Nat → Nat} {L : Nat → Nat → Int64} {N : Nat} {σ : SI} {x0 : Int32} {r : (Int32 × SI)} (h : f_X8_kindOf N R σ x0 = some r) (hSh : ShR R) : Ct l g 1 yX8_kindOf cX8_kindOf 1 (some .int) 194 194 0 0 [.int x0] (mkS σ R L) (PI R L r) := by
  refine Met.ofW (cc := cX8_kindOf) (maxL := 1) (ret := (some .int)) (by decide) rfl ?_
  intro p e s m args below meth c s₁ B hml hv
  obtain ⟨rfl, hE, hLo, hWd⟩ := hv
  have hr : meth.sig.returnType = (some .int) := B.returns
  have C : Cx l g p s m meth c cX8_kindOf 1 RX8 := ⟨B.exec, B.bytes, hml, findClass_of_methodNamed B.named, hE, hLo, B.notSynchronized⟩
  have S : S2 g s σ R L s.heap [] := ⟨hWd, va_S.rf⟩
  have hx := C.1
  have hb := C.2.1
  have hl := lv_entry ([.int x0]) (n := 1) (Nat.le_of_ble_eq_true rfl)
  rw [lg_entry_eq]
  generalize (lg_sl ([.int x0]) ++ List.replicate (1 - (lg_sl ([.int x0])).length) Slot.unset).toArray = ls at hl ⊢
  have hl : lv_has ls 1 [(0, .int x0)] := hl
  generalize hH : s.heap = H at S ⊢
  generalize hlc : ([] : List Loc) = locs at S ⊢
  rw [f_X8_kindOf] at h
  refine lv_iload_n hx hb dX8_kindOf_0 rfl (lv_at hl 0 rfl) ?_
  refine lv_bipush (v := (8 : Int32)) hx hb dX8_kindOf_1 (by decide) ?_
  refine lv_idiv hx hb dX8_kindOf_3 (by decide) ?_
  refine lv_iconst (v := (4 : Int32)) hx hb dX8_kindOf_4 (by decide) ?_
  refine lv_irem hx hb dX8_kindOf_5 (by decide) ?_
  exact x_iret C S hr h dX8_kindOf_6
theorem dX8_blastOf_0 : decode cX8_blastOf 0 = .ok (.iload_n 0, 1) := by decide +kernel
theorem dX8_blastOf_1 : decode cX8_blastOf 1 = .ok (.bipush 8, 2) := by decide +kernel
theorem dX8_blastOf_3 : decode cX8_blastOf 3 = .ok (.irem, 1) := by decide +kernel
theorem dX8_blastOf_4 : decode cX8_blastOf 4 = .ok (.ireturn, 1) := by decide +kernel
def f_X8_blastOf (N : Nat) (R : Nat → Nat → Nat) (σ : SI) (x0 : Int32) : Option (Int32 × SI) := some (x0 - x0 / (8 : Int32) * (8 : Int32), σ)
set_option maxHeartbeats 4000000 in
set_option maxRecDepth 100000 in
theorem ok_X8_blastOf {l : Launch} {g : GL} {R : Nat → Nat → Nat} {L : Nat → Nat → Int64} {N : Nat} {σ : SI} {x0 : Int32} {r : (Int32 × SI)} (h : f_X8_blastOf N R σ x0 = some r) (hSh : ShR R) : Ct l g 1 yX8_blastOf cX8_blastOf 1 (some .int) 194 194 0 0 [.int x0] (mkS σ R L) (PI R L r) := by
  refine Met.ofW (cc := cX8_blastOf) (maxL := 1) (ret := (some .int)) (by decide) rfl ?_
  intro p e s m args below meth c s₁ B hml hv
  obtain ⟨rfl, hE, hLo, hWd⟩ := hv
  have hr : meth.sig.returnType = (some .int) := B.returns
  have C : Cx l g p s m meth c cX8_blastOf 1 RX8 := ⟨B.exec, B.bytes, hml, findClass_of_methodNamed B.named, hE, hLo, B.notSynchronized⟩
  have S : S2 g s σ R L s.heap [] := ⟨hWd, va_S.rf⟩
  have hx := C.1
  have hb := C.2.1
  have hl := lv_entry ([.int x0]) (n := 1) (Nat.le_of_ble_eq_true rfl)
  rw [lg_entry_eq]
  generalize (lg_sl ([.int x0]) ++ List.replicate (1 - (lg_sl ([.int x0])).length) Slot.unset).toArray = ls at hl ⊢
  have hl : lv_has ls 1 [(0, .int x0)] := hl
  generalize hH : s.heap = H at S ⊢
  generalize hlc : ([] : List Loc) = locs at S ⊢
  rw [f_X8_blastOf] at h
  refine lv_iload_n hx hb dX8_blastOf_0 rfl (lv_at hl 0 rfl) ?_
  refine lv_bipush (v := (8 : Int32)) hx hb dX8_blastOf_1 (by decide) ?_
  refine lv_irem hx hb dX8_blastOf_3 (by decide) ?_
  exact x_iret C S hr h dX8_blastOf_4
theorem dX9_reset_0 : decode cX9_reset 0 = .ok (.aload_n 0, 1) := by decide +kernel
theorem dX9_reset_1 : decode cX9_reset 1 = .ok (.iconst 0, 1) := by decide +kernel
theorem dX9_reset_2 : decode cX9_reset 2 = .ok (.putfield 54, 3) := by decide +kernel
theorem dX9_reset_5 : decode cX9_reset 5 = .ok (.aload_n 0, 1) := by decide +kernel
theorem dX9_reset_6 : decode cX9_reset 6 = .ok (.iconst 0, 1) := by decide +kernel
theorem dX9_reset_7 : decode cX9_reset 7 = .ok (.putfield 58, 3) := by decide +kernel
theorem dX9_reset_10 : decode cX9_reset 10 = .ok (.aload_n 0, 1) := by decide +kernel
theorem dX9_reset_11 : decode cX9_reset 11 = .ok (.iconst 0, 1) := by decide +kernel
theorem dX9_reset_12 : decode cX9_reset 12 = .ok (.putfield 61, 3) := by decide +kernel
theorem dX9_reset_15 : decode cX9_reset 15 = .ok (.aload_n 0, 1) := by decide +kernel
theorem dX9_reset_16 : decode cX9_reset 16 = .ok (.sipush 480, 3) := by decide +kernel
theorem dX9_reset_19 : decode cX9_reset 19 = .ok (.putfield 64, 3) := by decide +kernel
theorem dX9_reset_22 : decode cX9_reset 22 = .ok (.aload_n 0, 1) := by decide +kernel
theorem dX9_reset_23 : decode cX9_reset 23 = .ok (.sipush 960, 3) := by decide +kernel
theorem dX9_reset_26 : decode cX9_reset 26 = .ok (.putfield 67, 3) := by decide +kernel
theorem dX9_reset_29 : decode cX9_reset 29 = .ok (.aload_n 0, 1) := by decide +kernel
theorem dX9_reset_30 : decode cX9_reset 30 = .ok (.bipush 60, 2) := by decide +kernel
theorem dX9_reset_32 : decode cX9_reset 32 = .ok (.putfield 70, 3) := by decide +kernel
theorem dX9_reset_35 : decode cX9_reset 35 = .ok (.aload_n 0, 1) := by decide +kernel
theorem dX9_reset_36 : decode cX9_reset 36 = .ok (.bipush 10, 2) := by decide +kernel
theorem dX9_reset_38 : decode cX9_reset 38 = .ok (.putfield 73, 3) := by decide +kernel
theorem dX9_reset_41 : decode cX9_reset 41 = .ok (.aload_n 0, 1) := by decide +kernel
theorem dX9_reset_42 : decode cX9_reset 42 = .ok (.iconst 5, 1) := by decide +kernel
theorem dX9_reset_43 : decode cX9_reset 43 = .ok (.putfield 76, 3) := by decide +kernel
theorem dX9_reset_46 : decode cX9_reset 46 = .ok (.aload_n 0, 1) := by decide +kernel
theorem dX9_reset_47 : decode cX9_reset 47 = .ok (.bipush 15, 2) := by decide +kernel
theorem dX9_reset_49 : decode cX9_reset 49 = .ok (.putfield 79, 3) := by decide +kernel
theorem dX9_reset_52 : decode cX9_reset 52 = .ok (.iconst 0, 1) := by decide +kernel
theorem dX9_reset_53 : decode cX9_reset 53 = .ok (.istore_n 1, 1) := by decide +kernel
theorem dX9_reset_54 : decode cX9_reset 54 = .ok (.iload_n 1, 1) := by decide +kernel
theorem dX9_reset_55 : decode cX9_reset 55 = .ok (.bipush 24, 2) := by decide +kernel
theorem dX9_reset_57 : decode cX9_reset 57 = .ok (.if_icmp .ge 23, 3) := by decide +kernel
theorem dX9_reset_60 : decode cX9_reset 60 = .ok (.aload_n 0, 1) := by decide +kernel
theorem dX9_reset_61 : decode cX9_reset 61 = .ok (.getfield 42, 3) := by decide +kernel
theorem dX9_reset_64 : decode cX9_reset 64 = .ok (.iload_n 1, 1) := by decide +kernel
theorem dX9_reset_65 : decode cX9_reset 65 = .ok (.iconst (-1), 1) := by decide +kernel
theorem dX9_reset_66 : decode cX9_reset 66 = .ok (.iastore, 1) := by decide +kernel
theorem dX9_reset_67 : decode cX9_reset 67 = .ok (.aload_n 0, 1) := by decide +kernel
theorem dX9_reset_68 : decode cX9_reset 68 = .ok (.getfield 45, 3) := by decide +kernel
theorem dX9_reset_71 : decode cX9_reset 71 = .ok (.iload_n 1, 1) := by decide +kernel
theorem dX9_reset_72 : decode cX9_reset 72 = .ok (.iconst 0, 1) := by decide +kernel
theorem dX9_reset_73 : decode cX9_reset 73 = .ok (.iastore, 1) := by decide +kernel
theorem dX9_reset_74 : decode cX9_reset 74 = .ok (.iinc 1 1, 3) := by decide +kernel
theorem dX9_reset_77 : decode cX9_reset 77 = .ok (.goto (-23), 3) := by decide +kernel
theorem dX9_reset_80 : decode cX9_reset 80 = .ok (.iconst 0, 1) := by decide +kernel
theorem dX9_reset_81 : decode cX9_reset 81 = .ok (.istore_n 1, 1) := by decide +kernel
theorem dX9_reset_82 : decode cX9_reset 82 = .ok (.iload_n 1, 1) := by decide +kernel
theorem dX9_reset_83 : decode cX9_reset 83 = .ok (.bipush 6, 2) := by decide +kernel
theorem dX9_reset_85 : decode cX9_reset 85 = .ok (.if_icmp .ge 16, 3) := by decide +kernel
theorem dX9_reset_88 : decode cX9_reset 88 = .ok (.aload_n 0, 1) := by decide +kernel
theorem dX9_reset_89 : decode cX9_reset 89 = .ok (.getfield 39, 3) := by decide +kernel
theorem dX9_reset_92 : decode cX9_reset 92 = .ok (.iload_n 1, 1) := by decide +kernel
theorem dX9_reset_93 : decode cX9_reset 93 = .ok (.iconst (-1), 1) := by decide +kernel
theorem dX9_reset_94 : decode cX9_reset 94 = .ok (.iastore, 1) := by decide +kernel
theorem dX9_reset_95 : decode cX9_reset 95 = .ok (.iinc 1 1, 3) := by decide +kernel
theorem dX9_reset_98 : decode cX9_reset 98 = .ok (.goto (-16), 3) := by decide +kernel
theorem dX9_reset_101 : decode cX9_reset 101 = .ok (.return_, 1) := by decide +kernel
def f_X9_reset_82 (N : Nat) (R : Nat → Nat → Nat) : Nat → SI → Nat → Int32 → Option (Unit × SI)
  | 0, _, _, _ => none
  | n + 1, σ, x0, x1 => if (6 : Int32) ≤ x1 then (some ((), σ)) else (ck x1 6 (sq (up σ (R x0 6) x1.toNatClampNeg (-1 : Int32)) (fun σ14 => f_X9_reset_82 N R n σ14 x0 (x1 + 1))))
def f_X9_reset_54 (N : Nat) (R : Nat → Nat → Nat) : Nat → SI → Nat → Int32 → Option (Unit × SI)
  | 0, _, _, _ => none
  | n + 1, σ, x0, x1 => if (24 : Int32) ≤ x1 then (f_X9_reset_82 N R N σ x0 (0 : Int32)) else (ck x1 24 (sq (up σ (R x0 7) x1.toNatClampNeg (-1 : Int32)) (fun σ17 => ck x1 24 (sq (up σ17 (R x0 8) x1.toNatClampNeg (0 : Int32)) (fun σ20 => f_X9_reset_54 N R n σ20 x0 (x1 + 1))))))
def f_X9_reset (N : Nat) (R : Nat → Nat → Nat) (σ : SI) (x0 : Nat) : Option (Unit × SI) := sq (up σ x0 9 (0 : Int32)) (fun σ1 => sq (up σ1 x0 10 (0 : Int32)) (fun σ2 => sq (up σ2 x0 11 (0 : Int32)) (fun σ3 => sq (up σ3 x0 12 (480 : Int32)) (fun σ4 => sq (up σ4 x0 13 (960 : Int32)) (fun σ5 => sq (up σ5 x0 14 (60 : Int32)) (fun σ6 => sq (up σ6 x0 15 (10 : Int32)) (fun σ7 => sq (up σ7 x0 16 (5 : Int32)) (fun σ8 => sq (up σ8 x0 17 (15 : Int32)) (fun σ9 => f_X9_reset_54 N R N σ9 x0 (0 : Int32))))))))))
set_option maxHeartbeats 4000000 in
set_option maxRecDepth 100000 in
theorem w_X9_reset_82 {l : Launch} {g : GL} {p : Program} {e : Jvm.Env} {s : State} {m : MethodId} {args : Array Value} {below : List Frame} {meth : Method} {c : Code} {R : Nat → Nat → Nat} {L : Nat → Nat → Int64} {r : (Unit × SI)} {N : Nat} (C : Cx l g p s m meth c cX9_reset 2 RX9) (hr : meth.sig.returnType = none) (hSh : ShR R) : ∀ (n : Nat) (σ : SI) (x0 : Nat) (x1 : Int32), f_X9_reset_82 N R n σ x0 x1 = some r → Ok 194 x0 9 → ∀ (H : Heap) (locs : List Loc) (ls : Array Slot), S2 g s σ R L H locs → lv_has ls 2 [(0, .ref (gb g + x0)), (1, .int x1)] → W p l e (rmd 1 0 0) s m args below meth c H locs 0 0 (MQ below (Qg g 194 (PV R L r)) args s 0 0 (gA g)) (F0 m 82 ls []) := by
  have hx := C.1
  have hb := C.2.1
  intro n
  induction n with
  | zero =>
    intro σ x0 x1 h
    cases (show (none : Option (Unit × SI)) = some r from h)
  | succ n ih =>
    intro σ x0 x1 h hx0 H locs ls S hl
    rw [f_X9_reset_82] at h
    refine lv_iload_n hx hb dX9_reset_82 rfl (lv_at hl 1 rfl) ?_
    refine lv_bipush (v := (6 : Int32)) hx hb dX9_reset_83 (by decide) ?_
    refine lv_icmp_ge (tgt := 101) hx hb dX9_reset_85 (by decide) (fun c11 => ?_) (fun c11 => ?_)
    · have h := it_p c11 h
      exact x_vret C S hr h dX9_reset_101
    · have h := it_n c11 h
      refine lv_aload_n hx hb dX9_reset_88 rfl (lv_at hl 0 rfl) ?_
      have hR12 : Ok 194 (R x0 6) 10006 := hSh x0 9 6 10006 hx0.1 rfl
      refine x_getR C S KX9 hx0 6 (by decide) rfl rfl fl_RX9_39 hR12 dX9_reset_89 ?_
      refine lv_iload_n hx hb dX9_reset_92 rfl (lv_at hl 1 rfl) ?_
      refine lv_iconst (v := (-1 : Int32)) hx hb dX9_reset_93 (by decide) ?_
      obtain ⟨hi13, h⟩ := ck_el h
      obtain ⟨σ14, hs14, h⟩ := sq_el h
      refine x_iast (len := 6) C S (by decide) hR12 hi13 dX9_reset_94 hs14 (fun H locs S => ?_)
      refine lv_iinc (v := x1 + 1) (lv' := [(1, .int (x1 + 1)), (0, .ref (gb g + x0))]) hx hb dX9_reset_95 hl (k := 1) rfl rfl (by decide) rfl (fun ls hl => ?_)
      refine lv_goto (tgt := 82) hx hb dX9_reset_98 (by decide) ?_
      exact ih σ14 x0 (x1 + 1) h hx0 H locs ls S (lv_sub hl [1, 0] rfl)
set_option maxHeartbeats 4000000 in
set_option maxRecDepth 100000 in
theorem w_X9_reset_54 {l : Launch} {g : GL} {p : Program} {e : Jvm.Env} {s : State} {m : MethodId} {args : Array Value} {below : List Frame} {meth : Method} {c : Code} {R : Nat → Nat → Nat} {L : Nat → Nat → Int64} {r : (Unit × SI)} {N : Nat} (C : Cx l g p s m meth c cX9_reset 2 RX9) (hr : meth.sig.returnType = none) (hSh : ShR R) : ∀ (n : Nat) (σ : SI) (x0 : Nat) (x1 : Int32), f_X9_reset_54 N R n σ x0 x1 = some r → Ok 194 x0 9 → ∀ (H : Heap) (locs : List Loc) (ls : Array Slot), S2 g s σ R L H locs → lv_has ls 2 [(0, .ref (gb g + x0)), (1, .int x1)] → W p l e (rmd 1 0 0) s m args below meth c H locs 0 0 (MQ below (Qg g 194 (PV R L r)) args s 0 0 (gA g)) (F0 m 54 ls []) := by
  have hx := C.1
  have hb := C.2.1
  intro n
  induction n with
  | zero =>
    intro σ x0 x1 h
    cases (show (none : Option (Unit × SI)) = some r from h)
  | succ n ih =>
    intro σ x0 x1 h hx0 H locs ls S hl
    rw [f_X9_reset_54] at h
    refine lv_iload_n hx hb dX9_reset_54 rfl (lv_at hl 1 rfl) ?_
    refine lv_bipush (v := (24 : Int32)) hx hb dX9_reset_55 (by decide) ?_
    refine lv_icmp_ge (tgt := 80) hx hb dX9_reset_57 (by decide) (fun c10 => ?_) (fun c10 => ?_)
    · have h := it_p c10 h
      refine lv_iconst (v := (0 : Int32)) hx hb dX9_reset_80 (by decide) ?_
      refine lv_istore_n (lv' := [(1, .int (0 : Int32)), (0, .ref (gb g + x0))]) hx hb dX9_reset_81 rfl hl (by decide) rfl (fun ls hl => ?_)
      exact w_X9_reset_82 C hr hSh N σ x0 (0 : Int32) h hx0 H locs ls S (lv_sub hl [1, 0] rfl)
    · have h := it_n c10 h
      refine lv_aload_n hx hb dX9_reset_60 rfl (lv_at hl 0 rfl) ?_
      have hR15 : Ok 194 (R x0 7) 10024 := hSh x0 9 7 10024 hx0.1 rfl
      refine x_getR C S KX9 hx0 7 (by decide) rfl rfl fl_RX9_42 hR15 dX9_reset_61 ?_
      refine lv_iload_n hx hb dX9_reset_64 rfl (lv_at hl 1 rfl) ?_
      refine lv_iconst (v := (-1 : Int32)) hx hb dX9_reset_65 (by decide) ?_
      obtain ⟨hi16, h⟩ := ck_el h
      obtain ⟨σ17, hs17, h⟩ := sq_el h
      refine x_iast (len := 24) C S (by decide) hR15 hi16 dX9_reset_66 hs17 (fun H locs S => ?_)
      refine lv_aload_n hx hb dX9_reset_67 rfl (lv_at hl 0 rfl) ?_
      have hR18 : Ok 194 (R x0 8) 10024 := hSh x0 9 8 10024 hx0.1 rfl
      refine x_getR C S KX9 hx0 8 (by decide) rfl rfl fl_RX9_45 hR18 dX9_reset_68 ?_
      refine lv_iload_n hx hb dX9_reset_71 rfl (lv_at hl 1 rfl) ?_
      refine lv_iconst (v := (0 : Int32)) hx hb dX9_reset_72 (by decide) ?_
      obtain ⟨hi19, h⟩ := ck_el h
      obtain ⟨σ20, hs20, h⟩ := sq_el h
      refine x_iast (len := 24) C S (by decide) hR18 hi19 dX9_reset_73 hs20 (fun H locs S => ?_)
      refine lv_iinc (v := x1 + 1) (lv' := [(1, .int (x1 + 1)), (0, .ref (gb g + x0))]) hx hb dX9_reset_74 hl (k := 1) rfl rfl (by decide) rfl (fun ls hl => ?_)
      refine lv_goto (tgt := 54) hx hb dX9_reset_77 (by decide) ?_
      exact ih σ20 x0 (x1 + 1) h hx0 H locs ls S (lv_sub hl [1, 0] rfl)
set_option maxHeartbeats 4000000 in
set_option maxRecDepth 100000 in
theorem ok_X9_reset {l : Launch} {g : GL} {R : Nat → Nat → Nat} {L : Nat → Nat → Int64} {N : Nat} {σ : SI} {x0 : Nat} {r : (Unit × SI)} (h : f_X9_reset N R σ x0 = some r) (hSh : ShR R) (hx0 : Ok 194 x0 9) : Ct l g 1 yX9_reset cX9_reset 2 none 194 194 0 0 [.ref (gb g + x0)] (mkS σ R L) (PV R L r) := by
  refine Met.ofW (cc := cX9_reset) (maxL := 2) (ret := none) (by decide) rfl ?_
  intro p e s m args below meth c s₁ B hml hv
  obtain ⟨rfl, hE, hLo, hWd⟩ := hv
  have hr : meth.sig.returnType = none := B.returns
  have C : Cx l g p s m meth c cX9_reset 2 RX9 := ⟨B.exec, B.bytes, hml, findClass_of_methodNamed B.named, hE, hLo, B.notSynchronized⟩
  have S : S2 g s σ R L s.heap [] := ⟨hWd, va_S.rf⟩
  have hx := C.1
  have hb := C.2.1
  have hl := lv_entry ([.ref (gb g + x0)]) (n := 2) (Nat.le_of_ble_eq_true rfl)
  rw [lg_entry_eq]
  generalize (lg_sl ([.ref (gb g + x0)]) ++ List.replicate (2 - (lg_sl ([.ref (gb g + x0)])).length) Slot.unset).toArray = ls at hl ⊢
  have hl : lv_has ls 2 [(0, .ref (gb g + x0))] := hl
  generalize hH : s.heap = H at S ⊢
  generalize hlc : ([] : List Loc) = locs at S ⊢
  rw [f_X9_reset] at h
  refine lv_aload_n hx hb dX9_reset_0 rfl (lv_at hl 0 rfl) ?_
  refine lv_iconst (v := (0 : Int32)) hx hb dX9_reset_1 (by decide) ?_
  obtain ⟨σ1, hs1, h⟩ := sq_el h
  refine x_putI C S KX9 hx0 9 (by decide) rfl rfl rfl ⟨rfl, rfl⟩ fl_RX9_54 dX9_reset_2 hs1 (fun H locs S => ?_)
  refine lv_aload_n hx hb dX9_reset_5 rfl (lv_at hl 0 rfl) ?_
  refine lv_iconst (v := (0 : Int32)) hx hb dX9_reset_6 (by decide) ?_
  obtain ⟨σ2, hs2, h⟩ := sq_el h
  refine x_putI C S KX9 hx0 10 (by decide) rfl rfl rfl ⟨rfl, rfl⟩ fl_RX9_58 dX9_reset_7 hs2 (fun H locs S => ?_)
  refine lv_aload_n hx hb dX9_reset_10 rfl (lv_at hl 0 rfl) ?_
  refine lv_iconst (v := (0 : Int32)) hx hb dX9_reset_11 (by decide) ?_
  obtain ⟨σ3, hs3, h⟩ := sq_el h
  refine x_putI C S KX9 hx0 11 (by decide) rfl rfl rfl ⟨rfl, rfl⟩ fl_RX9_61 dX9_reset_12 hs3 (fun H locs S => ?_)
  refine lv_aload_n hx hb dX9_reset_15 rfl (lv_at hl 0 rfl) ?_
  refine lv_sipush (v := (480 : Int32)) hx hb dX9_reset_16 (by decide) ?_
  obtain ⟨σ4, hs4, h⟩ := sq_el h
  refine x_putI C S KX9 hx0 12 (by decide) rfl rfl rfl ⟨rfl, rfl⟩ fl_RX9_64 dX9_reset_19 hs4 (fun H locs S => ?_)
  refine lv_aload_n hx hb dX9_reset_22 rfl (lv_at hl 0 rfl) ?_
  refine lv_sipush (v := (960 : Int32)) hx hb dX9_reset_23 (by decide) ?_
  obtain ⟨σ5, hs5, h⟩ := sq_el h
  refine x_putI C S KX9 hx0 13 (by decide) rfl rfl rfl ⟨rfl, rfl⟩ fl_RX9_67 dX9_reset_26 hs5 (fun H locs S => ?_)
  refine lv_aload_n hx hb dX9_reset_29 rfl (lv_at hl 0 rfl) ?_
  refine lv_bipush (v := (60 : Int32)) hx hb dX9_reset_30 (by decide) ?_
  obtain ⟨σ6, hs6, h⟩ := sq_el h
  refine x_putI C S KX9 hx0 14 (by decide) rfl rfl rfl ⟨rfl, rfl⟩ fl_RX9_70 dX9_reset_32 hs6 (fun H locs S => ?_)
  refine lv_aload_n hx hb dX9_reset_35 rfl (lv_at hl 0 rfl) ?_
  refine lv_bipush (v := (10 : Int32)) hx hb dX9_reset_36 (by decide) ?_
  obtain ⟨σ7, hs7, h⟩ := sq_el h
  refine x_putI C S KX9 hx0 15 (by decide) rfl rfl rfl ⟨rfl, rfl⟩ fl_RX9_73 dX9_reset_38 hs7 (fun H locs S => ?_)
  refine lv_aload_n hx hb dX9_reset_41 rfl (lv_at hl 0 rfl) ?_
  refine lv_iconst (v := (5 : Int32)) hx hb dX9_reset_42 (by decide) ?_
  obtain ⟨σ8, hs8, h⟩ := sq_el h
  refine x_putI C S KX9 hx0 16 (by decide) rfl rfl rfl ⟨rfl, rfl⟩ fl_RX9_76 dX9_reset_43 hs8 (fun H locs S => ?_)
  refine lv_aload_n hx hb dX9_reset_46 rfl (lv_at hl 0 rfl) ?_
  refine lv_bipush (v := (15 : Int32)) hx hb dX9_reset_47 (by decide) ?_
  obtain ⟨σ9, hs9, h⟩ := sq_el h
  refine x_putI C S KX9 hx0 17 (by decide) rfl rfl rfl ⟨rfl, rfl⟩ fl_RX9_79 dX9_reset_49 hs9 (fun H locs S => ?_)
  refine lv_iconst (v := (0 : Int32)) hx hb dX9_reset_52 (by decide) ?_
  refine lv_istore_n (lv' := [(1, .int (0 : Int32)), (0, .ref (gb g + x0))]) hx hb dX9_reset_53 rfl hl (by decide) rfl (fun ls hl => ?_)
  exact w_X9_reset_54 C hr hSh N σ9 x0 (0 : Int32) h hx0 H locs ls S (lv_sub hl [1, 0] rfl)
theorem dX9_measureNeighbours_0 : decode cX9_measureNeighbours 0 = .ok (.iconst 3, 1) := by decide +kernel
theorem dX9_measureNeighbours_1 : decode cX9_measureNeighbours 1 = .ok (.aload_n 1, 1) := by decide +kernel
theorem dX9_measureNeighbours_2 : decode cX9_measureNeighbours 2 = .ok (.getfield 99, 3) := by decide +kernel
theorem dX9_measureNeighbours_5 : decode cX9_measureNeighbours 5 = .ok (.imul, 1) := by decide +kernel
theorem dX9_measureNeighbours_6 : decode cX9_measureNeighbours 6 = .ok (.istore_n 2, 1) := by decide +kernel
theorem dX9_measureNeighbours_7 : decode cX9_measureNeighbours 7 = .ok (.aload_n 1, 1) := by decide +kernel
theorem dX9_measureNeighbours_8 : decode cX9_measureNeighbours 8 = .ok (.iconst 0, 1) := by decide +kernel
theorem dX9_measureNeighbours_9 : decode cX9_measureNeighbours 9 = .ok (.putfield 102, 3) := by decide +kernel
theorem dX9_measureNeighbours_12 : decode cX9_measureNeighbours 12 = .ok (.iconst 0, 1) := by decide +kernel
theorem dX9_measureNeighbours_13 : decode cX9_measureNeighbours 13 = .ok (.istore_n 3, 1) := by decide +kernel
theorem dX9_measureNeighbours_14 : decode cX9_measureNeighbours 14 = .ok (.iload_n 3, 1) := by decide +kernel
theorem dX9_measureNeighbours_15 : decode cX9_measureNeighbours 15 = .ok (.aload_n 0, 1) := by decide +kernel
theorem dX9_measureNeighbours_16 : decode cX9_measureNeighbours 16 = .ok (.getfield 54, 3) := by decide +kernel
theorem dX9_measureNeighbours_19 : decode cX9_measureNeighbours 19 = .ok (.if_icmp .ge 70, 3) := by decide +kernel
theorem dX9_measureNeighbours_22 : decode cX9_measureNeighbours 22 = .ok (.aload_n 0, 1) := by decide +kernel
theorem dX9_measureNeighbours_23 : decode cX9_measureNeighbours 23 = .ok (.getfield 11, 3) := by decide +kernel
theorem dX9_measureNeighbours_26 : decode cX9_measureNeighbours 26 = .ok (.iload_n 3, 1) := by decide +kernel
theorem dX9_measureNeighbours_27 : decode cX9_measureNeighbours 27 = .ok (.aaload, 1) := by decide +kernel
theorem dX9_measureNeighbours_28 : decode cX9_measureNeighbours 28 = .ok (.getfield 105, 3) := by decide +kernel
theorem dX9_measureNeighbours_31 : decode cX9_measureNeighbours 31 = .ok (.aload_n 1, 1) := by decide +kernel
theorem dX9_measureNeighbours_32 : decode cX9_measureNeighbours 32 = .ok (.getfield 108, 3) := by decide +kernel
theorem dX9_measureNeighbours_35 : decode cX9_measureNeighbours 35 = .ok (.isub, 1) := by decide +kernel
theorem dX9_measureNeighbours_36 : decode cX9_measureNeighbours 36 = .ok (.aload_n 0, 1) := by decide +kernel
theorem dX9_measureNeighbours_37 : decode cX9_measureNeighbours 37 = .ok (.getfield 11, 3) := by decide +kernel
theorem dX9_measureNeighbours_40 : decode cX9_measureNeighbours 40 = .ok (.iload_n 3, 1) := by decide +kernel
theorem dX9_measureNeighbours_41 : decode cX9_measureNeighbours 41 = .ok (.aaload, 1) := by decide +kernel
theorem dX9_measureNeighbours_42 : decode cX9_measureNeighbours 42 = .ok (.getfield 109, 3) := by decide +kernel
theorem dX9_measureNeighbours_45 : decode cX9_measureNeighbours 45 = .ok (.aload_n 1, 1) := by decide +kernel
theorem dX9_measureNeighbours_46 : decode cX9_measureNeighbours 46 = .ok (.getfield 112, 3) := by decide +kernel
theorem dX9_measureNeighbours_49 : decode cX9_measureNeighbours 49 = .ok (.isub, 1) := by decide +kernel
theorem dX9_measureNeighbours_50 : decode cX9_measureNeighbours 50 = .ok (.invokestatic 113, 3) := by decide +kernel
theorem dX9_measureNeighbours_53 : decode cX9_measureNeighbours 53 = .ok (.istore 4, 2) := by decide +kernel
theorem dX9_measureNeighbours_55 : decode cX9_measureNeighbours 55 = .ok (.aload_n 1, 1) := by decide +kernel
theorem dX9_measureNeighbours_56 : decode cX9_measureNeighbours 56 = .ok (.getfield 117, 3) := by decide +kernel
theorem dX9_measureNeighbours_59 : decode cX9_measureNeighbours 59 = .ok (.iload_n 3, 1) := by decide +kernel
theorem dX9_measureNeighbours_60 : decode cX9_measureNeighbours 60 = .ok (.iload 4, 2) := by decide +kernel
theorem dX9_measureNeighbours_62 : decode cX9_measureNeighbours 62 = .ok (.iastore, 1) := by decide +kernel
theorem dX9_measureNeighbours_63 : decode cX9_measureNeighbours 63 = .ok (.iload 4, 2) := by decide +kernel
theorem dX9_measureNeighbours_65 : decode cX9_measureNeighbours 65 = .ok (.iload_n 2, 1) := by decide +kernel
theorem dX9_measureNeighbours_66 : decode cX9_measureNeighbours 66 = .ok (.iload_n 2, 1) := by decide +kernel
theorem dX9_measureNeighbours_67 : decode cX9_measureNeighbours 67 = .ok (.imul, 1) := by decide +kernel
theorem dX9_measureNeighbours_68 : decode cX9_measureNeighbours 68 = .ok (.if_icmp .gt 15, 3) := by decide +kernel
theorem dX9_measureNeighbours_71 : decode cX9_measureNeighbours 71 = .ok (.aload_n 1, 1) := by decide +kernel
theorem dX9_measureNeighbours_72 : decode cX9_measureNeighbours 72 = .ok (.dup, 1) := by decide +kernel
theorem dX9_measureNeighbours_73 : decode cX9_measureNeighbours 73 = .ok (.getfield 102, 3) := by decide +kernel
theorem dX9_measureNeighbours_76 : decode cX9_measureNeighbours 76 = .ok (.iconst 1, 1) := by decide +kernel
theorem dX9_measureNeighbours_77 : decode cX9_measureNeighbours 77 = .ok (.iload_n 3, 1) := by decide +kernel
theorem dX9_measureNeighbours_78 : decode cX9_measureNeighbours 78 = .ok (.ishl, 1) := by decide +kernel
theorem dX9_measureNeighbours_79 : decode cX9_measureNeighbours 79 = .ok (.ior, 1) := by decide +kernel
theorem dX9_measureNeighbours_80 : decode cX9_measureNeighbours 80 = .ok (.putfield 102, 3) := by decide +kernel
theorem dX9_measureNeighbours_83 : decode cX9_measureNeighbours 83 = .ok (.iinc 3 1, 3) := by decide +kernel
theorem dX9_measureNeighbours_86 : decode cX9_measureNeighbours 86 = .ok (.goto (-72), 3) := by decide +kernel
theorem dX9_measureNeighbours_89 : decode cX9_measureNeighbours 89 = .ok (.return_, 1) := by decide +kernel
def f_X9_measureNeighbours_83 (N : Nat) (R : Nat → Nat → Nat) (k14 : SI → Nat → Nat → Int32 → Int32 → Option (Unit × SI)) (σ : SI) (x0 : Nat) (x1 : Nat) (x2 : Int32) (x3 : Int32) : Option (Unit × SI) := k14 σ x0 x1 x2 (x3 + 1)
def f_X9_measureNeighbours_14 (N : Nat) (R : Nat → Nat → Nat) : Nat → SI → Nat → Nat → Int32 → Int32 → Option (Unit × SI)
  | 0, _, _, _, _, _ => none
  | n + 1, σ, x0, x1, x2, x3 => if (σ x0 9) ≤ x3 then (some ((), σ)) else (ck x3 8 (ck x3 8 (bd (f_X11_squareSum N R σ ((σ (R (R x0 0) x3.toNatClampNeg) 2) - (σ x1 4)) ((σ (R (R x0 0) x3.toNatClampNeg) 3) - (σ x1 5))) (fun a9 σ9 => ck x3 8 (sq (up σ9 (R x1 2) x3.toNatClampNeg a9) (fun σ12 => if (x2 * x2) < a9 then (f_X9_measureNeighbours_83 N R (fun σ x0 x1 x2 x3 => f_X9_measureNeighbours_14 N R n σ x0 x1 x2 x3) σ12 x0 x1 x2 x3) else (sq (up σ12 x1 12 ((σ12 x1 12) ||| ((1 : Int32) <<< (x3 &&& 31)))) (fun σ14 => f_X9_measureNeighbours_83 N R (fun σ x0 x1 x2 x3 => f_X9_measureNeighbours_14 N R n σ x0 x1 x2 x3) σ14 x0 x1 x2 x3))))))))
def f_X9_measureNeighbours (N : Nat) (R : Nat → Nat → Nat) (σ : SI) (x0 : Nat) (x1 : Nat) : Option (Unit × SI) := sq (up σ x1 12 (0 : Int32)) (fun σ1 => f_X9_measureNeighbours_14 N R N σ1 x0 x1 ((3 : Int32) * (σ x1 6)) (0 : Int32))
set_option maxHeartbeats 4000000 in
set_option maxRecDepth 100000 in
theorem w_X9_measureNeighbours_83 {l : Launch} {g : GL} {p : Program} {e : Jvm.Env} {s : State} {m : MethodId} {args : Array Value} {below : List Frame} {meth : Method} {c : Code} {R : Nat → Nat → Nat} {L : Nat → Nat → Int64} {r : (Unit × SI)} {N : Nat} {k14 : SI → Nat → Nat → Int32 → Int32 → Option (Unit × SI)} (C : Cx l g p s m meth c cX9_measureNeighbours 5 RX9) (hr : meth.sig.returnType = none) (hSh : ShR R) (hk14 : ∀ (σ : SI) (x0 : Nat) (x1 : Nat) (x2 : Int32) (x3 : Int32), k14 σ x0 x1 x2 x3 = some r → Ok 194 x0 9 → Ok 194 x1 0 → ∀ (H : Heap) (locs : List Loc) (ls : Array Slot), S2 g s σ R L H locs → lv_has ls 5 [(0, .ref (gb g + x0)), (1, .ref (gb g + x1)), (2, .int x2), (3, .int x3)] → W p l e (rmd 2 0 0) s m args below meth c H locs 0 0 (MQ below (Qg g 194 (PV R L r)) args s 0 0 (gA g)) (F0 m 14 ls [])) : ∀ (σ : SI) (x0 : Nat) (x1 : Nat) (x2 : Int32) (x3 : Int32), f_X9_measureNeighbours_83 N R k14 σ x0 x1 x2 x3 = some r → Ok 194 x0 9 → Ok 194 x1 0 → ∀ (H : Heap) (locs : List Loc) (ls : Array Slot), S2 g s σ R L H locs → lv_has ls 5 [(0, .ref (gb g + x0)), (1, .ref (gb g + x1)), (2, .int x2), (3, .int x3)] → W p l e (rmd 2 0 0) s m args below meth c H locs 0 0 (MQ below (Qg g 194 (PV R L r)) args s 0 0 (gA g)) (F0 m 83 ls []) := by
  have hx := C.1
  have hb := C.2.1
  intro σ x0 x1 x2 x3 h hx0 hx1 H locs ls S hl
  rw [f_X9_measureNeighbours_83] at h
  refine lv_iinc (v := x3 + 1) (lv' := [(3, .int (x3 + 1)), (0, .ref (gb g + x0)), (1, .ref (gb g + x1)), (2, .int x2)]) hx hb dX9_measureNeighbours_83 hl (k := 3) rfl rfl (by decide) rfl (fun ls hl => ?_)
  refine lv_goto (tgt := 14) hx hb dX9_measureNeighbours_86 (by decide) ?_
  exact hk14 σ x0 x1 x2 (x3 + 1) h hx0 hx1 H locs ls S (lv_sub hl [1, 2, 3, 0] rfl)
set_option maxHeartbeats 4000000 in
set_option maxRecDepth 100000 in
theorem w_X9_measureNeighbours_14 {l : Launch} {g : GL} {p : Program} {e : Jvm.Env} {s : State} {m : MethodId} {args : Array Value} {below : List Frame} {meth : Method} {c : Code} {R : Nat → Nat → Nat} {L : Nat → Nat → Int64} {r : (Unit × SI)} {N : Nat} (C : Cx l g p s m meth c cX9_measureNeighbours 5 RX9) (hr : meth.sig.returnType = none) (hSh : ShR R) : ∀ (n : Nat) (σ : SI) (x0 : Nat) (x1 : Nat) (x2 : Int32) (x3 : Int32), f_X9_measureNeighbours_14 N R n σ x0 x1 x2 x3 = some r → Ok 194 x0 9 → Ok 194 x1 0 → ∀ (H : Heap) (locs : List Loc) (ls : Array Slot), S2 g s σ R L H locs → lv_has ls 5 [(0, .ref (gb g + x0)), (1, .ref (gb g + x1)), (2, .int x2), (3, .int x3)] → W p l e (rmd 2 0 0) s m args below meth c H locs 0 0 (MQ below (Qg g 194 (PV R L r)) args s 0 0 (gA g)) (F0 m 14 ls []) := by
  have hx := C.1
  have hb := C.2.1
  intro n
  induction n with
  | zero =>
    intro σ x0 x1 x2 x3 h
    cases (show (none : Option (Unit × SI)) = some r from h)
  | succ n ih =>
    intro σ x0 x1 x2 x3 h hx0 hx1 H locs ls S hl
    rw [f_X9_measureNeighbours_14] at h
    refine lv_iload_n hx hb dX9_measureNeighbours_14 rfl (lv_at hl 3 rfl) ?_
    refine lv_aload_n hx hb dX9_measureNeighbours_15 rfl (lv_at hl 0 rfl) ?_
    refine x_getI C S KX9 hx0 9 (by decide) rfl rfl fl_RX9_54 dX9_measureNeighbours_16 ?_
    refine lv_icmp_ge (tgt := 89) hx hb dX9_measureNeighbours_19 (by decide) (fun c2 => ?_) (fun c2 => ?_)
    · have h := it_p c2 h
      exact x_vret C S hr h dX9_measureNeighbours_89
    · have h := it_n c2 h
      refine lv_aload_n hx hb dX9_measureNeighbours_22 rfl (lv_at hl 0 rfl) ?_
      have hR3 : Ok 194 (R x0 0) 60008 := hSh x0 9 0 60008 hx0.1 rfl
      refine x_getR C S KX9 hx0 0 (by decide) rfl rfl fl_RX9_11 hR3 dX9_measureNeighbours_23 ?_
      refine lv_iload_n hx hb dX9_measureNeighbours_26 rfl (lv_at hl 3 rfl) ?_
      obtain ⟨hi4, h⟩ := ck_el h
      have hR5 : Ok 194 (R (R x0 0) x3.toNatClampNeg) 4 := hSh (R x0 0) 60008 x3.toNatClampNeg 4 hR3.1 (if_pos (vp_lt hi4))
      refine x_aald (len := 8) C S (by decide) 5 (by decide) rfl hR3 hi4 hR5 dX9_measureNeighbours_27 ?_
      refine x_getI C S KX4 hR5 2 (by decide) rfl rfl fl_RX9_105 dX9_measureNeighbours_28 ?_
      refine lv_aload_n hx hb dX9_measureNeighbours_31 rfl (lv_at hl 1 rfl) ?_
      refine x_getI C S KX0 hx1 4 (by decide) rfl rfl fl_RX9_108 dX9_measureNeighbours_32 ?_
      refine lv_isub hx hb dX9_measureNeighbours_35 ?_
      refine lv_aload_n hx hb dX9_measureNeighbours_36 rfl (lv_at hl 0 rfl) ?_
      have hR6 : Ok 194 (R x0 0) 60008 := hSh x0 9 0 60008 hx0.1 rfl
      refine x_getR C S KX9 hx0 0 (by decide) rfl rfl fl_RX9_11 hR6 dX9_measureNeighbours_37 ?_
      refine lv_iload_n hx hb dX9_measureNeighbours_40 rfl (lv_at hl 3 rfl) ?_
      obtain ⟨hi7, h⟩ := ck_el h
      have hR8 : Ok 194 (R (R x0 0) x3.toNatClampNeg) 4 := hSh (R x0 0) 60008 x3.toNatClampNeg 4 hR6.1 (if_pos (vp_lt hi7))
      refine x_aald (len := 8) C S (by decide) 5 (by decide) rfl hR6 hi7 hR8 dX9_measureNeighbours_41 ?_
      refine x_getI C S KX4 hR8 3 (by decide) rfl rfl fl_RX9_109 dX9_measureNeighbours_42 ?_
      refine lv_aload_n hx hb dX9_measureNeighbours_45 rfl (lv_at hl 1 rfl) ?_
      refine x_getI C S KX0 hx1 5 (by decide) rfl rfl fl_RX9_112 dX9_measureNeighbours_46 ?_
      refine lv_isub hx hb dX9_measureNeighbours_49 ?_
      obtain ⟨a9, σ9, hc9, h⟩ := bd_el h
      refine x_callNI C S (ok_X11_squareSum (L := L) hc9 hSh) ⟨cd_X11_squareSum, ni_RX11, mn_RX9_113, st_X11_squareSum⟩ ⟨by decide, by decide⟩ rfl ⟨by decide, by decide⟩ hl.1 rfl (Nat.le_of_ble_eq_true rfl) ⟨by decide, by decide⟩ dX9_measureNeighbours_50 (fun H locs S => ?_)
      refine lv_istore (lv' := [(4, .int a9), (0, .ref (gb g + x0)), (1, .ref (gb g + x1)), (2, .int x2), (3, .int x3)]) hx hb dX9_measureNeighbours_53 hl (by decide) rfl (fun ls hl => ?_)
      refine lv_aload_n hx hb dX9_measureNeighbours_55 rfl (lv_at hl 2 rfl) ?_
      have hR10 : Ok 194 (R x1 2) 10008 := hSh x1 0 2 10008 hx1.1 rfl
      refine x_getR C S KX0 hx1 2 (by decide) rfl rfl fl_RX9_117 hR10 dX9_measureNeighbours_56 ?_
      refine lv_iload_n hx hb dX9_measureNeighbours_59 rfl (lv_at hl 4 rfl) ?_
      refine lv_iload hx hb dX9_measureNeighbours_60 (lv_at hl 0 rfl) ?_
      obtain ⟨hi11, h⟩ := ck_el h
      obtain ⟨σ12, hs12, h⟩ := sq_el h
      refine x_iast (len := 8) C S (by decide) hR10 hi11 dX9_measureNeighbours_62 hs12 (fun H locs S => ?_)
      refine lv_iload hx hb dX9_measureNeighbours_63 (lv_at hl 0 rfl) ?_
      refine lv_iload_n hx hb dX9_measureNeighbours_65 rfl (lv_at hl 3 rfl) ?_
      refine lv_iload_n hx hb dX9_measureNeighbours_66 rfl (lv_at hl 3 rfl) ?_
      refine lv_imul hx hb dX9_measureNeighbours_67 ?_
      refine lv_icmp_gt (tgt := 83) hx hb dX9_measureNeighbours_68 (by decide) (fun c13 => ?_) (fun c13 => ?_)
      · have h := it_p c13 h
        exact w_X9_measureNeighbours_83 C hr hSh ih σ12 x0 x1 x2 x3 h hx0 hx1 H locs ls S (lv_sub hl [1, 2, 3, 4] rfl)
      · have h := it_n c13 h
        refine lv_aload_n hx hb dX9_measureNeighbours_71 rfl (lv_at hl 2 rfl) ?_
        refine lv_dup hx hb dX9_measureNeighbours_72 rfl ?_
        refine x_getI C S KX0 hx1 12 (by decide) rfl rfl fl_RX9_102 dX9_measureNeighbours_73 ?_
        refine lv_iconst (v := (1 : Int32)) hx hb dX9_measureNeighbours_76 (by decide) ?_
        refine lv_iload_n hx hb dX9_measureNeighbours_77 rfl (lv_at hl 4 rfl) ?_
        refine lv_ishl hx hb dX9_measureNeighbours_78 ?_
        refine lv_ior hx hb dX9_measureNeighbours_79 ?_
        obtain ⟨σ14, hs14, h⟩ := sq_el h
        refine x_putI C S KX0 hx1 12 (by decide) rfl rfl rfl ⟨rfl, rfl⟩ fl_RX9_102 dX9_measureNeighbours_80 hs14 (fun H locs S => ?_)
        exact w_X9_measureNeighbours_83 C hr hSh ih σ14 x0 x1 x2 x3 h hx0 hx1 H locs ls S (lv_sub hl [1, 2, 3, 4] rfl)
set_option maxHeartbeats 4000000 in
set_option maxRecDepth 100000 in
theorem ok_X9_measureNeighbours {l : Launch} {g : GL} {R : Nat → Nat → Nat} {L : Nat → Nat → Int64} {N : Nat} {σ : SI} {x0 : Nat} {x1 : Nat} {r : (Unit × SI)} (h : f_X9_measureNeighbours N R σ x0 x1 = some r) (hSh : ShR R) (hx0 : Ok 194 x0 9) (hx1 : Ok 194 x1 0) : Ct l g 2 yX9_measureNeighbours cX9_measureNeighbours 5 none 194 194 0 0 [.ref (gb g + x0), .ref (gb g + x1)] (mkS σ R L) (PV R L r) := by
  refine Met.ofW (cc := cX9_measureNeighbours) (maxL := 5) (ret := none) (by decide) rfl ?_
  intro p e s m args below meth c s₁ B hml hv
  obtain ⟨rfl, hE, hLo, hWd⟩ := hv
  have hr : meth.sig.returnType = none := B.returns
  have C : Cx l g p s m meth c cX9_measureNeighbours 5 RX9 := ⟨B.exec, B.bytes, hml, findClass_of_methodNamed B.named, hE, hLo, B.notSynchronized⟩
  have S : S2 g s σ R L s.heap [] := ⟨hWd, va_S.rf⟩
  have hx := C.1
  have hb := C.2.1
  have hl := lv_entry ([.ref (gb g + x0), .ref (gb g + x1)]) (n := 5) (Nat.le_of_ble_eq_true rfl)
  rw [lg_entry_eq]
  generalize (lg_sl ([.ref (gb g + x0), .ref (gb g + x1)]) ++ List.replicate (5 - (lg_sl ([.ref (gb g + x0), .ref (gb g + x1)])).length) Slot.unset).toArray = ls at hl ⊢
  have hl : lv_has ls 5 [(0, .ref (gb g + x0)), (1, .ref (gb g + x1))] := hl
  generalize hH : s.heap = H at S ⊢
  generalize hlc : ([] : List Loc) = locs at S ⊢
  rw [f_X9_measureNeighbours] at h
  refine lv_iconst (v := (3 : Int32)) hx hb dX9_measureNeighbours_0 (by decide) ?_
  refine lv_aload_n hx hb dX9_measureNeighbours_1 rfl (lv_at hl 1 rfl) ?_
  refine x_getI C S KX0 hx1 6 (by decide) rfl rfl fl_RX9_99 dX9_measureNeighbours_2 ?_
  refine lv_imul hx hb dX9_measureNeighbours_5 ?_
  refine lv_istore_n (lv' := [(2, .int ((3 : Int32) * (σ x1 6))), (0, .ref (gb g + x0)), (1, .ref (gb g + x1))]) hx hb dX9_measureNeighbours_6 rfl hl (by decide) rfl (fun ls hl => ?_)
  refine lv_aload_n hx hb dX9_measureNeighbours_7 rfl (lv_at hl 2 rfl) ?_
  refine lv_iconst (v := (0 : Int32)) hx hb dX9_measureNeighbours_8 (by decide) ?_
  obtain ⟨σ1, hs1, h⟩ := sq_el h
  refine x_putI C S KX0 hx1 12 (by decide) rfl rfl rfl ⟨rfl, rfl⟩ fl_RX9_102 dX9_measureNeighbours_9 hs1 (fun H locs S => ?_)
  refine lv_iconst (v := (0 : Int32)) hx hb dX9_measureNeighbours_12 (by decide) ?_
  refine lv_istore_n (lv' := [(3, .int (0 : Int32)), (2, .int ((3 : Int32) * (σ x1 6))), (0, .ref (gb g + x0)), (1, .ref (gb g + x1))]) hx hb dX9_measureNeighbours_13 rfl hl (by decide) rfl (fun ls hl => ?_)
  exact w_X9_measureNeighbours_14 C hr hSh N σ1 x0 x1 ((3 : Int32) * (σ x1 6)) (0 : Int32) h hx0 hx1 H locs ls S (lv_sub hl [2, 3, 1, 0] rfl)
theorem dX9_measureRoads_0 : decode cX9_measureRoads 0 = .ok (.aload_n 1, 1) := by decide +kernel
theorem dX9_measureRoads_1 : decode cX9_measureRoads 1 = .ok (.iconst 0, 1) := by decide +kernel
theorem dX9_measureRoads_2 : decode cX9_measureRoads 2 = .ok (.putfield 120, 3) := by decide +kernel
theorem dX9_measureRoads_5 : decode cX9_measureRoads 5 = .ok (.iconst 0, 1) := by decide +kernel
theorem dX9_measureRoads_6 : decode cX9_measureRoads 6 = .ok (.istore_n 2, 1) := by decide +kernel
theorem dX9_measureRoads_7 : decode cX9_measureRoads 7 = .ok (.iload_n 2, 1) := by decide +kernel
theorem dX9_measureRoads_8 : decode cX9_measureRoads 8 = .ok (.aload_n 0, 1) := by decide +kernel
theorem dX9_measureRoads_9 : decode cX9_measureRoads 9 = .ok (.getfield 58, 3) := by decide +kernel
theorem dX9_measureRoads_12 : decode cX9_measureRoads 12 = .ok (.if_icmp .ge 45, 3) := by decide +kernel
theorem dX9_measureRoads_15 : decode cX9_measureRoads 15 = .ok (.aload_n 0, 1) := by decide +kernel
theorem dX9_measureRoads_16 : decode cX9_measureRoads 16 = .ok (.getfield 19, 3) := by decide +kernel
theorem dX9_measureRoads_19 : decode cX9_measureRoads 19 = .ok (.iload_n 2, 1) := by decide +kernel
theorem dX9_measureRoads_20 : decode cX9_measureRoads 20 = .ok (.aaload, 1) := by decide +kernel
theorem dX9_measureRoads_21 : decode cX9_measureRoads 21 = .ok (.aload_n 1, 1) := by decide +kernel
theorem dX9_measureRoads_22 : decode cX9_measureRoads 22 = .ok (.getfield 108, 3) := by decide +kernel
theorem dX9_measureRoads_25 : decode cX9_measureRoads 25 = .ok (.aload_n 1, 1) := by decide +kernel
theorem dX9_measureRoads_26 : decode cX9_measureRoads 26 = .ok (.getfield 112, 3) := by decide +kernel
theorem dX9_measureRoads_29 : decode cX9_measureRoads 29 = .ok (.aload_n 1, 1) := by decide +kernel
theorem dX9_measureRoads_30 : decode cX9_measureRoads 30 = .ok (.getfield 99, 3) := by decide +kernel
theorem dX9_measureRoads_33 : decode cX9_measureRoads 33 = .ok (.invokevirtual 123, 3) := by decide +kernel
theorem dX9_measureRoads_36 : decode cX9_measureRoads 36 = .ok (.ifCond .eq 15, 3) := by decide +kernel
theorem dX9_measureRoads_39 : decode cX9_measureRoads 39 = .ok (.aload_n 1, 1) := by decide +kernel
theorem dX9_measureRoads_40 : decode cX9_measureRoads 40 = .ok (.dup, 1) := by decide +kernel
theorem dX9_measureRoads_41 : decode cX9_measureRoads 41 = .ok (.getfield 120, 3) := by decide +kernel
theorem dX9_measureRoads_44 : decode cX9_measureRoads 44 = .ok (.iconst 1, 1) := by decide +kernel
theorem dX9_measureRoads_45 : decode cX9_measureRoads 45 = .ok (.iload_n 2, 1) := by decide +kernel
theorem dX9_measureRoads_46 : decode cX9_measureRoads 46 = .ok (.ishl, 1) := by decide +kernel
theorem dX9_measureRoads_47 : decode cX9_measureRoads 47 = .ok (.ior, 1) := by decide +kernel
theorem dX9_measureRoads_48 : decode cX9_measureRoads 48 = .ok (.putfield 120, 3) := by decide +kernel
theorem dX9_measureRoads_51 : decode cX9_measureRoads 51 = .ok (.iinc 2 1, 3) := by decide +kernel
theorem dX9_measureRoads_54 : decode cX9_measureRoads 54 = .ok (.goto (-47), 3) := by decide +kernel
theorem dX9_measureRoads_57 : decode cX9_measureRoads 57 = .ok (.return_, 1) := by decide +kernel
def f_X9_measureRoads_51 (N : Nat) (R : Nat → Nat → Nat) (k7 : SI → Nat → Nat → Int32 → Option (Unit × SI)) (σ : SI) (x0 : Nat) (x1 : Nat) (x2 : Int32) : Option (Unit × SI) := k7 σ x0 x1 (x2 + 1)
def f_X9_measureRoads_7 (N : Nat) (R : Nat → Nat → Nat) : Nat → SI → Nat → Nat → Int32 → Option (Unit × SI)
  | 0, _, _, _, _ => none
  | n + 1, σ, x0, x1, x2 => if (σ x0 10) ≤ x2 then (some ((), σ)) else (ck x2 6 (bd (f_X7_comesWithin N R σ (R (R x0 1) x2.toNatClampNeg) (σ x1 4) (σ x1 5) (σ x1 6)) (fun a6 σ6 => if a6 = 0 then (f_X9_measureRoads_51 N R (fun σ x0 x1 x2 => f_X9_measureRoads_7 N R n σ x0 x1 x2) σ6 x0 x1 x2) else (sq (up σ6 x1 11 ((σ6 x1 11) ||| ((1 : Int32) <<< (x2 &&& 31)))) (fun σ8 => f_X9_measureRoads_51 N R (fun σ x0 x1 x2 => f_X9_measureRoads_7 N R n σ x0 x1 x2) σ8 x0 x1 x2)))))
def f_X9_measureRoads (N : Nat) (R : Nat → Nat → Nat) (σ : SI) (x0 : Nat) (x1 : Nat) : Option (Unit × SI) := sq (up σ x1 11 (0 : Int32)) (fun σ1 => f_X9_measureRoads_7 N R N σ1 x0 x1 (0 : Int32))
set_option maxHeartbeats 4000000 in
set_option maxRecDepth 100000 in
theorem w_X9_measureRoads_51 {l : Launch} {g : GL} {p : Program} {e : Jvm.Env} {s : State} {m : MethodId} {args : Array Value} {below : List Frame} {meth : Method} {c : Code} {R : Nat → Nat → Nat} {L : Nat → Nat → Int64} {r : (Unit × SI)} {N : Nat} {k7 : SI → Nat → Nat → Int32 → Option (Unit × SI)} (C : Cx l g p s m meth c cX9_measureRoads 3 RX9) (hr : meth.sig.returnType = none) (hSh : ShR R) (hk7 : ∀ (σ : SI) (x0 : Nat) (x1 : Nat) (x2 : Int32), k7 σ x0 x1 x2 = some r → Ok 194 x0 9 → Ok 194 x1 0 → ∀ (H : Heap) (locs : List Loc) (ls : Array Slot), S2 g s σ R L H locs → lv_has ls 3 [(0, .ref (gb g + x0)), (1, .ref (gb g + x1)), (2, .int x2)] → W p l e (rmd 3 0 0) s m args below meth c H locs 0 0 (MQ below (Qg g 194 (PV R L r)) args s 0 0 (gA g)) (F0 m 7 ls [])) : ∀ (σ : SI) (x0 : Nat) (x1 : Nat) (x2 : Int32), f_X9_measureRoads_51 N R k7 σ x0 x1 x2 = some r → Ok 194 x0 9 → Ok 194 x1 0 → ∀ (H : Heap) (locs : List Loc) (ls : Array Slot), S2 g s σ R L H locs → lv_has ls 3 [(0, .ref (gb g + x0)), (1, .ref (gb g + x1)), (2, .int x2)] → W p l e (rmd 3 0 0) s m args below meth c H locs 0 0 (MQ below (Qg g 194 (PV R L r)) args s 0 0 (gA g)) (F0 m 51 ls []) := by
  have hx := C.1
  have hb := C.2.1
  intro σ x0 x1 x2 h hx0 hx1 H locs ls S hl
  rw [f_X9_measureRoads_51] at h
  refine lv_iinc (v := x2 + 1) (lv' := [(2, .int (x2 + 1)), (0, .ref (gb g + x0)), (1, .ref (gb g + x1))]) hx hb dX9_measureRoads_51 hl (k := 2) rfl rfl (by decide) rfl (fun ls hl => ?_)
  refine lv_goto (tgt := 7) hx hb dX9_measureRoads_54 (by decide) ?_
  exact hk7 σ x0 x1 (x2 + 1) h hx0 hx1 H locs ls S (lv_sub hl [1, 2, 0] rfl)
set_option maxHeartbeats 4000000 in
set_option maxRecDepth 100000 in
theorem w_X9_measureRoads_7 {l : Launch} {g : GL} {p : Program} {e : Jvm.Env} {s : State} {m : MethodId} {args : Array Value} {below : List Frame} {meth : Method} {c : Code} {R : Nat → Nat → Nat} {L : Nat → Nat → Int64} {r : (Unit × SI)} {N : Nat} (C : Cx l g p s m meth c cX9_measureRoads 3 RX9) (hr : meth.sig.returnType = none) (hSh : ShR R) : ∀ (n : Nat) (σ : SI) (x0 : Nat) (x1 : Nat) (x2 : Int32), f_X9_measureRoads_7 N R n σ x0 x1 x2 = some r → Ok 194 x0 9 → Ok 194 x1 0 → ∀ (H : Heap) (locs : List Loc) (ls : Array Slot), S2 g s σ R L H locs → lv_has ls 3 [(0, .ref (gb g + x0)), (1, .ref (gb g + x1)), (2, .int x2)] → W p l e (rmd 3 0 0) s m args below meth c H locs 0 0 (MQ below (Qg g 194 (PV R L r)) args s 0 0 (gA g)) (F0 m 7 ls []) := by
  have hx := C.1
  have hb := C.2.1
  intro n
  induction n with
  | zero =>
    intro σ x0 x1 x2 h
    cases (show (none : Option (Unit × SI)) = some r from h)
  | succ n ih =>
    intro σ x0 x1 x2 h hx0 hx1 H locs ls S hl
    rw [f_X9_measureRoads_7] at h
    refine lv_iload_n hx hb dX9_measureRoads_7 rfl (lv_at hl 2 rfl) ?_
    refine lv_aload_n hx hb dX9_measureRoads_8 rfl (lv_at hl 0 rfl) ?_
    refine x_getI C S KX9 hx0 10 (by decide) rfl rfl fl_RX9_58 dX9_measureRoads_9 ?_
    refine lv_icmp_ge (tgt := 57) hx hb dX9_measureRoads_12 (by decide) (fun c2 => ?_) (fun c2 => ?_)
    · have h := it_p c2 h
      exact x_vret C S hr h dX9_measureRoads_57
    · have h := it_n c2 h
      refine lv_aload_n hx hb dX9_measureRoads_15 rfl (lv_at hl 0 rfl) ?_
      have hR3 : Ok 194 (R x0 1) 70006 := hSh x0 9 1 70006 hx0.1 rfl
      refine x_getR C S KX9 hx0 1 (by decide) rfl rfl fl_RX9_19 hR3 dX9_measureRoads_16 ?_
      refine lv_iload_n hx hb dX9_measureRoads_19 rfl (lv_at hl 2 rfl) ?_
      obtain ⟨hi4, h⟩ := ck_el h
      have hR5 : Ok 194 (R (R x0 1) x2.toNatClampNeg) 7 := hSh (R x0 1) 70006 x2.toNatClampNeg 7 hR3.1 (if_pos (vp_lt hi4))
      refine x_aald (len := 6) C S (by decide) 6 (by decide) rfl hR3 hi4 hR5 dX9_measureRoads_20 ?_
      refine lv_aload_n hx hb dX9_measureRoads_21 rfl (lv_at hl 1 rfl) ?_
      refine x_getI C S KX0 hx1 4 (by decide) rfl rfl fl_RX9_108 dX9_measureRoads_22 ?_
      refine lv_aload_n hx hb dX9_measureRoads_25 rfl (lv_at hl 1 rfl) ?_
      refine x_getI C S KX0 hx1 5 (by decide) rfl rfl fl_RX9_112 dX9_measureRoads_26 ?_
      refine lv_aload_n hx hb dX9_measureRoads_29 rfl (lv_at hl 1 rfl) ?_
      refine x_getI C S KX0 hx1 6 (by decide) rfl rfl fl_RX9_99 dX9_measureRoads_30 ?_
      obtain ⟨a6, σ6, hc6, h⟩ := bd_el h
      refine x_callVI C S KX7 hR5 (ok_X7_comesWithin (L := L) hc6 hSh hR5) ⟨cd_X7_comesWithin, ni_RX7, ml_RX9_123, in_X7_comesWithin, sl_X7_comesWithin⟩ ⟨by decide, by decide⟩ rfl ⟨by decide, by decide⟩ hl.1 rfl (Nat.le_of_ble_eq_true rfl) ⟨by decide, by decide⟩ dX9_measureRoads_33 (fun H locs S => ?_)
      refine lv_if_eq (tgt := 51) hx hb dX9_measureRoads_36 (by decide) (fun c7 => ?_) (fun c7 => ?_)
      · have h := it_p c7 h
        exact w_X9_measureRoads_51 C hr hSh ih σ6 x0 x1 x2 h hx0 hx1 H locs ls S (lv_sub hl [0, 1, 2] rfl)
      · have h := it_n c7 h
        refine lv_aload_n hx hb dX9_measureRoads_39 rfl (lv_at hl 1 rfl) ?_
        refine lv_dup hx hb dX9_measureRoads_40 rfl ?_
        refine x_getI C S KX0 hx1 11 (by decide) rfl rfl fl_RX9_120 dX9_measureRoads_41 ?_
        refine lv_iconst (v := (1 : Int32)) hx hb dX9_measureRoads_44 (by decide) ?_
        refine lv_iload_n hx hb dX9_measureRoads_45 rfl (lv_at hl 2 rfl) ?_
        refine lv_ishl hx hb dX9_measureRoads_46 ?_
        refine lv_ior hx hb dX9_measureRoads_47 ?_
        obtain ⟨σ8, hs8, h⟩ := sq_el h
        refine x_putI C S KX0 hx1 11 (by decide) rfl rfl rfl ⟨rfl, rfl⟩ fl_RX9_120 dX9_measureRoads_48 hs8 (fun H locs S => ?_)
        exact w_X9_measureRoads_51 C hr hSh ih σ8 x0 x1 x2 h hx0 hx1 H locs ls S (lv_sub hl [0, 1, 2] rfl)
set_option maxHeartbeats 4000000 in
set_option maxRecDepth 100000 in
theorem ok_X9_measureRoads {l : Launch} {g : GL} {R : Nat → Nat → Nat} {L : Nat → Nat → Int64} {N : Nat} {σ : SI} {x0 : Nat} {x1 : Nat} {r : (Unit × SI)} (h : f_X9_measureRoads N R σ x0 x1 = some r) (hSh : ShR R) (hx0 : Ok 194 x0 9) (hx1 : Ok 194 x1 0) : Ct l g 3 yX9_measureRoads cX9_measureRoads 3 none 194 194 0 0 [.ref (gb g + x0), .ref (gb g + x1)] (mkS σ R L) (PV R L r) := by
  refine Met.ofW (cc := cX9_measureRoads) (maxL := 3) (ret := none) (by decide) rfl ?_
  intro p e s m args below meth c s₁ B hml hv
  obtain ⟨rfl, hE, hLo, hWd⟩ := hv
  have hr : meth.sig.returnType = none := B.returns
  have C : Cx l g p s m meth c cX9_measureRoads 3 RX9 := ⟨B.exec, B.bytes, hml, findClass_of_methodNamed B.named, hE, hLo, B.notSynchronized⟩
  have S : S2 g s σ R L s.heap [] := ⟨hWd, va_S.rf⟩
  have hx := C.1
  have hb := C.2.1
  have hl := lv_entry ([.ref (gb g + x0), .ref (gb g + x1)]) (n := 3) (Nat.le_of_ble_eq_true rfl)
  rw [lg_entry_eq]
  generalize (lg_sl ([.ref (gb g + x0), .ref (gb g + x1)]) ++ List.replicate (3 - (lg_sl ([.ref (gb g + x0), .ref (gb g + x1)])).length) Slot.unset).toArray = ls at hl ⊢
  have hl : lv_has ls 3 [(0, .ref (gb g + x0)), (1, .ref (gb g + x1))] := hl
  generalize hH : s.heap = H at S ⊢
  generalize hlc : ([] : List Loc) = locs at S ⊢
  rw [f_X9_measureRoads] at h
  refine lv_aload_n hx hb dX9_measureRoads_0 rfl (lv_at hl 1 rfl) ?_
  refine lv_iconst (v := (0 : Int32)) hx hb dX9_measureRoads_1 (by decide) ?_
  obtain ⟨σ1, hs1, h⟩ := sq_el h
  refine x_putI C S KX0 hx1 11 (by decide) rfl rfl rfl ⟨rfl, rfl⟩ fl_RX9_120 dX9_measureRoads_2 hs1 (fun H locs S => ?_)
  refine lv_iconst (v := (0 : Int32)) hx hb dX9_measureRoads_5 (by decide) ?_
  refine lv_istore_n (lv' := [(2, .int (0 : Int32)), (0, .ref (gb g + x0)), (1, .ref (gb g + x1))]) hx hb dX9_measureRoads_6 rfl hl (by decide) rfl (fun ls hl => ?_)
  exact w_X9_measureRoads_7 C hr hSh N σ1 x0 x1 (0 : Int32) h hx0 hx1 H locs ls S (lv_sub hl [1, 2, 0] rfl)
