theorem dX12_comes_0 : decode cX12_comes 0 = .ok (.aload_n 0, 1) := by decide +kernel
theorem dX12_comes_1 : decode cX12_comes 1 = .ok (.getfield 31, 3) := by decide +kernel
theorem dX12_comes_4 : decode cX12_comes 4 = .ok (.iload_n 2, 1) := by decide +kernel
theorem dX12_comes_5 : decode cX12_comes 5 = .ok (.iaload, 1) := by decide +kernel
theorem dX12_comes_6 : decode cX12_comes 6 = .ok (.aload_n 0, 1) := by decide +kernel
theorem dX12_comes_7 : decode cX12_comes 7 = .ok (.getfield 25, 3) := by decide +kernel
theorem dX12_comes_10 : decode cX12_comes 10 = .ok (.iload_n 2, 1) := by decide +kernel
theorem dX12_comes_11 : decode cX12_comes 11 = .ok (.iaload, 1) := by decide +kernel
theorem dX12_comes_12 : decode cX12_comes 12 = .ok (.isub, 1) := by decide +kernel
theorem dX12_comes_13 : decode cX12_comes 13 = .ok (.i2l, 1) := by decide +kernel
theorem dX12_comes_14 : decode cX12_comes 14 = .ok (.lstore 4, 2) := by decide +kernel
theorem dX12_comes_16 : decode cX12_comes 16 = .ok (.aload_n 0, 1) := by decide +kernel
theorem dX12_comes_17 : decode cX12_comes 17 = .ok (.getfield 34, 3) := by decide +kernel
theorem dX12_comes_20 : decode cX12_comes 20 = .ok (.iload_n 2, 1) := by decide +kernel
theorem dX12_comes_21 : decode cX12_comes 21 = .ok (.iaload, 1) := by decide +kernel
theorem dX12_comes_22 : decode cX12_comes 22 = .ok (.aload_n 0, 1) := by decide +kernel
theorem dX12_comes_23 : decode cX12_comes 23 = .ok (.getfield 28, 3) := by decide +kernel
theorem dX12_comes_26 : decode cX12_comes 26 = .ok (.iload_n 2, 1) := by decide +kernel
theorem dX12_comes_27 : decode cX12_comes 27 = .ok (.iaload, 1) := by decide +kernel
theorem dX12_comes_28 : decode cX12_comes 28 = .ok (.isub, 1) := by decide +kernel
theorem dX12_comes_29 : decode cX12_comes 29 = .ok (.i2l, 1) := by decide +kernel
theorem dX12_comes_30 : decode cX12_comes 30 = .ok (.lstore 6, 2) := by decide +kernel
theorem dX12_comes_32 : decode cX12_comes 32 = .ok (.lload 4, 2) := by decide +kernel
theorem dX12_comes_34 : decode cX12_comes 34 = .ok (.lload 4, 2) := by decide +kernel
theorem dX12_comes_36 : decode cX12_comes 36 = .ok (.lmul, 1) := by decide +kernel
theorem dX12_comes_37 : decode cX12_comes 37 = .ok (.lload 6, 2) := by decide +kernel
theorem dX12_comes_39 : decode cX12_comes 39 = .ok (.lload 6, 2) := by decide +kernel
theorem dX12_comes_41 : decode cX12_comes 41 = .ok (.lmul, 1) := by decide +kernel
theorem dX12_comes_42 : decode cX12_comes 42 = .ok (.ladd, 1) := by decide +kernel
theorem dX12_comes_43 : decode cX12_comes 43 = .ok (.lstore 8, 2) := by decide +kernel
theorem dX12_comes_45 : decode cX12_comes 45 = .ok (.aload_n 0, 1) := by decide +kernel
theorem dX12_comes_46 : decode cX12_comes 46 = .ok (.getfield 37, 3) := by decide +kernel
theorem dX12_comes_49 : decode cX12_comes 49 = .ok (.iload_n 1, 1) := by decide +kernel
theorem dX12_comes_50 : decode cX12_comes 50 = .ok (.iaload, 1) := by decide +kernel
theorem dX12_comes_51 : decode cX12_comes 51 = .ok (.aload_n 0, 1) := by decide +kernel
theorem dX12_comes_52 : decode cX12_comes 52 = .ok (.getfield 25, 3) := by decide +kernel
theorem dX12_comes_55 : decode cX12_comes 55 = .ok (.iload_n 2, 1) := by decide +kernel
theorem dX12_comes_56 : decode cX12_comes 56 = .ok (.iaload, 1) := by decide +kernel
theorem dX12_comes_57 : decode cX12_comes 57 = .ok (.isub, 1) := by decide +kernel
theorem dX12_comes_58 : decode cX12_comes 58 = .ok (.i2l, 1) := by decide +kernel
theorem dX12_comes_59 : decode cX12_comes 59 = .ok (.lload 4, 2) := by decide +kernel
theorem dX12_comes_61 : decode cX12_comes 61 = .ok (.lmul, 1) := by decide +kernel
theorem dX12_comes_62 : decode cX12_comes 62 = .ok (.aload_n 0, 1) := by decide +kernel
theorem dX12_comes_63 : decode cX12_comes 63 = .ok (.getfield 40, 3) := by decide +kernel
theorem dX12_comes_66 : decode cX12_comes 66 = .ok (.iload_n 1, 1) := by decide +kernel
theorem dX12_comes_67 : decode cX12_comes 67 = .ok (.iaload, 1) := by decide +kernel
theorem dX12_comes_68 : decode cX12_comes 68 = .ok (.aload_n 0, 1) := by decide +kernel
theorem dX12_comes_69 : decode cX12_comes 69 = .ok (.getfield 28, 3) := by decide +kernel
theorem dX12_comes_72 : decode cX12_comes 72 = .ok (.iload_n 2, 1) := by decide +kernel
theorem dX12_comes_73 : decode cX12_comes 73 = .ok (.iaload, 1) := by decide +kernel
theorem dX12_comes_74 : decode cX12_comes 74 = .ok (.isub, 1) := by decide +kernel
theorem dX12_comes_75 : decode cX12_comes 75 = .ok (.i2l, 1) := by decide +kernel
theorem dX12_comes_76 : decode cX12_comes 76 = .ok (.lload 6, 2) := by decide +kernel
theorem dX12_comes_78 : decode cX12_comes 78 = .ok (.lmul, 1) := by decide +kernel
theorem dX12_comes_79 : decode cX12_comes 79 = .ok (.ladd, 1) := by decide +kernel
theorem dX12_comes_80 : decode cX12_comes 80 = .ok (.lstore 10, 2) := by decide +kernel
theorem dX12_comes_82 : decode cX12_comes 82 = .ok (.lload 8, 2) := by decide +kernel
theorem dX12_comes_84 : decode cX12_comes 84 = .ok (.lconst 0, 1) := by decide +kernel
theorem dX12_comes_85 : decode cX12_comes 85 = .ok (.lcmp, 1) := by decide +kernel
theorem dX12_comes_86 : decode cX12_comes 86 = .ok (.ifCond .ne 7, 3) := by decide +kernel
theorem dX12_comes_89 : decode cX12_comes 89 = .ok (.lconst 0, 1) := by decide +kernel
theorem dX12_comes_90 : decode cX12_comes 90 = .ok (.goto 14, 3) := by decide +kernel
theorem dX12_comes_93 : decode cX12_comes 93 = .ok (.lconst 0, 1) := by decide +kernel
theorem dX12_comes_94 : decode cX12_comes 94 = .ok (.lload 8, 2) := by decide +kernel
theorem dX12_comes_96 : decode cX12_comes 96 = .ok (.lload 10, 2) := by decide +kernel
theorem dX12_comes_98 : decode cX12_comes 98 = .ok (.invokestatic 149, 3) := by decide +kernel
theorem dX12_comes_101 : decode cX12_comes 101 = .ok (.invokestatic 155, 3) := by decide +kernel
theorem dX12_comes_104 : decode cX12_comes 104 = .ok (.lstore 10, 2) := by decide +kernel
theorem dX12_comes_106 : decode cX12_comes 106 = .ok (.lconst 1, 1) := by decide +kernel
theorem dX12_comes_107 : decode cX12_comes 107 = .ok (.lload 8, 2) := by decide +kernel
theorem dX12_comes_109 : decode cX12_comes 109 = .ok (.invokestatic 155, 3) := by decide +kernel
theorem dX12_comes_112 : decode cX12_comes 112 = .ok (.lstore 12, 2) := by decide +kernel
theorem dX12_comes_114 : decode cX12_comes 114 = .ok (.aload_n 0, 1) := by decide +kernel
theorem dX12_comes_115 : decode cX12_comes 115 = .ok (.getfield 25, 3) := by decide +kernel
theorem dX12_comes_118 : decode cX12_comes 118 = .ok (.iload_n 2, 1) := by decide +kernel
theorem dX12_comes_119 : decode cX12_comes 119 = .ok (.iaload, 1) := by decide +kernel
theorem dX12_comes_120 : decode cX12_comes 120 = .ok (.i2l, 1) := by decide +kernel
theorem dX12_comes_121 : decode cX12_comes 121 = .ok (.lload 12, 2) := by decide +kernel
theorem dX12_comes_123 : decode cX12_comes 123 = .ok (.lmul, 1) := by decide +kernel
theorem dX12_comes_124 : decode cX12_comes 124 = .ok (.lload 10, 2) := by decide +kernel
theorem dX12_comes_126 : decode cX12_comes 126 = .ok (.lload 4, 2) := by decide +kernel
theorem dX12_comes_128 : decode cX12_comes 128 = .ok (.lmul, 1) := by decide +kernel
theorem dX12_comes_129 : decode cX12_comes 129 = .ok (.ladd, 1) := by decide +kernel
theorem dX12_comes_130 : decode cX12_comes 130 = .ok (.aload_n 0, 1) := by decide +kernel
theorem dX12_comes_131 : decode cX12_comes 131 = .ok (.getfield 37, 3) := by decide +kernel
theorem dX12_comes_134 : decode cX12_comes 134 = .ok (.iload_n 1, 1) := by decide +kernel
theorem dX12_comes_135 : decode cX12_comes 135 = .ok (.iaload, 1) := by decide +kernel
theorem dX12_comes_136 : decode cX12_comes 136 = .ok (.i2l, 1) := by decide +kernel
theorem dX12_comes_137 : decode cX12_comes 137 = .ok (.lload 12, 2) := by decide +kernel
theorem dX12_comes_139 : decode cX12_comes 139 = .ok (.lmul, 1) := by decide +kernel
theorem dX12_comes_140 : decode cX12_comes 140 = .ok (.lsub, 1) := by decide +kernel
theorem dX12_comes_141 : decode cX12_comes 141 = .ok (.lstore 14, 2) := by decide +kernel
theorem dX12_comes_143 : decode cX12_comes 143 = .ok (.aload_n 0, 1) := by decide +kernel
theorem dX12_comes_144 : decode cX12_comes 144 = .ok (.getfield 28, 3) := by decide +kernel
theorem dX12_comes_147 : decode cX12_comes 147 = .ok (.iload_n 2, 1) := by decide +kernel
theorem dX12_comes_148 : decode cX12_comes 148 = .ok (.iaload, 1) := by decide +kernel
theorem dX12_comes_149 : decode cX12_comes 149 = .ok (.i2l, 1) := by decide +kernel
theorem dX12_comes_150 : decode cX12_comes 150 = .ok (.lload 12, 2) := by decide +kernel
theorem dX12_comes_152 : decode cX12_comes 152 = .ok (.lmul, 1) := by decide +kernel
theorem dX12_comes_153 : decode cX12_comes 153 = .ok (.lload 10, 2) := by decide +kernel
theorem dX12_comes_155 : decode cX12_comes 155 = .ok (.lload 6, 2) := by decide +kernel
theorem dX12_comes_157 : decode cX12_comes 157 = .ok (.lmul, 1) := by decide +kernel
theorem dX12_comes_158 : decode cX12_comes 158 = .ok (.ladd, 1) := by decide +kernel
theorem dX12_comes_159 : decode cX12_comes 159 = .ok (.aload_n 0, 1) := by decide +kernel
theorem dX12_comes_160 : decode cX12_comes 160 = .ok (.getfield 40, 3) := by decide +kernel
theorem dX12_comes_163 : decode cX12_comes 163 = .ok (.iload_n 1, 1) := by decide +kernel
theorem dX12_comes_164 : decode cX12_comes 164 = .ok (.iaload, 1) := by decide +kernel
theorem dX12_comes_165 : decode cX12_comes 165 = .ok (.i2l, 1) := by decide +kernel
theorem dX12_comes_166 : decode cX12_comes 166 = .ok (.lload 12, 2) := by decide +kernel
theorem dX12_comes_168 : decode cX12_comes 168 = .ok (.lmul, 1) := by decide +kernel
theorem dX12_comes_169 : decode cX12_comes 169 = .ok (.lsub, 1) := by decide +kernel
theorem dX12_comes_170 : decode cX12_comes 170 = .ok (.lstore 16, 2) := by decide +kernel
theorem dX12_comes_172 : decode cX12_comes 172 = .ok (.lload 14, 2) := by decide +kernel
theorem dX12_comes_174 : decode cX12_comes 174 = .ok (.lload 14, 2) := by decide +kernel
theorem dX12_comes_176 : decode cX12_comes 176 = .ok (.lmul, 1) := by decide +kernel
theorem dX12_comes_177 : decode cX12_comes 177 = .ok (.lload 16, 2) := by decide +kernel
theorem dX12_comes_179 : decode cX12_comes 179 = .ok (.lload 16, 2) := by decide +kernel
theorem dX12_comes_181 : decode cX12_comes 181 = .ok (.lmul, 1) := by decide +kernel
theorem dX12_comes_182 : decode cX12_comes 182 = .ok (.ladd, 1) := by decide +kernel
theorem dX12_comes_183 : decode cX12_comes 183 = .ok (.iload_n 3, 1) := by decide +kernel
theorem dX12_comes_184 : decode cX12_comes 184 = .ok (.iload_n 3, 1) := by decide +kernel
theorem dX12_comes_185 : decode cX12_comes 185 = .ok (.imul, 1) := by decide +kernel
theorem dX12_comes_186 : decode cX12_comes 186 = .ok (.i2l, 1) := by decide +kernel
theorem dX12_comes_187 : decode cX12_comes 187 = .ok (.lload 12, 2) := by decide +kernel
theorem dX12_comes_189 : decode cX12_comes 189 = .ok (.lmul, 1) := by decide +kernel
theorem dX12_comes_190 : decode cX12_comes 190 = .ok (.lload 12, 2) := by decide +kernel
theorem dX12_comes_192 : decode cX12_comes 192 = .ok (.lmul, 1) := by decide +kernel
theorem dX12_comes_193 : decode cX12_comes 193 = .ok (.lcmp, 1) := by decide +kernel
theorem dX12_comes_194 : decode cX12_comes 194 = .ok (.ifCond .gt 7, 3) := by decide +kernel
theorem dX12_comes_197 : decode cX12_comes 197 = .ok (.iconst 1, 1) := by decide +kernel
theorem dX12_comes_198 : decode cX12_comes 198 = .ok (.goto 4, 3) := by decide +kernel
theorem dX12_comes_201 : decode cX12_comes 201 = .ok (.iconst 0, 1) := by decide +kernel
theorem dX12_comes_202 : decode cX12_comes 202 = .ok (.ireturn, 1) := by decide +kernel
def f_X12_comes (N : Nat) (R : Nat → Nat → Nat) (σ : SI) (x0 : Nat) (x1 : Int32) (x2 : Int32) (x3 : Int32) : Option (Int32 × SI) := ck x2 2 (ck x2 2 (ck x2 2 (ck x2 2 (ck x1 3 (ck x2 2 (ck x1 3 (ck x2 2 (if (lg_cmp (((((σ (R x0 16) x2.toNatClampNeg) - (σ (R x0 14) x2.toNatClampNeg)).toInt64) * (((σ (R x0 16) x2.toNatClampNeg) - (σ (R x0 14) x2.toNatClampNeg)).toInt64)) + ((((σ (R x0 17) x2.toNatClampNeg) - (σ (R x0 15) x2.toNatClampNeg)).toInt64) * (((σ (R x0 17) x2.toNatClampNeg) - (σ (R x0 15) x2.toNatClampNeg)).toInt64))) (0 : Int64)) = 0 then (ck x2 2 (ck x1 3 (ck x2 2 (ck x1 3 (if 0 < (lg_cmp (((((((σ (R x0 14) x2.toNatClampNeg).toInt64) * (if (((((σ (R x0 16) x2.toNatClampNeg) - (σ (R x0 14) x2.toNatClampNeg)).toInt64) * (((σ (R x0 16) x2.toNatClampNeg) - (σ (R x0 14) x2.toNatClampNeg)).toInt64)) + ((((σ (R x0 17) x2.toNatClampNeg) - (σ (R x0 15) x2.toNatClampNeg)).toInt64) * (((σ (R x0 17) x2.toNatClampNeg) - (σ (R x0 15) x2.toNatClampNeg)).toInt64))) < (1 : Int64) then (1 : Int64) else (((((σ (R x0 16) x2.toNatClampNeg) - (σ (R x0 14) x2.toNatClampNeg)).toInt64) * (((σ (R x0 16) x2.toNatClampNeg) - (σ (R x0 14) x2.toNatClampNeg)).toInt64)) + ((((σ (R x0 17) x2.toNatClampNeg) - (σ (R x0 15) x2.toNatClampNeg)).toInt64) * (((σ (R x0 17) x2.toNatClampNeg) - (σ (R x0 15) x2.toNatClampNeg)).toInt64))))) + ((0 : Int64) * (((σ (R x0 16) x2.toNatClampNeg) - (σ (R x0 14) x2.toNatClampNeg)).toInt64))) - (((σ (R x0 18) x1.toNatClampNeg).toInt64) * (if (((((σ (R x0 16) x2.toNatClampNeg) - (σ (R x0 14) x2.toNatClampNeg)).toInt64) * (((σ (R x0 16) x2.toNatClampNeg) - (σ (R x0 14) x2.toNatClampNeg)).toInt64)) + ((((σ (R x0 17) x2.toNatClampNeg) - (σ (R x0 15) x2.toNatClampNeg)).toInt64) * (((σ (R x0 17) x2.toNatClampNeg) - (σ (R x0 15) x2.toNatClampNeg)).toInt64))) < (1 : Int64) then (1 : Int64) else (((((σ (R x0 16) x2.toNatClampNeg) - (σ (R x0 14) x2.toNatClampNeg)).toInt64) * (((σ (R x0 16) x2.toNatClampNeg) - (σ (R x0 14) x2.toNatClampNeg)).toInt64)) + ((((σ (R x0 17) x2.toNatClampNeg) - (σ (R x0 15) x2.toNatClampNeg)).toInt64) * (((σ (R x0 17) x2.toNatClampNeg) - (σ (R x0 15) x2.toNatClampNeg)).toInt64)))))) * (((((σ (R x0 14) x2.toNatClampNeg).toInt64) * (if (((((σ (R x0 16) x2.toNatClampNeg) - (σ (R x0 14) x2.toNatClampNeg)).toInt64) * (((σ (R x0 16) x2.toNatClampNeg) - (σ (R x0 14) x2.toNatClampNeg)).toInt64)) + ((((σ (R x0 17) x2.toNatClampNeg) - (σ (R x0 15) x2.toNatClampNeg)).toInt64) * (((σ (R x0 17) x2.toNatClampNeg) - (σ (R x0 15) x2.toNatClampNeg)).toInt64))) < (1 : Int64) then (1 : Int64) else (((((σ (R x0 16) x2.toNatClampNeg) - (σ (R x0 14) x2.toNatClampNeg)).toInt64) * (((σ (R x0 16) x2.toNatClampNeg) - (σ (R x0 14) x2.toNatClampNeg)).toInt64)) + ((((σ (R x0 17) x2.toNatClampNeg) - (σ (R x0 15) x2.toNatClampNeg)).toInt64) * (((σ (R x0 17) x2.toNatClampNeg) - (σ (R x0 15) x2.toNatClampNeg)).toInt64))))) + ((0 : Int64) * (((σ (R x0 16) x2.toNatClampNeg) - (σ (R x0 14) x2.toNatClampNeg)).toInt64))) - (((σ (R x0 18) x1.toNatClampNeg).toInt64) * (if (((((σ (R x0 16) x2.toNatClampNeg) - (σ (R x0 14) x2.toNatClampNeg)).toInt64) * (((σ (R x0 16) x2.toNatClampNeg) - (σ (R x0 14) x2.toNatClampNeg)).toInt64)) + ((((σ (R x0 17) x2.toNatClampNeg) - (σ (R x0 15) x2.toNatClampNeg)).toInt64) * (((σ (R x0 17) x2.toNatClampNeg) - (σ (R x0 15) x2.toNatClampNeg)).toInt64))) < (1 : Int64) then (1 : Int64) else (((((σ (R x0 16) x2.toNatClampNeg) - (σ (R x0 14) x2.toNatClampNeg)).toInt64) * (((σ (R x0 16) x2.toNatClampNeg) - (σ (R x0 14) x2.toNatClampNeg)).toInt64)) + ((((σ (R x0 17) x2.toNatClampNeg) - (σ (R x0 15) x2.toNatClampNeg)).toInt64) * (((σ (R x0 17) x2.toNatClampNeg) - (σ (R x0 15) x2.toNatClampNeg)).toInt64))))))) + ((((((σ (R x0 15) x2.toNatClampNeg).toInt64) * (if (((((σ (R x0 16) x2.toNatClampNeg) - (σ (R x0 14) x2.toNatClampNeg)).toInt64) * (((σ (R x0 16) x2.toNatClampNeg) - (σ (R x0 14) x2.toNatClampNeg)).toInt64)) + ((((σ (R x0 17) x2.toNatClampNeg) - (σ (R x0 15) x2.toNatClampNeg)).toInt64) * (((σ (R x0 17) x2.toNatClampNeg) - (σ (R x0 15) x2.toNatClampNeg)).toInt64))) < (1 : Int64) then (1 : Int64) else (((((σ (R x0 16) x2.toNatClampNeg) - (σ (R x0 14) x2.toNatClampNeg)).toInt64) * (((σ (R x0 16) x2.toNatClampNeg) - (σ (R x0 14) x2.toNatClampNeg)).toInt64)) + ((((σ (R x0 17) x2.toNatClampNeg) - (σ (R x0 15) x2.toNatClampNeg)).toInt64) * (((σ (R x0 17) x2.toNatClampNeg) - (σ (R x0 15) x2.toNatClampNeg)).toInt64))))) + ((0 : Int64) * (((σ (R x0 17) x2.toNatClampNeg) - (σ (R x0 15) x2.toNatClampNeg)).toInt64))) - (((σ (R x0 19) x1.toNatClampNeg).toInt64) * (if (((((σ (R x0 16) x2.toNatClampNeg) - (σ (R x0 14) x2.toNatClampNeg)).toInt64) * (((σ (R x0 16) x2.toNatClampNeg) - (σ (R x0 14) x2.toNatClampNeg)).toInt64)) + ((((σ (R x0 17) x2.toNatClampNeg) - (σ (R x0 15) x2.toNatClampNeg)).toInt64) * (((σ (R x0 17) x2.toNatClampNeg) - (σ (R x0 15) x2.toNatClampNeg)).toInt64))) < (1 : Int64) then (1 : Int64) else (((((σ (R x0 16) x2.toNatClampNeg) - (σ (R x0 14) x2.toNatClampNeg)).toInt64) * (((σ (R x0 16) x2.toNatClampNeg) - (σ (R x0 14) x2.toNatClampNeg)).toInt64)) + ((((σ (R x0 17) x2.toNatClampNeg) - (σ (R x0 15) x2.toNatClampNeg)).toInt64) * (((σ (R x0 17) x2.toNatClampNeg) - (σ (R x0 15) x2.toNatClampNeg)).toInt64)))))) * (((((σ (R x0 15) x2.toNatClampNeg).toInt64) * (if (((((σ (R x0 16) x2.toNatClampNeg) - (σ (R x0 14) x2.toNatClampNeg)).toInt64) * (((σ (R x0 16) x2.toNatClampNeg) - (σ (R x0 14) x2.toNatClampNeg)).toInt64)) + ((((σ (R x0 17) x2.toNatClampNeg) - (σ (R x0 15) x2.toNatClampNeg)).toInt64) * (((σ (R x0 17) x2.toNatClampNeg) - (σ (R x0 15) x2.toNatClampNeg)).toInt64))) < (1 : Int64) then (1 : Int64) else (((((σ (R x0 16) x2.toNatClampNeg) - (σ (R x0 14) x2.toNatClampNeg)).toInt64) * (((σ (R x0 16) x2.toNatClampNeg) - (σ (R x0 14) x2.toNatClampNeg)).toInt64)) + ((((σ (R x0 17) x2.toNatClampNeg) - (σ (R x0 15) x2.toNatClampNeg)).toInt64) * (((σ (R x0 17) x2.toNatClampNeg) - (σ (R x0 15) x2.toNatClampNeg)).toInt64))))) + ((0 : Int64) * (((σ (R x0 17) x2.toNatClampNeg) - (σ (R x0 15) x2.toNatClampNeg)).toInt64))) - (((σ (R x0 19) x1.toNatClampNeg).toInt64) * (if (((((σ (R x0 16) x2.toNatClampNeg) - (σ (R x0 14) x2.toNatClampNeg)).toInt64) * (((σ (R x0 16) x2.toNatClampNeg) - (σ (R x0 14) x2.toNatClampNeg)).toInt64)) + ((((σ (R x0 17) x2.toNatClampNeg) - (σ (R x0 15) x2.toNatClampNeg)).toInt64) * (((σ (R x0 17) x2.toNatClampNeg) - (σ (R x0 15) x2.toNatClampNeg)).toInt64))) < (1 : Int64) then (1 : Int64) else (((((σ (R x0 16) x2.toNatClampNeg) - (σ (R x0 14) x2.toNatClampNeg)).toInt64) * (((σ (R x0 16) x2.toNatClampNeg) - (σ (R x0 14) x2.toNatClampNeg)).toInt64)) + ((((σ (R x0 17) x2.toNatClampNeg) - (σ (R x0 15) x2.toNatClampNeg)).toInt64) * (((σ (R x0 17) x2.toNatClampNeg) - (σ (R x0 15) x2.toNatClampNeg)).toInt64)))))))) ((((x3 * x3).toInt64) * (if (((((σ (R x0 16) x2.toNatClampNeg) - (σ (R x0 14) x2.toNatClampNeg)).toInt64) * (((σ (R x0 16) x2.toNatClampNeg) - (σ (R x0 14) x2.toNatClampNeg)).toInt64)) + ((((σ (R x0 17) x2.toNatClampNeg) - (σ (R x0 15) x2.toNatClampNeg)).toInt64) * (((σ (R x0 17) x2.toNatClampNeg) - (σ (R x0 15) x2.toNatClampNeg)).toInt64))) < (1 : Int64) then (1 : Int64) else (((((σ (R x0 16) x2.toNatClampNeg) - (σ (R x0 14) x2.toNatClampNeg)).toInt64) * (((σ (R x0 16) x2.toNatClampNeg) - (σ (R x0 14) x2.toNatClampNeg)).toInt64)) + ((((σ (R x0 17) x2.toNatClampNeg) - (σ (R x0 15) x2.toNatClampNeg)).toInt64) * (((σ (R x0 17) x2.toNatClampNeg) - (σ (R x0 15) x2.toNatClampNeg)).toInt64))))) * (if (((((σ (R x0 16) x2.toNatClampNeg) - (σ (R x0 14) x2.toNatClampNeg)).toInt64) * (((σ (R x0 16) x2.toNatClampNeg) - (σ (R x0 14) x2.toNatClampNeg)).toInt64)) + ((((σ (R x0 17) x2.toNatClampNeg) - (σ (R x0 15) x2.toNatClampNeg)).toInt64) * (((σ (R x0 17) x2.toNatClampNeg) - (σ (R x0 15) x2.toNatClampNeg)).toInt64))) < (1 : Int64) then (1 : Int64) else (((((σ (R x0 16) x2.toNatClampNeg) - (σ (R x0 14) x2.toNatClampNeg)).toInt64) * (((σ (R x0 16) x2.toNatClampNeg) - (σ (R x0 14) x2.toNatClampNeg)).toInt64)) + ((((σ (R x0 17) x2.toNatClampNeg) - (σ (R x0 15) x2.toNatClampNeg)).toInt64) * (((σ (R x0 17) x2.toNatClampNeg) - (σ (R x0 15) x2.toNatClampNeg)).toInt64)))))) then (some ((0 : Int32), σ)) else (some ((1 : Int32), σ))))))) else (ck x2 2 (ck x1 3 (ck x2 2 (ck x1 3 (if 0 < (lg_cmp (((((((σ (R x0 14) x2.toNatClampNeg).toInt64) * (if (((((σ (R x0 16) x2.toNatClampNeg) - (σ (R x0 14) x2.toNatClampNeg)).toInt64) * (((σ (R x0 16) x2.toNatClampNeg) - (σ (R x0 14) x2.toNatClampNeg)).toInt64)) + ((((σ (R x0 17) x2.toNatClampNeg) - (σ (R x0 15) x2.toNatClampNeg)).toInt64) * (((σ (R x0 17) x2.toNatClampNeg) - (σ (R x0 15) x2.toNatClampNeg)).toInt64))) < (1 : Int64) then (1 : Int64) else (((((σ (R x0 16) x2.toNatClampNeg) - (σ (R x0 14) x2.toNatClampNeg)).toInt64) * (((σ (R x0 16) x2.toNatClampNeg) - (σ (R x0 14) x2.toNatClampNeg)).toInt64)) + ((((σ (R x0 17) x2.toNatClampNeg) - (σ (R x0 15) x2.toNatClampNeg)).toInt64) * (((σ (R x0 17) x2.toNatClampNeg) - (σ (R x0 15) x2.toNatClampNeg)).toInt64))))) + ((if (if (((((σ (R x0 18) x1.toNatClampNeg) - (σ (R x0 14) x2.toNatClampNeg)).toInt64) * (((σ (R x0 16) x2.toNatClampNeg) - (σ (R x0 14) x2.toNatClampNeg)).toInt64)) + ((((σ (R x0 19) x1.toNatClampNeg) - (σ (R x0 15) x2.toNatClampNeg)).toInt64) * (((σ (R x0 17) x2.toNatClampNeg) - (σ (R x0 15) x2.toNatClampNeg)).toInt64))) < (((((σ (R x0 16) x2.toNatClampNeg) - (σ (R x0 14) x2.toNatClampNeg)).toInt64) * (((σ (R x0 16) x2.toNatClampNeg) - (σ (R x0 14) x2.toNatClampNeg)).toInt64)) + ((((σ (R x0 17) x2.toNatClampNeg) - (σ (R x0 15) x2.toNatClampNeg)).toInt64) * (((σ (R x0 17) x2.toNatClampNeg) - (σ (R x0 15) x2.toNatClampNeg)).toInt64))) then (((((σ (R x0 18) x1.toNatClampNeg) - (σ (R x0 14) x2.toNatClampNeg)).toInt64) * (((σ (R x0 16) x2.toNatClampNeg) - (σ (R x0 14) x2.toNatClampNeg)).toInt64)) + ((((σ (R x0 19) x1.toNatClampNeg) - (σ (R x0 15) x2.toNatClampNeg)).toInt64) * (((σ (R x0 17) x2.toNatClampNeg) - (σ (R x0 15) x2.toNatClampNeg)).toInt64))) else (((((σ (R x0 16) x2.toNatClampNeg) - (σ (R x0 14) x2.toNatClampNeg)).toInt64) * (((σ (R x0 16) x2.toNatClampNeg) - (σ (R x0 14) x2.toNatClampNeg)).toInt64)) + ((((σ (R x0 17) x2.toNatClampNeg) - (σ (R x0 15) x2.toNatClampNeg)).toInt64) * (((σ (R x0 17) x2.toNatClampNeg) - (σ (R x0 15) x2.toNatClampNeg)).toInt64)))) < (0 : Int64) then (0 : Int64) else (if (((((σ (R x0 18) x1.toNatClampNeg) - (σ (R x0 14) x2.toNatClampNeg)).toInt64) * (((σ (R x0 16) x2.toNatClampNeg) - (σ (R x0 14) x2.toNatClampNeg)).toInt64)) + ((((σ (R x0 19) x1.toNatClampNeg) - (σ (R x0 15) x2.toNatClampNeg)).toInt64) * (((σ (R x0 17) x2.toNatClampNeg) - (σ (R x0 15) x2.toNatClampNeg)).toInt64))) < (((((σ (R x0 16) x2.toNatClampNeg) - (σ (R x0 14) x2.toNatClampNeg)).toInt64) * (((σ (R x0 16) x2.toNatClampNeg) - (σ (R x0 14) x2.toNatClampNeg)).toInt64)) + ((((σ (R x0 17) x2.toNatClampNeg) - (σ (R x0 15) x2.toNatClampNeg)).toInt64) * (((σ (R x0 17) x2.toNatClampNeg) - (σ (R x0 15) x2.toNatClampNeg)).toInt64))) then (((((σ (R x0 18) x1.toNatClampNeg) - (σ (R x0 14) x2.toNatClampNeg)).toInt64) * (((σ (R x0 16) x2.toNatClampNeg) - (σ (R x0 14) x2.toNatClampNeg)).toInt64)) + ((((σ (R x0 19) x1.toNatClampNeg) - (σ (R x0 15) x2.toNatClampNeg)).toInt64) * (((σ (R x0 17) x2.toNatClampNeg) - (σ (R x0 15) x2.toNatClampNeg)).toInt64))) else (((((σ (R x0 16) x2.toNatClampNeg) - (σ (R x0 14) x2.toNatClampNeg)).toInt64) * (((σ (R x0 16) x2.toNatClampNeg) - (σ (R x0 14) x2.toNatClampNeg)).toInt64)) + ((((σ (R x0 17) x2.toNatClampNeg) - (σ (R x0 15) x2.toNatClampNeg)).toInt64) * (((σ (R x0 17) x2.toNatClampNeg) - (σ (R x0 15) x2.toNatClampNeg)).toInt64))))) * (((σ (R x0 16) x2.toNatClampNeg) - (σ (R x0 14) x2.toNatClampNeg)).toInt64))) - (((σ (R x0 18) x1.toNatClampNeg).toInt64) * (if (((((σ (R x0 16) x2.toNatClampNeg) - (σ (R x0 14) x2.toNatClampNeg)).toInt64) * (((σ (R x0 16) x2.toNatClampNeg) - (σ (R x0 14) x2.toNatClampNeg)).toInt64)) + ((((σ (R x0 17) x2.toNatClampNeg) - (σ (R x0 15) x2.toNatClampNeg)).toInt64) * (((σ (R x0 17) x2.toNatClampNeg) - (σ (R x0 15) x2.toNatClampNeg)).toInt64))) < (1 : Int64) then (1 : Int64) else (((((σ (R x0 16) x2.toNatClampNeg) - (σ (R x0 14) x2.toNatClampNeg)).toInt64) * (((σ (R x0 16) x2.toNatClampNeg) - (σ (R x0 14) x2.toNatClampNeg)).toInt64)) + ((((σ (R x0 17) x2.toNatClampNeg) - (σ (R x0 15) x2.toNatClampNeg)).toInt64) * (((σ (R x0 17) x2.toNatClampNeg) - (σ (R x0 15) x2.toNatClampNeg)).toInt64)))))) * (((((σ (R x0 14) x2.toNatClampNeg).toInt64) * (if (((((σ (R x0 16) x2.toNatClampNeg) - (σ (R x0 14) x2.toNatClampNeg)).toInt64) * (((σ (R x0 16) x2.toNatClampNeg) - (σ (R x0 14) x2.toNatClampNeg)).toInt64)) + ((((σ (R x0 17) x2.toNatClampNeg) - (σ (R x0 15) x2.toNatClampNeg)).toInt64) * (((σ (R x0 17) x2.toNatClampNeg) - (σ (R x0 15) x2.toNatClampNeg)).toInt64))) < (1 : Int64) then (1 : Int64) else (((((σ (R x0 16) x2.toNatClampNeg) - (σ (R x0 14) x2.toNatClampNeg)).toInt64) * (((σ (R x0 16) x2.toNatClampNeg) - (σ (R x0 14) x2.toNatClampNeg)).toInt64)) + ((((σ (R x0 17) x2.toNatClampNeg) - (σ (R x0 15) x2.toNatClampNeg)).toInt64) * (((σ (R x0 17) x2.toNatClampNeg) - (σ (R x0 15) x2.toNatClampNeg)).toInt64))))) + ((if (if (((((σ (R x0 18) x1.toNatClampNeg) - (σ (R x0 14) x2.toNatClampNeg)).toInt64) * (((σ (R x0 16) x2.toNatClampNeg) - (σ (R x0 14) x2.toNatClampNeg)).toInt64)) + ((((σ (R x0 19) x1.toNatClampNeg) - (σ (R x0 15) x2.toNatClampNeg)).toInt64) * (((σ (R x0 17) x2.toNatClampNeg) - (σ (R x0 15) x2.toNatClampNeg)).toInt64))) < (((((σ (R x0 16) x2.toNatClampNeg) - (σ (R x0 14) x2.toNatClampNeg)).toInt64) * (((σ (R x0 16) x2.toNatClampNeg) - (σ (R x0 14) x2.toNatClampNeg)).toInt64)) + ((((σ (R x0 17) x2.toNatClampNeg) - (σ (R x0 15) x2.toNatClampNeg)).toInt64) * (((σ (R x0 17) x2.toNatClampNeg) - (σ (R x0 15) x2.toNatClampNeg)).toInt64))) then (((((σ (R x0 18) x1.toNatClampNeg) - (σ (R x0 14) x2.toNatClampNeg)).toInt64) * (((σ (R x0 16) x2.toNatClampNeg) - (σ (R x0 14) x2.toNatClampNeg)).toInt64)) + ((((σ (R x0 19) x1.toNatClampNeg) - (σ (R x0 15) x2.toNatClampNeg)).toInt64) * (((σ (R x0 17) x2.toNatClampNeg) - (σ (R x0 15) x2.toNatClampNeg)).toInt64))) else (((((σ (R x0 16) x2.toNatClampNeg) - (σ (R x0 14) x2.toNatClampNeg)).toInt64) * (((σ (R x0 16) x2.toNatClampNeg) - (σ (R x0 14) x2.toNatClampNeg)).toInt64)) + ((((σ (R x0 17) x2.toNatClampNeg) - (σ (R x0 15) x2.toNatClampNeg)).toInt64) * (((σ (R x0 17) x2.toNatClampNeg) - (σ (R x0 15) x2.toNatClampNeg)).toInt64)))) < (0 : Int64) then (0 : Int64) else (if (((((σ (R x0 18) x1.toNatClampNeg) - (σ (R x0 14) x2.toNatClampNeg)).toInt64) * (((σ (R x0 16) x2.toNatClampNeg) - (σ (R x0 14) x2.toNatClampNeg)).toInt64)) + ((((σ (R x0 19) x1.toNatClampNeg) - (σ (R x0 15) x2.toNatClampNeg)).toInt64) * (((σ (R x0 17) x2.toNatClampNeg) - (σ (R x0 15) x2.toNatClampNeg)).toInt64))) < (((((σ (R x0 16) x2.toNatClampNeg) - (σ (R x0 14) x2.toNatClampNeg)).toInt64) * (((σ (R x0 16) x2.toNatClampNeg) - (σ (R x0 14) x2.toNatClampNeg)).toInt64)) + ((((σ (R x0 17) x2.toNatClampNeg) - (σ (R x0 15) x2.toNatClampNeg)).toInt64) * (((σ (R x0 17) x2.toNatClampNeg) - (σ (R x0 15) x2.toNatClampNeg)).toInt64))) then (((((σ (R x0 18) x1.toNatClampNeg) - (σ (R x0 14) x2.toNatClampNeg)).toInt64) * (((σ (R x0 16) x2.toNatClampNeg) - (σ (R x0 14) x2.toNatClampNeg)).toInt64)) + ((((σ (R x0 19) x1.toNatClampNeg) - (σ (R x0 15) x2.toNatClampNeg)).toInt64) * (((σ (R x0 17) x2.toNatClampNeg) - (σ (R x0 15) x2.toNatClampNeg)).toInt64))) else (((((σ (R x0 16) x2.toNatClampNeg) - (σ (R x0 14) x2.toNatClampNeg)).toInt64) * (((σ (R x0 16) x2.toNatClampNeg) - (σ (R x0 14) x2.toNatClampNeg)).toInt64)) + ((((σ (R x0 17) x2.toNatClampNeg) - (σ (R x0 15) x2.toNatClampNeg)).toInt64) * (((σ (R x0 17) x2.toNatClampNeg) - (σ (R x0 15) x2.toNatClampNeg)).toInt64))))) * (((σ (R x0 16) x2.toNatClampNeg) - (σ (R x0 14) x2.toNatClampNeg)).toInt64))) - (((σ (R x0 18) x1.toNatClampNeg).toInt64) * (if (((((σ (R x0 16) x2.toNatClampNeg) - (σ (R x0 14) x2.toNatClampNeg)).toInt64) * (((σ (R x0 16) x2.toNatClampNeg) - (σ (R x0 14) x2.toNatClampNeg)).toInt64)) + ((((σ (R x0 17) x2.toNatClampNeg) - (σ (R x0 15) x2.toNatClampNeg)).toInt64) * (((σ (R x0 17) x2.toNatClampNeg) - (σ (R x0 15) x2.toNatClampNeg)).toInt64))) < (1 : Int64) then (1 : Int64) else (((((σ (R x0 16) x2.toNatClampNeg) - (σ (R x0 14) x2.toNatClampNeg)).toInt64) * (((σ (R x0 16) x2.toNatClampNeg) - (σ (R x0 14) x2.toNatClampNeg)).toInt64)) + ((((σ (R x0 17) x2.toNatClampNeg) - (σ (R x0 15) x2.toNatClampNeg)).toInt64) * (((σ (R x0 17) x2.toNatClampNeg) - (σ (R x0 15) x2.toNatClampNeg)).toInt64))))))) + ((((((σ (R x0 15) x2.toNatClampNeg).toInt64) * (if (((((σ (R x0 16) x2.toNatClampNeg) - (σ (R x0 14) x2.toNatClampNeg)).toInt64) * (((σ (R x0 16) x2.toNatClampNeg) - (σ (R x0 14) x2.toNatClampNeg)).toInt64)) + ((((σ (R x0 17) x2.toNatClampNeg) - (σ (R x0 15) x2.toNatClampNeg)).toInt64) * (((σ (R x0 17) x2.toNatClampNeg) - (σ (R x0 15) x2.toNatClampNeg)).toInt64))) < (1 : Int64) then (1 : Int64) else (((((σ (R x0 16) x2.toNatClampNeg) - (σ (R x0 14) x2.toNatClampNeg)).toInt64) * (((σ (R x0 16) x2.toNatClampNeg) - (σ (R x0 14) x2.toNatClampNeg)).toInt64)) + ((((σ (R x0 17) x2.toNatClampNeg) - (σ (R x0 15) x2.toNatClampNeg)).toInt64) * (((σ (R x0 17) x2.toNatClampNeg) - (σ (R x0 15) x2.toNatClampNeg)).toInt64))))) + ((if (if (((((σ (R x0 18) x1.toNatClampNeg) - (σ (R x0 14) x2.toNatClampNeg)).toInt64) * (((σ (R x0 16) x2.toNatClampNeg) - (σ (R x0 14) x2.toNatClampNeg)).toInt64)) + ((((σ (R x0 19) x1.toNatClampNeg) - (σ (R x0 15) x2.toNatClampNeg)).toInt64) * (((σ (R x0 17) x2.toNatClampNeg) - (σ (R x0 15) x2.toNatClampNeg)).toInt64))) < (((((σ (R x0 16) x2.toNatClampNeg) - (σ (R x0 14) x2.toNatClampNeg)).toInt64) * (((σ (R x0 16) x2.toNatClampNeg) - (σ (R x0 14) x2.toNatClampNeg)).toInt64)) + ((((σ (R x0 17) x2.toNatClampNeg) - (σ (R x0 15) x2.toNatClampNeg)).toInt64) * (((σ (R x0 17) x2.toNatClampNeg) - (σ (R x0 15) x2.toNatClampNeg)).toInt64))) then (((((σ (R x0 18) x1.toNatClampNeg) - (σ (R x0 14) x2.toNatClampNeg)).toInt64) * (((σ (R x0 16) x2.toNatClampNeg) - (σ (R x0 14) x2.toNatClampNeg)).toInt64)) + ((((σ (R x0 19) x1.toNatClampNeg) - (σ (R x0 15) x2.toNatClampNeg)).toInt64) * (((σ (R x0 17) x2.toNatClampNeg) - (σ (R x0 15) x2.toNatClampNeg)).toInt64))) else (((((σ (R x0 16) x2.toNatClampNeg) - (σ (R x0 14) x2.toNatClampNeg)).toInt64) * (((σ (R x0 16) x2.toNatClampNeg) - (σ (R x0 14) x2.toNatClampNeg)).toInt64)) + ((((σ (R x0 17) x2.toNatClampNeg) - (σ (R x0 15) x2.toNatClampNeg)).toInt64) * (((σ (R x0 17) x2.toNatClampNeg) - (σ (R x0 15) x2.toNatClampNeg)).toInt64)))) < (0 : Int64) then (0 : Int64) else (if (((((σ (R x0 18) x1.toNatClampNeg) - (σ (R x0 14) x2.toNatClampNeg)).toInt64) * (((σ (R x0 16) x2.toNatClampNeg) - (σ (R x0 14) x2.toNatClampNeg)).toInt64)) + ((((σ (R x0 19) x1.toNatClampNeg) - (σ (R x0 15) x2.toNatClampNeg)).toInt64) * (((σ (R x0 17) x2.toNatClampNeg) - (σ (R x0 15) x2.toNatClampNeg)).toInt64))) < (((((σ (R x0 16) x2.toNatClampNeg) - (σ (R x0 14) x2.toNatClampNeg)).toInt64) * (((σ (R x0 16) x2.toNatClampNeg) - (σ (R x0 14) x2.toNatClampNeg)).toInt64)) + ((((σ (R x0 17) x2.toNatClampNeg) - (σ (R x0 15) x2.toNatClampNeg)).toInt64) * (((σ (R x0 17) x2.toNatClampNeg) - (σ (R x0 15) x2.toNatClampNeg)).toInt64))) then (((((σ (R x0 18) x1.toNatClampNeg) - (σ (R x0 14) x2.toNatClampNeg)).toInt64) * (((σ (R x0 16) x2.toNatClampNeg) - (σ (R x0 14) x2.toNatClampNeg)).toInt64)) + ((((σ (R x0 19) x1.toNatClampNeg) - (σ (R x0 15) x2.toNatClampNeg)).toInt64) * (((σ (R x0 17) x2.toNatClampNeg) - (σ (R x0 15) x2.toNatClampNeg)).toInt64))) else (((((σ (R x0 16) x2.toNatClampNeg) - (σ (R x0 14) x2.toNatClampNeg)).toInt64) * (((σ (R x0 16) x2.toNatClampNeg) - (σ (R x0 14) x2.toNatClampNeg)).toInt64)) + ((((σ (R x0 17) x2.toNatClampNeg) - (σ (R x0 15) x2.toNatClampNeg)).toInt64) * (((σ (R x0 17) x2.toNatClampNeg) - (σ (R x0 15) x2.toNatClampNeg)).toInt64))))) * (((σ (R x0 17) x2.toNatClampNeg) - (σ (R x0 15) x2.toNatClampNeg)).toInt64))) - (((σ (R x0 19) x1.toNatClampNeg).toInt64) * (if (((((σ (R x0 16) x2.toNatClampNeg) - (σ (R x0 14) x2.toNatClampNeg)).toInt64) * (((σ (R x0 16) x2.toNatClampNeg) - (σ (R x0 14) x2.toNatClampNeg)).toInt64)) + ((((σ (R x0 17) x2.toNatClampNeg) - (σ (R x0 15) x2.toNatClampNeg)).toInt64) * (((σ (R x0 17) x2.toNatClampNeg) - (σ (R x0 15) x2.toNatClampNeg)).toInt64))) < (1 : Int64) then (1 : Int64) else (((((σ (R x0 16) x2.toNatClampNeg) - (σ (R x0 14) x2.toNatClampNeg)).toInt64) * (((σ (R x0 16) x2.toNatClampNeg) - (σ (R x0 14) x2.toNatClampNeg)).toInt64)) + ((((σ (R x0 17) x2.toNatClampNeg) - (σ (R x0 15) x2.toNatClampNeg)).toInt64) * (((σ (R x0 17) x2.toNatClampNeg) - (σ (R x0 15) x2.toNatClampNeg)).toInt64)))))) * (((((σ (R x0 15) x2.toNatClampNeg).toInt64) * (if (((((σ (R x0 16) x2.toNatClampNeg) - (σ (R x0 14) x2.toNatClampNeg)).toInt64) * (((σ (R x0 16) x2.toNatClampNeg) - (σ (R x0 14) x2.toNatClampNeg)).toInt64)) + ((((σ (R x0 17) x2.toNatClampNeg) - (σ (R x0 15) x2.toNatClampNeg)).toInt64) * (((σ (R x0 17) x2.toNatClampNeg) - (σ (R x0 15) x2.toNatClampNeg)).toInt64))) < (1 : Int64) then (1 : Int64) else (((((σ (R x0 16) x2.toNatClampNeg) - (σ (R x0 14) x2.toNatClampNeg)).toInt64) * (((σ (R x0 16) x2.toNatClampNeg) - (σ (R x0 14) x2.toNatClampNeg)).toInt64)) + ((((σ (R x0 17) x2.toNatClampNeg) - (σ (R x0 15) x2.toNatClampNeg)).toInt64) * (((σ (R x0 17) x2.toNatClampNeg) - (σ (R x0 15) x2.toNatClampNeg)).toInt64))))) + ((if (if (((((σ (R x0 18) x1.toNatClampNeg) - (σ (R x0 14) x2.toNatClampNeg)).toInt64) * (((σ (R x0 16) x2.toNatClampNeg) - (σ (R x0 14) x2.toNatClampNeg)).toInt64)) + ((((σ (R x0 19) x1.toNatClampNeg) - (σ (R x0 15) x2.toNatClampNeg)).toInt64) * (((σ (R x0 17) x2.toNatClampNeg) - (σ (R x0 15) x2.toNatClampNeg)).toInt64))) < (((((σ (R x0 16) x2.toNatClampNeg) - (σ (R x0 14) x2.toNatClampNeg)).toInt64) * (((σ (R x0 16) x2.toNatClampNeg) - (σ (R x0 14) x2.toNatClampNeg)).toInt64)) + ((((σ (R x0 17) x2.toNatClampNeg) - (σ (R x0 15) x2.toNatClampNeg)).toInt64) * (((σ (R x0 17) x2.toNatClampNeg) - (σ (R x0 15) x2.toNatClampNeg)).toInt64))) then (((((σ (R x0 18) x1.toNatClampNeg) - (σ (R x0 14) x2.toNatClampNeg)).toInt64) * (((σ (R x0 16) x2.toNatClampNeg) - (σ (R x0 14) x2.toNatClampNeg)).toInt64)) + ((((σ (R x0 19) x1.toNatClampNeg) - (σ (R x0 15) x2.toNatClampNeg)).toInt64) * (((σ (R x0 17) x2.toNatClampNeg) - (σ (R x0 15) x2.toNatClampNeg)).toInt64))) else (((((σ (R x0 16) x2.toNatClampNeg) - (σ (R x0 14) x2.toNatClampNeg)).toInt64) * (((σ (R x0 16) x2.toNatClampNeg) - (σ (R x0 14) x2.toNatClampNeg)).toInt64)) + ((((σ (R x0 17) x2.toNatClampNeg) - (σ (R x0 15) x2.toNatClampNeg)).toInt64) * (((σ (R x0 17) x2.toNatClampNeg) - (σ (R x0 15) x2.toNatClampNeg)).toInt64)))) < (0 : Int64) then (0 : Int64) else (if (((((σ (R x0 18) x1.toNatClampNeg) - (σ (R x0 14) x2.toNatClampNeg)).toInt64) * (((σ (R x0 16) x2.toNatClampNeg) - (σ (R x0 14) x2.toNatClampNeg)).toInt64)) + ((((σ (R x0 19) x1.toNatClampNeg) - (σ (R x0 15) x2.toNatClampNeg)).toInt64) * (((σ (R x0 17) x2.toNatClampNeg) - (σ (R x0 15) x2.toNatClampNeg)).toInt64))) < (((((σ (R x0 16) x2.toNatClampNeg) - (σ (R x0 14) x2.toNatClampNeg)).toInt64) * (((σ (R x0 16) x2.toNatClampNeg) - (σ (R x0 14) x2.toNatClampNeg)).toInt64)) + ((((σ (R x0 17) x2.toNatClampNeg) - (σ (R x0 15) x2.toNatClampNeg)).toInt64) * (((σ (R x0 17) x2.toNatClampNeg) - (σ (R x0 15) x2.toNatClampNeg)).toInt64))) then (((((σ (R x0 18) x1.toNatClampNeg) - (σ (R x0 14) x2.toNatClampNeg)).toInt64) * (((σ (R x0 16) x2.toNatClampNeg) - (σ (R x0 14) x2.toNatClampNeg)).toInt64)) + ((((σ (R x0 19) x1.toNatClampNeg) - (σ (R x0 15) x2.toNatClampNeg)).toInt64) * (((σ (R x0 17) x2.toNatClampNeg) - (σ (R x0 15) x2.toNatClampNeg)).toInt64))) else (((((σ (R x0 16) x2.toNatClampNeg) - (σ (R x0 14) x2.toNatClampNeg)).toInt64) * (((σ (R x0 16) x2.toNatClampNeg) - (σ (R x0 14) x2.toNatClampNeg)).toInt64)) + ((((σ (R x0 17) x2.toNatClampNeg) - (σ (R x0 15) x2.toNatClampNeg)).toInt64) * (((σ (R x0 17) x2.toNatClampNeg) - (σ (R x0 15) x2.toNatClampNeg)).toInt64))))) * (((σ (R x0 17) x2.toNatClampNeg) - (σ (R x0 15) x2.toNatClampNeg)).toInt64))) - (((σ (R x0 19) x1.toNatClampNeg).toInt64) * (if (((((σ (R x0 16) x2.toNatClampNeg) - (σ (R x0 14) x2.toNatClampNeg)).toInt64) * (((σ (R x0 16) x2.toNatClampNeg) - (σ (R x0 14) x2.toNatClampNeg)).toInt64)) + ((((σ (R x0 17) x2.toNatClampNeg) - (σ (R x0 15) x2.toNatClampNeg)).toInt64) * (((σ (R x0 17) x2.toNatClampNeg) - (σ (R x0 15) x2.toNatClampNeg)).toInt64))) < (1 : Int64) then (1 : Int64) else (((((σ (R x0 16) x2.toNatClampNeg) - (σ (R x0 14) x2.toNatClampNeg)).toInt64) * (((σ (R x0 16) x2.toNatClampNeg) - (σ (R x0 14) x2.toNatClampNeg)).toInt64)) + ((((σ (R x0 17) x2.toNatClampNeg) - (σ (R x0 15) x2.toNatClampNeg)).toInt64) * (((σ (R x0 17) x2.toNatClampNeg) - (σ (R x0 15) x2.toNatClampNeg)).toInt64)))))))) ((((x3 * x3).toInt64) * (if (((((σ (R x0 16) x2.toNatClampNeg) - (σ (R x0 14) x2.toNatClampNeg)).toInt64) * (((σ (R x0 16) x2.toNatClampNeg) - (σ (R x0 14) x2.toNatClampNeg)).toInt64)) + ((((σ (R x0 17) x2.toNatClampNeg) - (σ (R x0 15) x2.toNatClampNeg)).toInt64) * (((σ (R x0 17) x2.toNatClampNeg) - (σ (R x0 15) x2.toNatClampNeg)).toInt64))) < (1 : Int64) then (1 : Int64) else (((((σ (R x0 16) x2.toNatClampNeg) - (σ (R x0 14) x2.toNatClampNeg)).toInt64) * (((σ (R x0 16) x2.toNatClampNeg) - (σ (R x0 14) x2.toNatClampNeg)).toInt64)) + ((((σ (R x0 17) x2.toNatClampNeg) - (σ (R x0 15) x2.toNatClampNeg)).toInt64) * (((σ (R x0 17) x2.toNatClampNeg) - (σ (R x0 15) x2.toNatClampNeg)).toInt64))))) * (if (((((σ (R x0 16) x2.toNatClampNeg) - (σ (R x0 14) x2.toNatClampNeg)).toInt64) * (((σ (R x0 16) x2.toNatClampNeg) - (σ (R x0 14) x2.toNatClampNeg)).toInt64)) + ((((σ (R x0 17) x2.toNatClampNeg) - (σ (R x0 15) x2.toNatClampNeg)).toInt64) * (((σ (R x0 17) x2.toNatClampNeg) - (σ (R x0 15) x2.toNatClampNeg)).toInt64))) < (1 : Int64) then (1 : Int64) else (((((σ (R x0 16) x2.toNatClampNeg) - (σ (R x0 14) x2.toNatClampNeg)).toInt64) * (((σ (R x0 16) x2.toNatClampNeg) - (σ (R x0 14) x2.toNatClampNeg)).toInt64)) + ((((σ (R x0 17) x2.toNatClampNeg) - (σ (R x0 15) x2.toNatClampNeg)).toInt64) * (((σ (R x0 17) x2.toNatClampNeg) - (σ (R x0 15) x2.toNatClampNeg)).toInt64)))))) then (some ((0 : Int32), σ)) else (some ((1 : Int32), σ)))))))))))))))
set_option maxHeartbeats 4000000 in
set_option maxRecDepth 100000 in
theorem ok_X12_comes {l : Launch} {g : GL} {R : Nat → Nat → Nat} {L : Nat → Nat → Int64} {N : Nat} {σ : SI} {x0 : Nat} {x1 : Int32} {x2 : Int32} {x3 : Int32} {r : (Int32 × SI)} (h : f_X12_comes N R σ x0 x1 x2 x3 = some r) (hSh : ShR R) (hx0 : Ok 202 x0 12) : Ct l g 1 yX12_comes cX12_comes 18 (some .boolean) 202 202 0 0 [.ref (ga g x0), .int x1, .int x2, .int x3] (mkS σ R L) (PI R L r) := by
  refine Met.ofW (cc := cX12_comes) (maxL := 18) (ret := (some .boolean)) (by decide) rfl ?_
  intro p e s m args below meth c s₁ B hml hv
  obtain ⟨rfl, hE, hLo, hWd⟩ := hv
  have hr : meth.sig.returnType = (some .boolean) := B.returns
  have C : Cx l g p s m meth c cX12_comes 18 RX12 := ⟨B.exec, B.bytes, hml, findClass_of_methodNamed B.named, hE, hLo, B.notSynchronized⟩
  have S : S2 g s σ R L s.heap [] := ⟨hWd, va_S.rf⟩
  have hx := C.1
  have hb := C.2.1
  have hl := lv_entry ([.ref (ga g x0), .int x1, .int x2, .int x3]) (n := 18) (Nat.le_of_ble_eq_true rfl)
  rw [lg_entry_eq]
  generalize (lg_sl ([.ref (ga g x0), .int x1, .int x2, .int x3]) ++ List.replicate (18 - (lg_sl ([.ref (ga g x0), .int x1, .int x2, .int x3])).length) Slot.unset).toArray = ls at hl ⊢
  have hl : lv_has ls 18 [(0, .ref (ga g x0)), (1, .int x1), (2, .int x2), (3, .int x3)] := hl
  generalize hH : s.heap = H at S ⊢
  generalize hlc : ([] : List Loc) = locs at S ⊢
  rw [f_X12_comes] at h
  refine lv_aload_n hx hb dX12_comes_0 rfl (lv_at hl 0 rfl) ?_
  have hR1 : Ok 202 (R x0 16) 10002 := hSh x0 12 16 10002 hx0.1 rfl
  refine x_getR C S KX12 hx0 16 (by decide) rfl rfl fl_RX12_31 hR1 dX12_comes_1 ?_
  refine lv_iload_n hx hb dX12_comes_4 rfl (lv_at hl 2 rfl) ?_
  obtain ⟨hi2, h⟩ := ck_el h
  refine x_iald (len := 2) C S (by decide) hR1 hi2 dX12_comes_5 ?_
  refine lv_aload_n hx hb dX12_comes_6 rfl (lv_at hl 0 rfl) ?_
  have hR3 : Ok 202 (R x0 14) 10002 := hSh x0 12 14 10002 hx0.1 rfl
  refine x_getR C S KX12 hx0 14 (by decide) rfl rfl fl_RX12_25 hR3 dX12_comes_7 ?_
  refine lv_iload_n hx hb dX12_comes_10 rfl (lv_at hl 2 rfl) ?_
  obtain ⟨hi4, h⟩ := ck_el h
  refine x_iald (len := 2) C S (by decide) hR3 hi4 dX12_comes_11 ?_
  refine lv_isub hx hb dX12_comes_12 ?_
  refine lv_i2l hx hb dX12_comes_13 rfl ?_
  refine lv_lstore (lv' := [(4, .long (((σ (R x0 16) x2.toNatClampNeg) - (σ (R x0 14) x2.toNatClampNeg)).toInt64)), (0, .ref (ga g x0)), (1, .int x1), (2, .int x2), (3, .int x3)]) hx hb dX12_comes_14 hl (by decide) rfl (fun ls hl => ?_)
  refine lv_aload_n hx hb dX12_comes_16 rfl (lv_at hl 1 rfl) ?_
  have hR5 : Ok 202 (R x0 17) 10002 := hSh x0 12 17 10002 hx0.1 rfl
  refine x_getR C S KX12 hx0 17 (by decide) rfl rfl fl_RX12_34 hR5 dX12_comes_17 ?_
  refine lv_iload_n hx hb dX12_comes_20 rfl (lv_at hl 3 rfl) ?_
  obtain ⟨hi6, h⟩ := ck_el h
  refine x_iald (len := 2) C S (by decide) hR5 hi6 dX12_comes_21 ?_
  refine lv_aload_n hx hb dX12_comes_22 rfl (lv_at hl 1 rfl) ?_
  have hR7 : Ok 202 (R x0 15) 10002 := hSh x0 12 15 10002 hx0.1 rfl
  refine x_getR C S KX12 hx0 15 (by decide) rfl rfl fl_RX12_28 hR7 dX12_comes_23 ?_
  refine lv_iload_n hx hb dX12_comes_26 rfl (lv_at hl 3 rfl) ?_
  obtain ⟨hi8, h⟩ := ck_el h
  refine x_iald (len := 2) C S (by decide) hR7 hi8 dX12_comes_27 ?_
  refine lv_isub hx hb dX12_comes_28 ?_
  refine lv_i2l hx hb dX12_comes_29 rfl ?_
  refine lv_lstore (lv' := [(6, .long (((σ (R x0 17) x2.toNatClampNeg) - (σ (R x0 15) x2.toNatClampNeg)).toInt64)), (4, .long (((σ (R x0 16) x2.toNatClampNeg) - (σ (R x0 14) x2.toNatClampNeg)).toInt64)), (0, .ref (ga g x0)), (1, .int x1), (2, .int x2), (3, .int x3)]) hx hb dX12_comes_30 hl (by decide) rfl (fun ls hl => ?_)
  refine lv_lload hx hb dX12_comes_32 (lv_at hl 1 rfl) ?_
  refine lv_lload hx hb dX12_comes_34 (lv_at hl 1 rfl) ?_
  refine lv_lmul hx hb dX12_comes_36 ?_
  refine lv_lload hx hb dX12_comes_37 (lv_at hl 0 rfl) ?_
  refine lv_lload hx hb dX12_comes_39 (lv_at hl 0 rfl) ?_
  refine lv_lmul hx hb dX12_comes_41 ?_
  refine lv_ladd hx hb dX12_comes_42 ?_
  refine lv_lstore (lv' := [(8, .long (((((σ (R x0 16) x2.toNatClampNeg) - (σ (R x0 14) x2.toNatClampNeg)).toInt64) * (((σ (R x0 16) x2.toNatClampNeg) - (σ (R x0 14) x2.toNatClampNeg)).toInt64)) + ((((σ (R x0 17) x2.toNatClampNeg) - (σ (R x0 15) x2.toNatClampNeg)).toInt64) * (((σ (R x0 17) x2.toNatClampNeg) - (σ (R x0 15) x2.toNatClampNeg)).toInt64)))), (6, .long (((σ (R x0 17) x2.toNatClampNeg) - (σ (R x0 15) x2.toNatClampNeg)).toInt64)), (4, .long (((σ (R x0 16) x2.toNatClampNeg) - (σ (R x0 14) x2.toNatClampNeg)).toInt64)), (0, .ref (ga g x0)), (1, .int x1), (2, .int x2), (3, .int x3)]) hx hb dX12_comes_43 hl (by decide) rfl (fun ls hl => ?_)
  refine lv_aload_n hx hb dX12_comes_45 rfl (lv_at hl 3 rfl) ?_
  have hR9 : Ok 202 (R x0 18) 10003 := hSh x0 12 18 10003 hx0.1 rfl
  refine x_getR C S KX12 hx0 18 (by decide) rfl rfl fl_RX12_37 hR9 dX12_comes_46 ?_
  refine lv_iload_n hx hb dX12_comes_49 rfl (lv_at hl 4 rfl) ?_
  obtain ⟨hi10, h⟩ := ck_el h
  refine x_iald (len := 3) C S (by decide) hR9 hi10 dX12_comes_50 ?_
  refine lv_aload_n hx hb dX12_comes_51 rfl (lv_at hl 3 rfl) ?_
  have hR11 : Ok 202 (R x0 14) 10002 := hSh x0 12 14 10002 hx0.1 rfl
  refine x_getR C S KX12 hx0 14 (by decide) rfl rfl fl_RX12_25 hR11 dX12_comes_52 ?_
  refine lv_iload_n hx hb dX12_comes_55 rfl (lv_at hl 5 rfl) ?_
  obtain ⟨hi12, h⟩ := ck_el h
  refine x_iald (len := 2) C S (by decide) hR11 hi12 dX12_comes_56 ?_
  refine lv_isub hx hb dX12_comes_57 ?_
  refine lv_i2l hx hb dX12_comes_58 rfl ?_
  refine lv_lload hx hb dX12_comes_59 (lv_at hl 2 rfl) ?_
  refine lv_lmul hx hb dX12_comes_61 ?_
  refine lv_aload_n hx hb dX12_comes_62 rfl (lv_at hl 3 rfl) ?_
  have hR13 : Ok 202 (R x0 19) 10003 := hSh x0 12 19 10003 hx0.1 rfl
  refine x_getR C S KX12 hx0 19 (by decide) rfl rfl fl_RX12_40 hR13 dX12_comes_63 ?_
  refine lv_iload_n hx hb dX12_comes_66 rfl (lv_at hl 4 rfl) ?_
  obtain ⟨hi14, h⟩ := ck_el h
  refine x_iald (len := 3) C S (by decide) hR13 hi14 dX12_comes_67 ?_
  refine lv_aload_n hx hb dX12_comes_68 rfl (lv_at hl 3 rfl) ?_
  have hR15 : Ok 202 (R x0 15) 10002 := hSh x0 12 15 10002 hx0.1 rfl
  refine x_getR C S KX12 hx0 15 (by decide) rfl rfl fl_RX12_28 hR15 dX12_comes_69 ?_
  refine lv_iload_n hx hb dX12_comes_72 rfl (lv_at hl 5 rfl) ?_
  obtain ⟨hi16, h⟩ := ck_el h
  refine x_iald (len := 2) C S (by decide) hR15 hi16 dX12_comes_73 ?_
  refine lv_isub hx hb dX12_comes_74 ?_
  refine lv_i2l hx hb dX12_comes_75 rfl ?_
  refine lv_lload hx hb dX12_comes_76 (lv_at hl 1 rfl) ?_
  refine lv_lmul hx hb dX12_comes_78 ?_
  refine lv_ladd hx hb dX12_comes_79 ?_
  refine lv_lstore (lv' := [(10, .long (((((σ (R x0 18) x1.toNatClampNeg) - (σ (R x0 14) x2.toNatClampNeg)).toInt64) * (((σ (R x0 16) x2.toNatClampNeg) - (σ (R x0 14) x2.toNatClampNeg)).toInt64)) + ((((σ (R x0 19) x1.toNatClampNeg) - (σ (R x0 15) x2.toNatClampNeg)).toInt64) * (((σ (R x0 17) x2.toNatClampNeg) - (σ (R x0 15) x2.toNatClampNeg)).toInt64)))), (8, .long (((((σ (R x0 16) x2.toNatClampNeg) - (σ (R x0 14) x2.toNatClampNeg)).toInt64) * (((σ (R x0 16) x2.toNatClampNeg) - (σ (R x0 14) x2.toNatClampNeg)).toInt64)) + ((((σ (R x0 17) x2.toNatClampNeg) - (σ (R x0 15) x2.toNatClampNeg)).toInt64) * (((σ (R x0 17) x2.toNatClampNeg) - (σ (R x0 15) x2.toNatClampNeg)).toInt64)))), (6, .long (((σ (R x0 17) x2.toNatClampNeg) - (σ (R x0 15) x2.toNatClampNeg)).toInt64)), (4, .long (((σ (R x0 16) x2.toNatClampNeg) - (σ (R x0 14) x2.toNatClampNeg)).toInt64)), (0, .ref (ga g x0)), (1, .int x1), (2, .int x2), (3, .int x3)]) hx hb dX12_comes_80 hl (by decide) rfl (fun ls hl => ?_)
  refine lv_lload hx hb dX12_comes_82 (lv_at hl 1 rfl) ?_
  refine lv_lconst (v := (0 : Int64)) hx hb dX12_comes_84 (by decide) ?_
  refine W.lcmp hx hb dX12_comes_85 ?_
  refine lv_if_ne (tgt := 93) hx hb dX12_comes_86 (by decide) (fun c17 => ?_) (fun c17 => ?_)
  · have h := it_n c17 h
    refine lv_lconst (v := (0 : Int64)) hx hb dX12_comes_93 (by decide) ?_
    refine lv_lload hx hb dX12_comes_94 (lv_at hl 1 rfl) ?_
    refine lv_lload hx hb dX12_comes_96 (lv_at hl 0 rfl) ?_
    refine x_minL C hl.1 ⟨ml_RX12_149, st_mathL_min, ni_math, cd_mathL_min⟩ (Nat.le_of_ble_eq_true rfl) (Nat.le_of_ble_eq_true rfl) (Nat.le_of_ble_eq_true rfl) (Nat.le_of_ble_eq_true rfl) dX12_comes_98 ?_
    refine x_maxL C hl.1 ⟨ml_RX12_155, st_mathL_max, ni_math, cd_mathL_max⟩ (Nat.le_of_ble_eq_true rfl) (Nat.le_of_ble_eq_true rfl) (Nat.le_of_ble_eq_true rfl) (Nat.le_of_ble_eq_true rfl) dX12_comes_101 ?_
    refine lv_lstore (lv' := [(10, .long (if (if (((((σ (R x0 18) x1.toNatClampNeg) - (σ (R x0 14) x2.toNatClampNeg)).toInt64) * (((σ (R x0 16) x2.toNatClampNeg) - (σ (R x0 14) x2.toNatClampNeg)).toInt64)) + ((((σ (R x0 19) x1.toNatClampNeg) - (σ (R x0 15) x2.toNatClampNeg)).toInt64) * (((σ (R x0 17) x2.toNatClampNeg) - (σ (R x0 15) x2.toNatClampNeg)).toInt64))) < (((((σ (R x0 16) x2.toNatClampNeg) - (σ (R x0 14) x2.toNatClampNeg)).toInt64) * (((σ (R x0 16) x2.toNatClampNeg) - (σ (R x0 14) x2.toNatClampNeg)).toInt64)) + ((((σ (R x0 17) x2.toNatClampNeg) - (σ (R x0 15) x2.toNatClampNeg)).toInt64) * (((σ (R x0 17) x2.toNatClampNeg) - (σ (R x0 15) x2.toNatClampNeg)).toInt64))) then (((((σ (R x0 18) x1.toNatClampNeg) - (σ (R x0 14) x2.toNatClampNeg)).toInt64) * (((σ (R x0 16) x2.toNatClampNeg) - (σ (R x0 14) x2.toNatClampNeg)).toInt64)) + ((((σ (R x0 19) x1.toNatClampNeg) - (σ (R x0 15) x2.toNatClampNeg)).toInt64) * (((σ (R x0 17) x2.toNatClampNeg) - (σ (R x0 15) x2.toNatClampNeg)).toInt64))) else (((((σ (R x0 16) x2.toNatClampNeg) - (σ (R x0 14) x2.toNatClampNeg)).toInt64) * (((σ (R x0 16) x2.toNatClampNeg) - (σ (R x0 14) x2.toNatClampNeg)).toInt64)) + ((((σ (R x0 17) x2.toNatClampNeg) - (σ (R x0 15) x2.toNatClampNeg)).toInt64) * (((σ (R x0 17) x2.toNatClampNeg) - (σ (R x0 15) x2.toNatClampNeg)).toInt64)))) < (0 : Int64) then (0 : Int64) else (if (((((σ (R x0 18) x1.toNatClampNeg) - (σ (R x0 14) x2.toNatClampNeg)).toInt64) * (((σ (R x0 16) x2.toNatClampNeg) - (σ (R x0 14) x2.toNatClampNeg)).toInt64)) + ((((σ (R x0 19) x1.toNatClampNeg) - (σ (R x0 15) x2.toNatClampNeg)).toInt64) * (((σ (R x0 17) x2.toNatClampNeg) - (σ (R x0 15) x2.toNatClampNeg)).toInt64))) < (((((σ (R x0 16) x2.toNatClampNeg) - (σ (R x0 14) x2.toNatClampNeg)).toInt64) * (((σ (R x0 16) x2.toNatClampNeg) - (σ (R x0 14) x2.toNatClampNeg)).toInt64)) + ((((σ (R x0 17) x2.toNatClampNeg) - (σ (R x0 15) x2.toNatClampNeg)).toInt64) * (((σ (R x0 17) x2.toNatClampNeg) - (σ (R x0 15) x2.toNatClampNeg)).toInt64))) then (((((σ (R x0 18) x1.toNatClampNeg) - (σ (R x0 14) x2.toNatClampNeg)).toInt64) * (((σ (R x0 16) x2.toNatClampNeg) - (σ (R x0 14) x2.toNatClampNeg)).toInt64)) + ((((σ (R x0 19) x1.toNatClampNeg) - (σ (R x0 15) x2.toNatClampNeg)).toInt64) * (((σ (R x0 17) x2.toNatClampNeg) - (σ (R x0 15) x2.toNatClampNeg)).toInt64))) else (((((σ (R x0 16) x2.toNatClampNeg) - (σ (R x0 14) x2.toNatClampNeg)).toInt64) * (((σ (R x0 16) x2.toNatClampNeg) - (σ (R x0 14) x2.toNatClampNeg)).toInt64)) + ((((σ (R x0 17) x2.toNatClampNeg) - (σ (R x0 15) x2.toNatClampNeg)).toInt64) * (((σ (R x0 17) x2.toNatClampNeg) - (σ (R x0 15) x2.toNatClampNeg)).toInt64)))))), (8, .long (((((σ (R x0 16) x2.toNatClampNeg) - (σ (R x0 14) x2.toNatClampNeg)).toInt64) * (((σ (R x0 16) x2.toNatClampNeg) - (σ (R x0 14) x2.toNatClampNeg)).toInt64)) + ((((σ (R x0 17) x2.toNatClampNeg) - (σ (R x0 15) x2.toNatClampNeg)).toInt64) * (((σ (R x0 17) x2.toNatClampNeg) - (σ (R x0 15) x2.toNatClampNeg)).toInt64)))), (6, .long (((σ (R x0 17) x2.toNatClampNeg) - (σ (R x0 15) x2.toNatClampNeg)).toInt64)), (4, .long (((σ (R x0 16) x2.toNatClampNeg) - (σ (R x0 14) x2.toNatClampNeg)).toInt64)), (0, .ref (ga g x0)), (1, .int x1), (2, .int x2), (3, .int x3)]) hx hb dX12_comes_104 hl (by decide) rfl (fun ls hl => ?_)
    refine lv_lconst (v := (1 : Int64)) hx hb dX12_comes_106 (by decide) ?_
    refine lv_lload hx hb dX12_comes_107 (lv_at hl 1 rfl) ?_
    refine x_maxL C hl.1 ⟨ml_RX12_155, st_mathL_max, ni_math, cd_mathL_max⟩ (Nat.le_of_ble_eq_true rfl) (Nat.le_of_ble_eq_true rfl) (Nat.le_of_ble_eq_true rfl) (Nat.le_of_ble_eq_true rfl) dX12_comes_109 ?_
    refine lv_lstore (lv' := [(12, .long (if (((((σ (R x0 16) x2.toNatClampNeg) - (σ (R x0 14) x2.toNatClampNeg)).toInt64) * (((σ (R x0 16) x2.toNatClampNeg) - (σ (R x0 14) x2.toNatClampNeg)).toInt64)) + ((((σ (R x0 17) x2.toNatClampNeg) - (σ (R x0 15) x2.toNatClampNeg)).toInt64) * (((σ (R x0 17) x2.toNatClampNeg) - (σ (R x0 15) x2.toNatClampNeg)).toInt64))) < (1 : Int64) then (1 : Int64) else (((((σ (R x0 16) x2.toNatClampNeg) - (σ (R x0 14) x2.toNatClampNeg)).toInt64) * (((σ (R x0 16) x2.toNatClampNeg) - (σ (R x0 14) x2.toNatClampNeg)).toInt64)) + ((((σ (R x0 17) x2.toNatClampNeg) - (σ (R x0 15) x2.toNatClampNeg)).toInt64) * (((σ (R x0 17) x2.toNatClampNeg) - (σ (R x0 15) x2.toNatClampNeg)).toInt64))))), (10, .long (if (if (((((σ (R x0 18) x1.toNatClampNeg) - (σ (R x0 14) x2.toNatClampNeg)).toInt64) * (((σ (R x0 16) x2.toNatClampNeg) - (σ (R x0 14) x2.toNatClampNeg)).toInt64)) + ((((σ (R x0 19) x1.toNatClampNeg) - (σ (R x0 15) x2.toNatClampNeg)).toInt64) * (((σ (R x0 17) x2.toNatClampNeg) - (σ (R x0 15) x2.toNatClampNeg)).toInt64))) < (((((σ (R x0 16) x2.toNatClampNeg) - (σ (R x0 14) x2.toNatClampNeg)).toInt64) * (((σ (R x0 16) x2.toNatClampNeg) - (σ (R x0 14) x2.toNatClampNeg)).toInt64)) + ((((σ (R x0 17) x2.toNatClampNeg) - (σ (R x0 15) x2.toNatClampNeg)).toInt64) * (((σ (R x0 17) x2.toNatClampNeg) - (σ (R x0 15) x2.toNatClampNeg)).toInt64))) then (((((σ (R x0 18) x1.toNatClampNeg) - (σ (R x0 14) x2.toNatClampNeg)).toInt64) * (((σ (R x0 16) x2.toNatClampNeg) - (σ (R x0 14) x2.toNatClampNeg)).toInt64)) + ((((σ (R x0 19) x1.toNatClampNeg) - (σ (R x0 15) x2.toNatClampNeg)).toInt64) * (((σ (R x0 17) x2.toNatClampNeg) - (σ (R x0 15) x2.toNatClampNeg)).toInt64))) else (((((σ (R x0 16) x2.toNatClampNeg) - (σ (R x0 14) x2.toNatClampNeg)).toInt64) * (((σ (R x0 16) x2.toNatClampNeg) - (σ (R x0 14) x2.toNatClampNeg)).toInt64)) + ((((σ (R x0 17) x2.toNatClampNeg) - (σ (R x0 15) x2.toNatClampNeg)).toInt64) * (((σ (R x0 17) x2.toNatClampNeg) - (σ (R x0 15) x2.toNatClampNeg)).toInt64)))) < (0 : Int64) then (0 : Int64) else (if (((((σ (R x0 18) x1.toNatClampNeg) - (σ (R x0 14) x2.toNatClampNeg)).toInt64) * (((σ (R x0 16) x2.toNatClampNeg) - (σ (R x0 14) x2.toNatClampNeg)).toInt64)) + ((((σ (R x0 19) x1.toNatClampNeg) - (σ (R x0 15) x2.toNatClampNeg)).toInt64) * (((σ (R x0 17) x2.toNatClampNeg) - (σ (R x0 15) x2.toNatClampNeg)).toInt64))) < (((((σ (R x0 16) x2.toNatClampNeg) - (σ (R x0 14) x2.toNatClampNeg)).toInt64) * (((σ (R x0 16) x2.toNatClampNeg) - (σ (R x0 14) x2.toNatClampNeg)).toInt64)) + ((((σ (R x0 17) x2.toNatClampNeg) - (σ (R x0 15) x2.toNatClampNeg)).toInt64) * (((σ (R x0 17) x2.toNatClampNeg) - (σ (R x0 15) x2.toNatClampNeg)).toInt64))) then (((((σ (R x0 18) x1.toNatClampNeg) - (σ (R x0 14) x2.toNatClampNeg)).toInt64) * (((σ (R x0 16) x2.toNatClampNeg) - (σ (R x0 14) x2.toNatClampNeg)).toInt64)) + ((((σ (R x0 19) x1.toNatClampNeg) - (σ (R x0 15) x2.toNatClampNeg)).toInt64) * (((σ (R x0 17) x2.toNatClampNeg) - (σ (R x0 15) x2.toNatClampNeg)).toInt64))) else (((((σ (R x0 16) x2.toNatClampNeg) - (σ (R x0 14) x2.toNatClampNeg)).toInt64) * (((σ (R x0 16) x2.toNatClampNeg) - (σ (R x0 14) x2.toNatClampNeg)).toInt64)) + ((((σ (R x0 17) x2.toNatClampNeg) - (σ (R x0 15) x2.toNatClampNeg)).toInt64) * (((σ (R x0 17) x2.toNatClampNeg) - (σ (R x0 15) x2.toNatClampNeg)).toInt64)))))), (8, .long (((((σ (R x0 16) x2.toNatClampNeg) - (σ (R x0 14) x2.toNatClampNeg)).toInt64) * (((σ (R x0 16) x2.toNatClampNeg) - (σ (R x0 14) x2.toNatClampNeg)).toInt64)) + ((((σ (R x0 17) x2.toNatClampNeg) - (σ (R x0 15) x2.toNatClampNeg)).toInt64) * (((σ (R x0 17) x2.toNatClampNeg) - (σ (R x0 15) x2.toNatClampNeg)).toInt64)))), (6, .long (((σ (R x0 17) x2.toNatClampNeg) - (σ (R x0 15) x2.toNatClampNeg)).toInt64)), (4, .long (((σ (R x0 16) x2.toNatClampNeg) - (σ (R x0 14) x2.toNatClampNeg)).toInt64)), (0, .ref (ga g x0)), (1, .int x1), (2, .int x2), (3, .int x3)]) hx hb dX12_comes_112 hl (by decide) rfl (fun ls hl => ?_)
    refine lv_aload_n hx hb dX12_comes_114 rfl (lv_at hl 5 rfl) ?_
    have hR18 : Ok 202 (R x0 14) 10002 := hSh x0 12 14 10002 hx0.1 rfl
    refine x_getR C S KX12 hx0 14 (by decide) rfl rfl fl_RX12_25 hR18 dX12_comes_115 ?_
    refine lv_iload_n hx hb dX12_comes_118 rfl (lv_at hl 7 rfl) ?_
    obtain ⟨hi19, h⟩ := ck_el h
    refine x_iald (len := 2) C S (by decide) hR18 hi19 dX12_comes_119 ?_
    refine lv_i2l hx hb dX12_comes_120 rfl ?_
    refine lv_lload hx hb dX12_comes_121 (lv_at hl 0 rfl) ?_
    refine lv_lmul hx hb dX12_comes_123 ?_
    refine lv_lload hx hb dX12_comes_124 (lv_at hl 1 rfl) ?_
    refine lv_lload hx hb dX12_comes_126 (lv_at hl 4 rfl) ?_
    refine lv_lmul hx hb dX12_comes_128 ?_
    refine lv_ladd hx hb dX12_comes_129 ?_
    refine lv_aload_n hx hb dX12_comes_130 rfl (lv_at hl 5 rfl) ?_
    have hR20 : Ok 202 (R x0 18) 10003 := hSh x0 12 18 10003 hx0.1 rfl
    refine x_getR C S KX12 hx0 18 (by decide) rfl rfl fl_RX12_37 hR20 dX12_comes_131 ?_
    refine lv_iload_n hx hb dX12_comes_134 rfl (lv_at hl 6 rfl) ?_
    obtain ⟨hi21, h⟩ := ck_el h
    refine x_iald (len := 3) C S (by decide) hR20 hi21 dX12_comes_135 ?_
    refine lv_i2l hx hb dX12_comes_136 rfl ?_
    refine lv_lload hx hb dX12_comes_137 (lv_at hl 0 rfl) ?_
    refine lv_lmul hx hb dX12_comes_139 ?_
    refine lv_lsub hx hb dX12_comes_140 ?_
    refine lv_lstore (lv' := [(14, .long (((((σ (R x0 14) x2.toNatClampNeg).toInt64) * (if (((((σ (R x0 16) x2.toNatClampNeg) - (σ (R x0 14) x2.toNatClampNeg)).toInt64) * (((σ (R x0 16) x2.toNatClampNeg) - (σ (R x0 14) x2.toNatClampNeg)).toInt64)) + ((((σ (R x0 17) x2.toNatClampNeg) - (σ (R x0 15) x2.toNatClampNeg)).toInt64) * (((σ (R x0 17) x2.toNatClampNeg) - (σ (R x0 15) x2.toNatClampNeg)).toInt64))) < (1 : Int64) then (1 : Int64) else (((((σ (R x0 16) x2.toNatClampNeg) - (σ (R x0 14) x2.toNatClampNeg)).toInt64) * (((σ (R x0 16) x2.toNatClampNeg) - (σ (R x0 14) x2.toNatClampNeg)).toInt64)) + ((((σ (R x0 17) x2.toNatClampNeg) - (σ (R x0 15) x2.toNatClampNeg)).toInt64) * (((σ (R x0 17) x2.toNatClampNeg) - (σ (R x0 15) x2.toNatClampNeg)).toInt64))))) + ((if (if (((((σ (R x0 18) x1.toNatClampNeg) - (σ (R x0 14) x2.toNatClampNeg)).toInt64) * (((σ (R x0 16) x2.toNatClampNeg) - (σ (R x0 14) x2.toNatClampNeg)).toInt64)) + ((((σ (R x0 19) x1.toNatClampNeg) - (σ (R x0 15) x2.toNatClampNeg)).toInt64) * (((σ (R x0 17) x2.toNatClampNeg) - (σ (R x0 15) x2.toNatClampNeg)).toInt64))) < (((((σ (R x0 16) x2.toNatClampNeg) - (σ (R x0 14) x2.toNatClampNeg)).toInt64) * (((σ (R x0 16) x2.toNatClampNeg) - (σ (R x0 14) x2.toNatClampNeg)).toInt64)) + ((((σ (R x0 17) x2.toNatClampNeg) - (σ (R x0 15) x2.toNatClampNeg)).toInt64) * (((σ (R x0 17) x2.toNatClampNeg) - (σ (R x0 15) x2.toNatClampNeg)).toInt64))) then (((((σ (R x0 18) x1.toNatClampNeg) - (σ (R x0 14) x2.toNatClampNeg)).toInt64) * (((σ (R x0 16) x2.toNatClampNeg) - (σ (R x0 14) x2.toNatClampNeg)).toInt64)) + ((((σ (R x0 19) x1.toNatClampNeg) - (σ (R x0 15) x2.toNatClampNeg)).toInt64) * (((σ (R x0 17) x2.toNatClampNeg) - (σ (R x0 15) x2.toNatClampNeg)).toInt64))) else (((((σ (R x0 16) x2.toNatClampNeg) - (σ (R x0 14) x2.toNatClampNeg)).toInt64) * (((σ (R x0 16) x2.toNatClampNeg) - (σ (R x0 14) x2.toNatClampNeg)).toInt64)) + ((((σ (R x0 17) x2.toNatClampNeg) - (σ (R x0 15) x2.toNatClampNeg)).toInt64) * (((σ (R x0 17) x2.toNatClampNeg) - (σ (R x0 15) x2.toNatClampNeg)).toInt64)))) < (0 : Int64) then (0 : Int64) else (if (((((σ (R x0 18) x1.toNatClampNeg) - (σ (R x0 14) x2.toNatClampNeg)).toInt64) * (((σ (R x0 16) x2.toNatClampNeg) - (σ (R x0 14) x2.toNatClampNeg)).toInt64)) + ((((σ (R x0 19) x1.toNatClampNeg) - (σ (R x0 15) x2.toNatClampNeg)).toInt64) * (((σ (R x0 17) x2.toNatClampNeg) - (σ (R x0 15) x2.toNatClampNeg)).toInt64))) < (((((σ (R x0 16) x2.toNatClampNeg) - (σ (R x0 14) x2.toNatClampNeg)).toInt64) * (((σ (R x0 16) x2.toNatClampNeg) - (σ (R x0 14) x2.toNatClampNeg)).toInt64)) + ((((σ (R x0 17) x2.toNatClampNeg) - (σ (R x0 15) x2.toNatClampNeg)).toInt64) * (((σ (R x0 17) x2.toNatClampNeg) - (σ (R x0 15) x2.toNatClampNeg)).toInt64))) then (((((σ (R x0 18) x1.toNatClampNeg) - (σ (R x0 14) x2.toNatClampNeg)).toInt64) * (((σ (R x0 16) x2.toNatClampNeg) - (σ (R x0 14) x2.toNatClampNeg)).toInt64)) + ((((σ (R x0 19) x1.toNatClampNeg) - (σ (R x0 15) x2.toNatClampNeg)).toInt64) * (((σ (R x0 17) x2.toNatClampNeg) - (σ (R x0 15) x2.toNatClampNeg)).toInt64))) else (((((σ (R x0 16) x2.toNatClampNeg) - (σ (R x0 14) x2.toNatClampNeg)).toInt64) * (((σ (R x0 16) x2.toNatClampNeg) - (σ (R x0 14) x2.toNatClampNeg)).toInt64)) + ((((σ (R x0 17) x2.toNatClampNeg) - (σ (R x0 15) x2.toNatClampNeg)).toInt64) * (((σ (R x0 17) x2.toNatClampNeg) - (σ (R x0 15) x2.toNatClampNeg)).toInt64))))) * (((σ (R x0 16) x2.toNatClampNeg) - (σ (R x0 14) x2.toNatClampNeg)).toInt64))) - (((σ (R x0 18) x1.toNatClampNeg).toInt64) * (if (((((σ (R x0 16) x2.toNatClampNeg) - (σ (R x0 14) x2.toNatClampNeg)).toInt64) * (((σ (R x0 16) x2.toNatClampNeg) - (σ (R x0 14) x2.toNatClampNeg)).toInt64)) + ((((σ (R x0 17) x2.toNatClampNeg) - (σ (R x0 15) x2.toNatClampNeg)).toInt64) * (((σ (R x0 17) x2.toNatClampNeg) - (σ (R x0 15) x2.toNatClampNeg)).toInt64))) < (1 : Int64) then (1 : Int64) else (((((σ (R x0 16) x2.toNatClampNeg) - (σ (R x0 14) x2.toNatClampNeg)).toInt64) * (((σ (R x0 16) x2.toNatClampNeg) - (σ (R x0 14) x2.toNatClampNeg)).toInt64)) + ((((σ (R x0 17) x2.toNatClampNeg) - (σ (R x0 15) x2.toNatClampNeg)).toInt64) * (((σ (R x0 17) x2.toNatClampNeg) - (σ (R x0 15) x2.toNatClampNeg)).toInt64))))))), (12, .long (if (((((σ (R x0 16) x2.toNatClampNeg) - (σ (R x0 14) x2.toNatClampNeg)).toInt64) * (((σ (R x0 16) x2.toNatClampNeg) - (σ (R x0 14) x2.toNatClampNeg)).toInt64)) + ((((σ (R x0 17) x2.toNatClampNeg) - (σ (R x0 15) x2.toNatClampNeg)).toInt64) * (((σ (R x0 17) x2.toNatClampNeg) - (σ (R x0 15) x2.toNatClampNeg)).toInt64))) < (1 : Int64) then (1 : Int64) else (((((σ (R x0 16) x2.toNatClampNeg) - (σ (R x0 14) x2.toNatClampNeg)).toInt64) * (((σ (R x0 16) x2.toNatClampNeg) - (σ (R x0 14) x2.toNatClampNeg)).toInt64)) + ((((σ (R x0 17) x2.toNatClampNeg) - (σ (R x0 15) x2.toNatClampNeg)).toInt64) * (((σ (R x0 17) x2.toNatClampNeg) - (σ (R x0 15) x2.toNatClampNeg)).toInt64))))), (10, .long (if (if (((((σ (R x0 18) x1.toNatClampNeg) - (σ (R x0 14) x2.toNatClampNeg)).toInt64) * (((σ (R x0 16) x2.toNatClampNeg) - (σ (R x0 14) x2.toNatClampNeg)).toInt64)) + ((((σ (R x0 19) x1.toNatClampNeg) - (σ (R x0 15) x2.toNatClampNeg)).toInt64) * (((σ (R x0 17) x2.toNatClampNeg) - (σ (R x0 15) x2.toNatClampNeg)).toInt64))) < (((((σ (R x0 16) x2.toNatClampNeg) - (σ (R x0 14) x2.toNatClampNeg)).toInt64) * (((σ (R x0 16) x2.toNatClampNeg) - (σ (R x0 14) x2.toNatClampNeg)).toInt64)) + ((((σ (R x0 17) x2.toNatClampNeg) - (σ (R x0 15) x2.toNatClampNeg)).toInt64) * (((σ (R x0 17) x2.toNatClampNeg) - (σ (R x0 15) x2.toNatClampNeg)).toInt64))) then (((((σ (R x0 18) x1.toNatClampNeg) - (σ (R x0 14) x2.toNatClampNeg)).toInt64) * (((σ (R x0 16) x2.toNatClampNeg) - (σ (R x0 14) x2.toNatClampNeg)).toInt64)) + ((((σ (R x0 19) x1.toNatClampNeg) - (σ (R x0 15) x2.toNatClampNeg)).toInt64) * (((σ (R x0 17) x2.toNatClampNeg) - (σ (R x0 15) x2.toNatClampNeg)).toInt64))) else (((((σ (R x0 16) x2.toNatClampNeg) - (σ (R x0 14) x2.toNatClampNeg)).toInt64) * (((σ (R x0 16) x2.toNatClampNeg) - (σ (R x0 14) x2.toNatClampNeg)).toInt64)) + ((((σ (R x0 17) x2.toNatClampNeg) - (σ (R x0 15) x2.toNatClampNeg)).toInt64) * (((σ (R x0 17) x2.toNatClampNeg) - (σ (R x0 15) x2.toNatClampNeg)).toInt64)))) < (0 : Int64) then (0 : Int64) else (if (((((σ (R x0 18) x1.toNatClampNeg) - (σ (R x0 14) x2.toNatClampNeg)).toInt64) * (((σ (R x0 16) x2.toNatClampNeg) - (σ (R x0 14) x2.toNatClampNeg)).toInt64)) + ((((σ (R x0 19) x1.toNatClampNeg) - (σ (R x0 15) x2.toNatClampNeg)).toInt64) * (((σ (R x0 17) x2.toNatClampNeg) - (σ (R x0 15) x2.toNatClampNeg)).toInt64))) < (((((σ (R x0 16) x2.toNatClampNeg) - (σ (R x0 14) x2.toNatClampNeg)).toInt64) * (((σ (R x0 16) x2.toNatClampNeg) - (σ (R x0 14) x2.toNatClampNeg)).toInt64)) + ((((σ (R x0 17) x2.toNatClampNeg) - (σ (R x0 15) x2.toNatClampNeg)).toInt64) * (((σ (R x0 17) x2.toNatClampNeg) - (σ (R x0 15) x2.toNatClampNeg)).toInt64))) then (((((σ (R x0 18) x1.toNatClampNeg) - (σ (R x0 14) x2.toNatClampNeg)).toInt64) * (((σ (R x0 16) x2.toNatClampNeg) - (σ (R x0 14) x2.toNatClampNeg)).toInt64)) + ((((σ (R x0 19) x1.toNatClampNeg) - (σ (R x0 15) x2.toNatClampNeg)).toInt64) * (((σ (R x0 17) x2.toNatClampNeg) - (σ (R x0 15) x2.toNatClampNeg)).toInt64))) else (((((σ (R x0 16) x2.toNatClampNeg) - (σ (R x0 14) x2.toNatClampNeg)).toInt64) * (((σ (R x0 16) x2.toNatClampNeg) - (σ (R x0 14) x2.toNatClampNeg)).toInt64)) + ((((σ (R x0 17) x2.toNatClampNeg) - (σ (R x0 15) x2.toNatClampNeg)).toInt64) * (((σ (R x0 17) x2.toNatClampNeg) - (σ (R x0 15) x2.toNatClampNeg)).toInt64)))))), (8, .long (((((σ (R x0 16) x2.toNatClampNeg) - (σ (R x0 14) x2.toNatClampNeg)).toInt64) * (((σ (R x0 16) x2.toNatClampNeg) - (σ (R x0 14) x2.toNatClampNeg)).toInt64)) + ((((σ (R x0 17) x2.toNatClampNeg) - (σ (R x0 15) x2.toNatClampNeg)).toInt64) * (((σ (R x0 17) x2.toNatClampNeg) - (σ (R x0 15) x2.toNatClampNeg)).toInt64)))), (6, .long (((σ (R x0 17) x2.toNatClampNeg) - (σ (R x0 15) x2.toNatClampNeg)).toInt64)), (4, .long (((σ (R x0 16) x2.toNatClampNeg) - (σ (R x0 14) x2.toNatClampNeg)).toInt64)), (0, .ref (ga g x0)), (1, .int x1), (2, .int x2), (3, .int x3)]) hx hb dX12_comes_141 hl (by decide) rfl (fun ls hl => ?_)
    refine lv_aload_n hx hb dX12_comes_143 rfl (lv_at hl 6 rfl) ?_
    have hR22 : Ok 202 (R x0 15) 10002 := hSh x0 12 15 10002 hx0.1 rfl
    refine x_getR C S KX12 hx0 15 (by decide) rfl rfl fl_RX12_28 hR22 dX12_comes_144 ?_
    refine lv_iload_n hx hb dX12_comes_147 rfl (lv_at hl 8 rfl) ?_
    obtain ⟨hi23, h⟩ := ck_el h
    refine x_iald (len := 2) C S (by decide) hR22 hi23 dX12_comes_148 ?_
    refine lv_i2l hx hb dX12_comes_149 rfl ?_
    refine lv_lload hx hb dX12_comes_150 (lv_at hl 1 rfl) ?_
    refine lv_lmul hx hb dX12_comes_152 ?_
    refine lv_lload hx hb dX12_comes_153 (lv_at hl 2 rfl) ?_
    refine lv_lload hx hb dX12_comes_155 (lv_at hl 4 rfl) ?_
    refine lv_lmul hx hb dX12_comes_157 ?_
    refine lv_ladd hx hb dX12_comes_158 ?_
    refine lv_aload_n hx hb dX12_comes_159 rfl (lv_at hl 6 rfl) ?_
    have hR24 : Ok 202 (R x0 19) 10003 := hSh x0 12 19 10003 hx0.1 rfl
    refine x_getR C S KX12 hx0 19 (by decide) rfl rfl fl_RX12_40 hR24 dX12_comes_160 ?_
    refine lv_iload_n hx hb dX12_comes_163 rfl (lv_at hl 7 rfl) ?_
    obtain ⟨hi25, h⟩ := ck_el h
    refine x_iald (len := 3) C S (by decide) hR24 hi25 dX12_comes_164 ?_
    refine lv_i2l hx hb dX12_comes_165 rfl ?_
    refine lv_lload hx hb dX12_comes_166 (lv_at hl 1 rfl) ?_
    refine lv_lmul hx hb dX12_comes_168 ?_
    refine lv_lsub hx hb dX12_comes_169 ?_
    refine lv_lstore (lv' := [(16, .long (((((σ (R x0 15) x2.toNatClampNeg).toInt64) * (if (((((σ (R x0 16) x2.toNatClampNeg) - (σ (R x0 14) x2.toNatClampNeg)).toInt64) * (((σ (R x0 16) x2.toNatClampNeg) - (σ (R x0 14) x2.toNatClampNeg)).toInt64)) + ((((σ (R x0 17) x2.toNatClampNeg) - (σ (R x0 15) x2.toNatClampNeg)).toInt64) * (((σ (R x0 17) x2.toNatClampNeg) - (σ (R x0 15) x2.toNatClampNeg)).toInt64))) < (1 : Int64) then (1 : Int64) else (((((σ (R x0 16) x2.toNatClampNeg) - (σ (R x0 14) x2.toNatClampNeg)).toInt64) * (((σ (R x0 16) x2.toNatClampNeg) - (σ (R x0 14) x2.toNatClampNeg)).toInt64)) + ((((σ (R x0 17) x2.toNatClampNeg) - (σ (R x0 15) x2.toNatClampNeg)).toInt64) * (((σ (R x0 17) x2.toNatClampNeg) - (σ (R x0 15) x2.toNatClampNeg)).toInt64))))) + ((if (if (((((σ (R x0 18) x1.toNatClampNeg) - (σ (R x0 14) x2.toNatClampNeg)).toInt64) * (((σ (R x0 16) x2.toNatClampNeg) - (σ (R x0 14) x2.toNatClampNeg)).toInt64)) + ((((σ (R x0 19) x1.toNatClampNeg) - (σ (R x0 15) x2.toNatClampNeg)).toInt64) * (((σ (R x0 17) x2.toNatClampNeg) - (σ (R x0 15) x2.toNatClampNeg)).toInt64))) < (((((σ (R x0 16) x2.toNatClampNeg) - (σ (R x0 14) x2.toNatClampNeg)).toInt64) * (((σ (R x0 16) x2.toNatClampNeg) - (σ (R x0 14) x2.toNatClampNeg)).toInt64)) + ((((σ (R x0 17) x2.toNatClampNeg) - (σ (R x0 15) x2.toNatClampNeg)).toInt64) * (((σ (R x0 17) x2.toNatClampNeg) - (σ (R x0 15) x2.toNatClampNeg)).toInt64))) then (((((σ (R x0 18) x1.toNatClampNeg) - (σ (R x0 14) x2.toNatClampNeg)).toInt64) * (((σ (R x0 16) x2.toNatClampNeg) - (σ (R x0 14) x2.toNatClampNeg)).toInt64)) + ((((σ (R x0 19) x1.toNatClampNeg) - (σ (R x0 15) x2.toNatClampNeg)).toInt64) * (((σ (R x0 17) x2.toNatClampNeg) - (σ (R x0 15) x2.toNatClampNeg)).toInt64))) else (((((σ (R x0 16) x2.toNatClampNeg) - (σ (R x0 14) x2.toNatClampNeg)).toInt64) * (((σ (R x0 16) x2.toNatClampNeg) - (σ (R x0 14) x2.toNatClampNeg)).toInt64)) + ((((σ (R x0 17) x2.toNatClampNeg) - (σ (R x0 15) x2.toNatClampNeg)).toInt64) * (((σ (R x0 17) x2.toNatClampNeg) - (σ (R x0 15) x2.toNatClampNeg)).toInt64)))) < (0 : Int64) then (0 : Int64) else (if (((((σ (R x0 18) x1.toNatClampNeg) - (σ (R x0 14) x2.toNatClampNeg)).toInt64) * (((σ (R x0 16) x2.toNatClampNeg) - (σ (R x0 14) x2.toNatClampNeg)).toInt64)) + ((((σ (R x0 19) x1.toNatClampNeg) - (σ (R x0 15) x2.toNatClampNeg)).toInt64) * (((σ (R x0 17) x2.toNatClampNeg) - (σ (R x0 15) x2.toNatClampNeg)).toInt64))) < (((((σ (R x0 16) x2.toNatClampNeg) - (σ (R x0 14) x2.toNatClampNeg)).toInt64) * (((σ (R x0 16) x2.toNatClampNeg) - (σ (R x0 14) x2.toNatClampNeg)).toInt64)) + ((((σ (R x0 17) x2.toNatClampNeg) - (σ (R x0 15) x2.toNatClampNeg)).toInt64) * (((σ (R x0 17) x2.toNatClampNeg) - (σ (R x0 15) x2.toNatClampNeg)).toInt64))) then (((((σ (R x0 18) x1.toNatClampNeg) - (σ (R x0 14) x2.toNatClampNeg)).toInt64) * (((σ (R x0 16) x2.toNatClampNeg) - (σ (R x0 14) x2.toNatClampNeg)).toInt64)) + ((((σ (R x0 19) x1.toNatClampNeg) - (σ (R x0 15) x2.toNatClampNeg)).toInt64) * (((σ (R x0 17) x2.toNatClampNeg) - (σ (R x0 15) x2.toNatClampNeg)).toInt64))) else (((((σ (R x0 16) x2.toNatClampNeg) - (σ (R x0 14) x2.toNatClampNeg)).toInt64) * (((σ (R x0 16) x2.toNatClampNeg) - (σ (R x0 14) x2.toNatClampNeg)).toInt64)) + ((((σ (R x0 17) x2.toNatClampNeg) - (σ (R x0 15) x2.toNatClampNeg)).toInt64) * (((σ (R x0 17) x2.toNatClampNeg) - (σ (R x0 15) x2.toNatClampNeg)).toInt64))))) * (((σ (R x0 17) x2.toNatClampNeg) - (σ (R x0 15) x2.toNatClampNeg)).toInt64))) - (((σ (R x0 19) x1.toNatClampNeg).toInt64) * (if (((((σ (R x0 16) x2.toNatClampNeg) - (σ (R x0 14) x2.toNatClampNeg)).toInt64) * (((σ (R x0 16) x2.toNatClampNeg) - (σ (R x0 14) x2.toNatClampNeg)).toInt64)) + ((((σ (R x0 17) x2.toNatClampNeg) - (σ (R x0 15) x2.toNatClampNeg)).toInt64) * (((σ (R x0 17) x2.toNatClampNeg) - (σ (R x0 15) x2.toNatClampNeg)).toInt64))) < (1 : Int64) then (1 : Int64) else (((((σ (R x0 16) x2.toNatClampNeg) - (σ (R x0 14) x2.toNatClampNeg)).toInt64) * (((σ (R x0 16) x2.toNatClampNeg) - (σ (R x0 14) x2.toNatClampNeg)).toInt64)) + ((((σ (R x0 17) x2.toNatClampNeg) - (σ (R x0 15) x2.toNatClampNeg)).toInt64) * (((σ (R x0 17) x2.toNatClampNeg) - (σ (R x0 15) x2.toNatClampNeg)).toInt64))))))), (14, .long (((((σ (R x0 14) x2.toNatClampNeg).toInt64) * (if (((((σ (R x0 16) x2.toNatClampNeg) - (σ (R x0 14) x2.toNatClampNeg)).toInt64) * (((σ (R x0 16) x2.toNatClampNeg) - (σ (R x0 14) x2.toNatClampNeg)).toInt64)) + ((((σ (R x0 17) x2.toNatClampNeg) - (σ (R x0 15) x2.toNatClampNeg)).toInt64) * (((σ (R x0 17) x2.toNatClampNeg) - (σ (R x0 15) x2.toNatClampNeg)).toInt64))) < (1 : Int64) then (1 : Int64) else (((((σ (R x0 16) x2.toNatClampNeg) - (σ (R x0 14) x2.toNatClampNeg)).toInt64) * (((σ (R x0 16) x2.toNatClampNeg) - (σ (R x0 14) x2.toNatClampNeg)).toInt64)) + ((((σ (R x0 17) x2.toNatClampNeg) - (σ (R x0 15) x2.toNatClampNeg)).toInt64) * (((σ (R x0 17) x2.toNatClampNeg) - (σ (R x0 15) x2.toNatClampNeg)).toInt64))))) + ((if (if (((((σ (R x0 18) x1.toNatClampNeg) - (σ (R x0 14) x2.toNatClampNeg)).toInt64) * (((σ (R x0 16) x2.toNatClampNeg) - (σ (R x0 14) x2.toNatClampNeg)).toInt64)) + ((((σ (R x0 19) x1.toNatClampNeg) - (σ (R x0 15) x2.toNatClampNeg)).toInt64) * (((σ (R x0 17) x2.toNatClampNeg) - (σ (R x0 15) x2.toNatClampNeg)).toInt64))) < (((((σ (R x0 16) x2.toNatClampNeg) - (σ (R x0 14) x2.toNatClampNeg)).toInt64) * (((σ (R x0 16) x2.toNatClampNeg) - (σ (R x0 14) x2.toNatClampNeg)).toInt64)) + ((((σ (R x0 17) x2.toNatClampNeg) - (σ (R x0 15) x2.toNatClampNeg)).toInt64) * (((σ (R x0 17) x2.toNatClampNeg) - (σ (R x0 15) x2.toNatClampNeg)).toInt64))) then (((((σ (R x0 18) x1.toNatClampNeg) - (σ (R x0 14) x2.toNatClampNeg)).toInt64) * (((σ (R x0 16) x2.toNatClampNeg) - (σ (R x0 14) x2.toNatClampNeg)).toInt64)) + ((((σ (R x0 19) x1.toNatClampNeg) - (σ (R x0 15) x2.toNatClampNeg)).toInt64) * (((σ (R x0 17) x2.toNatClampNeg) - (σ (R x0 15) x2.toNatClampNeg)).toInt64))) else (((((σ (R x0 16) x2.toNatClampNeg) - (σ (R x0 14) x2.toNatClampNeg)).toInt64) * (((σ (R x0 16) x2.toNatClampNeg) - (σ (R x0 14) x2.toNatClampNeg)).toInt64)) + ((((σ (R x0 17) x2.toNatClampNeg) - (σ (R x0 15) x2.toNatClampNeg)).toInt64) * (((σ (R x0 17) x2.toNatClampNeg) - (σ (R x0 15) x2.toNatClampNeg)).toInt64)))) < (0 : Int64) then (0 : Int64) else (if (((((σ (R x0 18) x1.toNatClampNeg) - (σ (R x0 14) x2.toNatClampNeg)).toInt64) * (((σ (R x0 16) x2.toNatClampNeg) - (σ (R x0 14) x2.toNatClampNeg)).toInt64)) + ((((σ (R x0 19) x1.toNatClampNeg) - (σ (R x0 15) x2.toNatClampNeg)).toInt64) * (((σ (R x0 17) x2.toNatClampNeg) - (σ (R x0 15) x2.toNatClampNeg)).toInt64))) < (((((σ (R x0 16) x2.toNatClampNeg) - (σ (R x0 14) x2.toNatClampNeg)).toInt64) * (((σ (R x0 16) x2.toNatClampNeg) - (σ (R x0 14) x2.toNatClampNeg)).toInt64)) + ((((σ (R x0 17) x2.toNatClampNeg) - (σ (R x0 15) x2.toNatClampNeg)).toInt64) * (((σ (R x0 17) x2.toNatClampNeg) - (σ (R x0 15) x2.toNatClampNeg)).toInt64))) then (((((σ (R x0 18) x1.toNatClampNeg) - (σ (R x0 14) x2.toNatClampNeg)).toInt64) * (((σ (R x0 16) x2.toNatClampNeg) - (σ (R x0 14) x2.toNatClampNeg)).toInt64)) + ((((σ (R x0 19) x1.toNatClampNeg) - (σ (R x0 15) x2.toNatClampNeg)).toInt64) * (((σ (R x0 17) x2.toNatClampNeg) - (σ (R x0 15) x2.toNatClampNeg)).toInt64))) else (((((σ (R x0 16) x2.toNatClampNeg) - (σ (R x0 14) x2.toNatClampNeg)).toInt64) * (((σ (R x0 16) x2.toNatClampNeg) - (σ (R x0 14) x2.toNatClampNeg)).toInt64)) + ((((σ (R x0 17) x2.toNatClampNeg) - (σ (R x0 15) x2.toNatClampNeg)).toInt64) * (((σ (R x0 17) x2.toNatClampNeg) - (σ (R x0 15) x2.toNatClampNeg)).toInt64))))) * (((σ (R x0 16) x2.toNatClampNeg) - (σ (R x0 14) x2.toNatClampNeg)).toInt64))) - (((σ (R x0 18) x1.toNatClampNeg).toInt64) * (if (((((σ (R x0 16) x2.toNatClampNeg) - (σ (R x0 14) x2.toNatClampNeg)).toInt64) * (((σ (R x0 16) x2.toNatClampNeg) - (σ (R x0 14) x2.toNatClampNeg)).toInt64)) + ((((σ (R x0 17) x2.toNatClampNeg) - (σ (R x0 15) x2.toNatClampNeg)).toInt64) * (((σ (R x0 17) x2.toNatClampNeg) - (σ (R x0 15) x2.toNatClampNeg)).toInt64))) < (1 : Int64) then (1 : Int64) else (((((σ (R x0 16) x2.toNatClampNeg) - (σ (R x0 14) x2.toNatClampNeg)).toInt64) * (((σ (R x0 16) x2.toNatClampNeg) - (σ (R x0 14) x2.toNatClampNeg)).toInt64)) + ((((σ (R x0 17) x2.toNatClampNeg) - (σ (R x0 15) x2.toNatClampNeg)).toInt64) * (((σ (R x0 17) x2.toNatClampNeg) - (σ (R x0 15) x2.toNatClampNeg)).toInt64))))))), (12, .long (if (((((σ (R x0 16) x2.toNatClampNeg) - (σ (R x0 14) x2.toNatClampNeg)).toInt64) * (((σ (R x0 16) x2.toNatClampNeg) - (σ (R x0 14) x2.toNatClampNeg)).toInt64)) + ((((σ (R x0 17) x2.toNatClampNeg) - (σ (R x0 15) x2.toNatClampNeg)).toInt64) * (((σ (R x0 17) x2.toNatClampNeg) - (σ (R x0 15) x2.toNatClampNeg)).toInt64))) < (1 : Int64) then (1 : Int64) else (((((σ (R x0 16) x2.toNatClampNeg) - (σ (R x0 14) x2.toNatClampNeg)).toInt64) * (((σ (R x0 16) x2.toNatClampNeg) - (σ (R x0 14) x2.toNatClampNeg)).toInt64)) + ((((σ (R x0 17) x2.toNatClampNeg) - (σ (R x0 15) x2.toNatClampNeg)).toInt64) * (((σ (R x0 17) x2.toNatClampNeg) - (σ (R x0 15) x2.toNatClampNeg)).toInt64))))), (10, .long (if (if (((((σ (R x0 18) x1.toNatClampNeg) - (σ (R x0 14) x2.toNatClampNeg)).toInt64) * (((σ (R x0 16) x2.toNatClampNeg) - (σ (R x0 14) x2.toNatClampNeg)).toInt64)) + ((((σ (R x0 19) x1.toNatClampNeg) - (σ (R x0 15) x2.toNatClampNeg)).toInt64) * (((σ (R x0 17) x2.toNatClampNeg) - (σ (R x0 15) x2.toNatClampNeg)).toInt64))) < (((((σ (R x0 16) x2.toNatClampNeg) - (σ (R x0 14) x2.toNatClampNeg)).toInt64) * (((σ (R x0 16) x2.toNatClampNeg) - (σ (R x0 14) x2.toNatClampNeg)).toInt64)) + ((((σ (R x0 17) x2.toNatClampNeg) - (σ (R x0 15) x2.toNatClampNeg)).toInt64) * (((σ (R x0 17) x2.toNatClampNeg) - (σ (R x0 15) x2.toNatClampNeg)).toInt64))) then (((((σ (R x0 18) x1.toNatClampNeg) - (σ (R x0 14) x2.toNatClampNeg)).toInt64) * (((σ (R x0 16) x2.toNatClampNeg) - (σ (R x0 14) x2.toNatClampNeg)).toInt64)) + ((((σ (R x0 19) x1.toNatClampNeg) - (σ (R x0 15) x2.toNatClampNeg)).toInt64) * (((σ (R x0 17) x2.toNatClampNeg) - (σ (R x0 15) x2.toNatClampNeg)).toInt64))) else (((((σ (R x0 16) x2.toNatClampNeg) - (σ (R x0 14) x2.toNatClampNeg)).toInt64) * (((σ (R x0 16) x2.toNatClampNeg) - (σ (R x0 14) x2.toNatClampNeg)).toInt64)) + ((((σ (R x0 17) x2.toNatClampNeg) - (σ (R x0 15) x2.toNatClampNeg)).toInt64) * (((σ (R x0 17) x2.toNatClampNeg) - (σ (R x0 15) x2.toNatClampNeg)).toInt64)))) < (0 : Int64) then (0 : Int64) else (if (((((σ (R x0 18) x1.toNatClampNeg) - (σ (R x0 14) x2.toNatClampNeg)).toInt64) * (((σ (R x0 16) x2.toNatClampNeg) - (σ (R x0 14) x2.toNatClampNeg)).toInt64)) + ((((σ (R x0 19) x1.toNatClampNeg) - (σ (R x0 15) x2.toNatClampNeg)).toInt64) * (((σ (R x0 17) x2.toNatClampNeg) - (σ (R x0 15) x2.toNatClampNeg)).toInt64))) < (((((σ (R x0 16) x2.toNatClampNeg) - (σ (R x0 14) x2.toNatClampNeg)).toInt64) * (((σ (R x0 16) x2.toNatClampNeg) - (σ (R x0 14) x2.toNatClampNeg)).toInt64)) + ((((σ (R x0 17) x2.toNatClampNeg) - (σ (R x0 15) x2.toNatClampNeg)).toInt64) * (((σ (R x0 17) x2.toNatClampNeg) - (σ (R x0 15) x2.toNatClampNeg)).toInt64))) then (((((σ (R x0 18) x1.toNatClampNeg) - (σ (R x0 14) x2.toNatClampNeg)).toInt64) * (((σ (R x0 16) x2.toNatClampNeg) - (σ (R x0 14) x2.toNatClampNeg)).toInt64)) + ((((σ (R x0 19) x1.toNatClampNeg) - (σ (R x0 15) x2.toNatClampNeg)).toInt64) * (((σ (R x0 17) x2.toNatClampNeg) - (σ (R x0 15) x2.toNatClampNeg)).toInt64))) else (((((σ (R x0 16) x2.toNatClampNeg) - (σ (R x0 14) x2.toNatClampNeg)).toInt64) * (((σ (R x0 16) x2.toNatClampNeg) - (σ (R x0 14) x2.toNatClampNeg)).toInt64)) + ((((σ (R x0 17) x2.toNatClampNeg) - (σ (R x0 15) x2.toNatClampNeg)).toInt64) * (((σ (R x0 17) x2.toNatClampNeg) - (σ (R x0 15) x2.toNatClampNeg)).toInt64)))))), (8, .long (((((σ (R x0 16) x2.toNatClampNeg) - (σ (R x0 14) x2.toNatClampNeg)).toInt64) * (((σ (R x0 16) x2.toNatClampNeg) - (σ (R x0 14) x2.toNatClampNeg)).toInt64)) + ((((σ (R x0 17) x2.toNatClampNeg) - (σ (R x0 15) x2.toNatClampNeg)).toInt64) * (((σ (R x0 17) x2.toNatClampNeg) - (σ (R x0 15) x2.toNatClampNeg)).toInt64)))), (6, .long (((σ (R x0 17) x2.toNatClampNeg) - (σ (R x0 15) x2.toNatClampNeg)).toInt64)), (4, .long (((σ (R x0 16) x2.toNatClampNeg) - (σ (R x0 14) x2.toNatClampNeg)).toInt64)), (0, .ref (ga g x0)), (1, .int x1), (2, .int x2), (3, .int x3)]) hx hb dX12_comes_170 hl (by decide) rfl (fun ls hl => ?_)
    refine lv_lload hx hb dX12_comes_172 (lv_at hl 1 rfl) ?_
    refine lv_lload hx hb dX12_comes_174 (lv_at hl 1 rfl) ?_
    refine lv_lmul hx hb dX12_comes_176 ?_
    refine lv_lload hx hb dX12_comes_177 (lv_at hl 0 rfl) ?_
    refine lv_lload hx hb dX12_comes_179 (lv_at hl 0 rfl) ?_
    refine lv_lmul hx hb dX12_comes_181 ?_
    refine lv_ladd hx hb dX12_comes_182 ?_
    refine lv_iload_n hx hb dX12_comes_183 rfl (lv_at hl 10 rfl) ?_
    refine lv_iload_n hx hb dX12_comes_184 rfl (lv_at hl 10 rfl) ?_
    refine lv_imul hx hb dX12_comes_185 ?_
    refine lv_i2l hx hb dX12_comes_186 rfl ?_
    refine lv_lload hx hb dX12_comes_187 (lv_at hl 2 rfl) ?_
    refine lv_lmul hx hb dX12_comes_189 ?_
    refine lv_lload hx hb dX12_comes_190 (lv_at hl 2 rfl) ?_
    refine lv_lmul hx hb dX12_comes_192 ?_
    refine W.lcmp hx hb dX12_comes_193 ?_
    refine lv_if_gt (tgt := 201) hx hb dX12_comes_194 (by decide) (fun c26 => ?_) (fun c26 => ?_)
    · have h := it_p c26 h
      refine lv_iconst (v := (0 : Int32)) hx hb dX12_comes_201 (by decide) ?_
      exact x_zret C S hr (by decide) h dX12_comes_202
    · have h := it_n c26 h
      refine lv_iconst (v := (1 : Int32)) hx hb dX12_comes_197 (by decide) ?_
      refine lv_goto (tgt := 202) hx hb dX12_comes_198 (by decide) ?_
      exact x_zret C S hr (by decide) h dX12_comes_202
  · have h := it_p c17 h
    refine lv_lconst (v := (0 : Int64)) hx hb dX12_comes_89 (by decide) ?_
    refine lv_goto (tgt := 104) hx hb dX12_comes_90 (by decide) ?_
    refine lv_lstore (lv' := [(10, .long (0 : Int64)), (8, .long (((((σ (R x0 16) x2.toNatClampNeg) - (σ (R x0 14) x2.toNatClampNeg)).toInt64) * (((σ (R x0 16) x2.toNatClampNeg) - (σ (R x0 14) x2.toNatClampNeg)).toInt64)) + ((((σ (R x0 17) x2.toNatClampNeg) - (σ (R x0 15) x2.toNatClampNeg)).toInt64) * (((σ (R x0 17) x2.toNatClampNeg) - (σ (R x0 15) x2.toNatClampNeg)).toInt64)))), (6, .long (((σ (R x0 17) x2.toNatClampNeg) - (σ (R x0 15) x2.toNatClampNeg)).toInt64)), (4, .long (((σ (R x0 16) x2.toNatClampNeg) - (σ (R x0 14) x2.toNatClampNeg)).toInt64)), (0, .ref (ga g x0)), (1, .int x1), (2, .int x2), (3, .int x3)]) hx hb dX12_comes_104 hl (by decide) rfl (fun ls hl => ?_)
    refine lv_lconst (v := (1 : Int64)) hx hb dX12_comes_106 (by decide) ?_
    refine lv_lload hx hb dX12_comes_107 (lv_at hl 1 rfl) ?_
    refine x_maxL C hl.1 ⟨ml_RX12_155, st_mathL_max, ni_math, cd_mathL_max⟩ (Nat.le_of_ble_eq_true rfl) (Nat.le_of_ble_eq_true rfl) (Nat.le_of_ble_eq_true rfl) (Nat.le_of_ble_eq_true rfl) dX12_comes_109 ?_
    refine lv_lstore (lv' := [(12, .long (if (((((σ (R x0 16) x2.toNatClampNeg) - (σ (R x0 14) x2.toNatClampNeg)).toInt64) * (((σ (R x0 16) x2.toNatClampNeg) - (σ (R x0 14) x2.toNatClampNeg)).toInt64)) + ((((σ (R x0 17) x2.toNatClampNeg) - (σ (R x0 15) x2.toNatClampNeg)).toInt64) * (((σ (R x0 17) x2.toNatClampNeg) - (σ (R x0 15) x2.toNatClampNeg)).toInt64))) < (1 : Int64) then (1 : Int64) else (((((σ (R x0 16) x2.toNatClampNeg) - (σ (R x0 14) x2.toNatClampNeg)).toInt64) * (((σ (R x0 16) x2.toNatClampNeg) - (σ (R x0 14) x2.toNatClampNeg)).toInt64)) + ((((σ (R x0 17) x2.toNatClampNeg) - (σ (R x0 15) x2.toNatClampNeg)).toInt64) * (((σ (R x0 17) x2.toNatClampNeg) - (σ (R x0 15) x2.toNatClampNeg)).toInt64))))), (10, .long (0 : Int64)), (8, .long (((((σ (R x0 16) x2.toNatClampNeg) - (σ (R x0 14) x2.toNatClampNeg)).toInt64) * (((σ (R x0 16) x2.toNatClampNeg) - (σ (R x0 14) x2.toNatClampNeg)).toInt64)) + ((((σ (R x0 17) x2.toNatClampNeg) - (σ (R x0 15) x2.toNatClampNeg)).toInt64) * (((σ (R x0 17) x2.toNatClampNeg) - (σ (R x0 15) x2.toNatClampNeg)).toInt64)))), (6, .long (((σ (R x0 17) x2.toNatClampNeg) - (σ (R x0 15) x2.toNatClampNeg)).toInt64)), (4, .long (((σ (R x0 16) x2.toNatClampNeg) - (σ (R x0 14) x2.toNatClampNeg)).toInt64)), (0, .ref (ga g x0)), (1, .int x1), (2, .int x2), (3, .int x3)]) hx hb dX12_comes_112 hl (by decide) rfl (fun ls hl => ?_)
    refine lv_aload_n hx hb dX12_comes_114 rfl (lv_at hl 5 rfl) ?_
    have hR27 : Ok 202 (R x0 14) 10002 := hSh x0 12 14 10002 hx0.1 rfl
    refine x_getR C S KX12 hx0 14 (by decide) rfl rfl fl_RX12_25 hR27 dX12_comes_115 ?_
    refine lv_iload_n hx hb dX12_comes_118 rfl (lv_at hl 7 rfl) ?_
    obtain ⟨hi28, h⟩ := ck_el h
    refine x_iald (len := 2) C S (by decide) hR27 hi28 dX12_comes_119 ?_
    refine lv_i2l hx hb dX12_comes_120 rfl ?_
    refine lv_lload hx hb dX12_comes_121 (lv_at hl 0 rfl) ?_
    refine lv_lmul hx hb dX12_comes_123 ?_
    refine lv_lload hx hb dX12_comes_124 (lv_at hl 1 rfl) ?_
    refine lv_lload hx hb dX12_comes_126 (lv_at hl 4 rfl) ?_
    refine lv_lmul hx hb dX12_comes_128 ?_
    refine lv_ladd hx hb dX12_comes_129 ?_
    refine lv_aload_n hx hb dX12_comes_130 rfl (lv_at hl 5 rfl) ?_
    have hR29 : Ok 202 (R x0 18) 10003 := hSh x0 12 18 10003 hx0.1 rfl
    refine x_getR C S KX12 hx0 18 (by decide) rfl rfl fl_RX12_37 hR29 dX12_comes_131 ?_
    refine lv_iload_n hx hb dX12_comes_134 rfl (lv_at hl 6 rfl) ?_
    obtain ⟨hi30, h⟩ := ck_el h
    refine x_iald (len := 3) C S (by decide) hR29 hi30 dX12_comes_135 ?_
    refine lv_i2l hx hb dX12_comes_136 rfl ?_
    refine lv_lload hx hb dX12_comes_137 (lv_at hl 0 rfl) ?_
    refine lv_lmul hx hb dX12_comes_139 ?_
    refine lv_lsub hx hb dX12_comes_140 ?_
    refine lv_lstore (lv' := [(14, .long (((((σ (R x0 14) x2.toNatClampNeg).toInt64) * (if (((((σ (R x0 16) x2.toNatClampNeg) - (σ (R x0 14) x2.toNatClampNeg)).toInt64) * (((σ (R x0 16) x2.toNatClampNeg) - (σ (R x0 14) x2.toNatClampNeg)).toInt64)) + ((((σ (R x0 17) x2.toNatClampNeg) - (σ (R x0 15) x2.toNatClampNeg)).toInt64) * (((σ (R x0 17) x2.toNatClampNeg) - (σ (R x0 15) x2.toNatClampNeg)).toInt64))) < (1 : Int64) then (1 : Int64) else (((((σ (R x0 16) x2.toNatClampNeg) - (σ (R x0 14) x2.toNatClampNeg)).toInt64) * (((σ (R x0 16) x2.toNatClampNeg) - (σ (R x0 14) x2.toNatClampNeg)).toInt64)) + ((((σ (R x0 17) x2.toNatClampNeg) - (σ (R x0 15) x2.toNatClampNeg)).toInt64) * (((σ (R x0 17) x2.toNatClampNeg) - (σ (R x0 15) x2.toNatClampNeg)).toInt64))))) + ((0 : Int64) * (((σ (R x0 16) x2.toNatClampNeg) - (σ (R x0 14) x2.toNatClampNeg)).toInt64))) - (((σ (R x0 18) x1.toNatClampNeg).toInt64) * (if (((((σ (R x0 16) x2.toNatClampNeg) - (σ (R x0 14) x2.toNatClampNeg)).toInt64) * (((σ (R x0 16) x2.toNatClampNeg) - (σ (R x0 14) x2.toNatClampNeg)).toInt64)) + ((((σ (R x0 17) x2.toNatClampNeg) - (σ (R x0 15) x2.toNatClampNeg)).toInt64) * (((σ (R x0 17) x2.toNatClampNeg) - (σ (R x0 15) x2.toNatClampNeg)).toInt64))) < (1 : Int64) then (1 : Int64) else (((((σ (R x0 16) x2.toNatClampNeg) - (σ (R x0 14) x2.toNatClampNeg)).toInt64) * (((σ (R x0 16) x2.toNatClampNeg) - (σ (R x0 14) x2.toNatClampNeg)).toInt64)) + ((((σ (R x0 17) x2.toNatClampNeg) - (σ (R x0 15) x2.toNatClampNeg)).toInt64) * (((σ (R x0 17) x2.toNatClampNeg) - (σ (R x0 15) x2.toNatClampNeg)).toInt64))))))), (12, .long (if (((((σ (R x0 16) x2.toNatClampNeg) - (σ (R x0 14) x2.toNatClampNeg)).toInt64) * (((σ (R x0 16) x2.toNatClampNeg) - (σ (R x0 14) x2.toNatClampNeg)).toInt64)) + ((((σ (R x0 17) x2.toNatClampNeg) - (σ (R x0 15) x2.toNatClampNeg)).toInt64) * (((σ (R x0 17) x2.toNatClampNeg) - (σ (R x0 15) x2.toNatClampNeg)).toInt64))) < (1 : Int64) then (1 : Int64) else (((((σ (R x0 16) x2.toNatClampNeg) - (σ (R x0 14) x2.toNatClampNeg)).toInt64) * (((σ (R x0 16) x2.toNatClampNeg) - (σ (R x0 14) x2.toNatClampNeg)).toInt64)) + ((((σ (R x0 17) x2.toNatClampNeg) - (σ (R x0 15) x2.toNatClampNeg)).toInt64) * (((σ (R x0 17) x2.toNatClampNeg) - (σ (R x0 15) x2.toNatClampNeg)).toInt64))))), (10, .long (0 : Int64)), (8, .long (((((σ (R x0 16) x2.toNatClampNeg) - (σ (R x0 14) x2.toNatClampNeg)).toInt64) * (((σ (R x0 16) x2.toNatClampNeg) - (σ (R x0 14) x2.toNatClampNeg)).toInt64)) + ((((σ (R x0 17) x2.toNatClampNeg) - (σ (R x0 15) x2.toNatClampNeg)).toInt64) * (((σ (R x0 17) x2.toNatClampNeg) - (σ (R x0 15) x2.toNatClampNeg)).toInt64)))), (6, .long (((σ (R x0 17) x2.toNatClampNeg) - (σ (R x0 15) x2.toNatClampNeg)).toInt64)), (4, .long (((σ (R x0 16) x2.toNatClampNeg) - (σ (R x0 14) x2.toNatClampNeg)).toInt64)), (0, .ref (ga g x0)), (1, .int x1), (2, .int x2), (3, .int x3)]) hx hb dX12_comes_141 hl (by decide) rfl (fun ls hl => ?_)
    refine lv_aload_n hx hb dX12_comes_143 rfl (lv_at hl 6 rfl) ?_
    have hR31 : Ok 202 (R x0 15) 10002 := hSh x0 12 15 10002 hx0.1 rfl
    refine x_getR C S KX12 hx0 15 (by decide) rfl rfl fl_RX12_28 hR31 dX12_comes_144 ?_
    refine lv_iload_n hx hb dX12_comes_147 rfl (lv_at hl 8 rfl) ?_
    obtain ⟨hi32, h⟩ := ck_el h
    refine x_iald (len := 2) C S (by decide) hR31 hi32 dX12_comes_148 ?_
    refine lv_i2l hx hb dX12_comes_149 rfl ?_
    refine lv_lload hx hb dX12_comes_150 (lv_at hl 1 rfl) ?_
    refine lv_lmul hx hb dX12_comes_152 ?_
    refine lv_lload hx hb dX12_comes_153 (lv_at hl 2 rfl) ?_
    refine lv_lload hx hb dX12_comes_155 (lv_at hl 4 rfl) ?_
    refine lv_lmul hx hb dX12_comes_157 ?_
    refine lv_ladd hx hb dX12_comes_158 ?_
    refine lv_aload_n hx hb dX12_comes_159 rfl (lv_at hl 6 rfl) ?_
    have hR33 : Ok 202 (R x0 19) 10003 := hSh x0 12 19 10003 hx0.1 rfl
    refine x_getR C S KX12 hx0 19 (by decide) rfl rfl fl_RX12_40 hR33 dX12_comes_160 ?_
    refine lv_iload_n hx hb dX12_comes_163 rfl (lv_at hl 7 rfl) ?_
    obtain ⟨hi34, h⟩ := ck_el h
    refine x_iald (len := 3) C S (by decide) hR33 hi34 dX12_comes_164 ?_
    refine lv_i2l hx hb dX12_comes_165 rfl ?_
    refine lv_lload hx hb dX12_comes_166 (lv_at hl 1 rfl) ?_
    refine lv_lmul hx hb dX12_comes_168 ?_
    refine lv_lsub hx hb dX12_comes_169 ?_
    refine lv_lstore (lv' := [(16, .long (((((σ (R x0 15) x2.toNatClampNeg).toInt64) * (if (((((σ (R x0 16) x2.toNatClampNeg) - (σ (R x0 14) x2.toNatClampNeg)).toInt64) * (((σ (R x0 16) x2.toNatClampNeg) - (σ (R x0 14) x2.toNatClampNeg)).toInt64)) + ((((σ (R x0 17) x2.toNatClampNeg) - (σ (R x0 15) x2.toNatClampNeg)).toInt64) * (((σ (R x0 17) x2.toNatClampNeg) - (σ (R x0 15) x2.toNatClampNeg)).toInt64))) < (1 : Int64) then (1 : Int64) else (((((σ (R x0 16) x2.toNatClampNeg) - (σ (R x0 14) x2.toNatClampNeg)).toInt64) * (((σ (R x0 16) x2.toNatClampNeg) - (σ (R x0 14) x2.toNatClampNeg)).toInt64)) + ((((σ (R x0 17) x2.toNatClampNeg) - (σ (R x0 15) x2.toNatClampNeg)).toInt64) * (((σ (R x0 17) x2.toNatClampNeg) - (σ (R x0 15) x2.toNatClampNeg)).toInt64))))) + ((0 : Int64) * (((σ (R x0 17) x2.toNatClampNeg) - (σ (R x0 15) x2.toNatClampNeg)).toInt64))) - (((σ (R x0 19) x1.toNatClampNeg).toInt64) * (if (((((σ (R x0 16) x2.toNatClampNeg) - (σ (R x0 14) x2.toNatClampNeg)).toInt64) * (((σ (R x0 16) x2.toNatClampNeg) - (σ (R x0 14) x2.toNatClampNeg)).toInt64)) + ((((σ (R x0 17) x2.toNatClampNeg) - (σ (R x0 15) x2.toNatClampNeg)).toInt64) * (((σ (R x0 17) x2.toNatClampNeg) - (σ (R x0 15) x2.toNatClampNeg)).toInt64))) < (1 : Int64) then (1 : Int64) else (((((σ (R x0 16) x2.toNatClampNeg) - (σ (R x0 14) x2.toNatClampNeg)).toInt64) * (((σ (R x0 16) x2.toNatClampNeg) - (σ (R x0 14) x2.toNatClampNeg)).toInt64)) + ((((σ (R x0 17) x2.toNatClampNeg) - (σ (R x0 15) x2.toNatClampNeg)).toInt64) * (((σ (R x0 17) x2.toNatClampNeg) - (σ (R x0 15) x2.toNatClampNeg)).toInt64))))))), (14, .long (((((σ (R x0 14) x2.toNatClampNeg).toInt64) * (if (((((σ (R x0 16) x2.toNatClampNeg) - (σ (R x0 14) x2.toNatClampNeg)).toInt64) * (((σ (R x0 16) x2.toNatClampNeg) - (σ (R x0 14) x2.toNatClampNeg)).toInt64)) + ((((σ (R x0 17) x2.toNatClampNeg) - (σ (R x0 15) x2.toNatClampNeg)).toInt64) * (((σ (R x0 17) x2.toNatClampNeg) - (σ (R x0 15) x2.toNatClampNeg)).toInt64))) < (1 : Int64) then (1 : Int64) else (((((σ (R x0 16) x2.toNatClampNeg) - (σ (R x0 14) x2.toNatClampNeg)).toInt64) * (((σ (R x0 16) x2.toNatClampNeg) - (σ (R x0 14) x2.toNatClampNeg)).toInt64)) + ((((σ (R x0 17) x2.toNatClampNeg) - (σ (R x0 15) x2.toNatClampNeg)).toInt64) * (((σ (R x0 17) x2.toNatClampNeg) - (σ (R x0 15) x2.toNatClampNeg)).toInt64))))) + ((0 : Int64) * (((σ (R x0 16) x2.toNatClampNeg) - (σ (R x0 14) x2.toNatClampNeg)).toInt64))) - (((σ (R x0 18) x1.toNatClampNeg).toInt64) * (if (((((σ (R x0 16) x2.toNatClampNeg) - (σ (R x0 14) x2.toNatClampNeg)).toInt64) * (((σ (R x0 16) x2.toNatClampNeg) - (σ (R x0 14) x2.toNatClampNeg)).toInt64)) + ((((σ (R x0 17) x2.toNatClampNeg) - (σ (R x0 15) x2.toNatClampNeg)).toInt64) * (((σ (R x0 17) x2.toNatClampNeg) - (σ (R x0 15) x2.toNatClampNeg)).toInt64))) < (1 : Int64) then (1 : Int64) else (((((σ (R x0 16) x2.toNatClampNeg) - (σ (R x0 14) x2.toNatClampNeg)).toInt64) * (((σ (R x0 16) x2.toNatClampNeg) - (σ (R x0 14) x2.toNatClampNeg)).toInt64)) + ((((σ (R x0 17) x2.toNatClampNeg) - (σ (R x0 15) x2.toNatClampNeg)).toInt64) * (((σ (R x0 17) x2.toNatClampNeg) - (σ (R x0 15) x2.toNatClampNeg)).toInt64))))))), (12, .long (if (((((σ (R x0 16) x2.toNatClampNeg) - (σ (R x0 14) x2.toNatClampNeg)).toInt64) * (((σ (R x0 16) x2.toNatClampNeg) - (σ (R x0 14) x2.toNatClampNeg)).toInt64)) + ((((σ (R x0 17) x2.toNatClampNeg) - (σ (R x0 15) x2.toNatClampNeg)).toInt64) * (((σ (R x0 17) x2.toNatClampNeg) - (σ (R x0 15) x2.toNatClampNeg)).toInt64))) < (1 : Int64) then (1 : Int64) else (((((σ (R x0 16) x2.toNatClampNeg) - (σ (R x0 14) x2.toNatClampNeg)).toInt64) * (((σ (R x0 16) x2.toNatClampNeg) - (σ (R x0 14) x2.toNatClampNeg)).toInt64)) + ((((σ (R x0 17) x2.toNatClampNeg) - (σ (R x0 15) x2.toNatClampNeg)).toInt64) * (((σ (R x0 17) x2.toNatClampNeg) - (σ (R x0 15) x2.toNatClampNeg)).toInt64))))), (10, .long (0 : Int64)), (8, .long (((((σ (R x0 16) x2.toNatClampNeg) - (σ (R x0 14) x2.toNatClampNeg)).toInt64) * (((σ (R x0 16) x2.toNatClampNeg) - (σ (R x0 14) x2.toNatClampNeg)).toInt64)) + ((((σ (R x0 17) x2.toNatClampNeg) - (σ (R x0 15) x2.toNatClampNeg)).toInt64) * (((σ (R x0 17) x2.toNatClampNeg) - (σ (R x0 15) x2.toNatClampNeg)).toInt64)))), (6, .long (((σ (R x0 17) x2.toNatClampNeg) - (σ (R x0 15) x2.toNatClampNeg)).toInt64)), (4, .long (((σ (R x0 16) x2.toNatClampNeg) - (σ (R x0 14) x2.toNatClampNeg)).toInt64)), (0, .ref (ga g x0)), (1, .int x1), (2, .int x2), (3, .int x3)]) hx hb dX12_comes_170 hl (by decide) rfl (fun ls hl => ?_)
    refine lv_lload hx hb dX12_comes_172 (lv_at hl 1 rfl) ?_
    refine lv_lload hx hb dX12_comes_174 (lv_at hl 1 rfl) ?_
    refine lv_lmul hx hb dX12_comes_176 ?_
    refine lv_lload hx hb dX12_comes_177 (lv_at hl 0 rfl) ?_
    refine lv_lload hx hb dX12_comes_179 (lv_at hl 0 rfl) ?_
    refine lv_lmul hx hb dX12_comes_181 ?_
    refine lv_ladd hx hb dX12_comes_182 ?_
    refine lv_iload_n hx hb dX12_comes_183 rfl (lv_at hl 10 rfl) ?_
    refine lv_iload_n hx hb dX12_comes_184 rfl (lv_at hl 10 rfl) ?_
    refine lv_imul hx hb dX12_comes_185 ?_
    refine lv_i2l hx hb dX12_comes_186 rfl ?_
    refine lv_lload hx hb dX12_comes_187 (lv_at hl 2 rfl) ?_
    refine lv_lmul hx hb dX12_comes_189 ?_
    refine lv_lload hx hb dX12_comes_190 (lv_at hl 2 rfl) ?_
    refine lv_lmul hx hb dX12_comes_192 ?_
    refine W.lcmp hx hb dX12_comes_193 ?_
    refine lv_if_gt (tgt := 201) hx hb dX12_comes_194 (by decide) (fun c35 => ?_) (fun c35 => ?_)
    · have h := it_p c35 h
      refine lv_iconst (v := (0 : Int32)) hx hb dX12_comes_201 (by decide) ?_
      exact x_zret C S hr (by decide) h dX12_comes_202
    · have h := it_n c35 h
      refine lv_iconst (v := (1 : Int32)) hx hb dX12_comes_197 (by decide) ?_
      refine lv_goto (tgt := 202) hx hb dX12_comes_198 (by decide) ?_
      exact x_zret C S hr (by decide) h dX12_comes_202
theorem dX12_isQuiet_0 : decode cX12_isQuiet 0 = .ok (.iload_n 2, 1) := by decide +kernel
theorem dX12_isQuiet_1 : decode cX12_isQuiet 1 = .ok (.aload_n 0, 1) := by decide +kernel
theorem dX12_isQuiet_2 : decode cX12_isQuiet 2 = .ok (.getfield 19, 3) := by decide +kernel
theorem dX12_isQuiet_5 : decode cX12_isQuiet 5 = .ok (.iload_n 1, 1) := by decide +kernel
theorem dX12_isQuiet_6 : decode cX12_isQuiet 6 = .ok (.iaload, 1) := by decide +kernel
theorem dX12_isQuiet_7 : decode cX12_isQuiet 7 = .ok (.if_icmp .lt 17, 3) := by decide +kernel
theorem dX12_isQuiet_10 : decode cX12_isQuiet 10 = .ok (.iload_n 2, 1) := by decide +kernel
theorem dX12_isQuiet_11 : decode cX12_isQuiet 11 = .ok (.aload_n 0, 1) := by decide +kernel
theorem dX12_isQuiet_12 : decode cX12_isQuiet 12 = .ok (.getfield 22, 3) := by decide +kernel
theorem dX12_isQuiet_15 : decode cX12_isQuiet 15 = .ok (.iload_n 1, 1) := by decide +kernel
theorem dX12_isQuiet_16 : decode cX12_isQuiet 16 = .ok (.iaload, 1) := by decide +kernel
theorem dX12_isQuiet_17 : decode cX12_isQuiet 17 = .ok (.if_icmp .ge 7, 3) := by decide +kernel
theorem dX12_isQuiet_20 : decode cX12_isQuiet 20 = .ok (.iconst 1, 1) := by decide +kernel
theorem dX12_isQuiet_21 : decode cX12_isQuiet 21 = .ok (.goto 4, 3) := by decide +kernel
theorem dX12_isQuiet_24 : decode cX12_isQuiet 24 = .ok (.iconst 0, 1) := by decide +kernel
theorem dX12_isQuiet_25 : decode cX12_isQuiet 25 = .ok (.ireturn, 1) := by decide +kernel
def f_X12_isQuiet (N : Nat) (R : Nat → Nat → Nat) (σ : SI) (x0 : Nat) (x1 : Int32) (x2 : Int32) : Option (Int32 × SI) := ck x1 2 (if x2 < (σ (R x0 12) x1.toNatClampNeg) then (some ((0 : Int32), σ)) else (ck x1 2 (if (σ (R x0 13) x1.toNatClampNeg) ≤ x2 then (some ((0 : Int32), σ)) else (some ((1 : Int32), σ)))))
set_option maxHeartbeats 4000000 in
set_option maxRecDepth 100000 in
theorem ok_X12_isQuiet {l : Launch} {g : GL} {R : Nat → Nat → Nat} {L : Nat → Nat → Int64} {N : Nat} {σ : SI} {x0 : Nat} {x1 : Int32} {x2 : Int32} {r : (Int32 × SI)} (h : f_X12_isQuiet N R σ x0 x1 x2 = some r) (hSh : ShR R) (hx0 : Ok 202 x0 12) : Ct l g 1 yX12_isQuiet cX12_isQuiet 3 (some .boolean) 202 202 0 0 [.ref (ga g x0), .int x1, .int x2] (mkS σ R L) (PI R L r) := by
  refine Met.ofW (cc := cX12_isQuiet) (maxL := 3) (ret := (some .boolean)) (by decide) rfl ?_
  intro p e s m args below meth c s₁ B hml hv
  obtain ⟨rfl, hE, hLo, hWd⟩ := hv
  have hr : meth.sig.returnType = (some .boolean) := B.returns
  have C : Cx l g p s m meth c cX12_isQuiet 3 RX12 := ⟨B.exec, B.bytes, hml, findClass_of_methodNamed B.named, hE, hLo, B.notSynchronized⟩
  have S : S2 g s σ R L s.heap [] := ⟨hWd, va_S.rf⟩
  have hx := C.1
  have hb := C.2.1
  have hl := lv_entry ([.ref (ga g x0), .int x1, .int x2]) (n := 3) (Nat.le_of_ble_eq_true rfl)
  rw [lg_entry_eq]
  generalize (lg_sl ([.ref (ga g x0), .int x1, .int x2]) ++ List.replicate (3 - (lg_sl ([.ref (ga g x0), .int x1, .int x2])).length) Slot.unset).toArray = ls at hl ⊢
  have hl : lv_has ls 3 [(0, .ref (ga g x0)), (1, .int x1), (2, .int x2)] := hl
  generalize hH : s.heap = H at S ⊢
  generalize hlc : ([] : List Loc) = locs at S ⊢
  rw [f_X12_isQuiet] at h
  refine lv_iload_n hx hb dX12_isQuiet_0 rfl (lv_at hl 2 rfl) ?_
  refine lv_aload_n hx hb dX12_isQuiet_1 rfl (lv_at hl 0 rfl) ?_
  have hR1 : Ok 202 (R x0 12) 10002 := hSh x0 12 12 10002 hx0.1 rfl
  refine x_getR C S KX12 hx0 12 (by decide) rfl rfl fl_RX12_19 hR1 dX12_isQuiet_2 ?_
  refine lv_iload_n hx hb dX12_isQuiet_5 rfl (lv_at hl 1 rfl) ?_
  obtain ⟨hi2, h⟩ := ck_el h
  refine x_iald (len := 2) C S (by decide) hR1 hi2 dX12_isQuiet_6 ?_
  refine lv_icmp_lt (tgt := 24) hx hb dX12_isQuiet_7 (by decide) (fun c3 => ?_) (fun c3 => ?_)
  · have h := it_p c3 h
    refine lv_iconst (v := (0 : Int32)) hx hb dX12_isQuiet_24 (by decide) ?_
    exact x_zret C S hr (by decide) h dX12_isQuiet_25
  · have h := it_n c3 h
    refine lv_iload_n hx hb dX12_isQuiet_10 rfl (lv_at hl 2 rfl) ?_
    refine lv_aload_n hx hb dX12_isQuiet_11 rfl (lv_at hl 0 rfl) ?_
    have hR4 : Ok 202 (R x0 13) 10002 := hSh x0 12 13 10002 hx0.1 rfl
    refine x_getR C S KX12 hx0 13 (by decide) rfl rfl fl_RX12_22 hR4 dX12_isQuiet_12 ?_
    refine lv_iload_n hx hb dX12_isQuiet_15 rfl (lv_at hl 1 rfl) ?_
    obtain ⟨hi5, h⟩ := ck_el h
    refine x_iald (len := 2) C S (by decide) hR4 hi5 dX12_isQuiet_16 ?_
    refine lv_icmp_ge (tgt := 24) hx hb dX12_isQuiet_17 (by decide) (fun c6 => ?_) (fun c6 => ?_)
    · have h := it_p c6 h
      refine lv_iconst (v := (0 : Int32)) hx hb dX12_isQuiet_24 (by decide) ?_
      exact x_zret C S hr (by decide) h dX12_isQuiet_25
    · have h := it_n c6 h
      refine lv_iconst (v := (1 : Int32)) hx hb dX12_isQuiet_20 (by decide) ?_
      refine lv_goto (tgt := 25) hx hb dX12_isQuiet_21 (by decide) ?_
      exact x_zret C S hr (by decide) h dX12_isQuiet_25
theorem dX12_isDusty_0 : decode cX12_isDusty 0 = .ok (.aload_n 0, 1) := by decide +kernel
theorem dX12_isDusty_1 : decode cX12_isDusty 1 = .ok (.getfield 49, 3) := by decide +kernel
theorem dX12_isDusty_4 : decode cX12_isDusty 4 = .ok (.iload_n 3, 1) := by decide +kernel
theorem dX12_isDusty_5 : decode cX12_isDusty 5 = .ok (.iaload, 1) := by decide +kernel
theorem dX12_isDusty_6 : decode cX12_isDusty 6 = .ok (.ifCond .ge 5, 3) := by decide +kernel
theorem dX12_isDusty_9 : decode cX12_isDusty 9 = .ok (.iconst 0, 1) := by decide +kernel
theorem dX12_isDusty_10 : decode cX12_isDusty 10 = .ok (.ireturn, 1) := by decide +kernel
theorem dX12_isDusty_11 : decode cX12_isDusty 11 = .ok (.aload_n 0, 1) := by decide +kernel
theorem dX12_isDusty_12 : decode cX12_isDusty 12 = .ok (.getfield 49, 3) := by decide +kernel
theorem dX12_isDusty_15 : decode cX12_isDusty 15 = .ok (.iload_n 3, 1) := by decide +kernel
theorem dX12_isDusty_16 : decode cX12_isDusty 16 = .ok (.iaload, 1) := by decide +kernel
theorem dX12_isDusty_17 : decode cX12_isDusty 17 = .ok (.iconst 4, 1) := by decide +kernel
theorem dX12_isDusty_18 : decode cX12_isDusty 18 = .ok (.irem, 1) := by decide +kernel
theorem dX12_isDusty_19 : decode cX12_isDusty 19 = .ok (.ifCond .ne 7, 3) := by decide +kernel
theorem dX12_isDusty_22 : decode cX12_isDusty 22 = .ok (.iconst 0, 1) := by decide +kernel
theorem dX12_isDusty_23 : decode cX12_isDusty 23 = .ok (.goto 18, 3) := by decide +kernel
theorem dX12_isDusty_26 : decode cX12_isDusty 26 = .ok (.aload_n 0, 1) := by decide +kernel
theorem dX12_isDusty_27 : decode cX12_isDusty 27 = .ok (.getfield 49, 3) := by decide +kernel
theorem dX12_isDusty_30 : decode cX12_isDusty 30 = .ok (.iload_n 3, 1) := by decide +kernel
theorem dX12_isDusty_31 : decode cX12_isDusty 31 = .ok (.iaload, 1) := by decide +kernel
theorem dX12_isDusty_32 : decode cX12_isDusty 32 = .ok (.iconst 4, 1) := by decide +kernel
theorem dX12_isDusty_33 : decode cX12_isDusty 33 = .ok (.if_icmp .ge 7, 3) := by decide +kernel
theorem dX12_isDusty_36 : decode cX12_isDusty 36 = .ok (.iconst 1, 1) := by decide +kernel
theorem dX12_isDusty_37 : decode cX12_isDusty 37 = .ok (.goto 4, 3) := by decide +kernel
theorem dX12_isDusty_40 : decode cX12_isDusty 40 = .ok (.iconst (-1), 1) := by decide +kernel
theorem dX12_isDusty_41 : decode cX12_isDusty 41 = .ok (.istore 4, 2) := by decide +kernel
theorem dX12_isDusty_43 : decode cX12_isDusty 43 = .ok (.aload_n 0, 1) := by decide +kernel
theorem dX12_isDusty_44 : decode cX12_isDusty 44 = .ok (.getfield 49, 3) := by decide +kernel
theorem dX12_isDusty_47 : decode cX12_isDusty 47 = .ok (.iload_n 3, 1) := by decide +kernel
theorem dX12_isDusty_48 : decode cX12_isDusty 48 = .ok (.iaload, 1) := by decide +kernel
theorem dX12_isDusty_49 : decode cX12_isDusty 49 = .ok (.iconst 4, 1) := by decide +kernel
theorem dX12_isDusty_50 : decode cX12_isDusty 50 = .ok (.irem, 1) := by decide +kernel
theorem dX12_isDusty_51 : decode cX12_isDusty 51 = .ok (.iconst 2, 1) := by decide +kernel
theorem dX12_isDusty_52 : decode cX12_isDusty 52 = .ok (.if_icmp .ne 7, 3) := by decide +kernel
theorem dX12_isDusty_55 : decode cX12_isDusty 55 = .ok (.iconst 0, 1) := by decide +kernel
theorem dX12_isDusty_56 : decode cX12_isDusty 56 = .ok (.goto 29, 3) := by decide +kernel
theorem dX12_isDusty_59 : decode cX12_isDusty 59 = .ok (.aload_n 0, 1) := by decide +kernel
theorem dX12_isDusty_60 : decode cX12_isDusty 60 = .ok (.getfield 49, 3) := by decide +kernel
theorem dX12_isDusty_63 : decode cX12_isDusty 63 = .ok (.iload_n 3, 1) := by decide +kernel
theorem dX12_isDusty_64 : decode cX12_isDusty 64 = .ok (.iaload, 1) := by decide +kernel
theorem dX12_isDusty_65 : decode cX12_isDusty 65 = .ok (.iconst 2, 1) := by decide +kernel
theorem dX12_isDusty_66 : decode cX12_isDusty 66 = .ok (.if_icmp .le 18, 3) := by decide +kernel
theorem dX12_isDusty_69 : decode cX12_isDusty 69 = .ok (.aload_n 0, 1) := by decide +kernel
theorem dX12_isDusty_70 : decode cX12_isDusty 70 = .ok (.getfield 49, 3) := by decide +kernel
theorem dX12_isDusty_73 : decode cX12_isDusty 73 = .ok (.iload_n 3, 1) := by decide +kernel
theorem dX12_isDusty_74 : decode cX12_isDusty 74 = .ok (.iaload, 1) := by decide +kernel
theorem dX12_isDusty_75 : decode cX12_isDusty 75 = .ok (.bipush 6, 2) := by decide +kernel
theorem dX12_isDusty_77 : decode cX12_isDusty 77 = .ok (.if_icmp .ge 7, 3) := by decide +kernel
theorem dX12_isDusty_80 : decode cX12_isDusty 80 = .ok (.iconst 1, 1) := by decide +kernel
theorem dX12_isDusty_81 : decode cX12_isDusty 81 = .ok (.goto 4, 3) := by decide +kernel
theorem dX12_isDusty_84 : decode cX12_isDusty 84 = .ok (.iconst (-1), 1) := by decide +kernel
theorem dX12_isDusty_85 : decode cX12_isDusty 85 = .ok (.istore 5, 2) := by decide +kernel
theorem dX12_isDusty_87 : decode cX12_isDusty 87 = .ok (.aload_n 0, 1) := by decide +kernel
theorem dX12_isDusty_88 : decode cX12_isDusty 88 = .ok (.getfield 7, 3) := by decide +kernel
theorem dX12_isDusty_91 : decode cX12_isDusty 91 = .ok (.iload_n 2, 1) := by decide +kernel
theorem dX12_isDusty_92 : decode cX12_isDusty 92 = .ok (.iaload, 1) := by decide +kernel
theorem dX12_isDusty_93 : decode cX12_isDusty 93 = .ok (.aload_n 0, 1) := by decide +kernel
theorem dX12_isDusty_94 : decode cX12_isDusty 94 = .ok (.getfield 37, 3) := by decide +kernel
theorem dX12_isDusty_97 : decode cX12_isDusty 97 = .ok (.iload_n 1, 1) := by decide +kernel
theorem dX12_isDusty_98 : decode cX12_isDusty 98 = .ok (.iaload, 1) := by decide +kernel
theorem dX12_isDusty_99 : decode cX12_isDusty 99 = .ok (.isub, 1) := by decide +kernel
theorem dX12_isDusty_100 : decode cX12_isDusty 100 = .ok (.istore 6, 2) := by decide +kernel
theorem dX12_isDusty_102 : decode cX12_isDusty 102 = .ok (.aload_n 0, 1) := by decide +kernel
theorem dX12_isDusty_103 : decode cX12_isDusty 103 = .ok (.getfield 13, 3) := by decide +kernel
theorem dX12_isDusty_106 : decode cX12_isDusty 106 = .ok (.iload_n 2, 1) := by decide +kernel
theorem dX12_isDusty_107 : decode cX12_isDusty 107 = .ok (.iaload, 1) := by decide +kernel
theorem dX12_isDusty_108 : decode cX12_isDusty 108 = .ok (.aload_n 0, 1) := by decide +kernel
theorem dX12_isDusty_109 : decode cX12_isDusty 109 = .ok (.getfield 40, 3) := by decide +kernel
theorem dX12_isDusty_112 : decode cX12_isDusty 112 = .ok (.iload_n 1, 1) := by decide +kernel
theorem dX12_isDusty_113 : decode cX12_isDusty 113 = .ok (.iaload, 1) := by decide +kernel
theorem dX12_isDusty_114 : decode cX12_isDusty 114 = .ok (.isub, 1) := by decide +kernel
theorem dX12_isDusty_115 : decode cX12_isDusty 115 = .ok (.istore 7, 2) := by decide +kernel
theorem dX12_isDusty_117 : decode cX12_isDusty 117 = .ok (.iload 6, 2) := by decide +kernel
theorem dX12_isDusty_119 : decode cX12_isDusty 119 = .ok (.iload 4, 2) := by decide +kernel
theorem dX12_isDusty_121 : decode cX12_isDusty 121 = .ok (.imul, 1) := by decide +kernel
theorem dX12_isDusty_122 : decode cX12_isDusty 122 = .ok (.iload 7, 2) := by decide +kernel
theorem dX12_isDusty_124 : decode cX12_isDusty 124 = .ok (.iload 5, 2) := by decide +kernel
theorem dX12_isDusty_126 : decode cX12_isDusty 126 = .ok (.imul, 1) := by decide +kernel
theorem dX12_isDusty_127 : decode cX12_isDusty 127 = .ok (.iadd, 1) := by decide +kernel
theorem dX12_isDusty_128 : decode cX12_isDusty 128 = .ok (.istore 8, 2) := by decide +kernel
theorem dX12_isDusty_130 : decode cX12_isDusty 130 = .ok (.iload 6, 2) := by decide +kernel
theorem dX12_isDusty_132 : decode cX12_isDusty 132 = .ok (.iload 5, 2) := by decide +kernel
theorem dX12_isDusty_134 : decode cX12_isDusty 134 = .ok (.imul, 1) := by decide +kernel
theorem dX12_isDusty_135 : decode cX12_isDusty 135 = .ok (.iload 7, 2) := by decide +kernel
theorem dX12_isDusty_137 : decode cX12_isDusty 137 = .ok (.iload 4, 2) := by decide +kernel
theorem dX12_isDusty_139 : decode cX12_isDusty 139 = .ok (.imul, 1) := by decide +kernel
theorem dX12_isDusty_140 : decode cX12_isDusty 140 = .ok (.isub, 1) := by decide +kernel
theorem dX12_isDusty_141 : decode cX12_isDusty 141 = .ok (.istore 9, 2) := by decide +kernel
theorem dX12_isDusty_143 : decode cX12_isDusty 143 = .ok (.iload 8, 2) := by decide +kernel
theorem dX12_isDusty_145 : decode cX12_isDusty 145 = .ok (.ifCond .le 48, 3) := by decide +kernel
theorem dX12_isDusty_148 : decode cX12_isDusty 148 = .ok (.iload 9, 2) := by decide +kernel
theorem dX12_isDusty_150 : decode cX12_isDusty 150 = .ok (.iload 8, 2) := by decide +kernel
theorem dX12_isDusty_152 : decode cX12_isDusty 152 = .ok (.if_icmp .gt 41, 3) := by decide +kernel
theorem dX12_isDusty_155 : decode cX12_isDusty 155 = .ok (.iload 9, 2) := by decide +kernel
theorem dX12_isDusty_157 : decode cX12_isDusty 157 = .ok (.ineg, 1) := by decide +kernel
theorem dX12_isDusty_158 : decode cX12_isDusty 158 = .ok (.iload 8, 2) := by decide +kernel
theorem dX12_isDusty_160 : decode cX12_isDusty 160 = .ok (.if_icmp .gt 33, 3) := by decide +kernel
theorem dX12_isDusty_163 : decode cX12_isDusty 163 = .ok (.aload_n 0, 1) := by decide +kernel
theorem dX12_isDusty_164 : decode cX12_isDusty 164 = .ok (.iload_n 1, 1) := by decide +kernel
theorem dX12_isDusty_165 : decode cX12_isDusty 165 = .ok (.iload_n 2, 1) := by decide +kernel
theorem dX12_isDusty_166 : decode cX12_isDusty 166 = .ok (.invokevirtual 158, 3) := by decide +kernel
theorem dX12_isDusty_169 : decode cX12_isDusty 169 = .ok (.sipush 2500, 3) := by decide +kernel
theorem dX12_isDusty_172 : decode cX12_isDusty 172 = .ok (.aload_n 0, 1) := by decide +kernel
theorem dX12_isDusty_173 : decode cX12_isDusty 173 = .ok (.getfield 52, 3) := by decide +kernel
theorem dX12_isDusty_176 : decode cX12_isDusty 176 = .ok (.iload_n 3, 1) := by decide +kernel
theorem dX12_isDusty_177 : decode cX12_isDusty 177 = .ok (.iaload, 1) := by decide +kernel
theorem dX12_isDusty_178 : decode cX12_isDusty 178 = .ok (.imul, 1) := by decide +kernel
theorem dX12_isDusty_179 : decode cX12_isDusty 179 = .ok (.aload_n 0, 1) := by decide +kernel
theorem dX12_isDusty_180 : decode cX12_isDusty 180 = .ok (.getfield 52, 3) := by decide +kernel
theorem dX12_isDusty_183 : decode cX12_isDusty 183 = .ok (.iload_n 3, 1) := by decide +kernel
theorem dX12_isDusty_184 : decode cX12_isDusty 184 = .ok (.iaload, 1) := by decide +kernel
theorem dX12_isDusty_185 : decode cX12_isDusty 185 = .ok (.imul, 1) := by decide +kernel
theorem dX12_isDusty_186 : decode cX12_isDusty 186 = .ok (.if_icmp .gt 7, 3) := by decide +kernel
theorem dX12_isDusty_189 : decode cX12_isDusty 189 = .ok (.iconst 1, 1) := by decide +kernel
theorem dX12_isDusty_190 : decode cX12_isDusty 190 = .ok (.goto 4, 3) := by decide +kernel
theorem dX12_isDusty_193 : decode cX12_isDusty 193 = .ok (.iconst 0, 1) := by decide +kernel
theorem dX12_isDusty_194 : decode cX12_isDusty 194 = .ok (.ireturn, 1) := by decide +kernel
def f_X12_isDusty_84 (N : Nat) (R : Nat → Nat → Nat) (σ : SI) (x0 : Nat) (x1 : Int32) (x2 : Int32) (x3 : Int32) (x4 : Int32) : Option (Int32 × SI) := ck x2 2 (ck x1 3 (ck x2 2 (ck x1 3 (if ((((σ (R x0 9) x2.toNatClampNeg) - (σ (R x0 18) x1.toNatClampNeg)) * x4) + (((σ (R x0 10) x2.toNatClampNeg) - (σ (R x0 19) x1.toNatClampNeg)) * (-1 : Int32))) ≤ 0 then (some ((0 : Int32), σ)) else (if ((((σ (R x0 9) x2.toNatClampNeg) - (σ (R x0 18) x1.toNatClampNeg)) * x4) + (((σ (R x0 10) x2.toNatClampNeg) - (σ (R x0 19) x1.toNatClampNeg)) * (-1 : Int32))) < ((((σ (R x0 9) x2.toNatClampNeg) - (σ (R x0 18) x1.toNatClampNeg)) * (-1 : Int32)) - (((σ (R x0 10) x2.toNatClampNeg) - (σ (R x0 19) x1.toNatClampNeg)) * x4)) then (some ((0 : Int32), σ)) else (if ((((σ (R x0 9) x2.toNatClampNeg) - (σ (R x0 18) x1.toNatClampNeg)) * x4) + (((σ (R x0 10) x2.toNatClampNeg) - (σ (R x0 19) x1.toNatClampNeg)) * (-1 : Int32))) < (-((((σ (R x0 9) x2.toNatClampNeg) - (σ (R x0 18) x1.toNatClampNeg)) * (-1 : Int32)) - (((σ (R x0 10) x2.toNatClampNeg) - (σ (R x0 19) x1.toNatClampNeg)) * x4))) then (some ((0 : Int32), σ)) else (bd (f_X12_far N R σ x0 x1 x2) (fun a27 σ27 => ck x3 24 (ck x3 24 (if (((2500 : Int32) * (σ27 (R x0 23) x3.toNatClampNeg)) * (σ27 (R x0 23) x3.toNatClampNeg)) < a27 then (some ((0 : Int32), σ27)) else (some ((1 : Int32), σ27))))))))))))
def f_X12_isDusty (N : Nat) (R : Nat → Nat → Nat) (σ : SI) (x0 : Nat) (x1 : Int32) (x2 : Int32) (x3 : Int32) : Option (Int32 × SI) := ck x3 24 (if 0 ≤ (σ (R x0 22) x3.toNatClampNeg) then (ck x3 24 (if ((σ (R x0 22) x3.toNatClampNeg) - (σ (R x0 22) x3.toNatClampNeg) / (4 : Int32) * (4 : Int32)) = 0 then (ck x3 24 (if ((σ (R x0 22) x3.toNatClampNeg) - (σ (R x0 22) x3.toNatClampNeg) / (4 : Int32) * (4 : Int32)) = (2 : Int32) then (ck x2 2 (ck x1 3 (ck x2 2 (ck x1 3 (if ((((σ (R x0 9) x2.toNatClampNeg) - (σ (R x0 18) x1.toNatClampNeg)) * (0 : Int32)) + (((σ (R x0 10) x2.toNatClampNeg) - (σ (R x0 19) x1.toNatClampNeg)) * (0 : Int32))) ≤ 0 then (some ((0 : Int32), σ)) else (if ((((σ (R x0 9) x2.toNatClampNeg) - (σ (R x0 18) x1.toNatClampNeg)) * (0 : Int32)) + (((σ (R x0 10) x2.toNatClampNeg) - (σ (R x0 19) x1.toNatClampNeg)) * (0 : Int32))) < ((((σ (R x0 9) x2.toNatClampNeg) - (σ (R x0 18) x1.toNatClampNeg)) * (0 : Int32)) - (((σ (R x0 10) x2.toNatClampNeg) - (σ (R x0 19) x1.toNatClampNeg)) * (0 : Int32))) then (some ((0 : Int32), σ)) else (if ((((σ (R x0 9) x2.toNatClampNeg) - (σ (R x0 18) x1.toNatClampNeg)) * (0 : Int32)) + (((σ (R x0 10) x2.toNatClampNeg) - (σ (R x0 19) x1.toNatClampNeg)) * (0 : Int32))) < (-((((σ (R x0 9) x2.toNatClampNeg) - (σ (R x0 18) x1.toNatClampNeg)) * (0 : Int32)) - (((σ (R x0 10) x2.toNatClampNeg) - (σ (R x0 19) x1.toNatClampNeg)) * (0 : Int32)))) then (some ((0 : Int32), σ)) else (bd (f_X12_far N R σ x0 x1 x2) (fun a150 σ150 => ck x3 24 (ck x3 24 (if (((2500 : Int32) * (σ150 (R x0 23) x3.toNatClampNeg)) * (σ150 (R x0 23) x3.toNatClampNeg)) < a150 then (some ((0 : Int32), σ150)) else (some ((1 : Int32), σ150))))))))))))) else (ck x3 24 (if (σ (R x0 22) x3.toNatClampNeg) ≤ (2 : Int32) then (f_X12_isDusty_84 N R σ x0 x1 x2 x3 (0 : Int32)) else (ck x3 24 (if (6 : Int32) ≤ (σ (R x0 22) x3.toNatClampNeg) then (f_X12_isDusty_84 N R σ x0 x1 x2 x3 (0 : Int32)) else (ck x2 2 (ck x1 3 (ck x2 2 (ck x1 3 (if ((((σ (R x0 9) x2.toNatClampNeg) - (σ (R x0 18) x1.toNatClampNeg)) * (0 : Int32)) + (((σ (R x0 10) x2.toNatClampNeg) - (σ (R x0 19) x1.toNatClampNeg)) * (1 : Int32))) ≤ 0 then (some ((0 : Int32), σ)) else (if ((((σ (R x0 9) x2.toNatClampNeg) - (σ (R x0 18) x1.toNatClampNeg)) * (0 : Int32)) + (((σ (R x0 10) x2.toNatClampNeg) - (σ (R x0 19) x1.toNatClampNeg)) * (1 : Int32))) < ((((σ (R x0 9) x2.toNatClampNeg) - (σ (R x0 18) x1.toNatClampNeg)) * (1 : Int32)) - (((σ (R x0 10) x2.toNatClampNeg) - (σ (R x0 19) x1.toNatClampNeg)) * (0 : Int32))) then (some ((0 : Int32), σ)) else (if ((((σ (R x0 9) x2.toNatClampNeg) - (σ (R x0 18) x1.toNatClampNeg)) * (0 : Int32)) + (((σ (R x0 10) x2.toNatClampNeg) - (σ (R x0 19) x1.toNatClampNeg)) * (1 : Int32))) < (-((((σ (R x0 9) x2.toNatClampNeg) - (σ (R x0 18) x1.toNatClampNeg)) * (1 : Int32)) - (((σ (R x0 10) x2.toNatClampNeg) - (σ (R x0 19) x1.toNatClampNeg)) * (0 : Int32)))) then (some ((0 : Int32), σ)) else (bd (f_X12_far N R σ x0 x1 x2) (fun a133 σ133 => ck x3 24 (ck x3 24 (if (((2500 : Int32) * (σ133 (R x0 23) x3.toNatClampNeg)) * (σ133 (R x0 23) x3.toNatClampNeg)) < a133 then (some ((0 : Int32), σ133)) else (some ((1 : Int32), σ133))))))))))))))))))) else (ck x3 24 (if (4 : Int32) ≤ (σ (R x0 22) x3.toNatClampNeg) then (ck x3 24 (if ((σ (R x0 22) x3.toNatClampNeg) - (σ (R x0 22) x3.toNatClampNeg) / (4 : Int32) * (4 : Int32)) = (2 : Int32) then (ck x2 2 (ck x1 3 (ck x2 2 (ck x1 3 (if ((((σ (R x0 9) x2.toNatClampNeg) - (σ (R x0 18) x1.toNatClampNeg)) * (-1 : Int32)) + (((σ (R x0 10) x2.toNatClampNeg) - (σ (R x0 19) x1.toNatClampNeg)) * (0 : Int32))) ≤ 0 then (some ((0 : Int32), σ)) else (if ((((σ (R x0 9) x2.toNatClampNeg) - (σ (R x0 18) x1.toNatClampNeg)) * (-1 : Int32)) + (((σ (R x0 10) x2.toNatClampNeg) - (σ (R x0 19) x1.toNatClampNeg)) * (0 : Int32))) < ((((σ (R x0 9) x2.toNatClampNeg) - (σ (R x0 18) x1.toNatClampNeg)) * (0 : Int32)) - (((σ (R x0 10) x2.toNatClampNeg) - (σ (R x0 19) x1.toNatClampNeg)) * (-1 : Int32))) then (some ((0 : Int32), σ)) else (if ((((σ (R x0 9) x2.toNatClampNeg) - (σ (R x0 18) x1.toNatClampNeg)) * (-1 : Int32)) + (((σ (R x0 10) x2.toNatClampNeg) - (σ (R x0 19) x1.toNatClampNeg)) * (0 : Int32))) < (-((((σ (R x0 9) x2.toNatClampNeg) - (σ (R x0 18) x1.toNatClampNeg)) * (0 : Int32)) - (((σ (R x0 10) x2.toNatClampNeg) - (σ (R x0 19) x1.toNatClampNeg)) * (-1 : Int32)))) then (some ((0 : Int32), σ)) else (bd (f_X12_far N R σ x0 x1 x2) (fun a64 σ64 => ck x3 24 (ck x3 24 (if (((2500 : Int32) * (σ64 (R x0 23) x3.toNatClampNeg)) * (σ64 (R x0 23) x3.toNatClampNeg)) < a64 then (some ((0 : Int32), σ64)) else (some ((1 : Int32), σ64))))))))))))) else (ck x3 24 (if (σ (R x0 22) x3.toNatClampNeg) ≤ (2 : Int32) then (f_X12_isDusty_84 N R σ x0 x1 x2 x3 (-1 : Int32)) else (ck x3 24 (if (6 : Int32) ≤ (σ (R x0 22) x3.toNatClampNeg) then (f_X12_isDusty_84 N R σ x0 x1 x2 x3 (-1 : Int32)) else (ck x2 2 (ck x1 3 (ck x2 2 (ck x1 3 (if ((((σ (R x0 9) x2.toNatClampNeg) - (σ (R x0 18) x1.toNatClampNeg)) * (-1 : Int32)) + (((σ (R x0 10) x2.toNatClampNeg) - (σ (R x0 19) x1.toNatClampNeg)) * (1 : Int32))) ≤ 0 then (some ((0 : Int32), σ)) else (if ((((σ (R x0 9) x2.toNatClampNeg) - (σ (R x0 18) x1.toNatClampNeg)) * (-1 : Int32)) + (((σ (R x0 10) x2.toNatClampNeg) - (σ (R x0 19) x1.toNatClampNeg)) * (1 : Int32))) < ((((σ (R x0 9) x2.toNatClampNeg) - (σ (R x0 18) x1.toNatClampNeg)) * (1 : Int32)) - (((σ (R x0 10) x2.toNatClampNeg) - (σ (R x0 19) x1.toNatClampNeg)) * (-1 : Int32))) then (some ((0 : Int32), σ)) else (if ((((σ (R x0 9) x2.toNatClampNeg) - (σ (R x0 18) x1.toNatClampNeg)) * (-1 : Int32)) + (((σ (R x0 10) x2.toNatClampNeg) - (σ (R x0 19) x1.toNatClampNeg)) * (1 : Int32))) < (-((((σ (R x0 9) x2.toNatClampNeg) - (σ (R x0 18) x1.toNatClampNeg)) * (1 : Int32)) - (((σ (R x0 10) x2.toNatClampNeg) - (σ (R x0 19) x1.toNatClampNeg)) * (-1 : Int32)))) then (some ((0 : Int32), σ)) else (bd (f_X12_far N R σ x0 x1 x2) (fun a47 σ47 => ck x3 24 (ck x3 24 (if (((2500 : Int32) * (σ47 (R x0 23) x3.toNatClampNeg)) * (σ47 (R x0 23) x3.toNatClampNeg)) < a47 then (some ((0 : Int32), σ47)) else (some ((1 : Int32), σ47))))))))))))))))))) else (ck x3 24 (if ((σ (R x0 22) x3.toNatClampNeg) - (σ (R x0 22) x3.toNatClampNeg) / (4 : Int32) * (4 : Int32)) = (2 : Int32) then (ck x2 2 (ck x1 3 (ck x2 2 (ck x1 3 (if ((((σ (R x0 9) x2.toNatClampNeg) - (σ (R x0 18) x1.toNatClampNeg)) * (1 : Int32)) + (((σ (R x0 10) x2.toNatClampNeg) - (σ (R x0 19) x1.toNatClampNeg)) * (0 : Int32))) ≤ 0 then (some ((0 : Int32), σ)) else (if ((((σ (R x0 9) x2.toNatClampNeg) - (σ (R x0 18) x1.toNatClampNeg)) * (1 : Int32)) + (((σ (R x0 10) x2.toNatClampNeg) - (σ (R x0 19) x1.toNatClampNeg)) * (0 : Int32))) < ((((σ (R x0 9) x2.toNatClampNeg) - (σ (R x0 18) x1.toNatClampNeg)) * (0 : Int32)) - (((σ (R x0 10) x2.toNatClampNeg) - (σ (R x0 19) x1.toNatClampNeg)) * (1 : Int32))) then (some ((0 : Int32), σ)) else (if ((((σ (R x0 9) x2.toNatClampNeg) - (σ (R x0 18) x1.toNatClampNeg)) * (1 : Int32)) + (((σ (R x0 10) x2.toNatClampNeg) - (σ (R x0 19) x1.toNatClampNeg)) * (0 : Int32))) < (-((((σ (R x0 9) x2.toNatClampNeg) - (σ (R x0 18) x1.toNatClampNeg)) * (0 : Int32)) - (((σ (R x0 10) x2.toNatClampNeg) - (σ (R x0 19) x1.toNatClampNeg)) * (1 : Int32)))) then (some ((0 : Int32), σ)) else (bd (f_X12_far N R σ x0 x1 x2) (fun a107 σ107 => ck x3 24 (ck x3 24 (if (((2500 : Int32) * (σ107 (R x0 23) x3.toNatClampNeg)) * (σ107 (R x0 23) x3.toNatClampNeg)) < a107 then (some ((0 : Int32), σ107)) else (some ((1 : Int32), σ107))))))))))))) else (ck x3 24 (if (σ (R x0 22) x3.toNatClampNeg) ≤ (2 : Int32) then (f_X12_isDusty_84 N R σ x0 x1 x2 x3 (1 : Int32)) else (ck x3 24 (if (6 : Int32) ≤ (σ (R x0 22) x3.toNatClampNeg) then (f_X12_isDusty_84 N R σ x0 x1 x2 x3 (1 : Int32)) else (ck x2 2 (ck x1 3 (ck x2 2 (ck x1 3 (if ((((σ (R x0 9) x2.toNatClampNeg) - (σ (R x0 18) x1.toNatClampNeg)) * (1 : Int32)) + (((σ (R x0 10) x2.toNatClampNeg) - (σ (R x0 19) x1.toNatClampNeg)) * (1 : Int32))) ≤ 0 then (some ((0 : Int32), σ)) else (if ((((σ (R x0 9) x2.toNatClampNeg) - (σ (R x0 18) x1.toNatClampNeg)) * (1 : Int32)) + (((σ (R x0 10) x2.toNatClampNeg) - (σ (R x0 19) x1.toNatClampNeg)) * (1 : Int32))) < ((((σ (R x0 9) x2.toNatClampNeg) - (σ (R x0 18) x1.toNatClampNeg)) * (1 : Int32)) - (((σ (R x0 10) x2.toNatClampNeg) - (σ (R x0 19) x1.toNatClampNeg)) * (1 : Int32))) then (some ((0 : Int32), σ)) else (if ((((σ (R x0 9) x2.toNatClampNeg) - (σ (R x0 18) x1.toNatClampNeg)) * (1 : Int32)) + (((σ (R x0 10) x2.toNatClampNeg) - (σ (R x0 19) x1.toNatClampNeg)) * (1 : Int32))) < (-((((σ (R x0 9) x2.toNatClampNeg) - (σ (R x0 18) x1.toNatClampNeg)) * (1 : Int32)) - (((σ (R x0 10) x2.toNatClampNeg) - (σ (R x0 19) x1.toNatClampNeg)) * (1 : Int32)))) then (some ((0 : Int32), σ)) else (bd (f_X12_far N R σ x0 x1 x2) (fun a90 σ90 => ck x3 24 (ck x3 24 (if (((2500 : Int32) * (σ90 (R x0 23) x3.toNatClampNeg)) * (σ90 (R x0 23) x3.toNatClampNeg)) < a90 then (some ((0 : Int32), σ90)) else (some ((1 : Int32), σ90))))))))))))))))))))))) else (some ((0 : Int32), σ)))
set_option maxHeartbeats 4000000 in
set_option maxRecDepth 100000 in
theorem w_X12_isDusty_84 {l : Launch} {g : GL} {p : Program} {e : Jvm.Env} {s : State} {m : MethodId} {args : Array Value} {below : List Frame} {meth : Method} {c : Code} {R : Nat → Nat → Nat} {L : Nat → Nat → Int64} {r : (Int32 × SI)} {N : Nat} (C : Cx l g p s m meth c cX12_isDusty 10 RX12) (hr : meth.sig.returnType = (some .boolean)) (hSh : ShR R) : ∀ (σ : SI) (x0 : Nat) (x1 : Int32) (x2 : Int32) (x3 : Int32) (x4 : Int32), f_X12_isDusty_84 N R σ x0 x1 x2 x3 x4 = some r → Ok 202 x0 12 → ∀ (H : Heap) (locs : List Loc) (ls : Array Slot), S2 g s σ R L H locs → lv_has ls 10 [(0, .ref (ga g x0)), (1, .int x1), (2, .int x2), (3, .int x3), (4, .int x4)] → W p l e (rmd 2 0 0) s m args below meth c H locs 0 0 (MQ below (Qg g 202 (PI R L r)) args s 0 0 (gA g)) (F0 m 84 ls []) := by
  have hx := C.1
  have hb := C.2.1
  intro σ x0 x1 x2 x3 x4 h hx0 H locs ls S hl
  rw [f_X12_isDusty_84] at h
  refine lv_iconst (v := (-1 : Int32)) hx hb dX12_isDusty_84 (by decide) ?_
  refine lv_istore (lv' := [(5, .int (-1 : Int32)), (0, .ref (ga g x0)), (1, .int x1), (2, .int x2), (3, .int x3), (4, .int x4)]) hx hb dX12_isDusty_85 hl (by decide) rfl (fun ls hl => ?_)
  refine lv_aload_n hx hb dX12_isDusty_87 rfl (lv_at hl 1 rfl) ?_
  have hR16 : Ok 202 (R x0 9) 10002 := hSh x0 12 9 10002 hx0.1 rfl
  refine x_getR C S KX12 hx0 9 (by decide) rfl rfl fl_RX12_7 hR16 dX12_isDusty_88 ?_
  refine lv_iload_n hx hb dX12_isDusty_91 rfl (lv_at hl 3 rfl) ?_
  obtain ⟨hi17, h⟩ := ck_el h
  refine x_iald (len := 2) C S (by decide) hR16 hi17 dX12_isDusty_92 ?_
  refine lv_aload_n hx hb dX12_isDusty_93 rfl (lv_at hl 1 rfl) ?_
  have hR18 : Ok 202 (R x0 18) 10003 := hSh x0 12 18 10003 hx0.1 rfl
  refine x_getR C S KX12 hx0 18 (by decide) rfl rfl fl_RX12_37 hR18 dX12_isDusty_94 ?_
  refine lv_iload_n hx hb dX12_isDusty_97 rfl (lv_at hl 2 rfl) ?_
  obtain ⟨hi19, h⟩ := ck_el h
  refine x_iald (len := 3) C S (by decide) hR18 hi19 dX12_isDusty_98 ?_
  refine lv_isub hx hb dX12_isDusty_99 ?_
  refine lv_istore (lv' := [(6, .int ((σ (R x0 9) x2.toNatClampNeg) - (σ (R x0 18) x1.toNatClampNeg))), (5, .int (-1 : Int32)), (0, .ref (ga g x0)), (1, .int x1), (2, .int x2), (3, .int x3), (4, .int x4)]) hx hb dX12_isDusty_100 hl (by decide) rfl (fun ls hl => ?_)
  refine lv_aload_n hx hb dX12_isDusty_102 rfl (lv_at hl 2 rfl) ?_
  have hR20 : Ok 202 (R x0 10) 10002 := hSh x0 12 10 10002 hx0.1 rfl
  refine x_getR C S KX12 hx0 10 (by decide) rfl rfl fl_RX12_13 hR20 dX12_isDusty_103 ?_
  refine lv_iload_n hx hb dX12_isDusty_106 rfl (lv_at hl 4 rfl) ?_
  obtain ⟨hi21, h⟩ := ck_el h
  refine x_iald (len := 2) C S (by decide) hR20 hi21 dX12_isDusty_107 ?_
  refine lv_aload_n hx hb dX12_isDusty_108 rfl (lv_at hl 2 rfl) ?_
  have hR22 : Ok 202 (R x0 19) 10003 := hSh x0 12 19 10003 hx0.1 rfl
  refine x_getR C S KX12 hx0 19 (by decide) rfl rfl fl_RX12_40 hR22 dX12_isDusty_109 ?_
  refine lv_iload_n hx hb dX12_isDusty_112 rfl (lv_at hl 3 rfl) ?_
  obtain ⟨hi23, h⟩ := ck_el h
  refine x_iald (len := 3) C S (by decide) hR22 hi23 dX12_isDusty_113 ?_
  refine lv_isub hx hb dX12_isDusty_114 ?_
  refine lv_istore (lv' := [(7, .int ((σ (R x0 10) x2.toNatClampNeg) - (σ (R x0 19) x1.toNatClampNeg))), (6, .int ((σ (R x0 9) x2.toNatClampNeg) - (σ (R x0 18) x1.toNatClampNeg))), (5, .int (-1 : Int32)), (0, .ref (ga g x0)), (1, .int x1), (2, .int x2), (3, .int x3), (4, .int x4)]) hx hb dX12_isDusty_115 hl (by decide) rfl (fun ls hl => ?_)
  refine lv_iload hx hb dX12_isDusty_117 (lv_at hl 1 rfl) ?_
  refine lv_iload hx hb dX12_isDusty_119 (lv_at hl 7 rfl) ?_
  refine lv_imul hx hb dX12_isDusty_121 ?_
  refine lv_iload hx hb dX12_isDusty_122 (lv_at hl 0 rfl) ?_
  refine lv_iload hx hb dX12_isDusty_124 (lv_at hl 2 rfl) ?_
  refine lv_imul hx hb dX12_isDusty_126 ?_
  refine lv_iadd hx hb dX12_isDusty_127 ?_
  refine lv_istore (lv' := [(8, .int ((((σ (R x0 9) x2.toNatClampNeg) - (σ (R x0 18) x1.toNatClampNeg)) * x4) + (((σ (R x0 10) x2.toNatClampNeg) - (σ (R x0 19) x1.toNatClampNeg)) * (-1 : Int32)))), (7, .int ((σ (R x0 10) x2.toNatClampNeg) - (σ (R x0 19) x1.toNatClampNeg))), (6, .int ((σ (R x0 9) x2.toNatClampNeg) - (σ (R x0 18) x1.toNatClampNeg))), (5, .int (-1 : Int32)), (0, .ref (ga g x0)), (1, .int x1), (2, .int x2), (3, .int x3), (4, .int x4)]) hx hb dX12_isDusty_128 hl (by decide) rfl (fun ls hl => ?_)
  refine lv_iload hx hb dX12_isDusty_130 (lv_at hl 2 rfl) ?_
  refine lv_iload hx hb dX12_isDusty_132 (lv_at hl 3 rfl) ?_
  refine lv_imul hx hb dX12_isDusty_134 ?_
  refine lv_iload hx hb dX12_isDusty_135 (lv_at hl 1 rfl) ?_
  refine lv_iload hx hb dX12_isDusty_137 (lv_at hl 8 rfl) ?_
  refine lv_imul hx hb dX12_isDusty_139 ?_
  refine lv_isub hx hb dX12_isDusty_140 ?_
  refine lv_istore (lv' := [(9, .int ((((σ (R x0 9) x2.toNatClampNeg) - (σ (R x0 18) x1.toNatClampNeg)) * (-1 : Int32)) - (((σ (R x0 10) x2.toNatClampNeg) - (σ (R x0 19) x1.toNatClampNeg)) * x4))), (8, .int ((((σ (R x0 9) x2.toNatClampNeg) - (σ (R x0 18) x1.toNatClampNeg)) * x4) + (((σ (R x0 10) x2.toNatClampNeg) - (σ (R x0 19) x1.toNatClampNeg)) * (-1 : Int32)))), (7, .int ((σ (R x0 10) x2.toNatClampNeg) - (σ (R x0 19) x1.toNatClampNeg))), (6, .int ((σ (R x0 9) x2.toNatClampNeg) - (σ (R x0 18) x1.toNatClampNeg))), (5, .int (-1 : Int32)), (0, .ref (ga g x0)), (1, .int x1), (2, .int x2), (3, .int x3), (4, .int x4)]) hx hb dX12_isDusty_141 hl (by decide) rfl (fun ls hl => ?_)
  refine lv_iload hx hb dX12_isDusty_143 (lv_at hl 1 rfl) ?_
  refine lv_if_le (tgt := 193) hx hb dX12_isDusty_145 (by decide) (fun c24 => ?_) (fun c24 => ?_)
  · have h := it_p c24 h
    refine lv_iconst (v := (0 : Int32)) hx hb dX12_isDusty_193 (by decide) ?_
    exact x_zret C S hr (by decide) h dX12_isDusty_194
  · have h := it_n c24 h
    refine lv_iload hx hb dX12_isDusty_148 (lv_at hl 0 rfl) ?_
    refine lv_iload hx hb dX12_isDusty_150 (lv_at hl 1 rfl) ?_
    refine lv_icmp_gt (tgt := 193) hx hb dX12_isDusty_152 (by decide) (fun c25 => ?_) (fun c25 => ?_)
    · have h := it_p c25 h
      refine lv_iconst (v := (0 : Int32)) hx hb dX12_isDusty_193 (by decide) ?_
      exact x_zret C S hr (by decide) h dX12_isDusty_194
    · have h := it_n c25 h
      refine lv_iload hx hb dX12_isDusty_155 (lv_at hl 0 rfl) ?_
      refine lv_ineg hx hb dX12_isDusty_157 ?_
      refine lv_iload hx hb dX12_isDusty_158 (lv_at hl 1 rfl) ?_
      refine lv_icmp_gt (tgt := 193) hx hb dX12_isDusty_160 (by decide) (fun c26 => ?_) (fun c26 => ?_)
      · have h := it_p c26 h
        refine lv_iconst (v := (0 : Int32)) hx hb dX12_isDusty_193 (by decide) ?_
        exact x_zret C S hr (by decide) h dX12_isDusty_194
      · have h := it_n c26 h
        refine lv_aload_n hx hb dX12_isDusty_163 rfl (lv_at hl 5 rfl) ?_
        refine lv_iload_n hx hb dX12_isDusty_164 rfl (lv_at hl 6 rfl) ?_
        refine lv_iload_n hx hb dX12_isDusty_165 rfl (lv_at hl 7 rfl) ?_
        obtain ⟨a27, σ27, hc27, h⟩ := bd_el h
        refine x_callVI C S KX12 hx0 (ok_X12_far (L := L) hc27 hSh hx0) ⟨cd_X12_far, ni_RX12, ml_RX12_158, in_X12_far, sl_X12_far⟩ ⟨by decide, by decide⟩ rfl (rm_ok (by decide) (by decide)) hl.1 rfl (Nat.le_of_ble_eq_true rfl) ⟨by decide, by decide⟩ dX12_isDusty_166 (fun H locs S => ?_)
        refine lv_sipush (v := (2500 : Int32)) hx hb dX12_isDusty_169 (by decide) ?_
        refine lv_aload_n hx hb dX12_isDusty_172 rfl (lv_at hl 5 rfl) ?_
        have hR28 : Ok 202 (R x0 23) 10024 := hSh x0 12 23 10024 hx0.1 rfl
        refine x_getR C S KX12 hx0 23 (by decide) rfl rfl fl_RX12_52 hR28 dX12_isDusty_173 ?_
        refine lv_iload_n hx hb dX12_isDusty_176 rfl (lv_at hl 8 rfl) ?_
        obtain ⟨hi29, h⟩ := ck_el h
        refine x_iald (len := 24) C S (by decide) hR28 hi29 dX12_isDusty_177 ?_
        refine lv_imul hx hb dX12_isDusty_178 ?_
        refine lv_aload_n hx hb dX12_isDusty_179 rfl (lv_at hl 5 rfl) ?_
        have hR30 : Ok 202 (R x0 23) 10024 := hSh x0 12 23 10024 hx0.1 rfl
        refine x_getR C S KX12 hx0 23 (by decide) rfl rfl fl_RX12_52 hR30 dX12_isDusty_180 ?_
        refine lv_iload_n hx hb dX12_isDusty_183 rfl (lv_at hl 8 rfl) ?_
        obtain ⟨hi31, h⟩ := ck_el h
        refine x_iald (len := 24) C S (by decide) hR30 hi31 dX12_isDusty_184 ?_
        refine lv_imul hx hb dX12_isDusty_185 ?_
        refine lv_icmp_gt (tgt := 193) hx hb dX12_isDusty_186 (by decide) (fun c32 => ?_) (fun c32 => ?_)
        · have h := it_p c32 h
          refine lv_iconst (v := (0 : Int32)) hx hb dX12_isDusty_193 (by decide) ?_
          exact x_zret C S hr (by decide) h dX12_isDusty_194
        · have h := it_n c32 h
          refine lv_iconst (v := (1 : Int32)) hx hb dX12_isDusty_189 (by decide) ?_
          refine lv_goto (tgt := 194) hx hb dX12_isDusty_190 (by decide) ?_
          exact x_zret C S hr (by decide) h dX12_isDusty_194
set_option maxHeartbeats 4000000 in
set_option maxRecDepth 100000 in
theorem ok_X12_isDusty {l : Launch} {g : GL} {R : Nat → Nat → Nat} {L : Nat → Nat → Int64} {N : Nat} {σ : SI} {x0 : Nat} {x1 : Int32} {x2 : Int32} {x3 : Int32} {r : (Int32 × SI)} (h : f_X12_isDusty N R σ x0 x1 x2 x3 = some r) (hSh : ShR R) (hx0 : Ok 202 x0 12) : Ct l g 2 yX12_isDusty cX12_isDusty 10 (some .boolean) 202 202 0 0 [.ref (ga g x0), .int x1, .int x2, .int x3] (mkS σ R L) (PI R L r) := by
  refine Met.ofW (cc := cX12_isDusty) (maxL := 10) (ret := (some .boolean)) (by decide) rfl ?_
  intro p e s m args below meth c s₁ B hml hv
  obtain ⟨rfl, hE, hLo, hWd⟩ := hv
  have hr : meth.sig.returnType = (some .boolean) := B.returns
  have C : Cx l g p s m meth c cX12_isDusty 10 RX12 := ⟨B.exec, B.bytes, hml, findClass_of_methodNamed B.named, hE, hLo, B.notSynchronized⟩
  have S : S2 g s σ R L s.heap [] := ⟨hWd, va_S.rf⟩
  have hx := C.1
  have hb := C.2.1
  have hl := lv_entry ([.ref (ga g x0), .int x1, .int x2, .int x3]) (n := 10) (Nat.le_of_ble_eq_true rfl)
  rw [lg_entry_eq]
  generalize (lg_sl ([.ref (ga g x0), .int x1, .int x2, .int x3]) ++ List.replicate (10 - (lg_sl ([.ref (ga g x0), .int x1, .int x2, .int x3])).length) Slot.unset).toArray = ls at hl ⊢
  have hl : lv_has ls 10 [(0, .ref (ga g x0)), (1, .int x1), (2, .int x2), (3, .int x3)] := hl
  generalize hH : s.heap = H at S ⊢
  generalize hlc : ([] : List Loc) = locs at S ⊢
  rw [f_X12_isDusty] at h
  refine lv_aload_n hx hb dX12_isDusty_0 rfl (lv_at hl 0 rfl) ?_
  have hR1 : Ok 202 (R x0 22) 10024 := hSh x0 12 22 10024 hx0.1 rfl
  refine x_getR C S KX12 hx0 22 (by decide) rfl rfl fl_RX12_49 hR1 dX12_isDusty_1 ?_
  refine lv_iload_n hx hb dX12_isDusty_4 rfl (lv_at hl 3 rfl) ?_
  obtain ⟨hi2, h⟩ := ck_el h
  refine x_iald (len := 24) C S (by decide) hR1 hi2 dX12_isDusty_5 ?_
  refine lv_if_ge (tgt := 11) hx hb dX12_isDusty_6 (by decide) (fun c3 => ?_) (fun c3 => ?_)
  · have h := it_p c3 h
    refine lv_aload_n hx hb dX12_isDusty_11 rfl (lv_at hl 0 rfl) ?_
    have hR4 : Ok 202 (R x0 22) 10024 := hSh x0 12 22 10024 hx0.1 rfl
    refine x_getR C S KX12 hx0 22 (by decide) rfl rfl fl_RX12_49 hR4 dX12_isDusty_12 ?_
    refine lv_iload_n hx hb dX12_isDusty_15 rfl (lv_at hl 3 rfl) ?_
    obtain ⟨hi5, h⟩ := ck_el h
    refine x_iald (len := 24) C S (by decide) hR4 hi5 dX12_isDusty_16 ?_
    refine lv_iconst (v := (4 : Int32)) hx hb dX12_isDusty_17 (by decide) ?_
    refine lv_irem hx hb dX12_isDusty_18 (by decide) ?_
    refine lv_if_ne (tgt := 26) hx hb dX12_isDusty_19 (by decide) (fun c6 => ?_) (fun c6 => ?_)
    · have h := it_n c6 h
      refine lv_aload_n hx hb dX12_isDusty_26 rfl (lv_at hl 0 rfl) ?_
      have hR7 : Ok 202 (R x0 22) 10024 := hSh x0 12 22 10024 hx0.1 rfl
      refine x_getR C S KX12 hx0 22 (by decide) rfl rfl fl_RX12_49 hR7 dX12_isDusty_27 ?_
      refine lv_iload_n hx hb dX12_isDusty_30 rfl (lv_at hl 3 rfl) ?_
      obtain ⟨hi8, h⟩ := ck_el h
      refine x_iald (len := 24) C S (by decide) hR7 hi8 dX12_isDusty_31 ?_
      refine lv_iconst (v := (4 : Int32)) hx hb dX12_isDusty_32 (by decide) ?_
      refine lv_icmp_ge (tgt := 40) hx hb dX12_isDusty_33 (by decide) (fun c9 => ?_) (fun c9 => ?_)
      · have h := it_p c9 h
        refine lv_iconst (v := (-1 : Int32)) hx hb dX12_isDusty_40 (by decide) ?_
        refine lv_istore (lv' := [(4, .int (-1 : Int32)), (0, .ref (ga g x0)), (1, .int x1), (2, .int x2), (3, .int x3)]) hx hb dX12_isDusty_41 hl (by decide) rfl (fun ls hl => ?_)
        refine lv_aload_n hx hb dX12_isDusty_43 rfl (lv_at hl 1 rfl) ?_
        have hR10 : Ok 202 (R x0 22) 10024 := hSh x0 12 22 10024 hx0.1 rfl
        refine x_getR C S KX12 hx0 22 (by decide) rfl rfl fl_RX12_49 hR10 dX12_isDusty_44 ?_
        refine lv_iload_n hx hb dX12_isDusty_47 rfl (lv_at hl 4 rfl) ?_
        obtain ⟨hi11, h⟩ := ck_el h
        refine x_iald (len := 24) C S (by decide) hR10 hi11 dX12_isDusty_48 ?_
        refine lv_iconst (v := (4 : Int32)) hx hb dX12_isDusty_49 (by decide) ?_
        refine lv_irem hx hb dX12_isDusty_50 (by decide) ?_
        refine lv_iconst (v := (2 : Int32)) hx hb dX12_isDusty_51 (by decide) ?_
        refine lv_icmp_ne (tgt := 59) hx hb dX12_isDusty_52 (by decide) (fun c12 => ?_) (fun c12 => ?_)
        · have h := it_n c12 h
          refine lv_aload_n hx hb dX12_isDusty_59 rfl (lv_at hl 1 rfl) ?_
          have hR13 : Ok 202 (R x0 22) 10024 := hSh x0 12 22 10024 hx0.1 rfl
          refine x_getR C S KX12 hx0 22 (by decide) rfl rfl fl_RX12_49 hR13 dX12_isDusty_60 ?_
          refine lv_iload_n hx hb dX12_isDusty_63 rfl (lv_at hl 4 rfl) ?_
          obtain ⟨hi14, h⟩ := ck_el h
          refine x_iald (len := 24) C S (by decide) hR13 hi14 dX12_isDusty_64 ?_
          refine lv_iconst (v := (2 : Int32)) hx hb dX12_isDusty_65 (by decide) ?_
          refine lv_icmp_le (tgt := 84) hx hb dX12_isDusty_66 (by decide) (fun c15 => ?_) (fun c15 => ?_)
          · have h := it_p c15 h
            exact w_X12_isDusty_84 C hr hSh σ x0 x1 x2 x3 (-1 : Int32) h hx0 H locs ls S (lv_sub hl [1, 2, 3, 4, 0] rfl)
          · have h := it_n c15 h
            refine lv_aload_n hx hb dX12_isDusty_69 rfl (lv_at hl 1 rfl) ?_
            have hR33 : Ok 202 (R x0 22) 10024 := hSh x0 12 22 10024 hx0.1 rfl
            refine x_getR C S KX12 hx0 22 (by decide) rfl rfl fl_RX12_49 hR33 dX12_isDusty_70 ?_
            refine lv_iload_n hx hb dX12_isDusty_73 rfl (lv_at hl 4 rfl) ?_
            obtain ⟨hi34, h⟩ := ck_el h
            refine x_iald (len := 24) C S (by decide) hR33 hi34 dX12_isDusty_74 ?_
            refine lv_bipush (v := (6 : Int32)) hx hb dX12_isDusty_75 (by decide) ?_
            refine lv_icmp_ge (tgt := 84) hx hb dX12_isDusty_77 (by decide) (fun c35 => ?_) (fun c35 => ?_)
            · have h := it_p c35 h
              exact w_X12_isDusty_84 C hr hSh σ x0 x1 x2 x3 (-1 : Int32) h hx0 H locs ls S (lv_sub hl [1, 2, 3, 4, 0] rfl)
            · have h := it_n c35 h
              refine lv_iconst (v := (1 : Int32)) hx hb dX12_isDusty_80 (by decide) ?_
              refine lv_goto (tgt := 85) hx hb dX12_isDusty_81 (by decide) ?_
              refine lv_istore (lv' := [(5, .int (1 : Int32)), (4, .int (-1 : Int32)), (0, .ref (ga g x0)), (1, .int x1), (2, .int x2), (3, .int x3)]) hx hb dX12_isDusty_85 hl (by decide) rfl (fun ls hl => ?_)
              refine lv_aload_n hx hb dX12_isDusty_87 rfl (lv_at hl 2 rfl) ?_
              have hR36 : Ok 202 (R x0 9) 10002 := hSh x0 12 9 10002 hx0.1 rfl
              refine x_getR C S KX12 hx0 9 (by decide) rfl rfl fl_RX12_7 hR36 dX12_isDusty_88 ?_
              refine lv_iload_n hx hb dX12_isDusty_91 rfl (lv_at hl 4 rfl) ?_
              obtain ⟨hi37, h⟩ := ck_el h
              refine x_iald (len := 2) C S (by decide) hR36 hi37 dX12_isDusty_92 ?_
              refine lv_aload_n hx hb dX12_isDusty_93 rfl (lv_at hl 2 rfl) ?_
              have hR38 : Ok 202 (R x0 18) 10003 := hSh x0 12 18 10003 hx0.1 rfl
              refine x_getR C S KX12 hx0 18 (by decide) rfl rfl fl_RX12_37 hR38 dX12_isDusty_94 ?_
              refine lv_iload_n hx hb dX12_isDusty_97 rfl (lv_at hl 3 rfl) ?_
              obtain ⟨hi39, h⟩ := ck_el h
              refine x_iald (len := 3) C S (by decide) hR38 hi39 dX12_isDusty_98 ?_
              refine lv_isub hx hb dX12_isDusty_99 ?_
              refine lv_istore (lv' := [(6, .int ((σ (R x0 9) x2.toNatClampNeg) - (σ (R x0 18) x1.toNatClampNeg))), (5, .int (1 : Int32)), (4, .int (-1 : Int32)), (0, .ref (ga g x0)), (1, .int x1), (2, .int x2), (3, .int x3)]) hx hb dX12_isDusty_100 hl (by decide) rfl (fun ls hl => ?_)
              refine lv_aload_n hx hb dX12_isDusty_102 rfl (lv_at hl 3 rfl) ?_
              have hR40 : Ok 202 (R x0 10) 10002 := hSh x0 12 10 10002 hx0.1 rfl
              refine x_getR C S KX12 hx0 10 (by decide) rfl rfl fl_RX12_13 hR40 dX12_isDusty_103 ?_
              refine lv_iload_n hx hb dX12_isDusty_106 rfl (lv_at hl 5 rfl) ?_
              obtain ⟨hi41, h⟩ := ck_el h
              refine x_iald (len := 2) C S (by decide) hR40 hi41 dX12_isDusty_107 ?_
              refine lv_aload_n hx hb dX12_isDusty_108 rfl (lv_at hl 3 rfl) ?_
              have hR42 : Ok 202 (R x0 19) 10003 := hSh x0 12 19 10003 hx0.1 rfl
              refine x_getR C S KX12 hx0 19 (by decide) rfl rfl fl_RX12_40 hR42 dX12_isDusty_109 ?_
              refine lv_iload_n hx hb dX12_isDusty_112 rfl (lv_at hl 4 rfl) ?_
              obtain ⟨hi43, h⟩ := ck_el h
              refine x_iald (len := 3) C S (by decide) hR42 hi43 dX12_isDusty_113 ?_
              refine lv_isub hx hb dX12_isDusty_114 ?_
              refine lv_istore (lv' := [(7, .int ((σ (R x0 10) x2.toNatClampNeg) - (σ (R x0 19) x1.toNatClampNeg))), (6, .int ((σ (R x0 9) x2.toNatClampNeg) - (σ (R x0 18) x1.toNatClampNeg))), (5, .int (1 : Int32)), (4, .int (-1 : Int32)), (0, .ref (ga g x0)), (1, .int x1), (2, .int x2), (3, .int x3)]) hx hb dX12_isDusty_115 hl (by decide) rfl (fun ls hl => ?_)
              refine lv_iload hx hb dX12_isDusty_117 (lv_at hl 1 rfl) ?_
              refine lv_iload hx hb dX12_isDusty_119 (lv_at hl 3 rfl) ?_
              refine lv_imul hx hb dX12_isDusty_121 ?_
              refine lv_iload hx hb dX12_isDusty_122 (lv_at hl 0 rfl) ?_
              refine lv_iload hx hb dX12_isDusty_124 (lv_at hl 2 rfl) ?_
              refine lv_imul hx hb dX12_isDusty_126 ?_
              refine lv_iadd hx hb dX12_isDusty_127 ?_
              refine lv_istore (lv' := [(8, .int ((((σ (R x0 9) x2.toNatClampNeg) - (σ (R x0 18) x1.toNatClampNeg)) * (-1 : Int32)) + (((σ (R x0 10) x2.toNatClampNeg) - (σ (R x0 19) x1.toNatClampNeg)) * (1 : Int32)))), (7, .int ((σ (R x0 10) x2.toNatClampNeg) - (σ (R x0 19) x1.toNatClampNeg))), (6, .int ((σ (R x0 9) x2.toNatClampNeg) - (σ (R x0 18) x1.toNatClampNeg))), (5, .int (1 : Int32)), (4, .int (-1 : Int32)), (0, .ref (ga g x0)), (1, .int x1), (2, .int x2), (3, .int x3)]) hx hb dX12_isDusty_128 hl (by decide) rfl (fun ls hl => ?_)
              refine lv_iload hx hb dX12_isDusty_130 (lv_at hl 2 rfl) ?_
              refine lv_iload hx hb dX12_isDusty_132 (lv_at hl 3 rfl) ?_
              refine lv_imul hx hb dX12_isDusty_134 ?_
              refine lv_iload hx hb dX12_isDusty_135 (lv_at hl 1 rfl) ?_
              refine lv_iload hx hb dX12_isDusty_137 (lv_at hl 4 rfl) ?_
              refine lv_imul hx hb dX12_isDusty_139 ?_
              refine lv_isub hx hb dX12_isDusty_140 ?_
              refine lv_istore (lv' := [(9, .int ((((σ (R x0 9) x2.toNatClampNeg) - (σ (R x0 18) x1.toNatClampNeg)) * (1 : Int32)) - (((σ (R x0 10) x2.toNatClampNeg) - (σ (R x0 19) x1.toNatClampNeg)) * (-1 : Int32)))), (8, .int ((((σ (R x0 9) x2.toNatClampNeg) - (σ (R x0 18) x1.toNatClampNeg)) * (-1 : Int32)) + (((σ (R x0 10) x2.toNatClampNeg) - (σ (R x0 19) x1.toNatClampNeg)) * (1 : Int32)))), (7, .int ((σ (R x0 10) x2.toNatClampNeg) - (σ (R x0 19) x1.toNatClampNeg))), (6, .int ((σ (R x0 9) x2.toNatClampNeg) - (σ (R x0 18) x1.toNatClampNeg))), (5, .int (1 : Int32)), (4, .int (-1 : Int32)), (0, .ref (ga g x0)), (1, .int x1), (2, .int x2), (3, .int x3)]) hx hb dX12_isDusty_141 hl (by decide) rfl (fun ls hl => ?_)
              refine lv_iload hx hb dX12_isDusty_143 (lv_at hl 1 rfl) ?_
              refine lv_if_le (tgt := 193) hx hb dX12_isDusty_145 (by decide) (fun c44 => ?_) (fun c44 => ?_)
              · have h := it_p c44 h
                refine lv_iconst (v := (0 : Int32)) hx hb dX12_isDusty_193 (by decide) ?_
                exact x_zret C S hr (by decide) h dX12_isDusty_194
              · have h := it_n c44 h
                refine lv_iload hx hb dX12_isDusty_148 (lv_at hl 0 rfl) ?_
                refine lv_iload hx hb dX12_isDusty_150 (lv_at hl 1 rfl) ?_
                refine lv_icmp_gt (tgt := 193) hx hb dX12_isDusty_152 (by decide) (fun c45 => ?_) (fun c45 => ?_)
                · have h := it_p c45 h
                  refine lv_iconst (v := (0 : Int32)) hx hb dX12_isDusty_193 (by decide) ?_
                  exact x_zret C S hr (by decide) h dX12_isDusty_194
                · have h := it_n c45 h
                  refine lv_iload hx hb dX12_isDusty_155 (lv_at hl 0 rfl) ?_
                  refine lv_ineg hx hb dX12_isDusty_157 ?_
                  refine lv_iload hx hb dX12_isDusty_158 (lv_at hl 1 rfl) ?_
                  refine lv_icmp_gt (tgt := 193) hx hb dX12_isDusty_160 (by decide) (fun c46 => ?_) (fun c46 => ?_)
                  · have h := it_p c46 h
                    refine lv_iconst (v := (0 : Int32)) hx hb dX12_isDusty_193 (by decide) ?_
                    exact x_zret C S hr (by decide) h dX12_isDusty_194
                  · have h := it_n c46 h
                    refine lv_aload_n hx hb dX12_isDusty_163 rfl (lv_at hl 6 rfl) ?_
                    refine lv_iload_n hx hb dX12_isDusty_164 rfl (lv_at hl 7 rfl) ?_
                    refine lv_iload_n hx hb dX12_isDusty_165 rfl (lv_at hl 8 rfl) ?_
                    obtain ⟨a47, σ47, hc47, h⟩ := bd_el h
                    refine x_callVI C S KX12 hx0 (ok_X12_far (L := L) hc47 hSh hx0) ⟨cd_X12_far, ni_RX12, ml_RX12_158, in_X12_far, sl_X12_far⟩ ⟨by decide, by decide⟩ rfl (rm_ok (by decide) (by decide)) hl.1 rfl (Nat.le_of_ble_eq_true rfl) ⟨by decide, by decide⟩ dX12_isDusty_166 (fun H locs S => ?_)
                    refine lv_sipush (v := (2500 : Int32)) hx hb dX12_isDusty_169 (by decide) ?_
                    refine lv_aload_n hx hb dX12_isDusty_172 rfl (lv_at hl 6 rfl) ?_
                    have hR48 : Ok 202 (R x0 23) 10024 := hSh x0 12 23 10024 hx0.1 rfl
                    refine x_getR C S KX12 hx0 23 (by decide) rfl rfl fl_RX12_52 hR48 dX12_isDusty_173 ?_
                    refine lv_iload_n hx hb dX12_isDusty_176 rfl (lv_at hl 9 rfl) ?_
                    obtain ⟨hi49, h⟩ := ck_el h
                    refine x_iald (len := 24) C S (by decide) hR48 hi49 dX12_isDusty_177 ?_
                    refine lv_imul hx hb dX12_isDusty_178 ?_
                    refine lv_aload_n hx hb dX12_isDusty_179 rfl (lv_at hl 6 rfl) ?_
                    have hR50 : Ok 202 (R x0 23) 10024 := hSh x0 12 23 10024 hx0.1 rfl
                    refine x_getR C S KX12 hx0 23 (by decide) rfl rfl fl_RX12_52 hR50 dX12_isDusty_180 ?_
                    refine lv_iload_n hx hb dX12_isDusty_183 rfl (lv_at hl 9 rfl) ?_
                    obtain ⟨hi51, h⟩ := ck_el h
                    refine x_iald (len := 24) C S (by decide) hR50 hi51 dX12_isDusty_184 ?_
                    refine lv_imul hx hb dX12_isDusty_185 ?_
                    refine lv_icmp_gt (tgt := 193) hx hb dX12_isDusty_186 (by decide) (fun c52 => ?_) (fun c52 => ?_)
                    · have h := it_p c52 h
                      refine lv_iconst (v := (0 : Int32)) hx hb dX12_isDusty_193 (by decide) ?_
                      exact x_zret C S hr (by decide) h dX12_isDusty_194
                    · have h := it_n c52 h
                      refine lv_iconst (v := (1 : Int32)) hx hb dX12_isDusty_189 (by decide) ?_
                      refine lv_goto (tgt := 194) hx hb dX12_isDusty_190 (by decide) ?_
                      exact x_zret C S hr (by decide) h dX12_isDusty_194
        · have h := it_p c12 h
          refine lv_iconst (v := (0 : Int32)) hx hb dX12_isDusty_55 (by decide) ?_
          refine lv_goto (tgt := 85) hx hb dX12_isDusty_56 (by decide) ?_
          refine lv_istore (lv' := [(5, .int (0 : Int32)), (4, .int (-1 : Int32)), (0, .ref (ga g x0)), (1, .int x1), (2, .int x2), (3, .int x3)]) hx hb dX12_isDusty_85 hl (by decide) rfl (fun ls hl => ?_)
          refine lv_aload_n hx hb dX12_isDusty_87 rfl (lv_at hl 2 rfl) ?_
          have hR53 : Ok 202 (R x0 9) 10002 := hSh x0 12 9 10002 hx0.1 rfl
          refine x_getR C S KX12 hx0 9 (by decide) rfl rfl fl_RX12_7 hR53 dX12_isDusty_88 ?_
          refine lv_iload_n hx hb dX12_isDusty_91 rfl (lv_at hl 4 rfl) ?_
          obtain ⟨hi54, h⟩ := ck_el h
          refine x_iald (len := 2) C S (by decide) hR53 hi54 dX12_isDusty_92 ?_
          refine lv_aload_n hx hb dX12_isDusty_93 rfl (lv_at hl 2 rfl) ?_
          have hR55 : Ok 202 (R x0 18) 10003 := hSh x0 12 18 10003 hx0.1 rfl
          refine x_getR C S KX12 hx0 18 (by decide) rfl rfl fl_RX12_37 hR55 dX12_isDusty_94 ?_
          refine lv_iload_n hx hb dX12_isDusty_97 rfl (lv_at hl 3 rfl) ?_
          obtain ⟨hi56, h⟩ := ck_el h
          refine x_iald (len := 3) C S (by decide) hR55 hi56 dX12_isDusty_98 ?_
          refine lv_isub hx hb dX12_isDusty_99 ?_
          refine lv_istore (lv' := [(6, .int ((σ (R x0 9) x2.toNatClampNeg) - (σ (R x0 18) x1.toNatClampNeg))), (5, .int (0 : Int32)), (4, .int (-1 : Int32)), (0, .ref (ga g x0)), (1, .int x1), (2, .int x2), (3, .int x3)]) hx hb dX12_isDusty_100 hl (by decide) rfl (fun ls hl => ?_)
          refine lv_aload_n hx hb dX12_isDusty_102 rfl (lv_at hl 3 rfl) ?_
          have hR57 : Ok 202 (R x0 10) 10002 := hSh x0 12 10 10002 hx0.1 rfl
          refine x_getR C S KX12 hx0 10 (by decide) rfl rfl fl_RX12_13 hR57 dX12_isDusty_103 ?_
          refine lv_iload_n hx hb dX12_isDusty_106 rfl (lv_at hl 5 rfl) ?_
          obtain ⟨hi58, h⟩ := ck_el h
          refine x_iald (len := 2) C S (by decide) hR57 hi58 dX12_isDusty_107 ?_
          refine lv_aload_n hx hb dX12_isDusty_108 rfl (lv_at hl 3 rfl) ?_
          have hR59 : Ok 202 (R x0 19) 10003 := hSh x0 12 19 10003 hx0.1 rfl
          refine x_getR C S KX12 hx0 19 (by decide) rfl rfl fl_RX12_40 hR59 dX12_isDusty_109 ?_
          refine lv_iload_n hx hb dX12_isDusty_112 rfl (lv_at hl 4 rfl) ?_
          obtain ⟨hi60, h⟩ := ck_el h
          refine x_iald (len := 3) C S (by decide) hR59 hi60 dX12_isDusty_113 ?_
          refine lv_isub hx hb dX12_isDusty_114 ?_
          refine lv_istore (lv' := [(7, .int ((σ (R x0 10) x2.toNatClampNeg) - (σ (R x0 19) x1.toNatClampNeg))), (6, .int ((σ (R x0 9) x2.toNatClampNeg) - (σ (R x0 18) x1.toNatClampNeg))), (5, .int (0 : Int32)), (4, .int (-1 : Int32)), (0, .ref (ga g x0)), (1, .int x1), (2, .int x2), (3, .int x3)]) hx hb dX12_isDusty_115 hl (by decide) rfl (fun ls hl => ?_)
          refine lv_iload hx hb dX12_isDusty_117 (lv_at hl 1 rfl) ?_
          refine lv_iload hx hb dX12_isDusty_119 (lv_at hl 3 rfl) ?_
          refine lv_imul hx hb dX12_isDusty_121 ?_
          refine lv_iload hx hb dX12_isDusty_122 (lv_at hl 0 rfl) ?_
          refine lv_iload hx hb dX12_isDusty_124 (lv_at hl 2 rfl) ?_
          refine lv_imul hx hb dX12_isDusty_126 ?_
          refine lv_iadd hx hb dX12_isDusty_127 ?_
          refine lv_istore (lv' := [(8, .int ((((σ (R x0 9) x2.toNatClampNeg) - (σ (R x0 18) x1.toNatClampNeg)) * (-1 : Int32)) + (((σ (R x0 10) x2.toNatClampNeg) - (σ (R x0 19) x1.toNatClampNeg)) * (0 : Int32)))), (7, .int ((σ (R x0 10) x2.toNatClampNeg) - (σ (R x0 19) x1.toNatClampNeg))), (6, .int ((σ (R x0 9) x2.toNatClampNeg) - (σ (R x0 18) x1.toNatClampNeg))), (5, .int (0 : Int32)), (4, .int (-1 : Int32)), (0, .ref (ga g x0)), (1, .int x1), (2, .int x2), (3, .int x3)]) hx hb dX12_isDusty_128 hl (by decide) rfl (fun ls hl => ?_)
          refine lv_iload hx hb dX12_isDusty_130 (lv_at hl 2 rfl) ?_
          refine lv_iload hx hb dX12_isDusty_132 (lv_at hl 3 rfl) ?_
          refine lv_imul hx hb dX12_isDusty_134 ?_
          refine lv_iload hx hb dX12_isDusty_135 (lv_at hl 1 rfl) ?_
          refine lv_iload hx hb dX12_isDusty_137 (lv_at hl 4 rfl) ?_
          refine lv_imul hx hb dX12_isDusty_139 ?_
          refine lv_isub hx hb dX12_isDusty_140 ?_
          refine lv_istore (lv' := [(9, .int ((((σ (R x0 9) x2.toNatClampNeg) - (σ (R x0 18) x1.toNatClampNeg)) * (0 : Int32)) - (((σ (R x0 10) x2.toNatClampNeg) - (σ (R x0 19) x1.toNatClampNeg)) * (-1 : Int32)))), (8, .int ((((σ (R x0 9) x2.toNatClampNeg) - (σ (R x0 18) x1.toNatClampNeg)) * (-1 : Int32)) + (((σ (R x0 10) x2.toNatClampNeg) - (σ (R x0 19) x1.toNatClampNeg)) * (0 : Int32)))), (7, .int ((σ (R x0 10) x2.toNatClampNeg) - (σ (R x0 19) x1.toNatClampNeg))), (6, .int ((σ (R x0 9) x2.toNatClampNeg) - (σ (R x0 18) x1.toNatClampNeg))), (5, .int (0 : Int32)), (4, .int (-1 : Int32)), (0, .ref (ga g x0)), (1, .int x1), (2, .int x2), (3, .int x3)]) hx hb dX12_isDusty_141 hl (by decide) rfl (fun ls hl => ?_)
          refine lv_iload hx hb dX12_isDusty_143 (lv_at hl 1 rfl) ?_
          refine lv_if_le (tgt := 193) hx hb dX12_isDusty_145 (by decide) (fun c61 => ?_) (fun c61 => ?_)
          · have h := it_p c61 h
            refine lv_iconst (v := (0 : Int32)) hx hb dX12_isDusty_193 (by decide) ?_
            exact x_zret C S hr (by decide) h dX12_isDusty_194
          · have h := it_n c61 h
            refine lv_iload hx hb dX12_isDusty_148 (lv_at hl 0 rfl) ?_
            refine lv_iload hx hb dX12_isDusty_150 (lv_at hl 1 rfl) ?_
            refine lv_icmp_gt (tgt := 193) hx hb dX12_isDusty_152 (by decide) (fun c62 => ?_) (fun c62 => ?_)
            · have h := it_p c62 h
              refine lv_iconst (v := (0 : Int32)) hx hb dX12_isDusty_193 (by decide) ?_
              exact x_zret C S hr (by decide) h dX12_isDusty_194
            · have h := it_n c62 h
              refine lv_iload hx hb dX12_isDusty_155 (lv_at hl 0 rfl) ?_
              refine lv_ineg hx hb dX12_isDusty_157 ?_
              refine lv_iload hx hb dX12_isDusty_158 (lv_at hl 1 rfl) ?_
              refine lv_icmp_gt (tgt := 193) hx hb dX12_isDusty_160 (by decide) (fun c63 => ?_) (fun c63 => ?_)
              · have h := it_p c63 h
                refine lv_iconst (v := (0 : Int32)) hx hb dX12_isDusty_193 (by decide) ?_
                exact x_zret C S hr (by decide) h dX12_isDusty_194
              · have h := it_n c63 h
                refine lv_aload_n hx hb dX12_isDusty_163 rfl (lv_at hl 6 rfl) ?_
                refine lv_iload_n hx hb dX12_isDusty_164 rfl (lv_at hl 7 rfl) ?_
                refine lv_iload_n hx hb dX12_isDusty_165 rfl (lv_at hl 8 rfl) ?_
                obtain ⟨a64, σ64, hc64, h⟩ := bd_el h
                refine x_callVI C S KX12 hx0 (ok_X12_far (L := L) hc64 hSh hx0) ⟨cd_X12_far, ni_RX12, ml_RX12_158, in_X12_far, sl_X12_far⟩ ⟨by decide, by decide⟩ rfl (rm_ok (by decide) (by decide)) hl.1 rfl (Nat.le_of_ble_eq_true rfl) ⟨by decide, by decide⟩ dX12_isDusty_166 (fun H locs S => ?_)
                refine lv_sipush (v := (2500 : Int32)) hx hb dX12_isDusty_169 (by decide) ?_
                refine lv_aload_n hx hb dX12_isDusty_172 rfl (lv_at hl 6 rfl) ?_
                have hR65 : Ok 202 (R x0 23) 10024 := hSh x0 12 23 10024 hx0.1 rfl
                refine x_getR C S KX12 hx0 23 (by decide) rfl rfl fl_RX12_52 hR65 dX12_isDusty_173 ?_
                refine lv_iload_n hx hb dX12_isDusty_176 rfl (lv_at hl 9 rfl) ?_
                obtain ⟨hi66, h⟩ := ck_el h
                refine x_iald (len := 24) C S (by decide) hR65 hi66 dX12_isDusty_177 ?_
                refine lv_imul hx hb dX12_isDusty_178 ?_
                refine lv_aload_n hx hb dX12_isDusty_179 rfl (lv_at hl 6 rfl) ?_
                have hR67 : Ok 202 (R x0 23) 10024 := hSh x0 12 23 10024 hx0.1 rfl
                refine x_getR C S KX12 hx0 23 (by decide) rfl rfl fl_RX12_52 hR67 dX12_isDusty_180 ?_
                refine lv_iload_n hx hb dX12_isDusty_183 rfl (lv_at hl 9 rfl) ?_
                obtain ⟨hi68, h⟩ := ck_el h
                refine x_iald (len := 24) C S (by decide) hR67 hi68 dX12_isDusty_184 ?_
                refine lv_imul hx hb dX12_isDusty_185 ?_
                refine lv_icmp_gt (tgt := 193) hx hb dX12_isDusty_186 (by decide) (fun c69 => ?_) (fun c69 => ?_)
                · have h := it_p c69 h
                  refine lv_iconst (v := (0 : Int32)) hx hb dX12_isDusty_193 (by decide) ?_
                  exact x_zret C S hr (by decide) h dX12_isDusty_194
                · have h := it_n c69 h
                  refine lv_iconst (v := (1 : Int32)) hx hb dX12_isDusty_189 (by decide) ?_
                  refine lv_goto (tgt := 194) hx hb dX12_isDusty_190 (by decide) ?_
                  exact x_zret C S hr (by decide) h dX12_isDusty_194
      · have h := it_n c9 h
        refine lv_iconst (v := (1 : Int32)) hx hb dX12_isDusty_36 (by decide) ?_
        refine lv_goto (tgt := 41) hx hb dX12_isDusty_37 (by decide) ?_
        refine lv_istore (lv' := [(4, .int (1 : Int32)), (0, .ref (ga g x0)), (1, .int x1), (2, .int x2), (3, .int x3)]) hx hb dX12_isDusty_41 hl (by decide) rfl (fun ls hl => ?_)
        refine lv_aload_n hx hb dX12_isDusty_43 rfl (lv_at hl 1 rfl) ?_
        have hR70 : Ok 202 (R x0 22) 10024 := hSh x0 12 22 10024 hx0.1 rfl
        refine x_getR C S KX12 hx0 22 (by decide) rfl rfl fl_RX12_49 hR70 dX12_isDusty_44 ?_
        refine lv_iload_n hx hb dX12_isDusty_47 rfl (lv_at hl 4 rfl) ?_
        obtain ⟨hi71, h⟩ := ck_el h
        refine x_iald (len := 24) C S (by decide) hR70 hi71 dX12_isDusty_48 ?_
        refine lv_iconst (v := (4 : Int32)) hx hb dX12_isDusty_49 (by decide) ?_
        refine lv_irem hx hb dX12_isDusty_50 (by decide) ?_
        refine lv_iconst (v := (2 : Int32)) hx hb dX12_isDusty_51 (by decide) ?_
        refine lv_icmp_ne (tgt := 59) hx hb dX12_isDusty_52 (by decide) (fun c72 => ?_) (fun c72 => ?_)
        · have h := it_n c72 h
          refine lv_aload_n hx hb dX12_isDusty_59 rfl (lv_at hl 1 rfl) ?_
          have hR73 : Ok 202 (R x0 22) 10024 := hSh x0 12 22 10024 hx0.1 rfl
          refine x_getR C S KX12 hx0 22 (by decide) rfl rfl fl_RX12_49 hR73 dX12_isDusty_60 ?_
          refine lv_iload_n hx hb dX12_isDusty_63 rfl (lv_at hl 4 rfl) ?_
          obtain ⟨hi74, h⟩ := ck_el h
          refine x_iald (len := 24) C S (by decide) hR73 hi74 dX12_isDusty_64 ?_
          refine lv_iconst (v := (2 : Int32)) hx hb dX12_isDusty_65 (by decide) ?_
          refine lv_icmp_le (tgt := 84) hx hb dX12_isDusty_66 (by decide) (fun c75 => ?_) (fun c75 => ?_)
          · have h := it_p c75 h
            exact w_X12_isDusty_84 C hr hSh σ x0 x1 x2 x3 (1 : Int32) h hx0 H locs ls S (lv_sub hl [1, 2, 3, 4, 0] rfl)
          · have h := it_n c75 h
            refine lv_aload_n hx hb dX12_isDusty_69 rfl (lv_at hl 1 rfl) ?_
            have hR76 : Ok 202 (R x0 22) 10024 := hSh x0 12 22 10024 hx0.1 rfl
            refine x_getR C S KX12 hx0 22 (by decide) rfl rfl fl_RX12_49 hR76 dX12_isDusty_70 ?_
            refine lv_iload_n hx hb dX12_isDusty_73 rfl (lv_at hl 4 rfl) ?_
            obtain ⟨hi77, h⟩ := ck_el h
            refine x_iald (len := 24) C S (by decide) hR76 hi77 dX12_isDusty_74 ?_
            refine lv_bipush (v := (6 : Int32)) hx hb dX12_isDusty_75 (by decide) ?_
            refine lv_icmp_ge (tgt := 84) hx hb dX12_isDusty_77 (by decide) (fun c78 => ?_) (fun c78 => ?_)
            · have h := it_p c78 h
              exact w_X12_isDusty_84 C hr hSh σ x0 x1 x2 x3 (1 : Int32) h hx0 H locs ls S (lv_sub hl [1, 2, 3, 4, 0] rfl)
            · have h := it_n c78 h
              refine lv_iconst (v := (1 : Int32)) hx hb dX12_isDusty_80 (by decide) ?_
              refine lv_goto (tgt := 85) hx hb dX12_isDusty_81 (by decide) ?_
              refine lv_istore (lv' := [(5, .int (1 : Int32)), (4, .int (1 : Int32)), (0, .ref (ga g x0)), (1, .int x1), (2, .int x2), (3, .int x3)]) hx hb dX12_isDusty_85 hl (by decide) rfl (fun ls hl => ?_)
              refine lv_aload_n hx hb dX12_isDusty_87 rfl (lv_at hl 2 rfl) ?_
              have hR79 : Ok 202 (R x0 9) 10002 := hSh x0 12 9 10002 hx0.1 rfl
              refine x_getR C S KX12 hx0 9 (by decide) rfl rfl fl_RX12_7 hR79 dX12_isDusty_88 ?_
              refine lv_iload_n hx hb dX12_isDusty_91 rfl (lv_at hl 4 rfl) ?_
              obtain ⟨hi80, h⟩ := ck_el h
              refine x_iald (len := 2) C S (by decide) hR79 hi80 dX12_isDusty_92 ?_
              refine lv_aload_n hx hb dX12_isDusty_93 rfl (lv_at hl 2 rfl) ?_
              have hR81 : Ok 202 (R x0 18) 10003 := hSh x0 12 18 10003 hx0.1 rfl
              refine x_getR C S KX12 hx0 18 (by decide) rfl rfl fl_RX12_37 hR81 dX12_isDusty_94 ?_
              refine lv_iload_n hx hb dX12_isDusty_97 rfl (lv_at hl 3 rfl) ?_
              obtain ⟨hi82, h⟩ := ck_el h
              refine x_iald (len := 3) C S (by decide) hR81 hi82 dX12_isDusty_98 ?_
              refine lv_isub hx hb dX12_isDusty_99 ?_
              refine lv_istore (lv' := [(6, .int ((σ (R x0 9) x2.toNatClampNeg) - (σ (R x0 18) x1.toNatClampNeg))), (5, .int (1 : Int32)), (4, .int (1 : Int32)), (0, .ref (ga g x0)), (1, .int x1), (2, .int x2), (3, .int x3)]) hx hb dX12_isDusty_100 hl (by decide) rfl (fun ls hl => ?_)
              refine lv_aload_n hx hb dX12_isDusty_102 rfl (lv_at hl 3 rfl) ?_
              have hR83 : Ok 202 (R x0 10) 10002 := hSh x0 12 10 10002 hx0.1 rfl
              refine x_getR C S KX12 hx0 10 (by decide) rfl rfl fl_RX12_13 hR83 dX12_isDusty_103 ?_
              refine lv_iload_n hx hb dX12_isDusty_106 rfl (lv_at hl 5 rfl) ?_
              obtain ⟨hi84, h⟩ := ck_el h
              refine x_iald (len := 2) C S (by decide) hR83 hi84 dX12_isDusty_107 ?_
              refine lv_aload_n hx hb dX12_isDusty_108 rfl (lv_at hl 3 rfl) ?_
              have hR85 : Ok 202 (R x0 19) 10003 := hSh x0 12 19 10003 hx0.1 rfl
              refine x_getR C S KX12 hx0 19 (by decide) rfl rfl fl_RX12_40 hR85 dX12_isDusty_109 ?_
              refine lv_iload_n hx hb dX12_isDusty_112 rfl (lv_at hl 4 rfl) ?_
              obtain ⟨hi86, h⟩ := ck_el h
              refine x_iald (len := 3) C S (by decide) hR85 hi86 dX12_isDusty_113 ?_
              refine lv_isub hx hb dX12_isDusty_114 ?_
              refine lv_istore (lv' := [(7, .int ((σ (R x0 10) x2.toNatClampNeg) - (σ (R x0 19) x1.toNatClampNeg))), (6, .int ((σ (R x0 9) x2.toNatClampNeg) - (σ (R x0 18) x1.toNatClampNeg))), (5, .int (1 : Int32)), (4, .int (1 : Int32)), (0, .ref (ga g x0)), (1, .int x1), (2, .int x2), (3, .int x3)]) hx hb dX12_isDusty_115 hl (by decide) rfl (fun ls hl => ?_)
              refine lv_iload hx hb dX12_isDusty_117 (lv_at hl 1 rfl) ?_
              refine lv_iload hx hb dX12_isDusty_119 (lv_at hl 3 rfl) ?_
              refine lv_imul hx hb dX12_isDusty_121 ?_
              refine lv_iload hx hb dX12_isDusty_122 (lv_at hl 0 rfl) ?_
              refine lv_iload hx hb dX12_isDusty_124 (lv_at hl 2 rfl) ?_
              refine lv_imul hx hb dX12_isDusty_126 ?_
              refine lv_iadd hx hb dX12_isDusty_127 ?_
              refine lv_istore (lv' := [(8, .int ((((σ (R x0 9) x2.toNatClampNeg) - (σ (R x0 18) x1.toNatClampNeg)) * (1 : Int32)) + (((σ (R x0 10) x2.toNatClampNeg) - (σ (R x0 19) x1.toNatClampNeg)) * (1 : Int32)))), (7, .int ((σ (R x0 10) x2.toNatClampNeg) - (σ (R x0 19) x1.toNatClampNeg))), (6, .int ((σ (R x0 9) x2.toNatClampNeg) - (σ (R x0 18) x1.toNatClampNeg))), (5, .int (1 : Int32)), (4, .int (1 : Int32)), (0, .ref (ga g x0)), (1, .int x1), (2, .int x2), (3, .int x3)]) hx hb dX12_isDusty_128 hl (by decide) rfl (fun ls hl => ?_)
              refine lv_iload hx hb dX12_isDusty_130 (lv_at hl 2 rfl) ?_
              refine lv_iload hx hb dX12_isDusty_132 (lv_at hl 3 rfl) ?_
              refine lv_imul hx hb dX12_isDusty_134 ?_
              refine lv_iload hx hb dX12_isDusty_135 (lv_at hl 1 rfl) ?_
              refine lv_iload hx hb dX12_isDusty_137 (lv_at hl 4 rfl) ?_
              refine lv_imul hx hb dX12_isDusty_139 ?_
              refine lv_isub hx hb dX12_isDusty_140 ?_
              refine lv_istore (lv' := [(9, .int ((((σ (R x0 9) x2.toNatClampNeg) - (σ (R x0 18) x1.toNatClampNeg)) * (1 : Int32)) - (((σ (R x0 10) x2.toNatClampNeg) - (σ (R x0 19) x1.toNatClampNeg)) * (1 : Int32)))), (8, .int ((((σ (R x0 9) x2.toNatClampNeg) - (σ (R x0 18) x1.toNatClampNeg)) * (1 : Int32)) + (((σ (R x0 10) x2.toNatClampNeg) - (σ (R x0 19) x1.toNatClampNeg)) * (1 : Int32)))), (7, .int ((σ (R x0 10) x2.toNatClampNeg) - (σ (R x0 19) x1.toNatClampNeg))), (6, .int ((σ (R x0 9) x2.toNatClampNeg) - (σ (R x0 18) x1.toNatClampNeg))), (5, .int (1 : Int32)), (4, .int (1 : Int32)), (0, .ref (ga g x0)), (1, .int x1), (2, .int x2), (3, .int x3)]) hx hb dX12_isDusty_141 hl (by decide) rfl (fun ls hl => ?_)
              refine lv_iload hx hb dX12_isDusty_143 (lv_at hl 1 rfl) ?_
              refine lv_if_le (tgt := 193) hx hb dX12_isDusty_145 (by decide) (fun c87 => ?_) (fun c87 => ?_)
              · have h := it_p c87 h
                refine lv_iconst (v := (0 : Int32)) hx hb dX12_isDusty_193 (by decide) ?_
                exact x_zret C S hr (by decide) h dX12_isDusty_194
              · have h := it_n c87 h
                refine lv_iload hx hb dX12_isDusty_148 (lv_at hl 0 rfl) ?_
                refine lv_iload hx hb dX12_isDusty_150 (lv_at hl 1 rfl) ?_
                refine lv_icmp_gt (tgt := 193) hx hb dX12_isDusty_152 (by decide) (fun c88 => ?_) (fun c88 => ?_)
                · have h := it_p c88 h
                  refine lv_iconst (v := (0 : Int32)) hx hb dX12_isDusty_193 (by decide) ?_
                  exact x_zret C S hr (by decide) h dX12_isDusty_194
                · have h := it_n c88 h
                  refine lv_iload hx hb dX12_isDusty_155 (lv_at hl 0 rfl) ?_
                  refine lv_ineg hx hb dX12_isDusty_157 ?_
                  refine lv_iload hx hb dX12_isDusty_158 (lv_at hl 1 rfl) ?_
                  refine lv_icmp_gt (tgt := 193) hx hb dX12_isDusty_160 (by decide) (fun c89 => ?_) (fun c89 => ?_)
                  · have h := it_p c89 h
                    refine lv_iconst (v := (0 : Int32)) hx hb dX12_isDusty_193 (by decide) ?_
                    exact x_zret C S hr (by decide) h dX12_isDusty_194
                  · have h := it_n c89 h
                    refine lv_aload_n hx hb dX12_isDusty_163 rfl (lv_at hl 6 rfl) ?_
                    refine lv_iload_n hx hb dX12_isDusty_164 rfl (lv_at hl 7 rfl) ?_
                    refine lv_iload_n hx hb dX12_isDusty_165 rfl (lv_at hl 8 rfl) ?_
                    obtain ⟨a90, σ90, hc90, h⟩ := bd_el h
                    refine x_callVI C S KX12 hx0 (ok_X12_far (L := L) hc90 hSh hx0) ⟨cd_X12_far, ni_RX12, ml_RX12_158, in_X12_far, sl_X12_far⟩ ⟨by decide, by decide⟩ rfl (rm_ok (by decide) (by decide)) hl.1 rfl (Nat.le_of_ble_eq_true rfl) ⟨by decide, by decide⟩ dX12_isDusty_166 (fun H locs S => ?_)
                    refine lv_sipush (v := (2500 : Int32)) hx hb dX12_isDusty_169 (by decide) ?_
                    refine lv_aload_n hx hb dX12_isDusty_172 rfl (lv_at hl 6 rfl) ?_
                    have hR91 : Ok 202 (R x0 23) 10024 := hSh x0 12 23 10024 hx0.1 rfl
                    refine x_getR C S KX12 hx0 23 (by decide) rfl rfl fl_RX12_52 hR91 dX12_isDusty_173 ?_
                    refine lv_iload_n hx hb dX12_isDusty_176 rfl (lv_at hl 9 rfl) ?_
                    obtain ⟨hi92, h⟩ := ck_el h
                    refine x_iald (len := 24) C S (by decide) hR91 hi92 dX12_isDusty_177 ?_
                    refine lv_imul hx hb dX12_isDusty_178 ?_
                    refine lv_aload_n hx hb dX12_isDusty_179 rfl (lv_at hl 6 rfl) ?_
                    have hR93 : Ok 202 (R x0 23) 10024 := hSh x0 12 23 10024 hx0.1 rfl
                    refine x_getR C S KX12 hx0 23 (by decide) rfl rfl fl_RX12_52 hR93 dX12_isDusty_180 ?_
                    refine lv_iload_n hx hb dX12_isDusty_183 rfl (lv_at hl 9 rfl) ?_
                    obtain ⟨hi94, h⟩ := ck_el h
                    refine x_iald (len := 24) C S (by decide) hR93 hi94 dX12_isDusty_184 ?_
                    refine lv_imul hx hb dX12_isDusty_185 ?_
                    refine lv_icmp_gt (tgt := 193) hx hb dX12_isDusty_186 (by decide) (fun c95 => ?_) (fun c95 => ?_)
                    · have h := it_p c95 h
                      refine lv_iconst (v := (0 : Int32)) hx hb dX12_isDusty_193 (by decide) ?_
                      exact x_zret C S hr (by decide) h dX12_isDusty_194
                    · have h := it_n c95 h
                      refine lv_iconst (v := (1 : Int32)) hx hb dX12_isDusty_189 (by decide) ?_
                      refine lv_goto (tgt := 194) hx hb dX12_isDusty_190 (by decide) ?_
                      exact x_zret C S hr (by decide) h dX12_isDusty_194
        · have h := it_p c72 h
          refine lv_iconst (v := (0 : Int32)) hx hb dX12_isDusty_55 (by decide) ?_
          refine lv_goto (tgt := 85) hx hb dX12_isDusty_56 (by decide) ?_
          refine lv_istore (lv' := [(5, .int (0 : Int32)), (4, .int (1 : Int32)), (0, .ref (ga g x0)), (1, .int x1), (2, .int x2), (3, .int x3)]) hx hb dX12_isDusty_85 hl (by decide) rfl (fun ls hl => ?_)
          refine lv_aload_n hx hb dX12_isDusty_87 rfl (lv_at hl 2 rfl) ?_
          have hR96 : Ok 202 (R x0 9) 10002 := hSh x0 12 9 10002 hx0.1 rfl
          refine x_getR C S KX12 hx0 9 (by decide) rfl rfl fl_RX12_7 hR96 dX12_isDusty_88 ?_
          refine lv_iload_n hx hb dX12_isDusty_91 rfl (lv_at hl 4 rfl) ?_
          obtain ⟨hi97, h⟩ := ck_el h
          refine x_iald (len := 2) C S (by decide) hR96 hi97 dX12_isDusty_92 ?_
          refine lv_aload_n hx hb dX12_isDusty_93 rfl (lv_at hl 2 rfl) ?_
          have hR98 : Ok 202 (R x0 18) 10003 := hSh x0 12 18 10003 hx0.1 rfl
          refine x_getR C S KX12 hx0 18 (by decide) rfl rfl fl_RX12_37 hR98 dX12_isDusty_94 ?_
          refine lv_iload_n hx hb dX12_isDusty_97 rfl (lv_at hl 3 rfl) ?_
          obtain ⟨hi99, h⟩ := ck_el h
          refine x_iald (len := 3) C S (by decide) hR98 hi99 dX12_isDusty_98 ?_
          refine lv_isub hx hb dX12_isDusty_99 ?_
          refine lv_istore (lv' := [(6, .int ((σ (R x0 9) x2.toNatClampNeg) - (σ (R x0 18) x1.toNatClampNeg))), (5, .int (0 : Int32)), (4, .int (1 : Int32)), (0, .ref (ga g x0)), (1, .int x1), (2, .int x2), (3, .int x3)]) hx hb dX12_isDusty_100 hl (by decide) rfl (fun ls hl => ?_)
          refine lv_aload_n hx hb dX12_isDusty_102 rfl (lv_at hl 3 rfl) ?_
          have hR100 : Ok 202 (R x0 10) 10002 := hSh x0 12 10 10002 hx0.1 rfl
          refine x_getR C S KX12 hx0 10 (by decide) rfl rfl fl_RX12_13 hR100 dX12_isDusty_103 ?_
          refine lv_iload_n hx hb dX12_isDusty_106 rfl (lv_at hl 5 rfl) ?_
          obtain ⟨hi101, h⟩ := ck_el h
          refine x_iald (len := 2) C S (by decide) hR100 hi101 dX12_isDusty_107 ?_
          refine lv_aload_n hx hb dX12_isDusty_108 rfl (lv_at hl 3 rfl) ?_
          have hR102 : Ok 202 (R x0 19) 10003 := hSh x0 12 19 10003 hx0.1 rfl
          refine x_getR C S KX12 hx0 19 (by decide) rfl rfl fl_RX12_40 hR102 dX12_isDusty_109 ?_
          refine lv_iload_n hx hb dX12_isDusty_112 rfl (lv_at hl 4 rfl) ?_
          obtain ⟨hi103, h⟩ := ck_el h
          refine x_iald (len := 3) C S (by decide) hR102 hi103 dX12_isDusty_113 ?_
          refine lv_isub hx hb dX12_isDusty_114 ?_
          refine lv_istore (lv' := [(7, .int ((σ (R x0 10) x2.toNatClampNeg) - (σ (R x0 19) x1.toNatClampNeg))), (6, .int ((σ (R x0 9) x2.toNatClampNeg) - (σ (R x0 18) x1.toNatClampNeg))), (5, .int (0 : Int32)), (4, .int (1 : Int32)), (0, .ref (ga g x0)), (1, .int x1), (2, .int x2), (3, .int x3)]) hx hb dX12_isDusty_115 hl (by decide) rfl (fun ls hl => ?_)
          refine lv_iload hx hb dX12_isDusty_117 (lv_at hl 1 rfl) ?_
          refine lv_iload hx hb dX12_isDusty_119 (lv_at hl 3 rfl) ?_
          refine lv_imul hx hb dX12_isDusty_121 ?_
          refine lv_iload hx hb dX12_isDusty_122 (lv_at hl 0 rfl) ?_
          refine lv_iload hx hb dX12_isDusty_124 (lv_at hl 2 rfl) ?_
          refine lv_imul hx hb dX12_isDusty_126 ?_
          refine lv_iadd hx hb dX12_isDusty_127 ?_
          refine lv_istore (lv' := [(8, .int ((((σ (R x0 9) x2.toNatClampNeg) - (σ (R x0 18) x1.toNatClampNeg)) * (1 : Int32)) + (((σ (R x0 10) x2.toNatClampNeg) - (σ (R x0 19) x1.toNatClampNeg)) * (0 : Int32)))), (7, .int ((σ (R x0 10) x2.toNatClampNeg) - (σ (R x0 19) x1.toNatClampNeg))), (6, .int ((σ (R x0 9) x2.toNatClampNeg) - (σ (R x0 18) x1.toNatClampNeg))), (5, .int (0 : Int32)), (4, .int (1 : Int32)), (0, .ref (ga g x0)), (1, .int x1), (2, .int x2), (3, .int x3)]) hx hb dX12_isDusty_128 hl (by decide) rfl (fun ls hl => ?_)
          refine lv_iload hx hb dX12_isDusty_130 (lv_at hl 2 rfl) ?_
          refine lv_iload hx hb dX12_isDusty_132 (lv_at hl 3 rfl) ?_
          refine lv_imul hx hb dX12_isDusty_134 ?_
          refine lv_iload hx hb dX12_isDusty_135 (lv_at hl 1 rfl) ?_
          refine lv_iload hx hb dX12_isDusty_137 (lv_at hl 4 rfl) ?_
          refine lv_imul hx hb dX12_isDusty_139 ?_
          refine lv_isub hx hb dX12_isDusty_140 ?_
          refine lv_istore (lv' := [(9, .int ((((σ (R x0 9) x2.toNatClampNeg) - (σ (R x0 18) x1.toNatClampNeg)) * (0 : Int32)) - (((σ (R x0 10) x2.toNatClampNeg) - (σ (R x0 19) x1.toNatClampNeg)) * (1 : Int32)))), (8, .int ((((σ (R x0 9) x2.toNatClampNeg) - (σ (R x0 18) x1.toNatClampNeg)) * (1 : Int32)) + (((σ (R x0 10) x2.toNatClampNeg) - (σ (R x0 19) x1.toNatClampNeg)) * (0 : Int32)))), (7, .int ((σ (R x0 10) x2.toNatClampNeg) - (σ (R x0 19) x1.toNatClampNeg))), (6, .int ((σ (R x0 9) x2.toNatClampNeg) - (σ (R x0 18) x1.toNatClampNeg))), (5, .int (0 : Int32)), (4, .int (1 : Int32)), (0, .ref (ga g x0)), (1, .int x1), (2, .int x2), (3, .int x3)]) hx hb dX12_isDusty_141 hl (by decide) rfl (fun ls hl => ?_)
          refine lv_iload hx hb dX12_isDusty_143 (lv_at hl 1 rfl) ?_
          refine lv_if_le (tgt := 193) hx hb dX12_isDusty_145 (by decide) (fun c104 => ?_) (fun c104 => ?_)
          · have h := it_p c104 h
            refine lv_iconst (v := (0 : Int32)) hx hb dX12_isDusty_193 (by decide) ?_
            exact x_zret C S hr (by decide) h dX12_isDusty_194
          · have h := it_n c104 h
            refine lv_iload hx hb dX12_isDusty_148 (lv_at hl 0 rfl) ?_
            refine lv_iload hx hb dX12_isDusty_150 (lv_at hl 1 rfl) ?_
            refine lv_icmp_gt (tgt := 193) hx hb dX12_isDusty_152 (by decide) (fun c105 => ?_) (fun c105 => ?_)
            · have h := it_p c105 h
              refine lv_iconst (v := (0 : Int32)) hx hb dX12_isDusty_193 (by decide) ?_
              exact x_zret C S hr (by decide) h dX12_isDusty_194
            · have h := it_n c105 h
              refine lv_iload hx hb dX12_isDusty_155 (lv_at hl 0 rfl) ?_
              refine lv_ineg hx hb dX12_isDusty_157 ?_
              refine lv_iload hx hb dX12_isDusty_158 (lv_at hl 1 rfl) ?_
              refine lv_icmp_gt (tgt := 193) hx hb dX12_isDusty_160 (by decide) (fun c106 => ?_) (fun c106 => ?_)
              · have h := it_p c106 h
                refine lv_iconst (v := (0 : Int32)) hx hb dX12_isDusty_193 (by decide) ?_
                exact x_zret C S hr (by decide) h dX12_isDusty_194
              · have h := it_n c106 h
                refine lv_aload_n hx hb dX12_isDusty_163 rfl (lv_at hl 6 rfl) ?_
                refine lv_iload_n hx hb dX12_isDusty_164 rfl (lv_at hl 7 rfl) ?_
                refine lv_iload_n hx hb dX12_isDusty_165 rfl (lv_at hl 8 rfl) ?_
                obtain ⟨a107, σ107, hc107, h⟩ := bd_el h
                refine x_callVI C S KX12 hx0 (ok_X12_far (L := L) hc107 hSh hx0) ⟨cd_X12_far, ni_RX12, ml_RX12_158, in_X12_far, sl_X12_far⟩ ⟨by decide, by decide⟩ rfl (rm_ok (by decide) (by decide)) hl.1 rfl (Nat.le_of_ble_eq_true rfl) ⟨by decide, by decide⟩ dX12_isDusty_166 (fun H locs S => ?_)
                refine lv_sipush (v := (2500 : Int32)) hx hb dX12_isDusty_169 (by decide) ?_
                refine lv_aload_n hx hb dX12_isDusty_172 rfl (lv_at hl 6 rfl) ?_
                have hR108 : Ok 202 (R x0 23) 10024 := hSh x0 12 23 10024 hx0.1 rfl
                refine x_getR C S KX12 hx0 23 (by decide) rfl rfl fl_RX12_52 hR108 dX12_isDusty_173 ?_
                refine lv_iload_n hx hb dX12_isDusty_176 rfl (lv_at hl 9 rfl) ?_
                obtain ⟨hi109, h⟩ := ck_el h
                refine x_iald (len := 24) C S (by decide) hR108 hi109 dX12_isDusty_177 ?_
                refine lv_imul hx hb dX12_isDusty_178 ?_
                refine lv_aload_n hx hb dX12_isDusty_179 rfl (lv_at hl 6 rfl) ?_
                have hR110 : Ok 202 (R x0 23) 10024 := hSh x0 12 23 10024 hx0.1 rfl
                refine x_getR C S KX12 hx0 23 (by decide) rfl rfl fl_RX12_52 hR110 dX12_isDusty_180 ?_
                refine lv_iload_n hx hb dX12_isDusty_183 rfl (lv_at hl 9 rfl) ?_
                obtain ⟨hi111, h⟩ := ck_el h
                refine x_iald (len := 24) C S (by decide) hR110 hi111 dX12_isDusty_184 ?_
                refine lv_imul hx hb dX12_isDusty_185 ?_
                refine lv_icmp_gt (tgt := 193) hx hb dX12_isDusty_186 (by decide) (fun c112 => ?_) (fun c112 => ?_)
                · have h := it_p c112 h
                  refine lv_iconst (v := (0 : Int32)) hx hb dX12_isDusty_193 (by decide) ?_
                  exact x_zret C S hr (by decide) h dX12_isDusty_194
                · have h := it_n c112 h
                  refine lv_iconst (v := (1 : Int32)) hx hb dX12_isDusty_189 (by decide) ?_
                  refine lv_goto (tgt := 194) hx hb dX12_isDusty_190 (by decide) ?_
                  exact x_zret C S hr (by decide) h dX12_isDusty_194
    · have h := it_p c6 h
      refine lv_iconst (v := (0 : Int32)) hx hb dX12_isDusty_22 (by decide) ?_
      refine lv_goto (tgt := 41) hx hb dX12_isDusty_23 (by decide) ?_
      refine lv_istore (lv' := [(4, .int (0 : Int32)), (0, .ref (ga g x0)), (1, .int x1), (2, .int x2), (3, .int x3)]) hx hb dX12_isDusty_41 hl (by decide) rfl (fun ls hl => ?_)
      refine lv_aload_n hx hb dX12_isDusty_43 rfl (lv_at hl 1 rfl) ?_
      have hR113 : Ok 202 (R x0 22) 10024 := hSh x0 12 22 10024 hx0.1 rfl
      refine x_getR C S KX12 hx0 22 (by decide) rfl rfl fl_RX12_49 hR113 dX12_isDusty_44 ?_
      refine lv_iload_n hx hb dX12_isDusty_47 rfl (lv_at hl 4 rfl) ?_
      obtain ⟨hi114, h⟩ := ck_el h
      refine x_iald (len := 24) C S (by decide) hR113 hi114 dX12_isDusty_48 ?_
      refine lv_iconst (v := (4 : Int32)) hx hb dX12_isDusty_49 (by decide) ?_
      refine lv_irem hx hb dX12_isDusty_50 (by decide) ?_
      refine lv_iconst (v := (2 : Int32)) hx hb dX12_isDusty_51 (by decide) ?_
      refine lv_icmp_ne (tgt := 59) hx hb dX12_isDusty_52 (by decide) (fun c115 => ?_) (fun c115 => ?_)
      · have h := it_n c115 h
        refine lv_aload_n hx hb dX12_isDusty_59 rfl (lv_at hl 1 rfl) ?_
        have hR116 : Ok 202 (R x0 22) 10024 := hSh x0 12 22 10024 hx0.1 rfl
        refine x_getR C S KX12 hx0 22 (by decide) rfl rfl fl_RX12_49 hR116 dX12_isDusty_60 ?_
        refine lv_iload_n hx hb dX12_isDusty_63 rfl (lv_at hl 4 rfl) ?_
        obtain ⟨hi117, h⟩ := ck_el h
        refine x_iald (len := 24) C S (by decide) hR116 hi117 dX12_isDusty_64 ?_
        refine lv_iconst (v := (2 : Int32)) hx hb dX12_isDusty_65 (by decide) ?_
        refine lv_icmp_le (tgt := 84) hx hb dX12_isDusty_66 (by decide) (fun c118 => ?_) (fun c118 => ?_)
        · have h := it_p c118 h
          exact w_X12_isDusty_84 C hr hSh σ x0 x1 x2 x3 (0 : Int32) h hx0 H locs ls S (lv_sub hl [1, 2, 3, 4, 0] rfl)
        · have h := it_n c118 h
          refine lv_aload_n hx hb dX12_isDusty_69 rfl (lv_at hl 1 rfl) ?_
          have hR119 : Ok 202 (R x0 22) 10024 := hSh x0 12 22 10024 hx0.1 rfl
          refine x_getR C S KX12 hx0 22 (by decide) rfl rfl fl_RX12_49 hR119 dX12_isDusty_70 ?_
          refine lv_iload_n hx hb dX12_isDusty_73 rfl (lv_at hl 4 rfl) ?_
          obtain ⟨hi120, h⟩ := ck_el h
          refine x_iald (len := 24) C S (by decide) hR119 hi120 dX12_isDusty_74 ?_
          refine lv_bipush (v := (6 : Int32)) hx hb dX12_isDusty_75 (by decide) ?_
          refine lv_icmp_ge (tgt := 84) hx hb dX12_isDusty_77 (by decide) (fun c121 => ?_) (fun c121 => ?_)
          · have h := it_p c121 h
            exact w_X12_isDusty_84 C hr hSh σ x0 x1 x2 x3 (0 : Int32) h hx0 H locs ls S (lv_sub hl [1, 2, 3, 4, 0] rfl)
          · have h := it_n c121 h
            refine lv_iconst (v := (1 : Int32)) hx hb dX12_isDusty_80 (by decide) ?_
            refine lv_goto (tgt := 85) hx hb dX12_isDusty_81 (by decide) ?_
            refine lv_istore (lv' := [(5, .int (1 : Int32)), (4, .int (0 : Int32)), (0, .ref (ga g x0)), (1, .int x1), (2, .int x2), (3, .int x3)]) hx hb dX12_isDusty_85 hl (by decide) rfl (fun ls hl => ?_)
            refine lv_aload_n hx hb dX12_isDusty_87 rfl (lv_at hl 2 rfl) ?_
            have hR122 : Ok 202 (R x0 9) 10002 := hSh x0 12 9 10002 hx0.1 rfl
            refine x_getR C S KX12 hx0 9 (by decide) rfl rfl fl_RX12_7 hR122 dX12_isDusty_88 ?_
            refine lv_iload_n hx hb dX12_isDusty_91 rfl (lv_at hl 4 rfl) ?_
            obtain ⟨hi123, h⟩ := ck_el h
            refine x_iald (len := 2) C S (by decide) hR122 hi123 dX12_isDusty_92 ?_
            refine lv_aload_n hx hb dX12_isDusty_93 rfl (lv_at hl 2 rfl) ?_
            have hR124 : Ok 202 (R x0 18) 10003 := hSh x0 12 18 10003 hx0.1 rfl
            refine x_getR C S KX12 hx0 18 (by decide) rfl rfl fl_RX12_37 hR124 dX12_isDusty_94 ?_
            refine lv_iload_n hx hb dX12_isDusty_97 rfl (lv_at hl 3 rfl) ?_
            obtain ⟨hi125, h⟩ := ck_el h
            refine x_iald (len := 3) C S (by decide) hR124 hi125 dX12_isDusty_98 ?_
            refine lv_isub hx hb dX12_isDusty_99 ?_
            refine lv_istore (lv' := [(6, .int ((σ (R x0 9) x2.toNatClampNeg) - (σ (R x0 18) x1.toNatClampNeg))), (5, .int (1 : Int32)), (4, .int (0 : Int32)), (0, .ref (ga g x0)), (1, .int x1), (2, .int x2), (3, .int x3)]) hx hb dX12_isDusty_100 hl (by decide) rfl (fun ls hl => ?_)
            refine lv_aload_n hx hb dX12_isDusty_102 rfl (lv_at hl 3 rfl) ?_
            have hR126 : Ok 202 (R x0 10) 10002 := hSh x0 12 10 10002 hx0.1 rfl
            refine x_getR C S KX12 hx0 10 (by decide) rfl rfl fl_RX12_13 hR126 dX12_isDusty_103 ?_
            refine lv_iload_n hx hb dX12_isDusty_106 rfl (lv_at hl 5 rfl) ?_
            obtain ⟨hi127, h⟩ := ck_el h
            refine x_iald (len := 2) C S (by decide) hR126 hi127 dX12_isDusty_107 ?_
            refine lv_aload_n hx hb dX12_isDusty_108 rfl (lv_at hl 3 rfl) ?_
            have hR128 : Ok 202 (R x0 19) 10003 := hSh x0 12 19 10003 hx0.1 rfl
            refine x_getR C S KX12 hx0 19 (by decide) rfl rfl fl_RX12_40 hR128 dX12_isDusty_109 ?_
            refine lv_iload_n hx hb dX12_isDusty_112 rfl (lv_at hl 4 rfl) ?_
            obtain ⟨hi129, h⟩ := ck_el h
            refine x_iald (len := 3) C S (by decide) hR128 hi129 dX12_isDusty_113 ?_
            refine lv_isub hx hb dX12_isDusty_114 ?_
            refine lv_istore (lv' := [(7, .int ((σ (R x0 10) x2.toNatClampNeg) - (σ (R x0 19) x1.toNatClampNeg))), (6, .int ((σ (R x0 9) x2.toNatClampNeg) - (σ (R x0 18) x1.toNatClampNeg))), (5, .int (1 : Int32)), (4, .int (0 : Int32)), (0, .ref (ga g x0)), (1, .int x1), (2, .int x2), (3, .int x3)]) hx hb dX12_isDusty_115 hl (by decide) rfl (fun ls hl => ?_)
            refine lv_iload hx hb dX12_isDusty_117 (lv_at hl 1 rfl) ?_
            refine lv_iload hx hb dX12_isDusty_119 (lv_at hl 3 rfl) ?_
            refine lv_imul hx hb dX12_isDusty_121 ?_
            refine lv_iload hx hb dX12_isDusty_122 (lv_at hl 0 rfl) ?_
            refine lv_iload hx hb dX12_isDusty_124 (lv_at hl 2 rfl) ?_
            refine lv_imul hx hb dX12_isDusty_126 ?_
            refine lv_iadd hx hb dX12_isDusty_127 ?_
            refine lv_istore (lv' := [(8, .int ((((σ (R x0 9) x2.toNatClampNeg) - (σ (R x0 18) x1.toNatClampNeg)) * (0 : Int32)) + (((σ (R x0 10) x2.toNatClampNeg) - (σ (R x0 19) x1.toNatClampNeg)) * (1 : Int32)))), (7, .int ((σ (R x0 10) x2.toNatClampNeg) - (σ (R x0 19) x1.toNatClampNeg))), (6, .int ((σ (R x0 9) x2.toNatClampNeg) - (σ (R x0 18) x1.toNatClampNeg))), (5, .int (1 : Int32)), (4, .int (0 : Int32)), (0, .ref (ga g x0)), (1, .int x1), (2, .int x2), (3, .int x3)]) hx hb dX12_isDusty_128 hl (by decide) rfl (fun ls hl => ?_)
            refine lv_iload hx hb dX12_isDusty_130 (lv_at hl 2 rfl) ?_
            refine lv_iload hx hb dX12_isDusty_132 (lv_at hl 3 rfl) ?_
            refine lv_imul hx hb dX12_isDusty_134 ?_
            refine lv_iload hx hb dX12_isDusty_135 (lv_at hl 1 rfl) ?_
            refine lv_iload hx hb dX12_isDusty_137 (lv_at hl 4 rfl) ?_
            refine lv_imul hx hb dX12_isDusty_139 ?_
            refine lv_isub hx hb dX12_isDusty_140 ?_
            refine lv_istore (lv' := [(9, .int ((((σ (R x0 9) x2.toNatClampNeg) - (σ (R x0 18) x1.toNatClampNeg)) * (1 : Int32)) - (((σ (R x0 10) x2.toNatClampNeg) - (σ (R x0 19) x1.toNatClampNeg)) * (0 : Int32)))), (8, .int ((((σ (R x0 9) x2.toNatClampNeg) - (σ (R x0 18) x1.toNatClampNeg)) * (0 : Int32)) + (((σ (R x0 10) x2.toNatClampNeg) - (σ (R x0 19) x1.toNatClampNeg)) * (1 : Int32)))), (7, .int ((σ (R x0 10) x2.toNatClampNeg) - (σ (R x0 19) x1.toNatClampNeg))), (6, .int ((σ (R x0 9) x2.toNatClampNeg) - (σ (R x0 18) x1.toNatClampNeg))), (5, .int (1 : Int32)), (4, .int (0 : Int32)), (0, .ref (ga g x0)), (1, .int x1), (2, .int x2), (3, .int x3)]) hx hb dX12_isDusty_141 hl (by decide) rfl (fun ls hl => ?_)
            refine lv_iload hx hb dX12_isDusty_143 (lv_at hl 1 rfl) ?_
            refine lv_if_le (tgt := 193) hx hb dX12_isDusty_145 (by decide) (fun c130 => ?_) (fun c130 => ?_)
            · have h := it_p c130 h
              refine lv_iconst (v := (0 : Int32)) hx hb dX12_isDusty_193 (by decide) ?_
              exact x_zret C S hr (by decide) h dX12_isDusty_194
            · have h := it_n c130 h
              refine lv_iload hx hb dX12_isDusty_148 (lv_at hl 0 rfl) ?_
              refine lv_iload hx hb dX12_isDusty_150 (lv_at hl 1 rfl) ?_
              refine lv_icmp_gt (tgt := 193) hx hb dX12_isDusty_152 (by decide) (fun c131 => ?_) (fun c131 => ?_)
              · have h := it_p c131 h
                refine lv_iconst (v := (0 : Int32)) hx hb dX12_isDusty_193 (by decide) ?_
                exact x_zret C S hr (by decide) h dX12_isDusty_194
              · have h := it_n c131 h
                refine lv_iload hx hb dX12_isDusty_155 (lv_at hl 0 rfl) ?_
                refine lv_ineg hx hb dX12_isDusty_157 ?_
                refine lv_iload hx hb dX12_isDusty_158 (lv_at hl 1 rfl) ?_
                refine lv_icmp_gt (tgt := 193) hx hb dX12_isDusty_160 (by decide) (fun c132 => ?_) (fun c132 => ?_)
                · have h := it_p c132 h
                  refine lv_iconst (v := (0 : Int32)) hx hb dX12_isDusty_193 (by decide) ?_
                  exact x_zret C S hr (by decide) h dX12_isDusty_194
                · have h := it_n c132 h
                  refine lv_aload_n hx hb dX12_isDusty_163 rfl (lv_at hl 6 rfl) ?_
                  refine lv_iload_n hx hb dX12_isDusty_164 rfl (lv_at hl 7 rfl) ?_
                  refine lv_iload_n hx hb dX12_isDusty_165 rfl (lv_at hl 8 rfl) ?_
                  obtain ⟨a133, σ133, hc133, h⟩ := bd_el h
                  refine x_callVI C S KX12 hx0 (ok_X12_far (L := L) hc133 hSh hx0) ⟨cd_X12_far, ni_RX12, ml_RX12_158, in_X12_far, sl_X12_far⟩ ⟨by decide, by decide⟩ rfl (rm_ok (by decide) (by decide)) hl.1 rfl (Nat.le_of_ble_eq_true rfl) ⟨by decide, by decide⟩ dX12_isDusty_166 (fun H locs S => ?_)
                  refine lv_sipush (v := (2500 : Int32)) hx hb dX12_isDusty_169 (by decide) ?_
                  refine lv_aload_n hx hb dX12_isDusty_172 rfl (lv_at hl 6 rfl) ?_
                  have hR134 : Ok 202 (R x0 23) 10024 := hSh x0 12 23 10024 hx0.1 rfl
                  refine x_getR C S KX12 hx0 23 (by decide) rfl rfl fl_RX12_52 hR134 dX12_isDusty_173 ?_
                  refine lv_iload_n hx hb dX12_isDusty_176 rfl (lv_at hl 9 rfl) ?_
                  obtain ⟨hi135, h⟩ := ck_el h
                  refine x_iald (len := 24) C S (by decide) hR134 hi135 dX12_isDusty_177 ?_
                  refine lv_imul hx hb dX12_isDusty_178 ?_
                  refine lv_aload_n hx hb dX12_isDusty_179 rfl (lv_at hl 6 rfl) ?_
                  have hR136 : Ok 202 (R x0 23) 10024 := hSh x0 12 23 10024 hx0.1 rfl
                  refine x_getR C S KX12 hx0 23 (by decide) rfl rfl fl_RX12_52 hR136 dX12_isDusty_180 ?_
                  refine lv_iload_n hx hb dX12_isDusty_183 rfl (lv_at hl 9 rfl) ?_
                  obtain ⟨hi137, h⟩ := ck_el h
                  refine x_iald (len := 24) C S (by decide) hR136 hi137 dX12_isDusty_184 ?_
                  refine lv_imul hx hb dX12_isDusty_185 ?_
                  refine lv_icmp_gt (tgt := 193) hx hb dX12_isDusty_186 (by decide) (fun c138 => ?_) (fun c138 => ?_)
                  · have h := it_p c138 h
                    refine lv_iconst (v := (0 : Int32)) hx hb dX12_isDusty_193 (by decide) ?_
                    exact x_zret C S hr (by decide) h dX12_isDusty_194
                  · have h := it_n c138 h
                    refine lv_iconst (v := (1 : Int32)) hx hb dX12_isDusty_189 (by decide) ?_
                    refine lv_goto (tgt := 194) hx hb dX12_isDusty_190 (by decide) ?_
                    exact x_zret C S hr (by decide) h dX12_isDusty_194
      · have h := it_p c115 h
        refine lv_iconst (v := (0 : Int32)) hx hb dX12_isDusty_55 (by decide) ?_
        refine lv_goto (tgt := 85) hx hb dX12_isDusty_56 (by decide) ?_
        refine lv_istore (lv' := [(5, .int (0 : Int32)), (4, .int (0 : Int32)), (0, .ref (ga g x0)), (1, .int x1), (2, .int x2), (3, .int x3)]) hx hb dX12_isDusty_85 hl (by decide) rfl (fun ls hl => ?_)
        refine lv_aload_n hx hb dX12_isDusty_87 rfl (lv_at hl 2 rfl) ?_
        have hR139 : Ok 202 (R x0 9) 10002 := hSh x0 12 9 10002 hx0.1 rfl
        refine x_getR C S KX12 hx0 9 (by decide) rfl rfl fl_RX12_7 hR139 dX12_isDusty_88 ?_
        refine lv_iload_n hx hb dX12_isDusty_91 rfl (lv_at hl 4 rfl) ?_
        obtain ⟨hi140, h⟩ := ck_el h
        refine x_iald (len := 2) C S (by decide) hR139 hi140 dX12_isDusty_92 ?_
        refine lv_aload_n hx hb dX12_isDusty_93 rfl (lv_at hl 2 rfl) ?_
        have hR141 : Ok 202 (R x0 18) 10003 := hSh x0 12 18 10003 hx0.1 rfl
        refine x_getR C S KX12 hx0 18 (by decide) rfl rfl fl_RX12_37 hR141 dX12_isDusty_94 ?_
        refine lv_iload_n hx hb dX12_isDusty_97 rfl (lv_at hl 3 rfl) ?_
        obtain ⟨hi142, h⟩ := ck_el h
        refine x_iald (len := 3) C S (by decide) hR141 hi142 dX12_isDusty_98 ?_
        refine lv_isub hx hb dX12_isDusty_99 ?_
        refine lv_istore (lv' := [(6, .int ((σ (R x0 9) x2.toNatClampNeg) - (σ (R x0 18) x1.toNatClampNeg))), (5, .int (0 : Int32)), (4, .int (0 : Int32)), (0, .ref (ga g x0)), (1, .int x1), (2, .int x2), (3, .int x3)]) hx hb dX12_isDusty_100 hl (by decide) rfl (fun ls hl => ?_)
        refine lv_aload_n hx hb dX12_isDusty_102 rfl (lv_at hl 3 rfl) ?_
        have hR143 : Ok 202 (R x0 10) 10002 := hSh x0 12 10 10002 hx0.1 rfl
        refine x_getR C S KX12 hx0 10 (by decide) rfl rfl fl_RX12_13 hR143 dX12_isDusty_103 ?_
        refine lv_iload_n hx hb dX12_isDusty_106 rfl (lv_at hl 5 rfl) ?_
        obtain ⟨hi144, h⟩ := ck_el h
        refine x_iald (len := 2) C S (by decide) hR143 hi144 dX12_isDusty_107 ?_
        refine lv_aload_n hx hb dX12_isDusty_108 rfl (lv_at hl 3 rfl) ?_
        have hR145 : Ok 202 (R x0 19) 10003 := hSh x0 12 19 10003 hx0.1 rfl
        refine x_getR C S KX12 hx0 19 (by decide) rfl rfl fl_RX12_40 hR145 dX12_isDusty_109 ?_
        refine lv_iload_n hx hb dX12_isDusty_112 rfl (lv_at hl 4 rfl) ?_
        obtain ⟨hi146, h⟩ := ck_el h
        refine x_iald (len := 3) C S (by decide) hR145 hi146 dX12_isDusty_113 ?_
        refine lv_isub hx hb dX12_isDusty_114 ?_
        refine lv_istore (lv' := [(7, .int ((σ (R x0 10) x2.toNatClampNeg) - (σ (R x0 19) x1.toNatClampNeg))), (6, .int ((σ (R x0 9) x2.toNatClampNeg) - (σ (R x0 18) x1.toNatClampNeg))), (5, .int (0 : Int32)), (4, .int (0 : Int32)), (0, .ref (ga g x0)), (1, .int x1), (2, .int x2), (3, .int x3)]) hx hb dX12_isDusty_115 hl (by decide) rfl (fun ls hl => ?_)
        refine lv_iload hx hb dX12_isDusty_117 (lv_at hl 1 rfl) ?_
        refine lv_iload hx hb dX12_isDusty_119 (lv_at hl 3 rfl) ?_
        refine lv_imul hx hb dX12_isDusty_121 ?_
        refine lv_iload hx hb dX12_isDusty_122 (lv_at hl 0 rfl) ?_
        refine lv_iload hx hb dX12_isDusty_124 (lv_at hl 2 rfl) ?_
        refine lv_imul hx hb dX12_isDusty_126 ?_
        refine lv_iadd hx hb dX12_isDusty_127 ?_
        refine lv_istore (lv' := [(8, .int ((((σ (R x0 9) x2.toNatClampNeg) - (σ (R x0 18) x1.toNatClampNeg)) * (0 : Int32)) + (((σ (R x0 10) x2.toNatClampNeg) - (σ (R x0 19) x1.toNatClampNeg)) * (0 : Int32)))), (7, .int ((σ (R x0 10) x2.toNatClampNeg) - (σ (R x0 19) x1.toNatClampNeg))), (6, .int ((σ (R x0 9) x2.toNatClampNeg) - (σ (R x0 18) x1.toNatClampNeg))), (5, .int (0 : Int32)), (4, .int (0 : Int32)), (0, .ref (ga g x0)), (1, .int x1), (2, .int x2), (3, .int x3)]) hx hb dX12_isDusty_128 hl (by decide) rfl (fun ls hl => ?_)
        refine lv_iload hx hb dX12_isDusty_130 (lv_at hl 2 rfl) ?_
        refine lv_iload hx hb dX12_isDusty_132 (lv_at hl 3 rfl) ?_
        refine lv_imul hx hb dX12_isDusty_134 ?_
        refine lv_iload hx hb dX12_isDusty_135 (lv_at hl 1 rfl) ?_
        refine lv_iload hx hb dX12_isDusty_137 (lv_at hl 4 rfl) ?_
        refine lv_imul hx hb dX12_isDusty_139 ?_
        refine lv_isub hx hb dX12_isDusty_140 ?_
        refine lv_istore (lv' := [(9, .int ((((σ (R x0 9) x2.toNatClampNeg) - (σ (R x0 18) x1.toNatClampNeg)) * (0 : Int32)) - (((σ (R x0 10) x2.toNatClampNeg) - (σ (R x0 19) x1.toNatClampNeg)) * (0 : Int32)))), (8, .int ((((σ (R x0 9) x2.toNatClampNeg) - (σ (R x0 18) x1.toNatClampNeg)) * (0 : Int32)) + (((σ (R x0 10) x2.toNatClampNeg) - (σ (R x0 19) x1.toNatClampNeg)) * (0 : Int32)))), (7, .int ((σ (R x0 10) x2.toNatClampNeg) - (σ (R x0 19) x1.toNatClampNeg))), (6, .int ((σ (R x0 9) x2.toNatClampNeg) - (σ (R x0 18) x1.toNatClampNeg))), (5, .int (0 : Int32)), (4, .int (0 : Int32)), (0, .ref (ga g x0)), (1, .int x1), (2, .int x2), (3, .int x3)]) hx hb dX12_isDusty_141 hl (by decide) rfl (fun ls hl => ?_)
        refine lv_iload hx hb dX12_isDusty_143 (lv_at hl 1 rfl) ?_
        refine lv_if_le (tgt := 193) hx hb dX12_isDusty_145 (by decide) (fun c147 => ?_) (fun c147 => ?_)
        · have h := it_p c147 h
          refine lv_iconst (v := (0 : Int32)) hx hb dX12_isDusty_193 (by decide) ?_
          exact x_zret C S hr (by decide) h dX12_isDusty_194
        · have h := it_n c147 h
          refine lv_iload hx hb dX12_isDusty_148 (lv_at hl 0 rfl) ?_
          refine lv_iload hx hb dX12_isDusty_150 (lv_at hl 1 rfl) ?_
          refine lv_icmp_gt (tgt := 193) hx hb dX12_isDusty_152 (by decide) (fun c148 => ?_) (fun c148 => ?_)
          · have h := it_p c148 h
            refine lv_iconst (v := (0 : Int32)) hx hb dX12_isDusty_193 (by decide) ?_
            exact x_zret C S hr (by decide) h dX12_isDusty_194
          · have h := it_n c148 h
            refine lv_iload hx hb dX12_isDusty_155 (lv_at hl 0 rfl) ?_
            refine lv_ineg hx hb dX12_isDusty_157 ?_
            refine lv_iload hx hb dX12_isDusty_158 (lv_at hl 1 rfl) ?_
            refine lv_icmp_gt (tgt := 193) hx hb dX12_isDusty_160 (by decide) (fun c149 => ?_) (fun c149 => ?_)
            · have h := it_p c149 h
              refine lv_iconst (v := (0 : Int32)) hx hb dX12_isDusty_193 (by decide) ?_
              exact x_zret C S hr (by decide) h dX12_isDusty_194
            · have h := it_n c149 h
              refine lv_aload_n hx hb dX12_isDusty_163 rfl (lv_at hl 6 rfl) ?_
              refine lv_iload_n hx hb dX12_isDusty_164 rfl (lv_at hl 7 rfl) ?_
              refine lv_iload_n hx hb dX12_isDusty_165 rfl (lv_at hl 8 rfl) ?_
              obtain ⟨a150, σ150, hc150, h⟩ := bd_el h
              refine x_callVI C S KX12 hx0 (ok_X12_far (L := L) hc150 hSh hx0) ⟨cd_X12_far, ni_RX12, ml_RX12_158, in_X12_far, sl_X12_far⟩ ⟨by decide, by decide⟩ rfl (rm_ok (by decide) (by decide)) hl.1 rfl (Nat.le_of_ble_eq_true rfl) ⟨by decide, by decide⟩ dX12_isDusty_166 (fun H locs S => ?_)
              refine lv_sipush (v := (2500 : Int32)) hx hb dX12_isDusty_169 (by decide) ?_
              refine lv_aload_n hx hb dX12_isDusty_172 rfl (lv_at hl 6 rfl) ?_
              have hR151 : Ok 202 (R x0 23) 10024 := hSh x0 12 23 10024 hx0.1 rfl
              refine x_getR C S KX12 hx0 23 (by decide) rfl rfl fl_RX12_52 hR151 dX12_isDusty_173 ?_
              refine lv_iload_n hx hb dX12_isDusty_176 rfl (lv_at hl 9 rfl) ?_
              obtain ⟨hi152, h⟩ := ck_el h
              refine x_iald (len := 24) C S (by decide) hR151 hi152 dX12_isDusty_177 ?_
              refine lv_imul hx hb dX12_isDusty_178 ?_
              refine lv_aload_n hx hb dX12_isDusty_179 rfl (lv_at hl 6 rfl) ?_
              have hR153 : Ok 202 (R x0 23) 10024 := hSh x0 12 23 10024 hx0.1 rfl
              refine x_getR C S KX12 hx0 23 (by decide) rfl rfl fl_RX12_52 hR153 dX12_isDusty_180 ?_
              refine lv_iload_n hx hb dX12_isDusty_183 rfl (lv_at hl 9 rfl) ?_
              obtain ⟨hi154, h⟩ := ck_el h
              refine x_iald (len := 24) C S (by decide) hR153 hi154 dX12_isDusty_184 ?_
              refine lv_imul hx hb dX12_isDusty_185 ?_
              refine lv_icmp_gt (tgt := 193) hx hb dX12_isDusty_186 (by decide) (fun c155 => ?_) (fun c155 => ?_)
              · have h := it_p c155 h
                refine lv_iconst (v := (0 : Int32)) hx hb dX12_isDusty_193 (by decide) ?_
                exact x_zret C S hr (by decide) h dX12_isDusty_194
              · have h := it_n c155 h
                refine lv_iconst (v := (1 : Int32)) hx hb dX12_isDusty_189 (by decide) ?_
                refine lv_goto (tgt := 194) hx hb dX12_isDusty_190 (by decide) ?_
                exact x_zret C S hr (by decide) h dX12_isDusty_194
  · have h := it_n c3 h
    refine lv_iconst (v := (0 : Int32)) hx hb dX12_isDusty_9 (by decide) ?_
    exact x_zret C S hr (by decide) h dX12_isDusty_10
theorem dX12_reason_0 : decode cX12_reason 0 = .ok (.iload_n 2, 1) := by decide +kernel
theorem dX12_reason_1 : decode cX12_reason 1 = .ok (.aload_n 0, 1) := by decide +kernel
theorem dX12_reason_2 : decode cX12_reason 2 = .ok (.getfield 79, 3) := by decide +kernel
theorem dX12_reason_5 : decode cX12_reason 5 = .ok (.if_icmp .lt 11, 3) := by decide +kernel
theorem dX12_reason_8 : decode cX12_reason 8 = .ok (.iload_n 2, 1) := by decide +kernel
theorem dX12_reason_9 : decode cX12_reason 9 = .ok (.aload_n 0, 1) := by decide +kernel
theorem dX12_reason_10 : decode cX12_reason 10 = .ok (.getfield 85, 3) := by decide +kernel
theorem dX12_reason_13 : decode cX12_reason 13 = .ok (.if_icmp .le 5, 3) := by decide +kernel
theorem dX12_reason_16 : decode cX12_reason 16 = .ok (.iconst 1, 1) := by decide +kernel
theorem dX12_reason_17 : decode cX12_reason 17 = .ok (.ireturn, 1) := by decide +kernel
theorem dX12_reason_18 : decode cX12_reason 18 = .ok (.iconst 0, 1) := by decide +kernel
theorem dX12_reason_19 : decode cX12_reason 19 = .ok (.istore_n 3, 1) := by decide +kernel
theorem dX12_reason_20 : decode cX12_reason 20 = .ok (.iconst 0, 1) := by decide +kernel
theorem dX12_reason_21 : decode cX12_reason 21 = .ok (.istore 4, 2) := by decide +kernel
theorem dX12_reason_23 : decode cX12_reason 23 = .ok (.iload 4, 2) := by decide +kernel
theorem dX12_reason_25 : decode cX12_reason 25 = .ok (.aload_n 0, 1) := by decide +kernel
theorem dX12_reason_26 : decode cX12_reason 26 = .ok (.getfield 46, 3) := by decide +kernel
theorem dX12_reason_29 : decode cX12_reason 29 = .ok (.iload_n 1, 1) := by decide +kernel
theorem dX12_reason_30 : decode cX12_reason 30 = .ok (.iaload, 1) := by decide +kernel
theorem dX12_reason_31 : decode cX12_reason 31 = .ok (.if_icmp .ge 28, 3) := by decide +kernel
theorem dX12_reason_34 : decode cX12_reason 34 = .ok (.iload_n 3, 1) := by decide +kernel
theorem dX12_reason_35 : decode cX12_reason 35 = .ok (.aload_n 0, 1) := by decide +kernel
theorem dX12_reason_36 : decode cX12_reason 36 = .ok (.iload_n 1, 1) := by decide +kernel
theorem dX12_reason_37 : decode cX12_reason 37 = .ok (.aload_n 0, 1) := by decide +kernel
theorem dX12_reason_38 : decode cX12_reason 38 = .ok (.getfield 60, 3) := by decide +kernel
theorem dX12_reason_41 : decode cX12_reason 41 = .ok (.iload_n 1, 1) := by decide +kernel
theorem dX12_reason_42 : decode cX12_reason 42 = .ok (.aaload, 1) := by decide +kernel
theorem dX12_reason_43 : decode cX12_reason 43 = .ok (.iload 4, 2) := by decide +kernel
theorem dX12_reason_45 : decode cX12_reason 45 = .ok (.iaload, 1) := by decide +kernel
theorem dX12_reason_46 : decode cX12_reason 46 = .ok (.invokevirtual 162, 3) := by decide +kernel
theorem dX12_reason_49 : decode cX12_reason 49 = .ok (.invokestatic 165, 3) := by decide +kernel
theorem dX12_reason_52 : decode cX12_reason 52 = .ok (.istore_n 3, 1) := by decide +kernel
theorem dX12_reason_53 : decode cX12_reason 53 = .ok (.iinc 4 1, 3) := by decide +kernel
theorem dX12_reason_56 : decode cX12_reason 56 = .ok (.goto (-33), 3) := by decide +kernel
theorem dX12_reason_59 : decode cX12_reason 59 = .ok (.iconst 0, 1) := by decide +kernel
theorem dX12_reason_60 : decode cX12_reason 60 = .ok (.istore 4, 2) := by decide +kernel
theorem dX12_reason_62 : decode cX12_reason 62 = .ok (.iload 4, 2) := by decide +kernel
theorem dX12_reason_64 : decode cX12_reason 64 = .ok (.aload_n 0, 1) := by decide +kernel
theorem dX12_reason_65 : decode cX12_reason 65 = .ok (.getfield 69, 3) := by decide +kernel
theorem dX12_reason_68 : decode cX12_reason 68 = .ok (.if_icmp .ge 36, 3) := by decide +kernel
theorem dX12_reason_71 : decode cX12_reason 71 = .ok (.sipush 1000, 3) := by decide +kernel
theorem dX12_reason_74 : decode cX12_reason 74 = .ok (.iload_n 3, 1) := by decide +kernel
theorem dX12_reason_75 : decode cX12_reason 75 = .ok (.imul, 1) := by decide +kernel
theorem dX12_reason_76 : decode cX12_reason 76 = .ok (.aload_n 0, 1) := by decide +kernel
theorem dX12_reason_77 : decode cX12_reason 77 = .ok (.iload_n 1, 1) := by decide +kernel
theorem dX12_reason_78 : decode cX12_reason 78 = .ok (.iload 4, 2) := by decide +kernel
theorem dX12_reason_80 : decode cX12_reason 80 = .ok (.invokevirtual 158, 3) := by decide +kernel
theorem dX12_reason_83 : decode cX12_reason 83 = .ok (.iconst 1, 1) := by decide +kernel
theorem dX12_reason_84 : decode cX12_reason 84 = .ok (.iadd, 1) := by decide +kernel
theorem dX12_reason_85 : decode cX12_reason 85 = .ok (.idiv, 1) := by decide +kernel
theorem dX12_reason_86 : decode cX12_reason 86 = .ok (.aload_n 0, 1) := by decide +kernel
theorem dX12_reason_87 : decode cX12_reason 87 = .ok (.getfield 16, 3) := by decide +kernel
theorem dX12_reason_90 : decode cX12_reason 90 = .ok (.iload 4, 2) := by decide +kernel
theorem dX12_reason_92 : decode cX12_reason 92 = .ok (.iaload, 1) := by decide +kernel
theorem dX12_reason_93 : decode cX12_reason 93 = .ok (.if_icmp .le 5, 3) := by decide +kernel
theorem dX12_reason_96 : decode cX12_reason 96 = .ok (.iconst 2, 1) := by decide +kernel
theorem dX12_reason_97 : decode cX12_reason 97 = .ok (.ireturn, 1) := by decide +kernel
theorem dX12_reason_98 : decode cX12_reason 98 = .ok (.iinc 4 1, 3) := by decide +kernel
theorem dX12_reason_101 : decode cX12_reason 101 = .ok (.goto (-39), 3) := by decide +kernel
theorem dX12_reason_104 : decode cX12_reason 104 = .ok (.iconst 0, 1) := by decide +kernel
theorem dX12_reason_105 : decode cX12_reason 105 = .ok (.istore 4, 2) := by decide +kernel
theorem dX12_reason_107 : decode cX12_reason 107 = .ok (.iload 4, 2) := by decide +kernel
theorem dX12_reason_109 : decode cX12_reason 109 = .ok (.aload_n 0, 1) := by decide +kernel
theorem dX12_reason_110 : decode cX12_reason 110 = .ok (.getfield 69, 3) := by decide +kernel
theorem dX12_reason_113 : decode cX12_reason 113 = .ok (.if_icmp .ge 47, 3) := by decide +kernel
theorem dX12_reason_116 : decode cX12_reason 116 = .ok (.aload_n 0, 1) := by decide +kernel
theorem dX12_reason_117 : decode cX12_reason 117 = .ok (.iload 4, 2) := by decide +kernel
theorem dX12_reason_119 : decode cX12_reason 119 = .ok (.iload_n 2, 1) := by decide +kernel
theorem dX12_reason_120 : decode cX12_reason 120 = .ok (.invokevirtual 167, 3) := by decide +kernel
theorem dX12_reason_123 : decode cX12_reason 123 = .ok (.ifCond .eq 31, 3) := by decide +kernel
theorem dX12_reason_126 : decode cX12_reason 126 = .ok (.aload_n 0, 1) := by decide +kernel
theorem dX12_reason_127 : decode cX12_reason 127 = .ok (.iload_n 1, 1) := by decide +kernel
theorem dX12_reason_128 : decode cX12_reason 128 = .ok (.iload 4, 2) := by decide +kernel
theorem dX12_reason_130 : decode cX12_reason 130 = .ok (.invokevirtual 158, 3) := by decide +kernel
theorem dX12_reason_133 : decode cX12_reason 133 = .ok (.bipush 9, 2) := by decide +kernel
theorem dX12_reason_135 : decode cX12_reason 135 = .ok (.aload_n 0, 1) := by decide +kernel
theorem dX12_reason_136 : decode cX12_reason 136 = .ok (.getfield 43, 3) := by decide +kernel
theorem dX12_reason_139 : decode cX12_reason 139 = .ok (.iload_n 1, 1) := by decide +kernel
theorem dX12_reason_140 : decode cX12_reason 140 = .ok (.iaload, 1) := by decide +kernel
theorem dX12_reason_141 : decode cX12_reason 141 = .ok (.imul, 1) := by decide +kernel
theorem dX12_reason_142 : decode cX12_reason 142 = .ok (.aload_n 0, 1) := by decide +kernel
theorem dX12_reason_143 : decode cX12_reason 143 = .ok (.getfield 43, 3) := by decide +kernel
theorem dX12_reason_146 : decode cX12_reason 146 = .ok (.iload_n 1, 1) := by decide +kernel
theorem dX12_reason_147 : decode cX12_reason 147 = .ok (.iaload, 1) := by decide +kernel
theorem dX12_reason_148 : decode cX12_reason 148 = .ok (.imul, 1) := by decide +kernel
theorem dX12_reason_149 : decode cX12_reason 149 = .ok (.if_icmp .gt 5, 3) := by decide +kernel
theorem dX12_reason_152 : decode cX12_reason 152 = .ok (.iconst 3, 1) := by decide +kernel
theorem dX12_reason_153 : decode cX12_reason 153 = .ok (.ireturn, 1) := by decide +kernel
theorem dX12_reason_154 : decode cX12_reason 154 = .ok (.iinc 4 1, 3) := by decide +kernel
theorem dX12_reason_157 : decode cX12_reason 157 = .ok (.goto (-50), 3) := by decide +kernel
theorem dX12_reason_160 : decode cX12_reason 160 = .ok (.iconst 0, 1) := by decide +kernel
theorem dX12_reason_161 : decode cX12_reason 161 = .ok (.istore 4, 2) := by decide +kernel
theorem dX12_reason_163 : decode cX12_reason 163 = .ok (.iload 4, 2) := by decide +kernel
theorem dX12_reason_165 : decode cX12_reason 165 = .ok (.aload_n 0, 1) := by decide +kernel
theorem dX12_reason_166 : decode cX12_reason 166 = .ok (.getfield 69, 3) := by decide +kernel
theorem dX12_reason_169 : decode cX12_reason 169 = .ok (.if_icmp .ge 25, 3) := by decide +kernel
theorem dX12_reason_172 : decode cX12_reason 172 = .ok (.aload_n 0, 1) := by decide +kernel
theorem dX12_reason_173 : decode cX12_reason 173 = .ok (.iload_n 1, 1) := by decide +kernel
theorem dX12_reason_174 : decode cX12_reason 174 = .ok (.iload 4, 2) := by decide +kernel
theorem dX12_reason_176 : decode cX12_reason 176 = .ok (.iload_n 2, 1) := by decide +kernel
theorem dX12_reason_177 : decode cX12_reason 177 = .ok (.bipush 60, 2) := by decide +kernel
theorem dX12_reason_179 : decode cX12_reason 179 = .ok (.idiv, 1) := by decide +kernel
theorem dX12_reason_180 : decode cX12_reason 180 = .ok (.invokevirtual 171, 3) := by decide +kernel
theorem dX12_reason_183 : decode cX12_reason 183 = .ok (.ifCond .eq 5, 3) := by decide +kernel
theorem dX12_reason_186 : decode cX12_reason 186 = .ok (.iconst 4, 1) := by decide +kernel
theorem dX12_reason_187 : decode cX12_reason 187 = .ok (.ireturn, 1) := by decide +kernel
theorem dX12_reason_188 : decode cX12_reason 188 = .ok (.iinc 4 1, 3) := by decide +kernel
theorem dX12_reason_191 : decode cX12_reason 191 = .ok (.goto (-28), 3) := by decide +kernel
theorem dX12_reason_194 : decode cX12_reason 194 = .ok (.iconst 0, 1) := by decide +kernel
theorem dX12_reason_195 : decode cX12_reason 195 = .ok (.ireturn, 1) := by decide +kernel
def f_X12_reason_163 (N : Nat) (R : Nat → Nat → Nat) : Nat → SI → Nat → Int32 → Int32 → Int32 → Option (Int32 × SI)
  | 0, _, _, _, _, _ => none
  | n + 1, σ, x0, x1, x2, x4 => if (σ x0 0) ≤ x4 then (some ((0 : Int32), σ)) else (bd (f_X12_isDusty N R σ x0 x1 x4 (x2 / (60 : Int32))) (fun a9 σ9 => if a9 = 0 then (f_X12_reason_163 N R n σ9 x0 x1 x2 (x4 + 1)) else (some ((4 : Int32), σ9))))
def f_X12_reason_154 (N : Nat) (R : Nat → Nat → Nat) (k107 : SI → Nat → Int32 → Int32 → Int32 → Option (Int32 × SI)) (σ : SI) (x0 : Nat) (x1 : Int32) (x2 : Int32) (x4 : Int32) : Option (Int32 × SI) := k107 σ x0 x1 x2 (x4 + 1)
def f_X12_reason_107 (N : Nat) (R : Nat → Nat → Nat) : Nat → SI → Nat → Int32 → Int32 → Int32 → Option (Int32 × SI)
  | 0, _, _, _, _, _ => none
  | n + 1, σ, x0, x1, x2, x4 => if (σ x0 0) ≤ x4 then (f_X12_reason_163 N R N σ x0 x1 x2 (0 : Int32)) else (bd (f_X12_isQuiet N R σ x0 x4 x2) (fun a11 σ11 => if a11 = 0 then (f_X12_reason_154 N R (fun σ x0 x1 x2 x4 => f_X12_reason_107 N R n σ x0 x1 x2 x4) σ11 x0 x1 x2 x4) else (bd (f_X12_far N R σ11 x0 x1 x4) (fun a13 σ13 => ck x1 3 (ck x1 3 (if (((9 : Int32) * (σ13 (R x0 20) x1.toNatClampNeg)) * (σ13 (R x0 20) x1.toNatClampNeg)) < a13 then (f_X12_reason_154 N R (fun σ x0 x1 x2 x4 => f_X12_reason_107 N R n σ x0 x1 x2 x4) σ13 x0 x1 x2 x4) else (some ((3 : Int32), σ13))))))))
def f_X12_reason_62 (N : Nat) (R : Nat → Nat → Nat) : Nat → SI → Nat → Int32 → Int32 → Int32 → Int32 → Option (Int32 × SI)
  | 0, _, _, _, _, _, _ => none
  | n + 1, σ, x0, x1, x2, x3, x4 => if (σ x0 0) ≤ x4 then (f_X12_reason_107 N R N σ x0 x1 x2 (0 : Int32)) else (bd (f_X12_far N R σ x0 x1 x4) (fun a19 σ19 => cd (a19 + (1 : Int32)) (ck x4 2 (if (((1000 : Int32) * x3) / (a19 + (1 : Int32))) ≤ (σ19 (R x0 11) x4.toNatClampNeg) then (f_X12_reason_62 N R n σ19 x0 x1 x2 x3 (x4 + 1)) else (some ((2 : Int32), σ19))))))
def f_X12_reason_23 (N : Nat) (R : Nat → Nat → Nat) : Nat → SI → Nat → Int32 → Int32 → Int32 → Int32 → Option (Int32 × SI)
  | 0, _, _, _, _, _, _ => none
  | n + 1, σ, x0, x1, x2, x3, x4 => ck x1 3 (if (σ (R x0 21) x1.toNatClampNeg) ≤ x4 then (f_X12_reason_62 N R N σ x0 x1 x2 x3 (0 : Int32)) else (ck x1 3 (ck x4 4 (bd (f_X12_window N R σ x0 x1 (σ (R (R x0 25) x1.toNatClampNeg) x4.toNatClampNeg)) (fun a28 σ28 => f_X12_reason_23 N R n σ28 x0 x1 x2 (if x3 < a28 then a28 else x3) (x4 + 1))))))
def f_X12_reason (N : Nat) (R : Nat → Nat → Nat) (σ : SI) (x0 : Nat) (x1 : Int32) (x2 : Int32) : Option (Int32 × SI) := if x2 < (σ x0 3) then (some ((1 : Int32), σ)) else (if x2 ≤ (σ x0 4) then (f_X12_reason_23 N R N σ x0 x1 x2 (0 : Int32) (0 : Int32)) else (some ((1 : Int32), σ)))
set_option maxHeartbeats 4000000 in
set_option maxRecDepth 100000 in
theorem w_X12_reason_163 {l : Launch} {g : GL} {p : Program} {e : Jvm.Env} {s : State} {m : MethodId} {args : Array Value} {below : List Frame} {meth : Method} {c : Code} {R : Nat → Nat → Nat} {L : Nat → Nat → Int64} {r : (Int32 × SI)} {N : Nat} (C : Cx l g p s m meth c cX12_reason 5 RX12) (hr : meth.sig.returnType = (some .int)) (hSh : ShR R) : ∀ (n : Nat) (σ : SI) (x0 : Nat) (x1 : Int32) (x2 : Int32) (x4 : Int32), f_X12_reason_163 N R n σ x0 x1 x2 x4 = some r → Ok 202 x0 12 → ∀ (H : Heap) (locs : List Loc) (ls : Array Slot), S2 g s σ R L H locs → lv_has ls 5 [(0, .ref (ga g x0)), (1, .int x1), (2, .int x2), (4, .int x4)] → W p l e (rmd 3 0 0) s m args below meth c H locs 0 0 (MQ below (Qg g 202 (PI R L r)) args s 0 0 (gA g)) (F0 m 163 ls []) := by
  have hx := C.1
  have hb := C.2.1
  intro n
  induction n with
  | zero =>
    intro σ x0 x1 x2 x4 h
    cases (show (none : Option (Int32 × SI)) = some r from h)
  | succ n ih =>
    intro σ x0 x1 x2 x4 h hx0 H locs ls S hl
    rw [f_X12_reason_163] at h
    refine lv_iload hx hb dX12_reason_163 (lv_at hl 3 rfl) ?_
    refine lv_aload_n hx hb dX12_reason_165 rfl (lv_at hl 0 rfl) ?_
    refine x_getI C S KX12 hx0 0 (by decide) rfl rfl fl_RX12_69 dX12_reason_166 ?_
    refine lv_icmp_ge (tgt := 194) hx hb dX12_reason_169 (by decide) (fun c8 => ?_) (fun c8 => ?_)
    · have h := it_p c8 h
      refine lv_iconst (v := (0 : Int32)) hx hb dX12_reason_194 (by decide) ?_
      exact x_iret C S hr h dX12_reason_195
    · have h := it_n c8 h
      refine lv_aload_n hx hb dX12_reason_172 rfl (lv_at hl 0 rfl) ?_
      refine lv_iload_n hx hb dX12_reason_173 rfl (lv_at hl 1 rfl) ?_
      refine lv_iload hx hb dX12_reason_174 (lv_at hl 3 rfl) ?_
      refine lv_iload_n hx hb dX12_reason_176 rfl (lv_at hl 2 rfl) ?_
      refine lv_bipush (v := (60 : Int32)) hx hb dX12_reason_177 (by decide) ?_
      refine lv_idiv hx hb dX12_reason_179 (by decide) ?_
      obtain ⟨a9, σ9, hc9, h⟩ := bd_el h
      refine x_callVI C S KX12 hx0 (ok_X12_isDusty (L := L) hc9 hSh hx0) ⟨cd_X12_isDusty, ni_RX12, ml_RX12_171, in_X12_isDusty, sl_X12_isDusty⟩ ⟨by decide, by decide⟩ rfl (rm_ok (by decide) (by decide)) hl.1 rfl (Nat.le_of_ble_eq_true rfl) ⟨by decide, by decide⟩ dX12_reason_180 (fun H locs S => ?_)
      refine lv_if_eq (tgt := 188) hx hb dX12_reason_183 (by decide) (fun c10 => ?_) (fun c10 => ?_)
      · have h := it_p c10 h
        refine lv_iinc (v := x4 + 1) (lv' := [(4, .int (x4 + 1)), (0, .ref (ga g x0)), (1, .int x1), (2, .int x2)]) hx hb dX12_reason_188 hl (k := 3) rfl rfl (by decide) rfl (fun ls hl => ?_)
        refine lv_goto (tgt := 163) hx hb dX12_reason_191 (by decide) ?_
        exact ih σ9 x0 x1 x2 (x4 + 1) h hx0 H locs ls S (lv_sub hl [1, 2, 3, 0] rfl)
      · have h := it_n c10 h
        refine lv_iconst (v := (4 : Int32)) hx hb dX12_reason_186 (by decide) ?_
        exact x_iret C S hr h dX12_reason_187
set_option maxHeartbeats 4000000 in
set_option maxRecDepth 100000 in
theorem w_X12_reason_154 {l : Launch} {g : GL} {p : Program} {e : Jvm.Env} {s : State} {m : MethodId} {args : Array Value} {below : List Frame} {meth : Method} {c : Code} {R : Nat → Nat → Nat} {L : Nat → Nat → Int64} {r : (Int32 × SI)} {N : Nat} {k107 : SI → Nat → Int32 → Int32 → Int32 → Option (Int32 × SI)} (C : Cx l g p s m meth c cX12_reason 5 RX12) (hr : meth.sig.returnType = (some .int)) (hSh : ShR R) (hk107 : ∀ (σ : SI) (x0 : Nat) (x1 : Int32) (x2 : Int32) (x4 : Int32), k107 σ x0 x1 x2 x4 = some r → Ok 202 x0 12 → ∀ (H : Heap) (locs : List Loc) (ls : Array Slot), S2 g s σ R L H locs → lv_has ls 5 [(0, .ref (ga g x0)), (1, .int x1), (2, .int x2), (4, .int x4)] → W p l e (rmd 3 0 0) s m args below meth c H locs 0 0 (MQ below (Qg g 202 (PI R L r)) args s 0 0 (gA g)) (F0 m 107 ls [])) : ∀ (σ : SI) (x0 : Nat) (x1 : Int32) (x2 : Int32) (x4 : Int32), f_X12_reason_154 N R k107 σ x0 x1 x2 x4 = some r → Ok 202 x0 12 → ∀ (H : Heap) (locs : List Loc) (ls : Array Slot), S2 g s σ R L H locs → lv_has ls 5 [(0, .ref (ga g x0)), (1, .int x1), (2, .int x2), (4, .int x4)] → W p l e (rmd 3 0 0) s m args below meth c H locs 0 0 (MQ below (Qg g 202 (PI R L r)) args s 0 0 (gA g)) (F0 m 154 ls []) := by
  have hx := C.1
  have hb := C.2.1
  intro σ x0 x1 x2 x4 h hx0 H locs ls S hl
  rw [f_X12_reason_154] at h
  refine lv_iinc (v := x4 + 1) (lv' := [(4, .int (x4 + 1)), (0, .ref (ga g x0)), (1, .int x1), (2, .int x2)]) hx hb dX12_reason_154 hl (k := 3) rfl rfl (by decide) rfl (fun ls hl => ?_)
  refine lv_goto (tgt := 107) hx hb dX12_reason_157 (by decide) ?_
  exact hk107 σ x0 x1 x2 (x4 + 1) h hx0 H locs ls S (lv_sub hl [1, 2, 3, 0] rfl)
set_option maxHeartbeats 4000000 in
set_option maxRecDepth 100000 in
theorem w_X12_reason_107 {l : Launch} {g : GL} {p : Program} {e : Jvm.Env} {s : State} {m : MethodId} {args : Array Value} {below : List Frame} {meth : Method} {c : Code} {R : Nat → Nat → Nat} {L : Nat → Nat → Int64} {r : (Int32 × SI)} {N : Nat} (C : Cx l g p s m meth c cX12_reason 5 RX12) (hr : meth.sig.returnType = (some .int)) (hSh : ShR R) : ∀ (n : Nat) (σ : SI) (x0 : Nat) (x1 : Int32) (x2 : Int32) (x4 : Int32), f_X12_reason_107 N R n σ x0 x1 x2 x4 = some r → Ok 202 x0 12 → ∀ (H : Heap) (locs : List Loc) (ls : Array Slot), S2 g s σ R L H locs → lv_has ls 5 [(0, .ref (ga g x0)), (1, .int x1), (2, .int x2), (4, .int x4)] → W p l e (rmd 3 0 0) s m args below meth c H locs 0 0 (MQ below (Qg g 202 (PI R L r)) args s 0 0 (gA g)) (F0 m 107 ls []) := by
  have hx := C.1
  have hb := C.2.1
  intro n
  induction n with
  | zero =>
    intro σ x0 x1 x2 x4 h
    cases (show (none : Option (Int32 × SI)) = some r from h)
  | succ n ih =>
    intro σ x0 x1 x2 x4 h hx0 H locs ls S hl
    rw [f_X12_reason_107] at h
    refine lv_iload hx hb dX12_reason_107 (lv_at hl 3 rfl) ?_
    refine lv_aload_n hx hb dX12_reason_109 rfl (lv_at hl 0 rfl) ?_
    refine x_getI C S KX12 hx0 0 (by decide) rfl rfl fl_RX12_69 dX12_reason_110 ?_
    refine lv_icmp_ge (tgt := 160) hx hb dX12_reason_113 (by decide) (fun c7 => ?_) (fun c7 => ?_)
    · have h := it_p c7 h
      refine lv_iconst (v := (0 : Int32)) hx hb dX12_reason_160 (by decide) ?_
      refine lv_istore (lv' := [(4, .int (0 : Int32)), (0, .ref (ga g x0)), (1, .int x1), (2, .int x2)]) hx hb dX12_reason_161 hl (by decide) rfl (fun ls hl => ?_)
      exact w_X12_reason_163 C hr hSh N σ x0 x1 x2 (0 : Int32) h hx0 H locs ls S (lv_sub hl [1, 2, 3, 0] rfl)
    · have h := it_n c7 h
      refine lv_aload_n hx hb dX12_reason_116 rfl (lv_at hl 0 rfl) ?_
      refine lv_iload hx hb dX12_reason_117 (lv_at hl 3 rfl) ?_
      refine lv_iload_n hx hb dX12_reason_119 rfl (lv_at hl 2 rfl) ?_
      obtain ⟨a11, σ11, hc11, h⟩ := bd_el h
      refine x_callVI C S KX12 hx0 (ok_X12_isQuiet (L := L) hc11 hSh hx0) ⟨cd_X12_isQuiet, ni_RX12, ml_RX12_167, in_X12_isQuiet, sl_X12_isQuiet⟩ ⟨by decide, by decide⟩ rfl (rm_ok (by decide) (by decide)) hl.1 rfl (Nat.le_of_ble_eq_true rfl) ⟨by decide, by decide⟩ dX12_reason_120 (fun H locs S => ?_)
      refine lv_if_eq (tgt := 154) hx hb dX12_reason_123 (by decide) (fun c12 => ?_) (fun c12 => ?_)
      · have h := it_p c12 h
        exact w_X12_reason_154 C hr hSh ih σ11 x0 x1 x2 x4 h hx0 H locs ls S (lv_sub hl [0, 1, 2, 3] rfl)
      · have h := it_n c12 h
        refine lv_aload_n hx hb dX12_reason_126 rfl (lv_at hl 0 rfl) ?_
        refine lv_iload_n hx hb dX12_reason_127 rfl (lv_at hl 1 rfl) ?_
        refine lv_iload hx hb dX12_reason_128 (lv_at hl 3 rfl) ?_
        obtain ⟨a13, σ13, hc13, h⟩ := bd_el h
        refine x_callVI C S KX12 hx0 (ok_X12_far (L := L) hc13 hSh hx0) ⟨cd_X12_far, ni_RX12, ml_RX12_158, in_X12_far, sl_X12_far⟩ ⟨by decide, by decide⟩ rfl (rm_ok (by decide) (by decide)) hl.1 rfl (Nat.le_of_ble_eq_true rfl) ⟨by decide, by decide⟩ dX12_reason_130 (fun H locs S => ?_)
        refine lv_bipush (v := (9 : Int32)) hx hb dX12_reason_133 (by decide) ?_
        refine lv_aload_n hx hb dX12_reason_135 rfl (lv_at hl 0 rfl) ?_
        have hR14 : Ok 202 (R x0 20) 10003 := hSh x0 12 20 10003 hx0.1 rfl
        refine x_getR C S KX12 hx0 20 (by decide) rfl rfl fl_RX12_43 hR14 dX12_reason_136 ?_
        refine lv_iload_n hx hb dX12_reason_139 rfl (lv_at hl 1 rfl) ?_
        obtain ⟨hi15, h⟩ := ck_el h
        refine x_iald (len := 3) C S (by decide) hR14 hi15 dX12_reason_140 ?_
        refine lv_imul hx hb dX12_reason_141 ?_
        refine lv_aload_n hx hb dX12_reason_142 rfl (lv_at hl 0 rfl) ?_
        have hR16 : Ok 202 (R x0 20) 10003 := hSh x0 12 20 10003 hx0.1 rfl
        refine x_getR C S KX12 hx0 20 (by decide) rfl rfl fl_RX12_43 hR16 dX12_reason_143 ?_
        refine lv_iload_n hx hb dX12_reason_146 rfl (lv_at hl 1 rfl) ?_
        obtain ⟨hi17, h⟩ := ck_el h
        refine x_iald (len := 3) C S (by decide) hR16 hi17 dX12_reason_147 ?_
        refine lv_imul hx hb dX12_reason_148 ?_
        refine lv_icmp_gt (tgt := 154) hx hb dX12_reason_149 (by decide) (fun c18 => ?_) (fun c18 => ?_)
        · have h := it_p c18 h
          exact w_X12_reason_154 C hr hSh ih σ13 x0 x1 x2 x4 h hx0 H locs ls S (lv_sub hl [0, 1, 2, 3] rfl)
        · have h := it_n c18 h
          refine lv_iconst (v := (3 : Int32)) hx hb dX12_reason_152 (by decide) ?_
          exact x_iret C S hr h dX12_reason_153
set_option maxHeartbeats 4000000 in
set_option maxRecDepth 100000 in
theorem w_X12_reason_62 {l : Launch} {g : GL} {p : Program} {e : Jvm.Env} {s : State} {m : MethodId} {args : Array Value} {below : List Frame} {meth : Method} {c : Code} {R : Nat → Nat → Nat} {L : Nat → Nat → Int64} {r : (Int32 × SI)} {N : Nat} (C : Cx l g p s m meth c cX12_reason 5 RX12) (hr : meth.sig.returnType = (some .int)) (hSh : ShR R) : ∀ (n : Nat) (σ : SI) (x0 : Nat) (x1 : Int32) (x2 : Int32) (x3 : Int32) (x4 : Int32), f_X12_reason_62 N R n σ x0 x1 x2 x3 x4 = some r → Ok 202 x0 12 → ∀ (H : Heap) (locs : List Loc) (ls : Array Slot), S2 g s σ R L H locs → lv_has ls 5 [(0, .ref (ga g x0)), (1, .int x1), (2, .int x2), (3, .int x3), (4, .int x4)] → W p l e (rmd 3 0 0) s m args below meth c H locs 0 0 (MQ below (Qg g 202 (PI R L r)) args s 0 0 (gA g)) (F0 m 62 ls []) := by
  have hx := C.1
  have hb := C.2.1
  intro n
  induction n with
  | zero =>
    intro σ x0 x1 x2 x3 x4 h
    cases (show (none : Option (Int32 × SI)) = some r from h)
  | succ n ih =>
    intro σ x0 x1 x2 x3 x4 h hx0 H locs ls S hl
    rw [f_X12_reason_62] at h
    refine lv_iload hx hb dX12_reason_62 (lv_at hl 4 rfl) ?_
    refine lv_aload_n hx hb dX12_reason_64 rfl (lv_at hl 0 rfl) ?_
    refine x_getI C S KX12 hx0 0 (by decide) rfl rfl fl_RX12_69 dX12_reason_65 ?_
    refine lv_icmp_ge (tgt := 104) hx hb dX12_reason_68 (by decide) (fun c6 => ?_) (fun c6 => ?_)
    · have h := it_p c6 h
      refine lv_iconst (v := (0 : Int32)) hx hb dX12_reason_104 (by decide) ?_
      refine lv_istore (lv' := [(4, .int (0 : Int32)), (0, .ref (ga g x0)), (1, .int x1), (2, .int x2), (3, .int x3)]) hx hb dX12_reason_105 hl (by decide) rfl (fun ls hl => ?_)
      exact w_X12_reason_107 C hr hSh N σ x0 x1 x2 (0 : Int32) h hx0 H locs ls S (lv_sub hl [1, 2, 3, 0] rfl)
    · have h := it_n c6 h
      refine lv_sipush (v := (1000 : Int32)) hx hb dX12_reason_71 (by decide) ?_
      refine lv_iload_n hx hb dX12_reason_74 rfl (lv_at hl 3 rfl) ?_
      refine lv_imul hx hb dX12_reason_75 ?_
      refine lv_aload_n hx hb dX12_reason_76 rfl (lv_at hl 0 rfl) ?_
      refine lv_iload_n hx hb dX12_reason_77 rfl (lv_at hl 1 rfl) ?_
      refine lv_iload hx hb dX12_reason_78 (lv_at hl 4 rfl) ?_
      obtain ⟨a19, σ19, hc19, h⟩ := bd_el h
      refine x_callVI C S KX12 hx0 (ok_X12_far (L := L) hc19 hSh hx0) ⟨cd_X12_far, ni_RX12, ml_RX12_158, in_X12_far, sl_X12_far⟩ ⟨by decide, by decide⟩ rfl (rm_ok (by decide) (by decide)) hl.1 rfl (Nat.le_of_ble_eq_true rfl) ⟨by decide, by decide⟩ dX12_reason_80 (fun H locs S => ?_)
      refine lv_iconst (v := (1 : Int32)) hx hb dX12_reason_83 (by decide) ?_
      refine lv_iadd hx hb dX12_reason_84 ?_
      obtain ⟨hz20, h⟩ := cd_el h
      refine lv_idiv hx hb dX12_reason_85 hz20 ?_
      refine lv_aload_n hx hb dX12_reason_86 rfl (lv_at hl 0 rfl) ?_
      have hR21 : Ok 202 (R x0 11) 10002 := hSh x0 12 11 10002 hx0.1 rfl
      refine x_getR C S KX12 hx0 11 (by decide) rfl rfl fl_RX12_16 hR21 dX12_reason_87 ?_
      refine lv_iload hx hb dX12_reason_90 (lv_at hl 4 rfl) ?_
      obtain ⟨hi22, h⟩ := ck_el h
      refine x_iald (len := 2) C S (by decide) hR21 hi22 dX12_reason_92 ?_
      refine lv_icmp_le (tgt := 98) hx hb dX12_reason_93 (by decide) (fun c23 => ?_) (fun c23 => ?_)
      · have h := it_p c23 h
        refine lv_iinc (v := x4 + 1) (lv' := [(4, .int (x4 + 1)), (0, .ref (ga g x0)), (1, .int x1), (2, .int x2), (3, .int x3)]) hx hb dX12_reason_98 hl (k := 4) rfl rfl (by decide) rfl (fun ls hl => ?_)
        refine lv_goto (tgt := 62) hx hb dX12_reason_101 (by decide) ?_
        exact ih σ19 x0 x1 x2 x3 (x4 + 1) h hx0 H locs ls S (lv_sub hl [1, 2, 3, 4, 0] rfl)
      · have h := it_n c23 h
        refine lv_iconst (v := (2 : Int32)) hx hb dX12_reason_96 (by decide) ?_
        exact x_iret C S hr h dX12_reason_97
set_option maxHeartbeats 4000000 in
set_option maxRecDepth 100000 in
theorem w_X12_reason_23 {l : Launch} {g : GL} {p : Program} {e : Jvm.Env} {s : State} {m : MethodId} {args : Array Value} {below : List Frame} {meth : Method} {c : Code} {R : Nat → Nat → Nat} {L : Nat → Nat → Int64} {r : (Int32 × SI)} {N : Nat} (C : Cx l g p s m meth c cX12_reason 5 RX12) (hr : meth.sig.returnType = (some .int)) (hSh : ShR R) : ∀ (n : Nat) (σ : SI) (x0 : Nat) (x1 : Int32) (x2 : Int32) (x3 : Int32) (x4 : Int32), f_X12_reason_23 N R n σ x0 x1 x2 x3 x4 = some r → Ok 202 x0 12 → ∀ (H : Heap) (locs : List Loc) (ls : Array Slot), S2 g s σ R L H locs → lv_has ls 5 [(0, .ref (ga g x0)), (1, .int x1), (2, .int x2), (3, .int x3), (4, .int x4)] → W p l e (rmd 3 0 0) s m args below meth c H locs 0 0 (MQ below (Qg g 202 (PI R L r)) args s 0 0 (gA g)) (F0 m 23 ls []) := by
  have hx := C.1
  have hb := C.2.1
  intro n
  induction n with
  | zero =>
    intro σ x0 x1 x2 x3 x4 h
    cases (show (none : Option (Int32 × SI)) = some r from h)
  | succ n ih =>
    intro σ x0 x1 x2 x3 x4 h hx0 H locs ls S hl
    rw [f_X12_reason_23] at h
    refine lv_iload hx hb dX12_reason_23 (lv_at hl 4 rfl) ?_
    refine lv_aload_n hx hb dX12_reason_25 rfl (lv_at hl 0 rfl) ?_
    have hR3 : Ok 202 (R x0 21) 10003 := hSh x0 12 21 10003 hx0.1 rfl
    refine x_getR C S KX12 hx0 21 (by decide) rfl rfl fl_RX12_46 hR3 dX12_reason_26 ?_
    refine lv_iload_n hx hb dX12_reason_29 rfl (lv_at hl 1 rfl) ?_
    obtain ⟨hi4, h⟩ := ck_el h
    refine x_iald (len := 3) C S (by decide) hR3 hi4 dX12_reason_30 ?_
    refine lv_icmp_ge (tgt := 59) hx hb dX12_reason_31 (by decide) (fun c5 => ?_) (fun c5 => ?_)
    · have h := it_p c5 h
      refine lv_iconst (v := (0 : Int32)) hx hb dX12_reason_59 (by decide) ?_
      refine lv_istore (lv' := [(4, .int (0 : Int32)), (0, .ref (ga g x0)), (1, .int x1), (2, .int x2), (3, .int x3)]) hx hb dX12_reason_60 hl (by decide) rfl (fun ls hl => ?_)
      exact w_X12_reason_62 C hr hSh N σ x0 x1 x2 x3 (0 : Int32) h hx0 H locs ls S (lv_sub hl [1, 2, 3, 4, 0] rfl)
    · have h := it_n c5 h
      refine lv_iload_n hx hb dX12_reason_34 rfl (lv_at hl 3 rfl) ?_
      refine lv_aload_n hx hb dX12_reason_35 rfl (lv_at hl 0 rfl) ?_
      refine lv_iload_n hx hb dX12_reason_36 rfl (lv_at hl 1 rfl) ?_
      refine lv_aload_n hx hb dX12_reason_37 rfl (lv_at hl 0 rfl) ?_
      have hR24 : Ok 202 (R x0 25) 80003 := hSh x0 12 25 80003 hx0.1 rfl
      refine x_getR C S KX12 hx0 25 (by decide) rfl rfl fl_RX12_60 hR24 dX12_reason_38 ?_
      refine lv_iload_n hx hb dX12_reason_41 rfl (lv_at hl 1 rfl) ?_
      obtain ⟨hi25, h⟩ := ck_el h
      have hR26 : Ok 202 (R (R x0 25) x1.toNatClampNeg) 10004 := hSh (R x0 25) 80003 x1.toNatClampNeg 10004 hR24.1 (if_pos (vp_lt hi25))
      refine x_aald2 (len := 3) C S (by decide) hR24 hi25 hR26 dX12_reason_42 ?_
      refine lv_iload hx hb dX12_reason_43 (lv_at hl 4 rfl) ?_
      obtain ⟨hi27, h⟩ := ck_el h
      refine x_iald (len := 4) C S (by decide) hR26 hi27 dX12_reason_45 ?_
      obtain ⟨a28, σ28, hc28, h⟩ := bd_el h
      refine x_callVI C S KX12 hx0 (ok_X12_window (L := L) hc28 hSh hx0) ⟨cd_X12_window, ni_RX12, ml_RX12_162, in_X12_window, sl_X12_window⟩ ⟨by decide, by decide⟩ rfl (rm_ok (by decide) (by decide)) hl.1 rfl (Nat.le_of_ble_eq_true rfl) ⟨by decide, by decide⟩ dX12_reason_46 (fun H locs S => ?_)
      refine x_max C hl.1 ⟨ml_RX12_165, st_math_max, ni_math, cd_math_max⟩ (Nat.le_of_ble_eq_true rfl) (Nat.le_of_ble_eq_true rfl) (Nat.le_of_ble_eq_true rfl) (Nat.le_of_ble_eq_true rfl) dX12_reason_49 ?_
      refine lv_istore_n (lv' := [(3, .int (if x3 < a28 then a28 else x3)), (0, .ref (ga g x0)), (1, .int x1), (2, .int x2), (4, .int x4)]) hx hb dX12_reason_52 rfl hl (by decide) rfl (fun ls hl => ?_)
      refine lv_iinc (v := x4 + 1) (lv' := [(4, .int (x4 + 1)), (3, .int (if x3 < a28 then a28 else x3)), (0, .ref (ga g x0)), (1, .int x1), (2, .int x2)]) hx hb dX12_reason_53 hl (k := 4) rfl rfl (by decide) rfl (fun ls hl => ?_)
      refine lv_goto (tgt := 23) hx hb dX12_reason_56 (by decide) ?_
      exact ih σ28 x0 x1 x2 (if x3 < a28 then a28 else x3) (x4 + 1) h hx0 H locs ls S (lv_sub hl [2, 3, 4, 1, 0] rfl)
set_option maxHeartbeats 4000000 in
set_option maxRecDepth 100000 in
theorem ok_X12_reason {l : Launch} {g : GL} {R : Nat → Nat → Nat} {L : Nat → Nat → Int64} {N : Nat} {σ : SI} {x0 : Nat} {x1 : Int32} {x2 : Int32} {r : (Int32 × SI)} (h : f_X12_reason N R σ x0 x1 x2 = some r) (hSh : ShR R) (hx0 : Ok 202 x0 12) : Ct l g 3 yX12_reason cX12_reason 5 (some .int) 202 202 0 0 [.ref (ga g x0), .int x1, .int x2] (mkS σ R L) (PI R L r) := by
  refine Met.ofW (cc := cX12_reason) (maxL := 5) (ret := (some .int)) (by decide) rfl ?_
  intro p e s m args below meth c s₁ B hml hv
  obtain ⟨rfl, hE, hLo, hWd⟩ := hv
  have hr : meth.sig.returnType = (some .int) := B.returns
  have C : Cx l g p s m meth c cX12_reason 5 RX12 := ⟨B.exec, B.bytes, hml, findClass_of_methodNamed B.named, hE, hLo, B.notSynchronized⟩
  have S : S2 g s σ R L s.heap [] := ⟨hWd, va_S.rf⟩
  have hx := C.1
  have hb := C.2.1
  have hl := lv_entry ([.ref (ga g x0), .int x1, .int x2]) (n := 5) (Nat.le_of_ble_eq_true rfl)
  rw [lg_entry_eq]
  generalize (lg_sl ([.ref (ga g x0), .int x1, .int x2]) ++ List.replicate (5 - (lg_sl ([.ref (ga g x0), .int x1, .int x2])).length) Slot.unset).toArray = ls at hl ⊢
  have hl : lv_has ls 5 [(0, .ref (ga g x0)), (1, .int x1), (2, .int x2)] := hl
  generalize hH : s.heap = H at S ⊢
  generalize hlc : ([] : List Loc) = locs at S ⊢
  rw [f_X12_reason] at h
  refine lv_iload_n hx hb dX12_reason_0 rfl (lv_at hl 2 rfl) ?_
  refine lv_aload_n hx hb dX12_reason_1 rfl (lv_at hl 0 rfl) ?_
  refine x_getI C S KX12 hx0 3 (by decide) rfl rfl fl_RX12_79 dX12_reason_2 ?_
  refine lv_icmp_lt (tgt := 16) hx hb dX12_reason_5 (by decide) (fun c1 => ?_) (fun c1 => ?_)
  · have h := it_p c1 h
    refine lv_iconst (v := (1 : Int32)) hx hb dX12_reason_16 (by decide) ?_
    exact x_iret C S hr h dX12_reason_17
  · have h := it_n c1 h
    refine lv_iload_n hx hb dX12_reason_8 rfl (lv_at hl 2 rfl) ?_
    refine lv_aload_n hx hb dX12_reason_9 rfl (lv_at hl 0 rfl) ?_
    refine x_getI C S KX12 hx0 4 (by decide) rfl rfl fl_RX12_85 dX12_reason_10 ?_
    refine lv_icmp_le (tgt := 18) hx hb dX12_reason_13 (by decide) (fun c2 => ?_) (fun c2 => ?_)
    · have h := it_p c2 h
      refine lv_iconst (v := (0 : Int32)) hx hb dX12_reason_18 (by decide) ?_
      refine lv_istore_n (lv' := [(3, .int (0 : Int32)), (0, .ref (ga g x0)), (1, .int x1), (2, .int x2)]) hx hb dX12_reason_19 rfl hl (by decide) rfl (fun ls hl => ?_)
      refine lv_iconst (v := (0 : Int32)) hx hb dX12_reason_20 (by decide) ?_
      refine lv_istore (lv' := [(4, .int (0 : Int32)), (3, .int (0 : Int32)), (0, .ref (ga g x0)), (1, .int x1), (2, .int x2)]) hx hb dX12_reason_21 hl (by decide) rfl (fun ls hl => ?_)
      exact w_X12_reason_23 C hr hSh N σ x0 x1 x2 (0 : Int32) (0 : Int32) h hx0 H locs ls S (lv_sub hl [2, 3, 4, 1, 0] rfl)
    · have h := it_n c2 h
      refine lv_iconst (v := (1 : Int32)) hx hb dX12_reason_16 (by decide) ?_
      exact x_iret C S hr h dX12_reason_17
theorem dX13_next_0 : decode cX13_next 0 = .ok (.aload_n 0, 1) := by decide +kernel
theorem dX13_next_1 : decode cX13_next 1 = .ok (.aload_n 0, 1) := by decide +kernel
theorem dX13_next_2 : decode cX13_next 2 = .ok (.getfield 7, 3) := by decide +kernel
theorem dX13_next_5 : decode cX13_next 5 = .ok (.ldc 13, 2) := by decide +kernel
theorem dX13_next_7 : decode cX13_next 7 = .ok (.imul, 1) := by decide +kernel
theorem dX13_next_8 : decode cX13_next 8 = .ok (.sipush 12345, 3) := by decide +kernel
theorem dX13_next_11 : decode cX13_next 11 = .ok (.iadd, 1) := by decide +kernel
theorem dX13_next_12 : decode cX13_next 12 = .ok (.putfield 7, 3) := by decide +kernel
theorem dX13_next_15 : decode cX13_next 15 = .ok (.aload_n 0, 1) := by decide +kernel
theorem dX13_next_16 : decode cX13_next 16 = .ok (.getfield 7, 3) := by decide +kernel
theorem dX13_next_19 : decode cX13_next 19 = .ok (.bipush 16, 2) := by decide +kernel
theorem dX13_next_21 : decode cX13_next 21 = .ok (.iushr, 1) := by decide +kernel
theorem dX13_next_22 : decode cX13_next 22 = .ok (.sipush 32767, 3) := by decide +kernel
theorem dX13_next_25 : decode cX13_next 25 = .ok (.iand, 1) := by decide +kernel
theorem dX13_next_26 : decode cX13_next 26 = .ok (.iload_n 1, 1) := by decide +kernel
theorem dX13_next_27 : decode cX13_next 27 = .ok (.irem, 1) := by decide +kernel
theorem dX13_next_28 : decode cX13_next 28 = .ok (.ireturn, 1) := by decide +kernel
def f_X13_next (N : Nat) (R : Nat → Nat → Nat) (σ : SI) (x0 : Nat) (x1 : Int32) : Option (Int32 × SI) := sq (up σ x0 0 (((σ x0 0) * (1103515245 : Int32)) + (12345 : Int32))) (fun σ1 => cd x1 (some (((((σ1 x0 0).toUInt32 >>> ((16 : Int32).toUInt32 &&& Int32.toUInt32 31)).toInt32) &&& (32767 : Int32)) - ((((σ1 x0 0).toUInt32 >>> ((16 : Int32).toUInt32 &&& Int32.toUInt32 31)).toInt32) &&& (32767 : Int32)) / x1 * x1, σ1)))
set_option maxHeartbeats 4000000 in
set_option maxRecDepth 100000 in
theorem ok_X13_next {l : Launch} {g : GL} {R : Nat → Nat → Nat} {L : Nat → Nat → Int64} {N : Nat} {σ : SI} {x0 : Nat} {x1 : Int32} {r : (Int32 × SI)} (h : f_X13_next N R σ x0 x1 = some r) (hSh : ShR R) (hx0 : Ok 202 x0 13) : Ct l g 1 yX13_next cX13_next 2 (some .int) 202 202 0 0 [.ref (ga g x0), .int x1] (mkS σ R L) (PI R L r) := by
  refine Met.ofW (cc := cX13_next) (maxL := 2) (ret := (some .int)) (by decide) rfl ?_
  intro p e s m args below meth c s₁ B hml hv
  obtain ⟨rfl, hE, hLo, hWd⟩ := hv
  have hr : meth.sig.returnType = (some .int) := B.returns
  have C : Cx l g p s m meth c cX13_next 2 RX13 := ⟨B.exec, B.bytes, hml, findClass_of_methodNamed B.named, hE, hLo, B.notSynchronized⟩
  have S : S2 g s σ R L s.heap [] := ⟨hWd, va_S.rf⟩
  have hx := C.1
  have hb := C.2.1
  have hl := lv_entry ([.ref (ga g x0), .int x1]) (n := 2) (Nat.le_of_ble_eq_true rfl)
  rw [lg_entry_eq]
  generalize (lg_sl ([.ref (ga g x0), .int x1]) ++ List.replicate (2 - (lg_sl ([.ref (ga g x0), .int x1])).length) Slot.unset).toArray = ls at hl ⊢
  have hl : lv_has ls 2 [(0, .ref (ga g x0)), (1, .int x1)] := hl
  generalize hH : s.heap = H at S ⊢
  generalize hlc : ([] : List Loc) = locs at S ⊢
  rw [f_X13_next] at h
  refine lv_aload_n hx hb dX13_next_0 rfl (lv_at hl 0 rfl) ?_
  refine lv_aload_n hx hb dX13_next_1 rfl (lv_at hl 0 rfl) ?_
  refine x_getI C S KX13 hx0 0 (by decide) rfl rfl fl_RX13_7 dX13_next_2 ?_
  refine lv_ldc (v := (1103515245 : Int32)) hx hb C.2.2.2.1 (C.2.2.2.2.1.w kc_RX13_13) dX13_next_5 ?_
  refine lv_imul hx hb dX13_next_7 ?_
  refine lv_sipush (v := (12345 : Int32)) hx hb dX13_next_8 (by decide) ?_
  refine lv_iadd hx hb dX13_next_11 ?_
  obtain ⟨σ1, hs1, h⟩ := sq_el h
  refine x_putI C S KX13 hx0 0 (by decide) rfl rfl rfl ⟨rfl, rfl⟩ fl_RX13_7 dX13_next_12 hs1 (fun H locs S => ?_)
  refine lv_aload_n hx hb dX13_next_15 rfl (lv_at hl 0 rfl) ?_
  refine x_getI C S KX13 hx0 0 (by decide) rfl rfl fl_RX13_7 dX13_next_16 ?_
  refine lv_bipush (v := (16 : Int32)) hx hb dX13_next_19 (by decide) ?_
  refine lv_iushr hx hb dX13_next_21 rfl ?_
  refine lv_sipush (v := (32767 : Int32)) hx hb dX13_next_22 (by decide) ?_
  refine lv_iand hx hb dX13_next_25 ?_
  refine lv_iload_n hx hb dX13_next_26 rfl (lv_at hl 1 rfl) ?_
  obtain ⟨hz2, h⟩ := cd_el h
  refine lv_irem hx hb dX13_next_27 hz2 ?_
  exact x_iret C S hr h dX13_next_28
theorem dX11_append_0 : decode cX11_append 0 = .ok (.aload_n 0, 1) := by decide +kernel
theorem dX11_append_1 : decode cX11_append 1 = .ok (.getfield 10, 3) := by decide +kernel
theorem dX11_append_4 : decode cX11_append 4 = .ok (.getfield 68, 3) := by decide +kernel
theorem dX11_append_7 : decode cX11_append 7 = .ok (.astore 6, 2) := by decide +kernel
theorem dX11_append_9 : decode cX11_append 9 = .ok (.aload 6, 2) := by decide +kernel
theorem dX11_append_11 : decode cX11_append 11 = .ok (.bipush 20, 2) := by decide +kernel
theorem dX11_append_13 : decode cX11_append 13 = .ok (.invokevirtual 72, 3) := by decide +kernel
theorem dX11_append_16 : decode cX11_append 16 = .ok (.ifCond .ne 5, 3) := by decide +kernel
theorem dX11_append_19 : decode cX11_append 19 = .ok (.iconst (-1), 1) := by decide +kernel
theorem dX11_append_20 : decode cX11_append 20 = .ok (.ireturn, 1) := by decide +kernel
theorem dX11_append_21 : decode cX11_append 21 = .ok (.aload 6, 2) := by decide +kernel
theorem dX11_append_23 : decode cX11_append 23 = .ok (.iload_n 1, 1) := by decide +kernel
theorem dX11_append_24 : decode cX11_append 24 = .ok (.invokevirtual 78, 3) := by decide +kernel
theorem dX11_append_27 : decode cX11_append 27 = .ok (.aload 6, 2) := by decide +kernel
theorem dX11_append_29 : decode cX11_append 29 = .ok (.iload_n 2, 1) := by decide +kernel
theorem dX11_append_30 : decode cX11_append 30 = .ok (.invokevirtual 78, 3) := by decide +kernel
theorem dX11_append_33 : decode cX11_append 33 = .ok (.aload 6, 2) := by decide +kernel
theorem dX11_append_35 : decode cX11_append 35 = .ok (.iload_n 3, 1) := by decide +kernel
theorem dX11_append_36 : decode cX11_append 36 = .ok (.invokevirtual 78, 3) := by decide +kernel
theorem dX11_append_39 : decode cX11_append 39 = .ok (.aload 6, 2) := by decide +kernel
theorem dX11_append_41 : decode cX11_append 41 = .ok (.iload 4, 2) := by decide +kernel
theorem dX11_append_43 : decode cX11_append 43 = .ok (.invokevirtual 78, 3) := by decide +kernel
theorem dX11_append_46 : decode cX11_append 46 = .ok (.aload 6, 2) := by decide +kernel
theorem dX11_append_48 : decode cX11_append 48 = .ok (.iload 5, 2) := by decide +kernel
theorem dX11_append_50 : decode cX11_append 50 = .ok (.invokevirtual 78, 3) := by decide +kernel
theorem dX11_append_53 : decode cX11_append 53 = .ok (.aload 6, 2) := by decide +kernel
theorem dX11_append_55 : decode cX11_append 55 = .ok (.getfield 82, 3) := by decide +kernel
theorem dX11_append_58 : decode cX11_append 58 = .ok (.ireturn, 1) := by decide +kernel
def f_X11_append (N : Nat) (R : Nat → Nat → Nat) (σ : SI) (x0 : Nat) (x1 : Int32) (x2 : Int32) (x3 : Int32) (x4 : Int32) (x5 : Int32) : Option (Int32 × SI) := bd (f_X10_hasRoom N R σ (R (R x0 0) 0) (20 : Int32)) (fun a3 σ3 => if a3 = 0 then (some ((-1 : Int32), σ3)) else (bd (f_X10_addWord N R σ3 (R (R x0 0) 0) x1) (fun _ σ5 => bd (f_X10_addWord N R σ5 (R (R x0 0) 0) x2) (fun _ σ6 => bd (f_X10_addWord N R σ6 (R (R x0 0) 0) x3) (fun _ σ7 => bd (f_X10_addWord N R σ7 (R (R x0 0) 0) x4) (fun _ σ8 => bd (f_X10_addWord N R σ8 (R (R x0 0) 0) x5) (fun _ σ9 => some (σ9 (R (R x0 0) 0) 1, σ9))))))))
set_option maxHeartbeats 4000000 in
set_option maxRecDepth 100000 in
theorem ok_X11_append {l : Launch} {g : GL} {R : Nat → Nat → Nat} {L : Nat → Nat → Int64} {N : Nat} {σ : SI} {x0 : Nat} {x1 : Int32} {x2 : Int32} {x3 : Int32} {x4 : Int32} {x5 : Int32} {r : (Int32 × SI)} (h : f_X11_append N R σ x0 x1 x2 x3 x4 x5 = some r) (hSh : ShR R) (hx0 : Ok 202 x0 11) : Ct l g 2 yX11_append cX11_append 7 (some .int) 202 202 0 0 [.ref (ga g x0), .int x1, .int x2, .int x3, .int x4, .int x5] (mkS σ R L) (PI R L r) := by
  refine Met.ofW (cc := cX11_append) (maxL := 7) (ret := (some .int)) (by decide) rfl ?_
  intro p e s m args below meth c s₁ B hml hv
  obtain ⟨rfl, hE, hLo, hWd⟩ := hv
  have hr : meth.sig.returnType = (some .int) := B.returns
  have C : Cx l g p s m meth c cX11_append 7 RX11 := ⟨B.exec, B.bytes, hml, findClass_of_methodNamed B.named, hE, hLo, B.notSynchronized⟩
  have S : S2 g s σ R L s.heap [] := ⟨hWd, va_S.rf⟩
  have hx := C.1
  have hb := C.2.1
  have hl := lv_entry ([.ref (ga g x0), .int x1, .int x2, .int x3, .int x4, .int x5]) (n := 7) (Nat.le_of_ble_eq_true rfl)
  rw [lg_entry_eq]
  generalize (lg_sl ([.ref (ga g x0), .int x1, .int x2, .int x3, .int x4, .int x5]) ++ List.replicate (7 - (lg_sl ([.ref (ga g x0), .int x1, .int x2, .int x3, .int x4, .int x5])).length) Slot.unset).toArray = ls at hl ⊢
  have hl : lv_has ls 7 [(0, .ref (ga g x0)), (1, .int x1), (2, .int x2), (3, .int x3), (4, .int x4), (5, .int x5)] := hl
  generalize hH : s.heap = H at S ⊢
  generalize hlc : ([] : List Loc) = locs at S ⊢
  rw [f_X11_append] at h
  refine lv_aload_n hx hb dX11_append_0 rfl (lv_at hl 0 rfl) ?_
  have hR1 : Ok 202 (R x0 0) 5 := hSh x0 11 0 5 hx0.1 rfl
  refine x_getR C S KX11 hx0 0 (by decide) rfl rfl fl_RX11_10 hR1 dX11_append_1 ?_
  have hR2 : Ok 202 (R (R x0 0) 0) 10 := hSh (R x0 0) 5 0 10 hR1.1 rfl
  refine x_getR C S KX5 hR1 0 (by decide) rfl rfl fl_RX11_68 hR2 dX11_append_4 ?_
  refine lv_astore (lv' := [(6, .ref (ga g (R (R x0 0) 0))), (0, .ref (ga g x0)), (1, .int x1), (2, .int x2), (3, .int x3), (4, .int x4), (5, .int x5)]) hx hb dX11_append_7 hl (by decide) rfl (fun ls hl => ?_)
  refine lv_aload hx hb dX11_append_9 (lv_at hl 0 rfl) ?_
  refine lv_bipush (v := (20 : Int32)) hx hb dX11_append_11 (by decide) ?_
  obtain ⟨a3, σ3, hc3, h⟩ := bd_el h
  refine x_callVI C S KX10 hR2 (ok_X10_hasRoom (L := L) hc3 hSh hR2) ⟨cd_X10_hasRoom, ni_RX10, ml_RX11_72, in_X10_hasRoom, sl_X10_hasRoom⟩ ⟨by decide, by decide⟩ rfl (rm_ok (by decide) (by decide)) hl.1 rfl (Nat.le_of_ble_eq_true rfl) ⟨by decide, by decide⟩ dX11_append_13 (fun H locs S => ?_)
  refine lv_if_ne (tgt := 21) hx hb dX11_append_16 (by decide) (fun c4 => ?_) (fun c4 => ?_)
  · have h := it_n c4 h
    refine lv_aload hx hb dX11_append_21 (lv_at hl 0 rfl) ?_
    refine lv_iload_n hx hb dX11_append_23 rfl (lv_at hl 2 rfl) ?_
    obtain ⟨a5, σ5, hc5, h⟩ := bd_el h
    refine x_callVV C S KX10 hR2 (ok_X10_addWord (L := L) hc5 hSh hR2) ⟨cd_X10_addWord, ni_RX10, ml_RX11_78, in_X10_addWord, sl_X10_addWord⟩ ⟨by decide, by decide⟩ rfl (rm_ok (by decide) (by decide)) hl.1 rfl (Nat.le_of_ble_eq_true rfl) ⟨by decide, by decide⟩ dX11_append_24 (fun H locs S => ?_)
    refine lv_aload hx hb dX11_append_27 (lv_at hl 0 rfl) ?_
    refine lv_iload_n hx hb dX11_append_29 rfl (lv_at hl 3 rfl) ?_
    obtain ⟨a6, σ6, hc6, h⟩ := bd_el h
    refine x_callVV C S KX10 hR2 (ok_X10_addWord (L := L) hc6 hSh hR2) ⟨cd_X10_addWord, ni_RX10, ml_RX11_78, in_X10_addWord, sl_X10_addWord⟩ ⟨by decide, by decide⟩ rfl (rm_ok (by decide) (by decide)) hl.1 rfl (Nat.le_of_ble_eq_true rfl) ⟨by decide, by decide⟩ dX11_append_30 (fun H locs S => ?_)
    refine lv_aload hx hb dX11_append_33 (lv_at hl 0 rfl) ?_
    refine lv_iload_n hx hb dX11_append_35 rfl (lv_at hl 4 rfl) ?_
    obtain ⟨a7, σ7, hc7, h⟩ := bd_el h
    refine x_callVV C S KX10 hR2 (ok_X10_addWord (L := L) hc7 hSh hR2) ⟨cd_X10_addWord, ni_RX10, ml_RX11_78, in_X10_addWord, sl_X10_addWord⟩ ⟨by decide, by decide⟩ rfl (rm_ok (by decide) (by decide)) hl.1 rfl (Nat.le_of_ble_eq_true rfl) ⟨by decide, by decide⟩ dX11_append_36 (fun H locs S => ?_)
    refine lv_aload hx hb dX11_append_39 (lv_at hl 0 rfl) ?_
    refine lv_iload hx hb dX11_append_41 (lv_at hl 5 rfl) ?_
    obtain ⟨a8, σ8, hc8, h⟩ := bd_el h
    refine x_callVV C S KX10 hR2 (ok_X10_addWord (L := L) hc8 hSh hR2) ⟨cd_X10_addWord, ni_RX10, ml_RX11_78, in_X10_addWord, sl_X10_addWord⟩ ⟨by decide, by decide⟩ rfl (rm_ok (by decide) (by decide)) hl.1 rfl (Nat.le_of_ble_eq_true rfl) ⟨by decide, by decide⟩ dX11_append_43 (fun H locs S => ?_)
    refine lv_aload hx hb dX11_append_46 (lv_at hl 0 rfl) ?_
    refine lv_iload hx hb dX11_append_48 (lv_at hl 6 rfl) ?_
    obtain ⟨a9, σ9, hc9, h⟩ := bd_el h
    refine x_callVV C S KX10 hR2 (ok_X10_addWord (L := L) hc9 hSh hR2) ⟨cd_X10_addWord, ni_RX10, ml_RX11_78, in_X10_addWord, sl_X10_addWord⟩ ⟨by decide, by decide⟩ rfl (rm_ok (by decide) (by decide)) hl.1 rfl (Nat.le_of_ble_eq_true rfl) ⟨by decide, by decide⟩ dX11_append_50 (fun H locs S => ?_)
    refine lv_aload hx hb dX11_append_53 (lv_at hl 0 rfl) ?_
    refine x_getI C S KX10 hR2 1 (by decide) rfl rfl fl_RX11_82 dX11_append_55 ?_
    exact x_iret C S hr h dX11_append_58
  · have h := it_p c4 h
    refine lv_iconst (v := (-1 : Int32)) hx hb dX11_append_19 (by decide) ?_
    exact x_iret C S hr h dX11_append_20
theorem dX11_windowSize_0 : decode cX11_windowSize 0 = .ok (.aload_n 0, 1) := by decide +kernel
theorem dX11_windowSize_1 : decode cX11_windowSize 1 = .ok (.iload_n 1, 1) := by decide +kernel
theorem dX11_windowSize_2 : decode cX11_windowSize 2 = .ok (.invokevirtual 125, 3) := by decide +kernel
theorem dX11_windowSize_5 : decode cX11_windowSize 5 = .ok (.getfield 150, 3) := by decide +kernel
theorem dX11_windowSize_8 : decode cX11_windowSize 8 = .ok (.ireturn, 1) := by decide +kernel
def f_X11_windowSize (N : Nat) (R : Nat → Nat → Nat) (σ : SI) (x0 : Nat) (x1 : Int32) : Option ((Int32 ⊕ Nat) × SI) := bdX (f_X11_blastAt N R σ x0 x1) (fun a2 σ2 => some (.inl (σ2 a2 8), σ2))
set_option maxHeartbeats 4000000 in
set_option maxRecDepth 100000 in
theorem ok_X11_windowSize {l : Launch} {g : GL} {R : Nat → Nat → Nat} {L : Nat → Nat → Int64} {N : Nat} {σ : SI} {x0 : Nat} {x1 : Int32} {r : ((Int32 ⊕ Nat) × SI)} (h : f_X11_windowSize N R σ x0 x1 = some r) (hSh : ShR R) (hx0 : Ok 202 x0 11) : CtX l g 8 yX11_windowSize cX11_windowSize 2 (some .int) 202 202 1 6 [.ref (ga g x0), .int x1] (mkS σ R L) (PIX R L r) (PX R L r) := by
  refine vx_ofW (cc := cX11_windowSize) (maxL := 2) (ret := (some .int)) (by decide) rfl ?_
  intro p e s m args below meth c s₁ B hml hT hv
  obtain ⟨rfl, hE, hLo, hWd⟩ := hv
  have hr : meth.sig.returnType = (some .int) := B.returns
  have C : Cx l g p s m meth c cX11_windowSize 2 RX11 := ⟨B.exec, B.bytes, hml, findClass_of_methodNamed B.named, hE, hLo, B.notSynchronized⟩
  have S : S2 g s σ R L s.heap [] := ⟨hWd, va_S.rf⟩
  have hx := C.1
  have hb := C.2.1
  have hl := lv_entry ([.ref (ga g x0), .int x1]) (n := 2) (Nat.le_of_ble_eq_true rfl)
  rw [lg_entry_eq]
  generalize (lg_sl ([.ref (ga g x0), .int x1]) ++ List.replicate (2 - (lg_sl ([.ref (ga g x0), .int x1])).length) Slot.unset).toArray = ls at hl ⊢
  have hl : lv_has ls 2 [(0, .ref (ga g x0)), (1, .int x1)] := hl
  generalize hH : s.heap = H at S ⊢
  generalize hlc : ([] : List Loc) = locs at S ⊢
  rw [f_X11_windowSize] at h
  refine lv_aload_n hx hb dX11_windowSize_0 rfl (lv_at hl 0 rfl) ?_
  refine lv_iload_n hx hb dX11_windowSize_1 rfl (lv_at hl 1 rfl) ?_
  rcases bdX_el h with ⟨a2, σ2, hc2, h⟩ | ⟨q2, σ2, hc2, hr2⟩
  · refine x_callXR C S KX11 hx0 (ok_X11_blastAt (L := L) hc2 hSh hx0) ⟨cd_X11_blastAt, ni_RX11, ml_RX11_125, in_X11_blastAt, sl_X11_blastAt⟩ ⟨by decide, by decide⟩ rfl (rm_ok (by decide) (by decide)) hl.1 rfl (Nat.le_of_ble_eq_true rfl) ⟨by decide, by decide⟩ dX11_windowSize_2 hT ⟨by decide, by decide⟩ (fun H locs ho2 S => ?_)
    refine x_getI C S KX0 ho2 8 (by decide) rfl rfl fl_RX11_150 dX11_windowSize_5 ?_
    exact x_iretX C S hr (by decide) (by decide) h dX11_windowSize_8
  · exact x_callXX C S KX11 hx0 (ok_X11_blastAt (L := L) hc2 hSh hx0) n_PRX ⟨cd_X11_blastAt, ni_RX11, ml_RX11_125, in_X11_blastAt, sl_X11_blastAt⟩ ⟨by decide, by decide⟩ rfl (rm_ok (by decide) (by decide)) hl.1 rfl (Nat.le_of_ble_eq_true rfl) ⟨by decide, by decide⟩ dX11_windowSize_2 hT ⟨by decide, by decide⟩ hr2
theorem dX11_windowStart_0 : decode cX11_windowStart 0 = .ok (.aload_n 0, 1) := by decide +kernel
theorem dX11_windowStart_1 : decode cX11_windowStart 1 = .ok (.iload_n 1, 1) := by decide +kernel
theorem dX11_windowStart_2 : decode cX11_windowStart 2 = .ok (.invokevirtual 125, 3) := by decide +kernel
theorem dX11_windowStart_5 : decode cX11_windowStart 5 = .ok (.getfield 153, 3) := by decide +kernel
theorem dX11_windowStart_8 : decode cX11_windowStart 8 = .ok (.ireturn, 1) := by decide +kernel
def f_X11_windowStart (N : Nat) (R : Nat → Nat → Nat) (σ : SI) (x0 : Nat) (x1 : Int32) : Option ((Int32 ⊕ Nat) × SI) := bdX (f_X11_blastAt N R σ x0 x1) (fun a2 σ2 => some (.inl (σ2 a2 9), σ2))
set_option maxHeartbeats 4000000 in
set_option maxRecDepth 100000 in
theorem ok_X11_windowStart {l : Launch} {g : GL} {R : Nat → Nat → Nat} {L : Nat → Nat → Int64} {N : Nat} {σ : SI} {x0 : Nat} {x1 : Int32} {r : ((Int32 ⊕ Nat) × SI)} (h : f_X11_windowStart N R σ x0 x1 = some r) (hSh : ShR R) (hx0 : Ok 202 x0 11) : CtX l g 8 yX11_windowStart cX11_windowStart 2 (some .int) 202 202 1 6 [.ref (ga g x0), .int x1] (mkS σ R L) (PIX R L r) (PX R L r) := by
  refine vx_ofW (cc := cX11_windowStart) (maxL := 2) (ret := (some .int)) (by decide) rfl ?_
  intro p e s m args below meth c s₁ B hml hT hv
  obtain ⟨rfl, hE, hLo, hWd⟩ := hv
  have hr : meth.sig.returnType = (some .int) := B.returns
  have C : Cx l g p s m meth c cX11_windowStart 2 RX11 := ⟨B.exec, B.bytes, hml, findClass_of_methodNamed B.named, hE, hLo, B.notSynchronized⟩
  have S : S2 g s σ R L s.heap [] := ⟨hWd, va_S.rf⟩
  have hx := C.1
  have hb := C.2.1
  have hl := lv_entry ([.ref (ga g x0), .int x1]) (n := 2) (Nat.le_of_ble_eq_true rfl)
  rw [lg_entry_eq]
  generalize (lg_sl ([.ref (ga g x0), .int x1]) ++ List.replicate (2 - (lg_sl ([.ref (ga g x0), .int x1])).length) Slot.unset).toArray = ls at hl ⊢
  have hl : lv_has ls 2 [(0, .ref (ga g x0)), (1, .int x1)] := hl
  generalize hH : s.heap = H at S ⊢
  generalize hlc : ([] : List Loc) = locs at S ⊢
  rw [f_X11_windowStart] at h
  refine lv_aload_n hx hb dX11_windowStart_0 rfl (lv_at hl 0 rfl) ?_
  refine lv_iload_n hx hb dX11_windowStart_1 rfl (lv_at hl 1 rfl) ?_
  rcases bdX_el h with ⟨a2, σ2, hc2, h⟩ | ⟨q2, σ2, hc2, hr2⟩
  · refine x_callXR C S KX11 hx0 (ok_X11_blastAt (L := L) hc2 hSh hx0) ⟨cd_X11_blastAt, ni_RX11, ml_RX11_125, in_X11_blastAt, sl_X11_blastAt⟩ ⟨by decide, by decide⟩ rfl (rm_ok (by decide) (by decide)) hl.1 rfl (Nat.le_of_ble_eq_true rfl) ⟨by decide, by decide⟩ dX11_windowStart_2 hT ⟨by decide, by decide⟩ (fun H locs ho2 S => ?_)
    refine x_getI C S KX0 ho2 9 (by decide) rfl rfl fl_RX11_153 dX11_windowStart_5 ?_
    exact x_iretX C S hr (by decide) (by decide) h dX11_windowStart_8
  · exact x_callXX C S KX11 hx0 (ok_X11_blastAt (L := L) hc2 hSh hx0) n_PRX ⟨cd_X11_blastAt, ni_RX11, ml_RX11_125, in_X11_blastAt, sl_X11_blastAt⟩ ⟨by decide, by decide⟩ rfl (rm_ok (by decide) (by decide)) hl.1 rfl (Nat.le_of_ble_eq_true rfl) ⟨by decide, by decide⟩ dX11_windowStart_2 hT ⟨by decide, by decide⟩ hr2
theorem dX11_vibration_0 : decode cX11_vibration 0 = .ok (.aload_n 0, 1) := by decide +kernel
theorem dX11_vibration_1 : decode cX11_vibration 1 = .ok (.iload_n 1, 1) := by decide +kernel
theorem dX11_vibration_2 : decode cX11_vibration 2 = .ok (.invokevirtual 125, 3) := by decide +kernel
theorem dX11_vibration_5 : decode cX11_vibration 5 = .ok (.astore_n 3, 1) := by decide +kernel
theorem dX11_vibration_6 : decode cX11_vibration 6 = .ok (.aload_n 0, 1) := by decide +kernel
theorem dX11_vibration_7 : decode cX11_vibration 7 = .ok (.iload_n 2, 1) := by decide +kernel
theorem dX11_vibration_8 : decode cX11_vibration 8 = .ok (.invokevirtual 156, 3) := by decide +kernel
theorem dX11_vibration_11 : decode cX11_vibration 11 = .ok (.pop, 1) := by decide +kernel
theorem dX11_vibration_12 : decode cX11_vibration 12 = .ok (.aload_n 3, 1) := by decide +kernel
theorem dX11_vibration_13 : decode cX11_vibration 13 = .ok (.iload_n 2, 1) := by decide +kernel
theorem dX11_vibration_14 : decode cX11_vibration 14 = .ok (.aload_n 3, 1) := by decide +kernel
theorem dX11_vibration_15 : decode cX11_vibration 15 = .ok (.getfield 150, 3) := by decide +kernel
theorem dX11_vibration_18 : decode cX11_vibration 18 = .ok (.invokevirtual 160, 3) := by decide +kernel
theorem dX11_vibration_21 : decode cX11_vibration 21 = .ok (.ireturn, 1) := by decide +kernel
def f_X11_vibration (N : Nat) (R : Nat → Nat → Nat) (σ : SI) (x0 : Nat) (x1 : Int32) (x2 : Int32) : Option ((Int32 ⊕ Nat) × SI) := bdX (f_X11_blastAt N R σ x0 x1) (fun a2 σ2 => bdX (f_X11_neighbourAt N R σ2 x0 x2) (fun a4 σ4 => bd (f_X0_shakes N R σ4 a2 x2 (σ4 a2 8)) (fun a5 σ5 => some (.inl a5, σ5))))
set_option maxHeartbeats 4000000 in
set_option maxRecDepth 100000 in
theorem ok_X11_vibration {l : Launch} {g : GL} {R : Nat → Nat → Nat} {L : Nat → Nat → Int64} {N : Nat} {σ : SI} {x0 : Nat} {x1 : Int32} {x2 : Int32} {r : ((Int32 ⊕ Nat) × SI)} (h : f_X11_vibration N R σ x0 x1 x2 = some r) (hSh : ShR R) (hx0 : Ok 202 x0 11) : CtX l g 8 yX11_vibration cX11_vibration 4 (some .int) 202 202 2 12 [.ref (ga g x0), .int x1, .int x2] (mkS σ R L) (PIX R L r) (PX R L r) := by
  refine vx_ofW (cc := cX11_vibration) (maxL := 4) (ret := (some .int)) (by decide) rfl ?_
  intro p e s m args below meth c s₁ B hml hT hv
  obtain ⟨rfl, hE, hLo, hWd⟩ := hv
  have hr : meth.sig.returnType = (some .int) := B.returns
  have C : Cx l g p s m meth c cX11_vibration 4 RX11 := ⟨B.exec, B.bytes, hml, findClass_of_methodNamed B.named, hE, hLo, B.notSynchronized⟩
  have S : S2 g s σ R L s.heap [] := ⟨hWd, va_S.rf⟩
  have hx := C.1
  have hb := C.2.1
  have hl := lv_entry ([.ref (ga g x0), .int x1, .int x2]) (n := 4) (Nat.le_of_ble_eq_true rfl)
  rw [lg_entry_eq]
  generalize (lg_sl ([.ref (ga g x0), .int x1, .int x2]) ++ List.replicate (4 - (lg_sl ([.ref (ga g x0), .int x1, .int x2])).length) Slot.unset).toArray = ls at hl ⊢
  have hl : lv_has ls 4 [(0, .ref (ga g x0)), (1, .int x1), (2, .int x2)] := hl
  generalize hH : s.heap = H at S ⊢
  generalize hlc : ([] : List Loc) = locs at S ⊢
  rw [f_X11_vibration] at h
  refine lv_aload_n hx hb dX11_vibration_0 rfl (lv_at hl 0 rfl) ?_
  refine lv_iload_n hx hb dX11_vibration_1 rfl (lv_at hl 1 rfl) ?_
  rcases bdX_el h with ⟨a2, σ2, hc2, h⟩ | ⟨q2, σ2, hc2, hr2⟩
  · refine x_callXR C S KX11 hx0 (ok_X11_blastAt (L := L) hc2 hSh hx0) ⟨cd_X11_blastAt, ni_RX11, ml_RX11_125, in_X11_blastAt, sl_X11_blastAt⟩ ⟨by decide, by decide⟩ rfl (rm_ok (by decide) (by decide)) hl.1 rfl (Nat.le_of_ble_eq_true rfl) ⟨by decide, by decide⟩ dX11_vibration_2 hT ⟨by decide, by decide⟩ (fun H locs ho2 S => ?_)
    refine lv_astore_n (lv' := [(3, .ref (ga g a2)), (0, .ref (ga g x0)), (1, .int x1), (2, .int x2)]) hx hb dX11_vibration_5 rfl hl (by decide) rfl (fun ls hl => ?_)
    refine lv_aload_n hx hb dX11_vibration_6 rfl (lv_at hl 1 rfl) ?_
    refine lv_iload_n hx hb dX11_vibration_7 rfl (lv_at hl 3 rfl) ?_
    rcases bdX_el h with ⟨a4, σ4, hc4, h⟩ | ⟨q4, σ4, hc4, hr4⟩
    · refine x_callXR C S KX11 hx0 (ok_X11_neighbourAt (L := L) hc4 hSh hx0) ⟨cd_X11_neighbourAt, ni_RX11, ml_RX11_156, in_X11_neighbourAt, sl_X11_neighbourAt⟩ ⟨by decide, by decide⟩ rfl (rm_ok (by decide) (by decide)) hl.1 rfl (Nat.le_of_ble_eq_true rfl) ⟨by decide, by decide⟩ dX11_vibration_8 hT ⟨by decide, by decide⟩ (fun H locs ho4 S => ?_)
      refine lv_pop hx hb dX11_vibration_11 rfl ?_
      refine lv_aload_n hx hb dX11_vibration_12 rfl (lv_at hl 0 rfl) ?_
      refine lv_iload_n hx hb dX11_vibration_13 rfl (lv_at hl 3 rfl) ?_
      refine lv_aload_n hx hb dX11_vibration_14 rfl (lv_at hl 0 rfl) ?_
      refine x_getI C S KX0 ho2 8 (by decide) rfl rfl fl_RX11_150 dX11_vibration_15 ?_
      obtain ⟨a5, σ5, hc5, h⟩ := bd_el h
      refine x_callVI C S KX0 ho2 (ok_X0_shakes (L := L) hc5 hSh ho2) ⟨cd_X0_shakes, ni_RX0, ml_RX11_160, in_X0_shakes, sl_X0_shakes⟩ ⟨by decide, by decide⟩ rfl (rm_ok (by decide) (by decide)) hl.1 rfl (Nat.le_of_ble_eq_true rfl) ⟨by decide, by decide⟩ dX11_vibration_18 (fun H locs S => ?_)
      exact x_iretX C S hr (by decide) (by decide) h dX11_vibration_21
    · exact x_callXX C S KX11 hx0 (ok_X11_neighbourAt (L := L) hc4 hSh hx0) n_PRX ⟨cd_X11_neighbourAt, ni_RX11, ml_RX11_156, in_X11_neighbourAt, sl_X11_neighbourAt⟩ ⟨by decide, by decide⟩ rfl (rm_ok (by decide) (by decide)) hl.1 rfl (Nat.le_of_ble_eq_true rfl) ⟨by decide, by decide⟩ dX11_vibration_8 hT ⟨by decide, by decide⟩ hr4
  · exact x_callXX C S KX11 hx0 (ok_X11_blastAt (L := L) hc2 hSh hx0) n_PRX ⟨cd_X11_blastAt, ni_RX11, ml_RX11_125, in_X11_blastAt, sl_X11_blastAt⟩ ⟨by decide, by decide⟩ rfl (rm_ok (by decide) (by decide)) hl.1 rfl (Nat.le_of_ble_eq_true rfl) ⟨by decide, by decide⟩ dX11_vibration_2 hT ⟨by decide, by decide⟩ hr2
theorem dX11_closes_0 : decode cX11_closes 0 = .ok (.aload_n 0, 1) := by decide +kernel
theorem dX11_closes_1 : decode cX11_closes 1 = .ok (.iload_n 1, 1) := by decide +kernel
theorem dX11_closes_2 : decode cX11_closes 2 = .ok (.invokevirtual 125, 3) := by decide +kernel
theorem dX11_closes_5 : decode cX11_closes 5 = .ok (.astore_n 3, 1) := by decide +kernel
theorem dX11_closes_6 : decode cX11_closes 6 = .ok (.aload_n 0, 1) := by decide +kernel
theorem dX11_closes_7 : decode cX11_closes 7 = .ok (.iload_n 2, 1) := by decide +kernel
theorem dX11_closes_8 : decode cX11_closes 8 = .ok (.invokevirtual 180, 3) := by decide +kernel
theorem dX11_closes_11 : decode cX11_closes 11 = .ok (.pop, 1) := by decide +kernel
theorem dX11_closes_12 : decode cX11_closes 12 = .ok (.aload_n 3, 1) := by decide +kernel
theorem dX11_closes_13 : decode cX11_closes 13 = .ok (.iload_n 2, 1) := by decide +kernel
theorem dX11_closes_14 : decode cX11_closes 14 = .ok (.invokevirtual 184, 3) := by decide +kernel
theorem dX11_closes_17 : decode cX11_closes 17 = .ok (.ireturn, 1) := by decide +kernel
def f_X11_closes (N : Nat) (R : Nat → Nat → Nat) (σ : SI) (x0 : Nat) (x1 : Int32) (x2 : Int32) : Option ((Int32 ⊕ Nat) × SI) := bdX (f_X11_blastAt N R σ x0 x1) (fun a2 σ2 => bdX (f_X11_roadAt N R σ2 x0 x2) (fun a4 σ4 => bd (f_X0_closesRoad N R σ4 a2 x2) (fun a5 σ5 => cb a5 (some (.inl a5, σ5)))))
set_option maxHeartbeats 4000000 in
set_option maxRecDepth 100000 in
theorem ok_X11_closes {l : Launch} {g : GL} {R : Nat → Nat → Nat} {L : Nat → Nat → Int64} {N : Nat} {σ : SI} {x0 : Nat} {x1 : Int32} {x2 : Int32} {r : ((Int32 ⊕ Nat) × SI)} (h : f_X11_closes N R σ x0 x1 x2 = some r) (hSh : ShR R) (hx0 : Ok 202 x0 11) : CtX l g 8 yX11_closes cX11_closes 4 (some .boolean) 202 202 2 12 [.ref (ga g x0), .int x1, .int x2] (mkS σ R L) (PIX R L r) (PX R L r) := by
  refine vx_ofW (cc := cX11_closes) (maxL := 4) (ret := (some .boolean)) (by decide) rfl ?_
  intro p e s m args below meth c s₁ B hml hT hv
  obtain ⟨rfl, hE, hLo, hWd⟩ := hv
  have hr : meth.sig.returnType = (some .boolean) := B.returns
  have C : Cx l g p s m meth c cX11_closes 4 RX11 := ⟨B.exec, B.bytes, hml, findClass_of_methodNamed B.named, hE, hLo, B.notSynchronized⟩
  have S : S2 g s σ R L s.heap [] := ⟨hWd, va_S.rf⟩
  have hx := C.1
  have hb := C.2.1
  have hl := lv_entry ([.ref (ga g x0), .int x1, .int x2]) (n := 4) (Nat.le_of_ble_eq_true rfl)
  rw [lg_entry_eq]
  generalize (lg_sl ([.ref (ga g x0), .int x1, .int x2]) ++ List.replicate (4 - (lg_sl ([.ref (ga g x0), .int x1, .int x2])).length) Slot.unset).toArray = ls at hl ⊢
  have hl : lv_has ls 4 [(0, .ref (ga g x0)), (1, .int x1), (2, .int x2)] := hl
  generalize hH : s.heap = H at S ⊢
  generalize hlc : ([] : List Loc) = locs at S ⊢
  rw [f_X11_closes] at h
  refine lv_aload_n hx hb dX11_closes_0 rfl (lv_at hl 0 rfl) ?_
  refine lv_iload_n hx hb dX11_closes_1 rfl (lv_at hl 1 rfl) ?_
  rcases bdX_el h with ⟨a2, σ2, hc2, h⟩ | ⟨q2, σ2, hc2, hr2⟩
  · refine x_callXR C S KX11 hx0 (ok_X11_blastAt (L := L) hc2 hSh hx0) ⟨cd_X11_blastAt, ni_RX11, ml_RX11_125, in_X11_blastAt, sl_X11_blastAt⟩ ⟨by decide, by decide⟩ rfl (rm_ok (by decide) (by decide)) hl.1 rfl (Nat.le_of_ble_eq_true rfl) ⟨by decide, by decide⟩ dX11_closes_2 hT ⟨by decide, by decide⟩ (fun H locs ho2 S => ?_)
    refine lv_astore_n (lv' := [(3, .ref (ga g a2)), (0, .ref (ga g x0)), (1, .int x1), (2, .int x2)]) hx hb dX11_closes_5 rfl hl (by decide) rfl (fun ls hl => ?_)
    refine lv_aload_n hx hb dX11_closes_6 rfl (lv_at hl 1 rfl) ?_
    refine lv_iload_n hx hb dX11_closes_7 rfl (lv_at hl 3 rfl) ?_
    rcases bdX_el h with ⟨a4, σ4, hc4, h⟩ | ⟨q4, σ4, hc4, hr4⟩
    · refine x_callXR C S KX11 hx0 (ok_X11_roadAt (L := L) hc4 hSh hx0) ⟨cd_X11_roadAt, ni_RX11, ml_RX11_180, in_X11_roadAt, sl_X11_roadAt⟩ ⟨by decide, by decide⟩ rfl (rm_ok (by decide) (by decide)) hl.1 rfl (Nat.le_of_ble_eq_true rfl) ⟨by decide, by decide⟩ dX11_closes_8 hT ⟨by decide, by decide⟩ (fun H locs ho4 S => ?_)
      refine lv_pop hx hb dX11_closes_11 rfl ?_
      refine lv_aload_n hx hb dX11_closes_12 rfl (lv_at hl 0 rfl) ?_
      refine lv_iload_n hx hb dX11_closes_13 rfl (lv_at hl 3 rfl) ?_
      obtain ⟨a5, σ5, hc5, h⟩ := bd_el h
      refine x_callVI C S KX0 ho2 (ok_X0_closesRoad (L := L) hc5 hSh ho2) ⟨cd_X0_closesRoad, ni_RX0, ml_RX11_184, in_X0_closesRoad, sl_X0_closesRoad⟩ ⟨by decide, by decide⟩ rfl (rm_ok (by decide) (by decide)) hl.1 rfl (Nat.le_of_ble_eq_true rfl) ⟨by decide, by decide⟩ dX11_closes_14 (fun H locs S => ?_)
      obtain ⟨hb6, h⟩ := cb_el h
      exact x_zretX C S hr (by decide) (by decide) hb6 h dX11_closes_17
    · exact x_callXX C S KX11 hx0 (ok_X11_roadAt (L := L) hc4 hSh hx0) n_PRX ⟨cd_X11_roadAt, ni_RX11, ml_RX11_180, in_X11_roadAt, sl_X11_roadAt⟩ ⟨by decide, by decide⟩ rfl (rm_ok (by decide) (by decide)) hl.1 rfl (Nat.le_of_ble_eq_true rfl) ⟨by decide, by decide⟩ dX11_closes_8 hT ⟨by decide, by decide⟩ hr4
  · exact x_callXX C S KX11 hx0 (ok_X11_blastAt (L := L) hc2 hSh hx0) n_PRX ⟨cd_X11_blastAt, ni_RX11, ml_RX11_125, in_X11_blastAt, sl_X11_blastAt⟩ ⟨by decide, by decide⟩ rfl (rm_ok (by decide) (by decide)) hl.1 rfl (Nat.le_of_ble_eq_true rfl) ⟨by decide, by decide⟩ dX11_closes_2 hT ⟨by decide, by decide⟩ hr2
theorem dX11_isQuiet_0 : decode cX11_isQuiet 0 = .ok (.aload_n 0, 1) := by decide +kernel
theorem dX11_isQuiet_1 : decode cX11_isQuiet 1 = .ok (.iload_n 1, 1) := by decide +kernel
theorem dX11_isQuiet_2 : decode cX11_isQuiet 2 = .ok (.invokevirtual 156, 3) := by decide +kernel
theorem dX11_isQuiet_5 : decode cX11_isQuiet 5 = .ok (.iload_n 2, 1) := by decide +kernel
theorem dX11_isQuiet_6 : decode cX11_isQuiet 6 = .ok (.invokevirtual 190, 3) := by decide +kernel
theorem dX11_isQuiet_9 : decode cX11_isQuiet 9 = .ok (.ireturn, 1) := by decide +kernel
def f_X11_isQuiet (N : Nat) (R : Nat → Nat → Nat) (σ : SI) (x0 : Nat) (x1 : Int32) (x2 : Int32) : Option ((Int32 ⊕ Nat) × SI) := bdX (f_X11_neighbourAt N R σ x0 x1) (fun a2 σ2 => bd (f_X4_quietAt N R σ2 a2 x2) (fun a3 σ3 => cb a3 (some (.inl a3, σ3))))
set_option maxHeartbeats 4000000 in
set_option maxRecDepth 100000 in
theorem ok_X11_isQuiet {l : Launch} {g : GL} {R : Nat → Nat → Nat} {L : Nat → Nat → Int64} {N : Nat} {σ : SI} {x0 : Nat} {x1 : Int32} {x2 : Int32} {r : ((Int32 ⊕ Nat) × SI)} (h : f_X11_isQuiet N R σ x0 x1 x2 = some r) (hSh : ShR R) (hx0 : Ok 202 x0 11) : CtX l g 7 yX11_isQuiet cX11_isQuiet 3 (some .boolean) 202 202 1 6 [.ref (ga g x0), .int x1, .int x2] (mkS σ R L) (PIX R L r) (PX R L r) := by
  refine vx_ofW (cc := cX11_isQuiet) (maxL := 3) (ret := (some .boolean)) (by decide) rfl ?_
  intro p e s m args below meth c s₁ B hml hT hv
  obtain ⟨rfl, hE, hLo, hWd⟩ := hv
  have hr : meth.sig.returnType = (some .boolean) := B.returns
  have C : Cx l g p s m meth c cX11_isQuiet 3 RX11 := ⟨B.exec, B.bytes, hml, findClass_of_methodNamed B.named, hE, hLo, B.notSynchronized⟩
  have S : S2 g s σ R L s.heap [] := ⟨hWd, va_S.rf⟩
  have hx := C.1
  have hb := C.2.1
  have hl := lv_entry ([.ref (ga g x0), .int x1, .int x2]) (n := 3) (Nat.le_of_ble_eq_true rfl)
  rw [lg_entry_eq]
  generalize (lg_sl ([.ref (ga g x0), .int x1, .int x2]) ++ List.replicate (3 - (lg_sl ([.ref (ga g x0), .int x1, .int x2])).length) Slot.unset).toArray = ls at hl ⊢
  have hl : lv_has ls 3 [(0, .ref (ga g x0)), (1, .int x1), (2, .int x2)] := hl
  generalize hH : s.heap = H at S ⊢
  generalize hlc : ([] : List Loc) = locs at S ⊢
  rw [f_X11_isQuiet] at h
  refine lv_aload_n hx hb dX11_isQuiet_0 rfl (lv_at hl 0 rfl) ?_
  refine lv_iload_n hx hb dX11_isQuiet_1 rfl (lv_at hl 1 rfl) ?_
  rcases bdX_el h with ⟨a2, σ2, hc2, h⟩ | ⟨q2, σ2, hc2, hr2⟩
  · refine x_callXR C S KX11 hx0 (ok_X11_neighbourAt (L := L) hc2 hSh hx0) ⟨cd_X11_neighbourAt, ni_RX11, ml_RX11_156, in_X11_neighbourAt, sl_X11_neighbourAt⟩ ⟨by decide, by decide⟩ rfl (rm_ok (by decide) (by decide)) hl.1 rfl (Nat.le_of_ble_eq_true rfl) ⟨by decide, by decide⟩ dX11_isQuiet_2 hT ⟨by decide, by decide⟩ (fun H locs ho2 S => ?_)
    refine lv_iload_n hx hb dX11_isQuiet_5 rfl (lv_at hl 2 rfl) ?_
    obtain ⟨a3, σ3, hc3, h⟩ := bd_el h
    refine x_callVI C S KX4 ho2 (ok_X4_quietAt (L := L) hc3 hSh ho2) ⟨cd_X4_quietAt, ni_RX4, ml_RX11_190, in_X4_quietAt, sl_X4_quietAt⟩ ⟨by decide, by decide⟩ rfl (rm_ok (by decide) (by decide)) hl.1 rfl (Nat.le_of_ble_eq_true rfl) ⟨by decide, by decide⟩ dX11_isQuiet_6 (fun H locs S => ?_)
    obtain ⟨hb4, h⟩ := cb_el h
    exact x_zretX C S hr (by decide) (by decide) hb4 h dX11_isQuiet_9
  · exact x_callXX C S KX11 hx0 (ok_X11_neighbourAt (L := L) hc2 hSh hx0) n_PRX ⟨cd_X11_neighbourAt, ni_RX11, ml_RX11_156, in_X11_neighbourAt, sl_X11_neighbourAt⟩ ⟨by decide, by decide⟩ rfl (rm_ok (by decide) (by decide)) hl.1 rfl (Nat.le_of_ble_eq_true rfl) ⟨by decide, by decide⟩ dX11_isQuiet_2 hT ⟨by decide, by decide⟩ hr2
theorem dX11_dustAt_0 : decode cX11_dustAt 0 = .ok (.aload_n 0, 1) := by decide +kernel
theorem dX11_dustAt_1 : decode cX11_dustAt 1 = .ok (.iload_n 1, 1) := by decide +kernel
theorem dX11_dustAt_2 : decode cX11_dustAt 2 = .ok (.invokevirtual 125, 3) := by decide +kernel
theorem dX11_dustAt_5 : decode cX11_dustAt 5 = .ok (.astore_n 3, 1) := by decide +kernel
theorem dX11_dustAt_6 : decode cX11_dustAt 6 = .ok (.aload_n 0, 1) := by decide +kernel
theorem dX11_dustAt_7 : decode cX11_dustAt 7 = .ok (.iload_n 2, 1) := by decide +kernel
theorem dX11_dustAt_8 : decode cX11_dustAt 8 = .ok (.iconst 0, 1) := by decide +kernel
theorem dX11_dustAt_9 : decode cX11_dustAt 9 = .ok (.bipush 23, 2) := by decide +kernel
theorem dX11_dustAt_11 : decode cX11_dustAt 11 = .ok (.invokevirtual 176, 3) := by decide +kernel
theorem dX11_dustAt_14 : decode cX11_dustAt 14 = .ok (.aload_n 3, 1) := by decide +kernel
theorem dX11_dustAt_15 : decode cX11_dustAt 15 = .ok (.getfield 193, 3) := by decide +kernel
theorem dX11_dustAt_18 : decode cX11_dustAt 18 = .ok (.iload_n 2, 1) := by decide +kernel
theorem dX11_dustAt_19 : decode cX11_dustAt 19 = .ok (.iaload, 1) := by decide +kernel
theorem dX11_dustAt_20 : decode cX11_dustAt 20 = .ok (.ireturn, 1) := by decide +kernel
def f_X11_dustAt (N : Nat) (R : Nat → Nat → Nat) (σ : SI) (x0 : Nat) (x1 : Int32) (x2 : Int32) : Option ((Int32 ⊕ Nat) × SI) := bdX (f_X11_blastAt N R σ x0 x1) (fun a2 σ2 => bdX (f_X11_needRange N R σ2 x0 x2 (0 : Int32) (23 : Int32)) (fun _ σ4 => ck x2 24 (some (.inl (σ4 (R a2 3) x2.toNatClampNeg), σ4))))
set_option maxHeartbeats 4000000 in
set_option maxRecDepth 100000 in
theorem ok_X11_dustAt {l : Launch} {g : GL} {R : Nat → Nat → Nat} {L : Nat → Nat → Int64} {N : Nat} {σ : SI} {x0 : Nat} {x1 : Int32} {x2 : Int32} {r : ((Int32 ⊕ Nat) × SI)} (h : f_X11_dustAt N R σ x0 x1 x2 = some r) (hSh : ShR R) (hx0 : Ok 202 x0 11) : CtX l g 8 yX11_dustAt cX11_dustAt 4 (some .int) 202 202 2 12 [.ref (ga g x0), .int x1, .int x2] (mkS σ R L) (PIX R L r) (PX R L r) := by
  refine vx_ofW (cc := cX11_dustAt) (maxL := 4) (ret := (some .int)) (by decide) rfl ?_
  intro p e s m args below meth c s₁ B hml hT hv
  obtain ⟨rfl, hE, hLo, hWd⟩ := hv
  have hr : meth.sig.returnType = (some .int) := B.returns
  have C : Cx l g p s m meth c cX11_dustAt 4 RX11 := ⟨B.exec, B.bytes, hml, findClass_of_methodNamed B.named, hE, hLo, B.notSynchronized⟩
  have S : S2 g s σ R L s.heap [] := ⟨hWd, va_S.rf⟩
  have hx := C.1
  have hb := C.2.1
  have hl := lv_entry ([.ref (ga g x0), .int x1, .int x2]) (n := 4) (Nat.le_of_ble_eq_true rfl)
  rw [lg_entry_eq]
  generalize (lg_sl ([.ref (ga g x0), .int x1, .int x2]) ++ List.replicate (4 - (lg_sl ([.ref (ga g x0), .int x1, .int x2])).length) Slot.unset).toArray = ls at hl ⊢
  have hl : lv_has ls 4 [(0, .ref (ga g x0)), (1, .int x1), (2, .int x2)] := hl
  generalize hH : s.heap = H at S ⊢
  generalize hlc : ([] : List Loc) = locs at S ⊢
  rw [f_X11_dustAt] at h
  refine lv_aload_n hx hb dX11_dustAt_0 rfl (lv_at hl 0 rfl) ?_
  refine lv_iload_n hx hb dX11_dustAt_1 rfl (lv_at hl 1 rfl) ?_
  rcases bdX_el h with ⟨a2, σ2, hc2, h⟩ | ⟨q2, σ2, hc2, hr2⟩
  · refine x_callXR C S KX11 hx0 (ok_X11_blastAt (L := L) hc2 hSh hx0) ⟨cd_X11_blastAt, ni_RX11, ml_RX11_125, in_X11_blastAt, sl_X11_blastAt⟩ ⟨by decide, by decide⟩ rfl (rm_ok (by decide) (by decide)) hl.1 rfl (Nat.le_of_ble_eq_true rfl) ⟨by decide, by decide⟩ dX11_dustAt_2 hT ⟨by decide, by decide⟩ (fun H locs ho2 S => ?_)
    refine lv_astore_n (lv' := [(3, .ref (ga g a2)), (0, .ref (ga g x0)), (1, .int x1), (2, .int x2)]) hx hb dX11_dustAt_5 rfl hl (by decide) rfl (fun ls hl => ?_)
    refine lv_aload_n hx hb dX11_dustAt_6 rfl (lv_at hl 1 rfl) ?_
    refine lv_iload_n hx hb dX11_dustAt_7 rfl (lv_at hl 3 rfl) ?_
    refine lv_iconst (v := (0 : Int32)) hx hb dX11_dustAt_8 (by decide) ?_
    refine lv_bipush (v := (23 : Int32)) hx hb dX11_dustAt_9 (by decide) ?_
    rcases bdX_el h with ⟨a4, σ4, hc4, h⟩ | ⟨q4, σ4, hc4, hr4⟩
    · refine x_callXV C S KX11 hx0 (ok_X11_needRange (L := L) hc4 hSh hx0) ⟨cd_X11_needRange, ni_RX11, ml_RX11_176, in_X11_needRange, sl_X11_needRange⟩ ⟨by decide, by decide⟩ rfl (rm_ok (by decide) (by decide)) hl.1 rfl (Nat.le_of_ble_eq_true rfl) ⟨by decide, by decide⟩ dX11_dustAt_11 hT ⟨by decide, by decide⟩ (fun H locs S => ?_)
      refine lv_aload_n hx hb dX11_dustAt_14 rfl (lv_at hl 0 rfl) ?_
      have hR5 : Ok 202 (R a2 3) 10024 := hSh a2 0 3 10024 ho2.1 rfl
      refine x_getR C S KX0 ho2 3 (by decide) rfl rfl fl_RX11_193 hR5 dX11_dustAt_15 ?_
      refine lv_iload_n hx hb dX11_dustAt_18 rfl (lv_at hl 3 rfl) ?_
      obtain ⟨hi6, h⟩ := ck_el h
      refine x_iald (len := 24) C S (by decide) hR5 hi6 dX11_dustAt_19 ?_
      exact x_iretX C S hr (by decide) (by decide) h dX11_dustAt_20
    · exact x_callXX C S KX11 hx0 (ok_X11_needRange (L := L) hc4 hSh hx0) n_PVX ⟨cd_X11_needRange, ni_RX11, ml_RX11_176, in_X11_needRange, sl_X11_needRange⟩ ⟨by decide, by decide⟩ rfl (rm_ok (by decide) (by decide)) hl.1 rfl (Nat.le_of_ble_eq_true rfl) ⟨by decide, by decide⟩ dX11_dustAt_11 hT ⟨by decide, by decide⟩ hr4
  · exact x_callXX C S KX11 hx0 (ok_X11_blastAt (L := L) hc2 hSh hx0) n_PRX ⟨cd_X11_blastAt, ni_RX11, ml_RX11_125, in_X11_blastAt, sl_X11_blastAt⟩ ⟨by decide, by decide⟩ rfl (rm_ok (by decide) (by decide)) hl.1 rfl (Nat.le_of_ble_eq_true rfl) ⟨by decide, by decide⟩ dX11_dustAt_2 hT ⟨by decide, by decide⟩ hr2
theorem dX11_neededRadius_0 : decode cX11_neededRadius 0 = .ok (.aload_n 0, 1) := by decide +kernel
theorem dX11_neededRadius_1 : decode cX11_neededRadius 1 = .ok (.iload_n 1, 1) := by decide +kernel
theorem dX11_neededRadius_2 : decode cX11_neededRadius 2 = .ok (.invokevirtual 125, 3) := by decide +kernel
theorem dX11_neededRadius_5 : decode cX11_neededRadius 5 = .ok (.astore_n 3, 1) := by decide +kernel
theorem dX11_neededRadius_6 : decode cX11_neededRadius 6 = .ok (.aload_n 0, 1) := by decide +kernel
theorem dX11_neededRadius_7 : decode cX11_neededRadius 7 = .ok (.iload_n 2, 1) := by decide +kernel
theorem dX11_neededRadius_8 : decode cX11_neededRadius 8 = .ok (.invokevirtual 180, 3) := by decide +kernel
theorem dX11_neededRadius_11 : decode cX11_neededRadius 11 = .ok (.astore 4, 2) := by decide +kernel
theorem dX11_neededRadius_13 : decode cX11_neededRadius 13 = .ok (.iconst 0, 1) := by decide +kernel
theorem dX11_neededRadius_14 : decode cX11_neededRadius 14 = .ok (.istore 5, 2) := by decide +kernel
theorem dX11_neededRadius_16 : decode cX11_neededRadius 16 = .ok (.sipush 1500, 3) := by decide +kernel
theorem dX11_neededRadius_19 : decode cX11_neededRadius 19 = .ok (.istore 6, 2) := by decide +kernel
theorem dX11_neededRadius_21 : decode cX11_neededRadius 21 = .ok (.iconst 0, 1) := by decide +kernel
theorem dX11_neededRadius_22 : decode cX11_neededRadius 22 = .ok (.istore 7, 2) := by decide +kernel
theorem dX11_neededRadius_24 : decode cX11_neededRadius 24 = .ok (.iload 7, 2) := by decide +kernel
theorem dX11_neededRadius_26 : decode cX11_neededRadius 26 = .ok (.bipush 16, 2) := by decide +kernel
theorem dX11_neededRadius_28 : decode cX11_neededRadius 28 = .ok (.if_icmp .ge 56, 3) := by decide +kernel
theorem dX11_neededRadius_31 : decode cX11_neededRadius 31 = .ok (.iload 5, 2) := by decide +kernel
theorem dX11_neededRadius_33 : decode cX11_neededRadius 33 = .ok (.iload 6, 2) := by decide +kernel
theorem dX11_neededRadius_35 : decode cX11_neededRadius 35 = .ok (.if_icmp .ge 49, 3) := by decide +kernel
theorem dX11_neededRadius_38 : decode cX11_neededRadius 38 = .ok (.iload 5, 2) := by decide +kernel
theorem dX11_neededRadius_40 : decode cX11_neededRadius 40 = .ok (.iload 6, 2) := by decide +kernel
theorem dX11_neededRadius_42 : decode cX11_neededRadius 42 = .ok (.iadd, 1) := by decide +kernel
theorem dX11_neededRadius_43 : decode cX11_neededRadius 43 = .ok (.iconst 2, 1) := by decide +kernel
theorem dX11_neededRadius_44 : decode cX11_neededRadius 44 = .ok (.idiv, 1) := by decide +kernel
theorem dX11_neededRadius_45 : decode cX11_neededRadius 45 = .ok (.istore 8, 2) := by decide +kernel
theorem dX11_neededRadius_47 : decode cX11_neededRadius 47 = .ok (.aload 4, 2) := by decide +kernel
theorem dX11_neededRadius_49 : decode cX11_neededRadius 49 = .ok (.aload_n 3, 1) := by decide +kernel
theorem dX11_neededRadius_50 : decode cX11_neededRadius 50 = .ok (.getfield 196, 3) := by decide +kernel
theorem dX11_neededRadius_53 : decode cX11_neededRadius 53 = .ok (.aload_n 3, 1) := by decide +kernel
theorem dX11_neededRadius_54 : decode cX11_neededRadius 54 = .ok (.getfield 199, 3) := by decide +kernel
theorem dX11_neededRadius_57 : decode cX11_neededRadius 57 = .ok (.iload 8, 2) := by decide +kernel
theorem dX11_neededRadius_59 : decode cX11_neededRadius 59 = .ok (.invokevirtual 202, 3) := by decide +kernel
theorem dX11_neededRadius_62 : decode cX11_neededRadius 62 = .ok (.ifCond .eq 10, 3) := by decide +kernel
theorem dX11_neededRadius_65 : decode cX11_neededRadius 65 = .ok (.iload 8, 2) := by decide +kernel
theorem dX11_neededRadius_67 : decode cX11_neededRadius 67 = .ok (.istore 6, 2) := by decide +kernel
theorem dX11_neededRadius_69 : decode cX11_neededRadius 69 = .ok (.goto 9, 3) := by decide +kernel
theorem dX11_neededRadius_72 : decode cX11_neededRadius 72 = .ok (.iload 8, 2) := by decide +kernel
theorem dX11_neededRadius_74 : decode cX11_neededRadius 74 = .ok (.iconst 1, 1) := by decide +kernel
theorem dX11_neededRadius_75 : decode cX11_neededRadius 75 = .ok (.iadd, 1) := by decide +kernel
theorem dX11_neededRadius_76 : decode cX11_neededRadius 76 = .ok (.istore 5, 2) := by decide +kernel
theorem dX11_neededRadius_78 : decode cX11_neededRadius 78 = .ok (.iinc 7 1, 3) := by decide +kernel
theorem dX11_neededRadius_81 : decode cX11_neededRadius 81 = .ok (.goto (-57), 3) := by decide +kernel
theorem dX11_neededRadius_84 : decode cX11_neededRadius 84 = .ok (.iload 5, 2) := by decide +kernel
theorem dX11_neededRadius_86 : decode cX11_neededRadius 86 = .ok (.ireturn, 1) := by decide +kernel
def f_X11_neededRadius_78 (N : Nat) (R : Nat → Nat → Nat) (k24 : SI → Nat → Nat → Int32 → Int32 → Int32 → Option ((Int32 ⊕ Nat) × SI)) (σ : SI) (x3 : Nat) (x4 : Nat) (x5 : Int32) (x6 : Int32) (x7 : Int32) : Option ((Int32 ⊕ Nat) × SI) := k24 σ x3 x4 x5 x6 (x7 + 1)
def f_X11_neededRadius_24 (N : Nat) (R : Nat → Nat → Nat) : Nat → SI → Nat → Nat → Int32 → Int32 → Int32 → Option ((Int32 ⊕ Nat) × SI)
  | 0, _, _, _, _, _, _ => none
  | n + 1, σ, x3, x4, x5, x6, x7 => if (16 : Int32) ≤ x7 then (some (.inl x5, σ)) else (if x6 ≤ x5 then (some (.inl x5, σ)) else (bd (f_X7_comesWithin N R σ x4 (σ x3 4) (σ x3 5) ((x5 + x6) / (2 : Int32))) (fun a7 σ7 => if a7 = 0 then (f_X11_neededRadius_78 N R (fun σ x3 x4 x5 x6 x7 => f_X11_neededRadius_24 N R n σ x3 x4 x5 x6 x7) σ7 x3 x4 (((x5 + x6) / (2 : Int32)) + (1 : Int32)) x6 x7) else (f_X11_neededRadius_78 N R (fun σ x3 x4 x5 x6 x7 => f_X11_neededRadius_24 N R n σ x3 x4 x5 x6 x7) σ7 x3 x4 x5 ((x5 + x6) / (2 : Int32)) x7))))
def f_X11_neededRadius (N : Nat) (R : Nat → Nat → Nat) (σ : SI) (x0 : Nat) (x1 : Int32) (x2 : Int32) : Option ((Int32 ⊕ Nat) × SI) := bdX (f_X11_blastAt N R σ x0 x1) (fun a2 σ2 => bdX (f_X11_roadAt N R σ2 x0 x2) (fun a4 σ4 => f_X11_neededRadius_24 N R N σ4 a2 a4 (0 : Int32) (1500 : Int32) (0 : Int32)))
set_option maxHeartbeats 4000000 in
set_option maxRecDepth 100000 in
theorem w_X11_neededRadius_78 {l : Launch} {g : GL} {p : Program} {e : Jvm.Env} {s : State} {m : MethodId} {args : Array Value} {below : List Frame} {meth : Method} {c : Code} {R : Nat → Nat → Nat} {L : Nat → Nat → Int64} {r : ((Int32 ⊕ Nat) × SI)} {N : Nat} {k24 : SI → Nat → Nat → Int32 → Int32 → Int32 → Option ((Int32 ⊕ Nat) × SI)} (C : Cx l g p s m meth c cX11_neededRadius 9 RX11) (hr : meth.sig.returnType = (some .int)) (hT : ∀ x ∈ c.exceptionTable.toList, False) (hSh : ShR R) (hk24 : ∀ (σ : SI) (x3 : Nat) (x4 : Nat) (x5 : Int32) (x6 : Int32) (x7 : Int32), k24 σ x3 x4 x5 x6 x7 = some r → Ok 202 x3 0 → Ok 202 x4 7 → ∀ (H : Heap) (locs : List Loc) (ls : Array Slot), S2 g s σ R L H locs → lv_has ls 9 [(3, .ref (ga g x3)), (4, .ref (ga g x4)), (5, .int x5), (6, .int x6), (7, .int x7)] → W p l e (rmd 8 2 12) s m args below meth c H locs 2 (6 * 2) (vx_MQ below (Qg g 202 (PIX R L r)) (Xg g 202 (PX R L r)) args s 2 12 (gA g)) (F0 m 24 ls [])) : ∀ (σ : SI) (x3 : Nat) (x4 : Nat) (x5 : Int32) (x6 : Int32) (x7 : Int32), f_X11_neededRadius_78 N R k24 σ x3 x4 x5 x6 x7 = some r → Ok 202 x3 0 → Ok 202 x4 7 → ∀ (H : Heap) (locs : List Loc) (ls : Array Slot), S2 g s σ R L H locs → lv_has ls 9 [(3, .ref (ga g x3)), (4, .ref (ga g x4)), (5, .int x5), (6, .int x6), (7, .int x7)] → W p l e (rmd 8 2 12) s m args below meth c H locs 2 (6 * 2) (vx_MQ below (Qg g 202 (PIX R L r)) (Xg g 202 (PX R L r)) args s 2 12 (gA g)) (F0 m 78 ls []) := by
  have hx := C.1
  have hb := C.2.1
  intro σ x3 x4 x5 x6 x7 h hx3 hx4 H locs ls S hl
  rw [f_X11_neededRadius_78] at h
  refine lv_iinc (v := x7 + 1) (lv' := [(7, .int (x7 + 1)), (3, .ref (ga g x3)), (4, .ref (ga g x4)), (5, .int x5), (6, .int x6)]) hx hb dX11_neededRadius_78 hl (k := 4) rfl rfl (by decide) rfl (fun ls hl => ?_)
  refine lv_goto (tgt := 24) hx hb dX11_neededRadius_81 (by decide) ?_
  exact hk24 σ x3 x4 x5 x6 (x7 + 1) h hx3 hx4 H locs ls S (lv_sub hl [1, 2, 3, 4, 0] rfl)
set_option maxHeartbeats 4000000 in
set_option maxRecDepth 100000 in
theorem w_X11_neededRadius_24 {l : Launch} {g : GL} {p : Program} {e : Jvm.Env} {s : State} {m : MethodId} {args : Array Value} {below : List Frame} {meth : Method} {c : Code} {R : Nat → Nat → Nat} {L : Nat → Nat → Int64} {r : ((Int32 ⊕ Nat) × SI)} {N : Nat} (C : Cx l g p s m meth c cX11_neededRadius 9 RX11) (hr : meth.sig.returnType = (some .int)) (hT : ∀ x ∈ c.exceptionTable.toList, False) (hSh : ShR R) : ∀ (n : Nat) (σ : SI) (x3 : Nat) (x4 : Nat) (x5 : Int32) (x6 : Int32) (x7 : Int32), f_X11_neededRadius_24 N R n σ x3 x4 x5 x6 x7 = some r → Ok 202 x3 0 → Ok 202 x4 7 → ∀ (H : Heap) (locs : List Loc) (ls : Array Slot), S2 g s σ R L H locs → lv_has ls 9 [(3, .ref (ga g x3)), (4, .ref (ga g x4)), (5, .int x5), (6, .int x6), (7, .int x7)] → W p l e (rmd 8 2 12) s m args below meth c H locs 2 (6 * 2) (vx_MQ below (Qg g 202 (PIX R L r)) (Xg g 202 (PX R L r)) args s 2 12 (gA g)) (F0 m 24 ls []) := by
  have hx := C.1
  have hb := C.2.1
  intro n
  induction n with
  | zero =>
    intro σ x3 x4 x5 x6 x7 h
    cases (show (none : Option ((Int32 ⊕ Nat) × SI)) = some r from h)
  | succ n ih =>
    intro σ x3 x4 x5 x6 x7 h hx3 hx4 H locs ls S hl
    rw [f_X11_neededRadius_24] at h
    refine lv_iload hx hb dX11_neededRadius_24 (lv_at hl 4 rfl) ?_
    refine lv_bipush (v := (16 : Int32)) hx hb dX11_neededRadius_26 (by decide) ?_
    refine lv_icmp_ge (tgt := 84) hx hb dX11_neededRadius_28 (by decide) (fun c5 => ?_) (fun c5 => ?_)
    · have h := it_p c5 h
      refine lv_iload hx hb dX11_neededRadius_84 (lv_at hl 2 rfl) ?_
      exact x_iretX C S hr (by decide) (by decide) h dX11_neededRadius_86
    · have h := it_n c5 h
      refine lv_iload hx hb dX11_neededRadius_31 (lv_at hl 2 rfl) ?_
      refine lv_iload hx hb dX11_neededRadius_33 (lv_at hl 3 rfl) ?_
      refine lv_icmp_ge (tgt := 84) hx hb dX11_neededRadius_35 (by decide) (fun c6 => ?_) (fun c6 => ?_)
      · have h := it_p c6 h
        refine lv_iload hx hb dX11_neededRadius_84 (lv_at hl 2 rfl) ?_
        exact x_iretX C S hr (by decide) (by decide) h dX11_neededRadius_86
      · have h := it_n c6 h
        refine lv_iload hx hb dX11_neededRadius_38 (lv_at hl 2 rfl) ?_
        refine lv_iload hx hb dX11_neededRadius_40 (lv_at hl 3 rfl) ?_
        refine lv_iadd hx hb dX11_neededRadius_42 ?_
        refine lv_iconst (v := (2 : Int32)) hx hb dX11_neededRadius_43 (by decide) ?_
        refine lv_idiv hx hb dX11_neededRadius_44 (by decide) ?_
        refine lv_istore (lv' := [(8, .int ((x5 + x6) / (2 : Int32))), (3, .ref (ga g x3)), (4, .ref (ga g x4)), (5, .int x5), (6, .int x6), (7, .int x7)]) hx hb dX11_neededRadius_45 hl (by decide) rfl (fun ls hl => ?_)
        refine lv_aload hx hb dX11_neededRadius_47 (lv_at hl 2 rfl) ?_
        refine lv_aload_n hx hb dX11_neededRadius_49 rfl (lv_at hl 1 rfl) ?_
        refine x_getI C S KX0 hx3 4 (by decide) rfl rfl fl_RX11_196 dX11_neededRadius_50 ?_
        refine lv_aload_n hx hb dX11_neededRadius_53 rfl (lv_at hl 1 rfl) ?_
        refine x_getI C S KX0 hx3 5 (by decide) rfl rfl fl_RX11_199 dX11_neededRadius_54 ?_
        refine lv_iload hx hb dX11_neededRadius_57 (lv_at hl 0 rfl) ?_
        obtain ⟨a7, σ7, hc7, h⟩ := bd_el h
        refine x_callVI C S KX7 hx4 (ok_X7_comesWithin (L := L) hc7 hSh hx4) ⟨cd_X7_comesWithin, ni_RX7, ml_RX11_202, in_X7_comesWithin, sl_X7_comesWithin⟩ ⟨by decide, by decide⟩ rfl (rm_ok (by decide) (by decide)) hl.1 rfl (Nat.le_of_ble_eq_true rfl) ⟨by decide, by decide⟩ dX11_neededRadius_59 (fun H locs S => ?_)
        refine lv_if_eq (tgt := 72) hx hb dX11_neededRadius_62 (by decide) (fun c8 => ?_) (fun c8 => ?_)
        · have h := it_p c8 h
          refine lv_iload hx hb dX11_neededRadius_72 (lv_at hl 0 rfl) ?_
          refine lv_iconst (v := (1 : Int32)) hx hb dX11_neededRadius_74 (by decide) ?_
          refine lv_iadd hx hb dX11_neededRadius_75 ?_
          refine lv_istore (lv' := [(5, .int (((x5 + x6) / (2 : Int32)) + (1 : Int32))), (8, .int ((x5 + x6) / (2 : Int32))), (3, .ref (ga g x3)), (4, .ref (ga g x4)), (6, .int x6), (7, .int x7)]) hx hb dX11_neededRadius_76 hl (by decide) rfl (fun ls hl => ?_)
          exact w_X11_neededRadius_78 C hr hT hSh ih σ7 x3 x4 (((x5 + x6) / (2 : Int32)) + (1 : Int32)) x6 x7 h hx3 hx4 H locs ls S (lv_sub hl [2, 3, 0, 4, 5] rfl)
        · have h := it_n c8 h
          refine lv_iload hx hb dX11_neededRadius_65 (lv_at hl 0 rfl) ?_
          refine lv_istore (lv' := [(6, .int ((x5 + x6) / (2 : Int32))), (8, .int ((x5 + x6) / (2 : Int32))), (3, .ref (ga g x3)), (4, .ref (ga g x4)), (5, .int x5), (7, .int x7)]) hx hb dX11_neededRadius_67 hl (by decide) rfl (fun ls hl => ?_)
          refine lv_goto (tgt := 78) hx hb dX11_neededRadius_69 (by decide) ?_
          exact w_X11_neededRadius_78 C hr hT hSh ih σ7 x3 x4 x5 ((x5 + x6) / (2 : Int32)) x7 h hx3 hx4 H locs ls S (lv_sub hl [2, 3, 4, 0, 5] rfl)
set_option maxHeartbeats 4000000 in
set_option maxRecDepth 100000 in
theorem ok_X11_neededRadius {l : Launch} {g : GL} {R : Nat → Nat → Nat} {L : Nat → Nat → Int64} {N : Nat} {σ : SI} {x0 : Nat} {x1 : Int32} {x2 : Int32} {r : ((Int32 ⊕ Nat) × SI)} (h : f_X11_neededRadius N R σ x0 x1 x2 = some r) (hSh : ShR R) (hx0 : Ok 202 x0 11) : CtX l g 8 yX11_neededRadius cX11_neededRadius 9 (some .int) 202 202 2 12 [.ref (ga g x0), .int x1, .int x2] (mkS σ R L) (PIX R L r) (PX R L r) := by
  refine vx_ofW (cc := cX11_neededRadius) (maxL := 9) (ret := (some .int)) (by decide) rfl ?_
  intro p e s m args below meth c s₁ B hml hT hv
  obtain ⟨rfl, hE, hLo, hWd⟩ := hv
  have hr : meth.sig.returnType = (some .int) := B.returns
  have C : Cx l g p s m meth c cX11_neededRadius 9 RX11 := ⟨B.exec, B.bytes, hml, findClass_of_methodNamed B.named, hE, hLo, B.notSynchronized⟩
  have S : S2 g s σ R L s.heap [] := ⟨hWd, va_S.rf⟩
  have hx := C.1
  have hb := C.2.1
  have hl := lv_entry ([.ref (ga g x0), .int x1, .int x2]) (n := 9) (Nat.le_of_ble_eq_true rfl)
  rw [lg_entry_eq]
  generalize (lg_sl ([.ref (ga g x0), .int x1, .int x2]) ++ List.replicate (9 - (lg_sl ([.ref (ga g x0), .int x1, .int x2])).length) Slot.unset).toArray = ls at hl ⊢
  have hl : lv_has ls 9 [(0, .ref (ga g x0)), (1, .int x1), (2, .int x2)] := hl
  generalize hH : s.heap = H at S ⊢
  generalize hlc : ([] : List Loc) = locs at S ⊢
  rw [f_X11_neededRadius] at h
  refine lv_aload_n hx hb dX11_neededRadius_0 rfl (lv_at hl 0 rfl) ?_
  refine lv_iload_n hx hb dX11_neededRadius_1 rfl (lv_at hl 1 rfl) ?_
  rcases bdX_el h with ⟨a2, σ2, hc2, h⟩ | ⟨q2, σ2, hc2, hr2⟩
  · refine x_callXR C S KX11 hx0 (ok_X11_blastAt (L := L) hc2 hSh hx0) ⟨cd_X11_blastAt, ni_RX11, ml_RX11_125, in_X11_blastAt, sl_X11_blastAt⟩ ⟨by decide, by decide⟩ rfl (rm_ok (by decide) (by decide)) hl.1 rfl (Nat.le_of_ble_eq_true rfl) ⟨by decide, by decide⟩ dX11_neededRadius_2 hT ⟨by decide, by decide⟩ (fun H locs ho2 S => ?_)
    refine lv_astore_n (lv' := [(3, .ref (ga g a2)), (0, .ref (ga g x0)), (1, .int x1), (2, .int x2)]) hx hb dX11_neededRadius_5 rfl hl (by decide) rfl (fun ls hl => ?_)
    refine lv_aload_n hx hb dX11_neededRadius_6 rfl (lv_at hl 1 rfl) ?_
    refine lv_iload_n hx hb dX11_neededRadius_7 rfl (lv_at hl 3 rfl) ?_
    rcases bdX_el h with ⟨a4, σ4, hc4, h⟩ | ⟨q4, σ4, hc4, hr4⟩
    · refine x_callXR C S KX11 hx0 (ok_X11_roadAt (L := L) hc4 hSh hx0) ⟨cd_X11_roadAt, ni_RX11, ml_RX11_180, in_X11_roadAt, sl_X11_roadAt⟩ ⟨by decide, by decide⟩ rfl (rm_ok (by decide) (by decide)) hl.1 rfl (Nat.le_of_ble_eq_true rfl) ⟨by decide, by decide⟩ dX11_neededRadius_8 hT ⟨by decide, by decide⟩ (fun H locs ho4 S => ?_)
      refine lv_astore (lv' := [(4, .ref (ga g a4)), (3, .ref (ga g a2)), (0, .ref (ga g x0)), (1, .int x1), (2, .int x2)]) hx hb dX11_neededRadius_11 hl (by decide) rfl (fun ls hl => ?_)
      refine lv_iconst (v := (0 : Int32)) hx hb dX11_neededRadius_13 (by decide) ?_
      refine lv_istore (lv' := [(5, .int (0 : Int32)), (4, .ref (ga g a4)), (3, .ref (ga g a2)), (0, .ref (ga g x0)), (1, .int x1), (2, .int x2)]) hx hb dX11_neededRadius_14 hl (by decide) rfl (fun ls hl => ?_)
      refine lv_sipush (v := (1500 : Int32)) hx hb dX11_neededRadius_16 (by decide) ?_
      refine lv_istore (lv' := [(6, .int (1500 : Int32)), (5, .int (0 : Int32)), (4, .ref (ga g a4)), (3, .ref (ga g a2)), (0, .ref (ga g x0)), (1, .int x1), (2, .int x2)]) hx hb dX11_neededRadius_19 hl (by decide) rfl (fun ls hl => ?_)
      refine lv_iconst (v := (0 : Int32)) hx hb dX11_neededRadius_21 (by decide) ?_
      refine lv_istore (lv' := [(7, .int (0 : Int32)), (6, .int (1500 : Int32)), (5, .int (0 : Int32)), (4, .ref (ga g a4)), (3, .ref (ga g a2)), (0, .ref (ga g x0)), (1, .int x1), (2, .int x2)]) hx hb dX11_neededRadius_22 hl (by decide) rfl (fun ls hl => ?_)
      exact w_X11_neededRadius_24 C hr hT hSh N σ4 a2 a4 (0 : Int32) (1500 : Int32) (0 : Int32) h ho2 ho4 H locs ls S (lv_sub hl [4, 3, 2, 1, 0] rfl)
    · exact x_callXX C S KX11 hx0 (ok_X11_roadAt (L := L) hc4 hSh hx0) n_PRX ⟨cd_X11_roadAt, ni_RX11, ml_RX11_180, in_X11_roadAt, sl_X11_roadAt⟩ ⟨by decide, by decide⟩ rfl (rm_ok (by decide) (by decide)) hl.1 rfl (Nat.le_of_ble_eq_true rfl) ⟨by decide, by decide⟩ dX11_neededRadius_8 hT ⟨by decide, by decide⟩ hr4
  · exact x_callXX C S KX11 hx0 (ok_X11_blastAt (L := L) hc2 hSh hx0) n_PRX ⟨cd_X11_blastAt, ni_RX11, ml_RX11_125, in_X11_blastAt, sl_X11_blastAt⟩ ⟨by decide, by decide⟩ rfl (rm_ok (by decide) (by decide)) hl.1 rfl (Nat.le_of_ble_eq_true rfl) ⟨by decide, by decide⟩ dX11_neededRadius_2 hT ⟨by decide, by decide⟩ hr2
theorem dX11_timeOf_0 : decode cX11_timeOf 0 = .ok (.aload_n 0, 1) := by decide +kernel
theorem dX11_timeOf_1 : decode cX11_timeOf 1 = .ok (.iload_n 1, 1) := by decide +kernel
theorem dX11_timeOf_2 : decode cX11_timeOf 2 = .ok (.invokevirtual 225, 3) := by decide +kernel
theorem dX11_timeOf_5 : decode cX11_timeOf 5 = .ok (.aload_n 0, 1) := by decide +kernel
theorem dX11_timeOf_6 : decode cX11_timeOf 6 = .ok (.getfield 61, 3) := by decide +kernel
theorem dX11_timeOf_9 : decode cX11_timeOf 9 = .ok (.getfield 228, 3) := by decide +kernel
theorem dX11_timeOf_12 : decode cX11_timeOf 12 = .ok (.iload_n 1, 1) := by decide +kernel
theorem dX11_timeOf_13 : decode cX11_timeOf 13 = .ok (.iaload, 1) := by decide +kernel
theorem dX11_timeOf_14 : decode cX11_timeOf 14 = .ok (.ireturn, 1) := by decide +kernel
def f_X11_timeOf (N : Nat) (R : Nat → Nat → Nat) (σ : SI) (x0 : Nat) (x1 : Int32) : Option ((Int32 ⊕ Nat) × SI) := bdX (f_X11_needBlast N R σ x0 x1) (fun _ σ2 => ck x1 6 (some (.inl (σ2 (R (R x0 8) 6) x1.toNatClampNeg), σ2)))
set_option maxHeartbeats 4000000 in
set_option maxRecDepth 100000 in
theorem ok_X11_timeOf {l : Launch} {g : GL} {R : Nat → Nat → Nat} {L : Nat → Nat → Int64} {N : Nat} {σ : SI} {x0 : Nat} {x1 : Int32} {r : ((Int32 ⊕ Nat) × SI)} (h : f_X11_timeOf N R σ x0 x1 = some r) (hSh : ShR R) (hx0 : Ok 202 x0 11) : CtX l g 7 yX11_timeOf cX11_timeOf 2 (some .int) 202 202 1 6 [.ref (ga g x0), .int x1] (mkS σ R L) (PIX R L r) (PX R L r) := by
  refine vx_ofW (cc := cX11_timeOf) (maxL := 2) (ret := (some .int)) (by decide) rfl ?_
  intro p e s m args below meth c s₁ B hml hT hv
  obtain ⟨rfl, hE, hLo, hWd⟩ := hv
  have hr : meth.sig.returnType = (some .int) := B.returns
  have C : Cx l g p s m meth c cX11_timeOf 2 RX11 := ⟨B.exec, B.bytes, hml, findClass_of_methodNamed B.named, hE, hLo, B.notSynchronized⟩
  have S : S2 g s σ R L s.heap [] := ⟨hWd, va_S.rf⟩
  have hx := C.1
  have hb := C.2.1
  have hl := lv_entry ([.ref (ga g x0), .int x1]) (n := 2) (Nat.le_of_ble_eq_true rfl)
  rw [lg_entry_eq]
  generalize (lg_sl ([.ref (ga g x0), .int x1]) ++ List.replicate (2 - (lg_sl ([.ref (ga g x0), .int x1])).length) Slot.unset).toArray = ls at hl ⊢
  have hl : lv_has ls 2 [(0, .ref (ga g x0)), (1, .int x1)] := hl
  generalize hH : s.heap = H at S ⊢
  generalize hlc : ([] : List Loc) = locs at S ⊢
  rw [f_X11_timeOf] at h
  refine lv_aload_n hx hb dX11_timeOf_0 rfl (lv_at hl 0 rfl) ?_
  refine lv_iload_n hx hb dX11_timeOf_1 rfl (lv_at hl 1 rfl) ?_
  rcases bdX_el h with ⟨a2, σ2, hc2, h⟩ | ⟨q2, σ2, hc2, hr2⟩
  · refine x_callXV C S KX11 hx0 (ok_X11_needBlast (L := L) hc2 hSh hx0) ⟨cd_X11_needBlast, ni_RX11, ml_RX11_225, in_X11_needBlast, sl_X11_needBlast⟩ ⟨by decide, by decide⟩ rfl (rm_ok (by decide) (by decide)) hl.1 rfl (Nat.le_of_ble_eq_true rfl) ⟨by decide, by decide⟩ dX11_timeOf_2 hT ⟨by decide, by decide⟩ (fun H locs S => ?_)
    refine lv_aload_n hx hb dX11_timeOf_5 rfl (lv_at hl 0 rfl) ?_
    have hR3 : Ok 202 (R x0 8) 9 := hSh x0 11 8 9 hx0.1 rfl
    refine x_getR C S KX11 hx0 8 (by decide) rfl rfl fl_RX11_61 hR3 dX11_timeOf_6 ?_
    have hR4 : Ok 202 (R (R x0 8) 6) 10006 := hSh (R x0 8) 9 6 10006 hR3.1 rfl
    refine x_getR C S KX9 hR3 6 (by decide) rfl rfl fl_RX11_228 hR4 dX11_timeOf_9 ?_
    refine lv_iload_n hx hb dX11_timeOf_12 rfl (lv_at hl 1 rfl) ?_
    obtain ⟨hi5, h⟩ := ck_el h
    refine x_iald (len := 6) C S (by decide) hR4 hi5 dX11_timeOf_13 ?_
    exact x_iretX C S hr (by decide) (by decide) h dX11_timeOf_14
  · exact x_callXX C S KX11 hx0 (ok_X11_needBlast (L := L) hc2 hSh hx0) n_PVX ⟨cd_X11_needBlast, ni_RX11, ml_RX11_225, in_X11_needBlast, sl_X11_needBlast⟩ ⟨by decide, by decide⟩ rfl (rm_ok (by decide) (by decide)) hl.1 rfl (Nat.le_of_ble_eq_true rfl) ⟨by decide, by decide⟩ dX11_timeOf_2 hT ⟨by decide, by decide⟩ hr2
theorem dX9_survey_0 : decode cX9_survey 0 = .ok (.iconst 0, 1) := by decide +kernel
theorem dX9_survey_1 : decode cX9_survey 1 = .ok (.istore_n 1, 1) := by decide +kernel
theorem dX9_survey_2 : decode cX9_survey 2 = .ok (.iload_n 1, 1) := by decide +kernel
theorem dX9_survey_3 : decode cX9_survey 3 = .ok (.aload_n 0, 1) := by decide +kernel
theorem dX9_survey_4 : decode cX9_survey 4 = .ok (.getfield 61, 3) := by decide +kernel
theorem dX9_survey_7 : decode cX9_survey 7 = .ok (.if_icmp .ge 57, 3) := by decide +kernel
theorem dX9_survey_10 : decode cX9_survey 10 = .ok (.aload_n 0, 1) := by decide +kernel
theorem dX9_survey_11 : decode cX9_survey 11 = .ok (.getfield 25, 3) := by decide +kernel
theorem dX9_survey_14 : decode cX9_survey 14 = .ok (.iload_n 1, 1) := by decide +kernel
theorem dX9_survey_15 : decode cX9_survey 15 = .ok (.aaload, 1) := by decide +kernel
theorem dX9_survey_16 : decode cX9_survey 16 = .ok (.astore_n 2, 1) := by decide +kernel
theorem dX9_survey_17 : decode cX9_survey 17 = .ok (.aload_n 0, 1) := by decide +kernel
theorem dX9_survey_18 : decode cX9_survey 18 = .ok (.aload_n 2, 1) := by decide +kernel
theorem dX9_survey_19 : decode cX9_survey 19 = .ok (.invokevirtual 82, 3) := by decide +kernel
theorem dX9_survey_22 : decode cX9_survey 22 = .ok (.aload_n 0, 1) := by decide +kernel
theorem dX9_survey_23 : decode cX9_survey 23 = .ok (.aload_n 2, 1) := by decide +kernel
theorem dX9_survey_24 : decode cX9_survey 24 = .ok (.invokevirtual 86, 3) := by decide +kernel
theorem dX9_survey_27 : decode cX9_survey 27 = .ok (.iconst 0, 1) := by decide +kernel
theorem dX9_survey_28 : decode cX9_survey 28 = .ok (.istore_n 3, 1) := by decide +kernel
theorem dX9_survey_29 : decode cX9_survey 29 = .ok (.iload_n 3, 1) := by decide +kernel
theorem dX9_survey_30 : decode cX9_survey 30 = .ok (.bipush 24, 2) := by decide +kernel
theorem dX9_survey_32 : decode cX9_survey 32 = .ok (.if_icmp .ge 21, 3) := by decide +kernel
theorem dX9_survey_35 : decode cX9_survey 35 = .ok (.aload_n 2, 1) := by decide +kernel
theorem dX9_survey_36 : decode cX9_survey 36 = .ok (.getfield 89, 3) := by decide +kernel
theorem dX9_survey_39 : decode cX9_survey 39 = .ok (.iload_n 3, 1) := by decide +kernel
theorem dX9_survey_40 : decode cX9_survey 40 = .ok (.aload_n 0, 1) := by decide +kernel
theorem dX9_survey_41 : decode cX9_survey 41 = .ok (.aload_n 2, 1) := by decide +kernel
theorem dX9_survey_42 : decode cX9_survey 42 = .ok (.iload_n 3, 1) := by decide +kernel
theorem dX9_survey_43 : decode cX9_survey 43 = .ok (.invokevirtual 92, 3) := by decide +kernel
theorem dX9_survey_46 : decode cX9_survey 46 = .ok (.iastore, 1) := by decide +kernel
theorem dX9_survey_47 : decode cX9_survey 47 = .ok (.iinc 3 1, 3) := by decide +kernel
theorem dX9_survey_50 : decode cX9_survey 50 = .ok (.goto (-21), 3) := by decide +kernel
theorem dX9_survey_53 : decode cX9_survey 53 = .ok (.aload_n 0, 1) := by decide +kernel
theorem dX9_survey_54 : decode cX9_survey 54 = .ok (.aload_n 2, 1) := by decide +kernel
theorem dX9_survey_55 : decode cX9_survey 55 = .ok (.invokevirtual 96, 3) := by decide +kernel
theorem dX9_survey_58 : decode cX9_survey 58 = .ok (.iinc 1 1, 3) := by decide +kernel
theorem dX9_survey_61 : decode cX9_survey 61 = .ok (.goto (-59), 3) := by decide +kernel
theorem dX9_survey_64 : decode cX9_survey 64 = .ok (.return_, 1) := by decide +kernel
def f_X9_survey_29 (N : Nat) (R : Nat → Nat → Nat) (k2 : SI → Nat → Int32 → Option (Unit × SI)) : Nat → SI → Nat → Int32 → Nat → Int32 → Option (Unit × SI)
  | 0, _, _, _, _, _ => none
  | n + 1, σ, x0, x1, x2, x3 => if (24 : Int32) ≤ x3 then (bd (f_X9_weigh N R σ x0 x2) (fun _ σ8 => k2 σ8 x0 (x1 + 1))) else (bd (f_X9_neighboursInDust N R σ x0 x2 x3) (fun a10 σ10 => ck x3 24 (sq (up σ10 (R x2 3) x3.toNatClampNeg a10) (fun σ12 => f_X9_survey_29 N R k2 n σ12 x0 x1 x2 (x3 + 1)))))
def f_X9_survey_2 (N : Nat) (R : Nat → Nat → Nat) : Nat → SI → Nat → Int32 → Option (Unit × SI)
  | 0, _, _, _ => none
  | n + 1, σ, x0, x1 => if (σ x0 11) ≤ x1 then (some ((), σ)) else (ck x1 6 (bd (f_X9_measureNeighbours N R σ x0 (R (R x0 2) x1.toNatClampNeg)) (fun _ σ5 => bd (f_X9_measureRoads N R σ5 x0 (R (R x0 2) x1.toNatClampNeg)) (fun _ σ6 => f_X9_survey_29 N R (fun σ x0 x1 => f_X9_survey_2 N R n σ x0 x1) N σ6 x0 x1 (R (R x0 2) x1.toNatClampNeg) (0 : Int32)))))
def f_X9_survey (N : Nat) (R : Nat → Nat → Nat) (σ : SI) (x0 : Nat) : Option (Unit × SI) := f_X9_survey_2 N R N σ x0 (0 : Int32)
set_option maxHeartbeats 4000000 in
set_option maxRecDepth 100000 in
theorem w_X9_survey_29 {l : Launch} {g : GL} {p : Program} {e : Jvm.Env} {s : State} {m : MethodId} {args : Array Value} {below : List Frame} {meth : Method} {c : Code} {R : Nat → Nat → Nat} {L : Nat → Nat → Int64} {r : (Unit × SI)} {N : Nat} {k2 : SI → Nat → Int32 → Option (Unit × SI)} (C : Cx l g p s m meth c cX9_survey 4 RX9) (hr : meth.sig.returnType = none) (hSh : ShR R) (hk2 : ∀ (σ : SI) (x0 : Nat) (x1 : Int32), k2 σ x0 x1 = some r → Ok 202 x0 9 → ∀ (H : Heap) (locs : List Loc) (ls : Array Slot), S2 g s σ R L H locs → lv_has ls 4 [(0, .ref (ga g x0)), (1, .int x1)] → W p l e (rmd 4 0 0) s m args below meth c H locs 0 0 (MQ below (Qg g 202 (PV R L r)) args s 0 0 (gA g)) (F0 m 2 ls [])) : ∀ (n : Nat) (σ : SI) (x0 : Nat) (x1 : Int32) (x2 : Nat) (x3 : Int32), f_X9_survey_29 N R k2 n σ x0 x1 x2 x3 = some r → Ok 202 x0 9 → Ok 202 x2 0 → ∀ (H : Heap) (locs : List Loc) (ls : Array Slot), S2 g s σ R L H locs → lv_has ls 4 [(0, .ref (ga g x0)), (1, .int x1), (2, .ref (ga g x2)), (3, .int x3)] → W p l e (rmd 4 0 0) s m args below meth c H locs 0 0 (MQ below (Qg g 202 (PV R L r)) args s 0 0 (gA g)) (F0 m 29 ls []) := by
  have hx := C.1
  have hb := C.2.1
  intro n
  induction n with
  | zero =>
    intro σ x0 x1 x2 x3 h
    cases (show (none : Option (Unit × SI)) = some r from h)
  | succ n ih =>
    intro σ x0 x1 x2 x3 h hx0 hx2 H locs ls S hl
    rw [f_X9_survey_29] at h
    refine lv_iload_n hx hb dX9_survey_29 rfl (lv_at hl 3 rfl) ?_
    refine lv_bipush (v := (24 : Int32)) hx hb dX9_survey_30 (by decide) ?_
    refine lv_icmp_ge (tgt := 53) hx hb dX9_survey_32 (by decide) (fun c7 => ?_) (fun c7 => ?_)
    · have h := it_p c7 h
      refine lv_aload_n hx hb dX9_survey_53 rfl (lv_at hl 0 rfl) ?_
      refine lv_aload_n hx hb dX9_survey_54 rfl (lv_at hl 2 rfl) ?_
      obtain ⟨a8, σ8, hc8, h⟩ := bd_el h
      refine x_callVV C S KX9 hx0 (ok_X9_weigh (L := L) hc8 hSh hx0 hx2) ⟨cd_X9_weigh, ni_RX9, ml_RX9_96, in_X9_weigh, sl_X9_weigh⟩ ⟨by decide, by decide⟩ rfl (rm_ok (by decide) (by decide)) hl.1 rfl (Nat.le_of_ble_eq_true rfl) ⟨by decide, by decide⟩ dX9_survey_55 (fun H locs S => ?_)
      refine lv_iinc (v := x1 + 1) (lv' := [(1, .int (x1 + 1)), (0, .ref (ga g x0)), (2, .ref (ga g x2)), (3, .int x3)]) hx hb dX9_survey_58 hl (k := 1) rfl rfl (by decide) rfl (fun ls hl => ?_)
      refine lv_goto (tgt := 2) hx hb dX9_survey_61 (by decide) ?_
      exact hk2 σ8 x0 (x1 + 1) h hx0 H locs ls S (lv_sub hl [1, 0] rfl)
    · have h := it_n c7 h
      refine lv_aload_n hx hb dX9_survey_35 rfl (lv_at hl 2 rfl) ?_
      have hR9 : Ok 202 (R x2 3) 10024 := hSh x2 0 3 10024 hx2.1 rfl
      refine x_getR C S KX0 hx2 3 (by decide) rfl rfl fl_RX9_89 hR9 dX9_survey_36 ?_
      refine lv_iload_n hx hb dX9_survey_39 rfl (lv_at hl 3 rfl) ?_
      refine lv_aload_n hx hb dX9_survey_40 rfl (lv_at hl 0 rfl) ?_
      refine lv_aload_n hx hb dX9_survey_41 rfl (lv_at hl 2 rfl) ?_
      refine lv_iload_n hx hb dX9_survey_42 rfl (lv_at hl 3 rfl) ?_
      obtain ⟨a10, σ10, hc10, h⟩ := bd_el h
      refine x_callVI C S KX9 hx0 (ok_X9_neighboursInDust (L := L) hc10 hSh hx0 hx2) ⟨cd_X9_neighboursInDust, ni_RX9, ml_RX9_92, in_X9_neighboursInDust, sl_X9_neighboursInDust⟩ ⟨by decide, by decide⟩ rfl (rm_ok (by decide) (by decide)) hl.1 rfl (Nat.le_of_ble_eq_true rfl) ⟨by decide, by decide⟩ dX9_survey_43 (fun H locs S => ?_)
      obtain ⟨hi11, h⟩ := ck_el h
      obtain ⟨σ12, hs12, h⟩ := sq_el h
      refine x_iast (len := 24) C S (by decide) hR9 hi11 dX9_survey_46 hs12 (fun H locs S => ?_)
      refine lv_iinc (v := x3 + 1) (lv' := [(3, .int (x3 + 1)), (0, .ref (ga g x0)), (1, .int x1), (2, .ref (ga g x2))]) hx hb dX9_survey_47 hl (k := 3) rfl rfl (by decide) rfl (fun ls hl => ?_)
      refine lv_goto (tgt := 29) hx hb dX9_survey_50 (by decide) ?_
      exact ih σ12 x0 x1 x2 (x3 + 1) h hx0 hx2 H locs ls S (lv_sub hl [1, 2, 3, 0] rfl)
set_option maxHeartbeats 4000000 in
set_option maxRecDepth 100000 in
theorem w_X9_survey_2 {l : Launch} {g : GL} {p : Program} {e : Jvm.Env} {s : State} {m : MethodId} {args : Array Value} {below : List Frame} {meth : Method} {c : Code} {R : Nat → Nat → Nat} {L : Nat → Nat → Int64} {r : (Unit × SI)} {N : Nat} (C : Cx l g p s m meth c cX9_survey 4 RX9) (hr : meth.sig.returnType = none) (hSh : ShR R) : ∀ (n : Nat) (σ : SI) (x0 : Nat) (x1 : Int32), f_X9_survey_2 N R n σ x0 x1 = some r → Ok 202 x0 9 → ∀ (H : Heap) (locs : List Loc) (ls : Array Slot), S2 g s σ R L H locs → lv_has ls 4 [(0, .ref (ga g x0)), (1, .int x1)] → W p l e (rmd 4 0 0) s m args below meth c H locs 0 0 (MQ below (Qg g 202 (PV R L r)) args s 0 0 (gA g)) (F0 m 2 ls []) := by
  have hx := C.1
  have hb := C.2.1
  intro n
  induction n with
  | zero =>
    intro σ x0 x1 h
    cases (show (none : Option (Unit × SI)) = some r from h)
  | succ n ih =>
    intro σ x0 x1 h hx0 H locs ls S hl
    rw [f_X9_survey_2] at h
    refine lv_iload_n hx hb dX9_survey_2 rfl (lv_at hl 1 rfl) ?_
    refine lv_aload_n hx hb dX9_survey_3 rfl (lv_at hl 0 rfl) ?_
    refine x_getI C S KX9 hx0 11 (by decide) rfl rfl fl_RX9_61 dX9_survey_4 ?_
    refine lv_icmp_ge (tgt := 64) hx hb dX9_survey_7 (by decide) (fun c1 => ?_) (fun c1 => ?_)
    · have h := it_p c1 h
      exact x_vret C S hr h dX9_survey_64
    · have h := it_n c1 h
      refine lv_aload_n hx hb dX9_survey_10 rfl (lv_at hl 0 rfl) ?_
      have hR2 : Ok 202 (R x0 2) 50006 := hSh x0 9 2 50006 hx0.1 rfl
      refine x_getR C S KX9 hx0 2 (by decide) rfl rfl fl_RX9_25 hR2 dX9_survey_11 ?_
      refine lv_iload_n hx hb dX9_survey_14 rfl (lv_at hl 1 rfl) ?_
      obtain ⟨hi3, h⟩ := ck_el h
      have hR4 : Ok 202 (R (R x0 2) x1.toNatClampNeg) 0 := hSh (R x0 2) 50006 x1.toNatClampNeg 0 hR2.1 (if_pos (vp_lt hi3))
      refine x_aald (len := 6) C S (by decide) 4 (by decide) rfl hR2 hi3 hR4 dX9_survey_15 ?_
      refine lv_astore_n (lv' := [(2, .ref (ga g (R (R x0 2) x1.toNatClampNeg))), (0, .ref (ga g x0)), (1, .int x1)]) hx hb dX9_survey_16 rfl hl (by decide) rfl (fun ls hl => ?_)
      refine lv_aload_n hx hb dX9_survey_17 rfl (lv_at hl 1 rfl) ?_
      refine lv_aload_n hx hb dX9_survey_18 rfl (lv_at hl 0 rfl) ?_
      obtain ⟨a5, σ5, hc5, h⟩ := bd_el h
      refine x_callVV C S KX9 hx0 (ok_X9_measureNeighbours (L := L) hc5 hSh hx0 hR4) ⟨cd_X9_measureNeighbours, ni_RX9, ml_RX9_82, in_X9_measureNeighbours, sl_X9_measureNeighbours⟩ ⟨by decide, by decide⟩ rfl (rm_ok (by decide) (by decide)) hl.1 rfl (Nat.le_of_ble_eq_true rfl) ⟨by decide, by decide⟩ dX9_survey_19 (fun H locs S => ?_)
      refine lv_aload_n hx hb dX9_survey_22 rfl (lv_at hl 1 rfl) ?_
      refine lv_aload_n hx hb dX9_survey_23 rfl (lv_at hl 0 rfl) ?_
      obtain ⟨a6, σ6, hc6, h⟩ := bd_el h
      refine x_callVV C S KX9 hx0 (ok_X9_measureRoads (L := L) hc6 hSh hx0 hR4) ⟨cd_X9_measureRoads, ni_RX9, ml_RX9_86, in_X9_measureRoads, sl_X9_measureRoads⟩ ⟨by decide, by decide⟩ rfl (rm_ok (by decide) (by decide)) hl.1 rfl (Nat.le_of_ble_eq_true rfl) ⟨by decide, by decide⟩ dX9_survey_24 (fun H locs S => ?_)
      refine lv_iconst (v := (0 : Int32)) hx hb dX9_survey_27 (by decide) ?_
      refine lv_istore_n (lv' := [(3, .int (0 : Int32)), (2, .ref (ga g (R (R x0 2) x1.toNatClampNeg))), (0, .ref (ga g x0)), (1, .int x1)]) hx hb dX9_survey_28 rfl hl (by decide) rfl (fun ls hl => ?_)
      exact w_X9_survey_29 C hr hSh ih N σ6 x0 x1 (R (R x0 2) x1.toNatClampNeg) (0 : Int32) h hx0 hR4 H locs ls S (lv_sub hl [2, 3, 1, 0] rfl)
set_option maxHeartbeats 4000000 in
set_option maxRecDepth 100000 in
theorem ok_X9_survey {l : Launch} {g : GL} {R : Nat → Nat → Nat} {L : Nat → Nat → Int64} {N : Nat} {σ : SI} {x0 : Nat} {r : (Unit × SI)} (h : f_X9_survey N R σ x0 = some r) (hSh : ShR R) (hx0 : Ok 202 x0 9) : Ct l g 4 yX9_survey cX9_survey 4 none 202 202 0 0 [.ref (ga g x0)] (mkS σ R L) (PV R L r) := by
  refine Met.ofW (cc := cX9_survey) (maxL := 4) (ret := none) (by decide) rfl ?_
  intro p e s m args below meth c s₁ B hml hv
  obtain ⟨rfl, hE, hLo, hWd⟩ := hv
  have hr : meth.sig.returnType = none := B.returns
  have C : Cx l g p s m meth c cX9_survey 4 RX9 := ⟨B.exec, B.bytes, hml, findClass_of_methodNamed B.named, hE, hLo, B.notSynchronized⟩
  have S : S2 g s σ R L s.heap [] := ⟨hWd, va_S.rf⟩
  have hx := C.1
  have hb := C.2.1
  have hl := lv_entry ([.ref (ga g x0)]) (n := 4) (Nat.le_of_ble_eq_true rfl)
  rw [lg_entry_eq]
  generalize (lg_sl ([.ref (ga g x0)]) ++ List.replicate (4 - (lg_sl ([.ref (ga g x0)])).length) Slot.unset).toArray = ls at hl ⊢
  have hl : lv_has ls 4 [(0, .ref (ga g x0))] := hl
  generalize hH : s.heap = H at S ⊢
  generalize hlc : ([] : List Loc) = locs at S ⊢
  rw [f_X9_survey] at h
  refine lv_iconst (v := (0 : Int32)) hx hb dX9_survey_0 (by decide) ?_
  refine lv_istore_n (lv' := [(1, .int (0 : Int32)), (0, .ref (ga g x0))]) hx hb dX9_survey_1 rfl hl (by decide) rfl (fun ls hl => ?_)
  exact w_X9_survey_2 C hr hSh N σ x0 (0 : Int32) h hx0 H locs ls S (lv_sub hl [1, 0] rfl)
theorem dX9_reasonAgainst_0 : decode cX9_reasonAgainst 0 = .ok (.iload_n 2, 1) := by decide +kernel
theorem dX9_reasonAgainst_1 : decode cX9_reasonAgainst 1 = .ok (.aload_n 0, 1) := by decide +kernel
theorem dX9_reasonAgainst_2 : decode cX9_reasonAgainst 2 = .ok (.getfield 64, 3) := by decide +kernel
theorem dX9_reasonAgainst_5 : decode cX9_reasonAgainst 5 = .ok (.if_icmp .lt 11, 3) := by decide +kernel
theorem dX9_reasonAgainst_8 : decode cX9_reasonAgainst 8 = .ok (.iload_n 2, 1) := by decide +kernel
theorem dX9_reasonAgainst_9 : decode cX9_reasonAgainst 9 = .ok (.aload_n 0, 1) := by decide +kernel
theorem dX9_reasonAgainst_10 : decode cX9_reasonAgainst 10 = .ok (.getfield 67, 3) := by decide +kernel
theorem dX9_reasonAgainst_13 : decode cX9_reasonAgainst 13 = .ok (.if_icmp .le 5, 3) := by decide +kernel
theorem dX9_reasonAgainst_16 : decode cX9_reasonAgainst 16 = .ok (.iconst 1, 1) := by decide +kernel
theorem dX9_reasonAgainst_17 : decode cX9_reasonAgainst 17 = .ok (.ireturn, 1) := by decide +kernel
theorem dX9_reasonAgainst_18 : decode cX9_reasonAgainst 18 = .ok (.aload_n 0, 1) := by decide +kernel
theorem dX9_reasonAgainst_19 : decode cX9_reasonAgainst 19 = .ok (.getfield 25, 3) := by decide +kernel
theorem dX9_reasonAgainst_22 : decode cX9_reasonAgainst 22 = .ok (.iload_n 1, 1) := by decide +kernel
theorem dX9_reasonAgainst_23 : decode cX9_reasonAgainst 23 = .ok (.aaload, 1) := by decide +kernel
theorem dX9_reasonAgainst_24 : decode cX9_reasonAgainst 24 = .ok (.astore 4, 2) := by decide +kernel
theorem dX9_reasonAgainst_26 : decode cX9_reasonAgainst 26 = .ok (.aload 4, 2) := by decide +kernel
theorem dX9_reasonAgainst_28 : decode cX9_reasonAgainst 28 = .ok (.getfield 142, 3) := by decide +kernel
theorem dX9_reasonAgainst_31 : decode cX9_reasonAgainst 31 = .ok (.ifCond .eq 5, 3) := by decide +kernel
theorem dX9_reasonAgainst_34 : decode cX9_reasonAgainst 34 = .ok (.iconst 2, 1) := by decide +kernel
theorem dX9_reasonAgainst_35 : decode cX9_reasonAgainst 35 = .ok (.ireturn, 1) := by decide +kernel
theorem dX9_reasonAgainst_36 : decode cX9_reasonAgainst 36 = .ok (.aload_n 0, 1) := by decide +kernel
theorem dX9_reasonAgainst_37 : decode cX9_reasonAgainst 37 = .ok (.aload 4, 2) := by decide +kernel
theorem dX9_reasonAgainst_39 : decode cX9_reasonAgainst 39 = .ok (.iload_n 2, 1) := by decide +kernel
theorem dX9_reasonAgainst_40 : decode cX9_reasonAgainst 40 = .ok (.invokevirtual 157, 3) := by decide +kernel
theorem dX9_reasonAgainst_43 : decode cX9_reasonAgainst 43 = .ok (.ifCond .eq 5, 3) := by decide +kernel
theorem dX9_reasonAgainst_46 : decode cX9_reasonAgainst 46 = .ok (.iconst 3, 1) := by decide +kernel
theorem dX9_reasonAgainst_47 : decode cX9_reasonAgainst 47 = .ok (.ireturn, 1) := by decide +kernel
theorem dX9_reasonAgainst_48 : decode cX9_reasonAgainst 48 = .ok (.aload 4, 2) := by decide +kernel
theorem dX9_reasonAgainst_50 : decode cX9_reasonAgainst 50 = .ok (.getfield 89, 3) := by decide +kernel
theorem dX9_reasonAgainst_53 : decode cX9_reasonAgainst 53 = .ok (.iload_n 2, 1) := by decide +kernel
theorem dX9_reasonAgainst_54 : decode cX9_reasonAgainst 54 = .ok (.bipush 60, 2) := by decide +kernel
theorem dX9_reasonAgainst_56 : decode cX9_reasonAgainst 56 = .ok (.idiv, 1) := by decide +kernel
theorem dX9_reasonAgainst_57 : decode cX9_reasonAgainst 57 = .ok (.iaload, 1) := by decide +kernel
theorem dX9_reasonAgainst_58 : decode cX9_reasonAgainst 58 = .ok (.ifCond .eq 5, 3) := by decide +kernel
theorem dX9_reasonAgainst_61 : decode cX9_reasonAgainst 61 = .ok (.iconst 4, 1) := by decide +kernel
theorem dX9_reasonAgainst_62 : decode cX9_reasonAgainst 62 = .ok (.ireturn, 1) := by decide +kernel
theorem dX9_reasonAgainst_63 : decode cX9_reasonAgainst 63 = .ok (.aload_n 0, 1) := by decide +kernel
theorem dX9_reasonAgainst_64 : decode cX9_reasonAgainst 64 = .ok (.iload_n 1, 1) := by decide +kernel
theorem dX9_reasonAgainst_65 : decode cX9_reasonAgainst 65 = .ok (.iload_n 2, 1) := by decide +kernel
theorem dX9_reasonAgainst_66 : decode cX9_reasonAgainst 66 = .ok (.aload_n 3, 1) := by decide +kernel
theorem dX9_reasonAgainst_67 : decode cX9_reasonAgainst 67 = .ok (.invokevirtual 161, 3) := by decide +kernel
theorem dX9_reasonAgainst_70 : decode cX9_reasonAgainst 70 = .ok (.ifCond .eq 7, 3) := by decide +kernel
theorem dX9_reasonAgainst_73 : decode cX9_reasonAgainst 73 = .ok (.iconst 5, 1) := by decide +kernel
theorem dX9_reasonAgainst_74 : decode cX9_reasonAgainst 74 = .ok (.goto 4, 3) := by decide +kernel
theorem dX9_reasonAgainst_77 : decode cX9_reasonAgainst 77 = .ok (.iconst 0, 1) := by decide +kernel
theorem dX9_reasonAgainst_78 : decode cX9_reasonAgainst 78 = .ok (.ireturn, 1) := by decide +kernel
def f_X9_reasonAgainst (N : Nat) (R : Nat → Nat → Nat) (σ : SI) (x0 : Nat) (x1 : Int32) (x2 : Int32) (x3 : Nat) : Option (Int32 × SI) := if x2 < (σ x0 12) then (some ((1 : Int32), σ)) else (if x2 ≤ (σ x0 13) then (ck x1 6 (if (σ (R (R x0 2) x1.toNatClampNeg) 10) = 0 then (bd (f_X9_quietFor N R σ x0 (R (R x0 2) x1.toNatClampNeg) x2) (fun a7 σ7 => if a7 = 0 then (ck (x2 / (60 : Int32)) 24 (if (σ7 (R (R (R x0 2) x1.toNatClampNeg) 3) (x2 / (60 : Int32)).toNatClampNeg) = 0 then (bd (f_X9_crowded N R σ7 x0 x1 x2 x3) (fun a12 σ12 => if a12 = 0 then (some ((0 : Int32), σ12)) else (some ((5 : Int32), σ12)))) else (some ((4 : Int32), σ7)))) else (some ((3 : Int32), σ7)))) else (some ((2 : Int32), σ)))) else (some ((1 : Int32), σ)))
set_option maxHeartbeats 4000000 in
set_option maxRecDepth 100000 in
theorem ok_X9_reasonAgainst {l : Launch} {g : GL} {R : Nat → Nat → Nat} {L : Nat → Nat → Int64} {N : Nat} {σ : SI} {x0 : Nat} {x1 : Int32} {x2 : Int32} {x3 : Nat} {r : (Int32 × SI)} (h : f_X9_reasonAgainst N R σ x0 x1 x2 x3 = some r) (hSh : ShR R) (hx0 : Ok 202 x0 9) (hx3 : Ok 202 x3 10006) : Ct l g 3 yX9_reasonAgainst cX9_reasonAgainst 5 (some .int) 202 202 0 0 [.ref (ga g x0), .int x1, .int x2, .ref (ga g x3)] (mkS σ R L) (PI R L r) := by
  refine Met.ofW (cc := cX9_reasonAgainst) (maxL := 5) (ret := (some .int)) (by decide) rfl ?_
  intro p e s m args below meth c s₁ B hml hv
  obtain ⟨rfl, hE, hLo, hWd⟩ := hv
  have hr : meth.sig.returnType = (some .int) := B.returns
  have C : Cx l g p s m meth c cX9_reasonAgainst 5 RX9 := ⟨B.exec, B.bytes, hml, findClass_of_methodNamed B.named, hE, hLo, B.notSynchronized⟩
  have S : S2 g s σ R L s.heap [] := ⟨hWd, va_S.rf⟩
  have hx := C.1
  have hb := C.2.1
  have hl := lv_entry ([.ref (ga g x0), .int x1, .int x2, .ref (ga g x3)]) (n := 5) (Nat.le_of_ble_eq_true rfl)
  rw [lg_entry_eq]
  generalize (lg_sl ([.ref (ga g x0), .int x1, .int x2, .ref (ga g x3)]) ++ List.replicate (5 - (lg_sl ([.ref (ga g x0), .int x1, .int x2, .ref (ga g x3)])).length) Slot.unset).toArray = ls at hl ⊢
  have hl : lv_has ls 5 [(0, .ref (ga g x0)), (1, .int x1), (2, .int x2), (3, .ref (ga g x3))] := hl
  generalize hH : s.heap = H at S ⊢
  generalize hlc : ([] : List Loc) = locs at S ⊢
  rw [f_X9_reasonAgainst] at h
  refine lv_iload_n hx hb dX9_reasonAgainst_0 rfl (lv_at hl 2 rfl) ?_
  refine lv_aload_n hx hb dX9_reasonAgainst_1 rfl (lv_at hl 0 rfl) ?_
  refine x_getI C S KX9 hx0 12 (by decide) rfl rfl fl_RX9_64 dX9_reasonAgainst_2 ?_
  refine lv_icmp_lt (tgt := 16) hx hb dX9_reasonAgainst_5 (by decide) (fun c1 => ?_) (fun c1 => ?_)
  · have h := it_p c1 h
    refine lv_iconst (v := (1 : Int32)) hx hb dX9_reasonAgainst_16 (by decide) ?_
    exact x_iret C S hr h dX9_reasonAgainst_17
  · have h := it_n c1 h
    refine lv_iload_n hx hb dX9_reasonAgainst_8 rfl (lv_at hl 2 rfl) ?_
    refine lv_aload_n hx hb dX9_reasonAgainst_9 rfl (lv_at hl 0 rfl) ?_
    refine x_getI C S KX9 hx0 13 (by decide) rfl rfl fl_RX9_67 dX9_reasonAgainst_10 ?_
    refine lv_icmp_le (tgt := 18) hx hb dX9_reasonAgainst_13 (by decide) (fun c2 => ?_) (fun c2 => ?_)
    · have h := it_p c2 h
      refine lv_aload_n hx hb dX9_reasonAgainst_18 rfl (lv_at hl 0 rfl) ?_
      have hR3 : Ok 202 (R x0 2) 50006 := hSh x0 9 2 50006 hx0.1 rfl
      refine x_getR C S KX9 hx0 2 (by decide) rfl rfl fl_RX9_25 hR3 dX9_reasonAgainst_19 ?_
      refine lv_iload_n hx hb dX9_reasonAgainst_22 rfl (lv_at hl 1 rfl) ?_
      obtain ⟨hi4, h⟩ := ck_el h
      have hR5 : Ok 202 (R (R x0 2) x1.toNatClampNeg) 0 := hSh (R x0 2) 50006 x1.toNatClampNeg 0 hR3.1 (if_pos (vp_lt hi4))
      refine x_aald (len := 6) C S (by decide) 4 (by decide) rfl hR3 hi4 hR5 dX9_reasonAgainst_23 ?_
      refine lv_astore (lv' := [(4, .ref (ga g (R (R x0 2) x1.toNatClampNeg))), (0, .ref (ga g x0)), (1, .int x1), (2, .int x2), (3, .ref (ga g x3))]) hx hb dX9_reasonAgainst_24 hl (by decide) rfl (fun ls hl => ?_)
      refine lv_aload hx hb dX9_reasonAgainst_26 (lv_at hl 0 rfl) ?_
      refine x_getI C S KX0 hR5 10 (by decide) rfl rfl fl_RX9_142 dX9_reasonAgainst_28 ?_
      refine lv_if_eq (tgt := 36) hx hb dX9_reasonAgainst_31 (by decide) (fun c6 => ?_) (fun c6 => ?_)
      · have h := it_p c6 h
        refine lv_aload_n hx hb dX9_reasonAgainst_36 rfl (lv_at hl 1 rfl) ?_
        refine lv_aload hx hb dX9_reasonAgainst_37 (lv_at hl 0 rfl) ?_
        refine lv_iload_n hx hb dX9_reasonAgainst_39 rfl (lv_at hl 3 rfl) ?_
        obtain ⟨a7, σ7, hc7, h⟩ := bd_el h
        refine x_callVI C S KX9 hx0 (ok_X9_quietFor (L := L) hc7 hSh hx0 hR5) ⟨cd_X9_quietFor, ni_RX9, ml_RX9_157, in_X9_quietFor, sl_X9_quietFor⟩ ⟨by decide, by decide⟩ rfl (rm_ok (by decide) (by decide)) hl.1 rfl (Nat.le_of_ble_eq_true rfl) ⟨by decide, by decide⟩ dX9_reasonAgainst_40 (fun H locs S => ?_)
        refine lv_if_eq (tgt := 48) hx hb dX9_reasonAgainst_43 (by decide) (fun c8 => ?_) (fun c8 => ?_)
        · have h := it_p c8 h
          refine lv_aload hx hb dX9_reasonAgainst_48 (lv_at hl 0 rfl) ?_
          have hR9 : Ok 202 (R (R (R x0 2) x1.toNatClampNeg) 3) 10024 := hSh (R (R x0 2) x1.toNatClampNeg) 0 3 10024 hR5.1 rfl
          refine x_getR C S KX0 hR5 3 (by decide) rfl rfl fl_RX9_89 hR9 dX9_reasonAgainst_50 ?_
          refine lv_iload_n hx hb dX9_reasonAgainst_53 rfl (lv_at hl 3 rfl) ?_
          refine lv_bipush (v := (60 : Int32)) hx hb dX9_reasonAgainst_54 (by decide) ?_
          refine lv_idiv hx hb dX9_reasonAgainst_56 (by decide) ?_
          obtain ⟨hi10, h⟩ := ck_el h
          refine x_iald (len := 24) C S (by decide) hR9 hi10 dX9_reasonAgainst_57 ?_
          refine lv_if_eq (tgt := 63) hx hb dX9_reasonAgainst_58 (by decide) (fun c11 => ?_) (fun c11 => ?_)
          · have h := it_p c11 h
            refine lv_aload_n hx hb dX9_reasonAgainst_63 rfl (lv_at hl 1 rfl) ?_
            refine lv_iload_n hx hb dX9_reasonAgainst_64 rfl (lv_at hl 2 rfl) ?_
            refine lv_iload_n hx hb dX9_reasonAgainst_65 rfl (lv_at hl 3 rfl) ?_
            refine lv_aload_n hx hb dX9_reasonAgainst_66 rfl (lv_at hl 4 rfl) ?_
            obtain ⟨a12, σ12, hc12, h⟩ := bd_el h
            refine x_callVI C S KX9 hx0 (ok_X9_crowded (L := L) hc12 hSh hx0 hx3) ⟨cd_X9_crowded, ni_RX9, ml_RX9_161, in_X9_crowded, sl_X9_crowded⟩ ⟨by decide, by decide⟩ rfl (rm_ok (by decide) (by decide)) hl.1 rfl (Nat.le_of_ble_eq_true rfl) ⟨by decide, by decide⟩ dX9_reasonAgainst_67 (fun H locs S => ?_)
            refine lv_if_eq (tgt := 77) hx hb dX9_reasonAgainst_70 (by decide) (fun c13 => ?_) (fun c13 => ?_)
            · have h := it_p c13 h
              refine lv_iconst (v := (0 : Int32)) hx hb dX9_reasonAgainst_77 (by decide) ?_
              exact x_iret C S hr h dX9_reasonAgainst_78
            · have h := it_n c13 h
              refine lv_iconst (v := (5 : Int32)) hx hb dX9_reasonAgainst_73 (by decide) ?_
              refine lv_goto (tgt := 78) hx hb dX9_reasonAgainst_74 (by decide) ?_
              exact x_iret C S hr h dX9_reasonAgainst_78
          · have h := it_n c11 h
            refine lv_iconst (v := (4 : Int32)) hx hb dX9_reasonAgainst_61 (by decide) ?_
            exact x_iret C S hr h dX9_reasonAgainst_62
        · have h := it_n c8 h
          refine lv_iconst (v := (3 : Int32)) hx hb dX9_reasonAgainst_46 (by decide) ?_
          exact x_iret C S hr h dX9_reasonAgainst_47
      · have h := it_n c6 h
        refine lv_iconst (v := (2 : Int32)) hx hb dX9_reasonAgainst_34 (by decide) ?_
        exact x_iret C S hr h dX9_reasonAgainst_35
    · have h := it_n c2 h
      refine lv_iconst (v := (1 : Int32)) hx hb dX9_reasonAgainst_16 (by decide) ?_
      exact x_iret C S hr h dX9_reasonAgainst_17
