/-! ===== the quarry is drawn ===== -/
/-- what the quarry's cells and its text say -/
def Quarry (σ : SI) (t : List Nat) (sd : SDt) (ws : List WDt) (ns : List NDt) (rs : List RDt) (bs : List BDt) : Prop :=
  (SdOk sd ∧ (ws.length ≤ 2 ∧ ∀ w ∈ ws, WdOk w) ∧ (ns.length ≤ 2 ∧ ∀ d ∈ ns, NdOk d) ∧ (rs.length ≤ 2 ∧ ∀ d ∈ rs, RdOk d) ∧ (1 ≤ bs.length ∧ bs.length ≤ 3) ∧ ∀ d ∈ bs, BdOk d) ∧
  (t = prS sd ++ (prWs ws ++ (prNs 0 ns ++ (prRs 0 rs ++ prBs 0 bs))) ∧ t.length ≤ 400) ∧
  (σ 178 0 = nI ns.length ∧ σ 178 1 = nI rs.length ∧ σ 178 2 = nI bs.length ∧ σ 178 3 = nI sd.1 ∧ σ 178 4 = nI sd.2.1 ∧ σ 178 5 = nI sd.2.2.1 ∧ σ 178 6 = nI sd.2.2.2.1 ∧ σ 178 7 = nI sd.2.2.2.2.1 ∧ σ 178 8 = nI sd.2.2.2.2.2) ∧
  (∀ h, h < 24 → σ 192 h = wF ws (-1) h ∧ σ 193 h = sF ws 0 h) ∧ (∀ j, j < ns.length → DN σ j (ns.getD j (0, 0, 0, none))) ∧ (∀ j, j < rs.length → DR σ j (rs.getD j (0, 0, 0, 0))) ∧ ∀ j, j < bs.length → DB σ j (bs.getD j (0, 0, 0, []))
def QI (g : GL) : Array Value → State → Outcome → State → Prop := fun _ st o tt => (∃ σ R a v t sd ws ns rs bs, o = .returned none ∧ Quarry σ t sd ws ns rs bs ∧ (∀ o j, o ≤ 177 → σ o j = zF.1 o j) ∧ RDr R ∧ ShR R ∧ TL g R a v ∧ Asc t ∧ TXt g a v t tt.heap ∧ Wd g 202 (mkS σ R zF.2.2.1) tt.heap) ∧ va_F (gA g) st tt
theorem zF_rd : RDr zF.2.1 := ⟨by decide +kernel, by decide +kernel, by decide +kernel, by decide +kernel, by decide +kernel, fun _ _ _ => rfl⟩
set_option maxRecDepth 100000 in
theorem fl_RX12_82 : Cond.fieldLink RX12 82 RX12 "step" "I" ∈ BW := bw_in (List.mem_of_getElem? (i := 834) (by rfl)) (by rfl)
set_option maxRecDepth 100000 in
theorem fl_RX12_88 : Cond.fieldLink RX12 88 RX12 "before" "I" ∈ BW := bw_in (List.mem_of_getElem? (i := 836) (by rfl)) (by rfl)
set_option maxRecDepth 100000 in
theorem fl_RX12_91 : Cond.fieldLink RX12 91 RX12 "after" "I" ∈ BW := bw_in (List.mem_of_getElem? (i := 837) (by rfl)) (by rfl)
set_option maxRecDepth 100000 in
theorem fl_RX12_94 : Cond.fieldLink RX12 94 RX12 "spacing" "I" ∈ BW := bw_in (List.mem_of_getElem? (i := 838) (by rfl)) (by rfl)
set_option maxRecDepth 100000 in
theorem cd_X12_init : Cond.code yX12_init cX12_init 4 none ∈ BW := bw_in (List.mem_of_getElem? (i := 467) (by rfl)) (by rfl)
set_option maxRecDepth 100000 in
theorem ol_RX12 : Cond.methodLink RX12 1 Lib.objectInit ∈ BW := bw_in (List.mem_of_getElem? (i := 468) (by rfl)) (by rfl)
set_option maxRecDepth 100000 in
theorem cl_RX12_55 : Cond.classLink RX12 55 "[[I" ∈ BW := bw_in (List.mem_of_getElem? (i := 469) (by rfl)) (by rfl)
theorem dX12_init_0 : decode cX12_init 0 = .ok (.aload_n 0, 1) := by decide +kernel
theorem dX12_init_1 : decode cX12_init 1 = .ok (.invokespecial 1, 3) := by decide +kernel
theorem dX12_init_4 : decode cX12_init 4 = .ok (.aload_n 0, 1) := by decide +kernel
theorem dX12_init_5 : decode cX12_init 5 = .ok (.iconst 2, 1) := by decide +kernel
theorem dX12_init_6 : decode cX12_init 6 = .ok (.newarray .int, 2) := by decide +kernel
theorem dX12_init_8 : decode cX12_init 8 = .ok (.putfield 7, 3) := by decide +kernel
theorem dX12_init_11 : decode cX12_init 11 = .ok (.aload_n 0, 1) := by decide +kernel
theorem dX12_init_12 : decode cX12_init 12 = .ok (.iconst 2, 1) := by decide +kernel
theorem dX12_init_13 : decode cX12_init 13 = .ok (.newarray .int, 2) := by decide +kernel
theorem dX12_init_15 : decode cX12_init 15 = .ok (.putfield 13, 3) := by decide +kernel
theorem dX12_init_18 : decode cX12_init 18 = .ok (.aload_n 0, 1) := by decide +kernel
theorem dX12_init_19 : decode cX12_init 19 = .ok (.iconst 2, 1) := by decide +kernel
theorem dX12_init_20 : decode cX12_init 20 = .ok (.newarray .int, 2) := by decide +kernel
theorem dX12_init_22 : decode cX12_init 22 = .ok (.putfield 16, 3) := by decide +kernel
theorem dX12_init_25 : decode cX12_init 25 = .ok (.aload_n 0, 1) := by decide +kernel
theorem dX12_init_26 : decode cX12_init 26 = .ok (.iconst 2, 1) := by decide +kernel
theorem dX12_init_27 : decode cX12_init 27 = .ok (.newarray .int, 2) := by decide +kernel
theorem dX12_init_29 : decode cX12_init 29 = .ok (.putfield 19, 3) := by decide +kernel
theorem dX12_init_32 : decode cX12_init 32 = .ok (.aload_n 0, 1) := by decide +kernel
theorem dX12_init_33 : decode cX12_init 33 = .ok (.iconst 2, 1) := by decide +kernel
theorem dX12_init_34 : decode cX12_init 34 = .ok (.newarray .int, 2) := by decide +kernel
theorem dX12_init_36 : decode cX12_init 36 = .ok (.putfield 22, 3) := by decide +kernel
theorem dX12_init_39 : decode cX12_init 39 = .ok (.aload_n 0, 1) := by decide +kernel
theorem dX12_init_40 : decode cX12_init 40 = .ok (.iconst 2, 1) := by decide +kernel
theorem dX12_init_41 : decode cX12_init 41 = .ok (.newarray .int, 2) := by decide +kernel
theorem dX12_init_43 : decode cX12_init 43 = .ok (.putfield 25, 3) := by decide +kernel
theorem dX12_init_46 : decode cX12_init 46 = .ok (.aload_n 0, 1) := by decide +kernel
theorem dX12_init_47 : decode cX12_init 47 = .ok (.iconst 2, 1) := by decide +kernel
theorem dX12_init_48 : decode cX12_init 48 = .ok (.newarray .int, 2) := by decide +kernel
theorem dX12_init_50 : decode cX12_init 50 = .ok (.putfield 28, 3) := by decide +kernel
theorem dX12_init_53 : decode cX12_init 53 = .ok (.aload_n 0, 1) := by decide +kernel
theorem dX12_init_54 : decode cX12_init 54 = .ok (.iconst 2, 1) := by decide +kernel
theorem dX12_init_55 : decode cX12_init 55 = .ok (.newarray .int, 2) := by decide +kernel
theorem dX12_init_57 : decode cX12_init 57 = .ok (.putfield 31, 3) := by decide +kernel
theorem dX12_init_60 : decode cX12_init 60 = .ok (.aload_n 0, 1) := by decide +kernel
theorem dX12_init_61 : decode cX12_init 61 = .ok (.iconst 2, 1) := by decide +kernel
theorem dX12_init_62 : decode cX12_init 62 = .ok (.newarray .int, 2) := by decide +kernel
theorem dX12_init_64 : decode cX12_init 64 = .ok (.putfield 34, 3) := by decide +kernel
theorem dX12_init_67 : decode cX12_init 67 = .ok (.aload_n 0, 1) := by decide +kernel
theorem dX12_init_68 : decode cX12_init 68 = .ok (.iconst 3, 1) := by decide +kernel
theorem dX12_init_69 : decode cX12_init 69 = .ok (.newarray .int, 2) := by decide +kernel
theorem dX12_init_71 : decode cX12_init 71 = .ok (.putfield 37, 3) := by decide +kernel
theorem dX12_init_74 : decode cX12_init 74 = .ok (.aload_n 0, 1) := by decide +kernel
theorem dX12_init_75 : decode cX12_init 75 = .ok (.iconst 3, 1) := by decide +kernel
theorem dX12_init_76 : decode cX12_init 76 = .ok (.newarray .int, 2) := by decide +kernel
theorem dX12_init_78 : decode cX12_init 78 = .ok (.putfield 40, 3) := by decide +kernel
theorem dX12_init_81 : decode cX12_init 81 = .ok (.aload_n 0, 1) := by decide +kernel
theorem dX12_init_82 : decode cX12_init 82 = .ok (.iconst 3, 1) := by decide +kernel
theorem dX12_init_83 : decode cX12_init 83 = .ok (.newarray .int, 2) := by decide +kernel
theorem dX12_init_85 : decode cX12_init 85 = .ok (.putfield 43, 3) := by decide +kernel
theorem dX12_init_88 : decode cX12_init 88 = .ok (.aload_n 0, 1) := by decide +kernel
theorem dX12_init_89 : decode cX12_init 89 = .ok (.iconst 3, 1) := by decide +kernel
theorem dX12_init_90 : decode cX12_init 90 = .ok (.newarray .int, 2) := by decide +kernel
theorem dX12_init_92 : decode cX12_init 92 = .ok (.putfield 46, 3) := by decide +kernel
theorem dX12_init_95 : decode cX12_init 95 = .ok (.aload_n 0, 1) := by decide +kernel
theorem dX12_init_96 : decode cX12_init 96 = .ok (.bipush 24, 2) := by decide +kernel
theorem dX12_init_98 : decode cX12_init 98 = .ok (.newarray .int, 2) := by decide +kernel
theorem dX12_init_100 : decode cX12_init 100 = .ok (.putfield 49, 3) := by decide +kernel
theorem dX12_init_103 : decode cX12_init 103 = .ok (.aload_n 0, 1) := by decide +kernel
theorem dX12_init_104 : decode cX12_init 104 = .ok (.bipush 24, 2) := by decide +kernel
theorem dX12_init_106 : decode cX12_init 106 = .ok (.newarray .int, 2) := by decide +kernel
theorem dX12_init_108 : decode cX12_init 108 = .ok (.putfield 52, 3) := by decide +kernel
theorem dX12_init_111 : decode cX12_init 111 = .ok (.aload_n 0, 1) := by decide +kernel
theorem dX12_init_112 : decode cX12_init 112 = .ok (.iconst 3, 1) := by decide +kernel
theorem dX12_init_113 : decode cX12_init 113 = .ok (.iconst 4, 1) := by decide +kernel
theorem dX12_init_114 : decode cX12_init 114 = .ok (.multianewarray 55 2, 4) := by decide +kernel
theorem dX12_init_118 : decode cX12_init 118 = .ok (.putfield 57, 3) := by decide +kernel
theorem dX12_init_121 : decode cX12_init 121 = .ok (.aload_n 0, 1) := by decide +kernel
theorem dX12_init_122 : decode cX12_init 122 = .ok (.iconst 3, 1) := by decide +kernel
theorem dX12_init_123 : decode cX12_init 123 = .ok (.iconst 4, 1) := by decide +kernel
theorem dX12_init_124 : decode cX12_init 124 = .ok (.multianewarray 55 2, 4) := by decide +kernel
theorem dX12_init_128 : decode cX12_init 128 = .ok (.putfield 60, 3) := by decide +kernel
theorem dX12_init_131 : decode cX12_init 131 = .ok (.aload_n 0, 1) := by decide +kernel
theorem dX12_init_132 : decode cX12_init 132 = .ok (.aload_n 1, 1) := by decide +kernel
theorem dX12_init_133 : decode cX12_init 133 = .ok (.iconst 3, 1) := by decide +kernel
theorem dX12_init_134 : decode cX12_init 134 = .ok (.invokevirtual 63, 3) := by decide +kernel
theorem dX12_init_137 : decode cX12_init 137 = .ok (.putfield 69, 3) := by decide +kernel
theorem dX12_init_140 : decode cX12_init 140 = .ok (.aload_n 0, 1) := by decide +kernel
theorem dX12_init_141 : decode cX12_init 141 = .ok (.aload_n 1, 1) := by decide +kernel
theorem dX12_init_142 : decode cX12_init 142 = .ok (.iconst 3, 1) := by decide +kernel
theorem dX12_init_143 : decode cX12_init 143 = .ok (.invokevirtual 63, 3) := by decide +kernel
theorem dX12_init_146 : decode cX12_init 146 = .ok (.putfield 73, 3) := by decide +kernel
theorem dX12_init_149 : decode cX12_init 149 = .ok (.aload_n 0, 1) := by decide +kernel
theorem dX12_init_150 : decode cX12_init 150 = .ok (.iconst 1, 1) := by decide +kernel
theorem dX12_init_151 : decode cX12_init 151 = .ok (.aload_n 1, 1) := by decide +kernel
theorem dX12_init_152 : decode cX12_init 152 = .ok (.iconst 3, 1) := by decide +kernel
theorem dX12_init_153 : decode cX12_init 153 = .ok (.invokevirtual 63, 3) := by decide +kernel
theorem dX12_init_156 : decode cX12_init 156 = .ok (.iadd, 1) := by decide +kernel
theorem dX12_init_157 : decode cX12_init 157 = .ok (.putfield 76, 3) := by decide +kernel
theorem dX12_init_160 : decode cX12_init 160 = .ok (.aload_n 0, 1) := by decide +kernel
theorem dX12_init_161 : decode cX12_init 161 = .ok (.sipush 400, 3) := by decide +kernel
theorem dX12_init_164 : decode cX12_init 164 = .ok (.aload_n 1, 1) := by decide +kernel
theorem dX12_init_165 : decode cX12_init 165 = .ok (.bipush 100, 2) := by decide +kernel
theorem dX12_init_167 : decode cX12_init 167 = .ok (.invokevirtual 63, 3) := by decide +kernel
theorem dX12_init_170 : decode cX12_init 170 = .ok (.iadd, 1) := by decide +kernel
theorem dX12_init_171 : decode cX12_init 171 = .ok (.putfield 79, 3) := by decide +kernel
theorem dX12_init_174 : decode cX12_init 174 = .ok (.aload_n 0, 1) := by decide +kernel
theorem dX12_init_175 : decode cX12_init 175 = .ok (.bipush 40, 2) := by decide +kernel
theorem dX12_init_177 : decode cX12_init 177 = .ok (.aload_n 1, 1) := by decide +kernel
theorem dX12_init_178 : decode cX12_init 178 = .ok (.bipush 60, 2) := by decide +kernel
theorem dX12_init_180 : decode cX12_init 180 = .ok (.invokevirtual 63, 3) := by decide +kernel
theorem dX12_init_183 : decode cX12_init 183 = .ok (.iadd, 1) := by decide +kernel
theorem dX12_init_184 : decode cX12_init 184 = .ok (.putfield 82, 3) := by decide +kernel
theorem dX12_init_187 : decode cX12_init 187 = .ok (.aload_n 0, 1) := by decide +kernel
theorem dX12_init_188 : decode cX12_init 188 = .ok (.aload_n 0, 1) := by decide +kernel
theorem dX12_init_189 : decode cX12_init 189 = .ok (.getfield 79, 3) := by decide +kernel
theorem dX12_init_192 : decode cX12_init 192 = .ok (.aload_n 1, 1) := by decide +kernel
theorem dX12_init_193 : decode cX12_init 193 = .ok (.bipush 8, 2) := by decide +kernel
theorem dX12_init_195 : decode cX12_init 195 = .ok (.invokevirtual 63, 3) := by decide +kernel
theorem dX12_init_198 : decode cX12_init 198 = .ok (.aload_n 0, 1) := by decide +kernel
theorem dX12_init_199 : decode cX12_init 199 = .ok (.getfield 82, 3) := by decide +kernel
theorem dX12_init_202 : decode cX12_init 202 = .ok (.imul, 1) := by decide +kernel
theorem dX12_init_203 : decode cX12_init 203 = .ok (.iadd, 1) := by decide +kernel
theorem dX12_init_204 : decode cX12_init 204 = .ok (.aload_n 1, 1) := by decide +kernel
theorem dX12_init_205 : decode cX12_init 205 = .ok (.bipush 40, 2) := by decide +kernel
theorem dX12_init_207 : decode cX12_init 207 = .ok (.invokevirtual 63, 3) := by decide +kernel
theorem dX12_init_210 : decode cX12_init 210 = .ok (.iadd, 1) := by decide +kernel
theorem dX12_init_211 : decode cX12_init 211 = .ok (.putfield 85, 3) := by decide +kernel
theorem dX12_init_214 : decode cX12_init 214 = .ok (.aload_n 0, 1) := by decide +kernel
theorem dX12_init_215 : decode cX12_init 215 = .ok (.aload_n 1, 1) := by decide +kernel
theorem dX12_init_216 : decode cX12_init 216 = .ok (.bipush 20, 2) := by decide +kernel
theorem dX12_init_218 : decode cX12_init 218 = .ok (.invokevirtual 63, 3) := by decide +kernel
theorem dX12_init_221 : decode cX12_init 221 = .ok (.putfield 88, 3) := by decide +kernel
theorem dX12_init_224 : decode cX12_init 224 = .ok (.aload_n 0, 1) := by decide +kernel
theorem dX12_init_225 : decode cX12_init 225 = .ok (.aload_n 1, 1) := by decide +kernel
theorem dX12_init_226 : decode cX12_init 226 = .ok (.bipush 20, 2) := by decide +kernel
theorem dX12_init_228 : decode cX12_init 228 = .ok (.invokevirtual 63, 3) := by decide +kernel
theorem dX12_init_231 : decode cX12_init 231 = .ok (.putfield 91, 3) := by decide +kernel
theorem dX12_init_234 : decode cX12_init 234 = .ok (.aload_n 0, 1) := by decide +kernel
theorem dX12_init_235 : decode cX12_init 235 = .ok (.aload_n 1, 1) := by decide +kernel
theorem dX12_init_236 : decode cX12_init 236 = .ok (.bipush 90, 2) := by decide +kernel
theorem dX12_init_238 : decode cX12_init 238 = .ok (.invokevirtual 63, 3) := by decide +kernel
theorem dX12_init_241 : decode cX12_init 241 = .ok (.putfield 94, 3) := by decide +kernel
theorem dX12_init_244 : decode cX12_init 244 = .ok (.aload_n 0, 1) := by decide +kernel
theorem dX12_init_245 : decode cX12_init 245 = .ok (.new 97, 3) := by decide +kernel
theorem dX12_init_248 : decode cX12_init 248 = .ok (.dup, 1) := by decide +kernel
theorem dX12_init_249 : decode cX12_init 249 = .ok (.invokespecial 99, 3) := by decide +kernel
theorem dX12_init_252 : decode cX12_init 252 = .ok (.ldc 100, 2) := by decide +kernel
theorem dX12_init_254 : decode cX12_init 254 = .ok (.invokevirtual 102, 3) := by decide +kernel
theorem dX12_init_257 : decode cX12_init 257 = .ok (.aload_n 0, 1) := by decide +kernel
theorem dX12_init_258 : decode cX12_init 258 = .ok (.getfield 79, 3) := by decide +kernel
theorem dX12_init_261 : decode cX12_init 261 = .ok (.invokevirtual 106, 3) := by decide +kernel
theorem dX12_init_264 : decode cX12_init 264 = .ok (.ldc 109, 2) := by decide +kernel
theorem dX12_init_266 : decode cX12_init 266 = .ok (.invokevirtual 102, 3) := by decide +kernel
theorem dX12_init_269 : decode cX12_init 269 = .ok (.aload_n 0, 1) := by decide +kernel
theorem dX12_init_270 : decode cX12_init 270 = .ok (.getfield 85, 3) := by decide +kernel
theorem dX12_init_273 : decode cX12_init 273 = .ok (.invokevirtual 106, 3) := by decide +kernel
theorem dX12_init_276 : decode cX12_init 276 = .ok (.ldc 111, 2) := by decide +kernel
theorem dX12_init_278 : decode cX12_init 278 = .ok (.invokevirtual 102, 3) := by decide +kernel
theorem dX12_init_281 : decode cX12_init 281 = .ok (.aload_n 0, 1) := by decide +kernel
theorem dX12_init_282 : decode cX12_init 282 = .ok (.getfield 82, 3) := by decide +kernel
theorem dX12_init_285 : decode cX12_init 285 = .ok (.invokevirtual 106, 3) := by decide +kernel
theorem dX12_init_288 : decode cX12_init 288 = .ok (.ldc 113, 2) := by decide +kernel
theorem dX12_init_290 : decode cX12_init 290 = .ok (.invokevirtual 102, 3) := by decide +kernel
theorem dX12_init_293 : decode cX12_init 293 = .ok (.aload_n 0, 1) := by decide +kernel
theorem dX12_init_294 : decode cX12_init 294 = .ok (.getfield 88, 3) := by decide +kernel
theorem dX12_init_297 : decode cX12_init 297 = .ok (.invokevirtual 106, 3) := by decide +kernel
theorem dX12_init_300 : decode cX12_init 300 = .ok (.ldc 109, 2) := by decide +kernel
theorem dX12_init_302 : decode cX12_init 302 = .ok (.invokevirtual 102, 3) := by decide +kernel
theorem dX12_init_305 : decode cX12_init 305 = .ok (.aload_n 0, 1) := by decide +kernel
theorem dX12_init_306 : decode cX12_init 306 = .ok (.getfield 91, 3) := by decide +kernel
theorem dX12_init_309 : decode cX12_init 309 = .ok (.invokevirtual 106, 3) := by decide +kernel
theorem dX12_init_312 : decode cX12_init 312 = .ok (.ldc 115, 2) := by decide +kernel
theorem dX12_init_314 : decode cX12_init 314 = .ok (.invokevirtual 102, 3) := by decide +kernel
theorem dX12_init_317 : decode cX12_init 317 = .ok (.aload_n 0, 1) := by decide +kernel
theorem dX12_init_318 : decode cX12_init 318 = .ok (.getfield 94, 3) := by decide +kernel
theorem dX12_init_321 : decode cX12_init 321 = .ok (.invokevirtual 106, 3) := by decide +kernel
theorem dX12_init_324 : decode cX12_init 324 = .ok (.ldc 117, 2) := by decide +kernel
theorem dX12_init_326 : decode cX12_init 326 = .ok (.invokevirtual 102, 3) := by decide +kernel
theorem dX12_init_329 : decode cX12_init 329 = .ok (.invokevirtual 119, 3) := by decide +kernel
theorem dX12_init_332 : decode cX12_init 332 = .ok (.putfield 123, 3) := by decide +kernel
theorem dX12_init_335 : decode cX12_init 335 = .ok (.iconst 0, 1) := by decide +kernel
theorem dX12_init_336 : decode cX12_init 336 = .ok (.istore_n 2, 1) := by decide +kernel
theorem dX12_init_356 : decode cX12_init 356 = .ok (.aload_n 1, 1) := by decide +kernel
theorem dX12_init_357 : decode cX12_init 357 = .ok (.iconst 3, 1) := by decide +kernel
theorem dX12_init_358 : decode cX12_init 358 = .ok (.invokevirtual 63, 3) := by decide +kernel
theorem dX12_init_361 : decode cX12_init 361 = .ok (.istore_n 2, 1) := by decide +kernel
theorem dX12_init_469 : decode cX12_init 469 = .ok (.iconst 0, 1) := by decide +kernel
theorem dX12_init_470 : decode cX12_init 470 = .ok (.istore_n 2, 1) := by decide +kernel
theorem dX12_init_491 : decode cX12_init 491 = .ok (.iconst 0, 1) := by decide +kernel
theorem dX12_init_492 : decode cX12_init 492 = .ok (.istore_n 2, 1) := by decide +kernel
theorem dX12_init_654 : decode cX12_init 654 = .ok (.iconst 0, 1) := by decide +kernel
theorem dX12_init_655 : decode cX12_init 655 = .ok (.istore_n 2, 1) := by decide +kernel
theorem dX12_init_676 : decode cX12_init 676 = .ok (.return_, 1) := by decide +kernel
set_option maxHeartbeats 8000000 in
set_option maxRecDepth 100000 in
theorem n_ctor {l : Launch} {g : GL} (hg : gZ g = 1) {x0 : Int32} (hDr : va_at (gD g) vwCl (ga g 202, .inr (13, [.int x0])) (gH g)) : Met l yX12_init [Cond.code yX12_init cX12_init 4 none] (rmd 9 360 240000) (Pcc l g 178 [.ref (ga g 178), .ref (ga g 202)] zm_0) (QI g) 360 240000 (gA g) := by
  refine Met.ofW (cc := cX12_init) (maxL := 4) (ret := none) (by decide) rfl ?_
  intro p e s m args below meth c s₁ B hml hv
  obtain ⟨rfl, hE, hLo, hWd⟩ := hv
  have hr : meth.sig.returnType = none := B.returns
  have hnm : meth.name = "<init>" := (name_of_methodNamed B.named B.method).1
  have C : Cx l g p s m meth c cX12_init 4 RX12 := ⟨B.exec, B.bytes, hml, findClass_of_methodNamed B.named, hE, hLo, B.notSynchronized⟩
  have S : StL g 178 s zm_0 s.heap [] := ⟨hWd, va_S.rf⟩
  have hx := C.1
  have hb := C.2.1
  have hl := lv_entry ([.ref (ga g 178), .ref (ga g 202)]) (n := 4) (Nat.le_of_ble_eq_true rfl)
  rw [lg_entry_eq]
  generalize (lg_sl ([.ref (ga g 178), .ref (ga g 202)]) ++ List.replicate (4 - (lg_sl ([.ref (ga g 178), .ref (ga g 202)])).length) Slot.unset).toArray = ls at hl ⊢
  have hl : lv_has ls 4 [(0, .ref (ga g 178)), (1, .ref (ga g 202))] := hl
  generalize hH0 : s.heap = H at S ⊢
  generalize hlc : ([] : List Loc) = locs at S ⊢
  generalize hRm : (headSpec [Cond.code yX12_init cX12_init 4 none] (rmd 9 360 240000)).room = R0
  have hRf : R0.frames = 9 := by rw [← hRm]; rfl
  have hRl : R0.locals = 576 := by rw [← hRm]; rfl
  have hRc : R0.cells = 360 := by rw [← hRm]; rfl
  have hRs : R0.slots = 240000 := by rw [← hRm]; rfl
  refine lv_aload_n hx hb dX12_init_0 rfl (lv_at hl 0 rfl) ?_
  refine a_obj C ol_RX12 in_obj cd_obj hl.1 dX12_init_1 (by omega) (by show 12 ≤ R0.locals; omega) ?_
  refine lv_aload_n hx hb dX12_init_4 rfl (lv_at hl 0 rfl) ?_
  refine lv_iconst (v := (2 : Int32)) hx hb dX12_init_5 (by decide) ?_
  refine a_newI C S (by decide) zr_zm_0 ac_int (len := 2) (by decide) rfl (by decide) (by decide) (by omega) (by omega) dX12_init_6 (fun H S hz => ?_)
  have S : StL g 179 s zm_1 H locs := S
  refine a_putF C S KX12 (⟨by decide, by decide, by decide⟩ : Ok 179 178 12) 9 (by decide) rfl rfl hnm (by omega) (fun _ => rfl) (fun _ => rfl) rfl fl_RX12_7 dX12_init_8 (fun H locs S => ?_)
  have S : StL g 179 s zm_2 H locs := S
  refine lv_aload_n hx hb dX12_init_11 rfl (lv_at hl 0 rfl) ?_
  refine lv_iconst (v := (2 : Int32)) hx hb dX12_init_12 (by decide) ?_
  refine a_newI C S (by decide) zr_zm_2 ac_int (len := 2) (by decide) rfl (by decide) (by decide) (by omega) (by omega) dX12_init_13 (fun H S hz => ?_)
  have S : StL g 180 s zm_3 H locs := S
  refine a_putF C S KX12 (⟨by decide, by decide, by decide⟩ : Ok 180 178 12) 10 (by decide) rfl rfl hnm (by omega) (fun _ => rfl) (fun _ => rfl) rfl fl_RX12_13 dX12_init_15 (fun H locs S => ?_)
  have S : StL g 180 s zm_4 H locs := S
  refine lv_aload_n hx hb dX12_init_18 rfl (lv_at hl 0 rfl) ?_
  refine lv_iconst (v := (2 : Int32)) hx hb dX12_init_19 (by decide) ?_
  refine a_newI C S (by decide) zr_zm_4 ac_int (len := 2) (by decide) rfl (by decide) (by decide) (by omega) (by omega) dX12_init_20 (fun H S hz => ?_)
  have S : StL g 181 s zm_5 H locs := S
  refine a_putF C S KX12 (⟨by decide, by decide, by decide⟩ : Ok 181 178 12) 11 (by decide) rfl rfl hnm (by omega) (fun _ => rfl) (fun _ => rfl) rfl fl_RX12_16 dX12_init_22 (fun H locs S => ?_)
  have S : StL g 181 s zm_6 H locs := S
  refine lv_aload_n hx hb dX12_init_25 rfl (lv_at hl 0 rfl) ?_
  refine lv_iconst (v := (2 : Int32)) hx hb dX12_init_26 (by decide) ?_
  refine a_newI C S (by decide) zr_zm_6 ac_int (len := 2) (by decide) rfl (by decide) (by decide) (by omega) (by omega) dX12_init_27 (fun H S hz => ?_)
  have S : StL g 182 s zm_7 H locs := S
  refine a_putF C S KX12 (⟨by decide, by decide, by decide⟩ : Ok 182 178 12) 12 (by decide) rfl rfl hnm (by omega) (fun _ => rfl) (fun _ => rfl) rfl fl_RX12_19 dX12_init_29 (fun H locs S => ?_)
  have S : StL g 182 s zm_8 H locs := S
  refine lv_aload_n hx hb dX12_init_32 rfl (lv_at hl 0 rfl) ?_
  refine lv_iconst (v := (2 : Int32)) hx hb dX12_init_33 (by decide) ?_
  refine a_newI C S (by decide) zr_zm_8 ac_int (len := 2) (by decide) rfl (by decide) (by decide) (by omega) (by omega) dX12_init_34 (fun H S hz => ?_)
  have S : StL g 183 s zm_9 H locs := S
  refine a_putF C S KX12 (⟨by decide, by decide, by decide⟩ : Ok 183 178 12) 13 (by decide) rfl rfl hnm (by omega) (fun _ => rfl) (fun _ => rfl) rfl fl_RX12_22 dX12_init_36 (fun H locs S => ?_)
  have S : StL g 183 s zm_10 H locs := S
  refine lv_aload_n hx hb dX12_init_39 rfl (lv_at hl 0 rfl) ?_
  refine lv_iconst (v := (2 : Int32)) hx hb dX12_init_40 (by decide) ?_
  refine a_newI C S (by decide) zr_zm_10 ac_int (len := 2) (by decide) rfl (by decide) (by decide) (by omega) (by omega) dX12_init_41 (fun H S hz => ?_)
  have S : StL g 184 s zm_11 H locs := S
  refine a_putF C S KX12 (⟨by decide, by decide, by decide⟩ : Ok 184 178 12) 14 (by decide) rfl rfl hnm (by omega) (fun _ => rfl) (fun _ => rfl) rfl fl_RX12_25 dX12_init_43 (fun H locs S => ?_)
  have S : StL g 184 s zm_12 H locs := S
  refine lv_aload_n hx hb dX12_init_46 rfl (lv_at hl 0 rfl) ?_
  refine lv_iconst (v := (2 : Int32)) hx hb dX12_init_47 (by decide) ?_
  refine a_newI C S (by decide) zr_zm_12 ac_int (len := 2) (by decide) rfl (by decide) (by decide) (by omega) (by omega) dX12_init_48 (fun H S hz => ?_)
  have S : StL g 185 s zm_13 H locs := S
  refine a_putF C S KX12 (⟨by decide, by decide, by decide⟩ : Ok 185 178 12) 15 (by decide) rfl rfl hnm (by omega) (fun _ => rfl) (fun _ => rfl) rfl fl_RX12_28 dX12_init_50 (fun H locs S => ?_)
  have S : StL g 185 s zm_14 H locs := S
  refine lv_aload_n hx hb dX12_init_53 rfl (lv_at hl 0 rfl) ?_
  refine lv_iconst (v := (2 : Int32)) hx hb dX12_init_54 (by decide) ?_
  refine a_newI C S (by decide) zr_zm_14 ac_int (len := 2) (by decide) rfl (by decide) (by decide) (by omega) (by omega) dX12_init_55 (fun H S hz => ?_)
  have S : StL g 186 s zm_15 H locs := S
  refine a_putF C S KX12 (⟨by decide, by decide, by decide⟩ : Ok 186 178 12) 16 (by decide) rfl rfl hnm (by omega) (fun _ => rfl) (fun _ => rfl) rfl fl_RX12_31 dX12_init_57 (fun H locs S => ?_)
  have S : StL g 186 s zm_16 H locs := S
  refine lv_aload_n hx hb dX12_init_60 rfl (lv_at hl 0 rfl) ?_
  refine lv_iconst (v := (2 : Int32)) hx hb dX12_init_61 (by decide) ?_
  refine a_newI C S (by decide) zr_zm_16 ac_int (len := 2) (by decide) rfl (by decide) (by decide) (by omega) (by omega) dX12_init_62 (fun H S hz => ?_)
  have S : StL g 187 s zm_17 H locs := S
  refine a_putF C S KX12 (⟨by decide, by decide, by decide⟩ : Ok 187 178 12) 17 (by decide) rfl rfl hnm (by omega) (fun _ => rfl) (fun _ => rfl) rfl fl_RX12_34 dX12_init_64 (fun H locs S => ?_)
  have S : StL g 187 s zm_18 H locs := S
  refine lv_aload_n hx hb dX12_init_67 rfl (lv_at hl 0 rfl) ?_
  refine lv_iconst (v := (3 : Int32)) hx hb dX12_init_68 (by decide) ?_
  refine a_newI C S (by decide) zr_zm_18 ac_int (len := 3) (by decide) rfl (by decide) (by decide) (by omega) (by omega) dX12_init_69 (fun H S hz => ?_)
  have S : StL g 188 s zm_19 H locs := S
  refine a_putF C S KX12 (⟨by decide, by decide, by decide⟩ : Ok 188 178 12) 18 (by decide) rfl rfl hnm (by omega) (fun _ => rfl) (fun _ => rfl) rfl fl_RX12_37 dX12_init_71 (fun H locs S => ?_)
  have S : StL g 188 s zm_20 H locs := S
  refine lv_aload_n hx hb dX12_init_74 rfl (lv_at hl 0 rfl) ?_
  refine lv_iconst (v := (3 : Int32)) hx hb dX12_init_75 (by decide) ?_
  refine a_newI C S (by decide) zr_zm_20 ac_int (len := 3) (by decide) rfl (by decide) (by decide) (by omega) (by omega) dX12_init_76 (fun H S hz => ?_)
  have S : StL g 189 s zm_21 H locs := S
  refine a_putF C S KX12 (⟨by decide, by decide, by decide⟩ : Ok 189 178 12) 19 (by decide) rfl rfl hnm (by omega) (fun _ => rfl) (fun _ => rfl) rfl fl_RX12_40 dX12_init_78 (fun H locs S => ?_)
  have S : StL g 189 s zm_22 H locs := S
  refine lv_aload_n hx hb dX12_init_81 rfl (lv_at hl 0 rfl) ?_
  refine lv_iconst (v := (3 : Int32)) hx hb dX12_init_82 (by decide) ?_
  refine a_newI C S (by decide) zr_zm_22 ac_int (len := 3) (by decide) rfl (by decide) (by decide) (by omega) (by omega) dX12_init_83 (fun H S hz => ?_)
  have S : StL g 190 s zm_23 H locs := S
  refine a_putF C S KX12 (⟨by decide, by decide, by decide⟩ : Ok 190 178 12) 20 (by decide) rfl rfl hnm (by omega) (fun _ => rfl) (fun _ => rfl) rfl fl_RX12_43 dX12_init_85 (fun H locs S => ?_)
  have S : StL g 190 s zm_24 H locs := S
  refine lv_aload_n hx hb dX12_init_88 rfl (lv_at hl 0 rfl) ?_
  refine lv_iconst (v := (3 : Int32)) hx hb dX12_init_89 (by decide) ?_
  refine a_newI C S (by decide) zr_zm_24 ac_int (len := 3) (by decide) rfl (by decide) (by decide) (by omega) (by omega) dX12_init_90 (fun H S hz => ?_)
  have S : StL g 191 s zm_25 H locs := S
  refine a_putF C S KX12 (⟨by decide, by decide, by decide⟩ : Ok 191 178 12) 21 (by decide) rfl rfl hnm (by omega) (fun _ => rfl) (fun _ => rfl) rfl fl_RX12_46 dX12_init_92 (fun H locs S => ?_)
  have S : StL g 191 s zm_26 H locs := S
  refine lv_aload_n hx hb dX12_init_95 rfl (lv_at hl 0 rfl) ?_
  refine lv_bipush (v := (24 : Int32)) hx hb dX12_init_96 (by decide) ?_
  refine a_newI C S (by decide) zr_zm_26 ac_int (len := 24) (by decide) rfl (by decide) (by decide) (by omega) (by omega) dX12_init_98 (fun H S hz => ?_)
  have S : StL g 192 s zm_27 H locs := S
  refine a_putF C S KX12 (⟨by decide, by decide, by decide⟩ : Ok 192 178 12) 22 (by decide) rfl rfl hnm (by omega) (fun _ => rfl) (fun _ => rfl) rfl fl_RX12_49 dX12_init_100 (fun H locs S => ?_)
  have S : StL g 192 s zm_28 H locs := S
  refine lv_aload_n hx hb dX12_init_103 rfl (lv_at hl 0 rfl) ?_
  refine lv_bipush (v := (24 : Int32)) hx hb dX12_init_104 (by decide) ?_
  refine a_newI C S (by decide) zr_zm_28 ac_int (len := 24) (by decide) rfl (by decide) (by decide) (by omega) (by omega) dX12_init_106 (fun H S hz => ?_)
  have S : StL g 193 s zm_29 H locs := S
  refine a_putF C S KX12 (⟨by decide, by decide, by decide⟩ : Ok 193 178 12) 23 (by decide) rfl rfl hnm (by omega) (fun _ => rfl) (fun _ => rfl) rfl fl_RX12_52 dX12_init_108 (fun H locs S => ?_)
  have S : StL g 193 s zm_30 H locs := S
  refine lv_aload_n hx hb dX12_init_111 rfl (lv_at hl 0 rfl) ?_
  refine lv_iconst (v := (3 : Int32)) hx hb dX12_init_112 (by decide) ?_
  refine lv_iconst (v := (4 : Int32)) hx hb dX12_init_113 (by decide) ?_
  refine a_mna C S (N' := 3) (K' := 4) (by decide) zr_zm_30 ⟨cl_RX12_55, ao_int, ac_int⟩ (by decide) (by decide) (by decide) (by decide) (by decide) (by decide) (by decide +kernel) (by decide +kernel) (by omega) (by omega) dX12_init_114 (fun H S => ?_)
  have S : StL g 197 s zm_31 H locs := S
  refine a_putF C S KX12 (⟨by decide, by decide, by decide⟩ : Ok 197 178 12) 24 (by decide) rfl rfl hnm (by omega) (fun _ => rfl) (fun _ => rfl) rfl fl_RX12_57 dX12_init_118 (fun H locs S => ?_)
  have S : StL g 197 s zm_32 H locs := S
  refine lv_aload_n hx hb dX12_init_121 rfl (lv_at hl 0 rfl) ?_
  refine lv_iconst (v := (3 : Int32)) hx hb dX12_init_122 (by decide) ?_
  refine lv_iconst (v := (4 : Int32)) hx hb dX12_init_123 (by decide) ?_
  refine a_mna C S (N' := 3) (K' := 4) (by decide) zr_zm_32 ⟨cl_RX12_55, ao_int, ac_int⟩ (by decide) (by decide) (by decide) (by decide) (by decide) (by decide) (by decide +kernel) (by decide +kernel) (by omega) (by omega) dX12_init_124 (fun H S => ?_)
  have S : StL g 201 s zm_33 H locs := S
  refine a_putF C S KX12 (⟨by decide, by decide, by decide⟩ : Ok 201 178 12) 25 (by decide) rfl rfl hnm (by omega) (fun _ => rfl) (fun _ => rfl) rfl fl_RX12_60 dX12_init_128 (fun H locs S => ?_)
  have S : StL g 201 s zm_34 H locs := S
  have S : StL g 201 s zF H locs := S
  have hHs : gb g + 202 ≤ H.size := by
    have h := (S.1.1 201 (by decide) (by rw [S.1.2.1]; decide)).lt
    have e : ga g 201 = gb g + 201 := ga_lt (by decide)
    have h : ga g 201 < H.size := h
    omega
  have S := adopt S hDr
  generalize hs0 : up zF.1 202 0 x0 = σ at S
  have hσ : ∀ o j, o ≠ 202 → σ o j = zF.1 o j := fun o j ho => by rw [← hs0]; exact if_neg (by omega)
  have hz0 : ∀ o j, 177 < o → o ≠ 202 → σ o j = 0 := fun o j h1 h2 => (hσ o j h2).trans ((zr_zP o h1).1 j)
  have hRD := zF_rd
  have hSh := zF_ok
  generalize hL0 : zF.2.2.1 = L0 at S
  generalize hR0 : zF.2.1 = R at S hRD hSh
  clear hs0 hDr
  refine W.widen (k := 23) (n := 108) (by omega) (by omega) ?_
  refine lv_aload_n hx hb dX12_init_131 rfl (lv_at hl 0 rfl) ?_
  refine lv_aload_n hx hb dX12_init_132 rfl (lv_at hl 1 rfl) ?_
  refine lv_iconst (v := nI 3) hx hb dX12_init_133 (by decide) ?_
  refine d_next (n := 3) C S hSh (by decide) (by decide) ⟨cd_X13_next, ni_RX13, ml_RX12_63, in_X13_next, sl_X13_next⟩ ⟨by omega, by omega⟩ hl.1 (Nat.le_of_ble_eq_true rfl) ⟨by omega, by omega⟩ dX12_init_134 (fun x1 s2 H1 locs1 hx1 hf3 S hz hk => ?_)
  have hHs := Nat.le_trans hHs hz
  refine d_putFI C S KX12 ok178 0 (by decide) rfl rfl hnm rfl rfl rfl fl_RX12_69 dX12_init_137 (fun s4 H1 locs1 he5 hf6 S hz hk => ?_)
  have hHs := Nat.le_trans hHs hz
  refine lv_aload_n hx hb dX12_init_140 rfl (lv_at hl 0 rfl) ?_
  refine lv_aload_n hx hb dX12_init_141 rfl (lv_at hl 1 rfl) ?_
  refine lv_iconst (v := nI 3) hx hb dX12_init_142 (by decide) ?_
  refine d_next (n := 3) C S hSh (by decide) (by decide) ⟨cd_X13_next, ni_RX13, ml_RX12_63, in_X13_next, sl_X13_next⟩ ⟨by omega, by omega⟩ hl.1 (Nat.le_of_ble_eq_true rfl) ⟨by omega, by omega⟩ dX12_init_143 (fun x7 s8 H1 locs1 hx7 hf9 S hz hk => ?_)
  have hHs := Nat.le_trans hHs hz
  refine d_putFI C S KX12 ok178 1 (by decide) rfl rfl hnm rfl rfl rfl fl_RX12_73 dX12_init_146 (fun s10 H1 locs1 he11 hf12 S hz hk => ?_)
  have hHs := Nat.le_trans hHs hz
  refine lv_aload_n hx hb dX12_init_149 rfl (lv_at hl 0 rfl) ?_
  refine lv_iconst (v := nI 1) hx hb dX12_init_150 (by decide) ?_
  refine lv_aload_n hx hb dX12_init_151 rfl (lv_at hl 1 rfl) ?_
  refine lv_iconst (v := nI 3) hx hb dX12_init_152 (by decide) ?_
  refine d_next (n := 3) C S hSh (by decide) (by decide) ⟨cd_X13_next, ni_RX13, ml_RX12_63, in_X13_next, sl_X13_next⟩ ⟨by omega, by omega⟩ hl.1 (Nat.le_of_ble_eq_true rfl) ⟨by omega, by omega⟩ dX12_init_153 (fun x13 s14 H1 locs1 hx13 hf15 S hz hk => ?_)
  have hHs := Nat.le_trans hHs hz
  refine lv_iadd hx hb dX12_init_156 ?_
  rw [nI_add]
  refine d_putFI C S KX12 ok178 2 (by decide) rfl rfl hnm rfl rfl rfl fl_RX12_76 dX12_init_157 (fun s16 H1 locs1 he17 hf18 S hz hk => ?_)
  have hHs := Nat.le_trans hHs hz
  refine lv_aload_n hx hb dX12_init_160 rfl (lv_at hl 0 rfl) ?_
  refine lv_sipush (v := nI 400) hx hb dX12_init_161 (by decide) ?_
  refine lv_aload_n hx hb dX12_init_164 rfl (lv_at hl 1 rfl) ?_
  refine lv_bipush (v := nI 100) hx hb dX12_init_165 (by decide) ?_
  refine d_next (n := 100) C S hSh (by decide) (by decide) ⟨cd_X13_next, ni_RX13, ml_RX12_63, in_X13_next, sl_X13_next⟩ ⟨by omega, by omega⟩ hl.1 (Nat.le_of_ble_eq_true rfl) ⟨by omega, by omega⟩ dX12_init_167 (fun x19 s20 H1 locs1 hx19 hf21 S hz hk => ?_)
  have hHs := Nat.le_trans hHs hz
  refine lv_iadd hx hb dX12_init_170 ?_
  rw [nI_add]
  refine d_putFI C S KX12 ok178 3 (by decide) rfl rfl hnm rfl rfl rfl fl_RX12_79 dX12_init_171 (fun s22 H1 locs1 he23 hf24 S hz hk => ?_)
  have hHs := Nat.le_trans hHs hz
  refine lv_aload_n hx hb dX12_init_174 rfl (lv_at hl 0 rfl) ?_
  refine lv_bipush (v := nI 40) hx hb dX12_init_175 (by decide) ?_
  refine lv_aload_n hx hb dX12_init_177 rfl (lv_at hl 1 rfl) ?_
  refine lv_bipush (v := nI 60) hx hb dX12_init_178 (by decide) ?_
  refine d_next (n := 60) C S hSh (by decide) (by decide) ⟨cd_X13_next, ni_RX13, ml_RX12_63, in_X13_next, sl_X13_next⟩ ⟨by omega, by omega⟩ hl.1 (Nat.le_of_ble_eq_true rfl) ⟨by omega, by omega⟩ dX12_init_180 (fun x25 s26 H1 locs1 hx25 hf27 S hz hk => ?_)
  have hHs := Nat.le_trans hHs hz
  refine lv_iadd hx hb dX12_init_183 ?_
  rw [nI_add]
  refine d_putFI C S KX12 ok178 5 (by decide) rfl rfl hnm rfl rfl rfl fl_RX12_82 dX12_init_184 (fun s28 H1 locs1 he29 hf30 S hz hk => ?_)
  have hHs := Nat.le_trans hHs hz
  refine lv_aload_n hx hb dX12_init_187 rfl (lv_at hl 0 rfl) ?_
  refine lv_aload_n hx hb dX12_init_188 rfl (lv_at hl 0 rfl) ?_
  refine d_getI C S 3 (by decide) rfl rfl fl_RX12_79 dX12_init_189 ?_
  rw [show s28 178 3 = nI (400 + x19) from (show s28 178 3 = nI (400 + x19) from by rw [hf30 178 3 (by omega), hf27 178 3 (by omega), he23])]
  refine lv_aload_n hx hb dX12_init_192 rfl (lv_at hl 1 rfl) ?_
  refine lv_bipush (v := nI 8) hx hb dX12_init_193 (by decide) ?_
  refine d_next (n := 8) C S hSh (by decide) (by decide) ⟨cd_X13_next, ni_RX13, ml_RX12_63, in_X13_next, sl_X13_next⟩ ⟨by omega, by omega⟩ hl.1 (Nat.le_of_ble_eq_true rfl) ⟨by omega, by omega⟩ dX12_init_195 (fun x31 s32 H1 locs1 hx31 hf33 S hz hk => ?_)
  have hHs := Nat.le_trans hHs hz
  refine lv_aload_n hx hb dX12_init_198 rfl (lv_at hl 0 rfl) ?_
  refine d_getI C S 5 (by decide) rfl rfl fl_RX12_82 dX12_init_199 ?_
  rw [show s32 178 5 = nI (40 + x25) from (show s32 178 5 = nI (40 + x25) from by rw [hf33 178 5 (by omega), he29])]
  refine lv_imul hx hb dX12_init_202 ?_
  rw [pk_mul]
  have hw34 : x31 * (40 + x25) ≤ 7 * 99 := Nat.mul_le_mul (by omega) (by omega)
  generalize x31 * (40 + x25) = w34 at hw34 ⊢
  refine lv_iadd hx hb dX12_init_203 ?_
  rw [nI_add]
  refine lv_aload_n hx hb dX12_init_204 rfl (lv_at hl 1 rfl) ?_
  refine lv_bipush (v := nI 40) hx hb dX12_init_205 (by decide) ?_
  refine d_next (n := 40) C S hSh (by decide) (by decide) ⟨cd_X13_next, ni_RX13, ml_RX12_63, in_X13_next, sl_X13_next⟩ ⟨by omega, by omega⟩ hl.1 (Nat.le_of_ble_eq_true rfl) ⟨by omega, by omega⟩ dX12_init_207 (fun x35 s36 H1 locs1 hx35 hf37 S hz hk => ?_)
  have hHs := Nat.le_trans hHs hz
  refine lv_iadd hx hb dX12_init_210 ?_
  rw [nI_add]
  refine d_putFI C S KX12 ok178 4 (by decide) rfl rfl hnm rfl rfl rfl fl_RX12_85 dX12_init_211 (fun s38 H1 locs1 he39 hf40 S hz hk => ?_)
  have hHs := Nat.le_trans hHs hz
  refine lv_aload_n hx hb dX12_init_214 rfl (lv_at hl 0 rfl) ?_
  refine lv_aload_n hx hb dX12_init_215 rfl (lv_at hl 1 rfl) ?_
  refine lv_bipush (v := nI 20) hx hb dX12_init_216 (by decide) ?_
  refine d_next (n := 20) C S hSh (by decide) (by decide) ⟨cd_X13_next, ni_RX13, ml_RX12_63, in_X13_next, sl_X13_next⟩ ⟨by omega, by omega⟩ hl.1 (Nat.le_of_ble_eq_true rfl) ⟨by omega, by omega⟩ dX12_init_218 (fun x41 s42 H1 locs1 hx41 hf43 S hz hk => ?_)
  have hHs := Nat.le_trans hHs hz
  refine d_putFI C S KX12 ok178 6 (by decide) rfl rfl hnm rfl rfl rfl fl_RX12_88 dX12_init_221 (fun s44 H1 locs1 he45 hf46 S hz hk => ?_)
  have hHs := Nat.le_trans hHs hz
  refine lv_aload_n hx hb dX12_init_224 rfl (lv_at hl 0 rfl) ?_
  refine lv_aload_n hx hb dX12_init_225 rfl (lv_at hl 1 rfl) ?_
  refine lv_bipush (v := nI 20) hx hb dX12_init_226 (by decide) ?_
  refine d_next (n := 20) C S hSh (by decide) (by decide) ⟨cd_X13_next, ni_RX13, ml_RX12_63, in_X13_next, sl_X13_next⟩ ⟨by omega, by omega⟩ hl.1 (Nat.le_of_ble_eq_true rfl) ⟨by omega, by omega⟩ dX12_init_228 (fun x47 s48 H1 locs1 hx47 hf49 S hz hk => ?_)
  have hHs := Nat.le_trans hHs hz
  refine d_putFI C S KX12 ok178 7 (by decide) rfl rfl hnm rfl rfl rfl fl_RX12_91 dX12_init_231 (fun s50 H1 locs1 he51 hf52 S hz hk => ?_)
  have hHs := Nat.le_trans hHs hz
  refine lv_aload_n hx hb dX12_init_234 rfl (lv_at hl 0 rfl) ?_
  refine lv_aload_n hx hb dX12_init_235 rfl (lv_at hl 1 rfl) ?_
  refine lv_bipush (v := nI 90) hx hb dX12_init_236 (by decide) ?_
  refine d_next (n := 90) C S hSh (by decide) (by decide) ⟨cd_X13_next, ni_RX13, ml_RX12_63, in_X13_next, sl_X13_next⟩ ⟨by omega, by omega⟩ hl.1 (Nat.le_of_ble_eq_true rfl) ⟨by omega, by omega⟩ dX12_init_238 (fun x53 s54 H1 locs1 hx53 hf55 S hz hk => ?_)
  have hHs := Nat.le_trans hHs hz
  refine d_putFI C S KX12 ok178 8 (by decide) rfl rfl hnm rfl rfl rfl fl_RX12_94 dX12_init_241 (fun s56 H1 locs1 he57 hf58 S hz hk => ?_)
  have hHs := Nat.le_trans hHs hz
  refine lv_aload_n hx hb dX12_init_244 rfl (lv_at hl 0 rfl) ?_
  refine t_new C hg S hHs ⟨by omega, by omega⟩ hl.1 (Nat.le_of_ble_eq_true rfl) ⟨by omega, by omega⟩ dX12_init_245 dX12_init_248 dX12_init_249 (fun Z H1 locs1 hZe S hZ hH hk hB => ?_)
  refine x_ldcs C (k := 100) (tx := "day ") (ia := 10) (by decide) dX12_init_252 ?_
  refine t_cst (i := 10) C hg S hZ hH hB (by decide) (by simp only [List.length_nil]; omega) ⟨by omega, by omega⟩ hl.1 (Nat.le_of_ble_eq_true rfl) ⟨by omega, by omega⟩ dX12_init_254 (fun H1 locs1 S hz hk hB => ?_)
  have hH := Nat.le_trans hH hz
  refine lv_aload_n hx hb dX12_init_257 rfl (lv_at hl 0 rfl) ?_
  refine d_getI C S 3 (by decide) rfl rfl fl_RX12_79 dX12_init_258 ?_
  rw [show s56 178 3 = nI (400 + x19) from (show s56 178 3 = nI (400 + x19) from by rw [hf58 178 3 (by omega), hf55 178 3 (by omega), hf52 178 3 (by omega), hf49 178 3 (by omega), hf46 178 3 (by omega), hf43 178 3 (by omega), hf40 178 3 (by omega), hf37 178 3 (by omega), hf33 178 3 (by omega), hf30 178 3 (by omega), hf27 178 3 (by omega), he23])]
  refine t_int (n := 400 + x19) C hg S hZ hH hB (by omega) (by simp only [List.length_append, List.length_nil, List.length_cons, dec_len]; have : (kwL 10).length = 4 := rfl; omega) ⟨by omega, by omega⟩ hl.1 (Nat.le_of_ble_eq_true rfl) ⟨by omega, by omega⟩ dX12_init_261 (fun H1 locs1 S hz hk hB => ?_)
  have hH := Nat.le_trans hH hz
  refine x_ldcs C (k := 109) (tx := " ") (ia := 11) (by decide) dX12_init_264 ?_
  refine t_cst (i := 11) C hg S hZ hH hB (by decide) (by simp only [List.length_append, List.length_nil, List.length_cons, dec_len]; have : (kwL 10).length = 4 := rfl; have := dg_in (400 + x19); omega) ⟨by omega, by omega⟩ hl.1 (Nat.le_of_ble_eq_true rfl) ⟨by omega, by omega⟩ dX12_init_266 (fun H1 locs1 S hz hk hB => ?_)
  have hH := Nat.le_trans hH hz
  refine lv_aload_n hx hb dX12_init_269 rfl (lv_at hl 0 rfl) ?_
  refine d_getI C S 4 (by decide) rfl rfl fl_RX12_85 dX12_init_270 ?_
  rw [show s56 178 4 = nI (400 + x19 + w34 + x35) from (show s56 178 4 = nI (400 + x19 + w34 + x35) from by rw [hf58 178 4 (by omega), hf55 178 4 (by omega), hf52 178 4 (by omega), hf49 178 4 (by omega), hf46 178 4 (by omega), hf43 178 4 (by omega), he39])]
  refine t_int (n := 400 + x19 + w34 + x35) C hg S hZ hH hB (by omega) (by simp only [List.length_append, List.length_nil, List.length_cons, dec_len]; have : (kwL 10).length = 4 := rfl; have := dg_in (400 + x19); have : (kwL 11).length = 1 := rfl; omega) ⟨by omega, by omega⟩ hl.1 (Nat.le_of_ble_eq_true rfl) ⟨by omega, by omega⟩ dX12_init_273 (fun H1 locs1 S hz hk hB => ?_)
  have hH := Nat.le_trans hH hz
  refine x_ldcs C (k := 111) (tx := ";step ") (ia := 12) (by decide) dX12_init_276 ?_
  refine t_cst (i := 12) C hg S hZ hH hB (by decide) (by simp only [List.length_append, List.length_nil, List.length_cons, dec_len]; have : (kwL 10).length = 4 := rfl; have := dg_in (400 + x19); have : (kwL 11).length = 1 := rfl; have := dg_in (400 + x19 + w34 + x35); omega) ⟨by omega, by omega⟩ hl.1 (Nat.le_of_ble_eq_true rfl) ⟨by omega, by omega⟩ dX12_init_278 (fun H1 locs1 S hz hk hB => ?_)
  have hH := Nat.le_trans hH hz
  refine lv_aload_n hx hb dX12_init_281 rfl (lv_at hl 0 rfl) ?_
  refine d_getI C S 5 (by decide) rfl rfl fl_RX12_82 dX12_init_282 ?_
  rw [show s56 178 5 = nI (40 + x25) from (show s56 178 5 = nI (40 + x25) from by rw [hf58 178 5 (by omega), hf55 178 5 (by omega), hf52 178 5 (by omega), hf49 178 5 (by omega), hf46 178 5 (by omega), hf43 178 5 (by omega), hf40 178 5 (by omega), hf37 178 5 (by omega), hf33 178 5 (by omega), he29])]
  refine t_int (n := 40 + x25) C hg S hZ hH hB (by omega) (by simp only [List.length_append, List.length_nil, List.length_cons, dec_len]; have : (kwL 10).length = 4 := rfl; have := dg_in (400 + x19); have : (kwL 11).length = 1 := rfl; have := dg_in (400 + x19 + w34 + x35); have : (kwL 12).length = 6 := rfl; omega) ⟨by omega, by omega⟩ hl.1 (Nat.le_of_ble_eq_true rfl) ⟨by omega, by omega⟩ dX12_init_285 (fun H1 locs1 S hz hk hB => ?_)
  have hH := Nat.le_trans hH hz
  refine x_ldcs C (k := 113) (tx := ";close ") (ia := 13) (by decide) dX12_init_288 ?_
  refine t_cst (i := 13) C hg S hZ hH hB (by decide) (by simp only [List.length_append, List.length_nil, List.length_cons, dec_len]; have : (kwL 10).length = 4 := rfl; have := dg_in (400 + x19); have : (kwL 11).length = 1 := rfl; have := dg_in (400 + x19 + w34 + x35); have : (kwL 12).length = 6 := rfl; have := dg_in (40 + x25); omega) ⟨by omega, by omega⟩ hl.1 (Nat.le_of_ble_eq_true rfl) ⟨by omega, by omega⟩ dX12_init_290 (fun H1 locs1 S hz hk hB => ?_)
  have hH := Nat.le_trans hH hz
  refine lv_aload_n hx hb dX12_init_293 rfl (lv_at hl 0 rfl) ?_
  refine d_getI C S 6 (by decide) rfl rfl fl_RX12_88 dX12_init_294 ?_
  rw [show s56 178 6 = nI x41 from (show s56 178 6 = nI x41 from by rw [hf58 178 6 (by omega), hf55 178 6 (by omega), hf52 178 6 (by omega), hf49 178 6 (by omega), he45])]
  refine t_int (n := x41) C hg S hZ hH hB (by omega) (by simp only [List.length_append, List.length_nil, List.length_cons, dec_len]; have : (kwL 10).length = 4 := rfl; have := dg_in (400 + x19); have : (kwL 11).length = 1 := rfl; have := dg_in (400 + x19 + w34 + x35); have : (kwL 12).length = 6 := rfl; have := dg_in (40 + x25); have : (kwL 13).length = 7 := rfl; omega) ⟨by omega, by omega⟩ hl.1 (Nat.le_of_ble_eq_true rfl) ⟨by omega, by omega⟩ dX12_init_297 (fun H1 locs1 S hz hk hB => ?_)
  have hH := Nat.le_trans hH hz
  refine x_ldcs C (k := 109) (tx := " ") (ia := 11) (by decide) dX12_init_300 ?_
  refine t_cst (i := 11) C hg S hZ hH hB (by decide) (by simp only [List.length_append, List.length_nil, List.length_cons, dec_len]; have : (kwL 10).length = 4 := rfl; have := dg_in (400 + x19); have : (kwL 11).length = 1 := rfl; have := dg_in (400 + x19 + w34 + x35); have : (kwL 12).length = 6 := rfl; have := dg_in (40 + x25); have : (kwL 13).length = 7 := rfl; have := dg_in (x41); omega) ⟨by omega, by omega⟩ hl.1 (Nat.le_of_ble_eq_true rfl) ⟨by omega, by omega⟩ dX12_init_302 (fun H1 locs1 S hz hk hB => ?_)
  have hH := Nat.le_trans hH hz
  refine lv_aload_n hx hb dX12_init_305 rfl (lv_at hl 0 rfl) ?_
  refine d_getI C S 7 (by decide) rfl rfl fl_RX12_91 dX12_init_306 ?_
  rw [show s56 178 7 = nI x47 from (show s56 178 7 = nI x47 from by rw [hf58 178 7 (by omega), hf55 178 7 (by omega), he51])]
  refine t_int (n := x47) C hg S hZ hH hB (by omega) (by simp only [List.length_append, List.length_nil, List.length_cons, dec_len]; have : (kwL 10).length = 4 := rfl; have := dg_in (400 + x19); have : (kwL 11).length = 1 := rfl; have := dg_in (400 + x19 + w34 + x35); have : (kwL 12).length = 6 := rfl; have := dg_in (40 + x25); have : (kwL 13).length = 7 := rfl; have := dg_in (x41); have : (kwL 11).length = 1 := rfl; omega) ⟨by omega, by omega⟩ hl.1 (Nat.le_of_ble_eq_true rfl) ⟨by omega, by omega⟩ dX12_init_309 (fun H1 locs1 S hz hk hB => ?_)
  have hH := Nat.le_trans hH hz
  refine x_ldcs C (k := 115) (tx := ";space ") (ia := 14) (by decide) dX12_init_312 ?_
  refine t_cst (i := 14) C hg S hZ hH hB (by decide) (by simp only [List.length_append, List.length_nil, List.length_cons, dec_len]; have : (kwL 10).length = 4 := rfl; have := dg_in (400 + x19); have : (kwL 11).length = 1 := rfl; have := dg_in (400 + x19 + w34 + x35); have : (kwL 12).length = 6 := rfl; have := dg_in (40 + x25); have : (kwL 13).length = 7 := rfl; have := dg_in (x41); have : (kwL 11).length = 1 := rfl; have := dg_in (x47); omega) ⟨by omega, by omega⟩ hl.1 (Nat.le_of_ble_eq_true rfl) ⟨by omega, by omega⟩ dX12_init_314 (fun H1 locs1 S hz hk hB => ?_)
  have hH := Nat.le_trans hH hz
  refine lv_aload_n hx hb dX12_init_317 rfl (lv_at hl 0 rfl) ?_
  refine d_getI C S 8 (by decide) rfl rfl fl_RX12_94 dX12_init_318 ?_
  rw [show s56 178 8 = nI x53 from (show s56 178 8 = nI x53 from by rw [he57])]
  refine t_int (n := x53) C hg S hZ hH hB (by omega) (by simp only [List.length_append, List.length_nil, List.length_cons, dec_len]; have : (kwL 10).length = 4 := rfl; have := dg_in (400 + x19); have : (kwL 11).length = 1 := rfl; have := dg_in (400 + x19 + w34 + x35); have : (kwL 12).length = 6 := rfl; have := dg_in (40 + x25); have : (kwL 13).length = 7 := rfl; have := dg_in (x41); have : (kwL 11).length = 1 := rfl; have := dg_in (x47); have : (kwL 14).length = 7 := rfl; omega) ⟨by omega, by omega⟩ hl.1 (Nat.le_of_ble_eq_true rfl) ⟨by omega, by omega⟩ dX12_init_321 (fun H1 locs1 S hz hk hB => ?_)
  have hH := Nat.le_trans hH hz
  refine x_ldcs C (k := 117) (tx := ";") (ia := 15) (by decide) dX12_init_324 ?_
  refine t_cst (i := 15) C hg S hZ hH hB (by decide) (by simp only [List.length_append, List.length_nil, List.length_cons, dec_len]; have : (kwL 10).length = 4 := rfl; have := dg_in (400 + x19); have : (kwL 11).length = 1 := rfl; have := dg_in (400 + x19 + w34 + x35); have : (kwL 12).length = 6 := rfl; have := dg_in (40 + x25); have : (kwL 13).length = 7 := rfl; have := dg_in (x41); have : (kwL 11).length = 1 := rfl; have := dg_in (x47); have : (kwL 14).length = 7 := rfl; have := dg_in (x53); omega) ⟨by omega, by omega⟩ hl.1 (Nat.le_of_ble_eq_true rfl) ⟨by omega, by omega⟩ dX12_init_326 (fun H1 locs1 S hz hk hB => ?_)
  have hH := Nat.le_trans hH hz
  refine t_end C hg S hZ hH hB ⟨by omega, by omega⟩ hl.1 (Nat.le_of_ble_eq_true rfl) ⟨by omega, by omega⟩ dX12_init_329 (fun a59 v60 H1 locs1 S hz hk hT ha9 hv9 => ?_)
  refine e_put C S hRD hSh hT ha9 hv9 fl_RX12_123 dX12_init_332 (fun R62 H1 locs1 S hRD hSh hTL hT => ?_)
  have hlen : (([] : List Nat) ++ kwL 10 ++ dec (400 + x19) ++ kwL 11 ++ dec (400 + x19 + w34 + x35) ++ kwL 12 ++ dec (40 + x25) ++ kwL 13 ++ dec x41 ++ kwL 11 ++ dec x47 ++ kwL 14 ++ dec x53 ++ kwL 15).length ≤ 42 := by
    simp only [List.length_append, List.length_nil, List.length_cons, dec_len]
    have : (kwL 10).length = 4 := rfl
    have := dgS (v := 400 + x19) (by omega)
    have : (kwL 11).length = 1 := rfl
    have := dg_in (400 + x19 + w34 + x35)
    have : (kwL 12).length = 6 := rfl
    have := dgT (v := 40 + x25) (by omega)
    have : (kwL 13).length = 7 := rfl
    have := dgT (v := x41) (by omega)
    have : (kwL 11).length = 1 := rfl
    have := dgT (v := x47) (by omega)
    have : (kwL 14).length = 7 := rfl
    have := dgT (v := x53) (by omega)
    have : (kwL 15).length = 1 := rfl
    omega
  have hA : Asc (([] : List Nat) ++ kwL 10 ++ dec (400 + x19) ++ kwL 11 ++ dec (400 + x19 + w34 + x35) ++ kwL 12 ++ dec (40 + x25) ++ kwL 13 ++ dec x41 ++ kwL 11 ++ dec x47 ++ kwL 14 ++ dec x53 ++ kwL 15) := (((((((((((((Asc.nil.app (Asc.kw (by decide))).app (Asc.dec (by omega))).app (Asc.kw (by decide))).app (Asc.dec (by omega))).app (Asc.kw (by decide))).app (Asc.dec (by omega))).app (Asc.kw (by decide))).app (Asc.dec (by omega))).app (Asc.kw (by decide))).app (Asc.dec (by omega))).app (Asc.kw (by decide))).app (Asc.dec (by omega))).app (Asc.kw (by decide)))
  obtain ⟨t63, et63⟩ : ∃ x, x = ([] : List Nat) ++ kwL 10 ++ dec (400 + x19) ++ kwL 11 ++ dec (400 + x19 + w34 + x35) ++ kwL 12 ++ dec (40 + x25) ++ kwL 13 ++ dec x41 ++ kwL 11 ++ dec x47 ++ kwL 14 ++ dec x53 ++ kwL 15 := ⟨_, rfl⟩
  rw [← et63] at hlen hA hT
  refine lv_iconst (v := nI 0) hx hb dX12_init_335 (by decide) ?_
  refine lv_istore_n (lv' := [(2, .int (nI 0)), (0, .ref (ga g 178)), (1, .ref (ga g 202))]) hx hb dX12_init_336 rfl hl (by decide) rfl (fun ls hl => ?_)
  have q0 : s56 178 0 = nI x1 := (show s56 178 0 = nI x1 from by rw [hf58 178 0 (by omega), hf55 178 0 (by omega), hf52 178 0 (by omega), hf49 178 0 (by omega), hf46 178 0 (by omega), hf43 178 0 (by omega), hf40 178 0 (by omega), hf37 178 0 (by omega), hf33 178 0 (by omega), hf30 178 0 (by omega), hf27 178 0 (by omega), hf24 178 0 (by omega), hf21 178 0 (by omega), hf18 178 0 (by omega), hf15 178 0 (by omega), hf12 178 0 (by omega), hf9 178 0 (by omega), he5])
  have q1 : s56 178 1 = nI x7 := (show s56 178 1 = nI x7 from by rw [hf58 178 1 (by omega), hf55 178 1 (by omega), hf52 178 1 (by omega), hf49 178 1 (by omega), hf46 178 1 (by omega), hf43 178 1 (by omega), hf40 178 1 (by omega), hf37 178 1 (by omega), hf33 178 1 (by omega), hf30 178 1 (by omega), hf27 178 1 (by omega), hf24 178 1 (by omega), hf21 178 1 (by omega), hf18 178 1 (by omega), hf15 178 1 (by omega), he11])
  have q2 : s56 178 2 = nI (1 + x13) := (show s56 178 2 = nI (1 + x13) from by rw [hf58 178 2 (by omega), hf55 178 2 (by omega), hf52 178 2 (by omega), hf49 178 2 (by omega), hf46 178 2 (by omega), hf43 178 2 (by omega), hf40 178 2 (by omega), hf37 178 2 (by omega), hf33 178 2 (by omega), hf30 178 2 (by omega), hf27 178 2 (by omega), hf24 178 2 (by omega), hf21 178 2 (by omega), he17])
  have q3 : s56 178 3 = nI (400 + x19) := (show s56 178 3 = nI (400 + x19) from by rw [hf58 178 3 (by omega), hf55 178 3 (by omega), hf52 178 3 (by omega), hf49 178 3 (by omega), hf46 178 3 (by omega), hf43 178 3 (by omega), hf40 178 3 (by omega), hf37 178 3 (by omega), hf33 178 3 (by omega), hf30 178 3 (by omega), hf27 178 3 (by omega), he23])
  have q4 : s56 178 4 = nI (400 + x19 + w34 + x35) := (show s56 178 4 = nI (400 + x19 + w34 + x35) from by rw [hf58 178 4 (by omega), hf55 178 4 (by omega), hf52 178 4 (by omega), hf49 178 4 (by omega), hf46 178 4 (by omega), hf43 178 4 (by omega), he39])
  have q5 : s56 178 5 = nI (40 + x25) := (show s56 178 5 = nI (40 + x25) from by rw [hf58 178 5 (by omega), hf55 178 5 (by omega), hf52 178 5 (by omega), hf49 178 5 (by omega), hf46 178 5 (by omega), hf43 178 5 (by omega), hf40 178 5 (by omega), hf37 178 5 (by omega), hf33 178 5 (by omega), he29])
  have q6 : s56 178 6 = nI x41 := (show s56 178 6 = nI x41 from by rw [hf58 178 6 (by omega), hf55 178 6 (by omega), hf52 178 6 (by omega), hf49 178 6 (by omega), he45])
  have q7 : s56 178 7 = nI x47 := (show s56 178 7 = nI x47 from by rw [hf58 178 7 (by omega), hf55 178 7 (by omega), he51])
  have q8 : s56 178 8 = nI x53 := (show s56 178 8 = nI x53 from by rw [he57])
  have hfA : ∀ o j, o ≠ 178 → o ≠ 202 → s56 o j = σ o j := fun o j h1 h2 => by rw [hf58 o j (by omega), hf55 o j (by omega), hf52 o j (by omega), hf49 o j (by omega), hf46 o j (by omega), hf43 o j (by omega), hf40 o j (by omega), hf37 o j (by omega), hf33 o j (by omega), hf30 o j (by omega), hf27 o j (by omega), hf24 o j (by omega), hf21 o j (by omega), hf18 o j (by omega), hf15 o j (by omega), hf12 o j (by omega), hf9 o j (by omega), hf6 o j (by omega), hf3 o j (by omega)]
  refine W.widen (k := 40) (n := 14272) (by omega) (by omega) ?_
  refine n_fillL C hRD hTL 24 0 _ _ s56 _ _ ls S hT hl (by omega) ?_
  intro σ1 H1 locs1 ls S hT hl hw1 hf1
  refine lv_aload_n hx hb dX12_init_356 rfl (lv_at hl 2 rfl) ?_
  refine lv_iconst (v := nI 3) hx hb dX12_init_357 (by decide) ?_
  refine d_next (n := 3) C S hSh (by decide) (by decide) ⟨cd_X13_next, ni_RX13, ml_RX12_63, in_X13_next, sl_X13_next⟩ ⟨by omega, by omega⟩ hl.1 (Nat.le_of_ble_eq_true rfl) ⟨by omega, by omega⟩ dX12_init_358 (fun x301 s302 H1 locs1 hx301 hf303 S hz hk => ?_)
  have hT := hT.upz hTL.2.1 hTL.2.2 hk
  refine lv_istore_n (lv' := [(2, .int (nI x301)), (0, .ref (ga g 178)), (1, .ref (ga g 202))]) hx hb dX12_init_361 rfl hl (by decide) rfl (fun ls hl => ?_)
  refine n_windL C hg (cells2 := 64) (slots2 := 32672) (by omega) (by omega) (by omega) (by omega) x301 _ _ s302 _ _ _ _ _ _ ls S hRD hSh hTL hA hT hl (by omega) (by omega) (by omega) (by omega) ?_
  intro σ2 R2 a2 v2 t2 ws H1 locs1 ls S hRD hSh hTL hA hT hl hwn hwc et2 hle2 h192 h193 hf2
  refine lv_iconst (v := nI 0) hx hb dX12_init_469 (by decide) ?_
  refine lv_istore_n (lv' := [(2, .int (nI 0)), (0, .ref (ga g 178)), (1, .ref (ga g 202))]) hx hb dX12_init_470 rfl hl (by decide) rfl (fun ls hl => ?_)
  have hpre : ∀ o j, 178 < o → o ≠ 202 → o ≠ 192 → o ≠ 193 → σ2 o j = 0 := fun o j h1 h2 h3 h4 => (hf2 o j h2 h3 h4).trans ((hf303 o j h2).trans ((hf1 o j (by omega)).trans ((hfA o j (by omega) h2).trans (hz0 o j (by omega) h2))))
  have h178 : ∀ j, σ2 178 j = s56 178 j := fun j => (hf2 178 j (by decide) (by decide) (by decide)).trans ((hf303 178 j (by decide)).trans (hf1 178 j (by omega)))
  refine n_nearL C hg (cells2 := 144) (slots2 := 92672) (by omega) (by omega) (by omega) (by omega) x1 0 _ _ σ2 _ _ _ _ _ _ ls S hRD hSh hTL hA hT hl (by omega) (by rw [Nat.zero_add, h178 0]; exact q0) (by omega) (fun j _ => ⟨(hpre 182 j (by omega) (by omega) (by omega) (by omega)).trans nI_0.symm, (hpre 183 j (by omega) (by omega) (by omega) (by omega)).trans nI_0.symm⟩) (by omega) (by omega) ?_
  intro σ3 R3 a3 v3 t3 ns H1 locs1 ls S hRD hSh hTL hA hT hl hnn hnc et3 hle3 hv3 hf3
  refine lv_iconst (v := nI 0) hx hb dX12_init_491 (by decide) ?_
  refine lv_istore_n (lv' := [(2, .int (nI 0)), (0, .ref (ga g 178)), (1, .ref (ga g 202))]) hx hb dX12_init_492 rfl hl (by decide) rfl (fun ls hl => ?_)
  refine n_roadL C hg (cells2 := 176) (slots2 := 119072) (by omega) (by omega) (by omega) (by omega) x7 0 _ _ σ3 _ _ _ _ _ _ ls S hRD hSh hTL hA hT hl (by omega) (by rw [Nat.zero_add, hf3 178 1 (by omega) (by omega), h178 1]; exact q1) (by omega) (by omega) (by omega) ?_
  intro σ4 R4 a4 v4 t4 rs H1 locs1 ls S hRD hSh hTL hA hT hl hrn hrc et4 hle4 hv4 hf4
  refine lv_iconst (v := nI 0) hx hb dX12_init_654 (by decide) ?_
  refine lv_istore_n (lv' := [(2, .int (nI 0)), (0, .ref (ga g 178)), (1, .ref (ga g 202))]) hx hb dX12_init_655 rfl hl (by decide) rfl (fun ls hl => ?_)
  refine n_blastsL C hg (cells2 := 356) (slots2 := 239072) (by omega) (by omega) (by omega) (by omega) (1 + x13) 0 _ _ σ4 _ _ _ _ _ _ ls S hRD hSh hTL hA hT hl (by omega) (by rw [Nat.zero_add, hf4 178 2 (by omega) (by omega), hf3 178 2 (by omega) (by omega), h178 2]; exact q2) (by omega) (by omega) (by omega) ?_
  intro σ5 R5 a5 v5 t5 bs H1 locs1 ls S hRD hSh hTL hA hT hl hbn hbc et5 hle5 hv5 hf5
  refine W.widen (k := 360) (n := 240000) (by omega) (by omega) ?_
  have h178' : ∀ j, σ5 178 j = s56 178 j := fun j => (hf5 178 j (by omega) (by omega) (by omega) (by omega)).trans ((hf4 178 j (by omega) (by omega)).trans ((hf3 178 j (by omega) (by omega)).trans (h178 j)))
  have hQ : Quarry σ5 t5 (400 + x19, 400 + x19 + w34 + x35, 40 + x25, x41, x47, x53) ws ns rs bs := by
    refine ⟨⟨?_, ⟨by omega, hwc⟩, ⟨by omega, hnc⟩, ⟨by omega, hrc⟩, ⟨by omega, by omega⟩, hbc⟩, ⟨?_, by omega⟩, ⟨?_, ?_, ?_, (h178' 3).trans q3, (h178' 4).trans q4, (h178' 5).trans q5, (h178' 6).trans q6, (h178' 7).trans q7, (h178' 8).trans q8⟩, ?_, ?_, ?_, ?_⟩
    · refine ⟨?_, ?_, ?_, ?_, ?_, ?_, ?_, ?_, ?_⟩ <;> (dsimp only; omega)
    · rw [et5, et4, et3, et2, et63]
      simp only [prS, List.append_assoc, List.nil_append]
    · rw [hnn]; exact (h178' 0).trans q0
    · rw [hrn]; exact (h178' 1).trans q1
    · rw [hbn]; exact (h178' 2).trans q2
    · intro h hh
      have f : ∀ o, o = 192 ∨ o = 193 → σ5 o h = σ2 o h := fun o ho => (hf5 o h (by omega) (by omega) (by omega) (by omega)).trans ((hf4 o h (by omega) (by omega)).trans (hf3 o h (by omega) (by omega)))
      refine ⟨(f 192 (Or.inl rfl)).trans ((h192 h).trans ?_), (f 193 (Or.inr rfl)).trans ((h193 h).trans ?_)⟩
      · rw [hf303 192 h (by decide), hw1 h (by omega) hh]
      · rw [hf303 193 h (by decide), hf1 193 h (by omega), hfA 193 h (by decide) (by decide), hz0 193 h (by decide) (by decide)]
    · intro j hj
      have h := hv3 j (by rw [← hnn]; exact hj)
      rw [Nat.zero_add] at h
      have f : ∀ o, 179 ≤ o → o ≤ 183 → σ5 o j = σ3 o j := fun o h1 h2 => (hf5 o j (by omega) (by omega) (by omega) (by omega)).trans (hf4 o j (by omega) (by omega))
      exact ⟨(f 179 (by omega) (by omega)).trans h.1, (f 180 (by omega) (by omega)).trans h.2.1, (f 181 (by omega) (by omega)).trans h.2.2.1, (f 182 (by omega) (by omega)).trans h.2.2.2.1, (f 183 (by omega) (by omega)).trans h.2.2.2.2⟩
    · intro j hj
      have h := hv4 j (by rw [← hrn]; exact hj)
      rw [Nat.zero_add] at h
      have f : ∀ o, 184 ≤ o → o ≤ 187 → σ5 o j = σ4 o j := fun o h1 h2 => hf5 o j (by omega) (by omega) (by omega) (by omega)
      exact ⟨(f 184 (by omega) (by omega)).trans h.1, (f 185 (by omega) (by omega)).trans h.2.1, (f 186 (by omega) (by omega)).trans h.2.2.1, (f 187 (by omega) (by omega)).trans h.2.2.2⟩
    · intro j hj
      have h := hv5 j (by rw [← hbn]; exact hj)
      rw [Nat.zero_add] at h
      exact h
  have hP : ∀ o j, o ≤ 177 → σ5 o j = zF.1 o j := fun o j ho => (hf5 o j (by omega) (by omega) (by omega) (by omega)).trans ((hf4 o j (by omega) (by omega)).trans ((hf3 o j (by omega) (by omega)).trans ((hf2 o j (by omega) (by omega) (by omega)).trans ((hf303 o j (by omega)).trans ((hf1 o j (by omega)).trans ((hfA o j (by omega) (by omega)).trans (hσ o j (by omega))))))))
  subst hL0
  exact W.vret C.1 C.2.1 hr (fun tt ht _ => ⟨⟨σ5, R5, a5, v5, t5, _, ws, ns, rs, bs, rfl, hQ, hP, hRD, hSh, hTL, hA, by rw [ht]; exact hT, by rw [ht]; exact S.1⟩, S.2.F ht⟩) S.2.2.2 dX12_init_676 C.2.2.2.2.2.2
