set_option maxRecDepth 100000 in
theorem fn_RL_186 : Cond.fieldLinkNest RL 186 RX12 "near" "I" RL ∈ BW := bw_in (List.mem_of_getElem? (i := 826) (by rfl)) (by rfl)
set_option maxRecDepth 100000 in
theorem fn_RL_192 : Cond.fieldLinkNest RL 192 RX12 "roads" "I" RL ∈ BW := bw_in (List.mem_of_getElem? (i := 828) (by rfl)) (by rfl)
set_option maxRecDepth 100000 in
theorem fn_RL_202 : Cond.fieldLinkNest RL 202 RX12 "first" "I" RL ∈ BW := bw_in (List.mem_of_getElem? (i := 832) (by rfl)) (by rfl)
set_option maxRecDepth 100000 in
theorem fn_RL_205 : Cond.fieldLinkNest RL 205 RX12 "step" "I" RL ∈ BW := bw_in (List.mem_of_getElem? (i := 835) (by rfl)) (by rfl)
set_option maxRecDepth 100000 in
theorem fn_RL_195 : Cond.fieldLinkNest RL 195 RX12 "radius" "[I" RL ∈ BW := bw_in (List.mem_of_getElem? (i := 851) (by rfl)) (by rfl)
set_option maxRecDepth 100000 in
theorem fn_RL_175 : Cond.fieldLinkNest RL 175 RX12 "charges" "[I" RL ∈ BW := bw_in (List.mem_of_getElem? (i := 853) (by rfl)) (by rfl)
set_option maxRecDepth 100000 in
theorem fn_RL_179 : Cond.fieldLinkNest RL 179 RX12 "delay" "[[I" RL ∈ BW := bw_in (List.mem_of_getElem? (i := 858) (by rfl)) (by rfl)
set_option maxRecDepth 100000 in
theorem ml_RL_183 : Cond.methodLink RL 183 yX12_window ∈ BW := bw_in (List.mem_of_getElem? (i := 1511) (by rfl)) (by rfl)
set_option maxRecDepth 100000 in
theorem ml_RL_189 : Cond.methodLink RL 189 yX12_far ∈ BW := bw_in (List.mem_of_getElem? (i := 1515) (by rfl)) (by rfl)
set_option maxRecDepth 100000 in
theorem cd_X12_comes : Cond.code yX12_comes cX12_comes 18 (some .boolean) ∈ BW := bw_in (List.mem_of_getElem? (i := 1522) (by rfl)) (by rfl)
set_option maxRecDepth 100000 in
theorem ml_RL_198 : Cond.methodLink RL 198 yX12_comes ∈ BW := bw_in (List.mem_of_getElem? (i := 1519) (by rfl)) (by rfl)
set_option maxRecDepth 100000 in
theorem in_X12_comes : Cond.instanceMethod yX12_comes ∈ BW := bw_in (List.mem_of_getElem? (i := 1520) (by rfl)) (by rfl)
set_option maxRecDepth 100000 in
theorem sl_X12_comes : Cond.selects RX12 yX12_comes yX12_comes ∈ BW := bw_in (List.mem_of_getElem? (i := 1521) (by rfl)) (by rfl)
set_option maxRecDepth 100000 in
theorem cd_X12_reason : Cond.code yX12_reason cX12_reason 5 (some .int) ∈ BW := bw_in (List.mem_of_getElem? (i := 1533) (by rfl)) (by rfl)
set_option maxRecDepth 100000 in
theorem ml_RL_211 : Cond.methodLink RL 211 yX12_reason ∈ BW := bw_in (List.mem_of_getElem? (i := 1530) (by rfl)) (by rfl)
set_option maxRecDepth 100000 in
theorem in_X12_reason : Cond.instanceMethod yX12_reason ∈ BW := bw_in (List.mem_of_getElem? (i := 1531) (by rfl)) (by rfl)
set_option maxRecDepth 100000 in
theorem sl_X12_reason : Cond.selects RX12 yX12_reason yX12_reason ∈ BW := bw_in (List.mem_of_getElem? (i := 1532) (by rfl)) (by rfl)
set_option maxRecDepth 100000 in
theorem ml_RL_212 : Cond.methodLink RL 212 yX12_isQuiet ∈ BW := bw_in (List.mem_of_getElem? (i := 1545) (by rfl)) (by rfl)
set_option maxRecDepth 100000 in
theorem ml_RL_213 : Cond.methodLink RL 213 yX12_isDusty ∈ BW := bw_in (List.mem_of_getElem? (i := 1546) (by rfl)) (by rfl)
set_option maxRecDepth 100000 in
theorem ml_RL_208 : Cond.methodLink RL 208 yX13_next ∈ BW := bw_in (List.mem_of_getElem? (i := 1529) (by rfl)) (by rfl)
set_option maxRecDepth 100000 in
theorem cw_asks : Cond.codeWith yL_asks cL_asks 6 (some .int) hhA ∈ BW := bw_in (List.mem_of_getElem? (i := 928) (by rfl)) (by rfl)
set_option maxRecDepth 100000 in
theorem ml_RL_160 : Cond.methodLink RL 160 yL_asks ∈ BW := bw_in (List.mem_of_getElem? (i := 926) (by rfl)) (by rfl)
set_option maxRecDepth 100000 in
theorem st_L_asks : Cond.static yL_asks ∈ BW := bw_in (List.mem_of_getElem? (i := 927) (by rfl)) (by rfl)
theorem dL_isKnown_22 : decode cL_isKnown 22 = .ok (.iload 8, 2) := by decide +kernel
theorem dL_isKnown_24 : decode cL_isKnown 24 = .ok (.aload_n 1, 1) := by decide +kernel
theorem dL_isKnown_25 : decode cL_isKnown 25 = .ok (.getfield 175, 3) := by decide +kernel
theorem dL_isKnown_28 : decode cL_isKnown 28 = .ok (.iload_n 3, 1) := by decide +kernel
theorem dL_isKnown_29 : decode cL_isKnown 29 = .ok (.iaload, 1) := by decide +kernel
theorem dL_isKnown_30 : decode cL_isKnown 30 = .ok (.if_icmp .ge 35, 3) := by decide +kernel
theorem dL_isKnown_57 : decode cL_isKnown 57 = .ok (.istore 7, 2) := by decide +kernel
theorem dL_isKnown_59 : decode cL_isKnown 59 = .ok (.iinc 8 1, 3) := by decide +kernel
theorem dL_isKnown_62 : decode cL_isKnown 62 = .ok (.goto (-40), 3) := by decide +kernel
theorem dL_isKnown_33 : decode cL_isKnown 33 = .ok (.iload 7, 2) := by decide +kernel
theorem dL_isKnown_35 : decode cL_isKnown 35 = .ok (.ifCond .ne 17, 3) := by decide +kernel
theorem dL_isKnown_52 : decode cL_isKnown 52 = .ok (.iconst 1, 1) := by decide +kernel
theorem dL_isKnown_53 : decode cL_isKnown 53 = .ok (.goto 4, 3) := by decide +kernel
theorem dL_isKnown_38 : decode cL_isKnown 38 = .ok (.aload_n 1, 1) := by decide +kernel
theorem dL_isKnown_39 : decode cL_isKnown 39 = .ok (.getfield 179, 3) := by decide +kernel
theorem dL_isKnown_42 : decode cL_isKnown 42 = .ok (.iload_n 3, 1) := by decide +kernel
theorem dL_isKnown_43 : decode cL_isKnown 43 = .ok (.aaload, 1) := by decide +kernel
theorem dL_isKnown_44 : decode cL_isKnown 44 = .ok (.iload 8, 2) := by decide +kernel
theorem dL_isKnown_46 : decode cL_isKnown 46 = .ok (.iaload, 1) := by decide +kernel
theorem dL_isKnown_47 : decode cL_isKnown 47 = .ok (.iload 6, 2) := by decide +kernel
theorem dL_isKnown_49 : decode cL_isKnown 49 = .ok (.if_icmp .ne 7, 3) := by decide +kernel
theorem dL_isKnown_56 : decode cL_isKnown 56 = .ok (.iconst 0, 1) := by decide +kernel
theorem dL_isKnown_9 : decode cL_isKnown 9 = .ok (.iload 6, 2) := by decide +kernel
theorem dL_isKnown_11 : decode cL_isKnown 11 = .ok (.bipush 30, 2) := by decide +kernel
theorem dL_isKnown_13 : decode cL_isKnown 13 = .ok (.if_icmp .ge 91, 3) := by decide +kernel
theorem dL_isKnown_16 : decode cL_isKnown 16 = .ok (.iconst 0, 1) := by decide +kernel
theorem dL_isKnown_17 : decode cL_isKnown 17 = .ok (.istore 7, 2) := by decide +kernel
theorem dL_isKnown_19 : decode cL_isKnown 19 = .ok (.iconst 0, 1) := by decide +kernel
theorem dL_isKnown_20 : decode cL_isKnown 20 = .ok (.istore 8, 2) := by decide +kernel
theorem dL_isKnown_98 : decode cL_isKnown 98 = .ok (.iinc 6 1, 3) := by decide +kernel
theorem dL_isKnown_101 : decode cL_isKnown 101 = .ok (.goto (-92), 3) := by decide +kernel
theorem dL_isKnown_65 : decode cL_isKnown 65 = .ok (.iload 7, 2) := by decide +kernel
theorem dL_isKnown_67 : decode cL_isKnown 67 = .ok (.ifCond .eq 31, 3) := by decide +kernel
theorem dL_isKnown_70 : decode cL_isKnown 70 = .ok (.aload_n 1, 1) := by decide +kernel
theorem dL_isKnown_71 : decode cL_isKnown 71 = .ok (.iload_n 3, 1) := by decide +kernel
theorem dL_isKnown_72 : decode cL_isKnown 72 = .ok (.iload 6, 2) := by decide +kernel
theorem dL_isKnown_74 : decode cL_isKnown 74 = .ok (.invokevirtual 183, 3) := by decide +kernel
theorem dL_isKnown_77 : decode cL_isKnown 77 = .ok (.iload 4, 2) := by decide +kernel
theorem dL_isKnown_79 : decode cL_isKnown 79 = .ok (.if_icmp .gt 6, 3) := by decide +kernel
theorem dL_isKnown_85 : decode cL_isKnown 85 = .ok (.aload_n 1, 1) := by decide +kernel
theorem dL_isKnown_86 : decode cL_isKnown 86 = .ok (.iload_n 3, 1) := by decide +kernel
theorem dL_isKnown_87 : decode cL_isKnown 87 = .ok (.iload 6, 2) := by decide +kernel
theorem dL_isKnown_89 : decode cL_isKnown 89 = .ok (.invokevirtual 183, 3) := by decide +kernel
theorem dL_isKnown_92 : decode cL_isKnown 92 = .ok (.istore 4, 2) := by decide +kernel
theorem dL_isKnown_94 : decode cL_isKnown 94 = .ok (.iload 6, 2) := by decide +kernel
theorem dL_isKnown_96 : decode cL_isKnown 96 = .ok (.istore 5, 2) := by decide +kernel
theorem dL_isKnown_82 : decode cL_isKnown 82 = .ok (.goto 16, 3) := by decide +kernel
theorem dL_isKnown_135 : decode cL_isKnown 135 = .ok (.iload 6, 2) := by decide +kernel
theorem dL_isKnown_137 : decode cL_isKnown 137 = .ok (.aload_n 1, 1) := by decide +kernel
theorem dL_isKnown_138 : decode cL_isKnown 138 = .ok (.getfield 186, 3) := by decide +kernel
theorem dL_isKnown_141 : decode cL_isKnown 141 = .ok (.if_icmp .ge 39, 3) := by decide +kernel
theorem dL_isKnown_144 : decode cL_isKnown 144 = .ok (.aload_n 0, 1) := by decide +kernel
theorem dL_isKnown_145 : decode cL_isKnown 145 = .ok (.iconst 3, 1) := by decide +kernel
theorem dL_isKnown_146 : decode cL_isKnown 146 = .ok (.iload_n 3, 1) := by decide +kernel
theorem dL_isKnown_147 : decode cL_isKnown 147 = .ok (.iload 6, 2) := by decide +kernel
theorem dL_isKnown_149 : decode cL_isKnown 149 = .ok (.iconst 0, 1) := by decide +kernel
theorem dL_isKnown_150 : decode cL_isKnown 150 = .ok (.invokestatic 160, 3) := by decide +kernel
theorem dL_isKnown_153 : decode cL_isKnown 153 = .ok (.sipush 1000, 3) := by decide +kernel
theorem dL_isKnown_156 : decode cL_isKnown 156 = .ok (.iload 4, 2) := by decide +kernel
theorem dL_isKnown_158 : decode cL_isKnown 158 = .ok (.imul, 1) := by decide +kernel
theorem dL_isKnown_159 : decode cL_isKnown 159 = .ok (.aload_n 1, 1) := by decide +kernel
theorem dL_isKnown_160 : decode cL_isKnown 160 = .ok (.iload_n 3, 1) := by decide +kernel
theorem dL_isKnown_161 : decode cL_isKnown 161 = .ok (.iload 6, 2) := by decide +kernel
theorem dL_isKnown_163 : decode cL_isKnown 163 = .ok (.invokevirtual 189, 3) := by decide +kernel
theorem dL_isKnown_166 : decode cL_isKnown 166 = .ok (.iconst 1, 1) := by decide +kernel
theorem dL_isKnown_167 : decode cL_isKnown 167 = .ok (.iadd, 1) := by decide +kernel
theorem dL_isKnown_168 : decode cL_isKnown 168 = .ok (.idiv, 1) := by decide +kernel
theorem dL_isKnown_169 : decode cL_isKnown 169 = .ok (.if_icmp .eq 5, 3) := by decide +kernel
theorem dL_isKnown_174 : decode cL_isKnown 174 = .ok (.iinc 6 1, 3) := by decide +kernel
theorem dL_isKnown_177 : decode cL_isKnown 177 = .ok (.goto (-42), 3) := by decide +kernel
theorem dL_isKnown_183 : decode cL_isKnown 183 = .ok (.iload 6, 2) := by decide +kernel
theorem dL_isKnown_185 : decode cL_isKnown 185 = .ok (.aload_n 1, 1) := by decide +kernel
theorem dL_isKnown_186 : decode cL_isKnown 186 = .ok (.getfield 192, 3) := by decide +kernel
theorem dL_isKnown_189 : decode cL_isKnown 189 = .ok (.if_icmp .ge 89, 3) := by decide +kernel
theorem dL_isKnown_192 : decode cL_isKnown 192 = .ok (.aload_n 0, 1) := by decide +kernel
theorem dL_isKnown_193 : decode cL_isKnown 193 = .ok (.iconst 4, 1) := by decide +kernel
theorem dL_isKnown_194 : decode cL_isKnown 194 = .ok (.iload_n 3, 1) := by decide +kernel
theorem dL_isKnown_195 : decode cL_isKnown 195 = .ok (.iload 6, 2) := by decide +kernel
theorem dL_isKnown_197 : decode cL_isKnown 197 = .ok (.iconst 0, 1) := by decide +kernel
theorem dL_isKnown_198 : decode cL_isKnown 198 = .ok (.invokestatic 160, 3) := by decide +kernel
theorem dL_isKnown_201 : decode cL_isKnown 201 = .ok (.aload_n 1, 1) := by decide +kernel
theorem dL_isKnown_202 : decode cL_isKnown 202 = .ok (.iload_n 3, 1) := by decide +kernel
theorem dL_isKnown_203 : decode cL_isKnown 203 = .ok (.iload 6, 2) := by decide +kernel
theorem dL_isKnown_205 : decode cL_isKnown 205 = .ok (.aload_n 1, 1) := by decide +kernel
theorem dL_isKnown_206 : decode cL_isKnown 206 = .ok (.getfield 195, 3) := by decide +kernel
theorem dL_isKnown_209 : decode cL_isKnown 209 = .ok (.iload_n 3, 1) := by decide +kernel
theorem dL_isKnown_210 : decode cL_isKnown 210 = .ok (.iaload, 1) := by decide +kernel
theorem dL_isKnown_211 : decode cL_isKnown 211 = .ok (.invokevirtual 198, 3) := by decide +kernel
theorem dL_isKnown_227 : decode cL_isKnown 227 = .ok (.aload_n 0, 1) := by decide +kernel
theorem dL_isKnown_228 : decode cL_isKnown 228 = .ok (.bipush 28, 2) := by decide +kernel
theorem dL_isKnown_230 : decode cL_isKnown 230 = .ok (.iload_n 3, 1) := by decide +kernel
theorem dL_isKnown_231 : decode cL_isKnown 231 = .ok (.iload 6, 2) := by decide +kernel
theorem dL_isKnown_233 : decode cL_isKnown 233 = .ok (.iconst 0, 1) := by decide +kernel
theorem dL_isKnown_234 : decode cL_isKnown 234 = .ok (.invokestatic 160, 3) := by decide +kernel
theorem dL_isKnown_237 : decode cL_isKnown 237 = .ok (.istore 7, 2) := by decide +kernel
theorem dL_isKnown_239 : decode cL_isKnown 239 = .ok (.aload_n 1, 1) := by decide +kernel
theorem dL_isKnown_240 : decode cL_isKnown 240 = .ok (.iload_n 3, 1) := by decide +kernel
theorem dL_isKnown_241 : decode cL_isKnown 241 = .ok (.iload 6, 2) := by decide +kernel
theorem dL_isKnown_243 : decode cL_isKnown 243 = .ok (.iload 7, 2) := by decide +kernel
theorem dL_isKnown_245 : decode cL_isKnown 245 = .ok (.invokevirtual 198, 3) := by decide +kernel
theorem dL_isKnown_248 : decode cL_isKnown 248 = .ok (.ifCond .eq 22, 3) := by decide +kernel
theorem dL_isKnown_251 : decode cL_isKnown 251 = .ok (.iload 7, 2) := by decide +kernel
theorem dL_isKnown_272 : decode cL_isKnown 272 = .ok (.iinc 6 1, 3) := by decide +kernel
theorem dL_isKnown_275 : decode cL_isKnown 275 = .ok (.goto (-92), 3) := by decide +kernel
theorem dL_isKnown_253 : decode cL_isKnown 253 = .ok (.ifCond .le 19, 3) := by decide +kernel
theorem dL_isKnown_256 : decode cL_isKnown 256 = .ok (.aload_n 1, 1) := by decide +kernel
theorem dL_isKnown_257 : decode cL_isKnown 257 = .ok (.iload_n 3, 1) := by decide +kernel
theorem dL_isKnown_258 : decode cL_isKnown 258 = .ok (.iload 6, 2) := by decide +kernel
theorem dL_isKnown_260 : decode cL_isKnown 260 = .ok (.iload 7, 2) := by decide +kernel
theorem dL_isKnown_262 : decode cL_isKnown 262 = .ok (.iconst 1, 1) := by decide +kernel
theorem dL_isKnown_263 : decode cL_isKnown 263 = .ok (.isub, 1) := by decide +kernel
theorem dL_isKnown_264 : decode cL_isKnown 264 = .ok (.invokevirtual 198, 3) := by decide +kernel
theorem dL_isKnown_267 : decode cL_isKnown 267 = .ok (.ifCond .eq 5, 3) := by decide +kernel
theorem dL_isKnown_214 : decode cL_isKnown 214 = .ok (.ifCond .eq 7, 3) := by decide +kernel
theorem dL_isKnown_217 : decode cL_isKnown 217 = .ok (.iconst 1, 1) := by decide +kernel
theorem dL_isKnown_218 : decode cL_isKnown 218 = .ok (.goto 4, 3) := by decide +kernel
theorem dL_isKnown_222 : decode cL_isKnown 222 = .ok (.if_icmp .eq 5, 3) := by decide +kernel
theorem dL_isKnown_221 : decode cL_isKnown 221 = .ok (.iconst 0, 1) := by decide +kernel
theorem dL_isKnown_348 : decode cL_isKnown 348 = .ok (.iload 8, 2) := by decide +kernel
theorem dL_isKnown_350 : decode cL_isKnown 350 = .ok (.aload_n 1, 1) := by decide +kernel
theorem dL_isKnown_351 : decode cL_isKnown 351 = .ok (.getfield 186, 3) := by decide +kernel
theorem dL_isKnown_354 : decode cL_isKnown 354 = .ok (.if_icmp .ge 40, 3) := by decide +kernel
theorem dL_isKnown_357 : decode cL_isKnown 357 = .ok (.aload_n 0, 1) := by decide +kernel
theorem dL_isKnown_358 : decode cL_isKnown 358 = .ok (.iconst 5, 1) := by decide +kernel
theorem dL_isKnown_359 : decode cL_isKnown 359 = .ok (.iload 8, 2) := by decide +kernel
theorem dL_isKnown_361 : decode cL_isKnown 361 = .ok (.iload 7, 2) := by decide +kernel
theorem dL_isKnown_363 : decode cL_isKnown 363 = .ok (.iconst 0, 1) := by decide +kernel
theorem dL_isKnown_364 : decode cL_isKnown 364 = .ok (.invokestatic 160, 3) := by decide +kernel
theorem dL_isKnown_367 : decode cL_isKnown 367 = .ok (.aload_n 1, 1) := by decide +kernel
theorem dL_isKnown_368 : decode cL_isKnown 368 = .ok (.iload 8, 2) := by decide +kernel
theorem dL_isKnown_370 : decode cL_isKnown 370 = .ok (.iload 7, 2) := by decide +kernel
theorem dL_isKnown_372 : decode cL_isKnown 372 = .ok (.invokevirtual 212, 3) := by decide +kernel
theorem dL_isKnown_388 : decode cL_isKnown 388 = .ok (.iinc 8 1, 3) := by decide +kernel
theorem dL_isKnown_391 : decode cL_isKnown 391 = .ok (.goto (-43), 3) := by decide +kernel
theorem dL_isKnown_375 : decode cL_isKnown 375 = .ok (.ifCond .eq 7, 3) := by decide +kernel
theorem dL_isKnown_378 : decode cL_isKnown 378 = .ok (.iconst 1, 1) := by decide +kernel
theorem dL_isKnown_379 : decode cL_isKnown 379 = .ok (.goto 4, 3) := by decide +kernel
theorem dL_isKnown_383 : decode cL_isKnown 383 = .ok (.if_icmp .eq 5, 3) := by decide +kernel
theorem dL_isKnown_382 : decode cL_isKnown 382 = .ok (.iconst 0, 1) := by decide +kernel
theorem dL_isKnown_417 : decode cL_isKnown 417 = .ok (.iload 8, 2) := by decide +kernel
theorem dL_isKnown_419 : decode cL_isKnown 419 = .ok (.aload_n 1, 1) := by decide +kernel
theorem dL_isKnown_420 : decode cL_isKnown 420 = .ok (.getfield 186, 3) := by decide +kernel
theorem dL_isKnown_423 : decode cL_isKnown 423 = .ok (.if_icmp .ge 34, 3) := by decide +kernel
theorem dL_isKnown_426 : decode cL_isKnown 426 = .ok (.iload 7, 2) := by decide +kernel
theorem dL_isKnown_428 : decode cL_isKnown 428 = .ok (.aload_n 1, 1) := by decide +kernel
theorem dL_isKnown_429 : decode cL_isKnown 429 = .ok (.iload_n 3, 1) := by decide +kernel
theorem dL_isKnown_430 : decode cL_isKnown 430 = .ok (.iload 8, 2) := by decide +kernel
theorem dL_isKnown_432 : decode cL_isKnown 432 = .ok (.iload 6, 2) := by decide +kernel
theorem dL_isKnown_434 : decode cL_isKnown 434 = .ok (.invokevirtual 213, 3) := by decide +kernel
theorem dL_isKnown_437 : decode cL_isKnown 437 = .ok (.ifCond .eq 10, 3) := by decide +kernel
theorem dL_isKnown_440 : decode cL_isKnown 440 = .ok (.iconst 1, 1) := by decide +kernel
theorem dL_isKnown_441 : decode cL_isKnown 441 = .ok (.iload 8, 2) := by decide +kernel
theorem dL_isKnown_443 : decode cL_isKnown 443 = .ok (.ishl, 1) := by decide +kernel
theorem dL_isKnown_444 : decode cL_isKnown 444 = .ok (.goto 4, 3) := by decide +kernel
theorem dL_isKnown_448 : decode cL_isKnown 448 = .ok (.ior, 1) := by decide +kernel
theorem dL_isKnown_449 : decode cL_isKnown 449 = .ok (.istore 7, 2) := by decide +kernel
theorem dL_isKnown_451 : decode cL_isKnown 451 = .ok (.iinc 8 1, 3) := by decide +kernel
theorem dL_isKnown_454 : decode cL_isKnown 454 = .ok (.goto (-37), 3) := by decide +kernel
theorem dL_isKnown_447 : decode cL_isKnown 447 = .ok (.iconst 0, 1) := by decide +kernel
/-! ===== the law's questions about a blast: rows ===== -/
section VK0
variable {l : Launch} {g : GL} {p : Program} {e : Jvm.Env} {R0 : Room} {s : State} {m : MethodId} {args : Array Value} {below : List Frame} {meth : Method} {c : Code} {H : Heap} {locs : List Loc} {cells slots : Nat} {Q : State → Prop}
variable {cc : ByteArray} {nL : Nat} {pc index : Nat} {ls : Array Slot} {rest : List Value} {σ σ1 : SI} {R : Nat → Nat → Nat} {L : Nat → Nat → Int64}
/-- a field of the quarry, read by the law -/
theorem k_getI (C : Cx l g p s m meth c cc nL RL) (S : S2 g s σ R L H locs) (k : Nat) (hk : k < 27) (hb : (flK 12)[k]? = some false) (hT : (TX12 k).1 = RX12) {x : Int32} (hx : σ 178 k = x) (hw : Cond.fieldLinkNest RL index RX12 (TX12 k).2.1 (TX12 k).2.2.1 RL ∈ BW) (hdg : decode cc pc = .ok (.getfield index, 3))
    (kk : W p l e R0 s m args below meth c H locs cells slots Q (F0 m (pc + 3) ls (.int x :: rest))) : W p l e R0 s m args below meth c H locs cells slots Q (F0 m pc ls (.ref (ga g 178) :: rest)) := by
  subst hx
  have hP := v_cell S ok178
  rw [v_elk (by decide)] at hP
  exact va_getN C.1 C.2.1 (fun w hw => C.2.2.2.2.1.w (inB12 w hw)) (fun w h => h) C.2.2.2.1 C.2.2.2.2.1.2.1 hP 0 rfl (show vwCl[12]? = some (RX12, TX12, 27) from rfl) k hk (C.2.2.2.2.1.w hw) (fun x h => by rw [hT] at h; exact h) (v_fl 12 k (mkS σ R L) 178 hb) hdg kk
theorem k_getA (C : Cx l g p s m meth c cc nL RL) (S : S2 g s σ R L H locs) (k id : Nat) (hk : k < 27) (hb : (flK 12)[k]? = some true) (hT : (TX12 k).1 = RX12) (hR : R 178 k = id) (h0 : 0 < id) (hw : Cond.fieldLinkNest RL index RX12 (TX12 k).2.1 (TX12 k).2.2.1 RL ∈ BW) (hdg : decode cc pc = .ok (.getfield index, 3))
    (kk : W p l e R0 s m args below meth c H locs cells slots Q (F0 m (pc + 3) ls (.ref (ga g id) :: rest))) : W p l e R0 s m args below meth c H locs cells slots Q (F0 m pc ls (.ref (ga g 178) :: rest)) := by
  subst hR
  have hP := v_cell S ok178
  rw [v_elk (by decide)] at hP
  refine va_getN C.1 C.2.1 (fun w hw => C.2.2.2.2.1.w (inB12 w hw)) (fun w h => h) C.2.2.2.1 C.2.2.2.2.1.2.1 hP 0 rfl (show vwCl[12]? = some (RX12, TX12, 27) from rfl) k hk (C.2.2.2.2.1.w hw) (fun x h => by rw [hT] at h; exact h) (v_fl 12 k (mkS σ R L) 178 hb) hdg ?_
  show W p l e R0 s m args below meth c H locs cells slots Q (F0 m (pc + 3) ls (va_rf (ro g (R 178 k)) :: rest))
  rw [ro_pos h0]
  exact kk
/-- the planner is asked -/
theorem k_asks {a b c' k : Int32} {v : Int32} (C : Cx l g p s m meth c cc nL RL) (S : S2 g s σ R L H locs) (hM : CtW l g 9 yL_asks cL_asks 6 (some .int) hhA 2 12 [.ref (ga g 1), .int k, .int a, .int b, .int c'] (mkS σ R L) (fun w σ' => w = some (.int v) ∧ σ' = mkS σ1 R L))
    (hRf : 10 ≤ R0.frames) (hRl : 640 ≤ R0.locals) (hsize : ls.size = nL) (hW : (rest.map fun v => v.category).sum ≤ 8) (hf : cells + 2 ≤ R0.cells ∧ slots + 12 ≤ R0.slots) (hdg : decode cc pc = .ok (.invokestatic 160, 3))
    (kk : ∀ (H1 : Heap) (locs1 : List Loc), S2 g s σ1 R L H1 locs1 → W p l e R0 s m args below meth c H1 locs1 (cells + 2) (slots + 12) Q (F0 m (pc + 3) ls (.int v :: rest))) : W p l e R0 s m args below meth c H locs cells slots Q (F0 m pc ls (.int c' :: .int b :: .int a :: .int k :: .ref (ga g 1) :: rest)) := by
  refine v_callW C S hM ⟨cw_asks, ni_RL, ml_RL_160, st_L_asks⟩ ⟨by decide, by decide⟩ rfl ⟨hRf, by show 8 + (6 + 11) + 64 * 9 ≤ _; omega⟩ hsize rfl hW hf hdg (fun w σ' H1 locs1 hp S => ?_)
  obtain ⟨rfl, rfl⟩ := hp
  exact kk H1 locs1 S
end VK0
theorem hx_1 : Ok 202 1 11 := ⟨by decide +kernel, by decide, by decide⟩
def anyD (k : Nat) : List (Nat × Nat) → Bool
  | [] => false
  | c :: cs => decide (c.2 = k) || anyD k cs
theorem anyD_iff (k : Nat) : ∀ cs : List (Nat × Nat), anyD k cs = true ↔ ∃ c ∈ cs, c.2 = k
  | [] => ⟨fun h => (by cases h), fun ⟨c, h, _⟩ => (by cases h)⟩
  | c :: cs => by
    show (decide (c.2 = k) || anyD k cs) = true ↔ _
    rw [Bool.or_eq_true, decide_eq_true_eq, anyD_iff k cs]
    constructor
    · rintro (h | ⟨x, hx, hk⟩)
      · exact ⟨c, List.mem_cons_self, h⟩
      · exact ⟨x, List.mem_cons_of_mem _ hx, hk⟩
    · rintro ⟨x, hx, hk⟩
      rcases List.mem_cons.mp hx with e | e
      · exact Or.inl (by rw [← e]; exact hk)
      · exact Or.inr ⟨x, e, hk⟩
theorem scn_s (cs : List (Nat × Nat)) (k : Nat) : scn cs (k + 1) = if anyD k cs = true ∧ (scn cs k).1 < sumW k cs then (sumW k cs, k) else scn cs k := by
  show (if (∃ c ∈ cs, c.2 = k) ∧ (scn cs k).1 < sumW k cs then (sumW k cs, k) else scn cs k) = _
  by_cases h : (∃ c ∈ cs, c.2 = k) ∧ (scn cs k).1 < sumW k cs
  · rw [if_pos h, if_pos ⟨(anyD_iff k cs).mpr h.1, h.2⟩]
  · rw [if_neg h, if_neg (fun z => h ⟨(anyD_iff k cs).mp z.1, z.2⟩)]
theorem scn_le {cs : List (Nat × Nat)} (h : ∀ c ∈ cs, ChOk c) (h4 : cs.length ≤ 4) : ∀ k, (scn cs k).1 ≤ 800 ∧ (scn cs k).2 ≤ k
  | 0 => ⟨Nat.zero_le _, Nat.le_refl _⟩
  | k + 1 => by
    have ih := scn_le h h4 k
    have hs := sumW_le k cs h
    rw [scn_s]
    split
    · exact ⟨by show sumW k cs ≤ 800; omega, by show k ≤ k + 1; omega⟩
    · exact ⟨ih.1, by omega⟩
theorem or_0 (a : Int32) : a ||| nI 0 = a := by
  rw [nI_0]
  exact Int32.or_zero
set_option maxHeartbeats 4000000 in
set_option maxRecDepth 100000 in
theorem k_in {l : Launch} {g : GL} {p : Program} {e : Jvm.Env} {R0 : Room} {s : State} {m : MethodId} {args : Array Value} {below : List Frame} {meth : Method} {c : Code} {Q : State → Prop} {R : Nat → Nat → Nat} {L : Nat → Nat → Int64} {b : Nat} (C : Cx l g p s m meth c cL_isKnown 9 RL) (hSh : ShR R) (hRf : 10 ≤ R0.frames) (hRl : 640 ≤ R0.locals) (hb3 : b < 3) {σ : SI} {cs : List (Nat × Nat)} {k mo st cells slots : Nat} (hk : k < 30) (hl4 : cs.length ≤ 4) (hch : ∀ c ∈ cs, ChOk c) (r21 : R 178 21 = 191) (r25 : R 178 25 = 198) (r8 : R 198 b = 199 + b) (h191 : σ 191 b = nI cs.length) (hdl : ∀ j, j < cs.length → σ (199 + b) j = nI (cs.getD j (0, 0)).2) : ∀ (n j : Nat) (a : Bool) (H : Heap) (locs : List Loc) (ls : Array Slot), j + n = cs.length → S2 g s σ R L H locs → lv_has ls 9 [(8, .int (nI j)), (7, .int (bI a)), (6, .int (nI k)), (4, .int (nI mo)), (5, .int (nI st)), (0, .ref (ga g 1)), (1, .ref (ga g 178)), (2, .ref (ga g 202)), (3, .int (nI b))] → (∀ (H1 : Heap) (locs1 : List Loc) (ls1 : Array Slot), S2 g s σ R L H1 locs1 → lv_has ls1 9 [(7, .int (bI (a || anyD k (cs.drop j)))), (6, .int (nI k)), (4, .int (nI mo)), (5, .int (nI st)), (0, .ref (ga g 1)), (1, .ref (ga g 178)), (2, .ref (ga g 202)), (3, .int (nI b))] → W p l e R0 s m args below meth c H1 locs1 cells slots Q (F0 m 65 ls1 [])) → W p l e R0 s m args below meth c H locs cells slots Q (F0 m 22 ls []) := by
  have hx := C.1
  have hb := C.2.1
  intro n
  induction n with
  | zero =>
    intro j a H locs ls hj S hl kk
    refine lv_iload hx hb dL_isKnown_22 (lv_at hl 0 rfl) ?_
    refine lv_aload_n hx hb dL_isKnown_24 rfl (lv_at hl 6 rfl) ?_
    refine k_getA C S 21 191 (by decide) rfl rfl r21 (by decide) fn_RL_175 dL_isKnown_25 ?_
    refine lv_iload_n hx hb dL_isKnown_28 rfl (lv_at hl 8 rfl) ?_
    refine d_iald (k := b) (len := 3) C S (by decide) (⟨by decide +kernel, by decide, by decide⟩ : Ok 202 191 10003) (by omega) h191 dL_isKnown_29 ?_
    refine lv_icmp_ge (tgt := 65) hx hb dL_isKnown_30 (by decide) (fun _ => ?_) (fun c => absurd (nI_le (by omega) (by omega)) c)
    refine kk H locs ls S ?_
    rw [List.drop_eq_nil_of_le (by omega), show anyD k [] = false from rfl, Bool.or_false]
    exact lv_sub hl [1, 2, 3, 4, 5, 6, 7, 8] rfl
  | succ n ih =>
    intro j a H locs ls hj S hl kk
    have hjl : j < cs.length := by omega
    have hd := hdl j hjl
    have hd25 := (hch _ (getD_mem (x := (0, 0)) hjl)).2.2
    refine lv_iload hx hb dL_isKnown_22 (lv_at hl 0 rfl) ?_
    refine lv_aload_n hx hb dL_isKnown_24 rfl (lv_at hl 6 rfl) ?_
    refine k_getA C S 21 191 (by decide) rfl rfl r21 (by decide) fn_RL_175 dL_isKnown_25 ?_
    refine lv_iload_n hx hb dL_isKnown_28 rfl (lv_at hl 8 rfl) ?_
    refine d_iald (k := b) (len := 3) C S (by decide) (⟨by decide +kernel, by decide, by decide⟩ : Ok 202 191 10003) (by omega) h191 dL_isKnown_29 ?_
    refine lv_icmp_ge (tgt := 65) hx hb dL_isKnown_30 (by decide) (fun c => absurd c (nI_ge (by omega) (by omega))) (fun _ => ?_)
    rw [drop_getD hjl, show anyD k (cs.getD j (0, 0) :: cs.drop (j + 1)) = (decide ((cs.getD j (0, 0)).2 = k) || anyD k (cs.drop (j + 1))) from rfl, ← Bool.or_assoc] at kk
    generalize (cs.getD j (0, 0)).2 = dd at hd hd25 kk
    have tail : ∀ (H : Heap) (locs : List Loc), S2 g s σ R L H locs → W p l e R0 s m args below meth c H locs cells slots Q (F0 m 57 ls (.int (bI (a || decide (dd = k))) :: [])) := by
      intro H locs S
      refine lv_istore (lv' := [(7, .int (bI (a || decide (dd = k)))), (8, .int (nI j)), (6, .int (nI k)), (4, .int (nI mo)), (5, .int (nI st)), (0, .ref (ga g 1)), (1, .ref (ga g 178)), (2, .ref (ga g 202)), (3, .int (nI b))]) hx hb dL_isKnown_57 hl (by decide) rfl (fun ls hl => ?_)
      refine lv_iinc (v := nI (j + 1)) (lv' := [(8, .int (nI (j + 1))), (7, .int (bI (a || decide (dd = k)))), (6, .int (nI k)), (4, .int (nI mo)), (5, .int (nI st)), (0, .ref (ga g 1)), (1, .ref (ga g 178)), (2, .ref (ga g 202)), (3, .int (nI b))]) hx hb dL_isKnown_59 hl (k := 1) rfl (nI_1 j) (by decide) rfl (fun ls hl => ?_)
      refine lv_goto (tgt := 22) hx hb dL_isKnown_62 (by decide) ?_
      exact ih (j + 1) (a || decide (dd = k)) H locs ls (by omega) S (lv_sub hl [0, 1, 2, 3, 4, 5, 6, 7, 8] rfl) kk
    refine lv_iload hx hb dL_isKnown_33 (lv_at hl 1 rfl) ?_
    refine lv_if_ne (tgt := 52) hx hb dL_isKnown_35 (by decide) (fun hc => ?_) (fun hc => ?_)
    · have ha : a = true := by
        cases a with
        | true => rfl
        | false => exact absurd bI_f hc
      rw [ha] at tail
      refine lv_iconst (v := bI true) hx hb dL_isKnown_52 (by decide) ?_
      refine lv_goto (tgt := 57) hx hb dL_isKnown_53 (by decide) ?_
      have tail : ∀ (H : Heap) (locs : List Loc), S2 g s σ R L H locs → W p l e R0 s m args below meth c H locs cells slots Q (F0 m 57 ls (.int (bI true) :: [])) := by rw [Bool.true_or] at tail; exact tail
      exact tail H locs S
    · have ha : a = false := by
        cases a with
        | false => rfl
        | true => exact absurd hc (by decide)
      rw [ha] at tail
      refine lv_aload_n hx hb dL_isKnown_38 rfl (lv_at hl 6 rfl) ?_
      refine k_getA C S 25 198 (by decide) rfl rfl r25 (by decide) fn_RL_179 dL_isKnown_39 ?_
      refine lv_iload_n hx hb dL_isKnown_42 rfl (lv_at hl 8 rfl) ?_
      refine d_aald (k := b) C S (⟨by decide +kernel, by decide, by decide⟩ : Ok 202 198 80003) hb3 r8 (by omega) (okr199 hb3) dL_isKnown_43 ?_
      refine lv_iload hx hb dL_isKnown_44 (lv_at hl 0 rfl) ?_
      refine d_iald (k := j) (len := 4) C S (by decide) (okr199 hb3) (by omega) hd dL_isKnown_46 ?_
      refine lv_iload hx hb dL_isKnown_47 (lv_at hl 2 rfl) ?_
      refine lv_icmp_ne (tgt := 56) hx hb dL_isKnown_49 (by decide) (fun hc => ?_) (fun hc => ?_)
      · have e : ¬ dd = k := fun z => hc (by rw [z])
        rw [decide_eq_false e] at tail
        refine lv_iconst (v := bI (false || false)) hx hb dL_isKnown_56 (by decide) ?_
        exact tail H locs S
      · have e : dd = k := (nI_eq (by omega) (by omega)).mp hc
        rw [decide_eq_true e] at tail
        refine lv_iconst (v := bI (false || true)) hx hb dL_isKnown_52 (by decide) ?_
        refine lv_goto (tgt := 57) hx hb dL_isKnown_53 (by decide) ?_
        exact tail H locs S
set_option maxHeartbeats 4000000 in
set_option maxRecDepth 100000 in
theorem k_scan {l : Launch} {g : GL} {p : Program} {e : Jvm.Env} {R0 : Room} {s : State} {m : MethodId} {args : Array Value} {below : List Frame} {meth : Method} {c : Code} {Q : State → Prop} {R : Nat → Nat → Nat} {L : Nat → Nat → Int64} {b : Nat} (C : Cx l g p s m meth c cL_isKnown 9 RL) (hSh : ShR R) (hRf : 10 ≤ R0.frames) (hRl : 640 ≤ R0.locals) (hb3 : b < 3) {σ : SI} {cs : List (Nat × Nat)} {cells slots : Nat} (hf : cells ≤ R0.cells ∧ slots ≤ R0.slots) (hl4 : cs.length ≤ 4) (hch : ∀ c ∈ cs, ChOk c) (r21 : R 178 21 = 191) (r25 : R 178 25 = 198) (r8 : R 198 b = 199 + b) (h191 : σ 191 b = nI cs.length) (hdl : ∀ j, j < cs.length → σ (199 + b) j = nI (cs.getD j (0, 0)).2) (hwin : ∀ d, d < 100 → f_X12_window 2000 R σ 178 (nI b) (nI d) = some (nI (sumW d cs), σ)) : ∀ (n k : Nat) (H : Heap) (locs : List Loc) (ls : Array Slot), k + n = 30 → S2 g s σ R L H locs → lv_has ls 9 [(6, .int (nI k)), (4, .int (nI (scn cs k).1)), (5, .int (nI (scn cs k).2)), (0, .ref (ga g 1)), (1, .ref (ga g 178)), (2, .ref (ga g 202)), (3, .int (nI b))] → (∀ (H1 : Heap) (locs1 : List Loc) (ls1 : Array Slot), S2 g s σ R L H1 locs1 → lv_has ls1 9 [(4, .int (nI (scn cs 30).1)), (5, .int (nI (scn cs 30).2)), (0, .ref (ga g 1)), (1, .ref (ga g 178)), (2, .ref (ga g 202)), (3, .int (nI b))] → W p l e R0 s m args below meth c H1 locs1 cells slots Q (F0 m 104 ls1 [])) → W p l e R0 s m args below meth c H locs cells slots Q (F0 m 9 ls []) := by
  have hx := C.1
  have hb := C.2.1
  intro n
  induction n with
  | zero =>
    intro k H locs ls hk S hl kk
    obtain rfl : k = 30 := by omega
    refine lv_iload hx hb dL_isKnown_9 (lv_at hl 0 rfl) ?_
    refine lv_bipush (v := nI 30) hx hb dL_isKnown_11 (by decide) ?_
    refine lv_icmp_ge (tgt := 104) hx hb dL_isKnown_13 (by decide) (fun _ => ?_) (fun c => absurd (nI_le (by omega) (by omega)) c)
    exact kk H locs ls S (lv_sub hl [1, 2, 3, 4, 5, 6] rfl)
  | succ n ih =>
    intro k H locs ls hk S hl kk
    have hsl := scn_le hch hl4 k
    have hsw := sumW_le k cs hch
    refine lv_iload hx hb dL_isKnown_9 (lv_at hl 0 rfl) ?_
    refine lv_bipush (v := nI 30) hx hb dL_isKnown_11 (by decide) ?_
    refine lv_icmp_ge (tgt := 104) hx hb dL_isKnown_13 (by decide) (fun c => absurd c (nI_ge (by omega) (by omega))) (fun _ => ?_)
    refine lv_iconst (v := nI 0) hx hb dL_isKnown_16 (by decide) ?_
    refine lv_istore (lv' := [(7, .int (nI 0)), (6, .int (nI k)), (4, .int (nI (scn cs k).1)), (5, .int (nI (scn cs k).2)), (0, .ref (ga g 1)), (1, .ref (ga g 178)), (2, .ref (ga g 202)), (3, .int (nI b))]) hx hb dL_isKnown_17 hl (by decide) rfl (fun ls hl => ?_)
    refine lv_iconst (v := nI 0) hx hb dL_isKnown_19 (by decide) ?_
    refine lv_istore (lv' := [(8, .int (nI 0)), (7, .int (nI 0)), (6, .int (nI k)), (4, .int (nI (scn cs k).1)), (5, .int (nI (scn cs k).2)), (0, .ref (ga g 1)), (1, .ref (ga g 178)), (2, .ref (ga g 202)), (3, .int (nI b))]) hx hb dL_isKnown_20 hl (by decide) rfl (fun ls hl => ?_)
    have hl := lv_sub hl [0, 1, 2, 3, 4, 5, 6, 7, 8] rfl
    have hl : lv_has ls 9 [(8, .int (nI 0)), (7, .int (bI false)), (6, .int (nI k)), (4, .int (nI (scn cs k).1)), (5, .int (nI (scn cs k).2)), (0, .ref (ga g 1)), (1, .ref (ga g 178)), (2, .ref (ga g 202)), (3, .int (nI b))] := hl
    refine k_in C hSh hRf hRl hb3 (by omega) hl4 hch r21 r25 r8 h191 hdl cs.length 0 false H locs ls (by omega) S hl (fun H locs ls S hl => ?_)
    rw [List.drop_zero, Bool.false_or] at hl
    have tail : ∀ (H : Heap) (locs : List Loc) (ls : Array Slot), S2 g s σ R L H locs → lv_has ls 9 [(6, .int (nI k)), (4, .int (nI (scn cs (k + 1)).1)), (5, .int (nI (scn cs (k + 1)).2)), (0, .ref (ga g 1)), (1, .ref (ga g 178)), (2, .ref (ga g 202)), (3, .int (nI b))] → W p l e R0 s m args below meth c H locs cells slots Q (F0 m 98 ls []) := by
      intro H locs ls S hl
      refine lv_iinc (v := nI (k + 1)) (lv' := [(6, .int (nI (k + 1))), (4, .int (nI (scn cs (k + 1)).1)), (5, .int (nI (scn cs (k + 1)).2)), (0, .ref (ga g 1)), (1, .ref (ga g 178)), (2, .ref (ga g 202)), (3, .int (nI b))]) hx hb dL_isKnown_98 hl (k := 0) rfl (nI_1 k) (by decide) rfl (fun ls hl => ?_)
      refine lv_goto (tgt := 9) hx hb dL_isKnown_101 (by decide) ?_
      exact ih (k + 1) H locs ls (by omega) S (lv_sub hl [0, 1, 2, 3, 4, 5, 6] rfl) kk
    refine lv_iload hx hb dL_isKnown_65 (lv_at hl 0 rfl) ?_
    refine lv_if_eq (tgt := 98) hx hb dL_isKnown_67 (by decide) (fun hc => ?_) (fun hc => ?_)
    · have ea : anyD k cs = false := bI_0.mp hc
      rw [scn_s, if_neg (by rw [ea]; exact fun z => absurd z.1 (by decide))] at tail
      exact tail H locs ls S (lv_sub hl [1, 2, 3, 4, 5, 6, 7] rfl)
    · have ea : anyD k cs = true := by
        cases hq : anyD k cs with
        | true => rfl
        | false => rw [hq] at hc; exact absurd rfl hc
      refine lv_aload_n hx hb dL_isKnown_70 rfl (lv_at hl 5 rfl) ?_
      refine lv_iload_n hx hb dL_isKnown_71 rfl (lv_at hl 7 rfl) ?_
      refine lv_iload hx hb dL_isKnown_72 (lv_at hl 1 rfl) ?_
      refine x_callVI C S KX12 ok178 (ok_X12_window (L := L) (hwin k (by omega)) hSh ok178) ⟨cd_X12_window, ni_RX12, ml_RL_183, in_X12_window, sl_X12_window⟩ ⟨by decide, by decide⟩ rfl ⟨by omega, by omega⟩ hl.1 rfl (Nat.le_of_ble_eq_true rfl) ⟨by omega, by omega⟩ dL_isKnown_74 (fun H locs S => ?_)
      refine lv_iload hx hb dL_isKnown_77 (lv_at hl 2 rfl) ?_
      refine lv_icmp_gt (tgt := 85) hx hb dL_isKnown_79 (by decide) (fun hc => ?_) (fun hc => ?_)
      · have hlt : (scn cs k).1 < sumW k cs := (nI_ltI (by omega) (by omega)).mp hc
        rw [scn_s, if_pos ⟨ea, hlt⟩] at tail
        refine lv_aload_n hx hb dL_isKnown_85 rfl (lv_at hl 5 rfl) ?_
        refine lv_iload_n hx hb dL_isKnown_86 rfl (lv_at hl 7 rfl) ?_
        refine lv_iload hx hb dL_isKnown_87 (lv_at hl 1 rfl) ?_
        refine x_callVI C S KX12 ok178 (ok_X12_window (L := L) (hwin k (by omega)) hSh ok178) ⟨cd_X12_window, ni_RX12, ml_RL_183, in_X12_window, sl_X12_window⟩ ⟨by decide, by decide⟩ rfl ⟨by omega, by omega⟩ hl.1 rfl (Nat.le_of_ble_eq_true rfl) ⟨by omega, by omega⟩ dL_isKnown_89 (fun H locs S => ?_)
        refine lv_istore (lv' := [(4, .int (nI (sumW k cs))), (7, .int (bI (anyD k cs))), (6, .int (nI k)), (5, .int (nI (scn cs k).2)), (0, .ref (ga g 1)), (1, .ref (ga g 178)), (2, .ref (ga g 202)), (3, .int (nI b))]) hx hb dL_isKnown_92 hl (by decide) rfl (fun ls hl => ?_)
        refine lv_iload hx hb dL_isKnown_94 (lv_at hl 2 rfl) ?_
        refine lv_istore (lv' := [(5, .int (nI k)), (4, .int (nI (sumW k cs))), (7, .int (bI (anyD k cs))), (6, .int (nI k)), (0, .ref (ga g 1)), (1, .ref (ga g 178)), (2, .ref (ga g 202)), (3, .int (nI b))]) hx hb dL_isKnown_96 hl (by decide) rfl (fun ls hl => ?_)
        exact tail H locs ls S (lv_sub hl [3, 1, 0, 4, 5, 6, 7] rfl)
      · have hlt : ¬ (scn cs k).1 < sumW k cs := fun z => hc ((nI_ltI (by omega) (by omega)).mpr z)
        rw [scn_s, if_neg (fun z => hlt z.2)] at tail
        refine lv_goto (tgt := 98) hx hb dL_isKnown_82 (by decide) ?_
        exact tail H locs ls S (lv_sub hl [1, 2, 3, 4, 5, 6, 7] rfl)
set_option maxHeartbeats 4000000 in
set_option maxRecDepth 100000 in
theorem k_near {l : Launch} {g : GL} {p : Program} {e : Jvm.Env} {R0 : Room} {s : State} {m : MethodId} {args : Array Value} {below : List Frame} {meth : Method} {c : Code} {Q : State → Prop} {R : Nat → Nat → Nat} {L : Nat → Nat → Int64} {b : Nat} (C : Cx l g p s m meth c cL_isKnown 9 RL) (hSh : ShR R) (hRf : 10 ≤ R0.frames) (hRl : 640 ≤ R0.locals) (hb3 : b < 3) {σ : SI} {nn mo cells2 slots2 : Nat} {V : Nat → Int32} {D : Nat → Int} (hnn : nn ≤ 2) (hf : cells2 ≤ R0.cells ∧ slots2 ≤ R0.slots) (h0 : σ 178 0 = nI nn) (hV : ∀ n, n < nn → f_X11_vibration 2000 R σ 1 (nI b) (nI n) = some (.inl (V n), σ)) (hF : ∀ n, n < nn → f_X12_far 2000 R σ 178 (nI b) (nI n) = some (iI (D n), σ)) (hD : ∀ n, n < nn → ¬ iI (D n) + nI 1 = 0 ∧ V n = nI 1000 * nI mo / (iI (D n) + nI 1)) : ∀ (n k cells slots : Nat) (H : Heap) (locs : List Loc) (ls : Array Slot), k + n = nn → cells + 2 * n ≤ cells2 → slots + 12 * n ≤ slots2 → S2 g s σ R L H locs → lv_has ls 9 [(6, .int (nI k)), (4, .int (nI mo)), (0, .ref (ga g 1)), (1, .ref (ga g 178)), (2, .ref (ga g 202)), (3, .int (nI b))] → (∀ (H1 : Heap) (locs1 : List Loc) (ls1 : Array Slot), S2 g s σ R L H1 locs1 → lv_has ls1 9 [(0, .ref (ga g 1)), (1, .ref (ga g 178)), (2, .ref (ga g 202)), (3, .int (nI b))] → W p l e R0 s m args below meth c H1 locs1 cells2 slots2 Q (F0 m 180 ls1 [])) → W p l e R0 s m args below meth c H locs cells slots Q (F0 m 135 ls []) := by
  have hx := C.1
  have hb := C.2.1
  intro n
  induction n with
  | zero =>
    intro k cells slots H locs ls hk hc hs S hl kk
    refine lv_iload hx hb dL_isKnown_135 (lv_at hl 0 rfl) ?_
    refine lv_aload_n hx hb dL_isKnown_137 rfl (lv_at hl 3 rfl) ?_
    refine k_getI C S 0 (by decide) rfl rfl h0 fn_RL_186 dL_isKnown_138 ?_
    refine lv_icmp_ge (tgt := 180) hx hb dL_isKnown_141 (by decide) (fun _ => ?_) (fun c => absurd (nI_le (by omega) (by omega)) c)
    refine W.widen (k := cells2) (n := slots2) (by omega) (by omega) ?_
    exact kk H locs ls S (lv_sub hl [2, 3, 4, 5] rfl)
  | succ n ih =>
    intro k cells slots H locs ls hk hc hs S hl kk
    have hkn : k < nn := by omega
    have hD := hD k hkn
    refine lv_iload hx hb dL_isKnown_135 (lv_at hl 0 rfl) ?_
    refine lv_aload_n hx hb dL_isKnown_137 rfl (lv_at hl 3 rfl) ?_
    refine k_getI C S 0 (by decide) rfl rfl h0 fn_RL_186 dL_isKnown_138 ?_
    refine lv_icmp_ge (tgt := 180) hx hb dL_isKnown_141 (by decide) (fun c => absurd c (nI_ge (by omega) (by omega))) (fun _ => ?_)
    refine lv_aload_n hx hb dL_isKnown_144 rfl (lv_at hl 2 rfl) ?_
    refine lv_iconst (v := nI 3) hx hb dL_isKnown_145 (by decide) ?_
    refine lv_iload_n hx hb dL_isKnown_146 rfl (lv_at hl 5 rfl) ?_
    refine lv_iload hx hb dL_isKnown_147 (lv_at hl 0 rfl) ?_
    refine lv_iconst (v := nI 0) hx hb dL_isKnown_149 (by decide) ?_
    refine k_asks C S (h_asks_3 (hV k hkn) hSh hx_1) hRf hRl hl.1 (by decide) ⟨by omega, by omega⟩ dL_isKnown_150 (fun H locs S => ?_)
    refine lv_sipush (v := nI 1000) hx hb dL_isKnown_153 (by decide) ?_
    refine lv_iload hx hb dL_isKnown_156 (lv_at hl 1 rfl) ?_
    refine lv_imul hx hb dL_isKnown_158 ?_
    refine lv_aload_n hx hb dL_isKnown_159 rfl (lv_at hl 3 rfl) ?_
    refine lv_iload_n hx hb dL_isKnown_160 rfl (lv_at hl 5 rfl) ?_
    refine lv_iload hx hb dL_isKnown_161 (lv_at hl 0 rfl) ?_
    refine x_callVI C S KX12 ok178 (ok_X12_far (L := L) (hF k hkn) hSh ok178) ⟨cd_X12_far, ni_RX12, ml_RL_189, in_X12_far, sl_X12_far⟩ ⟨by decide, by decide⟩ rfl ⟨by omega, by omega⟩ hl.1 rfl (Nat.le_of_ble_eq_true rfl) ⟨by omega, by omega⟩ dL_isKnown_163 (fun H locs S => ?_)
    refine lv_iconst (v := nI 1) hx hb dL_isKnown_166 (by decide) ?_
    refine lv_iadd hx hb dL_isKnown_167 ?_
    refine lv_idiv hx hb dL_isKnown_168 hD.1 ?_
    refine lv_icmp_eq (tgt := 174) hx hb dL_isKnown_169 (by decide) (fun _ => ?_) (fun c => absurd hD.2 c)
    refine lv_iinc (v := nI (k + 1)) (lv' := [(6, .int (nI (k + 1))), (4, .int (nI mo)), (0, .ref (ga g 1)), (1, .ref (ga g 178)), (2, .ref (ga g 202)), (3, .int (nI b))]) hx hb dL_isKnown_174 hl (k := 0) rfl (nI_1 k) (by decide) rfl (fun ls hl => ?_)
    refine lv_goto (tgt := 135) hx hb dL_isKnown_177 (by decide) ?_
    exact ih (k + 1) _ _ H locs ls (by omega) (by omega) (by omega) S (lv_sub hl [0, 1, 2, 3, 4, 5] rfl) kk
set_option maxHeartbeats 4000000 in
set_option maxRecDepth 100000 in
theorem k_roads {l : Launch} {g : GL} {p : Program} {e : Jvm.Env} {R0 : Room} {s : State} {m : MethodId} {args : Array Value} {below : List Frame} {meth : Method} {c : Code} {Q : State → Prop} {R : Nat → Nat → Nat} {L : Nat → Nat → Int64} {b : Nat} (C : Cx l g p s m meth c cL_isKnown 9 RL) (hSh : ShR R) (hRf : 10 ≤ R0.frames) (hRl : 640 ≤ R0.locals) (hb3 : b < 3) {σ : SI} {nr rad cells2 slots2 : Nat} {Pn : Nat → Nat → Bool} {nd : Nat → Nat} (hnr : nr ≤ 2) (hrad : rad ≤ 1500) (hf : cells2 ≤ R0.cells ∧ slots2 ≤ R0.slots) (h1 : σ 178 1 = nI nr) (r20 : R 178 20 = 190) (h190 : σ 190 b = nI rad) (hC : ∀ r, r < nr → f_X11_closes 2000 R σ 1 (nI b) (nI r) = some (.inl (bI (Pn r rad)), σ)) (hK : ∀ r c, r < nr → c ≤ 1500 → f_X12_comes 2000 R σ 178 (nI b) (nI r) (nI c) = some (bI (Pn r c), σ)) (hN : ∀ r, r < nr → f_X11_neededRadius 2000 R σ 1 (nI b) (nI r) = some (.inl (nI (nd r)), σ)) (hnd : ∀ r, r < nr → nd r ≤ 1500 ∧ Pn r (nd r) = true ∧ (0 < nd r → Pn r (nd r - 1) = false)) : ∀ (n k cells slots : Nat) (H : Heap) (locs : List Loc) (ls : Array Slot), k + n = nr → cells + 4 * n ≤ cells2 → slots + 24 * n ≤ slots2 → S2 g s σ R L H locs → lv_has ls 9 [(6, .int (nI k)), (0, .ref (ga g 1)), (1, .ref (ga g 178)), (2, .ref (ga g 202)), (3, .int (nI b))] → (∀ (H1 : Heap) (locs1 : List Loc) (ls1 : Array Slot), S2 g s σ R L H1 locs1 → lv_has ls1 9 [(0, .ref (ga g 1)), (1, .ref (ga g 178)), (2, .ref (ga g 202)), (3, .int (nI b))] → W p l e R0 s m args below meth c H1 locs1 cells2 slots2 Q (F0 m 278 ls1 [])) → W p l e R0 s m args below meth c H locs cells slots Q (F0 m 183 ls []) := by
  have hx := C.1
  have hb := C.2.1
  intro n
  induction n with
  | zero =>
    intro k cells slots H locs ls hk hc hs S hl kk
    refine lv_iload hx hb dL_isKnown_183 (lv_at hl 0 rfl) ?_
    refine lv_aload_n hx hb dL_isKnown_185 rfl (lv_at hl 2 rfl) ?_
    refine k_getI C S 1 (by decide) rfl rfl h1 fn_RL_192 dL_isKnown_186 ?_
    refine lv_icmp_ge (tgt := 278) hx hb dL_isKnown_189 (by decide) (fun _ => ?_) (fun c => absurd (nI_le (by omega) (by omega)) c)
    refine W.widen (k := cells2) (n := slots2) (by omega) (by omega) ?_
    exact kk H locs ls S (lv_sub hl [1, 2, 3, 4] rfl)
  | succ n ih =>
    intro k cells slots H locs ls hk hc hs S hl kk
    have hkn : k < nr := by omega
    obtain ⟨n1, n2, n3⟩ := hnd k hkn
    refine lv_iload hx hb dL_isKnown_183 (lv_at hl 0 rfl) ?_
    refine lv_aload_n hx hb dL_isKnown_185 rfl (lv_at hl 2 rfl) ?_
    refine k_getI C S 1 (by decide) rfl rfl h1 fn_RL_192 dL_isKnown_186 ?_
    refine lv_icmp_ge (tgt := 278) hx hb dL_isKnown_189 (by decide) (fun c => absurd c (nI_ge (by omega) (by omega))) (fun _ => ?_)
    refine lv_aload_n hx hb dL_isKnown_192 rfl (lv_at hl 1 rfl) ?_
    refine lv_iconst (v := nI 4) hx hb dL_isKnown_193 (by decide) ?_
    refine lv_iload_n hx hb dL_isKnown_194 rfl (lv_at hl 4 rfl) ?_
    refine lv_iload hx hb dL_isKnown_195 (lv_at hl 0 rfl) ?_
    refine lv_iconst (v := nI 0) hx hb dL_isKnown_197 (by decide) ?_
    refine k_asks C S (h_asks_4 (hC k hkn) hSh hx_1) hRf hRl hl.1 (by decide) ⟨by omega, by omega⟩ dL_isKnown_198 (fun H locs S => ?_)
    refine lv_aload_n hx hb dL_isKnown_201 rfl (lv_at hl 2 rfl) ?_
    refine lv_iload_n hx hb dL_isKnown_202 rfl (lv_at hl 4 rfl) ?_
    refine lv_iload hx hb dL_isKnown_203 (lv_at hl 0 rfl) ?_
    refine lv_aload_n hx hb dL_isKnown_205 rfl (lv_at hl 2 rfl) ?_
    refine k_getA C S 20 190 (by decide) rfl rfl r20 (by decide) fn_RL_195 dL_isKnown_206 ?_
    refine lv_iload_n hx hb dL_isKnown_209 rfl (lv_at hl 4 rfl) ?_
    refine d_iald (k := b) (len := 3) C S (by decide) (⟨by decide +kernel, by decide, by decide⟩ : Ok 202 190 10003) hb3 h190 dL_isKnown_210 ?_
    refine x_callVI C S KX12 ok178 (ok_X12_comes (L := L) (hK k rad hkn (by omega)) hSh ok178) ⟨cd_X12_comes, ni_RX12, ml_RL_198, in_X12_comes, sl_X12_comes⟩ ⟨by decide, by decide⟩ rfl ⟨by omega, by omega⟩ hl.1 rfl (Nat.le_of_ble_eq_true rfl) ⟨by omega, by omega⟩ dL_isKnown_211 (fun H locs S => ?_)
    have tail : ∀ (H : Heap) (locs : List Loc), S2 g s σ R L H locs → W p l e R0 s m args below meth c H locs (cells + 2 + 0) (slots + 12 + 0) Q (F0 m 227 ls []) := by
      intro H locs S
      refine lv_aload_n hx hb dL_isKnown_227 rfl (lv_at hl 1 rfl) ?_
      refine lv_bipush (v := nI 28) hx hb dL_isKnown_228 (by decide) ?_
      refine lv_iload_n hx hb dL_isKnown_230 rfl (lv_at hl 4 rfl) ?_
      refine lv_iload hx hb dL_isKnown_231 (lv_at hl 0 rfl) ?_
      refine lv_iconst (v := nI 0) hx hb dL_isKnown_233 (by decide) ?_
      refine k_asks C S (h_asks_28 (hN k hkn) hSh hx_1) hRf hRl hl.1 (by decide) ⟨by omega, by omega⟩ dL_isKnown_234 (fun H locs S => ?_)
      refine lv_istore (lv' := [(7, .int (nI (nd k))), (6, .int (nI k)), (0, .ref (ga g 1)), (1, .ref (ga g 178)), (2, .ref (ga g 202)), (3, .int (nI b))]) hx hb dL_isKnown_237 hl (by decide) rfl (fun ls hl => ?_)
      refine lv_aload_n hx hb dL_isKnown_239 rfl (lv_at hl 3 rfl) ?_
      refine lv_iload_n hx hb dL_isKnown_240 rfl (lv_at hl 5 rfl) ?_
      refine lv_iload hx hb dL_isKnown_241 (lv_at hl 1 rfl) ?_
      refine lv_iload hx hb dL_isKnown_243 (lv_at hl 0 rfl) ?_
      refine x_callVI C S KX12 ok178 (ok_X12_comes (L := L) (hK k (nd k) hkn n1) hSh ok178) ⟨cd_X12_comes, ni_RX12, ml_RL_198, in_X12_comes, sl_X12_comes⟩ ⟨by decide, by decide⟩ rfl ⟨by omega, by omega⟩ hl.1 rfl (Nat.le_of_ble_eq_true rfl) ⟨by omega, by omega⟩ dL_isKnown_245 (fun H locs S => ?_)
      rw [n2]
      refine lv_if_eq (tgt := 270) hx hb dL_isKnown_248 (by decide) (fun c => absurd c (show ¬ bI true = 0 from by decide)) (fun _ => ?_)
      refine lv_iload hx hb dL_isKnown_251 (lv_at hl 0 rfl) ?_
      have tail2 : ∀ (H : Heap) (locs : List Loc), S2 g s σ R L H locs → W p l e R0 s m args below meth c H locs (cells + 4) (slots + 24) Q (F0 m 272 ls []) := by
        intro H locs S
        refine lv_iinc (v := nI (k + 1)) (lv' := [(6, .int (nI (k + 1))), (7, .int (nI (nd k))), (0, .ref (ga g 1)), (1, .ref (ga g 178)), (2, .ref (ga g 202)), (3, .int (nI b))]) hx hb dL_isKnown_272 hl (k := 1) rfl (nI_1 k) (by decide) rfl (fun ls hl => ?_)
        refine lv_goto (tgt := 183) hx hb dL_isKnown_275 (by decide) ?_
        exact ih (k + 1) _ _ H locs ls (by omega) (by omega) (by omega) S (lv_sub hl [0, 2, 3, 4, 5] rfl) kk
      refine lv_if_le (tgt := 272) hx hb dL_isKnown_253 (by decide) (fun hc => ?_) (fun hc => ?_)
      · exact tail2 H locs S
      · have hp : 0 < nd k := Nat.pos_of_ne_zero (fun z => hc (by rw [z]; decide))
        refine lv_aload_n hx hb dL_isKnown_256 rfl (lv_at hl 3 rfl) ?_
        refine lv_iload_n hx hb dL_isKnown_257 rfl (lv_at hl 5 rfl) ?_
        refine lv_iload hx hb dL_isKnown_258 (lv_at hl 1 rfl) ?_
        refine lv_iload hx hb dL_isKnown_260 (lv_at hl 0 rfl) ?_
        refine lv_iconst (v := nI 1) hx hb dL_isKnown_262 (by decide) ?_
        refine lv_isub hx hb dL_isKnown_263 ?_
        rw [nI_sub (show 1 ≤ nd k from hp)]
        refine x_callVI C S KX12 ok178 (ok_X12_comes (L := L) (hK k (nd k - 1) hkn (by omega)) hSh ok178) ⟨cd_X12_comes, ni_RX12, ml_RL_198, in_X12_comes, sl_X12_comes⟩ ⟨by decide, by decide⟩ rfl ⟨by omega, by omega⟩ hl.1 rfl (Nat.le_of_ble_eq_true rfl) ⟨by omega, by omega⟩ dL_isKnown_264 (fun H locs S => ?_)
        rw [n3 hp]
        refine lv_if_eq (tgt := 272) hx hb dL_isKnown_267 (by decide) (fun _ => ?_) (fun c => absurd bI_f c)
        exact tail2 H locs S
    cases Pn k rad with
    | true =>
      refine lv_if_eq (tgt := 221) hx hb dL_isKnown_214 (by decide) (fun c => absurd c (show ¬ bI true = 0 from by decide)) (fun _ => ?_)
      refine lv_iconst (v := bI true) hx hb dL_isKnown_217 (by decide) ?_
      refine lv_goto (tgt := 222) hx hb dL_isKnown_218 (by decide) ?_
      refine lv_icmp_eq (tgt := 227) hx hb dL_isKnown_222 (by decide) (fun _ => ?_) (fun c => absurd rfl c)
      exact tail H locs S
    | false =>
      refine lv_if_eq (tgt := 221) hx hb dL_isKnown_214 (by decide) (fun _ => ?_) (fun c => absurd bI_f c)
      refine lv_iconst (v := bI false) hx hb dL_isKnown_221 (by decide) ?_
      refine lv_icmp_eq (tgt := 227) hx hb dL_isKnown_222 (by decide) (fun _ => ?_) (fun c => absurd rfl c)
      exact tail H locs S
set_option maxHeartbeats 4000000 in
set_option maxRecDepth 100000 in
theorem k_quiet {l : Launch} {g : GL} {p : Program} {e : Jvm.Env} {R0 : Room} {s : State} {m : MethodId} {args : Array Value} {below : List Frame} {meth : Method} {c : Code} {Q : State → Prop} {R : Nat → Nat → Nat} {L : Nat → Nat → Int64} {b : Nat} (C : Cx l g p s m meth c cL_isKnown 9 RL) (hSh : ShR R) (hRf : 10 ≤ R0.frames) (hRl : 640 ≤ R0.locals) (hb3 : b < 3) {σ : SI} {nn x k cells2 slots2 : Nat} {Pq : Nat → Bool} (hnn : nn ≤ 2) (hf : cells2 ≤ R0.cells ∧ slots2 ≤ R0.slots) (h0 : σ 178 0 = nI nn) (hA : ∀ n, n < nn → f_X11_isQuiet 2000 R σ 1 (nI n) (nI x) = some (.inl (bI (Pq n)), σ)) (hB : ∀ n, n < nn → f_X12_isQuiet 2000 R σ 178 (nI n) (nI x) = some (bI (Pq n), σ)) : ∀ (n j cells slots : Nat) (H : Heap) (locs : List Loc) (ls : Array Slot), j + n = nn → cells + 2 * n ≤ cells2 → slots + 12 * n ≤ slots2 → S2 g s σ R L H locs → lv_has ls 9 [(8, .int (nI j)), (7, .int (nI x)), (6, .int (nI k)), (0, .ref (ga g 1)), (1, .ref (ga g 178)), (2, .ref (ga g 202)), (3, .int (nI b))] → (∀ (H1 : Heap) (locs1 : List Loc) (ls1 : Array Slot), S2 g s σ R L H1 locs1 → lv_has ls1 9 [(6, .int (nI k)), (0, .ref (ga g 1)), (1, .ref (ga g 178)), (2, .ref (ga g 202)), (3, .int (nI b))] → W p l e R0 s m args below meth c H1 locs1 cells2 slots2 Q (F0 m 394 ls1 [])) → W p l e R0 s m args below meth c H locs cells slots Q (F0 m 348 ls []) := by
  have hx := C.1
  have hb := C.2.1
  intro n
  induction n with
  | zero =>
    intro j cells slots H locs ls hj hc hs S hl kk
    refine lv_iload hx hb dL_isKnown_348 (lv_at hl 0 rfl) ?_
    refine lv_aload_n hx hb dL_isKnown_350 rfl (lv_at hl 4 rfl) ?_
    refine k_getI C S 0 (by decide) rfl rfl h0 fn_RL_186 dL_isKnown_351 ?_
    refine lv_icmp_ge (tgt := 394) hx hb dL_isKnown_354 (by decide) (fun _ => ?_) (fun c => absurd (nI_le (by omega) (by omega)) c)
    refine W.widen (k := cells2) (n := slots2) (by omega) (by omega) ?_
    exact kk H locs ls S (lv_sub hl [2, 3, 4, 5, 6] rfl)
  | succ n ih =>
    intro j cells slots H locs ls hj hc hs S hl kk
    have hjn : j < nn := by omega
    refine lv_iload hx hb dL_isKnown_348 (lv_at hl 0 rfl) ?_
    refine lv_aload_n hx hb dL_isKnown_350 rfl (lv_at hl 4 rfl) ?_
    refine k_getI C S 0 (by decide) rfl rfl h0 fn_RL_186 dL_isKnown_351 ?_
    refine lv_icmp_ge (tgt := 394) hx hb dL_isKnown_354 (by decide) (fun c => absurd c (nI_ge (by omega) (by omega))) (fun _ => ?_)
    refine lv_aload_n hx hb dL_isKnown_357 rfl (lv_at hl 3 rfl) ?_
    refine lv_iconst (v := nI 5) hx hb dL_isKnown_358 (by decide) ?_
    refine lv_iload hx hb dL_isKnown_359 (lv_at hl 0 rfl) ?_
    refine lv_iload hx hb dL_isKnown_361 (lv_at hl 1 rfl) ?_
    refine lv_iconst (v := nI 0) hx hb dL_isKnown_363 (by decide) ?_
    refine k_asks C S (h_asks_5 (hA j hjn) hSh hx_1) hRf hRl hl.1 (by decide) ⟨by omega, by omega⟩ dL_isKnown_364 (fun H locs S => ?_)
    refine lv_aload_n hx hb dL_isKnown_367 rfl (lv_at hl 4 rfl) ?_
    refine lv_iload hx hb dL_isKnown_368 (lv_at hl 0 rfl) ?_
    refine lv_iload hx hb dL_isKnown_370 (lv_at hl 1 rfl) ?_
    refine x_callVI C S KX12 ok178 (ok_X12_isQuiet (L := L) (hB j hjn) hSh ok178) ⟨cd_X12_isQuiet, ni_RX12, ml_RL_212, in_X12_isQuiet, sl_X12_isQuiet⟩ ⟨by decide, by decide⟩ rfl ⟨by omega, by omega⟩ hl.1 rfl (Nat.le_of_ble_eq_true rfl) ⟨by omega, by omega⟩ dL_isKnown_372 (fun H locs S => ?_)
    have tail : ∀ (H : Heap) (locs : List Loc), S2 g s σ R L H locs → W p l e R0 s m args below meth c H locs (cells + 2 + 0) (slots + 12 + 0) Q (F0 m 388 ls []) := by
      intro H locs S
      refine lv_iinc (v := nI (j + 1)) (lv' := [(8, .int (nI (j + 1))), (7, .int (nI x)), (6, .int (nI k)), (0, .ref (ga g 1)), (1, .ref (ga g 178)), (2, .ref (ga g 202)), (3, .int (nI b))]) hx hb dL_isKnown_388 hl (k := 0) rfl (nI_1 j) (by decide) rfl (fun ls hl => ?_)
      refine lv_goto (tgt := 348) hx hb dL_isKnown_391 (by decide) ?_
      exact ih (j + 1) _ _ H locs ls (by omega) (by omega) (by omega) S (lv_sub hl [0, 1, 2, 3, 4, 5, 6] rfl) kk
    cases Pq j with
    | true =>
      refine lv_if_eq (tgt := 382) hx hb dL_isKnown_375 (by decide) (fun c => absurd c (show ¬ bI true = 0 from by decide)) (fun _ => ?_)
      refine lv_iconst (v := bI true) hx hb dL_isKnown_378 (by decide) ?_
      refine lv_goto (tgt := 383) hx hb dL_isKnown_379 (by decide) ?_
      refine lv_icmp_eq (tgt := 388) hx hb dL_isKnown_383 (by decide) (fun _ => ?_) (fun c => absurd rfl c)
      exact tail H locs S
    | false =>
      refine lv_if_eq (tgt := 382) hx hb dL_isKnown_375 (by decide) (fun _ => ?_) (fun c => absurd bI_f c)
      refine lv_iconst (v := bI false) hx hb dL_isKnown_382 (by decide) ?_
      refine lv_icmp_eq (tgt := 388) hx hb dL_isKnown_383 (by decide) (fun _ => ?_) (fun c => absurd rfl c)
      exact tail H locs S
set_option maxHeartbeats 4000000 in
set_option maxRecDepth 100000 in
theorem k_dust {l : Launch} {g : GL} {p : Program} {e : Jvm.Env} {R0 : Room} {s : State} {m : MethodId} {args : Array Value} {below : List Frame} {meth : Method} {c : Code} {Q : State → Prop} {R : Nat → Nat → Nat} {L : Nat → Nat → Int64} {b : Nat} (C : Cx l g p s m meth c cL_isKnown 9 RL) (hSh : ShR R) (hRf : 10 ≤ R0.frames) (hRl : 640 ≤ R0.locals) (hb3 : b < 3) {σ : SI} {nn q cells slots : Nat} {Pd_ : Nat → Bool} (hnn : nn ≤ 2) (hf : cells ≤ R0.cells ∧ slots ≤ R0.slots) (h0 : σ 178 0 = nI nn) (hDu : ∀ n, n < nn → f_X12_isDusty 2000 R σ 178 (nI b) (nI n) (nI q) = some (bI (Pd_ n), σ)) : ∀ (n j : Nat) (a : Int32) (H : Heap) (locs : List Loc) (ls : Array Slot), j + n = nn → S2 g s σ R L H locs → lv_has ls 9 [(8, .int (nI j)), (7, .int a), (6, .int (nI q)), (0, .ref (ga g 1)), (1, .ref (ga g 178)), (2, .ref (ga g 202)), (3, .int (nI b))] → (∀ (H1 : Heap) (locs1 : List Loc) (ls1 : Array Slot), S2 g s σ R L H1 locs1 → lv_has ls1 9 [(7, .int (bts Pd_ j n a)), (6, .int (nI q)), (0, .ref (ga g 1)), (1, .ref (ga g 178)), (2, .ref (ga g 202)), (3, .int (nI b))] → W p l e R0 s m args below meth c H1 locs1 cells slots Q (F0 m 457 ls1 [])) → W p l e R0 s m args below meth c H locs cells slots Q (F0 m 417 ls []) := by
  have hx := C.1
  have hb := C.2.1
  intro n
  induction n with
  | zero =>
    intro j a H locs ls hj S hl kk
    refine lv_iload hx hb dL_isKnown_417 (lv_at hl 0 rfl) ?_
    refine lv_aload_n hx hb dL_isKnown_419 rfl (lv_at hl 4 rfl) ?_
    refine k_getI C S 0 (by decide) rfl rfl h0 fn_RL_186 dL_isKnown_420 ?_
    refine lv_icmp_ge (tgt := 457) hx hb dL_isKnown_423 (by decide) (fun _ => ?_) (fun c => absurd (nI_le (by omega) (by omega)) c)
    exact kk H locs ls S (lv_sub hl [1, 2, 3, 4, 5, 6] rfl)
  | succ n ih =>
    intro j a H locs ls hj S hl kk
    have hjn : j < nn := by omega
    refine lv_iload hx hb dL_isKnown_417 (lv_at hl 0 rfl) ?_
    refine lv_aload_n hx hb dL_isKnown_419 rfl (lv_at hl 4 rfl) ?_
    refine k_getI C S 0 (by decide) rfl rfl h0 fn_RL_186 dL_isKnown_420 ?_
    refine lv_icmp_ge (tgt := 457) hx hb dL_isKnown_423 (by decide) (fun c => absurd c (nI_ge (by omega) (by omega))) (fun _ => ?_)
    refine lv_iload hx hb dL_isKnown_426 (lv_at hl 1 rfl) ?_
    refine lv_aload_n hx hb dL_isKnown_428 rfl (lv_at hl 4 rfl) ?_
    refine lv_iload_n hx hb dL_isKnown_429 rfl (lv_at hl 6 rfl) ?_
    refine lv_iload hx hb dL_isKnown_430 (lv_at hl 0 rfl) ?_
    refine lv_iload hx hb dL_isKnown_432 (lv_at hl 2 rfl) ?_
    refine x_callVI C S KX12 ok178 (ok_X12_isDusty (L := L) (hDu j hjn) hSh ok178) ⟨cd_X12_isDusty, ni_RX12, ml_RL_213, in_X12_isDusty, sl_X12_isDusty⟩ ⟨by decide, by decide⟩ rfl ⟨by omega, by omega⟩ hl.1 rfl (Nat.le_of_ble_eq_true rfl) ⟨by omega, by omega⟩ dL_isKnown_434 (fun H locs S => ?_)
    rw [bts_s] at kk
    cases hq : Pd_ j with
    | true =>
      rw [hq, if_pos rfl] at kk
      refine lv_if_eq (tgt := 447) hx hb dL_isKnown_437 (by decide) (fun c => absurd c (show ¬ bI true = 0 from by decide)) (fun _ => ?_)
      refine lv_iconst (v := (1 : Int32)) hx hb dL_isKnown_440 (by decide) ?_
      refine lv_iload hx hb dL_isKnown_441 (lv_at hl 0 rfl) ?_
      refine lv_ishl hx hb dL_isKnown_443 ?_
      refine lv_goto (tgt := 448) hx hb dL_isKnown_444 (by decide) ?_
      refine lv_ior hx hb dL_isKnown_448 ?_
      refine lv_istore (lv' := [(7, .int (a ||| ((1 : Int32) <<< (nI j &&& 31)))), (8, .int (nI j)), (6, .int (nI q)), (0, .ref (ga g 1)), (1, .ref (ga g 178)), (2, .ref (ga g 202)), (3, .int (nI b))]) hx hb dL_isKnown_449 hl (by decide) rfl (fun ls hl => ?_)
      refine lv_iinc (v := nI (j + 1)) (lv' := [(8, .int (nI (j + 1))), (7, .int (a ||| ((1 : Int32) <<< (nI j &&& 31)))), (6, .int (nI q)), (0, .ref (ga g 1)), (1, .ref (ga g 178)), (2, .ref (ga g 202)), (3, .int (nI b))]) hx hb dL_isKnown_451 hl (k := 1) rfl (nI_1 j) (by decide) rfl (fun ls hl => ?_)
      refine lv_goto (tgt := 417) hx hb dL_isKnown_454 (by decide) ?_
      exact ih (j + 1) _ H locs ls (by omega) S (lv_sub hl [0, 1, 2, 3, 4, 5, 6] rfl) kk
    | false =>
      rw [hq, if_neg (by decide)] at kk
      refine lv_if_eq (tgt := 447) hx hb dL_isKnown_437 (by decide) (fun _ => ?_) (fun c => absurd bI_f c)
      refine lv_iconst (v := nI 0) hx hb dL_isKnown_447 (by decide) ?_
      refine lv_ior hx hb dL_isKnown_448 ?_
      rw [or_0]
      refine lv_istore (lv' := [(7, .int a), (8, .int (nI j)), (6, .int (nI q)), (0, .ref (ga g 1)), (1, .ref (ga g 178)), (2, .ref (ga g 202)), (3, .int (nI b))]) hx hb dL_isKnown_449 hl (by decide) rfl (fun ls hl => ?_)
      refine lv_iinc (v := nI (j + 1)) (lv' := [(8, .int (nI (j + 1))), (7, .int a), (6, .int (nI q)), (0, .ref (ga g 1)), (1, .ref (ga g 178)), (2, .ref (ga g 202)), (3, .int (nI b))]) hx hb dL_isKnown_451 hl (k := 1) rfl (nI_1 j) (by decide) rfl (fun ls hl => ?_)
      refine lv_goto (tgt := 417) hx hb dL_isKnown_454 (by decide) ?_
      exact ih (j + 1) _ H locs ls (by omega) S (lv_sub hl [0, 1, 2, 3, 4, 5, 6] rfl) kk
