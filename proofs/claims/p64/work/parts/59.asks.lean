/-! ===== what is asked of the planner ===== -/
def hhA : List (Nat × Nat × Nat × Nat) := [(0, 144, 381, 111), (145, 150, 381, 111), (151, 156, 381, 111), (157, 163, 381, 111), (164, 178, 381, 111), (179, 193, 381, 111), (194, 200, 381, 111), (201, 206, 381, 111), (207, 213, 381, 111), (214, 220, 381, 111), (221, 226, 381, 111), (227, 233, 381, 111), (234, 239, 381, 111), (240, 245, 381, 111), (246, 252, 381, 111), (253, 258, 381, 111), (259, 273, 381, 111), (274, 279, 381, 111), (280, 286, 381, 111), (287, 293, 381, 111), (294, 299, 381, 111), (300, 305, 381, 111), (306, 311, 381, 111), (312, 316, 381, 111), (317, 322, 381, 111), (323, 327, 381, 111), (328, 334, 381, 111), (335, 343, 381, 111), (344, 350, 381, 111), (351, 357, 381, 111), (358, 366, 381, 111), (367, 380, 381, 111), (0, 144, 386, 114), (145, 150, 386, 114), (151, 156, 386, 114), (157, 163, 386, 114), (164, 178, 386, 114), (179, 193, 386, 114), (194, 200, 386, 114), (201, 206, 386, 114), (207, 213, 386, 114), (214, 220, 386, 114), (221, 226, 386, 114), (227, 233, 386, 114), (234, 239, 386, 114), (240, 245, 386, 114), (246, 252, 386, 114), (253, 258, 386, 114), (259, 273, 386, 114), (274, 279, 386, 114), (280, 286, 386, 114), (287, 293, 386, 114), (294, 299, 386, 114), (300, 305, 386, 114), (306, 311, 386, 114), (312, 316, 386, 114), (317, 322, 386, 114), (323, 327, 386, 114), (328, 334, 386, 114), (335, 343, 386, 114), (344, 350, 386, 114), (351, 357, 386, 114), (358, 366, 386, 114), (367, 380, 386, 114), (0, 144, 391, 117), (145, 150, 391, 117), (151, 156, 391, 117), (157, 163, 391, 117), (164, 178, 391, 117), (179, 193, 391, 117), (194, 200, 391, 117), (201, 206, 391, 117), (207, 213, 391, 117), (214, 220, 391, 117), (221, 226, 391, 117), (227, 233, 391, 117), (234, 239, 391, 117), (240, 245, 391, 117), (246, 252, 391, 117), (253, 258, 391, 117), (259, 273, 391, 117), (274, 279, 391, 117), (280, 286, 391, 117), (287, 293, 391, 117), (294, 299, 391, 117), (300, 305, 391, 117), (306, 311, 391, 117), (312, 316, 391, 117), (317, 322, 391, 117), (323, 327, 391, 117), (328, 334, 391, 117), (335, 343, 391, 117), (344, 350, 391, 117), (351, 357, 391, 117), (358, 366, 391, 117), (367, 380, 391, 117)]
set_option maxRecDepth 100000 in
theorem ml_RL_7 : Cond.methodLink RL 7 yX11_load ∈ BW := bw_in (List.mem_of_getElem? (i := 932) (by rfl)) (by rfl)
set_option maxRecDepth 100000 in
theorem in_X11_load : Cond.instanceMethod yX11_load ∈ BW := bw_in (List.mem_of_getElem? (i := 933) (by rfl)) (by rfl)
set_option maxRecDepth 100000 in
theorem sl_X11_load : Cond.selects RX11 yX11_load yX11_load ∈ BW := bw_in (List.mem_of_getElem? (i := 934) (by rfl)) (by rfl)
set_option maxRecDepth 100000 in
theorem cd_X11_windowSize : Cond.code yX11_windowSize cX11_windowSize 2 (some .int) ∈ BW := bw_in (List.mem_of_getElem? (i := 1130) (by rfl)) (by rfl)
set_option maxRecDepth 100000 in
theorem ml_RL_13 : Cond.methodLink RL 13 yX11_windowSize ∈ BW := bw_in (List.mem_of_getElem? (i := 1127) (by rfl)) (by rfl)
set_option maxRecDepth 100000 in
theorem in_X11_windowSize : Cond.instanceMethod yX11_windowSize ∈ BW := bw_in (List.mem_of_getElem? (i := 1128) (by rfl)) (by rfl)
set_option maxRecDepth 100000 in
theorem sl_X11_windowSize : Cond.selects RX11 yX11_windowSize yX11_windowSize ∈ BW := bw_in (List.mem_of_getElem? (i := 1129) (by rfl)) (by rfl)
set_option maxRecDepth 100000 in
theorem cd_X11_windowStart : Cond.code yX11_windowStart cX11_windowStart 2 (some .int) ∈ BW := bw_in (List.mem_of_getElem? (i := 1158) (by rfl)) (by rfl)
set_option maxRecDepth 100000 in
theorem ml_RL_17 : Cond.methodLink RL 17 yX11_windowStart ∈ BW := bw_in (List.mem_of_getElem? (i := 1155) (by rfl)) (by rfl)
set_option maxRecDepth 100000 in
theorem in_X11_windowStart : Cond.instanceMethod yX11_windowStart ∈ BW := bw_in (List.mem_of_getElem? (i := 1156) (by rfl)) (by rfl)
set_option maxRecDepth 100000 in
theorem sl_X11_windowStart : Cond.selects RX11 yX11_windowStart yX11_windowStart ∈ BW := bw_in (List.mem_of_getElem? (i := 1157) (by rfl)) (by rfl)
set_option maxRecDepth 100000 in
theorem cd_X11_vibration : Cond.code yX11_vibration cX11_vibration 4 (some .int) ∈ BW := bw_in (List.mem_of_getElem? (i := 1162) (by rfl)) (by rfl)
set_option maxRecDepth 100000 in
theorem ml_RL_20 : Cond.methodLink RL 20 yX11_vibration ∈ BW := bw_in (List.mem_of_getElem? (i := 1159) (by rfl)) (by rfl)
set_option maxRecDepth 100000 in
theorem in_X11_vibration : Cond.instanceMethod yX11_vibration ∈ BW := bw_in (List.mem_of_getElem? (i := 1160) (by rfl)) (by rfl)
set_option maxRecDepth 100000 in
theorem sl_X11_vibration : Cond.selects RX11 yX11_vibration yX11_vibration ∈ BW := bw_in (List.mem_of_getElem? (i := 1161) (by rfl)) (by rfl)
set_option maxRecDepth 100000 in
theorem cd_X11_closes : Cond.code yX11_closes cX11_closes 4 (some .boolean) ∈ BW := bw_in (List.mem_of_getElem? (i := 1172) (by rfl)) (by rfl)
set_option maxRecDepth 100000 in
theorem ml_RL_24 : Cond.methodLink RL 24 yX11_closes ∈ BW := bw_in (List.mem_of_getElem? (i := 1169) (by rfl)) (by rfl)
set_option maxRecDepth 100000 in
theorem in_X11_closes : Cond.instanceMethod yX11_closes ∈ BW := bw_in (List.mem_of_getElem? (i := 1170) (by rfl)) (by rfl)
set_option maxRecDepth 100000 in
theorem sl_X11_closes : Cond.selects RX11 yX11_closes yX11_closes ∈ BW := bw_in (List.mem_of_getElem? (i := 1171) (by rfl)) (by rfl)
set_option maxRecDepth 100000 in
theorem cd_X11_isQuiet : Cond.code yX11_isQuiet cX11_isQuiet 3 (some .boolean) ∈ BW := bw_in (List.mem_of_getElem? (i := 1185) (by rfl)) (by rfl)
set_option maxRecDepth 100000 in
theorem ml_RL_28 : Cond.methodLink RL 28 yX11_isQuiet ∈ BW := bw_in (List.mem_of_getElem? (i := 1182) (by rfl)) (by rfl)
set_option maxRecDepth 100000 in
theorem in_X11_isQuiet : Cond.instanceMethod yX11_isQuiet ∈ BW := bw_in (List.mem_of_getElem? (i := 1183) (by rfl)) (by rfl)
set_option maxRecDepth 100000 in
theorem sl_X11_isQuiet : Cond.selects RX11 yX11_isQuiet yX11_isQuiet ∈ BW := bw_in (List.mem_of_getElem? (i := 1184) (by rfl)) (by rfl)
set_option maxRecDepth 100000 in
theorem cd_X11_dustAt : Cond.code yX11_dustAt cX11_dustAt 4 (some .int) ∈ BW := bw_in (List.mem_of_getElem? (i := 1193) (by rfl)) (by rfl)
set_option maxRecDepth 100000 in
theorem ml_RL_31 : Cond.methodLink RL 31 yX11_dustAt ∈ BW := bw_in (List.mem_of_getElem? (i := 1190) (by rfl)) (by rfl)
set_option maxRecDepth 100000 in
theorem in_X11_dustAt : Cond.instanceMethod yX11_dustAt ∈ BW := bw_in (List.mem_of_getElem? (i := 1191) (by rfl)) (by rfl)
set_option maxRecDepth 100000 in
theorem sl_X11_dustAt : Cond.selects RX11 yX11_dustAt yX11_dustAt ∈ BW := bw_in (List.mem_of_getElem? (i := 1192) (by rfl)) (by rfl)
set_option maxRecDepth 100000 in
theorem cd_X11_timeOf : Cond.code yX11_timeOf cX11_timeOf 2 (some .int) ∈ BW := bw_in (List.mem_of_getElem? (i := 1202) (by rfl)) (by rfl)
set_option maxRecDepth 100000 in
theorem ml_RL_34 : Cond.methodLink RL 34 yX11_timeOf ∈ BW := bw_in (List.mem_of_getElem? (i := 1199) (by rfl)) (by rfl)
set_option maxRecDepth 100000 in
theorem in_X11_timeOf : Cond.instanceMethod yX11_timeOf ∈ BW := bw_in (List.mem_of_getElem? (i := 1200) (by rfl)) (by rfl)
set_option maxRecDepth 100000 in
theorem sl_X11_timeOf : Cond.selects RX11 yX11_timeOf yX11_timeOf ∈ BW := bw_in (List.mem_of_getElem? (i := 1201) (by rfl)) (by rfl)
set_option maxRecDepth 100000 in
theorem cd_X11_reason : Cond.code yX11_reason cX11_reason 3 (some .int) ∈ BW := bw_in (List.mem_of_getElem? (i := 1206) (by rfl)) (by rfl)
set_option maxRecDepth 100000 in
theorem ml_RL_37 : Cond.methodLink RL 37 yX11_reason ∈ BW := bw_in (List.mem_of_getElem? (i := 1203) (by rfl)) (by rfl)
set_option maxRecDepth 100000 in
theorem in_X11_reason : Cond.instanceMethod yX11_reason ∈ BW := bw_in (List.mem_of_getElem? (i := 1204) (by rfl)) (by rfl)
set_option maxRecDepth 100000 in
theorem sl_X11_reason : Cond.selects RX11 yX11_reason yX11_reason ∈ BW := bw_in (List.mem_of_getElem? (i := 1205) (by rfl)) (by rfl)
set_option maxRecDepth 100000 in
theorem cd_X11_neededRadius : Cond.code yX11_neededRadius cX11_neededRadius 9 (some .int) ∈ BW := bw_in (List.mem_of_getElem? (i := 1466) (by rfl)) (by rfl)
set_option maxRecDepth 100000 in
theorem ml_RL_98 : Cond.methodLink RL 98 yX11_neededRadius ∈ BW := bw_in (List.mem_of_getElem? (i := 1463) (by rfl)) (by rfl)
set_option maxRecDepth 100000 in
theorem in_X11_neededRadius : Cond.instanceMethod yX11_neededRadius ∈ BW := bw_in (List.mem_of_getElem? (i := 1464) (by rfl)) (by rfl)
set_option maxRecDepth 100000 in
theorem sl_X11_neededRadius : Cond.selects RX11 yX11_neededRadius yX11_neededRadius ∈ BW := bw_in (List.mem_of_getElem? (i := 1465) (by rfl)) (by rfl)
set_option maxRecDepth 100000 in
theorem cd_L_asks : Cond.codeWith yL_asks cL_asks 6 (some .int) hhA ∈ BW := bw_in (List.mem_of_getElem? (i := 928) (by rfl)) (by rfl)
set_option maxRecDepth 100000 in
theorem cl_RL_114 : Cond.classLink RL 114 "java/lang/IllegalArgumentException" ∈ BW := bw_in (List.mem_of_getElem? (i := 930) (by rfl)) (by rfl)
set_option maxRecDepth 100000 in
theorem cl_RL_111 : Cond.classLink RL 111 "java/lang/IndexOutOfBoundsException" ∈ BW := bw_in (List.mem_of_getElem? (i := 929) (by rfl)) (by rfl)
set_option maxRecDepth 100000 in
theorem ca_1 : Cond.castable "java/lang/IllegalArgumentException" "java/lang/IllegalArgumentException" ∈ BW := bw_in (List.mem_of_getElem? (i := 695) (by rfl)) (by rfl)
set_option maxRecDepth 100000 in
theorem ct_RL_116 : Cond.constant RL 116 (-2000000053) ∈ BW := bw_in (List.mem_of_getElem? (i := 1482) (by rfl)) (by rfl)
theorem dL_asks_140 : decode cL_asks 140 = .ok (.aload_n 0, 1) := by decide +kernel
theorem dL_asks_141 : decode cL_asks 141 = .ok (.invokevirtual 7, 3) := by decide +kernel
theorem dL_asks_0 : decode cL_asks 0 = .ok (.iload_n 1, 1) := by decide +kernel
theorem dL_asks_1 : decode cL_asks 1 = .ok (.tableswitch 366 0 30 #[139, 144, 150, 156, 163, 178, 193, 200, 206, 213, 220, 226, 233, 239, 245, 252, 258, 273, 279, 286, 293, 299, 305, 311, 316, 322, 327, 334, 343, 350, 357], 139) := by decide +kernel
theorem dL_asks_144 : decode cL_asks 144 = .ok (.ireturn, 1) := by decide +kernel
theorem dL_asks_145 : decode cL_asks 145 = .ok (.aload_n 0, 1) := by decide +kernel
theorem dL_asks_146 : decode cL_asks 146 = .ok (.iload_n 2, 1) := by decide +kernel
theorem dL_asks_147 : decode cL_asks 147 = .ok (.invokevirtual 13, 3) := by decide +kernel
theorem dL_asks_150 : decode cL_asks 150 = .ok (.ireturn, 1) := by decide +kernel
theorem dL_asks_151 : decode cL_asks 151 = .ok (.aload_n 0, 1) := by decide +kernel
theorem dL_asks_152 : decode cL_asks 152 = .ok (.iload_n 2, 1) := by decide +kernel
theorem dL_asks_153 : decode cL_asks 153 = .ok (.invokevirtual 17, 3) := by decide +kernel
theorem dL_asks_156 : decode cL_asks 156 = .ok (.ireturn, 1) := by decide +kernel
theorem dL_asks_157 : decode cL_asks 157 = .ok (.aload_n 0, 1) := by decide +kernel
theorem dL_asks_158 : decode cL_asks 158 = .ok (.iload_n 2, 1) := by decide +kernel
theorem dL_asks_159 : decode cL_asks 159 = .ok (.iload_n 3, 1) := by decide +kernel
theorem dL_asks_160 : decode cL_asks 160 = .ok (.invokevirtual 20, 3) := by decide +kernel
theorem dL_asks_163 : decode cL_asks 163 = .ok (.ireturn, 1) := by decide +kernel
theorem dL_asks_164 : decode cL_asks 164 = .ok (.aload_n 0, 1) := by decide +kernel
theorem dL_asks_165 : decode cL_asks 165 = .ok (.iload_n 2, 1) := by decide +kernel
theorem dL_asks_166 : decode cL_asks 166 = .ok (.iload_n 3, 1) := by decide +kernel
theorem dL_asks_167 : decode cL_asks 167 = .ok (.invokevirtual 24, 3) := by decide +kernel
theorem dL_asks_170 : decode cL_asks 170 = .ok (.ifCond .eq 7, 3) := by decide +kernel
theorem dL_asks_177 : decode cL_asks 177 = .ok (.iconst 0, 1) := by decide +kernel
theorem dL_asks_178 : decode cL_asks 178 = .ok (.ireturn, 1) := by decide +kernel
theorem dL_asks_173 : decode cL_asks 173 = .ok (.iconst 1, 1) := by decide +kernel
theorem dL_asks_174 : decode cL_asks 174 = .ok (.goto 4, 3) := by decide +kernel
theorem dL_asks_179 : decode cL_asks 179 = .ok (.aload_n 0, 1) := by decide +kernel
theorem dL_asks_180 : decode cL_asks 180 = .ok (.iload_n 2, 1) := by decide +kernel
theorem dL_asks_181 : decode cL_asks 181 = .ok (.iload_n 3, 1) := by decide +kernel
theorem dL_asks_182 : decode cL_asks 182 = .ok (.invokevirtual 28, 3) := by decide +kernel
theorem dL_asks_185 : decode cL_asks 185 = .ok (.ifCond .eq 7, 3) := by decide +kernel
theorem dL_asks_192 : decode cL_asks 192 = .ok (.iconst 0, 1) := by decide +kernel
theorem dL_asks_193 : decode cL_asks 193 = .ok (.ireturn, 1) := by decide +kernel
theorem dL_asks_188 : decode cL_asks 188 = .ok (.iconst 1, 1) := by decide +kernel
theorem dL_asks_189 : decode cL_asks 189 = .ok (.goto 4, 3) := by decide +kernel
theorem dL_asks_194 : decode cL_asks 194 = .ok (.aload_n 0, 1) := by decide +kernel
theorem dL_asks_195 : decode cL_asks 195 = .ok (.iload_n 2, 1) := by decide +kernel
theorem dL_asks_196 : decode cL_asks 196 = .ok (.iload_n 3, 1) := by decide +kernel
theorem dL_asks_197 : decode cL_asks 197 = .ok (.invokevirtual 31, 3) := by decide +kernel
theorem dL_asks_200 : decode cL_asks 200 = .ok (.ireturn, 1) := by decide +kernel
theorem dL_asks_386 : decode cL_asks 386 = .ok (.astore 5, 2) := by decide +kernel
theorem dL_asks_388 : decode cL_asks 388 = .ok (.ldc 116, 2) := by decide +kernel
theorem dL_asks_390 : decode cL_asks 390 = .ok (.ireturn, 1) := by decide +kernel
theorem dL_asks_201 : decode cL_asks 201 = .ok (.aload_n 0, 1) := by decide +kernel
theorem dL_asks_202 : decode cL_asks 202 = .ok (.iload_n 2, 1) := by decide +kernel
theorem dL_asks_203 : decode cL_asks 203 = .ok (.invokevirtual 34, 3) := by decide +kernel
theorem dL_asks_206 : decode cL_asks 206 = .ok (.ireturn, 1) := by decide +kernel
theorem dL_asks_207 : decode cL_asks 207 = .ok (.aload_n 0, 1) := by decide +kernel
theorem dL_asks_208 : decode cL_asks 208 = .ok (.iload_n 2, 1) := by decide +kernel
theorem dL_asks_209 : decode cL_asks 209 = .ok (.iload_n 3, 1) := by decide +kernel
theorem dL_asks_210 : decode cL_asks 210 = .ok (.invokevirtual 37, 3) := by decide +kernel
theorem dL_asks_213 : decode cL_asks 213 = .ok (.ireturn, 1) := by decide +kernel
theorem dL_asks_344 : decode cL_asks 344 = .ok (.aload_n 0, 1) := by decide +kernel
theorem dL_asks_345 : decode cL_asks 345 = .ok (.iload_n 2, 1) := by decide +kernel
theorem dL_asks_346 : decode cL_asks 346 = .ok (.iload_n 3, 1) := by decide +kernel
theorem dL_asks_347 : decode cL_asks 347 = .ok (.invokevirtual 98, 3) := by decide +kernel
theorem dL_asks_350 : decode cL_asks 350 = .ok (.ireturn, 1) := by decide +kernel
def preA : List ExceptionTableEntry := (tableOf hhA).take 38
def sufA : List ExceptionTableEntry := (tableOf hhA).drop 39
theorem preA_ok : ∀ z ∈ preA, covers z 197 = false ∨ z.catchType = 111 := by decide
section W6
variable {l : Launch} {g : GL} {p : Program} {e : Jvm.Env} {R0 : Room} {s : State} {m : MethodId} {args : Array Value} {below : List Frame} {meth : Method} {c : Code} {H : Heap} {locs : List Loc} {cells slots : Nat} {Q : State → Prop}
variable {cc : ByteArray} {nL : Nat} {own : String} {pc n n' : Nat} {ls : Array Slot} {rest st : List Value} {σ0 : Sg} {σ : SI} {R : Nat → Nat → Nat} {L : Nat → Nat → Int64} {index : Nat}
variable {mL d mc ms kc id : Nat} {y : MethodName} {b : ByteArray} {ret : Option FieldType} {As : List Value} {σ1 : SI} {Cn : String} {T : u_T} {N : Nat} {ty0 : Nat → FieldType} {post : Option Value → Sg → Prop} {px : String → Sg → Prop}
theorem x_catch2 {E : String} {ce : Cell} {q : Addr} (C : Cx l g p s m meth c cc nL own) (pre : List ExceptionTableEntry) (x : ExceptionTableEntry) (suf : List ExceptionTableEntry) (hsplit : c.exceptionTable.toList = pre ++ x :: suf)
    (hpass : ∀ z ∈ pre, covers z pc = false ∨ (z.catchType ≠ 0 ∧ ∃ nm : String, Cond.classLink own z.catchType nm ∈ BW ∧ (E, nm) ∈ ncTab)) (hx : covers x pc = true) (h0 : x.catchType ≠ 0) (hlink : Cond.classLink own x.catchType E ∈ BW) (hcast : Cond.castable E E ∈ BW)
    (hcell : H[q]? = some ce) (hv : ce.vm = .none) (hcl : s.vm.findClass E = some ce.cls)
    (kk : W p l e R0 s m args below meth c H locs cells slots Q (F0 m x.handlerPc ls [.ref q])) : vx_W p l e R0 s m args below meth c H locs cells slots Q (F0 m pc ls rest) q :=
  vx_catch C.2.2.2.1 pre x suf hsplit (fun z hz => (hpass z hz).imp id fun hp => ⟨hp.1, by obtain ⟨nm, h1, h2⟩ := hp.2; exact ⟨nm, C.2.2.2.2.1.w h1, (x_env C).2.2.2.2.2.2.2.2.2.2.1 _ h2⟩⟩) hx h0 (C.2.2.2.2.1.w hlink) (C.2.2.2.2.1.w hcast) hcell hv hcl kk
end W6
set_option maxHeartbeats 4000000 in
set_option maxRecDepth 100000 in
theorem h_asks_0 {l : Launch} {g : GL} {R R1 : Nat → Nat → Nat} {L : Nat → Nat → Int64} {N : Nat} {σ σ1 : SI} {x0 : Nat} {a b c : Int32} {v : Int32} (hm : f_X11_load N R σ x0 = some ((.inl v, σ1), R1)) (hSh : ShR R) (hx0 : Ok 202 x0 11) : CtW l g 11 yL_asks cL_asks 6 (some .int) hhA 2 12 [.ref (ga g x0), .int (nI 0), .int a, .int b, .int c] (mkS σ R L) (fun w σ' => w = some (.int v) ∧ σ' = mkS σ1 R1 L) := by
  refine met_ofWH (cc := cL_asks) (maxL := 6) (ret := (some .int)) (hh := hhA) (by decide) rfl ?_
  intro p e s m args below meth cd s₁ B hml hT hv
  obtain ⟨rfl, hE, hLo, hWd⟩ := hv
  have hr : meth.sig.returnType = (some .int) := B.returns
  have C : Cx l g p s m meth cd cL_asks 6 RL := ⟨B.exec, B.bytes, hml, findClass_of_methodNamed B.named, hE, hLo, B.notSynchronized⟩
  have S : S2 g s σ R L s.heap [] := ⟨hWd, va_S.rf⟩
  have hx := C.1
  have hb := C.2.1
  have hl := lv_entry ([.ref (ga g x0), .int (nI 0), .int a, .int b, .int c]) (n := 6) (Nat.le_of_ble_eq_true rfl)
  rw [lg_entry_eq]
  generalize (lg_sl ([.ref (ga g x0), .int (nI 0), .int a, .int b, .int c]) ++ List.replicate (6 - (lg_sl ([.ref (ga g x0), .int (nI 0), .int a, .int b, .int c])).length) Slot.unset).toArray = ls at hl ⊢
  have hl : lv_has ls 6 [(0, .ref (ga g x0)), (1, .int (nI 0)), (2, .int a), (3, .int b), (4, .int c)] := hl
  generalize hH : s.heap = H at S ⊢
  generalize hlc : ([] : List Loc) = locs at S ⊢
  refine lv_iload_n hx hb dL_asks_0 rfl (lv_at hl 1 rfl) ?_
  refine lv_tableIn (off := 139) (tgt := 140) hx hb dL_asks_1 (by decide) (by decide) rfl (by decide) ?_
  refine lv_aload_n hx hb dL_asks_140 rfl (lv_at hl 0 rfl) ?_
  refine v_callVC C S KX11 hx0 (ok_X11_load (L := L) hm hSh hx0) ⟨cd_X11_load, ni_RX11, ml_RL_7, in_X11_load, sl_X11_load⟩ ⟨by decide, by decide⟩ rfl (rm_ok (by decide) (by decide)) hl.1 rfl (Nat.le_of_ble_eq_true rfl) ⟨by decide, by decide⟩ dL_asks_141 (fun v' σ' H locs hp S => ?_) (fun E σ' H locs q ce hp S hcell hcv hcl => ?_)
  · obtain ⟨_, hk, rfl, rfl⟩ := hp
    cases hk
    have S : S2 g s σ1 R1 L H locs := S
    refine W.widen (k := 2) (n := 12) (Nat.le_of_ble_eq_true rfl) (Nat.le_of_ble_eq_true rfl) ?_
    exact v_iret C S hr ⟨rfl, rfl⟩ dL_asks_144
  · obtain ⟨k, hk, -⟩ := hp
    cases hk
set_option maxHeartbeats 4000000 in
set_option maxRecDepth 100000 in
theorem h_asks_1 {l : Launch} {g : GL} {R : Nat → Nat → Nat} {L : Nat → Nat → Int64} {N : Nat} {σ σ1 : SI} {x0 : Nat} {a b c : Int32} {v : Int32} (hm : f_X11_windowSize N R σ x0 a = some (.inl v, σ1)) (hSh : ShR R) (hx0 : Ok 202 x0 11) : CtW l g 9 yL_asks cL_asks 6 (some .int) hhA 2 12 [.ref (ga g x0), .int (nI 1), .int a, .int b, .int c] (mkS σ R L) (fun w σ' => w = some (.int v) ∧ σ' = mkS σ1 R L) := by
  refine met_ofWH (cc := cL_asks) (maxL := 6) (ret := (some .int)) (hh := hhA) (by decide) rfl ?_
  intro p e s m args below meth cd s₁ B hml hT hv
  obtain ⟨rfl, hE, hLo, hWd⟩ := hv
  have hr : meth.sig.returnType = (some .int) := B.returns
  have C : Cx l g p s m meth cd cL_asks 6 RL := ⟨B.exec, B.bytes, hml, findClass_of_methodNamed B.named, hE, hLo, B.notSynchronized⟩
  have S : S2 g s σ R L s.heap [] := ⟨hWd, va_S.rf⟩
  have hx := C.1
  have hb := C.2.1
  have hl := lv_entry ([.ref (ga g x0), .int (nI 1), .int a, .int b, .int c]) (n := 6) (Nat.le_of_ble_eq_true rfl)
  rw [lg_entry_eq]
  generalize (lg_sl ([.ref (ga g x0), .int (nI 1), .int a, .int b, .int c]) ++ List.replicate (6 - (lg_sl ([.ref (ga g x0), .int (nI 1), .int a, .int b, .int c])).length) Slot.unset).toArray = ls at hl ⊢
  have hl : lv_has ls 6 [(0, .ref (ga g x0)), (1, .int (nI 1)), (2, .int a), (3, .int b), (4, .int c)] := hl
  generalize hH : s.heap = H at S ⊢
  generalize hlc : ([] : List Loc) = locs at S ⊢
  refine lv_iload_n hx hb dL_asks_0 rfl (lv_at hl 1 rfl) ?_
  refine lv_tableIn (off := 144) (tgt := 145) hx hb dL_asks_1 (by decide) (by decide) rfl (by decide) ?_
  refine lv_aload_n hx hb dL_asks_145 rfl (lv_at hl 0 rfl) ?_
  refine lv_iload_n hx hb dL_asks_146 rfl (lv_at hl 2 rfl) ?_
  refine v_callVC C S KX11 hx0 (ok_X11_windowSize (L := L) hm hSh hx0) ⟨cd_X11_windowSize, ni_RX11, ml_RL_13, in_X11_windowSize, sl_X11_windowSize⟩ ⟨by decide, by decide⟩ rfl (rm_ok (by decide) (by decide)) hl.1 rfl (Nat.le_of_ble_eq_true rfl) ⟨by decide, by decide⟩ dL_asks_147 (fun v' σ' H locs hp S => ?_) (fun E σ' H locs q ce hp S hcell hcv hcl => ?_)
  · obtain ⟨_, hk, rfl, rfl⟩ := hp
    cases hk
    have S : S2 g s σ1 R L H locs := S
    refine W.widen (k := 2) (n := 12) (Nat.le_of_ble_eq_true rfl) (Nat.le_of_ble_eq_true rfl) ?_
    exact v_iret C S hr ⟨rfl, rfl⟩ dL_asks_150
  · obtain ⟨k, hk, -⟩ := hp
    cases hk
set_option maxHeartbeats 4000000 in
set_option maxRecDepth 100000 in
theorem h_asks_2 {l : Launch} {g : GL} {R : Nat → Nat → Nat} {L : Nat → Nat → Int64} {N : Nat} {σ σ1 : SI} {x0 : Nat} {a b c : Int32} {v : Int32} (hm : f_X11_windowStart N R σ x0 a = some (.inl v, σ1)) (hSh : ShR R) (hx0 : Ok 202 x0 11) : CtW l g 9 yL_asks cL_asks 6 (some .int) hhA 2 12 [.ref (ga g x0), .int (nI 2), .int a, .int b, .int c] (mkS σ R L) (fun w σ' => w = some (.int v) ∧ σ' = mkS σ1 R L) := by
  refine met_ofWH (cc := cL_asks) (maxL := 6) (ret := (some .int)) (hh := hhA) (by decide) rfl ?_
  intro p e s m args below meth cd s₁ B hml hT hv
  obtain ⟨rfl, hE, hLo, hWd⟩ := hv
  have hr : meth.sig.returnType = (some .int) := B.returns
  have C : Cx l g p s m meth cd cL_asks 6 RL := ⟨B.exec, B.bytes, hml, findClass_of_methodNamed B.named, hE, hLo, B.notSynchronized⟩
  have S : S2 g s σ R L s.heap [] := ⟨hWd, va_S.rf⟩
  have hx := C.1
  have hb := C.2.1
  have hl := lv_entry ([.ref (ga g x0), .int (nI 2), .int a, .int b, .int c]) (n := 6) (Nat.le_of_ble_eq_true rfl)
  rw [lg_entry_eq]
  generalize (lg_sl ([.ref (ga g x0), .int (nI 2), .int a, .int b, .int c]) ++ List.replicate (6 - (lg_sl ([.ref (ga g x0), .int (nI 2), .int a, .int b, .int c])).length) Slot.unset).toArray = ls at hl ⊢
  have hl : lv_has ls 6 [(0, .ref (ga g x0)), (1, .int (nI 2)), (2, .int a), (3, .int b), (4, .int c)] := hl
  generalize hH : s.heap = H at S ⊢
  generalize hlc : ([] : List Loc) = locs at S ⊢
  refine lv_iload_n hx hb dL_asks_0 rfl (lv_at hl 1 rfl) ?_
  refine lv_tableIn (off := 150) (tgt := 151) hx hb dL_asks_1 (by decide) (by decide) rfl (by decide) ?_
  refine lv_aload_n hx hb dL_asks_151 rfl (lv_at hl 0 rfl) ?_
  refine lv_iload_n hx hb dL_asks_152 rfl (lv_at hl 2 rfl) ?_
  refine v_callVC C S KX11 hx0 (ok_X11_windowStart (L := L) hm hSh hx0) ⟨cd_X11_windowStart, ni_RX11, ml_RL_17, in_X11_windowStart, sl_X11_windowStart⟩ ⟨by decide, by decide⟩ rfl (rm_ok (by decide) (by decide)) hl.1 rfl (Nat.le_of_ble_eq_true rfl) ⟨by decide, by decide⟩ dL_asks_153 (fun v' σ' H locs hp S => ?_) (fun E σ' H locs q ce hp S hcell hcv hcl => ?_)
  · obtain ⟨_, hk, rfl, rfl⟩ := hp
    cases hk
    have S : S2 g s σ1 R L H locs := S
    refine W.widen (k := 2) (n := 12) (Nat.le_of_ble_eq_true rfl) (Nat.le_of_ble_eq_true rfl) ?_
    exact v_iret C S hr ⟨rfl, rfl⟩ dL_asks_156
  · obtain ⟨k, hk, -⟩ := hp
    cases hk
set_option maxHeartbeats 4000000 in
set_option maxRecDepth 100000 in
theorem h_asks_3 {l : Launch} {g : GL} {R : Nat → Nat → Nat} {L : Nat → Nat → Int64} {N : Nat} {σ σ1 : SI} {x0 : Nat} {a b c : Int32} {v : Int32} (hm : f_X11_vibration N R σ x0 a b = some (.inl v, σ1)) (hSh : ShR R) (hx0 : Ok 202 x0 11) : CtW l g 9 yL_asks cL_asks 6 (some .int) hhA 2 12 [.ref (ga g x0), .int (nI 3), .int a, .int b, .int c] (mkS σ R L) (fun w σ' => w = some (.int v) ∧ σ' = mkS σ1 R L) := by
  refine met_ofWH (cc := cL_asks) (maxL := 6) (ret := (some .int)) (hh := hhA) (by decide) rfl ?_
  intro p e s m args below meth cd s₁ B hml hT hv
  obtain ⟨rfl, hE, hLo, hWd⟩ := hv
  have hr : meth.sig.returnType = (some .int) := B.returns
  have C : Cx l g p s m meth cd cL_asks 6 RL := ⟨B.exec, B.bytes, hml, findClass_of_methodNamed B.named, hE, hLo, B.notSynchronized⟩
  have S : S2 g s σ R L s.heap [] := ⟨hWd, va_S.rf⟩
  have hx := C.1
  have hb := C.2.1
  have hl := lv_entry ([.ref (ga g x0), .int (nI 3), .int a, .int b, .int c]) (n := 6) (Nat.le_of_ble_eq_true rfl)
  rw [lg_entry_eq]
  generalize (lg_sl ([.ref (ga g x0), .int (nI 3), .int a, .int b, .int c]) ++ List.replicate (6 - (lg_sl ([.ref (ga g x0), .int (nI 3), .int a, .int b, .int c])).length) Slot.unset).toArray = ls at hl ⊢
  have hl : lv_has ls 6 [(0, .ref (ga g x0)), (1, .int (nI 3)), (2, .int a), (3, .int b), (4, .int c)] := hl
  generalize hH : s.heap = H at S ⊢
  generalize hlc : ([] : List Loc) = locs at S ⊢
  refine lv_iload_n hx hb dL_asks_0 rfl (lv_at hl 1 rfl) ?_
  refine lv_tableIn (off := 156) (tgt := 157) hx hb dL_asks_1 (by decide) (by decide) rfl (by decide) ?_
  refine lv_aload_n hx hb dL_asks_157 rfl (lv_at hl 0 rfl) ?_
  refine lv_iload_n hx hb dL_asks_158 rfl (lv_at hl 2 rfl) ?_
  refine lv_iload_n hx hb dL_asks_159 rfl (lv_at hl 3 rfl) ?_
  refine v_callVC C S KX11 hx0 (ok_X11_vibration (L := L) hm hSh hx0) ⟨cd_X11_vibration, ni_RX11, ml_RL_20, in_X11_vibration, sl_X11_vibration⟩ ⟨by decide, by decide⟩ rfl (rm_ok (by decide) (by decide)) hl.1 rfl (Nat.le_of_ble_eq_true rfl) ⟨by decide, by decide⟩ dL_asks_160 (fun v' σ' H locs hp S => ?_) (fun E σ' H locs q ce hp S hcell hcv hcl => ?_)
  · obtain ⟨_, hk, rfl, rfl⟩ := hp
    cases hk
    have S : S2 g s σ1 R L H locs := S
    refine W.widen (k := 2) (n := 12) (Nat.le_of_ble_eq_true rfl) (Nat.le_of_ble_eq_true rfl) ?_
    exact v_iret C S hr ⟨rfl, rfl⟩ dL_asks_163
  · obtain ⟨k, hk, -⟩ := hp
    cases hk
set_option maxHeartbeats 4000000 in
set_option maxRecDepth 100000 in
theorem h_asks_4 {l : Launch} {g : GL} {R : Nat → Nat → Nat} {L : Nat → Nat → Int64} {N : Nat} {σ σ1 : SI} {x0 : Nat} {a b c : Int32} {v : Int32} (hm : f_X11_closes N R σ x0 a b = some (.inl v, σ1)) (hSh : ShR R) (hx0 : Ok 202 x0 11) : CtW l g 9 yL_asks cL_asks 6 (some .int) hhA 2 12 [.ref (ga g x0), .int (nI 4), .int a, .int b, .int c] (mkS σ R L) (fun w σ' => w = some (.int (if v = 0 then 0 else 1 : Int32)) ∧ σ' = mkS σ1 R L) := by
  refine met_ofWH (cc := cL_asks) (maxL := 6) (ret := (some .int)) (hh := hhA) (by decide) rfl ?_
  intro p e s m args below meth cd s₁ B hml hT hv
  obtain ⟨rfl, hE, hLo, hWd⟩ := hv
  have hr : meth.sig.returnType = (some .int) := B.returns
  have C : Cx l g p s m meth cd cL_asks 6 RL := ⟨B.exec, B.bytes, hml, findClass_of_methodNamed B.named, hE, hLo, B.notSynchronized⟩
  have S : S2 g s σ R L s.heap [] := ⟨hWd, va_S.rf⟩
  have hx := C.1
  have hb := C.2.1
  have hl := lv_entry ([.ref (ga g x0), .int (nI 4), .int a, .int b, .int c]) (n := 6) (Nat.le_of_ble_eq_true rfl)
  rw [lg_entry_eq]
  generalize (lg_sl ([.ref (ga g x0), .int (nI 4), .int a, .int b, .int c]) ++ List.replicate (6 - (lg_sl ([.ref (ga g x0), .int (nI 4), .int a, .int b, .int c])).length) Slot.unset).toArray = ls at hl ⊢
  have hl : lv_has ls 6 [(0, .ref (ga g x0)), (1, .int (nI 4)), (2, .int a), (3, .int b), (4, .int c)] := hl
  generalize hH : s.heap = H at S ⊢
  generalize hlc : ([] : List Loc) = locs at S ⊢
  refine lv_iload_n hx hb dL_asks_0 rfl (lv_at hl 1 rfl) ?_
  refine lv_tableIn (off := 163) (tgt := 164) hx hb dL_asks_1 (by decide) (by decide) rfl (by decide) ?_
  refine lv_aload_n hx hb dL_asks_164 rfl (lv_at hl 0 rfl) ?_
  refine lv_iload_n hx hb dL_asks_165 rfl (lv_at hl 2 rfl) ?_
  refine lv_iload_n hx hb dL_asks_166 rfl (lv_at hl 3 rfl) ?_
  refine v_callVC C S KX11 hx0 (ok_X11_closes (L := L) hm hSh hx0) ⟨cd_X11_closes, ni_RX11, ml_RL_24, in_X11_closes, sl_X11_closes⟩ ⟨by decide, by decide⟩ rfl (rm_ok (by decide) (by decide)) hl.1 rfl (Nat.le_of_ble_eq_true rfl) ⟨by decide, by decide⟩ dL_asks_167 (fun v' σ' H locs hp S => ?_) (fun E σ' H locs q ce hp S hcell hcv hcl => ?_)
  · obtain ⟨_, hk, rfl, rfl⟩ := hp
    cases hk
    have S : S2 g s σ1 R L H locs := S
    refine W.widen (k := 2) (n := 12) (Nat.le_of_ble_eq_true rfl) (Nat.le_of_ble_eq_true rfl) ?_
    refine lv_if_eq (tgt := 177) hx hb dL_asks_170 (by decide) (fun c1 => ?_) (fun c1 => ?_)
    · refine lv_iconst (v := (0 : Int32)) hx hb dL_asks_177 (by decide) ?_
      exact v_iret C S hr ⟨by rw [if_pos c1], rfl⟩ dL_asks_178
    · refine lv_iconst (v := (1 : Int32)) hx hb dL_asks_173 (by decide) ?_
      refine lv_goto (tgt := 178) hx hb dL_asks_174 (by decide) ?_
      exact v_iret C S hr ⟨by rw [if_neg c1], rfl⟩ dL_asks_178
  · obtain ⟨k, hk, -⟩ := hp
    cases hk
set_option maxHeartbeats 4000000 in
set_option maxRecDepth 100000 in
theorem h_asks_5 {l : Launch} {g : GL} {R : Nat → Nat → Nat} {L : Nat → Nat → Int64} {N : Nat} {σ σ1 : SI} {x0 : Nat} {a b c : Int32} {v : Int32} (hm : f_X11_isQuiet N R σ x0 a b = some (.inl v, σ1)) (hSh : ShR R) (hx0 : Ok 202 x0 11) : CtW l g 9 yL_asks cL_asks 6 (some .int) hhA 2 12 [.ref (ga g x0), .int (nI 5), .int a, .int b, .int c] (mkS σ R L) (fun w σ' => w = some (.int (if v = 0 then 0 else 1 : Int32)) ∧ σ' = mkS σ1 R L) := by
  refine met_ofWH (cc := cL_asks) (maxL := 6) (ret := (some .int)) (hh := hhA) (by decide) rfl ?_
  intro p e s m args below meth cd s₁ B hml hT hv
  obtain ⟨rfl, hE, hLo, hWd⟩ := hv
  have hr : meth.sig.returnType = (some .int) := B.returns
  have C : Cx l g p s m meth cd cL_asks 6 RL := ⟨B.exec, B.bytes, hml, findClass_of_methodNamed B.named, hE, hLo, B.notSynchronized⟩
  have S : S2 g s σ R L s.heap [] := ⟨hWd, va_S.rf⟩
  have hx := C.1
  have hb := C.2.1
  have hl := lv_entry ([.ref (ga g x0), .int (nI 5), .int a, .int b, .int c]) (n := 6) (Nat.le_of_ble_eq_true rfl)
  rw [lg_entry_eq]
  generalize (lg_sl ([.ref (ga g x0), .int (nI 5), .int a, .int b, .int c]) ++ List.replicate (6 - (lg_sl ([.ref (ga g x0), .int (nI 5), .int a, .int b, .int c])).length) Slot.unset).toArray = ls at hl ⊢
  have hl : lv_has ls 6 [(0, .ref (ga g x0)), (1, .int (nI 5)), (2, .int a), (3, .int b), (4, .int c)] := hl
  generalize hH : s.heap = H at S ⊢
  generalize hlc : ([] : List Loc) = locs at S ⊢
  refine lv_iload_n hx hb dL_asks_0 rfl (lv_at hl 1 rfl) ?_
  refine lv_tableIn (off := 178) (tgt := 179) hx hb dL_asks_1 (by decide) (by decide) rfl (by decide) ?_
  refine lv_aload_n hx hb dL_asks_179 rfl (lv_at hl 0 rfl) ?_
  refine lv_iload_n hx hb dL_asks_180 rfl (lv_at hl 2 rfl) ?_
  refine lv_iload_n hx hb dL_asks_181 rfl (lv_at hl 3 rfl) ?_
  refine v_callVC C S KX11 hx0 (ok_X11_isQuiet (L := L) hm hSh hx0) ⟨cd_X11_isQuiet, ni_RX11, ml_RL_28, in_X11_isQuiet, sl_X11_isQuiet⟩ ⟨by decide, by decide⟩ rfl (rm_ok (by decide) (by decide)) hl.1 rfl (Nat.le_of_ble_eq_true rfl) ⟨by decide, by decide⟩ dL_asks_182 (fun v' σ' H locs hp S => ?_) (fun E σ' H locs q ce hp S hcell hcv hcl => ?_)
  · obtain ⟨_, hk, rfl, rfl⟩ := hp
    cases hk
    have S : S2 g s σ1 R L H locs := S
    refine W.widen (k := 2) (n := 12) (Nat.le_of_ble_eq_true rfl) (Nat.le_of_ble_eq_true rfl) ?_
    refine lv_if_eq (tgt := 192) hx hb dL_asks_185 (by decide) (fun c1 => ?_) (fun c1 => ?_)
    · refine lv_iconst (v := (0 : Int32)) hx hb dL_asks_192 (by decide) ?_
      exact v_iret C S hr ⟨by rw [if_pos c1], rfl⟩ dL_asks_193
    · refine lv_iconst (v := (1 : Int32)) hx hb dL_asks_188 (by decide) ?_
      refine lv_goto (tgt := 193) hx hb dL_asks_189 (by decide) ?_
      exact v_iret C S hr ⟨by rw [if_neg c1], rfl⟩ dL_asks_193
  · obtain ⟨k, hk, -⟩ := hp
    cases hk
set_option maxHeartbeats 4000000 in
set_option maxRecDepth 100000 in
theorem h_asks_6 {l : Launch} {g : GL} {R : Nat → Nat → Nat} {L : Nat → Nat → Int64} {N : Nat} {σ σ1 : SI} {x0 : Nat} {a b c : Int32} {v : Int32} (hm : f_X11_dustAt N R σ x0 a b = some (.inl v, σ1)) (hSh : ShR R) (hx0 : Ok 202 x0 11) : CtW l g 9 yL_asks cL_asks 6 (some .int) hhA 2 12 [.ref (ga g x0), .int (nI 6), .int a, .int b, .int c] (mkS σ R L) (fun w σ' => w = some (.int v) ∧ σ' = mkS σ1 R L) := by
  refine met_ofWH (cc := cL_asks) (maxL := 6) (ret := (some .int)) (hh := hhA) (by decide) rfl ?_
  intro p e s m args below meth cd s₁ B hml hT hv
  obtain ⟨rfl, hE, hLo, hWd⟩ := hv
  have hr : meth.sig.returnType = (some .int) := B.returns
  have C : Cx l g p s m meth cd cL_asks 6 RL := ⟨B.exec, B.bytes, hml, findClass_of_methodNamed B.named, hE, hLo, B.notSynchronized⟩
  have S : S2 g s σ R L s.heap [] := ⟨hWd, va_S.rf⟩
  have hx := C.1
  have hb := C.2.1
  have hl := lv_entry ([.ref (ga g x0), .int (nI 6), .int a, .int b, .int c]) (n := 6) (Nat.le_of_ble_eq_true rfl)
  rw [lg_entry_eq]
  generalize (lg_sl ([.ref (ga g x0), .int (nI 6), .int a, .int b, .int c]) ++ List.replicate (6 - (lg_sl ([.ref (ga g x0), .int (nI 6), .int a, .int b, .int c])).length) Slot.unset).toArray = ls at hl ⊢
  have hl : lv_has ls 6 [(0, .ref (ga g x0)), (1, .int (nI 6)), (2, .int a), (3, .int b), (4, .int c)] := hl
  generalize hH : s.heap = H at S ⊢
  generalize hlc : ([] : List Loc) = locs at S ⊢
  refine lv_iload_n hx hb dL_asks_0 rfl (lv_at hl 1 rfl) ?_
  refine lv_tableIn (off := 193) (tgt := 194) hx hb dL_asks_1 (by decide) (by decide) rfl (by decide) ?_
  refine lv_aload_n hx hb dL_asks_194 rfl (lv_at hl 0 rfl) ?_
  refine lv_iload_n hx hb dL_asks_195 rfl (lv_at hl 2 rfl) ?_
  refine lv_iload_n hx hb dL_asks_196 rfl (lv_at hl 3 rfl) ?_
  refine v_callVC C S KX11 hx0 (ok_X11_dustAt (L := L) hm hSh hx0) ⟨cd_X11_dustAt, ni_RX11, ml_RL_31, in_X11_dustAt, sl_X11_dustAt⟩ ⟨by decide, by decide⟩ rfl (rm_ok (by decide) (by decide)) hl.1 rfl (Nat.le_of_ble_eq_true rfl) ⟨by decide, by decide⟩ dL_asks_197 (fun v' σ' H locs hp S => ?_) (fun E σ' H locs q ce hp S hcell hcv hcl => ?_)
  · obtain ⟨_, hk, rfl, rfl⟩ := hp
    cases hk
    have S : S2 g s σ1 R L H locs := S
    refine W.widen (k := 2) (n := 12) (Nat.le_of_ble_eq_true rfl) (Nat.le_of_ble_eq_true rfl) ?_
    exact v_iret C S hr ⟨rfl, rfl⟩ dL_asks_200
  · obtain ⟨k, hk, -⟩ := hp
    cases hk
set_option maxHeartbeats 4000000 in
set_option maxRecDepth 100000 in
theorem h_asks_6x {l : Launch} {g : GL} {R : Nat → Nat → Nat} {L : Nat → Nat → Int64} {N : Nat} {σ σ1 : SI} {x0 : Nat} {a b c : Int32} (hm : f_X11_dustAt N R σ x0 a b = some (.inr 1, σ1)) (hSh : ShR R) (hx0 : Ok 202 x0 11) : CtW l g 9 yL_asks cL_asks 6 (some .int) hhA 2 12 [.ref (ga g x0), .int (nI 6), .int a, .int b, .int c] (mkS σ R L) (fun w σ' => w = some (.int (-2000000053 : Int32)) ∧ σ' = mkS σ1 R L) := by
  refine met_ofWH (cc := cL_asks) (maxL := 6) (ret := (some .int)) (hh := hhA) (by decide) rfl ?_
  intro p e s m args below meth cd s₁ B hml hT hv
  obtain ⟨rfl, hE, hLo, hWd⟩ := hv
  have hr : meth.sig.returnType = (some .int) := B.returns
  have C : Cx l g p s m meth cd cL_asks 6 RL := ⟨B.exec, B.bytes, hml, findClass_of_methodNamed B.named, hE, hLo, B.notSynchronized⟩
  have S : S2 g s σ R L s.heap [] := ⟨hWd, va_S.rf⟩
  have hx := C.1
  have hb := C.2.1
  have hl := lv_entry ([.ref (ga g x0), .int (nI 6), .int a, .int b, .int c]) (n := 6) (Nat.le_of_ble_eq_true rfl)
  rw [lg_entry_eq]
  generalize (lg_sl ([.ref (ga g x0), .int (nI 6), .int a, .int b, .int c]) ++ List.replicate (6 - (lg_sl ([.ref (ga g x0), .int (nI 6), .int a, .int b, .int c])).length) Slot.unset).toArray = ls at hl ⊢
  have hl : lv_has ls 6 [(0, .ref (ga g x0)), (1, .int (nI 6)), (2, .int a), (3, .int b), (4, .int c)] := hl
  generalize hH : s.heap = H at S ⊢
  generalize hlc : ([] : List Loc) = locs at S ⊢
  refine lv_iload_n hx hb dL_asks_0 rfl (lv_at hl 1 rfl) ?_
  refine lv_tableIn (off := 193) (tgt := 194) hx hb dL_asks_1 (by decide) (by decide) rfl (by decide) ?_
  refine lv_aload_n hx hb dL_asks_194 rfl (lv_at hl 0 rfl) ?_
  refine lv_iload_n hx hb dL_asks_195 rfl (lv_at hl 2 rfl) ?_
  refine lv_iload_n hx hb dL_asks_196 rfl (lv_at hl 3 rfl) ?_
  refine v_callVC C S KX11 hx0 (ok_X11_dustAt (L := L) hm hSh hx0) ⟨cd_X11_dustAt, ni_RX11, ml_RL_31, in_X11_dustAt, sl_X11_dustAt⟩ ⟨by decide, by decide⟩ rfl (rm_ok (by decide) (by decide)) hl.1 rfl (Nat.le_of_ble_eq_true rfl) ⟨by decide, by decide⟩ dL_asks_197 (fun v' σ' H locs hp S => ?_) (fun E σ' H locs q ce hp S hcell hcv hcl => ?_)
  · obtain ⟨k, hk, -⟩ := hp
    cases hk
  · obtain ⟨k, hk, rfl, rfl⟩ := hp
    cases hk
    have S : S2 g s σ1 R L H locs := S
    refine x_catch2 (E := "java/lang/IllegalArgumentException") C preA ⟨194, 200, 386, 114⟩ sufA (hT.trans rfl) (fun z hz => (preA_ok z hz).imp id (fun h => ⟨by rw [h]; decide, "java/lang/IndexOutOfBoundsException", by rw [h]; exact cl_RL_111, by decide⟩)) (by decide) (by decide) cl_RL_114 ca_1 hcell hcv hcl ?_
    refine lv_astore (lv' := [(5, .ref q), (0, .ref (ga g x0)), (1, .int (nI 6)), (2, .int a), (3, .int b), (4, .int c)]) hx hb dL_asks_386 hl (by decide) rfl (fun ls hl => ?_)
    refine lv_ldc (v := (-2000000053 : Int32)) hx hb C.2.2.2.1 (C.2.2.2.2.1.w ct_RL_116) dL_asks_388 ?_
    refine W.widen (k := 2) (n := 12) (Nat.le_of_ble_eq_true rfl) (Nat.le_of_ble_eq_true rfl) ?_
    exact v_iret C S hr ⟨rfl, rfl⟩ dL_asks_390
set_option maxHeartbeats 4000000 in
set_option maxRecDepth 100000 in
theorem h_asks_7 {l : Launch} {g : GL} {R : Nat → Nat → Nat} {L : Nat → Nat → Int64} {N : Nat} {σ σ1 : SI} {x0 : Nat} {a b c : Int32} {v : Int32} (hm : f_X11_timeOf N R σ x0 a = some (.inl v, σ1)) (hSh : ShR R) (hx0 : Ok 202 x0 11) : CtW l g 9 yL_asks cL_asks 6 (some .int) hhA 2 12 [.ref (ga g x0), .int (nI 7), .int a, .int b, .int c] (mkS σ R L) (fun w σ' => w = some (.int v) ∧ σ' = mkS σ1 R L) := by
  refine met_ofWH (cc := cL_asks) (maxL := 6) (ret := (some .int)) (hh := hhA) (by decide) rfl ?_
  intro p e s m args below meth cd s₁ B hml hT hv
  obtain ⟨rfl, hE, hLo, hWd⟩ := hv
  have hr : meth.sig.returnType = (some .int) := B.returns
  have C : Cx l g p s m meth cd cL_asks 6 RL := ⟨B.exec, B.bytes, hml, findClass_of_methodNamed B.named, hE, hLo, B.notSynchronized⟩
  have S : S2 g s σ R L s.heap [] := ⟨hWd, va_S.rf⟩
  have hx := C.1
  have hb := C.2.1
  have hl := lv_entry ([.ref (ga g x0), .int (nI 7), .int a, .int b, .int c]) (n := 6) (Nat.le_of_ble_eq_true rfl)
  rw [lg_entry_eq]
  generalize (lg_sl ([.ref (ga g x0), .int (nI 7), .int a, .int b, .int c]) ++ List.replicate (6 - (lg_sl ([.ref (ga g x0), .int (nI 7), .int a, .int b, .int c])).length) Slot.unset).toArray = ls at hl ⊢
  have hl : lv_has ls 6 [(0, .ref (ga g x0)), (1, .int (nI 7)), (2, .int a), (3, .int b), (4, .int c)] := hl
  generalize hH : s.heap = H at S ⊢
  generalize hlc : ([] : List Loc) = locs at S ⊢
  refine lv_iload_n hx hb dL_asks_0 rfl (lv_at hl 1 rfl) ?_
  refine lv_tableIn (off := 200) (tgt := 201) hx hb dL_asks_1 (by decide) (by decide) rfl (by decide) ?_
  refine lv_aload_n hx hb dL_asks_201 rfl (lv_at hl 0 rfl) ?_
  refine lv_iload_n hx hb dL_asks_202 rfl (lv_at hl 2 rfl) ?_
  refine v_callVC C S KX11 hx0 (ok_X11_timeOf (L := L) hm hSh hx0) ⟨cd_X11_timeOf, ni_RX11, ml_RL_34, in_X11_timeOf, sl_X11_timeOf⟩ ⟨by decide, by decide⟩ rfl (rm_ok (by decide) (by decide)) hl.1 rfl (Nat.le_of_ble_eq_true rfl) ⟨by decide, by decide⟩ dL_asks_203 (fun v' σ' H locs hp S => ?_) (fun E σ' H locs q ce hp S hcell hcv hcl => ?_)
  · obtain ⟨_, hk, rfl, rfl⟩ := hp
    cases hk
    have S : S2 g s σ1 R L H locs := S
    refine W.widen (k := 2) (n := 12) (Nat.le_of_ble_eq_true rfl) (Nat.le_of_ble_eq_true rfl) ?_
    exact v_iret C S hr ⟨rfl, rfl⟩ dL_asks_206
  · obtain ⟨k, hk, -⟩ := hp
    cases hk
set_option maxHeartbeats 4000000 in
set_option maxRecDepth 100000 in
theorem h_asks_8 {l : Launch} {g : GL} {R : Nat → Nat → Nat} {L : Nat → Nat → Int64} {N : Nat} {σ σ1 : SI} {x0 : Nat} {a b c : Int32} {v : Int32} (hm : f_X11_reason N R σ x0 a b = some (.inl v, σ1)) (hSh : ShR R) (hx0 : Ok 202 x0 11) : CtW l g 9 yL_asks cL_asks 6 (some .int) hhA 2 12 [.ref (ga g x0), .int (nI 8), .int a, .int b, .int c] (mkS σ R L) (fun w σ' => w = some (.int v) ∧ σ' = mkS σ1 R L) := by
  refine met_ofWH (cc := cL_asks) (maxL := 6) (ret := (some .int)) (hh := hhA) (by decide) rfl ?_
  intro p e s m args below meth cd s₁ B hml hT hv
  obtain ⟨rfl, hE, hLo, hWd⟩ := hv
  have hr : meth.sig.returnType = (some .int) := B.returns
  have C : Cx l g p s m meth cd cL_asks 6 RL := ⟨B.exec, B.bytes, hml, findClass_of_methodNamed B.named, hE, hLo, B.notSynchronized⟩
  have S : S2 g s σ R L s.heap [] := ⟨hWd, va_S.rf⟩
  have hx := C.1
  have hb := C.2.1
  have hl := lv_entry ([.ref (ga g x0), .int (nI 8), .int a, .int b, .int c]) (n := 6) (Nat.le_of_ble_eq_true rfl)
  rw [lg_entry_eq]
  generalize (lg_sl ([.ref (ga g x0), .int (nI 8), .int a, .int b, .int c]) ++ List.replicate (6 - (lg_sl ([.ref (ga g x0), .int (nI 8), .int a, .int b, .int c])).length) Slot.unset).toArray = ls at hl ⊢
  have hl : lv_has ls 6 [(0, .ref (ga g x0)), (1, .int (nI 8)), (2, .int a), (3, .int b), (4, .int c)] := hl
  generalize hH : s.heap = H at S ⊢
  generalize hlc : ([] : List Loc) = locs at S ⊢
  refine lv_iload_n hx hb dL_asks_0 rfl (lv_at hl 1 rfl) ?_
  refine lv_tableIn (off := 206) (tgt := 207) hx hb dL_asks_1 (by decide) (by decide) rfl (by decide) ?_
  refine lv_aload_n hx hb dL_asks_207 rfl (lv_at hl 0 rfl) ?_
  refine lv_iload_n hx hb dL_asks_208 rfl (lv_at hl 2 rfl) ?_
  refine lv_iload_n hx hb dL_asks_209 rfl (lv_at hl 3 rfl) ?_
  refine v_callVC C S KX11 hx0 (ok_X11_reason (L := L) hm hSh hx0) ⟨cd_X11_reason, ni_RX11, ml_RL_37, in_X11_reason, sl_X11_reason⟩ ⟨by decide, by decide⟩ rfl (rm_ok (by decide) (by decide)) hl.1 rfl (Nat.le_of_ble_eq_true rfl) ⟨by decide, by decide⟩ dL_asks_210 (fun v' σ' H locs hp S => ?_) (fun E σ' H locs q ce hp S hcell hcv hcl => ?_)
  · obtain ⟨_, hk, rfl, rfl⟩ := hp
    cases hk
    have S : S2 g s σ1 R L H locs := S
    refine W.widen (k := 2) (n := 12) (Nat.le_of_ble_eq_true rfl) (Nat.le_of_ble_eq_true rfl) ?_
    exact v_iret C S hr ⟨rfl, rfl⟩ dL_asks_213
  · obtain ⟨k, hk, -⟩ := hp
    cases hk
set_option maxHeartbeats 4000000 in
set_option maxRecDepth 100000 in
theorem h_asks_28 {l : Launch} {g : GL} {R : Nat → Nat → Nat} {L : Nat → Nat → Int64} {N : Nat} {σ σ1 : SI} {x0 : Nat} {a b c : Int32} {v : Int32} (hm : f_X11_neededRadius N R σ x0 a b = some (.inl v, σ1)) (hSh : ShR R) (hx0 : Ok 202 x0 11) : CtW l g 9 yL_asks cL_asks 6 (some .int) hhA 2 12 [.ref (ga g x0), .int (nI 28), .int a, .int b, .int c] (mkS σ R L) (fun w σ' => w = some (.int v) ∧ σ' = mkS σ1 R L) := by
  refine met_ofWH (cc := cL_asks) (maxL := 6) (ret := (some .int)) (hh := hhA) (by decide) rfl ?_
  intro p e s m args below meth cd s₁ B hml hT hv
  obtain ⟨rfl, hE, hLo, hWd⟩ := hv
  have hr : meth.sig.returnType = (some .int) := B.returns
  have C : Cx l g p s m meth cd cL_asks 6 RL := ⟨B.exec, B.bytes, hml, findClass_of_methodNamed B.named, hE, hLo, B.notSynchronized⟩
  have S : S2 g s σ R L s.heap [] := ⟨hWd, va_S.rf⟩
  have hx := C.1
  have hb := C.2.1
  have hl := lv_entry ([.ref (ga g x0), .int (nI 28), .int a, .int b, .int c]) (n := 6) (Nat.le_of_ble_eq_true rfl)
  rw [lg_entry_eq]
  generalize (lg_sl ([.ref (ga g x0), .int (nI 28), .int a, .int b, .int c]) ++ List.replicate (6 - (lg_sl ([.ref (ga g x0), .int (nI 28), .int a, .int b, .int c])).length) Slot.unset).toArray = ls at hl ⊢
  have hl : lv_has ls 6 [(0, .ref (ga g x0)), (1, .int (nI 28)), (2, .int a), (3, .int b), (4, .int c)] := hl
  generalize hH : s.heap = H at S ⊢
  generalize hlc : ([] : List Loc) = locs at S ⊢
  refine lv_iload_n hx hb dL_asks_0 rfl (lv_at hl 1 rfl) ?_
  refine lv_tableIn (off := 343) (tgt := 344) hx hb dL_asks_1 (by decide) (by decide) rfl (by decide) ?_
  refine lv_aload_n hx hb dL_asks_344 rfl (lv_at hl 0 rfl) ?_
  refine lv_iload_n hx hb dL_asks_345 rfl (lv_at hl 2 rfl) ?_
  refine lv_iload_n hx hb dL_asks_346 rfl (lv_at hl 3 rfl) ?_
  refine v_callVC C S KX11 hx0 (ok_X11_neededRadius (L := L) hm hSh hx0) ⟨cd_X11_neededRadius, ni_RX11, ml_RL_98, in_X11_neededRadius, sl_X11_neededRadius⟩ ⟨by decide, by decide⟩ rfl (rm_ok (by decide) (by decide)) hl.1 rfl (Nat.le_of_ble_eq_true rfl) ⟨by decide, by decide⟩ dL_asks_347 (fun v' σ' H locs hp S => ?_) (fun E σ' H locs q ce hp S hcell hcv hcl => ?_)
  · obtain ⟨_, hk, rfl, rfl⟩ := hp
    cases hk
    have S : S2 g s σ1 R L H locs := S
    refine W.widen (k := 2) (n := 12) (Nat.le_of_ble_eq_true rfl) (Nat.le_of_ble_eq_true rfl) ?_
    exact v_iret C S hr ⟨rfl, rfl⟩ dL_asks_350
  · obtain ⟨k, hk, -⟩ := hp
    cases hk
