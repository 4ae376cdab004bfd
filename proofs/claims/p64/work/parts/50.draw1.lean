/-! ===== a neighbour is drawn ===== -/
theorem okr195 {k : Nat} (h : k < 3) : Ok 202 (195 + k) 10004 := by
  have : ∀ k, k < 3 → kd (195 + k) = 10004 ∧ 0 < 195 + k ∧ 195 + k ≤ 202 := by decide +kernel
  exact this k h
theorem okr199 {k : Nat} (h : k < 3) : Ok 202 (199 + k) 10004 := by
  have : ∀ k, k < 3 → kd (199 + k) = 10004 ∧ 0 < 199 + k ∧ 199 + k ≤ 202 := by decide +kernel
  exact this k h
set_option maxRecDepth 100000 in
theorem cd_X13_next : Cond.code yX13_next cX13_next 2 (some .int) ∈ BW := bw_in (List.mem_of_getElem? (i := 473) (by rfl)) (by rfl)
set_option maxRecDepth 100000 in
theorem ni_RX13 : Cond.initialized RX13 ∈ BW := bw_in (List.mem_of_getElem? (i := 37) (by rfl)) (by rfl)
set_option maxRecDepth 100000 in
theorem ml_RX12_63 : Cond.methodLink RX12 63 yX13_next ∈ BW := bw_in (List.mem_of_getElem? (i := 470) (by rfl)) (by rfl)
set_option maxRecDepth 100000 in
theorem in_X13_next : Cond.instanceMethod yX13_next ∈ BW := bw_in (List.mem_of_getElem? (i := 471) (by rfl)) (by rfl)
set_option maxRecDepth 100000 in
theorem sl_X13_next : Cond.selects RX13 yX13_next yX13_next ∈ BW := bw_in (List.mem_of_getElem? (i := 472) (by rfl)) (by rfl)
set_option maxRecDepth 100000 in
theorem fl_RX12_123 : Cond.fieldLink RX12 123 RX12 "text" "Ljava/lang/String;" ∈ BW := bw_in (List.mem_of_getElem? (i := 859) (by rfl)) (by rfl)
theorem dX12_neighbour_0 : decode cX12_neighbour 0 = .ok (.aload_n 0, 1) := by decide +kernel
theorem dX12_neighbour_1 : decode cX12_neighbour 1 = .ok (.getfield 7, 3) := by decide +kernel
theorem dX12_neighbour_4 : decode cX12_neighbour 4 = .ok (.iload_n 2, 1) := by decide +kernel
theorem dX12_neighbour_5 : decode cX12_neighbour 5 = .ok (.aload_n 1, 1) := by decide +kernel
theorem dX12_neighbour_6 : decode cX12_neighbour 6 = .ok (.sipush 300, 3) := by decide +kernel
theorem dX12_neighbour_9 : decode cX12_neighbour 9 = .ok (.invokevirtual 63, 3) := by decide +kernel
theorem dX12_neighbour_12 : decode cX12_neighbour 12 = .ok (.iastore, 1) := by decide +kernel
theorem dX12_neighbour_13 : decode cX12_neighbour 13 = .ok (.aload_n 0, 1) := by decide +kernel
theorem dX12_neighbour_14 : decode cX12_neighbour 14 = .ok (.getfield 13, 3) := by decide +kernel
theorem dX12_neighbour_17 : decode cX12_neighbour 17 = .ok (.iload_n 2, 1) := by decide +kernel
theorem dX12_neighbour_18 : decode cX12_neighbour 18 = .ok (.aload_n 1, 1) := by decide +kernel
theorem dX12_neighbour_19 : decode cX12_neighbour 19 = .ok (.sipush 300, 3) := by decide +kernel
theorem dX12_neighbour_22 : decode cX12_neighbour 22 = .ok (.invokevirtual 63, 3) := by decide +kernel
theorem dX12_neighbour_25 : decode cX12_neighbour 25 = .ok (.iastore, 1) := by decide +kernel
theorem dX12_neighbour_26 : decode cX12_neighbour 26 = .ok (.aload_n 0, 1) := by decide +kernel
theorem dX12_neighbour_27 : decode cX12_neighbour 27 = .ok (.getfield 16, 3) := by decide +kernel
theorem dX12_neighbour_30 : decode cX12_neighbour 30 = .ok (.iload_n 2, 1) := by decide +kernel
theorem dX12_neighbour_31 : decode cX12_neighbour 31 = .ok (.aload_n 1, 1) := by decide +kernel
theorem dX12_neighbour_32 : decode cX12_neighbour 32 = .ok (.bipush 40, 2) := by decide +kernel
theorem dX12_neighbour_34 : decode cX12_neighbour 34 = .ok (.invokevirtual 63, 3) := by decide +kernel
theorem dX12_neighbour_37 : decode cX12_neighbour 37 = .ok (.iastore, 1) := by decide +kernel
theorem dX12_neighbour_38 : decode cX12_neighbour 38 = .ok (.aload_n 0, 1) := by decide +kernel
theorem dX12_neighbour_39 : decode cX12_neighbour 39 = .ok (.new 97, 3) := by decide +kernel
theorem dX12_neighbour_42 : decode cX12_neighbour 42 = .ok (.dup, 1) := by decide +kernel
theorem dX12_neighbour_43 : decode cX12_neighbour 43 = .ok (.invokespecial 99, 3) := by decide +kernel
theorem dX12_neighbour_46 : decode cX12_neighbour 46 = .ok (.aload_n 0, 1) := by decide +kernel
theorem dX12_neighbour_47 : decode cX12_neighbour 47 = .ok (.getfield 123, 3) := by decide +kernel
theorem dX12_neighbour_50 : decode cX12_neighbour 50 = .ok (.invokevirtual 102, 3) := by decide +kernel
theorem dX12_neighbour_53 : decode cX12_neighbour 53 = .ok (.ldc 141, 2) := by decide +kernel
theorem dX12_neighbour_55 : decode cX12_neighbour 55 = .ok (.invokevirtual 102, 3) := by decide +kernel
theorem dX12_neighbour_58 : decode cX12_neighbour 58 = .ok (.bipush 110, 2) := by decide +kernel
theorem dX12_neighbour_60 : decode cX12_neighbour 60 = .ok (.iload_n 2, 1) := by decide +kernel
theorem dX12_neighbour_61 : decode cX12_neighbour 61 = .ok (.iadd, 1) := by decide +kernel
theorem dX12_neighbour_62 : decode cX12_neighbour 62 = .ok (.i2c, 1) := by decide +kernel
theorem dX12_neighbour_63 : decode cX12_neighbour 63 = .ok (.invokevirtual 135, 3) := by decide +kernel
theorem dX12_neighbour_66 : decode cX12_neighbour 66 = .ok (.ldc 109, 2) := by decide +kernel
theorem dX12_neighbour_68 : decode cX12_neighbour 68 = .ok (.invokevirtual 102, 3) := by decide +kernel
theorem dX12_neighbour_71 : decode cX12_neighbour 71 = .ok (.aload_n 0, 1) := by decide +kernel
theorem dX12_neighbour_72 : decode cX12_neighbour 72 = .ok (.getfield 7, 3) := by decide +kernel
theorem dX12_neighbour_75 : decode cX12_neighbour 75 = .ok (.iload_n 2, 1) := by decide +kernel
theorem dX12_neighbour_76 : decode cX12_neighbour 76 = .ok (.iaload, 1) := by decide +kernel
theorem dX12_neighbour_77 : decode cX12_neighbour 77 = .ok (.invokevirtual 106, 3) := by decide +kernel
theorem dX12_neighbour_80 : decode cX12_neighbour 80 = .ok (.ldc 109, 2) := by decide +kernel
theorem dX12_neighbour_82 : decode cX12_neighbour 82 = .ok (.invokevirtual 102, 3) := by decide +kernel
theorem dX12_neighbour_85 : decode cX12_neighbour 85 = .ok (.aload_n 0, 1) := by decide +kernel
theorem dX12_neighbour_86 : decode cX12_neighbour 86 = .ok (.getfield 13, 3) := by decide +kernel
theorem dX12_neighbour_89 : decode cX12_neighbour 89 = .ok (.iload_n 2, 1) := by decide +kernel
theorem dX12_neighbour_90 : decode cX12_neighbour 90 = .ok (.iaload, 1) := by decide +kernel
theorem dX12_neighbour_91 : decode cX12_neighbour 91 = .ok (.invokevirtual 106, 3) := by decide +kernel
theorem dX12_neighbour_94 : decode cX12_neighbour 94 = .ok (.ldc 109, 2) := by decide +kernel
theorem dX12_neighbour_96 : decode cX12_neighbour 96 = .ok (.invokevirtual 102, 3) := by decide +kernel
theorem dX12_neighbour_99 : decode cX12_neighbour 99 = .ok (.aload_n 0, 1) := by decide +kernel
theorem dX12_neighbour_100 : decode cX12_neighbour 100 = .ok (.getfield 16, 3) := by decide +kernel
theorem dX12_neighbour_103 : decode cX12_neighbour 103 = .ok (.iload_n 2, 1) := by decide +kernel
theorem dX12_neighbour_104 : decode cX12_neighbour 104 = .ok (.iaload, 1) := by decide +kernel
theorem dX12_neighbour_105 : decode cX12_neighbour 105 = .ok (.invokevirtual 106, 3) := by decide +kernel
theorem dX12_neighbour_108 : decode cX12_neighbour 108 = .ok (.invokevirtual 119, 3) := by decide +kernel
theorem dX12_neighbour_111 : decode cX12_neighbour 111 = .ok (.putfield 123, 3) := by decide +kernel
theorem dX12_neighbour_114 : decode cX12_neighbour 114 = .ok (.aload_n 1, 1) := by decide +kernel
theorem dX12_neighbour_115 : decode cX12_neighbour 115 = .ok (.iconst 2, 1) := by decide +kernel
theorem dX12_neighbour_116 : decode cX12_neighbour 116 = .ok (.invokevirtual 63, 3) := by decide +kernel
theorem dX12_neighbour_119 : decode cX12_neighbour 119 = .ok (.ifCond .ne 91, 3) := by decide +kernel
theorem dX12_neighbour_210 : decode cX12_neighbour 210 = .ok (.aload_n 0, 1) := by decide +kernel
theorem dX12_neighbour_211 : decode cX12_neighbour 211 = .ok (.new 97, 3) := by decide +kernel
theorem dX12_neighbour_214 : decode cX12_neighbour 214 = .ok (.dup, 1) := by decide +kernel
theorem dX12_neighbour_215 : decode cX12_neighbour 215 = .ok (.invokespecial 99, 3) := by decide +kernel
theorem dX12_neighbour_218 : decode cX12_neighbour 218 = .ok (.aload_n 0, 1) := by decide +kernel
theorem dX12_neighbour_219 : decode cX12_neighbour 219 = .ok (.getfield 123, 3) := by decide +kernel
theorem dX12_neighbour_222 : decode cX12_neighbour 222 = .ok (.invokevirtual 102, 3) := by decide +kernel
theorem dX12_neighbour_225 : decode cX12_neighbour 225 = .ok (.ldc 117, 2) := by decide +kernel
theorem dX12_neighbour_227 : decode cX12_neighbour 227 = .ok (.invokevirtual 102, 3) := by decide +kernel
theorem dX12_neighbour_230 : decode cX12_neighbour 230 = .ok (.invokevirtual 119, 3) := by decide +kernel
theorem dX12_neighbour_233 : decode cX12_neighbour 233 = .ok (.putfield 123, 3) := by decide +kernel
theorem dX12_neighbour_122 : decode cX12_neighbour 122 = .ok (.aload_n 0, 1) := by decide +kernel
theorem dX12_neighbour_123 : decode cX12_neighbour 123 = .ok (.getfield 19, 3) := by decide +kernel
theorem dX12_neighbour_126 : decode cX12_neighbour 126 = .ok (.iload_n 2, 1) := by decide +kernel
theorem dX12_neighbour_127 : decode cX12_neighbour 127 = .ok (.sipush 400, 3) := by decide +kernel
theorem dX12_neighbour_130 : decode cX12_neighbour 130 = .ok (.aload_n 1, 1) := by decide +kernel
theorem dX12_neighbour_131 : decode cX12_neighbour 131 = .ok (.sipush 400, 3) := by decide +kernel
theorem dX12_neighbour_134 : decode cX12_neighbour 134 = .ok (.invokevirtual 63, 3) := by decide +kernel
theorem dX12_neighbour_137 : decode cX12_neighbour 137 = .ok (.iadd, 1) := by decide +kernel
theorem dX12_neighbour_138 : decode cX12_neighbour 138 = .ok (.iastore, 1) := by decide +kernel
theorem dX12_neighbour_139 : decode cX12_neighbour 139 = .ok (.aload_n 0, 1) := by decide +kernel
theorem dX12_neighbour_140 : decode cX12_neighbour 140 = .ok (.getfield 22, 3) := by decide +kernel
theorem dX12_neighbour_143 : decode cX12_neighbour 143 = .ok (.iload_n 2, 1) := by decide +kernel
theorem dX12_neighbour_144 : decode cX12_neighbour 144 = .ok (.aload_n 0, 1) := by decide +kernel
theorem dX12_neighbour_145 : decode cX12_neighbour 145 = .ok (.getfield 19, 3) := by decide +kernel
theorem dX12_neighbour_148 : decode cX12_neighbour 148 = .ok (.iload_n 2, 1) := by decide +kernel
theorem dX12_neighbour_149 : decode cX12_neighbour 149 = .ok (.iaload, 1) := by decide +kernel
theorem dX12_neighbour_150 : decode cX12_neighbour 150 = .ok (.iconst 1, 1) := by decide +kernel
theorem dX12_neighbour_151 : decode cX12_neighbour 151 = .ok (.iadd, 1) := by decide +kernel
theorem dX12_neighbour_152 : decode cX12_neighbour 152 = .ok (.aload_n 1, 1) := by decide +kernel
theorem dX12_neighbour_153 : decode cX12_neighbour 153 = .ok (.sipush 200, 3) := by decide +kernel
theorem dX12_neighbour_156 : decode cX12_neighbour 156 = .ok (.invokevirtual 63, 3) := by decide +kernel
theorem dX12_neighbour_159 : decode cX12_neighbour 159 = .ok (.iadd, 1) := by decide +kernel
theorem dX12_neighbour_160 : decode cX12_neighbour 160 = .ok (.iastore, 1) := by decide +kernel
theorem dX12_neighbour_161 : decode cX12_neighbour 161 = .ok (.aload_n 0, 1) := by decide +kernel
theorem dX12_neighbour_162 : decode cX12_neighbour 162 = .ok (.new 97, 3) := by decide +kernel
theorem dX12_neighbour_165 : decode cX12_neighbour 165 = .ok (.dup, 1) := by decide +kernel
theorem dX12_neighbour_166 : decode cX12_neighbour 166 = .ok (.invokespecial 99, 3) := by decide +kernel
theorem dX12_neighbour_169 : decode cX12_neighbour 169 = .ok (.aload_n 0, 1) := by decide +kernel
theorem dX12_neighbour_170 : decode cX12_neighbour 170 = .ok (.getfield 123, 3) := by decide +kernel
theorem dX12_neighbour_173 : decode cX12_neighbour 173 = .ok (.invokevirtual 102, 3) := by decide +kernel
theorem dX12_neighbour_176 : decode cX12_neighbour 176 = .ok (.ldc 109, 2) := by decide +kernel
theorem dX12_neighbour_178 : decode cX12_neighbour 178 = .ok (.invokevirtual 102, 3) := by decide +kernel
theorem dX12_neighbour_181 : decode cX12_neighbour 181 = .ok (.aload_n 0, 1) := by decide +kernel
theorem dX12_neighbour_182 : decode cX12_neighbour 182 = .ok (.getfield 19, 3) := by decide +kernel
theorem dX12_neighbour_185 : decode cX12_neighbour 185 = .ok (.iload_n 2, 1) := by decide +kernel
theorem dX12_neighbour_186 : decode cX12_neighbour 186 = .ok (.iaload, 1) := by decide +kernel
theorem dX12_neighbour_187 : decode cX12_neighbour 187 = .ok (.invokevirtual 106, 3) := by decide +kernel
theorem dX12_neighbour_190 : decode cX12_neighbour 190 = .ok (.ldc 143, 2) := by decide +kernel
theorem dX12_neighbour_192 : decode cX12_neighbour 192 = .ok (.invokevirtual 102, 3) := by decide +kernel
theorem dX12_neighbour_195 : decode cX12_neighbour 195 = .ok (.aload_n 0, 1) := by decide +kernel
theorem dX12_neighbour_196 : decode cX12_neighbour 196 = .ok (.getfield 22, 3) := by decide +kernel
theorem dX12_neighbour_199 : decode cX12_neighbour 199 = .ok (.iload_n 2, 1) := by decide +kernel
theorem dX12_neighbour_200 : decode cX12_neighbour 200 = .ok (.iaload, 1) := by decide +kernel
theorem dX12_neighbour_201 : decode cX12_neighbour 201 = .ok (.invokevirtual 106, 3) := by decide +kernel
theorem dX12_neighbour_204 : decode cX12_neighbour 204 = .ok (.invokevirtual 119, 3) := by decide +kernel
theorem dX12_neighbour_207 : decode cX12_neighbour 207 = .ok (.putfield 123, 3) := by decide +kernel
theorem dX12_neighbour_236 : decode cX12_neighbour 236 = .ok (.return_, 1) := by decide +kernel
set_option maxHeartbeats 4000000 in
set_option maxRecDepth 100000 in
theorem n_near {l : Launch} {g : GL} {σ : SI} {R : Nat → Nat → Nat} {L : Nat → Nat → Int64} {a v : Nat} {t : List Nat} {k : Nat} (hg : gZ g = 1) (hRD : RDr R) (hSh : ShR R) (hTL : TL g R a v) (hA : Asc t) (hk2 : k < 2) (ht : t.length ≤ 400) (h182 : σ 182 k = nI 0) (h183 : σ 183 k = nI 0) : Cdr l g 8 yX12_neighbour cX12_neighbour 3 40 30000 [.ref (ga g 178), .ref (ga g 202), .int (nI k)] σ R L a v t (fun σ' t' => ∃ d : NDt, NdOk d ∧ t' = t ++ prN k d ∧ t'.length ≤ t.length + 32 ∧ DN σ' k d ∧ ∀ o j, o ≠ 202 → ¬ ((179 ≤ o ∧ o ≤ 183) ∧ j = k) → σ' o j = σ o j) := by
  refine Met.ofW (cc := cX12_neighbour) (maxL := 3) (ret := none) (by decide) rfl ?_
  intro p e s m args below meth c s₁ B hml hv
  obtain ⟨rfl, hE, hLo, hWd, hT⟩ := hv
  have hr : meth.sig.returnType = none := B.returns
  have C : Cx l g p s m meth c cX12_neighbour 3 RX12 := ⟨B.exec, B.bytes, hml, findClass_of_methodNamed B.named, hE, hLo, B.notSynchronized⟩
  have S : S2 g s σ R L s.heap [] := ⟨hWd, va_S.rf⟩
  have hx := C.1
  have hb := C.2.1
  have hl := lv_entry ([.ref (ga g 178), .ref (ga g 202), .int (nI k)]) (n := 3) (Nat.le_of_ble_eq_true rfl)
  rw [lg_entry_eq]
  generalize (lg_sl ([.ref (ga g 178), .ref (ga g 202), .int (nI k)]) ++ List.replicate (3 - (lg_sl ([.ref (ga g 178), .ref (ga g 202), .int (nI k)])).length) Slot.unset).toArray = ls at hl ⊢
  have hl : lv_has ls 3 [(0, .ref (ga g 178)), (1, .ref (ga g 202)), (2, .int (nI k))] := hl
  generalize hH0 : s.heap = H at S hT ⊢
  generalize hlc : ([] : List Loc) = locs at S ⊢
  generalize hRm : (headSpec [Cond.code yX12_neighbour cX12_neighbour 3 none] (rmd 8 40 30000)).room = R0
  have hRf : R0.frames = 8 := by rw [← hRm]; rfl
  have hRl : R0.locals = 512 := by rw [← hRm]; rfl
  have hRc : R0.cells = 40 := by rw [← hRm]; rfl
  have hRs : R0.slots = 30000 := by rw [← hRm]; rfl
  refine lv_aload_n hx hb dX12_neighbour_0 rfl (lv_at hl 0 rfl) ?_
  refine d_getA C S 9 179 (by decide) rfl rfl (hRD.1 0 (by decide)) (by decide) fl_RX12_7 dX12_neighbour_1 ?_
  refine lv_iload_n hx hb dX12_neighbour_4 rfl (lv_at hl 2 rfl) ?_
  refine lv_aload_n hx hb dX12_neighbour_5 rfl (lv_at hl 1 rfl) ?_
  refine lv_sipush (v := nI 300) hx hb dX12_neighbour_6 (by decide) ?_
  refine d_next (n := 300) C S hSh (by decide) (by decide) ⟨cd_X13_next, ni_RX13, ml_RX12_63, in_X13_next, sl_X13_next⟩ ⟨by omega, by omega⟩ hl.1 (Nat.le_of_ble_eq_true rfl) ⟨by omega, by omega⟩ dX12_neighbour_9 (fun x1 s2 H1 locs1 hx1 hf3 S hz hk => ?_)
  have hT := hT.upz hTL.2.1 hTL.2.2 hk
  refine d_iast (k := k) (len := 2) C S (by decide) (⟨by decide +kernel, by decide, by decide⟩ : Ok 202 179 10002) (by omega) dX12_neighbour_12 (fun s4 H1 locs1 he5 hf6 S hz hk => ?_)
  have hT := hT.upz hTL.2.1 hTL.2.2 hk
  refine lv_aload_n hx hb dX12_neighbour_13 rfl (lv_at hl 0 rfl) ?_
  refine d_getA C S 10 180 (by decide) rfl rfl (hRD.1 1 (by decide)) (by decide) fl_RX12_13 dX12_neighbour_14 ?_
  refine lv_iload_n hx hb dX12_neighbour_17 rfl (lv_at hl 2 rfl) ?_
  refine lv_aload_n hx hb dX12_neighbour_18 rfl (lv_at hl 1 rfl) ?_
  refine lv_sipush (v := nI 300) hx hb dX12_neighbour_19 (by decide) ?_
  refine d_next (n := 300) C S hSh (by decide) (by decide) ⟨cd_X13_next, ni_RX13, ml_RX12_63, in_X13_next, sl_X13_next⟩ ⟨by omega, by omega⟩ hl.1 (Nat.le_of_ble_eq_true rfl) ⟨by omega, by omega⟩ dX12_neighbour_22 (fun x7 s8 H1 locs1 hx7 hf9 S hz hk => ?_)
  have hT := hT.upz hTL.2.1 hTL.2.2 hk
  refine d_iast (k := k) (len := 2) C S (by decide) (⟨by decide +kernel, by decide, by decide⟩ : Ok 202 180 10002) (by omega) dX12_neighbour_25 (fun s10 H1 locs1 he11 hf12 S hz hk => ?_)
  have hT := hT.upz hTL.2.1 hTL.2.2 hk
  refine lv_aload_n hx hb dX12_neighbour_26 rfl (lv_at hl 0 rfl) ?_
  refine d_getA C S 11 181 (by decide) rfl rfl (hRD.1 2 (by decide)) (by decide) fl_RX12_16 dX12_neighbour_27 ?_
  refine lv_iload_n hx hb dX12_neighbour_30 rfl (lv_at hl 2 rfl) ?_
  refine lv_aload_n hx hb dX12_neighbour_31 rfl (lv_at hl 1 rfl) ?_
  refine lv_bipush (v := nI 40) hx hb dX12_neighbour_32 (by decide) ?_
  refine d_next (n := 40) C S hSh (by decide) (by decide) ⟨cd_X13_next, ni_RX13, ml_RX12_63, in_X13_next, sl_X13_next⟩ ⟨by omega, by omega⟩ hl.1 (Nat.le_of_ble_eq_true rfl) ⟨by omega, by omega⟩ dX12_neighbour_34 (fun x13 s14 H1 locs1 hx13 hf15 S hz hk => ?_)
  have hT := hT.upz hTL.2.1 hTL.2.2 hk
  refine d_iast (k := k) (len := 2) C S (by decide) (⟨by decide +kernel, by decide, by decide⟩ : Ok 202 181 10002) (by omega) dX12_neighbour_37 (fun s16 H1 locs1 he17 hf18 S hz hk => ?_)
  have hT := hT.upz hTL.2.1 hTL.2.2 hk
  refine lv_aload_n hx hb dX12_neighbour_38 rfl (lv_at hl 0 rfl) ?_
  refine t_new C hg S (by have h1 := hT.lt; have h2 := hTL.2.1; omega) ⟨by omega, by omega⟩ hl.1 (Nat.le_of_ble_eq_true rfl) ⟨by omega, by omega⟩ dX12_neighbour_39 dX12_neighbour_42 dX12_neighbour_43 (fun Z H1 locs1 hZe S hZ hH hk hB => ?_)
  have haZ : a < Z := by have h1 := hT.lt; omega
  have hvZ : v < Z := by have h1 := hT.lt; omega
  have hT := hT.kept haZ hvZ hk
  refine lv_aload_n hx hb dX12_neighbour_46 rfl (lv_at hl 0 rfl) ?_
  refine e_getT C S hTL fl_RX12_123 dX12_neighbour_47 ?_
  refine t_txt C hg S hZ hH hB hT haZ hvZ hA (by simp only [List.length_nil]; omega) ⟨by omega, by omega⟩ hl.1 (Nat.le_of_ble_eq_true rfl) ⟨by omega, by omega⟩ dX12_neighbour_50 (fun H1 locs1 S hz hk hB => ?_)
  have hH := Nat.le_trans hH hz
  have hT := hT.kept haZ hvZ hk
  refine x_ldcs C (k := 141) (tx := "near ") (ia := 18) (by decide) dX12_neighbour_53 ?_
  refine t_cst (i := 18) C hg S hZ hH hB (by decide) (by simp only [List.length_append, List.length_nil, List.length_cons, dec_len]; omega) ⟨by omega, by omega⟩ hl.1 (Nat.le_of_ble_eq_true rfl) ⟨by omega, by omega⟩ dX12_neighbour_55 (fun H1 locs1 S hz hk hB => ?_)
  have hH := Nat.le_trans hH hz
  have hT := hT.kept haZ hvZ hk
  refine lv_bipush (v := nI 110) hx hb dX12_neighbour_58 (by decide) ?_
  refine lv_iload_n hx hb dX12_neighbour_60 rfl (lv_at hl 2 rfl) ?_
  refine lv_iadd hx hb dX12_neighbour_61 ?_
  rw [nI_add]
  refine lv_i2c (v := (nI (110 + k))) hx hb dX12_neighbour_62 (asc_ch (by omega)) ?_
  refine t_chr (n := 110 + k) C hg S hZ hH hB (by omega) (by simp only [List.length_append, List.length_nil, List.length_cons, dec_len]; have : (kwL 18).length = 5 := rfl; omega) ⟨by omega, by omega⟩ hl.1 (Nat.le_of_ble_eq_true rfl) ⟨by omega, by omega⟩ dX12_neighbour_63 (fun H1 locs1 S hz hk hB => ?_)
  have hH := Nat.le_trans hH hz
  have hT := hT.kept haZ hvZ hk
  refine x_ldcs C (k := 109) (tx := " ") (ia := 11) (by decide) dX12_neighbour_66 ?_
  refine t_cst (i := 11) C hg S hZ hH hB (by decide) (by simp only [List.length_append, List.length_nil, List.length_cons, dec_len]; have : (kwL 18).length = 5 := rfl; omega) ⟨by omega, by omega⟩ hl.1 (Nat.le_of_ble_eq_true rfl) ⟨by omega, by omega⟩ dX12_neighbour_68 (fun H1 locs1 S hz hk hB => ?_)
  have hH := Nat.le_trans hH hz
  have hT := hT.kept haZ hvZ hk
  refine lv_aload_n hx hb dX12_neighbour_71 rfl (lv_at hl 0 rfl) ?_
  refine d_getA C S 9 179 (by decide) rfl rfl (hRD.1 0 (by decide)) (by decide) fl_RX12_7 dX12_neighbour_72 ?_
  refine lv_iload_n hx hb dX12_neighbour_75 rfl (lv_at hl 2 rfl) ?_
  refine d_iald (k := k) (len := 2) C S (by decide) (⟨by decide +kernel, by decide, by decide⟩ : Ok 202 179 10002) (by omega) (show s16 179 k = nI x1 from by rw [hf18 179 k (by omega), hf15 179 k (by omega), hf12 179 k (by omega), hf9 179 k (by omega), he5]) dX12_neighbour_76 ?_
  refine t_int (n := x1) C hg S hZ hH hB (by omega) (by simp only [List.length_append, List.length_nil, List.length_cons, dec_len]; have : (kwL 18).length = 5 := rfl; have : (kwL 11).length = 1 := rfl; omega) ⟨by omega, by omega⟩ hl.1 (Nat.le_of_ble_eq_true rfl) ⟨by omega, by omega⟩ dX12_neighbour_77 (fun H1 locs1 S hz hk hB => ?_)
  have hH := Nat.le_trans hH hz
  have hT := hT.kept haZ hvZ hk
  refine x_ldcs C (k := 109) (tx := " ") (ia := 11) (by decide) dX12_neighbour_80 ?_
  refine t_cst (i := 11) C hg S hZ hH hB (by decide) (by simp only [List.length_append, List.length_nil, List.length_cons, dec_len]; have : (kwL 18).length = 5 := rfl; have : (kwL 11).length = 1 := rfl; have := dg_in (x1); omega) ⟨by omega, by omega⟩ hl.1 (Nat.le_of_ble_eq_true rfl) ⟨by omega, by omega⟩ dX12_neighbour_82 (fun H1 locs1 S hz hk hB => ?_)
  have hH := Nat.le_trans hH hz
  have hT := hT.kept haZ hvZ hk
  refine lv_aload_n hx hb dX12_neighbour_85 rfl (lv_at hl 0 rfl) ?_
  refine d_getA C S 10 180 (by decide) rfl rfl (hRD.1 1 (by decide)) (by decide) fl_RX12_13 dX12_neighbour_86 ?_
  refine lv_iload_n hx hb dX12_neighbour_89 rfl (lv_at hl 2 rfl) ?_
  refine d_iald (k := k) (len := 2) C S (by decide) (⟨by decide +kernel, by decide, by decide⟩ : Ok 202 180 10002) (by omega) (show s16 180 k = nI x7 from by rw [hf18 180 k (by omega), hf15 180 k (by omega), he11]) dX12_neighbour_90 ?_
  refine t_int (n := x7) C hg S hZ hH hB (by omega) (by simp only [List.length_append, List.length_nil, List.length_cons, dec_len]; have : (kwL 18).length = 5 := rfl; have : (kwL 11).length = 1 := rfl; have := dg_in (x1); have : (kwL 11).length = 1 := rfl; omega) ⟨by omega, by omega⟩ hl.1 (Nat.le_of_ble_eq_true rfl) ⟨by omega, by omega⟩ dX12_neighbour_91 (fun H1 locs1 S hz hk hB => ?_)
  have hH := Nat.le_trans hH hz
  have hT := hT.kept haZ hvZ hk
  refine x_ldcs C (k := 109) (tx := " ") (ia := 11) (by decide) dX12_neighbour_94 ?_
  refine t_cst (i := 11) C hg S hZ hH hB (by decide) (by simp only [List.length_append, List.length_nil, List.length_cons, dec_len]; have : (kwL 18).length = 5 := rfl; have : (kwL 11).length = 1 := rfl; have := dg_in (x1); have : (kwL 11).length = 1 := rfl; have := dg_in (x7); omega) ⟨by omega, by omega⟩ hl.1 (Nat.le_of_ble_eq_true rfl) ⟨by omega, by omega⟩ dX12_neighbour_96 (fun H1 locs1 S hz hk hB => ?_)
  have hH := Nat.le_trans hH hz
  have hT := hT.kept haZ hvZ hk
  refine lv_aload_n hx hb dX12_neighbour_99 rfl (lv_at hl 0 rfl) ?_
  refine d_getA C S 11 181 (by decide) rfl rfl (hRD.1 2 (by decide)) (by decide) fl_RX12_16 dX12_neighbour_100 ?_
  refine lv_iload_n hx hb dX12_neighbour_103 rfl (lv_at hl 2 rfl) ?_
  refine d_iald (k := k) (len := 2) C S (by decide) (⟨by decide +kernel, by decide, by decide⟩ : Ok 202 181 10002) (by omega) (show s16 181 k = nI x13 from by rw [he17]) dX12_neighbour_104 ?_
  refine t_int (n := x13) C hg S hZ hH hB (by omega) (by simp only [List.length_append, List.length_nil, List.length_cons, dec_len]; have : (kwL 18).length = 5 := rfl; have : (kwL 11).length = 1 := rfl; have := dg_in (x1); have : (kwL 11).length = 1 := rfl; have := dg_in (x7); have : (kwL 11).length = 1 := rfl; omega) ⟨by omega, by omega⟩ hl.1 (Nat.le_of_ble_eq_true rfl) ⟨by omega, by omega⟩ dX12_neighbour_105 (fun H1 locs1 S hz hk hB => ?_)
  have hH := Nat.le_trans hH hz
  have hT := hT.kept haZ hvZ hk
  refine t_end C hg S hZ hH hB ⟨by omega, by omega⟩ hl.1 (Nat.le_of_ble_eq_true rfl) ⟨by omega, by omega⟩ dX12_neighbour_108 (fun a19 v20 H1 locs1 S hz hk hT ha9 hv9 => ?_)
  refine e_put C S hRD hSh hT ha9 hv9 fl_RX12_123 dX12_neighbour_111 (fun R22 H1 locs1 S hRD hSh hTL hT => ?_)
  have hlen : (([] : List Nat) ++ t ++ kwL 18 ++ [110 + k] ++ kwL 11 ++ dec x1 ++ kwL 11 ++ dec x7 ++ kwL 11 ++ dec x13).length ≤ t.length + 17 := by
    simp only [List.length_append, List.length_nil, List.length_cons, dec_len]
    have : (kwL 18).length = 5 := rfl
    have : (kwL 11).length = 1 := rfl
    have := dgS (v := x1) (by omega)
    have : (kwL 11).length = 1 := rfl
    have := dgS (v := x7) (by omega)
    have : (kwL 11).length = 1 := rfl
    have := dgT (v := x13) (by omega)
    omega
  have hA : Asc (([] : List Nat) ++ t ++ kwL 18 ++ [110 + k] ++ kwL 11 ++ dec x1 ++ kwL 11 ++ dec x7 ++ kwL 11 ++ dec x13) := (((((((((Asc.nil.app hA).app (Asc.kw (by decide))).app (Asc.one (by omega))).app (Asc.kw (by decide))).app (Asc.dec (by omega))).app (Asc.kw (by decide))).app (Asc.dec (by omega))).app (Asc.kw (by decide))).app (Asc.dec (by omega)))
  obtain ⟨t23, et23⟩ : ∃ x, x = ([] : List Nat) ++ t ++ kwL 18 ++ [110 + k] ++ kwL 11 ++ dec x1 ++ kwL 11 ++ dec x7 ++ kwL 11 ++ dec x13 := ⟨_, rfl⟩
  rw [← et23] at hlen hA hT
  refine lv_aload_n hx hb dX12_neighbour_114 rfl (lv_at hl 1 rfl) ?_
  refine lv_iconst (v := nI 2) hx hb dX12_neighbour_115 (by decide) ?_
  refine d_next (n := 2) C S hSh (by decide) (by decide) ⟨cd_X13_next, ni_RX13, ml_RX12_63, in_X13_next, sl_X13_next⟩ ⟨by omega, by omega⟩ hl.1 (Nat.le_of_ble_eq_true rfl) ⟨by omega, by omega⟩ dX12_neighbour_116 (fun x24 s25 H1 locs1 hx24 hf26 S hz hk => ?_)
  have hT := hT.upz hTL.2.1 hTL.2.2 hk
  refine lv_if_ne (tgt := 210) hx hb dX12_neighbour_119 (by decide) (fun _ => ?_) (fun _ => ?_)
  · refine lv_aload_n hx hb dX12_neighbour_210 rfl (lv_at hl 0 rfl) ?_
    refine t_new C hg S (by have h1 := hT.lt; have h2 := hTL.2.1; omega) ⟨by omega, by omega⟩ hl.1 (Nat.le_of_ble_eq_true rfl) ⟨by omega, by omega⟩ dX12_neighbour_211 dX12_neighbour_214 dX12_neighbour_215 (fun Z H1 locs1 hZe S hZ hH hk hB => ?_)
    have haZ : a19 < Z := by have h1 := hT.lt; omega
    have hvZ : v20 < Z := by have h1 := hT.lt; omega
    have hT := hT.kept haZ hvZ hk
    refine lv_aload_n hx hb dX12_neighbour_218 rfl (lv_at hl 0 rfl) ?_
    refine e_getT C S hTL fl_RX12_123 dX12_neighbour_219 ?_
    refine t_txt C hg S hZ hH hB hT haZ hvZ hA (by simp only [List.length_nil]; omega) ⟨by omega, by omega⟩ hl.1 (Nat.le_of_ble_eq_true rfl) ⟨by omega, by omega⟩ dX12_neighbour_222 (fun H1 locs1 S hz hk hB => ?_)
    have hH := Nat.le_trans hH hz
    have hT := hT.kept haZ hvZ hk
    refine x_ldcs C (k := 117) (tx := ";") (ia := 15) (by decide) dX12_neighbour_225 ?_
    refine t_cst (i := 15) C hg S hZ hH hB (by decide) (by simp only [List.length_append, List.length_nil, List.length_cons, dec_len]; omega) ⟨by omega, by omega⟩ hl.1 (Nat.le_of_ble_eq_true rfl) ⟨by omega, by omega⟩ dX12_neighbour_227 (fun H1 locs1 S hz hk hB => ?_)
    have hH := Nat.le_trans hH hz
    have hT := hT.kept haZ hvZ hk
    refine t_end C hg S hZ hH hB ⟨by omega, by omega⟩ hl.1 (Nat.le_of_ble_eq_true rfl) ⟨by omega, by omega⟩ dX12_neighbour_230 (fun a27 v28 H1 locs1 S hz hk hT ha9 hv9 => ?_)
    refine e_put C S hRD hSh hT ha9 hv9 fl_RX12_123 dX12_neighbour_233 (fun R30 H1 locs1 S hRD hSh hTL hT => ?_)
    have hlen : (([] : List Nat) ++ t23 ++ kwL 15).length ≤ t.length + 17 + 1 := by
      simp only [List.length_append, List.length_nil, List.length_cons, dec_len]
      have : (kwL 15).length = 1 := rfl
      omega
    have hA : Asc (([] : List Nat) ++ t23 ++ kwL 15) := ((Asc.nil.app hA).app (Asc.kw (by decide)))
    obtain ⟨t31, et31⟩ : ∃ x, x = ([] : List Nat) ++ t23 ++ kwL 15 := ⟨_, rfl⟩
    rw [← et31] at hlen hA hT
    refine W.widen (k := 40) (n := 30000) (by decide) (by decide) ?_
    refine e_ret C S hr ⟨(x1, x7, x13, none), ⟨hx1, hx7, hx13, fun q hq => by cases hq⟩, ?_, ?_, ⟨(show s25 179 k = nI x1 from by rw [hf26 179 k (by omega), hf18 179 k (by omega), hf15 179 k (by omega), hf12 179 k (by omega), hf9 179 k (by omega), he5]), (show s25 180 k = nI x7 from by rw [hf26 180 k (by omega), hf18 180 k (by omega), hf15 180 k (by omega), he11]), (show s25 181 k = nI x13 from by rw [hf26 181 k (by omega), he17]), (show s25 182 k = nI 0 from by rw [hf26 182 k (by omega), hf18 182 k (by omega), hf15 182 k (by omega), hf12 182 k (by omega), hf9 182 k (by omega), hf6 182 k (by omega), hf3 182 k (by omega), h182]), (show s25 183 k = nI 0 from by rw [hf26 183 k (by omega), hf18 183 k (by omega), hf15 183 k (by omega), hf12 183 k (by omega), hf9 183 k (by omega), hf6 183 k (by omega), hf3 183 k (by omega), h183])⟩, fun o j ho hn => by rw [hf26 o j ho, hf18 o j (by omega), hf15 o j ho, hf12 o j (by omega), hf9 o j ho, hf6 o j (by omega), hf3 o j ho]⟩ hRD hSh hTL hA hT dX12_neighbour_236
    · rw [et31, et23]
      simp only [prN, prQ, List.append_assoc, List.nil_append, List.append_nil]
    · rw [et31, et23]
      simp only [List.length_append, List.length_nil, List.length_cons, dec_len]
      have : (kwL 18).length = 5 := rfl
      have : (kwL 11).length = 1 := rfl
      have : (kwL 15).length = 1 := rfl
      have : (kwL 19).length = 4 := rfl
      have := dgS (v := x1) (by omega)
      have := dgS (v := x7) (by omega)
      have := dgT (v := x13) (by omega)
      omega
  · refine lv_aload_n hx hb dX12_neighbour_122 rfl (lv_at hl 0 rfl) ?_
    refine d_getA C S 12 182 (by decide) rfl rfl (hRD.1 3 (by decide)) (by decide) fl_RX12_19 dX12_neighbour_123 ?_
    refine lv_iload_n hx hb dX12_neighbour_126 rfl (lv_at hl 2 rfl) ?_
    refine lv_sipush (v := nI 400) hx hb dX12_neighbour_127 (by decide) ?_
    refine lv_aload_n hx hb dX12_neighbour_130 rfl (lv_at hl 1 rfl) ?_
    refine lv_sipush (v := nI 400) hx hb dX12_neighbour_131 (by decide) ?_
    refine d_next (n := 400) C S hSh (by decide) (by decide) ⟨cd_X13_next, ni_RX13, ml_RX12_63, in_X13_next, sl_X13_next⟩ ⟨by omega, by omega⟩ hl.1 (Nat.le_of_ble_eq_true rfl) ⟨by omega, by omega⟩ dX12_neighbour_134 (fun x27 s28 H1 locs1 hx27 hf29 S hz hk => ?_)
    have hT := hT.upz hTL.2.1 hTL.2.2 hk
    refine lv_iadd hx hb dX12_neighbour_137 ?_
    rw [nI_add]
    refine d_iast (k := k) (len := 2) C S (by decide) (⟨by decide +kernel, by decide, by decide⟩ : Ok 202 182 10002) (by omega) dX12_neighbour_138 (fun s30 H1 locs1 he31 hf32 S hz hk => ?_)
    have hT := hT.upz hTL.2.1 hTL.2.2 hk
    refine lv_aload_n hx hb dX12_neighbour_139 rfl (lv_at hl 0 rfl) ?_
    refine d_getA C S 13 183 (by decide) rfl rfl (hRD.1 4 (by decide)) (by decide) fl_RX12_22 dX12_neighbour_140 ?_
    refine lv_iload_n hx hb dX12_neighbour_143 rfl (lv_at hl 2 rfl) ?_
    refine lv_aload_n hx hb dX12_neighbour_144 rfl (lv_at hl 0 rfl) ?_
    refine d_getA C S 12 182 (by decide) rfl rfl (hRD.1 3 (by decide)) (by decide) fl_RX12_19 dX12_neighbour_145 ?_
    refine lv_iload_n hx hb dX12_neighbour_148 rfl (lv_at hl 2 rfl) ?_
    refine d_iald (k := k) (len := 2) C S (by decide) (⟨by decide +kernel, by decide, by decide⟩ : Ok 202 182 10002) (by omega) (show s30 182 k = nI (400 + x27) from by rw [he31]) dX12_neighbour_149 ?_
    refine lv_iconst (v := nI 1) hx hb dX12_neighbour_150 (by decide) ?_
    refine lv_iadd hx hb dX12_neighbour_151 ?_
    rw [nI_add]
    refine lv_aload_n hx hb dX12_neighbour_152 rfl (lv_at hl 1 rfl) ?_
    refine lv_sipush (v := nI 200) hx hb dX12_neighbour_153 (by decide) ?_
    refine d_next (n := 200) C S hSh (by decide) (by decide) ⟨cd_X13_next, ni_RX13, ml_RX12_63, in_X13_next, sl_X13_next⟩ ⟨by omega, by omega⟩ hl.1 (Nat.le_of_ble_eq_true rfl) ⟨by omega, by omega⟩ dX12_neighbour_156 (fun x33 s34 H1 locs1 hx33 hf35 S hz hk => ?_)
    have hT := hT.upz hTL.2.1 hTL.2.2 hk
    refine lv_iadd hx hb dX12_neighbour_159 ?_
    rw [nI_add]
    refine d_iast (k := k) (len := 2) C S (by decide) (⟨by decide +kernel, by decide, by decide⟩ : Ok 202 183 10002) (by omega) dX12_neighbour_160 (fun s36 H1 locs1 he37 hf38 S hz hk => ?_)
    have hT := hT.upz hTL.2.1 hTL.2.2 hk
    refine lv_aload_n hx hb dX12_neighbour_161 rfl (lv_at hl 0 rfl) ?_
    refine t_new C hg S (by have h1 := hT.lt; have h2 := hTL.2.1; omega) ⟨by omega, by omega⟩ hl.1 (Nat.le_of_ble_eq_true rfl) ⟨by omega, by omega⟩ dX12_neighbour_162 dX12_neighbour_165 dX12_neighbour_166 (fun Z H1 locs1 hZe S hZ hH hk hB => ?_)
    have haZ : a19 < Z := by have h1 := hT.lt; omega
    have hvZ : v20 < Z := by have h1 := hT.lt; omega
    have hT := hT.kept haZ hvZ hk
    refine lv_aload_n hx hb dX12_neighbour_169 rfl (lv_at hl 0 rfl) ?_
    refine e_getT C S hTL fl_RX12_123 dX12_neighbour_170 ?_
    refine t_txt C hg S hZ hH hB hT haZ hvZ hA (by simp only [List.length_nil]; omega) ⟨by omega, by omega⟩ hl.1 (Nat.le_of_ble_eq_true rfl) ⟨by omega, by omega⟩ dX12_neighbour_173 (fun H1 locs1 S hz hk hB => ?_)
    have hH := Nat.le_trans hH hz
    have hT := hT.kept haZ hvZ hk
    refine x_ldcs C (k := 109) (tx := " ") (ia := 11) (by decide) dX12_neighbour_176 ?_
    refine t_cst (i := 11) C hg S hZ hH hB (by decide) (by simp only [List.length_append, List.length_nil, List.length_cons, dec_len]; omega) ⟨by omega, by omega⟩ hl.1 (Nat.le_of_ble_eq_true rfl) ⟨by omega, by omega⟩ dX12_neighbour_178 (fun H1 locs1 S hz hk hB => ?_)
    have hH := Nat.le_trans hH hz
    have hT := hT.kept haZ hvZ hk
    refine lv_aload_n hx hb dX12_neighbour_181 rfl (lv_at hl 0 rfl) ?_
    refine d_getA C S 12 182 (by decide) rfl rfl (hRD.1 3 (by decide)) (by decide) fl_RX12_19 dX12_neighbour_182 ?_
    refine lv_iload_n hx hb dX12_neighbour_185 rfl (lv_at hl 2 rfl) ?_
    refine d_iald (k := k) (len := 2) C S (by decide) (⟨by decide +kernel, by decide, by decide⟩ : Ok 202 182 10002) (by omega) (show s36 182 k = nI (400 + x27) from by rw [hf38 182 k (by omega), hf35 182 k (by omega), he31]) dX12_neighbour_186 ?_
    refine t_int (n := 400 + x27) C hg S hZ hH hB (by omega) (by simp only [List.length_append, List.length_nil, List.length_cons, dec_len]; have : (kwL 11).length = 1 := rfl; omega) ⟨by omega, by omega⟩ hl.1 (Nat.le_of_ble_eq_true rfl) ⟨by omega, by omega⟩ dX12_neighbour_187 (fun H1 locs1 S hz hk hB => ?_)
    have hH := Nat.le_trans hH hz
    have hT := hT.kept haZ hvZ hk
    refine x_ldcs C (k := 143) (tx := " to ") (ia := 19) (by decide) dX12_neighbour_190 ?_
    refine t_cst (i := 19) C hg S hZ hH hB (by decide) (by simp only [List.length_append, List.length_nil, List.length_cons, dec_len]; have : (kwL 11).length = 1 := rfl; have := dg_in (400 + x27); omega) ⟨by omega, by omega⟩ hl.1 (Nat.le_of_ble_eq_true rfl) ⟨by omega, by omega⟩ dX12_neighbour_192 (fun H1 locs1 S hz hk hB => ?_)
    have hH := Nat.le_trans hH hz
    have hT := hT.kept haZ hvZ hk
    refine lv_aload_n hx hb dX12_neighbour_195 rfl (lv_at hl 0 rfl) ?_
    refine d_getA C S 13 183 (by decide) rfl rfl (hRD.1 4 (by decide)) (by decide) fl_RX12_22 dX12_neighbour_196 ?_
    refine lv_iload_n hx hb dX12_neighbour_199 rfl (lv_at hl 2 rfl) ?_
    refine d_iald (k := k) (len := 2) C S (by decide) (⟨by decide +kernel, by decide, by decide⟩ : Ok 202 183 10002) (by omega) (show s36 183 k = nI (400 + x27 + 1 + x33) from by rw [he37]) dX12_neighbour_200 ?_
    refine t_int (n := 400 + x27 + 1 + x33) C hg S hZ hH hB (by omega) (by simp only [List.length_append, List.length_nil, List.length_cons, dec_len]; have : (kwL 11).length = 1 := rfl; have := dg_in (400 + x27); have : (kwL 19).length = 4 := rfl; omega) ⟨by omega, by omega⟩ hl.1 (Nat.le_of_ble_eq_true rfl) ⟨by omega, by omega⟩ dX12_neighbour_201 (fun H1 locs1 S hz hk hB => ?_)
    have hH := Nat.le_trans hH hz
    have hT := hT.kept haZ hvZ hk
    refine t_end C hg S hZ hH hB ⟨by omega, by omega⟩ hl.1 (Nat.le_of_ble_eq_true rfl) ⟨by omega, by omega⟩ dX12_neighbour_204 (fun a39 v40 H1 locs1 S hz hk hT ha9 hv9 => ?_)
    refine e_put C S hRD hSh hT ha9 hv9 fl_RX12_123 dX12_neighbour_207 (fun R42 H1 locs1 S hRD hSh hTL hT => ?_)
    have hlen : (([] : List Nat) ++ t23 ++ kwL 11 ++ dec (400 + x27) ++ kwL 19 ++ dec (400 + x27 + 1 + x33)).length ≤ t.length + 17 + 11 := by
      simp only [List.length_append, List.length_nil, List.length_cons, dec_len]
      have : (kwL 11).length = 1 := rfl
      have := dgS (v := 400 + x27) (by omega)
      have : (kwL 19).length = 4 := rfl
      have := dgS (v := 400 + x27 + 1 + x33) (by omega)
      omega
    have hA : Asc (([] : List Nat) ++ t23 ++ kwL 11 ++ dec (400 + x27) ++ kwL 19 ++ dec (400 + x27 + 1 + x33)) := (((((Asc.nil.app hA).app (Asc.kw (by decide))).app (Asc.dec (by omega))).app (Asc.kw (by decide))).app (Asc.dec (by omega)))
    obtain ⟨t43, et43⟩ : ∃ x, x = ([] : List Nat) ++ t23 ++ kwL 11 ++ dec (400 + x27) ++ kwL 19 ++ dec (400 + x27 + 1 + x33) := ⟨_, rfl⟩
    rw [← et43] at hlen hA hT
    refine lv_aload_n hx hb dX12_neighbour_210 rfl (lv_at hl 0 rfl) ?_
    refine t_new C hg S (by have h1 := hT.lt; have h2 := hTL.2.1; omega) ⟨by omega, by omega⟩ hl.1 (Nat.le_of_ble_eq_true rfl) ⟨by omega, by omega⟩ dX12_neighbour_211 dX12_neighbour_214 dX12_neighbour_215 (fun Z H1 locs1 hZe S hZ hH hk hB => ?_)
    have haZ : a39 < Z := by have h1 := hT.lt; omega
    have hvZ : v40 < Z := by have h1 := hT.lt; omega
    have hT := hT.kept haZ hvZ hk
    refine lv_aload_n hx hb dX12_neighbour_218 rfl (lv_at hl 0 rfl) ?_
    refine e_getT C S hTL fl_RX12_123 dX12_neighbour_219 ?_
    refine t_txt C hg S hZ hH hB hT haZ hvZ hA (by simp only [List.length_nil]; omega) ⟨by omega, by omega⟩ hl.1 (Nat.le_of_ble_eq_true rfl) ⟨by omega, by omega⟩ dX12_neighbour_222 (fun H1 locs1 S hz hk hB => ?_)
    have hH := Nat.le_trans hH hz
    have hT := hT.kept haZ hvZ hk
    refine x_ldcs C (k := 117) (tx := ";") (ia := 15) (by decide) dX12_neighbour_225 ?_
    refine t_cst (i := 15) C hg S hZ hH hB (by decide) (by simp only [List.length_append, List.length_nil, List.length_cons, dec_len]; omega) ⟨by omega, by omega⟩ hl.1 (Nat.le_of_ble_eq_true rfl) ⟨by omega, by omega⟩ dX12_neighbour_227 (fun H1 locs1 S hz hk hB => ?_)
    have hH := Nat.le_trans hH hz
    have hT := hT.kept haZ hvZ hk
    refine t_end C hg S hZ hH hB ⟨by omega, by omega⟩ hl.1 (Nat.le_of_ble_eq_true rfl) ⟨by omega, by omega⟩ dX12_neighbour_230 (fun a44 v45 H1 locs1 S hz hk hT ha9 hv9 => ?_)
    refine e_put C S hRD hSh hT ha9 hv9 fl_RX12_123 dX12_neighbour_233 (fun R47 H1 locs1 S hRD hSh hTL hT => ?_)
    have hlen : (([] : List Nat) ++ t43 ++ kwL 15).length ≤ t.length + 17 + 11 + 1 := by
      simp only [List.length_append, List.length_nil, List.length_cons, dec_len]
      have : (kwL 15).length = 1 := rfl
      omega
    have hA : Asc (([] : List Nat) ++ t43 ++ kwL 15) := ((Asc.nil.app hA).app (Asc.kw (by decide)))
    obtain ⟨t48, et48⟩ : ∃ x, x = ([] : List Nat) ++ t43 ++ kwL 15 := ⟨_, rfl⟩
    rw [← et48] at hlen hA hT
    refine W.widen (k := 40) (n := 30000) (by decide) (by decide) ?_
    refine e_ret C S hr ⟨(x1, x7, x13, some (400 + x27, 400 + x27 + 1 + x33)), ⟨hx1, hx7, hx13, fun q hq => by cases hq; exact ⟨by omega, by omega, by omega, by omega⟩⟩, ?_, ?_, ⟨(show s36 179 k = nI x1 from by rw [hf38 179 k (by omega), hf35 179 k (by omega), hf32 179 k (by omega), hf29 179 k (by omega), hf26 179 k (by omega), hf18 179 k (by omega), hf15 179 k (by omega), hf12 179 k (by omega), hf9 179 k (by omega), he5]), (show s36 180 k = nI x7 from by rw [hf38 180 k (by omega), hf35 180 k (by omega), hf32 180 k (by omega), hf29 180 k (by omega), hf26 180 k (by omega), hf18 180 k (by omega), hf15 180 k (by omega), he11]), (show s36 181 k = nI x13 from by rw [hf38 181 k (by omega), hf35 181 k (by omega), hf32 181 k (by omega), hf29 181 k (by omega), hf26 181 k (by omega), he17]), (show s36 182 k = nI (400 + x27) from by rw [hf38 182 k (by omega), hf35 182 k (by omega), he31]), (show s36 183 k = nI (400 + x27 + 1 + x33) from by rw [he37])⟩, fun o j ho hn => by rw [hf38 o j (by omega), hf35 o j ho, hf32 o j (by omega), hf29 o j ho, hf26 o j ho, hf18 o j (by omega), hf15 o j ho, hf12 o j (by omega), hf9 o j ho, hf6 o j (by omega), hf3 o j ho]⟩ hRD hSh hTL hA hT dX12_neighbour_236
    · rw [et48, et43, et23]
      simp only [prN, prQ, List.append_assoc, List.nil_append, List.append_nil]
    · rw [et48, et43, et23]
      simp only [List.length_append, List.length_nil, List.length_cons, dec_len]
      have : (kwL 18).length = 5 := rfl
      have : (kwL 11).length = 1 := rfl
      have : (kwL 15).length = 1 := rfl
      have : (kwL 19).length = 4 := rfl
      have := dgS (v := x1) (by omega)
      have := dgS (v := x7) (by omega)
      have := dgT (v := x13) (by omega)
      have := dgS (v := 400 + x27) (by omega)
      have := dgS (v := 400 + x27 + 1 + x33) (by omega)
      omega
