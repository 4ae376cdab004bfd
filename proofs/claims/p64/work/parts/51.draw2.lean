/-! ===== a blast is drawn ===== -/
theorem dX12_blast_131 : decode cX12_blast 131 = .ok (.iload_n 3, 1) := by decide +kernel
theorem dX12_blast_132 : decode cX12_blast 132 = .ok (.aload_n 0, 1) := by decide +kernel
theorem dX12_blast_133 : decode cX12_blast 133 = .ok (.getfield 46, 3) := by decide +kernel
theorem dX12_blast_136 : decode cX12_blast 136 = .ok (.iload_n 2, 1) := by decide +kernel
theorem dX12_blast_137 : decode cX12_blast 137 = .ok (.iaload, 1) := by decide +kernel
theorem dX12_blast_138 : decode cX12_blast 138 = .ok (.if_icmp .ge 93, 3) := by decide +kernel
theorem dX12_blast_141 : decode cX12_blast 141 = .ok (.aload_n 0, 1) := by decide +kernel
theorem dX12_blast_142 : decode cX12_blast 142 = .ok (.getfield 57, 3) := by decide +kernel
theorem dX12_blast_145 : decode cX12_blast 145 = .ok (.iload_n 2, 1) := by decide +kernel
theorem dX12_blast_146 : decode cX12_blast 146 = .ok (.aaload, 1) := by decide +kernel
theorem dX12_blast_147 : decode cX12_blast 147 = .ok (.iload_n 3, 1) := by decide +kernel
theorem dX12_blast_148 : decode cX12_blast 148 = .ok (.iconst 1, 1) := by decide +kernel
theorem dX12_blast_149 : decode cX12_blast 149 = .ok (.aload_n 1, 1) := by decide +kernel
theorem dX12_blast_150 : decode cX12_blast 150 = .ok (.sipush 200, 3) := by decide +kernel
theorem dX12_blast_153 : decode cX12_blast 153 = .ok (.invokevirtual 63, 3) := by decide +kernel
theorem dX12_blast_156 : decode cX12_blast 156 = .ok (.iadd, 1) := by decide +kernel
theorem dX12_blast_157 : decode cX12_blast 157 = .ok (.iastore, 1) := by decide +kernel
theorem dX12_blast_158 : decode cX12_blast 158 = .ok (.aload_n 0, 1) := by decide +kernel
theorem dX12_blast_159 : decode cX12_blast 159 = .ok (.getfield 60, 3) := by decide +kernel
theorem dX12_blast_162 : decode cX12_blast 162 = .ok (.iload_n 2, 1) := by decide +kernel
theorem dX12_blast_163 : decode cX12_blast 163 = .ok (.aaload, 1) := by decide +kernel
theorem dX12_blast_164 : decode cX12_blast 164 = .ok (.iload_n 3, 1) := by decide +kernel
theorem dX12_blast_165 : decode cX12_blast 165 = .ok (.aload_n 1, 1) := by decide +kernel
theorem dX12_blast_166 : decode cX12_blast 166 = .ok (.bipush 25, 2) := by decide +kernel
theorem dX12_blast_168 : decode cX12_blast 168 = .ok (.invokevirtual 63, 3) := by decide +kernel
theorem dX12_blast_171 : decode cX12_blast 171 = .ok (.iastore, 1) := by decide +kernel
theorem dX12_blast_172 : decode cX12_blast 172 = .ok (.aload_n 0, 1) := by decide +kernel
theorem dX12_blast_173 : decode cX12_blast 173 = .ok (.new 97, 3) := by decide +kernel
theorem dX12_blast_176 : decode cX12_blast 176 = .ok (.dup, 1) := by decide +kernel
theorem dX12_blast_177 : decode cX12_blast 177 = .ok (.invokespecial 99, 3) := by decide +kernel
theorem dX12_blast_180 : decode cX12_blast 180 = .ok (.aload_n 0, 1) := by decide +kernel
theorem dX12_blast_181 : decode cX12_blast 181 = .ok (.getfield 123, 3) := by decide +kernel
theorem dX12_blast_184 : decode cX12_blast 184 = .ok (.invokevirtual 102, 3) := by decide +kernel
theorem dX12_blast_187 : decode cX12_blast 187 = .ok (.ldc 109, 2) := by decide +kernel
theorem dX12_blast_189 : decode cX12_blast 189 = .ok (.invokevirtual 102, 3) := by decide +kernel
theorem dX12_blast_192 : decode cX12_blast 192 = .ok (.aload_n 0, 1) := by decide +kernel
theorem dX12_blast_193 : decode cX12_blast 193 = .ok (.getfield 57, 3) := by decide +kernel
theorem dX12_blast_196 : decode cX12_blast 196 = .ok (.iload_n 2, 1) := by decide +kernel
theorem dX12_blast_197 : decode cX12_blast 197 = .ok (.aaload, 1) := by decide +kernel
theorem dX12_blast_198 : decode cX12_blast 198 = .ok (.iload_n 3, 1) := by decide +kernel
theorem dX12_blast_199 : decode cX12_blast 199 = .ok (.iaload, 1) := by decide +kernel
theorem dX12_blast_200 : decode cX12_blast 200 = .ok (.invokevirtual 106, 3) := by decide +kernel
theorem dX12_blast_203 : decode cX12_blast 203 = .ok (.ldc 147, 2) := by decide +kernel
theorem dX12_blast_205 : decode cX12_blast 205 = .ok (.invokevirtual 102, 3) := by decide +kernel
theorem dX12_blast_208 : decode cX12_blast 208 = .ok (.aload_n 0, 1) := by decide +kernel
theorem dX12_blast_209 : decode cX12_blast 209 = .ok (.getfield 60, 3) := by decide +kernel
theorem dX12_blast_212 : decode cX12_blast 212 = .ok (.iload_n 2, 1) := by decide +kernel
theorem dX12_blast_213 : decode cX12_blast 213 = .ok (.aaload, 1) := by decide +kernel
theorem dX12_blast_214 : decode cX12_blast 214 = .ok (.iload_n 3, 1) := by decide +kernel
theorem dX12_blast_215 : decode cX12_blast 215 = .ok (.iaload, 1) := by decide +kernel
theorem dX12_blast_216 : decode cX12_blast 216 = .ok (.invokevirtual 106, 3) := by decide +kernel
theorem dX12_blast_219 : decode cX12_blast 219 = .ok (.invokevirtual 119, 3) := by decide +kernel
theorem dX12_blast_222 : decode cX12_blast 222 = .ok (.putfield 123, 3) := by decide +kernel
theorem dX12_blast_225 : decode cX12_blast 225 = .ok (.iinc 3 1, 3) := by decide +kernel
theorem dX12_blast_228 : decode cX12_blast 228 = .ok (.goto (-97), 3) := by decide +kernel
theorem dX12_blast_0 : decode cX12_blast 0 = .ok (.aload_n 0, 1) := by decide +kernel
theorem dX12_blast_1 : decode cX12_blast 1 = .ok (.getfield 37, 3) := by decide +kernel
theorem dX12_blast_4 : decode cX12_blast 4 = .ok (.iload_n 2, 1) := by decide +kernel
theorem dX12_blast_5 : decode cX12_blast 5 = .ok (.aload_n 1, 1) := by decide +kernel
theorem dX12_blast_6 : decode cX12_blast 6 = .ok (.sipush 300, 3) := by decide +kernel
theorem dX12_blast_9 : decode cX12_blast 9 = .ok (.invokevirtual 63, 3) := by decide +kernel
theorem dX12_blast_12 : decode cX12_blast 12 = .ok (.iastore, 1) := by decide +kernel
theorem dX12_blast_13 : decode cX12_blast 13 = .ok (.aload_n 0, 1) := by decide +kernel
theorem dX12_blast_14 : decode cX12_blast 14 = .ok (.getfield 40, 3) := by decide +kernel
theorem dX12_blast_17 : decode cX12_blast 17 = .ok (.iload_n 2, 1) := by decide +kernel
theorem dX12_blast_18 : decode cX12_blast 18 = .ok (.aload_n 1, 1) := by decide +kernel
theorem dX12_blast_19 : decode cX12_blast 19 = .ok (.sipush 300, 3) := by decide +kernel
theorem dX12_blast_22 : decode cX12_blast 22 = .ok (.invokevirtual 63, 3) := by decide +kernel
theorem dX12_blast_25 : decode cX12_blast 25 = .ok (.iastore, 1) := by decide +kernel
theorem dX12_blast_26 : decode cX12_blast 26 = .ok (.aload_n 0, 1) := by decide +kernel
theorem dX12_blast_27 : decode cX12_blast 27 = .ok (.getfield 43, 3) := by decide +kernel
theorem dX12_blast_30 : decode cX12_blast 30 = .ok (.iload_n 2, 1) := by decide +kernel
theorem dX12_blast_31 : decode cX12_blast 31 = .ok (.iconst 1, 1) := by decide +kernel
theorem dX12_blast_32 : decode cX12_blast 32 = .ok (.aload_n 1, 1) := by decide +kernel
theorem dX12_blast_33 : decode cX12_blast 33 = .ok (.bipush 120, 2) := by decide +kernel
theorem dX12_blast_35 : decode cX12_blast 35 = .ok (.invokevirtual 63, 3) := by decide +kernel
theorem dX12_blast_38 : decode cX12_blast 38 = .ok (.iadd, 1) := by decide +kernel
theorem dX12_blast_39 : decode cX12_blast 39 = .ok (.iastore, 1) := by decide +kernel
theorem dX12_blast_40 : decode cX12_blast 40 = .ok (.aload_n 0, 1) := by decide +kernel
theorem dX12_blast_41 : decode cX12_blast 41 = .ok (.getfield 46, 3) := by decide +kernel
theorem dX12_blast_44 : decode cX12_blast 44 = .ok (.iload_n 2, 1) := by decide +kernel
theorem dX12_blast_45 : decode cX12_blast 45 = .ok (.iconst 1, 1) := by decide +kernel
theorem dX12_blast_46 : decode cX12_blast 46 = .ok (.aload_n 1, 1) := by decide +kernel
theorem dX12_blast_47 : decode cX12_blast 47 = .ok (.iconst 4, 1) := by decide +kernel
theorem dX12_blast_48 : decode cX12_blast 48 = .ok (.invokevirtual 63, 3) := by decide +kernel
theorem dX12_blast_51 : decode cX12_blast 51 = .ok (.iadd, 1) := by decide +kernel
theorem dX12_blast_52 : decode cX12_blast 52 = .ok (.iastore, 1) := by decide +kernel
theorem dX12_blast_53 : decode cX12_blast 53 = .ok (.aload_n 0, 1) := by decide +kernel
theorem dX12_blast_54 : decode cX12_blast 54 = .ok (.new 97, 3) := by decide +kernel
theorem dX12_blast_57 : decode cX12_blast 57 = .ok (.dup, 1) := by decide +kernel
theorem dX12_blast_58 : decode cX12_blast 58 = .ok (.invokespecial 99, 3) := by decide +kernel
theorem dX12_blast_61 : decode cX12_blast 61 = .ok (.aload_n 0, 1) := by decide +kernel
theorem dX12_blast_62 : decode cX12_blast 62 = .ok (.getfield 123, 3) := by decide +kernel
theorem dX12_blast_65 : decode cX12_blast 65 = .ok (.invokevirtual 102, 3) := by decide +kernel
theorem dX12_blast_68 : decode cX12_blast 68 = .ok (.ldc 145, 2) := by decide +kernel
theorem dX12_blast_70 : decode cX12_blast 70 = .ok (.invokevirtual 102, 3) := by decide +kernel
theorem dX12_blast_73 : decode cX12_blast 73 = .ok (.bipush 98, 2) := by decide +kernel
theorem dX12_blast_75 : decode cX12_blast 75 = .ok (.iload_n 2, 1) := by decide +kernel
theorem dX12_blast_76 : decode cX12_blast 76 = .ok (.iadd, 1) := by decide +kernel
theorem dX12_blast_77 : decode cX12_blast 77 = .ok (.i2c, 1) := by decide +kernel
theorem dX12_blast_78 : decode cX12_blast 78 = .ok (.invokevirtual 135, 3) := by decide +kernel
theorem dX12_blast_81 : decode cX12_blast 81 = .ok (.ldc 109, 2) := by decide +kernel
theorem dX12_blast_83 : decode cX12_blast 83 = .ok (.invokevirtual 102, 3) := by decide +kernel
theorem dX12_blast_86 : decode cX12_blast 86 = .ok (.aload_n 0, 1) := by decide +kernel
theorem dX12_blast_87 : decode cX12_blast 87 = .ok (.getfield 37, 3) := by decide +kernel
theorem dX12_blast_90 : decode cX12_blast 90 = .ok (.iload_n 2, 1) := by decide +kernel
theorem dX12_blast_91 : decode cX12_blast 91 = .ok (.iaload, 1) := by decide +kernel
theorem dX12_blast_92 : decode cX12_blast 92 = .ok (.invokevirtual 106, 3) := by decide +kernel
theorem dX12_blast_95 : decode cX12_blast 95 = .ok (.ldc 109, 2) := by decide +kernel
theorem dX12_blast_97 : decode cX12_blast 97 = .ok (.invokevirtual 102, 3) := by decide +kernel
theorem dX12_blast_100 : decode cX12_blast 100 = .ok (.aload_n 0, 1) := by decide +kernel
theorem dX12_blast_101 : decode cX12_blast 101 = .ok (.getfield 40, 3) := by decide +kernel
theorem dX12_blast_104 : decode cX12_blast 104 = .ok (.iload_n 2, 1) := by decide +kernel
theorem dX12_blast_105 : decode cX12_blast 105 = .ok (.iaload, 1) := by decide +kernel
theorem dX12_blast_106 : decode cX12_blast 106 = .ok (.invokevirtual 106, 3) := by decide +kernel
theorem dX12_blast_109 : decode cX12_blast 109 = .ok (.ldc 109, 2) := by decide +kernel
theorem dX12_blast_111 : decode cX12_blast 111 = .ok (.invokevirtual 102, 3) := by decide +kernel
theorem dX12_blast_114 : decode cX12_blast 114 = .ok (.aload_n 0, 1) := by decide +kernel
theorem dX12_blast_115 : decode cX12_blast 115 = .ok (.getfield 43, 3) := by decide +kernel
theorem dX12_blast_118 : decode cX12_blast 118 = .ok (.iload_n 2, 1) := by decide +kernel
theorem dX12_blast_119 : decode cX12_blast 119 = .ok (.iaload, 1) := by decide +kernel
theorem dX12_blast_120 : decode cX12_blast 120 = .ok (.invokevirtual 106, 3) := by decide +kernel
theorem dX12_blast_123 : decode cX12_blast 123 = .ok (.invokevirtual 119, 3) := by decide +kernel
theorem dX12_blast_126 : decode cX12_blast 126 = .ok (.putfield 123, 3) := by decide +kernel
theorem dX12_blast_129 : decode cX12_blast 129 = .ok (.iconst 0, 1) := by decide +kernel
theorem dX12_blast_130 : decode cX12_blast 130 = .ok (.istore_n 3, 1) := by decide +kernel
theorem dX12_blast_231 : decode cX12_blast 231 = .ok (.aload_n 0, 1) := by decide +kernel
theorem dX12_blast_232 : decode cX12_blast 232 = .ok (.new 97, 3) := by decide +kernel
theorem dX12_blast_235 : decode cX12_blast 235 = .ok (.dup, 1) := by decide +kernel
theorem dX12_blast_236 : decode cX12_blast 236 = .ok (.invokespecial 99, 3) := by decide +kernel
theorem dX12_blast_239 : decode cX12_blast 239 = .ok (.aload_n 0, 1) := by decide +kernel
theorem dX12_blast_240 : decode cX12_blast 240 = .ok (.getfield 123, 3) := by decide +kernel
theorem dX12_blast_243 : decode cX12_blast 243 = .ok (.invokevirtual 102, 3) := by decide +kernel
theorem dX12_blast_246 : decode cX12_blast 246 = .ok (.ldc 117, 2) := by decide +kernel
theorem dX12_blast_248 : decode cX12_blast 248 = .ok (.invokevirtual 102, 3) := by decide +kernel
theorem dX12_blast_251 : decode cX12_blast 251 = .ok (.invokevirtual 119, 3) := by decide +kernel
theorem dX12_blast_254 : decode cX12_blast 254 = .ok (.putfield 123, 3) := by decide +kernel
theorem dX12_blast_257 : decode cX12_blast 257 = .ok (.return_, 1) := by decide +kernel
theorem prC_len : ∀ (cs : List (Nat × Nat)), (∀ c ∈ cs, ChOk c) → (prC cs).length ≤ 10 * cs.length
  | [], _ => Nat.le_refl 0
  | c :: cs, h => by
    have ih := prC_len cs (fun x hx => h x (List.mem_cons_of_mem _ hx))
    obtain ⟨h1, h2, h3⟩ := h c List.mem_cons_self
    have e : prC (c :: cs) = kwL 11 ++ (dec c.1 ++ (kwL 21 ++ (dec c.2 ++ prC cs))) := rfl
    rw [e]
    simp only [List.length_append, List.length_cons, dec_len]
    have := dgS (v := c.1) (by omega)
    have := dgT (v := c.2) (by omega)
    have : (kwL 11).length = 1 := rfl
    have : (kwL 21).length = 4 := rfl
    omega
theorem prC_asc : ∀ (cs : List (Nat × Nat)), (∀ c ∈ cs, ChOk c) → Asc (prC cs)
  | [], _ => Asc.nil
  | c :: cs, h => by
    have ih := prC_asc cs (fun x hx => h x (List.mem_cons_of_mem _ hx))
    obtain ⟨h1, h2, h3⟩ := h c List.mem_cons_self
    exact (Asc.kw (by decide)).app ((Asc.dec (by omega)).app ((Asc.kw (by decide)).app ((Asc.dec (by omega)).app ih)))
section VBL
variable {l : Launch} {g : GL} {p : Program} {e : Jvm.Env} {R0 : Room} {s : State} {m : MethodId} {args : Array Value} {below : List Frame} {meth : Method} {c : Code} {Q : State → Prop} {L : Nat → Nat → Int64}
set_option maxHeartbeats 4000000 in
set_option maxRecDepth 100000 in
theorem n_blastL (C : Cx l g p s m meth c cX12_blast 4 RX12) (hg : gZ g = 1) {k cells2 slots2 : Nat} (hk2 : k < 3) (hRf : 8 ≤ R0.frames) (hRl : 512 ≤ R0.locals) (hRc : cells2 ≤ R0.cells) (hRs : slots2 ≤ R0.slots) : ∀ (n i cells slots : Nat) (σ : SI) (R : Nat → Nat → Nat) (a v : Nat) (t : List Nat) (H : Heap) (locs : List Loc) (ls : Array Slot), S2 g s σ R L H locs → RDr R → ShR R → TL g R a v → Asc t → TXt g a v t H → lv_has ls 4 [(3, .int (nI i)), (0, .ref (ga g 178)), (1, .ref (ga g 202)), (2, .int (nI k))] → i + n ≤ 4 → σ 191 k = nI (i + n) → t.length + 10 * n ≤ 470 → cells + n * 9 ≤ cells2 → slots + n * 6084 ≤ slots2 →
    (∀ (σ' : SI) (R' : Nat → Nat → Nat) (a' v' : Nat) (t' : List Nat) (cs : List (Nat × Nat)) (H' : Heap) (locs' : List Loc) (ls' : Array Slot), S2 g s σ' R' L H' locs' → RDr R' → ShR R' → TL g R' a' v' → Asc t' → TXt g a' v' t' H' → lv_has ls' 4 [(3, .int (nI (i + n))), (0, .ref (ga g 178)), (1, .ref (ga g 202)), (2, .int (nI k))] → cs.length = n → (∀ c ∈ cs, ChOk c) → t' = t ++ prC cs → (∀ j, j < n → σ' (195 + k) (i + j) = nI (cs.getD j (0, 0)).1 ∧ σ' (199 + k) (i + j) = nI (cs.getD j (0, 0)).2) → (∀ o j, o ≠ 202 → ¬ ((o = 195 + k ∨ o = 199 + k) ∧ i ≤ j) → σ' o j = σ o j) → W p l e R0 s m args below meth c H' locs' cells2 slots2 Q (F0 m 231 ls' [])) → W p l e R0 s m args below meth c H locs cells slots Q (F0 m 131 ls []) := by
  have hx := C.1
  have hb := C.2.1
  intro n
  induction n with
  | zero =>
    intro i cells slots σ R a v t H locs ls S hRD hSh hTL hA hT hl hi h191 ht hcl hsl kk
    refine lv_iload_n hx hb dX12_blast_131 rfl (lv_at hl 0 rfl) ?_
    refine lv_aload_n hx hb dX12_blast_132 rfl (lv_at hl 1 rfl) ?_
    refine d_getA C S 21 191 (by decide) rfl rfl (hRD.1 12 (by decide)) (by decide) fl_RX12_46 dX12_blast_133 ?_
    refine lv_iload_n hx hb dX12_blast_136 rfl (lv_at hl 3 rfl) ?_
    refine d_iald (k := k) (len := 3) C S (by decide) (⟨by decide +kernel, by decide, by decide⟩ : Ok 202 191 10003) (by omega) (show σ 191 k = nI (i + 0) from by rw [h191]) dX12_blast_137 ?_
    refine lv_icmp_ge (tgt := 231) hx hb dX12_blast_138 (by decide) (fun _ => ?_) (fun c => absurd (nI_le (by omega) (by omega)) c)
    refine W.widen (k := cells2) (n := slots2) (by omega) (by omega) ?_
    exact kk σ R a v t [] H locs ls S hRD hSh hTL hA hT hl rfl (fun c hc => by cases hc) (by rw [show prC [] = ([] : List Nat) from rfl, List.append_nil]) (fun j hj => absurd hj (Nat.not_lt_zero j)) (fun o j _ _ => rfl)
  | succ n ih =>
    intro i cells slots σ R a v t H locs ls S hRD hSh hTL hA hT hl hi h191 ht hcl hsl kk
    refine lv_iload_n hx hb dX12_blast_131 rfl (lv_at hl 0 rfl) ?_
    refine lv_aload_n hx hb dX12_blast_132 rfl (lv_at hl 1 rfl) ?_
    refine d_getA C S 21 191 (by decide) rfl rfl (hRD.1 12 (by decide)) (by decide) fl_RX12_46 dX12_blast_133 ?_
    refine lv_iload_n hx hb dX12_blast_136 rfl (lv_at hl 3 rfl) ?_
    refine d_iald (k := k) (len := 3) C S (by decide) (⟨by decide +kernel, by decide, by decide⟩ : Ok 202 191 10003) (by omega) (show σ 191 k = nI (i + (n + 1)) from by rw [h191]) dX12_blast_137 ?_
    refine lv_icmp_ge (tgt := 231) hx hb dX12_blast_138 (by decide) (fun c => absurd c (nI_ge (by omega) (by omega))) (fun _ => ?_)
    refine lv_aload_n hx hb dX12_blast_141 rfl (lv_at hl 1 rfl) ?_
    refine d_getA C S 24 194 (by decide) rfl rfl hRD.2.1 (by decide) fl_RX12_57 dX12_blast_142 ?_
    refine lv_iload_n hx hb dX12_blast_145 rfl (lv_at hl 3 rfl) ?_
    refine d_aald (k := k) C S (⟨by decide +kernel, by decide, by decide⟩ : Ok 202 194 80003) (by omega) (hRD.2.2.2.1 k (by omega)) (by omega) (okr195 (by omega)) dX12_blast_146 ?_
    refine lv_iload_n hx hb dX12_blast_147 rfl (lv_at hl 0 rfl) ?_
    refine lv_iconst (v := nI 1) hx hb dX12_blast_148 (by decide) ?_
    refine lv_aload_n hx hb dX12_blast_149 rfl (lv_at hl 2 rfl) ?_
    refine lv_sipush (v := nI 200) hx hb dX12_blast_150 (by decide) ?_
    refine d_next (n := 200) C S hSh (by decide) (by decide) ⟨cd_X13_next, ni_RX13, ml_RX12_63, in_X13_next, sl_X13_next⟩ ⟨by omega, by omega⟩ hl.1 (Nat.le_of_ble_eq_true rfl) ⟨by omega, by omega⟩ dX12_blast_153 (fun x1 s2 H1 locs1 hx1 hf3 S hz hk => ?_)
    have hT := hT.upz hTL.2.1 hTL.2.2 hk
    refine lv_iadd hx hb dX12_blast_156 ?_
    rw [nI_add]
    refine d_iast (k := i) (len := 4) C S (by decide) (okr195 (by omega)) (by omega) dX12_blast_157 (fun s4 H1 locs1 he5 hf6 S hz hk => ?_)
    have hT := hT.upz hTL.2.1 hTL.2.2 hk
    refine lv_aload_n hx hb dX12_blast_158 rfl (lv_at hl 1 rfl) ?_
    refine d_getA C S 25 198 (by decide) rfl rfl hRD.2.2.1 (by decide) fl_RX12_60 dX12_blast_159 ?_
    refine lv_iload_n hx hb dX12_blast_162 rfl (lv_at hl 3 rfl) ?_
    refine d_aald (k := k) C S (⟨by decide +kernel, by decide, by decide⟩ : Ok 202 198 80003) (by omega) (hRD.2.2.2.2.1 k (by omega)) (by omega) (okr199 (by omega)) dX12_blast_163 ?_
    refine lv_iload_n hx hb dX12_blast_164 rfl (lv_at hl 0 rfl) ?_
    refine lv_aload_n hx hb dX12_blast_165 rfl (lv_at hl 2 rfl) ?_
    refine lv_bipush (v := nI 25) hx hb dX12_blast_166 (by decide) ?_
    refine d_next (n := 25) C S hSh (by decide) (by decide) ⟨cd_X13_next, ni_RX13, ml_RX12_63, in_X13_next, sl_X13_next⟩ ⟨by omega, by omega⟩ hl.1 (Nat.le_of_ble_eq_true rfl) ⟨by omega, by omega⟩ dX12_blast_168 (fun x7 s8 H1 locs1 hx7 hf9 S hz hk => ?_)
    have hT := hT.upz hTL.2.1 hTL.2.2 hk
    refine d_iast (k := i) (len := 4) C S (by decide) (okr199 (by omega)) (by omega) dX12_blast_171 (fun s10 H1 locs1 he11 hf12 S hz hk => ?_)
    have hT := hT.upz hTL.2.1 hTL.2.2 hk
    refine lv_aload_n hx hb dX12_blast_172 rfl (lv_at hl 1 rfl) ?_
    refine t_new C hg S (by have h1 := hT.lt; have h2 := hTL.2.1; omega) ⟨by omega, by omega⟩ hl.1 (Nat.le_of_ble_eq_true rfl) ⟨by omega, by omega⟩ dX12_blast_173 dX12_blast_176 dX12_blast_177 (fun Z H1 locs1 hZe S hZ hH hk hB => ?_)
    have haZ : a < Z := by have h1 := hT.lt; omega
    have hvZ : v < Z := by have h1 := hT.lt; omega
    have hT := hT.kept haZ hvZ hk
    refine lv_aload_n hx hb dX12_blast_180 rfl (lv_at hl 1 rfl) ?_
    refine e_getT C S hTL fl_RX12_123 dX12_blast_181 ?_
    refine t_txt C hg S hZ hH hB hT haZ hvZ hA (by simp only [List.length_nil]; omega) ⟨by omega, by omega⟩ hl.1 (Nat.le_of_ble_eq_true rfl) ⟨by omega, by omega⟩ dX12_blast_184 (fun H1 locs1 S hz hk hB => ?_)
    have hH := Nat.le_trans hH hz
    have hT := hT.kept haZ hvZ hk
    refine x_ldcs C (k := 109) (tx := " ") (ia := 11) (by decide) dX12_blast_187 ?_
    refine t_cst (i := 11) C hg S hZ hH hB (by decide) (by simp only [List.length_append, List.length_nil, List.length_cons, dec_len]; omega) ⟨by omega, by omega⟩ hl.1 (Nat.le_of_ble_eq_true rfl) ⟨by omega, by omega⟩ dX12_blast_189 (fun H1 locs1 S hz hk hB => ?_)
    have hH := Nat.le_trans hH hz
    have hT := hT.kept haZ hvZ hk
    refine lv_aload_n hx hb dX12_blast_192 rfl (lv_at hl 1 rfl) ?_
    refine d_getA C S 24 194 (by decide) rfl rfl hRD.2.1 (by decide) fl_RX12_57 dX12_blast_193 ?_
    refine lv_iload_n hx hb dX12_blast_196 rfl (lv_at hl 3 rfl) ?_
    refine d_aald (k := k) C S (⟨by decide +kernel, by decide, by decide⟩ : Ok 202 194 80003) (by omega) (hRD.2.2.2.1 k (by omega)) (by omega) (okr195 (by omega)) dX12_blast_197 ?_
    refine lv_iload_n hx hb dX12_blast_198 rfl (lv_at hl 0 rfl) ?_
    refine d_iald (k := i) (len := 4) C S (by decide) (okr195 (by omega)) (by omega) (show s10 (195 + k) i = nI (1 + x1) from by rw [hf12 (195 + k) i (by omega), hf9 (195 + k) i (by omega), he5]) dX12_blast_199 ?_
    refine t_int (n := 1 + x1) C hg S hZ hH hB (by omega) (by simp only [List.length_append, List.length_nil, List.length_cons, dec_len]; have : (kwL 11).length = 1 := rfl; omega) ⟨by omega, by omega⟩ hl.1 (Nat.le_of_ble_eq_true rfl) ⟨by omega, by omega⟩ dX12_blast_200 (fun H1 locs1 S hz hk hB => ?_)
    have hH := Nat.le_trans hH hz
    have hT := hT.kept haZ hvZ hk
    refine x_ldcs C (k := 147) (tx := " at ") (ia := 21) (by decide) dX12_blast_203 ?_
    refine t_cst (i := 21) C hg S hZ hH hB (by decide) (by simp only [List.length_append, List.length_nil, List.length_cons, dec_len]; have : (kwL 11).length = 1 := rfl; have := dg_in (1 + x1); omega) ⟨by omega, by omega⟩ hl.1 (Nat.le_of_ble_eq_true rfl) ⟨by omega, by omega⟩ dX12_blast_205 (fun H1 locs1 S hz hk hB => ?_)
    have hH := Nat.le_trans hH hz
    have hT := hT.kept haZ hvZ hk
    refine lv_aload_n hx hb dX12_blast_208 rfl (lv_at hl 1 rfl) ?_
    refine d_getA C S 25 198 (by decide) rfl rfl hRD.2.2.1 (by decide) fl_RX12_60 dX12_blast_209 ?_
    refine lv_iload_n hx hb dX12_blast_212 rfl (lv_at hl 3 rfl) ?_
    refine d_aald (k := k) C S (⟨by decide +kernel, by decide, by decide⟩ : Ok 202 198 80003) (by omega) (hRD.2.2.2.2.1 k (by omega)) (by omega) (okr199 (by omega)) dX12_blast_213 ?_
    refine lv_iload_n hx hb dX12_blast_214 rfl (lv_at hl 0 rfl) ?_
    refine d_iald (k := i) (len := 4) C S (by decide) (okr199 (by omega)) (by omega) (show s10 (199 + k) i = nI x7 from by rw [he11]) dX12_blast_215 ?_
    refine t_int (n := x7) C hg S hZ hH hB (by omega) (by simp only [List.length_append, List.length_nil, List.length_cons, dec_len]; have : (kwL 11).length = 1 := rfl; have := dg_in (1 + x1); have : (kwL 21).length = 4 := rfl; omega) ⟨by omega, by omega⟩ hl.1 (Nat.le_of_ble_eq_true rfl) ⟨by omega, by omega⟩ dX12_blast_216 (fun H1 locs1 S hz hk hB => ?_)
    have hH := Nat.le_trans hH hz
    have hT := hT.kept haZ hvZ hk
    refine t_end C hg S hZ hH hB ⟨by omega, by omega⟩ hl.1 (Nat.le_of_ble_eq_true rfl) ⟨by omega, by omega⟩ dX12_blast_219 (fun a13 v14 H1 locs1 S hz hk hT ha9 hv9 => ?_)
    refine e_put C S hRD hSh hT ha9 hv9 fl_RX12_123 dX12_blast_222 (fun R16 H1 locs1 S hRD hSh hTL hT => ?_)
    have hlen : (([] : List Nat) ++ t ++ kwL 11 ++ dec (1 + x1) ++ kwL 21 ++ dec x7).length ≤ t.length + 10 := by
      simp only [List.length_append, List.length_nil, List.length_cons, dec_len]
      have : (kwL 11).length = 1 := rfl
      have := dgS (v := 1 + x1) (by omega)
      have : (kwL 21).length = 4 := rfl
      have := dgT (v := x7) (by omega)
      omega
    have hA : Asc (([] : List Nat) ++ t ++ kwL 11 ++ dec (1 + x1) ++ kwL 21 ++ dec x7) := (((((Asc.nil.app hA).app (Asc.kw (by decide))).app (Asc.dec (by omega))).app (Asc.kw (by decide))).app (Asc.dec (by omega)))
    obtain ⟨t17, et17⟩ : ∃ x, x = ([] : List Nat) ++ t ++ kwL 11 ++ dec (1 + x1) ++ kwL 21 ++ dec x7 := ⟨_, rfl⟩
    rw [← et17] at hlen hA hT
    refine lv_iinc (v := nI (i + 1)) (lv' := [(3, .int (nI (i + 1))), (0, .ref (ga g 178)), (1, .ref (ga g 202)), (2, .int (nI k))]) hx hb dX12_blast_225 hl (k := 0) rfl (nI_1 i) (by decide) rfl (fun ls hl => ?_)
    refine lv_goto (tgt := 131) hx hb dX12_blast_228 (by decide) ?_
    refine ih (i + 1) _ _ s10 _ a13 v14 t17 _ _ ls S hRD hSh hTL hA hT hl (by omega) (by rw [show i + 1 + n = i + (n + 1) by omega]; exact (show s10 191 k = nI (i + (n + 1)) from by rw [hf12 191 k (by omega), hf9 191 k (by omega), hf6 191 k (by omega), hf3 191 k (by omega), h191])) (by omega) (by omega) (by omega) ?_
    intro σ' R' a' v' t' cs H' locs' ls' S hRD hSh hTL hA hT hl hn hc ht' hv hf
    refine kk σ' R' a' v' t' ((1 + x1, x7) :: cs) H' locs' ls' S hRD hSh hTL hA hT (by rw [show i + (n + 1) = i + 1 + n by omega]; exact hl) (by rw [List.length_cons, hn]) ?_ ?_ ?_ (fun o j ho hn => (hf o j ho (by omega)).trans (by rw [hf12 o j (by omega), hf9 o j (by omega), hf6 o j (by omega), hf3 o j (by omega)]))
    · intro c hc'
      rcases List.mem_cons.mp hc' with rfl | h
      · exact ⟨by show 1 ≤ 1 + x1; omega, by show 1 + x1 ≤ 200; omega, hx7⟩
      · exact hc c h
    · rw [ht', et17]
      simp only [prC, List.append_assoc, List.nil_append]
    · intro j hj
      match j, hj with
      | 0, _ => exact ⟨(hf (195 + k) i (by omega) (by omega)).trans (show s10 (195 + k) i = nI (1 + x1) from by rw [hf12 (195 + k) i (by omega), hf9 (195 + k) i (by omega), he5]), (hf (199 + k) i (by omega) (by omega)).trans (show s10 (199 + k) i = nI x7 from by rw [he11])⟩
      | j + 1, hj =>
        have h := hv j (by omega)
        rw [show i + (j + 1) = i + 1 + j by omega]
        exact h
end VBL
set_option maxHeartbeats 4000000 in
set_option maxRecDepth 100000 in
theorem n_blast {l : Launch} {g : GL} {σ : SI} {R : Nat → Nat → Nat} {L : Nat → Nat → Int64} {a v : Nat} {t : List Nat} {k : Nat} (hg : gZ g = 1) (hRD : RDr R) (hSh : ShR R) (hTL : TL g R a v) (hA : Asc t) (hk2 : k < 3) (ht : t.length ≤ 400) : Cdr l g 8 yX12_blast cX12_blast 4 60 40000 [.ref (ga g 178), .ref (ga g 202), .int (nI k)] σ R L a v t (fun σ' t' => ∃ d : BDt, BdOk d ∧ t' = t ++ prB k d ∧ t'.length ≤ t.length + 60 ∧ DB σ' k d ∧ ∀ o j, o ≠ 202 → ¬ ((188 ≤ o ∧ o ≤ 191) ∧ j = k) → o ≠ 195 + k → o ≠ 199 + k → σ' o j = σ o j) := by
  refine Met.ofW (cc := cX12_blast) (maxL := 4) (ret := none) (by decide) rfl ?_
  intro p e s m args below meth c s₁ B hml hv
  obtain ⟨rfl, hE, hLo, hWd, hT⟩ := hv
  have hr : meth.sig.returnType = none := B.returns
  have C : Cx l g p s m meth c cX12_blast 4 RX12 := ⟨B.exec, B.bytes, hml, findClass_of_methodNamed B.named, hE, hLo, B.notSynchronized⟩
  have S : S2 g s σ R L s.heap [] := ⟨hWd, va_S.rf⟩
  have hx := C.1
  have hb := C.2.1
  have hl := lv_entry ([.ref (ga g 178), .ref (ga g 202), .int (nI k)]) (n := 4) (Nat.le_of_ble_eq_true rfl)
  rw [lg_entry_eq]
  generalize (lg_sl ([.ref (ga g 178), .ref (ga g 202), .int (nI k)]) ++ List.replicate (4 - (lg_sl ([.ref (ga g 178), .ref (ga g 202), .int (nI k)])).length) Slot.unset).toArray = ls at hl ⊢
  have hl : lv_has ls 4 [(0, .ref (ga g 178)), (1, .ref (ga g 202)), (2, .int (nI k))] := hl
  generalize hH0 : s.heap = H at S hT ⊢
  generalize hlc : ([] : List Loc) = locs at S ⊢
  generalize hRm : (headSpec [Cond.code yX12_blast cX12_blast 4 none] (rmd 8 60 40000)).room = R0
  have hRf : R0.frames = 8 := by rw [← hRm]; rfl
  have hRl : R0.locals = 512 := by rw [← hRm]; rfl
  have hRc : R0.cells = 60 := by rw [← hRm]; rfl
  have hRs : R0.slots = 40000 := by rw [← hRm]; rfl
  refine lv_aload_n hx hb dX12_blast_0 rfl (lv_at hl 0 rfl) ?_
  refine d_getA C S 18 188 (by decide) rfl rfl (hRD.1 9 (by decide)) (by decide) fl_RX12_37 dX12_blast_1 ?_
  refine lv_iload_n hx hb dX12_blast_4 rfl (lv_at hl 2 rfl) ?_
  refine lv_aload_n hx hb dX12_blast_5 rfl (lv_at hl 1 rfl) ?_
  refine lv_sipush (v := nI 300) hx hb dX12_blast_6 (by decide) ?_
  refine d_next (n := 300) C S hSh (by decide) (by decide) ⟨cd_X13_next, ni_RX13, ml_RX12_63, in_X13_next, sl_X13_next⟩ ⟨by omega, by omega⟩ hl.1 (Nat.le_of_ble_eq_true rfl) ⟨by omega, by omega⟩ dX12_blast_9 (fun x1 s2 H1 locs1 hx1 hf3 S hz hk => ?_)
  have hT := hT.upz hTL.2.1 hTL.2.2 hk
  refine d_iast (k := k) (len := 3) C S (by decide) (⟨by decide +kernel, by decide, by decide⟩ : Ok 202 188 10003) (by omega) dX12_blast_12 (fun s4 H1 locs1 he5 hf6 S hz hk => ?_)
  have hT := hT.upz hTL.2.1 hTL.2.2 hk
  refine lv_aload_n hx hb dX12_blast_13 rfl (lv_at hl 0 rfl) ?_
  refine d_getA C S 19 189 (by decide) rfl rfl (hRD.1 10 (by decide)) (by decide) fl_RX12_40 dX12_blast_14 ?_
  refine lv_iload_n hx hb dX12_blast_17 rfl (lv_at hl 2 rfl) ?_
  refine lv_aload_n hx hb dX12_blast_18 rfl (lv_at hl 1 rfl) ?_
  refine lv_sipush (v := nI 300) hx hb dX12_blast_19 (by decide) ?_
  refine d_next (n := 300) C S hSh (by decide) (by decide) ⟨cd_X13_next, ni_RX13, ml_RX12_63, in_X13_next, sl_X13_next⟩ ⟨by omega, by omega⟩ hl.1 (Nat.le_of_ble_eq_true rfl) ⟨by omega, by omega⟩ dX12_blast_22 (fun x7 s8 H1 locs1 hx7 hf9 S hz hk => ?_)
  have hT := hT.upz hTL.2.1 hTL.2.2 hk
  refine d_iast (k := k) (len := 3) C S (by decide) (⟨by decide +kernel, by decide, by decide⟩ : Ok 202 189 10003) (by omega) dX12_blast_25 (fun s10 H1 locs1 he11 hf12 S hz hk => ?_)
  have hT := hT.upz hTL.2.1 hTL.2.2 hk
  refine lv_aload_n hx hb dX12_blast_26 rfl (lv_at hl 0 rfl) ?_
  refine d_getA C S 20 190 (by decide) rfl rfl (hRD.1 11 (by decide)) (by decide) fl_RX12_43 dX12_blast_27 ?_
  refine lv_iload_n hx hb dX12_blast_30 rfl (lv_at hl 2 rfl) ?_
  refine lv_iconst (v := nI 1) hx hb dX12_blast_31 (by decide) ?_
  refine lv_aload_n hx hb dX12_blast_32 rfl (lv_at hl 1 rfl) ?_
  refine lv_bipush (v := nI 120) hx hb dX12_blast_33 (by decide) ?_
  refine d_next (n := 120) C S hSh (by decide) (by decide) ⟨cd_X13_next, ni_RX13, ml_RX12_63, in_X13_next, sl_X13_next⟩ ⟨by omega, by omega⟩ hl.1 (Nat.le_of_ble_eq_true rfl) ⟨by omega, by omega⟩ dX12_blast_35 (fun x13 s14 H1 locs1 hx13 hf15 S hz hk => ?_)
  have hT := hT.upz hTL.2.1 hTL.2.2 hk
  refine lv_iadd hx hb dX12_blast_38 ?_
  rw [nI_add]
  refine d_iast (k := k) (len := 3) C S (by decide) (⟨by decide +kernel, by decide, by decide⟩ : Ok 202 190 10003) (by omega) dX12_blast_39 (fun s16 H1 locs1 he17 hf18 S hz hk => ?_)
  have hT := hT.upz hTL.2.1 hTL.2.2 hk
  refine lv_aload_n hx hb dX12_blast_40 rfl (lv_at hl 0 rfl) ?_
  refine d_getA C S 21 191 (by decide) rfl rfl (hRD.1 12 (by decide)) (by decide) fl_RX12_46 dX12_blast_41 ?_
  refine lv_iload_n hx hb dX12_blast_44 rfl (lv_at hl 2 rfl) ?_
  refine lv_iconst (v := nI 1) hx hb dX12_blast_45 (by decide) ?_
  refine lv_aload_n hx hb dX12_blast_46 rfl (lv_at hl 1 rfl) ?_
  refine lv_iconst (v := nI 4) hx hb dX12_blast_47 (by decide) ?_
  refine d_next (n := 4) C S hSh (by decide) (by decide) ⟨cd_X13_next, ni_RX13, ml_RX12_63, in_X13_next, sl_X13_next⟩ ⟨by omega, by omega⟩ hl.1 (Nat.le_of_ble_eq_true rfl) ⟨by omega, by omega⟩ dX12_blast_48 (fun x19 s20 H1 locs1 hx19 hf21 S hz hk => ?_)
  have hT := hT.upz hTL.2.1 hTL.2.2 hk
  refine lv_iadd hx hb dX12_blast_51 ?_
  rw [nI_add]
  refine d_iast (k := k) (len := 3) C S (by decide) (⟨by decide +kernel, by decide, by decide⟩ : Ok 202 191 10003) (by omega) dX12_blast_52 (fun s22 H1 locs1 he23 hf24 S hz hk => ?_)
  have hT := hT.upz hTL.2.1 hTL.2.2 hk
  refine lv_aload_n hx hb dX12_blast_53 rfl (lv_at hl 0 rfl) ?_
  refine t_new C hg S (by have h1 := hT.lt; have h2 := hTL.2.1; omega) ⟨by omega, by omega⟩ hl.1 (Nat.le_of_ble_eq_true rfl) ⟨by omega, by omega⟩ dX12_blast_54 dX12_blast_57 dX12_blast_58 (fun Z H1 locs1 hZe S hZ hH hk hB => ?_)
  have haZ : a < Z := by have h1 := hT.lt; omega
  have hvZ : v < Z := by have h1 := hT.lt; omega
  have hT := hT.kept haZ hvZ hk
  refine lv_aload_n hx hb dX12_blast_61 rfl (lv_at hl 0 rfl) ?_
  refine e_getT C S hTL fl_RX12_123 dX12_blast_62 ?_
  refine t_txt C hg S hZ hH hB hT haZ hvZ hA (by simp only [List.length_nil]; omega) ⟨by omega, by omega⟩ hl.1 (Nat.le_of_ble_eq_true rfl) ⟨by omega, by omega⟩ dX12_blast_65 (fun H1 locs1 S hz hk hB => ?_)
  have hH := Nat.le_trans hH hz
  have hT := hT.kept haZ hvZ hk
  refine x_ldcs C (k := 145) (tx := "blast ") (ia := 20) (by decide) dX12_blast_68 ?_
  refine t_cst (i := 20) C hg S hZ hH hB (by decide) (by simp only [List.length_append, List.length_nil, List.length_cons, dec_len]; omega) ⟨by omega, by omega⟩ hl.1 (Nat.le_of_ble_eq_true rfl) ⟨by omega, by omega⟩ dX12_blast_70 (fun H1 locs1 S hz hk hB => ?_)
  have hH := Nat.le_trans hH hz
  have hT := hT.kept haZ hvZ hk
  refine lv_bipush (v := nI 98) hx hb dX12_blast_73 (by decide) ?_
  refine lv_iload_n hx hb dX12_blast_75 rfl (lv_at hl 2 rfl) ?_
  refine lv_iadd hx hb dX12_blast_76 ?_
  rw [nI_add]
  refine lv_i2c (v := (nI (98 + k))) hx hb dX12_blast_77 (asc_ch (by omega)) ?_
  refine t_chr (n := 98 + k) C hg S hZ hH hB (by omega) (by simp only [List.length_append, List.length_nil, List.length_cons, dec_len]; have : (kwL 20).length = 6 := rfl; omega) ⟨by omega, by omega⟩ hl.1 (Nat.le_of_ble_eq_true rfl) ⟨by omega, by omega⟩ dX12_blast_78 (fun H1 locs1 S hz hk hB => ?_)
  have hH := Nat.le_trans hH hz
  have hT := hT.kept haZ hvZ hk
  refine x_ldcs C (k := 109) (tx := " ") (ia := 11) (by decide) dX12_blast_81 ?_
  refine t_cst (i := 11) C hg S hZ hH hB (by decide) (by simp only [List.length_append, List.length_nil, List.length_cons, dec_len]; have : (kwL 20).length = 6 := rfl; omega) ⟨by omega, by omega⟩ hl.1 (Nat.le_of_ble_eq_true rfl) ⟨by omega, by omega⟩ dX12_blast_83 (fun H1 locs1 S hz hk hB => ?_)
  have hH := Nat.le_trans hH hz
  have hT := hT.kept haZ hvZ hk
  refine lv_aload_n hx hb dX12_blast_86 rfl (lv_at hl 0 rfl) ?_
  refine d_getA C S 18 188 (by decide) rfl rfl (hRD.1 9 (by decide)) (by decide) fl_RX12_37 dX12_blast_87 ?_
  refine lv_iload_n hx hb dX12_blast_90 rfl (lv_at hl 2 rfl) ?_
  refine d_iald (k := k) (len := 3) C S (by decide) (⟨by decide +kernel, by decide, by decide⟩ : Ok 202 188 10003) (by omega) (show s22 188 k = nI x1 from by rw [hf24 188 k (by omega), hf21 188 k (by omega), hf18 188 k (by omega), hf15 188 k (by omega), hf12 188 k (by omega), hf9 188 k (by omega), he5]) dX12_blast_91 ?_
  refine t_int (n := x1) C hg S hZ hH hB (by omega) (by simp only [List.length_append, List.length_nil, List.length_cons, dec_len]; have : (kwL 20).length = 6 := rfl; have : (kwL 11).length = 1 := rfl; omega) ⟨by omega, by omega⟩ hl.1 (Nat.le_of_ble_eq_true rfl) ⟨by omega, by omega⟩ dX12_blast_92 (fun H1 locs1 S hz hk hB => ?_)
  have hH := Nat.le_trans hH hz
  have hT := hT.kept haZ hvZ hk
  refine x_ldcs C (k := 109) (tx := " ") (ia := 11) (by decide) dX12_blast_95 ?_
  refine t_cst (i := 11) C hg S hZ hH hB (by decide) (by simp only [List.length_append, List.length_nil, List.length_cons, dec_len]; have : (kwL 20).length = 6 := rfl; have : (kwL 11).length = 1 := rfl; have := dg_in (x1); omega) ⟨by omega, by omega⟩ hl.1 (Nat.le_of_ble_eq_true rfl) ⟨by omega, by omega⟩ dX12_blast_97 (fun H1 locs1 S hz hk hB => ?_)
  have hH := Nat.le_trans hH hz
  have hT := hT.kept haZ hvZ hk
  refine lv_aload_n hx hb dX12_blast_100 rfl (lv_at hl 0 rfl) ?_
  refine d_getA C S 19 189 (by decide) rfl rfl (hRD.1 10 (by decide)) (by decide) fl_RX12_40 dX12_blast_101 ?_
  refine lv_iload_n hx hb dX12_blast_104 rfl (lv_at hl 2 rfl) ?_
  refine d_iald (k := k) (len := 3) C S (by decide) (⟨by decide +kernel, by decide, by decide⟩ : Ok 202 189 10003) (by omega) (show s22 189 k = nI x7 from by rw [hf24 189 k (by omega), hf21 189 k (by omega), hf18 189 k (by omega), hf15 189 k (by omega), he11]) dX12_blast_105 ?_
  refine t_int (n := x7) C hg S hZ hH hB (by omega) (by simp only [List.length_append, List.length_nil, List.length_cons, dec_len]; have : (kwL 20).length = 6 := rfl; have : (kwL 11).length = 1 := rfl; have := dg_in (x1); have : (kwL 11).length = 1 := rfl; omega) ⟨by omega, by omega⟩ hl.1 (Nat.le_of_ble_eq_true rfl) ⟨by omega, by omega⟩ dX12_blast_106 (fun H1 locs1 S hz hk hB => ?_)
  have hH := Nat.le_trans hH hz
  have hT := hT.kept haZ hvZ hk
  refine x_ldcs C (k := 109) (tx := " ") (ia := 11) (by decide) dX12_blast_109 ?_
  refine t_cst (i := 11) C hg S hZ hH hB (by decide) (by simp only [List.length_append, List.length_nil, List.length_cons, dec_len]; have : (kwL 20).length = 6 := rfl; have : (kwL 11).length = 1 := rfl; have := dg_in (x1); have : (kwL 11).length = 1 := rfl; have := dg_in (x7); omega) ⟨by omega, by omega⟩ hl.1 (Nat.le_of_ble_eq_true rfl) ⟨by omega, by omega⟩ dX12_blast_111 (fun H1 locs1 S hz hk hB => ?_)
  have hH := Nat.le_trans hH hz
  have hT := hT.kept haZ hvZ hk
  refine lv_aload_n hx hb dX12_blast_114 rfl (lv_at hl 0 rfl) ?_
  refine d_getA C S 20 190 (by decide) rfl rfl (hRD.1 11 (by decide)) (by decide) fl_RX12_43 dX12_blast_115 ?_
  refine lv_iload_n hx hb dX12_blast_118 rfl (lv_at hl 2 rfl) ?_
  refine d_iald (k := k) (len := 3) C S (by decide) (⟨by decide +kernel, by decide, by decide⟩ : Ok 202 190 10003) (by omega) (show s22 190 k = nI (1 + x13) from by rw [hf24 190 k (by omega), hf21 190 k (by omega), he17]) dX12_blast_119 ?_
  refine t_int (n := 1 + x13) C hg S hZ hH hB (by omega) (by simp only [List.length_append, List.length_nil, List.length_cons, dec_len]; have : (kwL 20).length = 6 := rfl; have : (kwL 11).length = 1 := rfl; have := dg_in (x1); have : (kwL 11).length = 1 := rfl; have := dg_in (x7); have : (kwL 11).length = 1 := rfl; omega) ⟨by omega, by omega⟩ hl.1 (Nat.le_of_ble_eq_true rfl) ⟨by omega, by omega⟩ dX12_blast_120 (fun H1 locs1 S hz hk hB => ?_)
  have hH := Nat.le_trans hH hz
  have hT := hT.kept haZ hvZ hk
  refine t_end C hg S hZ hH hB ⟨by omega, by omega⟩ hl.1 (Nat.le_of_ble_eq_true rfl) ⟨by omega, by omega⟩ dX12_blast_123 (fun a25 v26 H1 locs1 S hz hk hT ha9 hv9 => ?_)
  refine e_put C S hRD hSh hT ha9 hv9 fl_RX12_123 dX12_blast_126 (fun R28 H1 locs1 S hRD hSh hTL hT => ?_)
  have hlen : (([] : List Nat) ++ t ++ kwL 20 ++ [98 + k] ++ kwL 11 ++ dec x1 ++ kwL 11 ++ dec x7 ++ kwL 11 ++ dec (1 + x13)).length ≤ t.length + 19 := by
    simp only [List.length_append, List.length_nil, List.length_cons, dec_len]
    have : (kwL 20).length = 6 := rfl
    have : (kwL 11).length = 1 := rfl
    have := dgS (v := x1) (by omega)
    have : (kwL 11).length = 1 := rfl
    have := dgS (v := x7) (by omega)
    have : (kwL 11).length = 1 := rfl
    have := dgS (v := 1 + x13) (by omega)
    omega
  have hA : Asc (([] : List Nat) ++ t ++ kwL 20 ++ [98 + k] ++ kwL 11 ++ dec x1 ++ kwL 11 ++ dec x7 ++ kwL 11 ++ dec (1 + x13)) := (((((((((Asc.nil.app hA).app (Asc.kw (by decide))).app (Asc.one (by omega))).app (Asc.kw (by decide))).app (Asc.dec (by omega))).app (Asc.kw (by decide))).app (Asc.dec (by omega))).app (Asc.kw (by decide))).app (Asc.dec (by omega)))
  obtain ⟨t29, et29⟩ : ∃ x, x = ([] : List Nat) ++ t ++ kwL 20 ++ [98 + k] ++ kwL 11 ++ dec x1 ++ kwL 11 ++ dec x7 ++ kwL 11 ++ dec (1 + x13) := ⟨_, rfl⟩
  rw [← et29] at hlen hA hT
  refine lv_iconst (v := nI 0) hx hb dX12_blast_129 (by decide) ?_
  refine lv_istore_n (lv' := [(3, .int (nI 0)), (0, .ref (ga g 178)), (1, .ref (ga g 202)), (2, .int (nI k))]) hx hb dX12_blast_130 rfl hl (by decide) rfl (fun ls hl => ?_)
  refine n_blastL C hg hk2 (by omega) (by omega) (cells2 := 49) (slots2 := 34460) (by omega) (by omega) (1 + x19) 0 _ _ s22 _ a25 v26 t29 _ _ ls S hRD hSh hTL hA hT hl (by omega) (by rw [Nat.zero_add]; exact (show s22 191 k = nI (1 + x19) from by rw [he23])) (by omega) (by omega) (by omega) ?_
  intro σ' R' a' v' t' cs H1 locs1 ls S hRD hSh hTL hA hT hl hn hc ht' hv hf
  have hlen' : t'.length ≤ t.length + 59 := by
    rw [ht', List.length_append]
    have := prC_len cs hc
    omega
  refine lv_aload_n hx hb dX12_blast_231 rfl (lv_at hl 1 rfl) ?_
  refine t_new C hg S (by have h1 := hT.lt; have h2 := hTL.2.1; omega) ⟨by omega, by omega⟩ hl.1 (Nat.le_of_ble_eq_true rfl) ⟨by omega, by omega⟩ dX12_blast_232 dX12_blast_235 dX12_blast_236 (fun Z H1 locs1 hZe S hZ hH hk hB => ?_)
  have haZ : a' < Z := by have h1 := hT.lt; omega
  have hvZ : v' < Z := by have h1 := hT.lt; omega
  have hT := hT.kept haZ hvZ hk
  refine lv_aload_n hx hb dX12_blast_239 rfl (lv_at hl 1 rfl) ?_
  refine e_getT C S hTL fl_RX12_123 dX12_blast_240 ?_
  refine t_txt C hg S hZ hH hB hT haZ hvZ hA (by simp only [List.length_nil]; omega) ⟨by omega, by omega⟩ hl.1 (Nat.le_of_ble_eq_true rfl) ⟨by omega, by omega⟩ dX12_blast_243 (fun H1 locs1 S hz hk hB => ?_)
  have hH := Nat.le_trans hH hz
  have hT := hT.kept haZ hvZ hk
  refine x_ldcs C (k := 117) (tx := ";") (ia := 15) (by decide) dX12_blast_246 ?_
  refine t_cst (i := 15) C hg S hZ hH hB (by decide) (by simp only [List.length_append, List.length_nil, List.length_cons, dec_len]; omega) ⟨by omega, by omega⟩ hl.1 (Nat.le_of_ble_eq_true rfl) ⟨by omega, by omega⟩ dX12_blast_248 (fun H1 locs1 S hz hk hB => ?_)
  have hH := Nat.le_trans hH hz
  have hT := hT.kept haZ hvZ hk
  refine t_end C hg S hZ hH hB ⟨by omega, by omega⟩ hl.1 (Nat.le_of_ble_eq_true rfl) ⟨by omega, by omega⟩ dX12_blast_251 (fun a501 v502 H1 locs1 S hz hk hT ha9 hv9 => ?_)
  refine e_put C S hRD hSh hT ha9 hv9 fl_RX12_123 dX12_blast_254 (fun R504 H1 locs1 S hRD hSh hTL hT => ?_)
  have hlen : (([] : List Nat) ++ t' ++ kwL 15).length ≤ t'.length + 1 := by
    simp only [List.length_append, List.length_nil, List.length_cons, dec_len]
    have : (kwL 15).length = 1 := rfl
    omega
  have hA : Asc (([] : List Nat) ++ t' ++ kwL 15) := ((Asc.nil.app hA).app (Asc.kw (by decide)))
  obtain ⟨t505, et505⟩ : ∃ x, x = ([] : List Nat) ++ t' ++ kwL 15 := ⟨_, rfl⟩
  rw [← et505] at hlen hA hT
  refine W.widen (k := 60) (n := 40000) (by decide) (by decide) ?_
  refine e_ret C S hr ⟨(x1, x7, 1 + x13, cs), ⟨hx1, hx7, by show 1 ≤ 1 + x13; omega, by show 1 + x13 ≤ 120; omega, by show 1 ≤ cs.length; omega, by show cs.length ≤ 4; omega, hc⟩, ?_, by omega, ⟨?_, ?_, ?_, ?_, ?_⟩, ?_⟩ hRD hSh hTL hA hT dX12_blast_257
  · rw [et505, ht', et29]
    simp only [prB, List.append_assoc, List.nil_append]
  · exact (hf 188 k (by omega) (by omega)).trans (show s22 188 k = nI x1 from by rw [hf24 188 k (by omega), hf21 188 k (by omega), hf18 188 k (by omega), hf15 188 k (by omega), hf12 188 k (by omega), hf9 188 k (by omega), he5])
  · exact (hf 189 k (by omega) (by omega)).trans (show s22 189 k = nI x7 from by rw [hf24 189 k (by omega), hf21 189 k (by omega), hf18 189 k (by omega), hf15 189 k (by omega), he11])
  · exact (hf 190 k (by omega) (by omega)).trans (show s22 190 k = nI (1 + x13) from by rw [hf24 190 k (by omega), hf21 190 k (by omega), he17])
  · show σ' 191 k = nI cs.length
    rw [hn]
    exact (hf 191 k (by omega) (by omega)).trans (show s22 191 k = nI (1 + x19) from by rw [he23])
  · intro j hj
    have h := hv j (by rw [← hn]; exact hj)
    rw [Nat.zero_add] at h
    exact h
  · intro o j ho hn1 hn2 hn3
    exact (hf o j ho (by omega)).trans (by rw [hf24 o j (by omega), hf21 o j (by omega), hf18 o j (by omega), hf15 o j (by omega), hf12 o j (by omega), hf9 o j (by omega), hf6 o j (by omega), hf3 o j (by omega)])
