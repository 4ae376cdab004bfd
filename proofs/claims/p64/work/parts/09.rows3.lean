/-! ===== texts, the wind's rows, JDK methods ===== -/
section W3
variable {l : Launch} {g : GL} {p : Program} {e : Jvm.Env} {R0 : Room} {s : State} {m : MethodId} {args : Array Value} {below : List Frame} {meth : Method} {c : Code} {H : Heap} {locs : List Loc} {cells slots : Nat} {Q : State → Prop}
variable {cc : ByteArray} {nL : Nat} {own : String} {pc n : Nat} {ls : Array Slot} {rest : List Value} {σ0 : Sg} {σ : SI} {R : Nat → Nat → Nat} {L : Nat → Nat → Int64} {index : Nat}
theorem x_env (C : Cx l g p s m meth c cc nL own) : EnvX g s s.heap := C.2.2.2.2.1.x C.2.2.2.2.2.1
theorem x_ldcs (C : Cx l g p s m meth c cc nL own) {k ia : Nat} {tx : String} (hq : (own, k, tx, ia) ∈ strTab) (hdg : decode cc pc = .ok (.ldc k, 2))
    (kk : W p l e R0 s m args below meth c H locs cells slots Q (F0 m (pc + 2) ls (.ref (gS g ia) :: rest))) : W p l e R0 s m args below meth c H locs cells slots Q (F0 m pc ls rest) :=
  va_ldcS C.1 C.2.1 C.2.2.2.1 ((x_env C).1 _ hq) hdg kk
theorem x_ldcsW (C : Cx l g p s m meth c cc nL own) {k ia : Nat} {tx : String} (hq : (own, k, tx, ia) ∈ strTab) (hdg : decode cc pc = .ok (.ldc_w k, 3))
    (kk : W p l e R0 s m args below meth c H locs cells slots Q (F0 m (pc + 3) ls (.ref (gS g ia) :: rest))) : W p l e R0 s m args below meth c H locs cells slots Q (F0 m pc ls rest) := by
  have hZ := (x_env C).1 _ hq
  intro T hT X
  obtain ⟨t, a1, b1⟩ := kk T hT X
  exact ⟨t, X.ldcStringW C.1 C.2.2.2.1 (text := tx) (a := gS g ia) hZ.1 hZ.2 (g := F0 m pc ls rest) rfl (by rw [C.2.1]; exact hdg) t a1, b1⟩
theorem x_gets900 (C : Cx l g p s m meth c cc nL RX9) (S : StL g n s σ0 H locs) (hw : Cond.fieldLink RX9 index RX9 "WIND_X" "[I" ∈ BW) (hdg : decode cc pc = .ok (.getstatic index, 3))
    (kk : W p l e R0 s m args below meth c H locs cells slots Q (F0 m (pc + 3) ls (.ref (gV g 900) :: rest))) : W p l e R0 s m args below meth c H locs cells slots Q (F0 m pc ls rest) :=
  va_gets C.1 C.2.1 (x_env C).2.2.1 S.2 C.2.2.2.1 (C.2.2.2.2.1.w hw) (fun x h => h) hdg kk
theorem x_gets901 (C : Cx l g p s m meth c cc nL RX9) (S : StL g n s σ0 H locs) (hw : Cond.fieldLink RX9 index RX9 "WIND_Y" "[I" ∈ BW) (hdg : decode cc pc = .ok (.getstatic index, 3))
    (kk : W p l e R0 s m args below meth c H locs cells slots Q (F0 m (pc + 3) ls (.ref (gV g 901) :: rest))) : W p l e R0 s m args below meth c H locs cells slots Q (F0 m pc ls rest) :=
  va_gets C.1 C.2.1 (x_env C).2.2.2.1 S.2 C.2.2.2.1 (C.2.2.2.2.1.w hw) (fun x h => h) hdg kk
theorem x_wald900 (C : Cx l g p s m meth c cc nL own) (S : StL g n s σ0 H locs) {i : Int32} (hin : vp_in i 8) (hdg : decode cc pc = .ok (.iaload, 1))
    (kk : W p l e R0 s m args below meth c H locs cells slots Q (F0 m (pc + 1) ls (.int (wxL.getD i.toNatClampNeg 0) :: rest))) : W p l e R0 s m args below meth c H locs cells slots Q (F0 m pc ls (.int i :: .ref (gV g 900) :: rest)) :=
  va_ti C.1 C.2.1 (x_env C).2.2.2.2.1 S.2 hin rfl hdg kk
theorem x_wald901 (C : Cx l g p s m meth c cc nL own) (S : StL g n s σ0 H locs) {i : Int32} (hin : vp_in i 8) (hdg : decode cc pc = .ok (.iaload, 1))
    (kk : W p l e R0 s m args below meth c H locs cells slots Q (F0 m (pc + 1) ls (.int (wyL.getD i.toNatClampNeg 0) :: rest))) : W p l e R0 s m args below meth c H locs cells slots Q (F0 m pc ls (.int i :: .ref (gV g 901) :: rest)) :=
  va_ti C.1 C.2.1 (x_env C).2.2.2.2.2.1 S.2 hin rfl hdg kk
theorem x_wlen900 (C : Cx l g p s m meth c cc nL own) (S : StL g n s σ0 H locs) (hdg : decode cc pc = .ok (.arraylength, 1))
    (kk : W p l e R0 s m args below meth c H locs cells slots Q (F0 m (pc + 1) ls (.int (Int32.ofNat 8) :: rest))) : W p l e R0 s m args below meth c H locs cells slots Q (F0 m pc ls (.ref (gV g 900) :: rest)) :=
  va_tlen C.1 C.2.1 (x_env C).2.2.2.2.1 S.2 rfl hdg kk
-- texts
theorem x_str (C : Cx l g p s m meth c cc nL own) {t : Nat} (ht : t < 22) : va_O "java/lang/String" (gS g t) (gA g) s s.heap ∧ va_OF "java/lang/String" "coder" "B" (.int 0) (gS g t) (gA g) s s.heap ∧ va_OF "java/lang/String" "value" "[B" (.ref (gV g t)) (gS g t) (gA g) s s.heap ∧ va_T .byte (gV g t) (strLen.getD t 0) (fun j => .int ((strByt.getD t []).getD j 0)) (gA g) s s.heap :=
  (x_env C).2.1.1 t ht
theorem x_scoder (C : Cx l g p s m meth c cc nL "java/lang/String") (S : StL g n s σ0 H locs) {t : Nat} (ht : t < 22) (hw : Cond.fieldLink "java/lang/String" index "java/lang/String" "coder" "B" ∈ BW) (hdg : decode cc pc = .ok (.getfield index, 3))
    (kk : W p l e R0 s m args below meth c H locs cells slots Q (F0 m (pc + 3) ls (.int 0 :: rest))) : W p l e R0 s m args below meth c H locs cells slots Q (F0 m pc ls (.ref (gS g t) :: rest)) :=
  vk_getf C.1 C.2.1 (x_str C ht).2.1 S.2 C.2.2.2.1 (C.2.2.2.2.1.w hw) (fun x h => h) hdg kk
theorem x_svalue (C : Cx l g p s m meth c cc nL "java/lang/String") (S : StL g n s σ0 H locs) {t : Nat} (ht : t < 22) (hw : Cond.fieldLink "java/lang/String" index "java/lang/String" "value" "[B" ∈ BW) (hdg : decode cc pc = .ok (.getfield index, 3))
    (kk : W p l e R0 s m args below meth c H locs cells slots Q (F0 m (pc + 3) ls (.ref (gV g t) :: rest))) : W p l e R0 s m args below meth c H locs cells slots Q (F0 m pc ls (.ref (gS g t) :: rest)) :=
  vk_getf C.1 C.2.1 (x_str C ht).2.2.1 S.2 C.2.2.2.1 (C.2.2.2.2.1.w hw) (fun x h => h) hdg kk
theorem x_slen (C : Cx l g p s m meth c cc nL own) (S : StL g n s σ0 H locs) {t : Nat} (ht : t < 22) (hdg : decode cc pc = .ok (.arraylength, 1))
    (kk : W p l e R0 s m args below meth c H locs cells slots Q (F0 m (pc + 1) ls (.int (Int32.ofNat (strLen.getD t 0)) :: rest))) : W p l e R0 s m args below meth c H locs cells slots Q (F0 m pc ls (.ref (gV g t) :: rest)) :=
  va_tlen C.1 C.2.1 (x_str C ht).2.2.2 S.2 rfl hdg kk
theorem x_sbald (C : Cx l g p s m meth c cc nL own) (S : StL g n s σ0 H locs) {t : Nat} (ht : t < 22) {i : Int32} (hin : vp_in i (strLen.getD t 0)) (hdg : decode cc pc = .ok (.baload, 1))
    (kk : W p l e R0 s m args below meth c H locs cells slots Q (F0 m (pc + 1) ls (.int ((strByt.getD t []).getD i.toNatClampNeg 0) :: rest))) : W p l e R0 s m args below meth c H locs cells slots Q (F0 m pc ls (.int i :: .ref (gV g t) :: rest)) :=
  va_tb C.1 C.2.1 (x_str C ht).2.2.2 S.2 hin rfl hdg kk
theorem x_compact (C : Cx l g p s m meth c cc nL "java/lang/String") (S : StL g n s σ0 H locs) (hw : Cond.fieldLink "java/lang/String" index "java/lang/String" "COMPACT_STRINGS" "Z" ∈ BW) (hdg : decode cc pc = .ok (.getstatic index, 3))
    (kk : W p l e R0 s m args below meth c H locs cells slots Q (F0 m (pc + 3) ls (.int 1 :: rest))) : W p l e R0 s m args below meth c H locs cells slots Q (F0 m pc ls rest) :=
  va_gets C.1 C.2.1 (x_env C).2.2.2.2.2.2.1 S.2 C.2.2.2.1 (C.2.2.2.2.1.w hw) (fun x h => h) hdg kk
theorem x_form (C : Cx l g p s m meth c cc nL "java/lang/String") (S : StL g n s σ0 H locs) (hw : Cond.fieldLink "java/lang/String" index "jdk/internal/util/Preconditions" "SIOOBE_FORMATTER" "Ljava/util/function/BiFunction;" ∈ BW) (hdg : decode cc pc = .ok (.getstatic index, 3))
    (kn : W p l e R0 s m args below meth c H locs cells slots Q (F0 m (pc + 3) ls (.null :: rest))) (kr : ∀ q : Nat, W p l e R0 s m args below meth c H locs cells slots Q (F0 m (pc + 3) ls (.ref q :: rest))) : W p l e R0 s m args below meth c H locs cells slots Q (F0 m pc ls rest) := by
  rcases (x_env C).2.2.2.2.2.2.2.1 with h | ⟨t, h⟩
  · exact va_gets C.1 C.2.1 h S.2 C.2.2.2.1 (C.2.2.2.2.1.w hw) (fun x h => h) hdg kn
  · exact va_gets C.1 C.2.1 h S.2 C.2.2.2.1 (C.2.2.2.2.1.w hw) (fun x h => h) hdg (kr t)
/-- a call whose receiver is a text -/
theorem x_callJ {mL d mc ms : Nat} {y : MethodName} {b : ByteArray} {ret : Option FieldType} {As st : List Value} {σ1 : SI} {a : Int32} (C : Cx l g p s m meth c cc nL own) (S : S2 g s σ R L H locs) {t : Nat} (ht : t < 22) (hM : Ct l g d y b mL ret 202 202 mc ms (.ref (gS g t) :: As) (mkS σ R L) (PI R L (a, σ1)))
    (hw : Cond.code y b mL ret ∈ BW ∧ Cond.initialized y.cls ∈ BW ∧ Cond.methodLink own index y ∈ BW ∧ Cond.instanceMethod y ∈ BW ∧ Cond.selects "java/lang/String" y y ∈ BW) (hy : y.cls ≠ "java/lang/invoke/MethodHandle" ∧ y.cls ≠ "java/lang/invoke/VarHandle") (hlen : (parseMethodDescriptor y.desc).map (fun d => d.parameters.length) = some As.length)
    (hroom : d + 1 ≤ R0.frames ∧ 8 + (mL + 11) + 64 * d ≤ R0.locals) (hsize : ls.size = nL) (hst : st = As.reverse ++ .ref (gS g t) :: rest) (hW : (rest.map fun v => v.category).sum ≤ 8) (hf : cells + mc ≤ R0.cells ∧ slots + ms ≤ R0.slots) (hdg : decode cc pc = .ok (.invokevirtual index, 3))
    (kk : ∀ (H1 : Heap) (locs1 : List Loc), S2 g s σ1 R L H1 locs1 → W p l e R0 s m args below meth c H1 locs1 (cells + mc) (slots + ms) Q (F0 m (pc + 3) ls (.int a :: rest))) : W p l e R0 s m args below meth c H locs cells slots Q (F0 m pc ls st) := by
  refine v_go (g0 := F0 m pc ls st) ⟨rfl, rfl⟩ (va_runV (Ts := []) ⟨C.1, C.2.1, C.2.2.1, C.2.2.2.1, fun w h => by cases h⟩ hM ⟨v_cb C hw.1 hw.2.1 hw.2.2.1 hy hlen hroom, C.2.2.2.2.1.w hw.2.2.2.1, C.2.2.2.2.1.w hw.2.2.2.2⟩ ⟨Pcc.blind, vk_recv (x_env C).2.1 ht S.2, v_pcc C S _⟩ rfl rfl hsize hst (lv_room hW) hdg hf) S (fun v σ' H1 locs1 hp hS => ?_)
  obtain ⟨rfl, rfl⟩ := hp
  exact kk H1 locs1 hS
-- throwing
theorem x_iretX {r : (Int32 ⊕ Nat) × SI} {mc ms : Nat} (C : Cx l g p s m meth c cc nL own) (S : S2 g s σ R L H locs) (hr : meth.sig.returnType = some .int) (h1 : cells ≤ mc) (h2 : slots ≤ ms) {v : Int32} (hp : some (.inl v, σ) = some r) (hdg : decode cc pc = .ok (.ireturn, 1)) : W p l e R0 s m args below meth c H locs cells slots (vx_MQ below (Qg g 202 (PIX R L r)) (Xg g 202 (PX R L r)) args s mc ms (gA g)) (F0 m pc ls [.int v]) :=
  vx_ret (W.widen h1 h2 (v_iret C S hr (by cases hp; exact ⟨_, rfl, rfl, rfl⟩) hdg))
theorem x_zretX {r : (Int32 ⊕ Nat) × SI} {mc ms : Nat} (C : Cx l g p s m meth c cc nL own) (S : S2 g s σ R L H locs) (hr : meth.sig.returnType = some .boolean) (h1 : cells ≤ mc) (h2 : slots ≤ ms) {v : Int32} (hv : v = 0 ∨ v = 1) (hp : some (.inl v, σ) = some r) (hdg : decode cc pc = .ok (.ireturn, 1)) : W p l e R0 s m args below meth c H locs cells slots (vx_MQ below (Qg g 202 (PIX R L r)) (Xg g 202 (PX R L r)) args s mc ms (gA g)) (F0 m pc ls [.int v]) :=
  vx_ret (W.widen h1 h2 (v_zret C S hr hv (by cases hp; exact ⟨_, rfl, rfl, rfl⟩) hdg))
theorem x_vretX {r : (Unit ⊕ Nat) × SI} {mc ms : Nat} (C : Cx l g p s m meth c cc nL own) (S : S2 g s σ R L H locs) (hr : meth.sig.returnType = none) (h1 : cells ≤ mc) (h2 : slots ≤ ms) (hp : some (.inl (), σ) = some r) (hdg : decode cc pc = .ok (.return_, 1)) : W p l e R0 s m args below meth c H locs cells slots (vx_MQ below (Qg g 202 (PVX R L r)) (Xg g 202 (PX R L r)) args s mc ms (gA g)) (F0 m pc ls []) :=
  vx_ret (W.widen h1 h2 (v_vret C S hr (by cases hp; exact ⟨_, rfl, rfl, rfl⟩) hdg))
theorem x_aretX {r : (Nat ⊕ Nat) × SI} {mc ms d id : Nat} {C9 : String} (C : Cx l g p s m meth c cc nL own) (S : S2 g s σ R L H locs) (hr : meth.sig.returnType = some (.object C9)) (h1 : cells ≤ mc) (h2 : slots ≤ ms) (hid : Ok 202 id d) (hp : some (.inl id, σ) = some r) (hdg : decode cc pc = .ok (.areturn, 1)) : W p l e R0 s m args below meth c H locs cells slots (vx_MQ below (Qg g 202 (PRX g d R L r)) (Xg g 202 (PX R L r)) args s mc ms (gA g)) (F0 m pc ls [.ref (ga g id)]) :=
  vx_ret (W.widen h1 h2 (v_aret C S hr (by cases hp; exact ⟨_, rfl, rfl, rfl, hid⟩) hdg))
variable {mL d mc ms mc0 ms0 kc id : Nat} {y : MethodName} {b : ByteArray} {ret : Option FieldType} {As st : List Value} {σ1 : SI} {Cn : String} {T : u_T} {N : Nat} {ty0 : Nat → FieldType} {α : Type} {post0 : Option Value → Sg → Prop} {r0 : (α ⊕ Nat) × SI}
/-- a call that came back -/
theorem x_callX {β : Type} {a : β} {post : Option Value → Sg → Prop} (C : Cx l g p s m meth c cc nL own) (S : S2 g s σ R L H locs) (K : KC kc Cn T N ty0) (hid : Ok 202 id kc) (hM : CtX l g d y b mL ret 202 202 mc ms (.ref (ga g id) :: As) (mkS σ R L) post (PX R L ((.inl a, σ1) : (β ⊕ Nat) × SI)))
    (hw : Cond.code y b mL ret ∈ BW ∧ Cond.initialized y.cls ∈ BW ∧ Cond.methodLink own index y ∈ BW ∧ Cond.instanceMethod y ∈ BW ∧ Cond.selects Cn y y ∈ BW) (hy : y.cls ≠ "java/lang/invoke/MethodHandle" ∧ y.cls ≠ "java/lang/invoke/VarHandle") (hlen : (parseMethodDescriptor y.desc).map (fun d => d.parameters.length) = some As.length)
    (hroom : d + 1 ≤ R0.frames ∧ 8 + (mL + 11) + 64 * d ≤ R0.locals) (hsize : ls.size = nL) (hst : st = As.reverse ++ .ref (ga g id) :: rest) (hW : (rest.map fun v => v.category).sum ≤ 8) (hf : cells + mc ≤ R0.cells ∧ slots + ms ≤ R0.slots) (hdg : decode cc pc = .ok (.invokevirtual index, 3))
    (hT : ∀ x ∈ c.exceptionTable.toList, False) (hc0 : cells + mc ≤ mc0 ∧ slots + ms ≤ ms0)
    (kk : ∀ (v : Option Value) (σ' : Sg) (H1 : Heap) (locs1 : List Loc), post v σ' → StL g 202 s σ' H1 locs1 → W p l e R0 s m args below meth c H1 locs1 (cells + mc) (slots + ms) (vx_MQ below (Qg g 202 post0) (Xg g 202 (PX R L r0)) args s mc0 ms0 (gA g)) (F0 m (pc + 3) ls (v.toList ++ rest))) : W p l e R0 s m args below meth c H locs cells slots (vx_MQ below (Qg g 202 post0) (Xg g 202 (PX R L r0)) args s mc0 ms0 (gA g)) (F0 m pc ls st) :=
  v_callVX C S hid K.1 K.2.2.2.2 hM hw hy hlen hroom hsize hst hW hf hdg (fun x hx => (hT x hx).elim) (fun E σ' h => by obtain ⟨k, hk, -⟩ := h; cases hk) hc0.1 hc0.2 kk
/-- a call that threw -/
theorem x_callXX {β : Type} {q : Nat} {post : Option Value → Sg → Prop} (C : Cx l g p s m meth c cc nL own) (S : S2 g s σ R L H locs) (K : KC kc Cn T N ty0) (hid : Ok 202 id kc) (hM : CtX l g d y b mL ret 202 202 mc ms (.ref (ga g id) :: As) (mkS σ R L) post (PX R L ((.inr q, σ1) : (β ⊕ Nat) × SI))) (hpost : ∀ v σ', ¬ post v σ')
    (hw : Cond.code y b mL ret ∈ BW ∧ Cond.initialized y.cls ∈ BW ∧ Cond.methodLink own index y ∈ BW ∧ Cond.instanceMethod y ∈ BW ∧ Cond.selects Cn y y ∈ BW) (hy : y.cls ≠ "java/lang/invoke/MethodHandle" ∧ y.cls ≠ "java/lang/invoke/VarHandle") (hlen : (parseMethodDescriptor y.desc).map (fun d => d.parameters.length) = some As.length)
    (hroom : d + 1 ≤ R0.frames ∧ 8 + (mL + 11) + 64 * d ≤ R0.locals) (hsize : ls.size = nL) (hst : st = As.reverse ++ .ref (ga g id) :: rest) (hW : (rest.map fun v => v.category).sum ≤ 8) (hf : cells + mc ≤ R0.cells ∧ slots + ms ≤ R0.slots) (hdg : decode cc pc = .ok (.invokevirtual index, 3))
    (hT : ∀ x ∈ c.exceptionTable.toList, False) (hc0 : cells + mc ≤ mc0 ∧ slots + ms ≤ ms0) (hr : r0 = (.inr q, σ1)) : W p l e R0 s m args below meth c H locs cells slots (vx_MQ below (Qg g 202 post0) (Xg g 202 (PX R L r0)) args s mc0 ms0 (gA g)) (F0 m pc ls st) :=
  v_callVX C S hid K.1 K.2.2.2.2 hM hw hy hlen hroom hsize hst hW hf hdg (fun x hx => (hT x hx).elim) (fun E σ' h => by obtain ⟨k, hk, hE, hσ⟩ := h; cases hk; exact ⟨q, by rw [hr], hE, by rw [hr]; exact hσ⟩) hc0.1 hc0.2 (fun v σ' H1 locs1 hp _ => (hpost v σ' hp).elim)
theorem n_PIX {q : Nat} (v : Option Value) (σ' : Sg) : ¬ PIX R L (.inr q, σ1) v σ' := fun h => by obtain ⟨k, hk, -⟩ := h; cases hk
theorem n_PVX {q : Nat} (v : Option Value) (σ' : Sg) : ¬ PVX R L (.inr q, σ1) v σ' := fun h => by obtain ⟨k, hk, -⟩ := h; cases hk
theorem n_PRX {q d : Nat} (v : Option Value) (σ' : Sg) : ¬ PRX g d R L (.inr q, σ1) v σ' := fun h => by obtain ⟨k, hk, -⟩ := h; cases hk
/-- throw new E("text") -/
theorem x_throwW {cls text : String} {ik is ic ia q : Nat} (C : Cx l g p s m meth c cc nL own) (S : S2 g s σ R L H locs) (hcls : Bundle.fit cls = true)
    (hk : Cond.classLink own ik cls ∈ BW) (hini : Cond.initialized cls ∈ BW) (hstr : (own, is, text, ia) ∈ strTab) (hat : (∀ w ∈ vx_atS own ic cls ["java/lang/RuntimeException", "java/lang/Exception"], w ∈ BW) ∧ ∀ w ∈ Cond.classLink own ik cls :: Cond.initialized cls :: vx_atS own ic cls ["java/lang/RuntimeException", "java/lang/Exception"], vx_ot w = true) (hsize : ls.size = nL)
    (d0 : decode cc pc = .ok (.new ik, 3)) (d3 : decode cc (pc + 3) = .ok (.dup, 1)) (d4 : decode cc (pc + 4) = .ok (.ldc_w is, 3)) (d7 : decode cc (pc + 7) = .ok (.invokespecial ic, 3)) (d10 : decode cc (pc + 10) = .ok (.athrow, 1))
    (hT : ∀ x ∈ c.exceptionTable.toList, False) (hRf : 5 < R0.frames) (hRl : (rest.map fun v => v.category).sum + 82 ≤ R0.locals) (hRc : cells + 1 ≤ R0.cells) (hRs : slots + 6 ≤ R0.slots) (hc0 : cells + 1 ≤ mc0) (hs0 : slots + 6 ≤ ms0) (hq : exN q = cls) (hr : some ((.inr q, σ) : (α ⊕ Nat) × SI) = some r0) :
    W p l e R0 s m args below meth c H locs cells slots (vx_MQ below (Qg g 202 post0) (Xg g 202 (PX R L r0)) args s mc0 ms0 (gA g)) (F0 m pc ls rest) :=
  v_throwW C S hcls (by decide) hk hini hstr hat.1 hat.2 hsize d0 d3 d4 d7 d10 (fun x hx => (hT x hx).elim) hRf hRl hRc hRs hc0 hs0 (by cases hr; exact ⟨q, rfl, hq.symm, rfl⟩)
end W3
theorem rm_ok {Dc mL D mc ms : Nat} (h1 : Dc + 1 ≤ D) (h2 : mL ≤ 45) : Dc + 1 ≤ (rmd D mc ms).frames ∧ 8 + (mL + 11) + 64 * Dc ≤ (rmd D mc ms).locals := ⟨h1, by show 8 + (mL + 11) + 64 * Dc ≤ 64 * D; omega⟩
