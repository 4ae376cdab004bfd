/-! ===== calls of methods that may throw, by their answers ===== -/
section W4
variable {l : Launch} {g : GL} {p : Program} {e : Jvm.Env} {R0 : Room} {s : State} {m : MethodId} {args : Array Value} {below : List Frame} {meth : Method} {c : Code} {H : Heap} {locs : List Loc} {cells slots : Nat}
variable {cc : ByteArray} {nL : Nat} {own : String} {pc : Nat} {ls : Array Slot} {rest : List Value} {σ : SI} {R : Nat → Nat → Nat} {L : Nat → Nat → Int64} {index : Nat}
variable {mL d mc ms mc0 ms0 kc id : Nat} {y : MethodName} {b : ByteArray} {ret : Option FieldType} {As st : List Value} {σ1 : SI} {Cn : String} {T : u_T} {N : Nat} {ty0 : Nat → FieldType} {α : Type} {post0 : Option Value → Sg → Prop} {r0 : (α ⊕ Nat) × SI}
theorem x_callXI {a : Int32} (C : Cx l g p s m meth c cc nL own) (S : S2 g s σ R L H locs) (K : KC kc Cn T N ty0) (hid : Ok 202 id kc) (hM : CtX l g d y b mL ret 202 202 mc ms (.ref (ga g id) :: As) (mkS σ R L) (PIX R L (.inl a, σ1)) (PX R L ((.inl a, σ1) : (Int32 ⊕ Nat) × SI)))
    (hw : Cond.code y b mL ret ∈ BW ∧ Cond.initialized y.cls ∈ BW ∧ Cond.methodLink own index y ∈ BW ∧ Cond.instanceMethod y ∈ BW ∧ Cond.selects Cn y y ∈ BW) (hy : y.cls ≠ "java/lang/invoke/MethodHandle" ∧ y.cls ≠ "java/lang/invoke/VarHandle") (hlen : (parseMethodDescriptor y.desc).map (fun d => d.parameters.length) = some As.length)
    (hroom : d + 1 ≤ R0.frames ∧ 8 + (mL + 11) + 64 * d ≤ R0.locals) (hsize : ls.size = nL) (hst : st = As.reverse ++ .ref (ga g id) :: rest) (hW : (rest.map fun v => v.category).sum ≤ 8) (hf : cells + mc ≤ R0.cells ∧ slots + ms ≤ R0.slots) (hdg : decode cc pc = .ok (.invokevirtual index, 3))
    (hT : ∀ x ∈ c.exceptionTable.toList, False) (hc0 : cells + mc ≤ mc0 ∧ slots + ms ≤ ms0)
    (kk : ∀ (H1 : Heap) (locs1 : List Loc), S2 g s σ1 R L H1 locs1 → W p l e R0 s m args below meth c H1 locs1 (cells + mc) (slots + ms) (vx_MQ below (Qg g 202 post0) (Xg g 202 (PX R L r0)) args s mc0 ms0 (gA g)) (F0 m (pc + 3) ls (.int a :: rest))) : W p l e R0 s m args below meth c H locs cells slots (vx_MQ below (Qg g 202 post0) (Xg g 202 (PX R L r0)) args s mc0 ms0 (gA g)) (F0 m pc ls st) := by
  refine x_callX C S K hid hM hw hy hlen hroom hsize hst hW hf hdg hT hc0 (fun v σ' H1 locs1 hp hS => ?_)
  obtain ⟨_, hk, rfl, rfl⟩ := hp
  cases hk
  exact kk H1 locs1 hS
theorem x_callXV {a : Unit} (C : Cx l g p s m meth c cc nL own) (S : S2 g s σ R L H locs) (K : KC kc Cn T N ty0) (hid : Ok 202 id kc) (hM : CtX l g d y b mL ret 202 202 mc ms (.ref (ga g id) :: As) (mkS σ R L) (PVX R L (.inl a, σ1)) (PX R L ((.inl a, σ1) : (Unit ⊕ Nat) × SI)))
    (hw : Cond.code y b mL ret ∈ BW ∧ Cond.initialized y.cls ∈ BW ∧ Cond.methodLink own index y ∈ BW ∧ Cond.instanceMethod y ∈ BW ∧ Cond.selects Cn y y ∈ BW) (hy : y.cls ≠ "java/lang/invoke/MethodHandle" ∧ y.cls ≠ "java/lang/invoke/VarHandle") (hlen : (parseMethodDescriptor y.desc).map (fun d => d.parameters.length) = some As.length)
    (hroom : d + 1 ≤ R0.frames ∧ 8 + (mL + 11) + 64 * d ≤ R0.locals) (hsize : ls.size = nL) (hst : st = As.reverse ++ .ref (ga g id) :: rest) (hW : (rest.map fun v => v.category).sum ≤ 8) (hf : cells + mc ≤ R0.cells ∧ slots + ms ≤ R0.slots) (hdg : decode cc pc = .ok (.invokevirtual index, 3))
    (hT : ∀ x ∈ c.exceptionTable.toList, False) (hc0 : cells + mc ≤ mc0 ∧ slots + ms ≤ ms0)
    (kk : ∀ (H1 : Heap) (locs1 : List Loc), S2 g s σ1 R L H1 locs1 → W p l e R0 s m args below meth c H1 locs1 (cells + mc) (slots + ms) (vx_MQ below (Qg g 202 post0) (Xg g 202 (PX R L r0)) args s mc0 ms0 (gA g)) (F0 m (pc + 3) ls rest)) : W p l e R0 s m args below meth c H locs cells slots (vx_MQ below (Qg g 202 post0) (Xg g 202 (PX R L r0)) args s mc0 ms0 (gA g)) (F0 m pc ls st) := by
  refine x_callX C S K hid hM hw hy hlen hroom hsize hst hW hf hdg hT hc0 (fun v σ' H1 locs1 hp hS => ?_)
  obtain ⟨_, hk, rfl, rfl⟩ := hp
  exact kk H1 locs1 hS
theorem x_callXR {a dk : Nat} (C : Cx l g p s m meth c cc nL own) (S : S2 g s σ R L H locs) (K : KC kc Cn T N ty0) (hid : Ok 202 id kc) (hM : CtX l g d y b mL ret 202 202 mc ms (.ref (ga g id) :: As) (mkS σ R L) (PRX g dk R L (.inl a, σ1)) (PX R L ((.inl a, σ1) : (Nat ⊕ Nat) × SI)))
    (hw : Cond.code y b mL ret ∈ BW ∧ Cond.initialized y.cls ∈ BW ∧ Cond.methodLink own index y ∈ BW ∧ Cond.instanceMethod y ∈ BW ∧ Cond.selects Cn y y ∈ BW) (hy : y.cls ≠ "java/lang/invoke/MethodHandle" ∧ y.cls ≠ "java/lang/invoke/VarHandle") (hlen : (parseMethodDescriptor y.desc).map (fun d => d.parameters.length) = some As.length)
    (hroom : d + 1 ≤ R0.frames ∧ 8 + (mL + 11) + 64 * d ≤ R0.locals) (hsize : ls.size = nL) (hst : st = As.reverse ++ .ref (ga g id) :: rest) (hW : (rest.map fun v => v.category).sum ≤ 8) (hf : cells + mc ≤ R0.cells ∧ slots + ms ≤ R0.slots) (hdg : decode cc pc = .ok (.invokevirtual index, 3))
    (hT : ∀ x ∈ c.exceptionTable.toList, False) (hc0 : cells + mc ≤ mc0 ∧ slots + ms ≤ ms0)
    (kk : ∀ (H1 : Heap) (locs1 : List Loc), Ok 202 a dk → S2 g s σ1 R L H1 locs1 → W p l e R0 s m args below meth c H1 locs1 (cells + mc) (slots + ms) (vx_MQ below (Qg g 202 post0) (Xg g 202 (PX R L r0)) args s mc0 ms0 (gA g)) (F0 m (pc + 3) ls (.ref (ga g a) :: rest))) : W p l e R0 s m args below meth c H locs cells slots (vx_MQ below (Qg g 202 post0) (Xg g 202 (PX R L r0)) args s mc0 ms0 (gA g)) (F0 m pc ls st) := by
  refine x_callX C S K hid hM hw hy hlen hroom hsize hst hW hf hdg hT hc0 (fun v σ' H1 locs1 hp hS => ?_)
  obtain ⟨_, hk, rfl, rfl, ho⟩ := hp
  cases hk
  exact kk H1 locs1 ho hS
end W4
/-! ===== Math.max, Math.min of longs ===== -/
section W4L
variable {l : Launch} {g : GL} {p : Program} {e : Jvm.Env} {R0 : Room} {s : State} {m : MethodId} {args : Array Value} {below : List Frame} {meth : Method} {c : Code} {H : Heap} {locs : List Loc} {cells slots : Nat} {Q : State → Prop}
variable {cc : ByteArray} {nL : Nat} {own : String} {pc index : Nat} {ls : Array Slot} {rest : List Value}
theorem x_maxL (C : Cx l g p s m meth c cc nL own) (hsize : ls.size = nL) (hw : Cond.methodLink own index Lib.MathLoose.max_long.x ∈ BW ∧ Cond.static Lib.MathLoose.max_long.x ∈ BW ∧ Cond.initialized "java/lang/Math" ∈ BW ∧ Cond.code Lib.MathLoose.max_long.x Lib.MathLoose.max_long.code 4 (some .long) ∈ BW) (hframes : 1 ≤ R0.frames) (hlocals : (rest.map fun v => v.category).sum + 15 ≤ R0.locals) (hc : cells ≤ R0.cells) (hs : slots ≤ R0.slots) {x y : Int64} (hdg : decode cc pc = .ok (.invokestatic index, 3))
    (kk : W p l e R0 s m args below meth c H locs cells slots Q (F0 m (pc + 3) ls (.long (if y < x then x else y) :: rest))) : W p l e R0 s m args below meth c H locs cells slots Q (F0 m pc ls (.long y :: .long x :: rest)) :=
  va_mmax_long C.1 C.2.1 (C.2.2.1.trans hsize.symm) C.2.2.2.1 (C.2.2.2.2.1.w hw.1) (C.2.2.2.2.1.w hw.2.1) (C.2.2.2.2.1.w hw.2.2.1) (C.2.2.2.2.1.w hw.2.2.2) hframes hlocals hc hs hdg kk
theorem x_minL (C : Cx l g p s m meth c cc nL own) (hsize : ls.size = nL) (hw : Cond.methodLink own index Lib.MathLoose.min_long.x ∈ BW ∧ Cond.static Lib.MathLoose.min_long.x ∈ BW ∧ Cond.initialized "java/lang/Math" ∈ BW ∧ Cond.code Lib.MathLoose.min_long.x Lib.MathLoose.min_long.code 4 (some .long) ∈ BW) (hframes : 1 ≤ R0.frames) (hlocals : (rest.map fun v => v.category).sum + 15 ≤ R0.locals) (hc : cells ≤ R0.cells) (hs : slots ≤ R0.slots) {x y : Int64} (hdg : decode cc pc = .ok (.invokestatic index, 3))
    (kk : W p l e R0 s m args below meth c H locs cells slots Q (F0 m (pc + 3) ls (.long (if y < x then y else x) :: rest))) : W p l e R0 s m args below meth c H locs cells slots Q (F0 m pc ls (.long y :: .long x :: rest)) :=
  va_mmin_long C.1 C.2.1 (C.2.2.1.trans hsize.symm) C.2.2.2.1 (C.2.2.2.2.1.w hw.1) (C.2.2.2.2.1.w hw.2.1) (C.2.2.2.2.1.w hw.2.2.1) (C.2.2.2.2.1.w hw.2.2.2) hframes hlocals hc hs hdg kk
end W4L
