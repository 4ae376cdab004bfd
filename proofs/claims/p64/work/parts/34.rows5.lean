/-! ===== the law's own methods: they catch; the script ===== -/
theorem met_ofWH {l : Launch} {y : MethodName} {ws ws' : List Cond} {rm : Room} {Pc : Array Value → State → Prop} {Qc : Array Value → State → Outcome → State → Prop} {mc ms : Nat} {free : Addr → Prop} {cc : ByteArray} {maxL : Nat} {ret : Option FieldType} {hh : List (Nat × Nat × Nat × Nat)}
    (hy : plainName y.cls = true) (hw : ws = Cond.codeWith y cc maxL ret hh :: ws')
    (body : ∀ p e s m args below meth c s₁, BodyLoose p l y (headSpec ws rm) cc maxL ret e s m args below meth c s₁ → c.maxLocals = maxL → c.exceptionTable.toList = tableOf hh → Pc args s →
      W p l e (headSpec ws rm).room s m args below meth c s.heap [] 0 0 (MQ below Qc args s mc ms free) (entryFrame m args maxL)) : Met l y ws rm Pc Qc mc ms free := by
  refine MetFree.of_bodyS (code := cc) (maxLocals := maxL) (ret := ret) hy ?_ ?_
  · intro args s m h hn
    obtain ⟨m9, meth, c, hn9, h1, h2, h3, h4, -, h5, h6, -⟩ := Cond.codeWith_spec (atoms_spec (ws := ws) h _ (by rw [hw]; exact List.mem_cons_self))
    cases hn.symm.trans hn9
    exact ⟨meth, c, h1, h2, h3, h4, h5, h6⟩
  · intro p e s m args below meth c s₁ B hml hP _
    have hh0 : s₁.heap = s.heap := by rw [B.state]; rfl
    obtain ⟨t, a1, o, b1, b2, b3⟩ := body p e s m args below meth c s₁ B hml (vx_table (x := y) B (atoms_spec (ws := ws) B.pre _ (by rw [hw]; exact List.mem_cons_self))) hP s₁ hh0 (Stand.of_body B)
    exact ⟨t, o, a1, b1, b2, ⟨b3.1, b3.2⟩⟩
def CtW (l : Launch) (g : GL) (d : Nat) (y : MethodName) (b : ByteArray) (nL : Nat) (ret : Option FieldType) (hh : List (Nat × Nat × Nat × Nat)) (mc ms : Nat) (As : List Value) (σ : Sg) (post : Option Value → Sg → Prop) : Prop :=
  Met l y [Cond.codeWith y b nL ret hh] (rmd d mc ms) (Pcc l g 202 As σ) (Qg g 202 post) mc ms (gA g)
section W5
variable {l : Launch} {g : GL} {p : Program} {e : Jvm.Env} {R0 : Room} {s : State} {m : MethodId} {args : Array Value} {below : List Frame} {meth : Method} {c : Code} {H : Heap} {locs : List Loc} {cells slots : Nat} {Q : State → Prop}
variable {cc : ByteArray} {nL : Nat} {own : String} {pc n n' : Nat} {ls : Array Slot} {rest st : List Value} {σ0 : Sg} {σ : SI} {R : Nat → Nat → Nat} {L : Nat → Nat → Int64} {index : Nat}
variable {mL d mc ms kc id : Nat} {y : MethodName} {b : ByteArray} {ret : Option FieldType} {As : List Value} {σ1 : SI} {Cn : String} {T : u_T} {N : Nat} {ty0 : Nat → FieldType} {post : Option Value → Sg → Prop} {px : String → Sg → Prop}
theorem v_goC {a : Array Value} (hr : vx_Run p l e R0 s m args below meth c H locs cells slots mc ms (F0 m pc ls st) rest (Qg g n' post a) (Xg g n' px) (gA g)) (S : StL g n s σ0 H locs)
    (kk : ∀ (v : Option Value) (σ' : Sg) (H1 : Heap) (locs1 : List Loc), post v σ' → StL g n' s σ' H1 locs1 → W p l e R0 s m args below meth c H1 locs1 (cells + mc) (slots + ms) Q (F0 m (pc + 3) ls (v.toList ++ rest)))
    (kx : ∀ (E : String) (σ' : Sg) (H1 : Heap) (locs1 : List Loc) (q : Addr) (ce : Cell), px E σ' → StL g n' s σ' H1 locs1 → H1[q]? = some ce → ce.vm = .none → s.vm.findClass E = some ce.cls → vx_W p l e R0 s m args below meth c H1 locs1 (cells + mc) (slots + ms) Q (F0 m pc ls rest) q) : W p l e R0 s m args below meth c H locs cells slots Q (F0 m pc ls st) := by
  intro T hT X
  rcases hr T hT X with ⟨v, st₀, t, T', L, h0, X', hL, e1, e2, ⟨⟨v', σ', hv, hp, hw⟩, hF⟩, step⟩ | ⟨q, st₀, t, T', L, E, ce, h0, X', hL, e1, e2, ⟨⟨σ', hp, hw⟩, hF⟩, hce, hcv, hcl, step⟩
  · cases hv
    obtain ⟨t2, a1, b1⟩ := kk v σ' T'.heap (locs ++ L) hp (S.lift h0 e1 hw hF hL) T' rfl X'
    exact ⟨t2, step t2 a1, b1⟩
  · obtain ⟨t2, a1, b1⟩ := kx E σ' T'.heap (locs ++ L) q ce hp (S.lift h0 e1 hw hF hL) (by rw [e1]; exact hce) hcv hcl T' rfl X'
    exact ⟨t2, step.trans a1, b1⟩
theorem v_callVC (C : Cx l g p s m meth c cc nL own) (S : S2 g s σ R L H locs) (K : KC kc Cn T N ty0) (hid : Ok 202 id kc) (hM : CtX l g d y b mL ret 202 202 mc ms (.ref (ga g id) :: As) (mkS σ R L) post px)
    (hw : Cond.code y b mL ret ∈ BW ∧ Cond.initialized y.cls ∈ BW ∧ Cond.methodLink own index y ∈ BW ∧ Cond.instanceMethod y ∈ BW ∧ Cond.selects Cn y y ∈ BW) (hy : y.cls ≠ "java/lang/invoke/MethodHandle" ∧ y.cls ≠ "java/lang/invoke/VarHandle") (hlen : (parseMethodDescriptor y.desc).map (fun d => d.parameters.length) = some As.length)
    (hroom : d + 1 ≤ R0.frames ∧ 8 + (mL + 11) + 64 * d ≤ R0.locals) (hsize : ls.size = nL) (hst : st = As.reverse ++ .ref (ga g id) :: rest) (hW : (rest.map fun v => v.category).sum ≤ 8) (hf : cells + mc ≤ R0.cells ∧ slots + ms ≤ R0.slots) (hdg : decode cc pc = .ok (.invokevirtual index, 3))
    (kk : ∀ (v : Option Value) (σ' : Sg) (H1 : Heap) (locs1 : List Loc), post v σ' → StL g 202 s σ' H1 locs1 → W p l e R0 s m args below meth c H1 locs1 (cells + mc) (slots + ms) Q (F0 m (pc + 3) ls (v.toList ++ rest)))
    (kx : ∀ (E : String) (σ' : Sg) (H1 : Heap) (locs1 : List Loc) (q : Addr) (ce : Cell), px E σ' → StL g 202 s σ' H1 locs1 → H1[q]? = some ce → ce.vm = .none → s.vm.findClass E = some ce.cls → vx_W p l e R0 s m args below meth c H1 locs1 (cells + mc) (slots + ms) Q (F0 m pc ls rest) q) : W p l e R0 s m args below meth c H locs cells slots Q (F0 m pc ls st) :=
  v_goC (vx_runV (Ts := []) ⟨C.1, C.2.1, C.2.2.1, C.2.2.2.1, fun w h => by cases h⟩ hM ⟨v_cb C hw.1 hw.2.1 hw.2.2.1 hy hlen hroom, C.2.2.2.2.1.w hw.2.2.2.1, C.2.2.2.2.1.w hw.2.2.2.2⟩ ⟨Pcc.blind, v_recv C S hid K.1 K.2.2.2.2, v_pcc C S _⟩ rfl rfl hsize hst (lv_room hW) hdg hf) S kk kx
theorem v_callW {hh : List (Nat × Nat × Nat × Nat)} (C : Cx l g p s m meth c cc nL own) (S : StL g 202 s σ0 H locs) (hM : CtW l g d y b mL ret hh mc ms As σ0 post)
    (hw : Cond.codeWith y b mL ret hh ∈ BW ∧ Cond.initialized y.cls ∈ BW ∧ Cond.methodLink own index y ∈ BW ∧ Cond.static y ∈ BW) (hy : y.cls ≠ "java/lang/invoke/MethodHandle" ∧ y.cls ≠ "java/lang/invoke/VarHandle") (hlen : (parseMethodDescriptor y.desc).map (fun d => d.parameters.length) = some As.length)
    (hroom : d + 1 ≤ R0.frames ∧ 8 + (mL + 11) + 64 * d ≤ R0.locals) (hsize : ls.size = nL) (hst : st = As.reverse ++ rest) (hW : (rest.map fun v => v.category).sum ≤ 8) (hf : cells + mc ≤ R0.cells ∧ slots + ms ≤ R0.slots) (hdg : decode cc pc = .ok (.invokestatic index, 3))
    (kk : ∀ (v : Option Value) (σ' : Sg) (H1 : Heap) (locs1 : List Loc), post v σ' → StL g 202 s σ' H1 locs1 → W p l e R0 s m args below meth c H1 locs1 (cells + mc) (slots + ms) Q (F0 m (pc + 3) ls (v.toList ++ rest))) : W p l e R0 s m args below meth c H locs cells slots Q (F0 m pc ls st) :=
  v_go (g0 := F0 m pc ls st) ⟨rfl, rfl⟩ (vx_runSW (Ts := []) ⟨C.1, C.2.1, C.2.2.1, C.2.2.2.1, fun w h => by cases h⟩ hM ⟨⟨rfl, rfl, hroom.1, hroom.2, fun w hw' a' U hW => by rw [List.mem_singleton.mp hw']; exact wok_use (List.mem_filter.mp hw.1).2 (wok_warm (List.mem_filter.mp hw.1).2 hW (C.2.2.2.2.1.1 _ hw.1)), List.mem_singleton.mpr rfl⟩, C.2.2.2.2.1.w hw.1, C.2.2.2.2.1.w hw.2.1, hy, fun sig h => by rw [h] at hlen; exact (Option.some.inj hlen).symm, C.2.2.2.2.1.w hw.2.2.1, C.2.2.2.2.1.w hw.2.2.2⟩ ⟨Pcc.blind, v_pcc C S _⟩ rfl rfl hsize hst (lv_room hW) hdg hf) S kk
/-- caught by row k of the table, whose class is the thrown one; the rows ahead name others -/
theorem x_catch {E : String} {ce : Cell} {q : Addr} (C : Cx l g p s m meth c cc nL own) (pre : List ExceptionTableEntry) (x : ExceptionTableEntry) (suf : List ExceptionTableEntry) (hsplit : c.exceptionTable.toList = pre ++ x :: suf)
    (hpass : ∀ z ∈ pre, z.catchType ≠ 0 ∧ ∃ nm : String, Cond.classLink own z.catchType nm ∈ BW ∧ (E, nm) ∈ ncTab) (hx : covers x pc = true) (h0 : x.catchType ≠ 0) (hlink : Cond.classLink own x.catchType E ∈ BW) (hcast : Cond.castable E E ∈ BW)
    (hcell : H[q]? = some ce) (hv : ce.vm = .none) (hcl : s.vm.findClass E = some ce.cls)
    (kk : W p l e R0 s m args below meth c H locs cells slots Q (F0 m x.handlerPc ls [.ref q])) : vx_W p l e R0 s m args below meth c H locs cells slots Q (F0 m pc ls rest) q :=
  vx_catch C.2.2.2.1 pre x suf hsplit (fun z hz => Or.inr ⟨(hpass z hz).1, by obtain ⟨nm, h1, h2⟩ := (hpass z hz).2; exact ⟨nm, C.2.2.2.2.1.w h1, (x_env C).2.2.2.2.2.2.2.2.2.2.1 _ h2⟩⟩) hx h0 (C.2.2.2.2.1.w hlink) (C.2.2.2.2.1.w hcast) hcell hv hcl kk
end W5
