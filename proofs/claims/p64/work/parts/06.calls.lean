/-! ===== calls and ends over the abstract state ===== -/
def CtX (l : Launch) (g : GL) (d : Nat) (y : MethodName) (b : ByteArray) (nL : Nat) (ret : Option FieldType) (n n' mc ms : Nat) (As : List Value) (σ : Sg) (post : Option Value → Sg → Prop) (px : String → Sg → Prop) : Prop :=
  vx_Met l y [Cond.code y b nL ret] (rmd d mc ms) (Pcc l g n As σ) (Qg g n' post) (Xg g n' px) mc ms (gA g)
theorem StL.low {g : GL} {n : Nat} {s : State} {σ : Sg} {H : Heap} {locs : List Loc} (hL : Low g s.heap) (S : StL g n s σ H locs) : Low g H :=
  ⟨hL.1, Nat.le_trans hL.2.1 S.2.1, fun a ha hd => by rw [S.2.2.1 a (Nat.lt_of_lt_of_le ha hL.2.1) (by have := hL.1; unfold gA; omega)]; exact hL.2.2 a ha hd⟩
theorem StL.lift {g : GL} {n n' : Nat} {s st t : State} {σ σ' : Sg} {H H1 : Heap} {locs L : List Loc} (S : StL g n s σ H locs) (h0 : st.heap = H) (e1 : H1 = t.heap) (hw : Wd g n' σ' t.heap) (hF : va_F (gA g) st t) (hL : ∀ q ∈ L, gA g q.base) : StL g n' s σ' H1 (locs ++ L) := by
  subst e1
  obtain ⟨hz, hk⟩ := hF
  rw [h0] at hz hk
  refine ⟨hw, Nat.le_trans S.2.1 hz, fun q h1 h2 => ?_, fun q hq => ?_⟩
  · rw [hk q (Nat.lt_of_lt_of_le h1 S.2.1) h2]
    exact S.2.2.1 q h1 h2
  · rcases List.mem_append.mp hq with h | h
    · exact S.2.2.2 q h
    · exact hL q h
section VCALL
variable {l : Launch} {g : GL} {p : Program} {e : Jvm.Env} {R : Room} {s : State} {m : MethodId} {args : Array Value} {below : List Frame} {meth : Method} {c : Code} {H : Heap} {locs : List Loc} {cells slots : Nat} {Q : State → Prop}
variable {cc : ByteArray} {nL : Nat} {own : String} {pc n n' d mc ms mL : Nat} {ls : Array Slot} {rest st : List Value} {σ : Sg} {id kc index : Nat} {Cn : String} {T : u_T} {N : Nat} {y : MethodName} {b : ByteArray} {ret : Option FieldType} {As : List Value} {post : Option Value → Sg → Prop} {px : String → Sg → Prop}
theorem v_go {a : Array Value} {g0 : JFrame} {g1 : Nat} (hg : g0.pc = g1 ∧ g0 = F0 m pc ls st) (hr : va_Run p l e R s m args below meth c H locs cells slots mc ms (F0 m pc ls st) rest (Qg g n' post a) (gA g)) (S : StL g n s σ H locs)
    (kk : ∀ (v : Option Value) (σ' : Sg) (H1 : Heap) (locs1 : List Loc), post v σ' → StL g n' s σ' H1 locs1 → W p l e R s m args below meth c H1 locs1 (cells + mc) (slots + ms) Q (F0 m (pc + 3) ls (v.toList ++ rest))) : W p l e R s m args below meth c H locs cells slots Q (F0 m pc ls st) := by
  intro T hT X
  obtain ⟨v, st₀, t, T', L, h0, X', hL, e1, e2, ⟨⟨v', σ', hv, hp, hw⟩, hF⟩, step⟩ := hr T hT X
  cases hv
  obtain ⟨t2, a1, b1⟩ := kk v σ' T'.heap (locs ++ L) hp (S.lift h0 e1 hw hF hL) T' rfl X'
  exact ⟨t2, step t2 a1, b1⟩
theorem v_recv (C : Cx l g p s m meth c cc nL own) (S : StL g n s σ H locs) (hid : Ok n id kc) (hc : vwCl[kc]? = some (Cn, T, N)) (hlt : kc < 10000) : ∃ cell : Cell, H[ga g id]? = some cell ∧ cell.vm.isStatics = false ∧ s.vm.findClass Cn = some cell.cls := by
  have hP := v_cell S hid
  rw [v_elk hlt] at hP
  exact va_recv C.2.2.2.2.1.2.1 hP hc (q0 := 0) rfl
theorem v_pcc (C : Cx l g p s m meth c cc nL own) (S : StL g n s σ H locs) (av : List Value) : ∀ U : State, U.heap = H → s.WarmedH U.vm → Pcc l g n av σ av.toArray U :=
  fun U hU hW => ⟨rfl, C.2.2.2.2.1.warm hW, by rw [hU]; exact S.low C.2.2.2.2.2.1, by rw [hU]; exact S.1⟩
theorem v_code (hcode : Cond.code y b mL ret ∈ BW) : ∀ w ∈ [Cond.code y b mL ret], ∀ (a' : Array Value) (U : State), s.WarmedH U.vm → (∀ w ∈ BW, va_Nw w s) → w.before a' U = true := by
  intro w hw a' U hW hE
  rw [List.mem_singleton.mp hw]
  exact wok_use (List.mem_filter.mp hcode).2 (wok_warm (List.mem_filter.mp hcode).2 hW (hE _ hcode))
/-- what a call's words come to -/
theorem v_cb (C : Cx l g p s m meth c cc nL own) (hcode : Cond.code y b mL ret ∈ BW) (hini : Cond.initialized y.cls ∈ BW) (hlink : Cond.methodLink own index y ∈ BW) (hy : y.cls ≠ "java/lang/invoke/MethodHandle" ∧ y.cls ≠ "java/lang/invoke/VarHandle") {k : Nat} (hlen : (parseMethodDescriptor y.desc).map (fun d => d.parameters.length) = some k) (hroom : d + 1 ≤ R.frames ∧ 8 + (mL + 11) + 64 * d ≤ R.locals) :
    CallB R s args own index y b mL ret [Cond.code y b mL ret] (rmd d mc ms) mc ms k :=
  ⟨rfl, rfl, hroom.1, hroom.2, fun w hw a' U hW => v_code (s := s) hcode w hw a' U hW C.2.2.2.2.1.1, List.mem_singleton.mpr rfl, C.2.2.2.2.1.w hcode, C.2.2.2.2.1.w hini, hy, fun sig h => by rw [h] at hlen; exact (Option.some.inj hlen).symm, C.2.2.2.2.1.w hlink⟩
theorem v_callV (C : Cx l g p s m meth c cc nL own) (S : StL g n s σ H locs) (hid : Ok n id kc) (hc : vwCl[kc]? = some (Cn, T, N)) (hlt : kc < 10000) (hM : Ct l g d y b mL ret n n' mc ms (.ref (ga g id) :: As) σ post)
    (hw : Cond.code y b mL ret ∈ BW ∧ Cond.initialized y.cls ∈ BW ∧ Cond.methodLink own index y ∈ BW ∧ Cond.instanceMethod y ∈ BW ∧ Cond.selects Cn y y ∈ BW) (hy : y.cls ≠ "java/lang/invoke/MethodHandle" ∧ y.cls ≠ "java/lang/invoke/VarHandle") (hlen : (parseMethodDescriptor y.desc).map (fun d => d.parameters.length) = some As.length)
    (hroom : d + 1 ≤ R.frames ∧ 8 + (mL + 11) + 64 * d ≤ R.locals) (hsize : ls.size = nL) (hst : st = As.reverse ++ .ref (ga g id) :: rest) (hW : (rest.map fun v => v.category).sum ≤ 8) (hf : cells + mc ≤ R.cells ∧ slots + ms ≤ R.slots) (hdg : decode cc pc = .ok (.invokevirtual index, 3))
    (kk : ∀ (v : Option Value) (σ' : Sg) (H1 : Heap) (locs1 : List Loc), post v σ' → StL g n' s σ' H1 locs1 → W p l e R s m args below meth c H1 locs1 (cells + mc) (slots + ms) Q (F0 m (pc + 3) ls (v.toList ++ rest))) : W p l e R s m args below meth c H locs cells slots Q (F0 m pc ls st) :=
  v_go (g0 := F0 m pc ls st) ⟨rfl, rfl⟩ (va_runV (Ts := []) ⟨C.1, C.2.1, C.2.2.1, C.2.2.2.1, fun w h => by cases h⟩ hM ⟨v_cb C hw.1 hw.2.1 hw.2.2.1 hy hlen hroom, C.2.2.2.2.1.w hw.2.2.2.1, C.2.2.2.2.1.w hw.2.2.2.2⟩ ⟨Pcc.blind, v_recv C S hid hc hlt, v_pcc C S _⟩ rfl rfl hsize hst (lv_room hW) hdg hf) S kk
theorem v_callS (C : Cx l g p s m meth c cc nL own) (S : StL g n s σ H locs) (hM : Ct l g d y b mL ret n n' mc ms As σ post)
    (hw : Cond.code y b mL ret ∈ BW ∧ Cond.initialized y.cls ∈ BW ∧ Cond.methodLink own index y ∈ BW ∧ Cond.static y ∈ BW) (hy : y.cls ≠ "java/lang/invoke/MethodHandle" ∧ y.cls ≠ "java/lang/invoke/VarHandle") (hlen : (parseMethodDescriptor y.desc).map (fun d => d.parameters.length) = some As.length)
    (hroom : d + 1 ≤ R.frames ∧ 8 + (mL + 11) + 64 * d ≤ R.locals) (hsize : ls.size = nL) (hst : st = As.reverse ++ rest) (hW : (rest.map fun v => v.category).sum ≤ 8) (hf : cells + mc ≤ R.cells ∧ slots + ms ≤ R.slots) (hdg : decode cc pc = .ok (.invokestatic index, 3))
    (kk : ∀ (v : Option Value) (σ' : Sg) (H1 : Heap) (locs1 : List Loc), post v σ' → StL g n' s σ' H1 locs1 → W p l e R s m args below meth c H1 locs1 (cells + mc) (slots + ms) Q (F0 m (pc + 3) ls (v.toList ++ rest))) : W p l e R s m args below meth c H locs cells slots Q (F0 m pc ls st) :=
  v_go (g0 := F0 m pc ls st) ⟨rfl, rfl⟩ (va_runS (Ts := []) ⟨C.1, C.2.1, C.2.2.1, C.2.2.2.1, fun w h => by cases h⟩ hM ⟨v_cb C hw.1 hw.2.1 hw.2.2.1 hy hlen hroom, C.2.2.2.2.1.w hw.2.2.2⟩ ⟨Pcc.blind, v_pcc C S _⟩ rfl rfl hsize hst (lv_room hW) hdg hf) S kk
theorem v_callSN {host : String} (C : Cx l g p s m meth c cc nL own) (S : StL g n s σ H locs) (hM : Ct l g d y b mL ret n n' mc ms As σ post)
    (hw : Cond.code y b mL ret ∈ BW ∧ Cond.initialized y.cls ∈ BW ∧ Cond.methodLinkNest own index y host ∈ BW ∧ Cond.static y ∈ BW) (hy : y.cls ≠ "java/lang/invoke/MethodHandle" ∧ y.cls ≠ "java/lang/invoke/VarHandle") (hlen : (parseMethodDescriptor y.desc).map (fun d => d.parameters.length) = some As.length)
    (hroom : d + 1 ≤ R.frames ∧ 8 + (mL + 11) + 64 * d ≤ R.locals) (hsize : ls.size = nL) (hst : st = As.reverse ++ rest) (hW : (rest.map fun v => v.category).sum ≤ 8) (hf : cells + mc ≤ R.cells ∧ slots + ms ≤ R.slots) (hdg : decode cc pc = .ok (.invokestatic index, 3))
    (kk : ∀ (v : Option Value) (σ' : Sg) (H1 : Heap) (locs1 : List Loc), post v σ' → StL g n' s σ' H1 locs1 → W p l e R s m args below meth c H1 locs1 (cells + mc) (slots + ms) Q (F0 m (pc + 3) ls (v.toList ++ rest))) : W p l e R s m args below meth c H locs cells slots Q (F0 m pc ls st) :=
  v_go (g0 := F0 m pc ls st) ⟨rfl, rfl⟩ (va_runSN (Ts := []) ⟨C.1, C.2.1, C.2.2.1, C.2.2.2.1, fun w h => by cases h⟩ hM ⟨⟨⟨rfl, rfl, hroom.1, hroom.2, fun w hw' a' U hW => v_code (s := s) hw.1 w hw' a' U hW C.2.2.2.2.1.1, List.mem_singleton.mpr rfl⟩, C.2.2.2.2.1.w hw.1, C.2.2.2.2.1.w hw.2.1, hy, fun sig h => by rw [h] at hlen; exact (Option.some.inj hlen).symm, C.2.2.2.2.1.w hw.2.2.1⟩, C.2.2.2.2.1.w hw.2.2.2, trivial⟩ ⟨Pcc.blind, v_pcc C S _⟩ rfl rfl hsize hst (lv_room hW) hdg hf) S kk
-- ends of a method that doesn't throw
theorem v_iret (C : Cx l g p s m meth c cc nL own) (S : StL g n s σ H locs) (hr : meth.sig.returnType = some .int) {v : Int32} (hp : post (some (.int v)) σ) (hdg : decode cc pc = .ok (.ireturn, 1)) : W p l e R s m args below meth c H locs cells slots (MQ below (Qg g n post) args s cells slots (gA g)) (F0 m pc ls [.int v]) :=
  W.iret C.1 C.2.1 hr (fun t ht _ => ⟨⟨_, σ, rfl, hp, by rw [ht]; exact S.1⟩, S.2.F ht⟩) S.2.2.2 hdg C.2.2.2.2.2.2
theorem v_zret (C : Cx l g p s m meth c cc nL own) (S : StL g n s σ H locs) (hr : meth.sig.returnType = some .boolean) {v : Int32} (hv : v = 0 ∨ v = 1) (hp : post (some (.int v)) σ) (hdg : decode cc pc = .ok (.ireturn, 1)) : W p l e R s m args below meth c H locs cells slots (MQ below (Qg g n post) args s cells slots (gA g)) (F0 m pc ls [.int v]) :=
  W.zret C.1 C.2.1 hr (by rcases hv with rfl | rfl <;> rfl) (fun t ht _ => ⟨⟨_, σ, rfl, hp, by rw [ht]; exact S.1⟩, S.2.F ht⟩) S.2.2.2 hdg C.2.2.2.2.2.2
theorem v_vret (C : Cx l g p s m meth c cc nL own) (S : StL g n s σ H locs) (hr : meth.sig.returnType = none) (hp : post none σ) (hdg : decode cc pc = .ok (.return_, 1)) : W p l e R s m args below meth c H locs cells slots (MQ below (Qg g n post) args s cells slots (gA g)) (F0 m pc ls []) :=
  W.vret C.1 C.2.1 hr (fun t ht _ => ⟨⟨_, σ, rfl, hp, by rw [ht]; exact S.1⟩, S.2.F ht⟩) S.2.2.2 hdg C.2.2.2.2.2.2
theorem v_aret (C : Cx l g p s m meth c cc nL own) (S : StL g n s σ H locs) {C9 : String} (hr : meth.sig.returnType = some (.object C9)) {a : Nat} (hp : post (some (.ref a)) σ) (hdg : decode cc pc = .ok (.areturn, 1)) : W p l e R s m args below meth c H locs cells slots (MQ below (Qg g n post) args s cells slots (gA g)) (F0 m pc ls [.ref a]) :=
  W.aret C.1 C.2.1 hr (Or.inl ⟨_, rfl⟩) (Or.inr ⟨_, rfl⟩) (fun t ht _ => ⟨⟨_, σ, rfl, hp, by rw [ht]; exact S.1⟩, S.2.F ht⟩) S.2.2.2 hdg C.2.2.2.2.2.2
-- calls of methods that may throw, out of methods that don't catch
theorem v_goX {post0 : Option Value → Sg → Prop} {px0 : String → Sg → Prop} {mc0 ms0 : Nat} {a : Array Value} (hr : vx_Run p l e R s m args below meth c H locs cells slots mc ms (F0 m pc ls st) rest (Qg g n' post a) (Xg g n' px) (gA g)) (C : Cx l g p s m meth c cc nL own) (S : StL g n s σ H locs)
    (hout : ∀ x ∈ c.exceptionTable.toList, covers x pc = false) (hx : ∀ E σ', px E σ' → px0 E σ') (hc0 : cells + mc ≤ mc0) (hs0 : slots + ms ≤ ms0)
    (kk : ∀ (v : Option Value) (σ' : Sg) (H1 : Heap) (locs1 : List Loc), post v σ' → StL g n' s σ' H1 locs1 → W p l e R s m args below meth c H1 locs1 (cells + mc) (slots + ms) (vx_MQ below (Qg g n' post0) (Xg g n' px0) args s mc0 ms0 (gA g)) (F0 m (pc + 3) ls (v.toList ++ rest))) : W p l e R s m args below meth c H locs cells slots (vx_MQ below (Qg g n' post0) (Xg g n' px0) args s mc0 ms0 (gA g)) (F0 m pc ls st) := by
  intro T hT X
  rcases hr T hT X with ⟨v, st₀, t, T', L, h0, X', hL, e1, e2, ⟨⟨v', σ', hv, hp, hw⟩, hF⟩, step⟩ | ⟨q, st₀, t, T', L, E, ce, h0, X', hL, e1, e2, ⟨⟨σ', hp, hw⟩, hF⟩, hce, hcv, hcl, step⟩
  · cases hv
    obtain ⟨t2, a1, b1⟩ := kk v σ' T'.heap (locs ++ L) hp (S.lift h0 e1 hw hF hL) T' rfl X'
    exact ⟨t2, step t2 a1, b1⟩
  · have S' := S.lift h0 e1 hw hF hL
    have hcell : T'.heap[q]? = some ce := by rw [e1]; exact hce
    obtain ⟨t2, a1, b1⟩ := vx_out (Qc := Qg g n' post0) (XC := Xg g n' px0) (args := args) (rest := rest) (ls := ls) hout C.2.2.2.2.2.2 hcell hcv hcl (fun u hu hv => ⟨⟨σ', hx E σ' hp, by rw [hu]; exact S'.1⟩, S'.2.F hu⟩) S'.2.2.2 hc0 hs0 T' rfl X'
    exact ⟨t2, step.trans a1, b1⟩
theorem v_callVX {post0 : Option Value → Sg → Prop} {px0 : String → Sg → Prop} {mc0 ms0 : Nat} (C : Cx l g p s m meth c cc nL own) (S : StL g n s σ H locs) (hid : Ok n id kc) (hc : vwCl[kc]? = some (Cn, T, N)) (hlt : kc < 10000) (hM : CtX l g d y b mL ret n n' mc ms (.ref (ga g id) :: As) σ post px)
    (hw : Cond.code y b mL ret ∈ BW ∧ Cond.initialized y.cls ∈ BW ∧ Cond.methodLink own index y ∈ BW ∧ Cond.instanceMethod y ∈ BW ∧ Cond.selects Cn y y ∈ BW) (hy : y.cls ≠ "java/lang/invoke/MethodHandle" ∧ y.cls ≠ "java/lang/invoke/VarHandle") (hlen : (parseMethodDescriptor y.desc).map (fun d => d.parameters.length) = some As.length)
    (hroom : d + 1 ≤ R.frames ∧ 8 + (mL + 11) + 64 * d ≤ R.locals) (hsize : ls.size = nL) (hst : st = As.reverse ++ .ref (ga g id) :: rest) (hW : (rest.map fun v => v.category).sum ≤ 8) (hf : cells + mc ≤ R.cells ∧ slots + ms ≤ R.slots) (hdg : decode cc pc = .ok (.invokevirtual index, 3))
    (hout : ∀ x ∈ c.exceptionTable.toList, covers x pc = false) (hx : ∀ E σ', px E σ' → px0 E σ') (hc0 : cells + mc ≤ mc0) (hs0 : slots + ms ≤ ms0)
    (kk : ∀ (v : Option Value) (σ' : Sg) (H1 : Heap) (locs1 : List Loc), post v σ' → StL g n' s σ' H1 locs1 → W p l e R s m args below meth c H1 locs1 (cells + mc) (slots + ms) (vx_MQ below (Qg g n' post0) (Xg g n' px0) args s mc0 ms0 (gA g)) (F0 m (pc + 3) ls (v.toList ++ rest))) : W p l e R s m args below meth c H locs cells slots (vx_MQ below (Qg g n' post0) (Xg g n' px0) args s mc0 ms0 (gA g)) (F0 m pc ls st) :=
  v_goX (vx_runV (Ts := []) ⟨C.1, C.2.1, C.2.2.1, C.2.2.2.1, fun w h => by cases h⟩ hM ⟨v_cb C hw.1 hw.2.1 hw.2.2.1 hy hlen hroom, C.2.2.2.2.1.w hw.2.2.2.1, C.2.2.2.2.1.w hw.2.2.2.2⟩ ⟨Pcc.blind, v_recv C S hid hc hlt, v_pcc C S _⟩ rfl rfl hsize hst (lv_room hW) hdg hf) C S hout hx hc0 hs0 kk
/-- throw new X("text"): ldc_w -/
theorem v_throwW {post0 : Option Value → Sg → Prop} {px0 : String → Sg → Prop} {mc0 ms0 : Nat} (C : Cx l g p s m meth c cc nL own) (S : StL g 202 s σ H locs) {cls text : String} {names : List String} {ik is ic ia : Nat} (hcls : Bundle.fit cls = true) (hnames : ∀ n ∈ names, Bundle.fit n = true)
    (hk : Cond.classLink own ik cls ∈ BW) (hini : Cond.initialized cls ∈ BW) (hstr : (own, is, text, ia) ∈ strTab) (hat : ∀ w ∈ vx_atS own ic cls names, w ∈ BW) (hgood : ∀ w ∈ Cond.classLink own ik cls :: Cond.initialized cls :: vx_atS own ic cls names, vx_ot w = true) (hsize : ls.size = nL)
    (d0 : decode cc pc = .ok (.new ik, 3)) (d3 : decode cc (pc + 3) = .ok (.dup, 1)) (d4 : decode cc (pc + 4) = .ok (.ldc_w is, 3)) (d7 : decode cc (pc + 7) = .ok (.invokespecial ic, 3)) (d10 : decode cc (pc + 10) = .ok (.athrow, 1))
    (hout : ∀ x ∈ c.exceptionTable.toList, covers x (pc + 10) = false)
    (hRf : names.length + 3 < R.frames) (hRl : (rest.map fun v => v.category).sum + (13 * (names.length + 1) + 43) ≤ R.locals) (hRc : cells + 1 ≤ R.cells) (hRs : slots + 6 ≤ R.slots) (hc0 : cells + 1 ≤ mc0) (hs0 : slots + 6 ≤ ms0) (hpx : px0 cls σ) :
    W p l e R s m args below meth c H locs cells slots (vx_MQ below (Qg g 202 post0) (Xg g 202 px0) args s mc0 ms0 (gA g)) (F0 m pc ls rest) := by
  have E := C.2.2.2.2.1
  have EX := E.x C.2.2.2.2.2.1
  refine vx_throwSW C.1 C.2.1 E.2.2.2 C.2.2.2.1 hcls hnames (E.w hk) (E.w hini) (EX.1 _ hstr) (fun w hw => E.w (hat w hw)) hgood EX.2.2.2.2.2.2.2.2.1 EX.2.2.2.2.2.2.2.2.2.1 S.2 (hsize.trans C.2.2.1.symm) d0 d3 d4 d7 d10 hout hRf hRl hRc hRs C.2.2.2.2.2.2 (fun t hv hz hq => ?_) S.2.2.2 hc0 hs0
  refine ⟨⟨σ, hpx, fun id h0 h1 => ?_, S.1.2.1, fun h => absurd h (by decide), fun h => absurd h (by decide)⟩, Nat.le_trans S.2.1 hz, fun q h1 h2 => ?_⟩
  · have hh := S.1.1 id h0 h1
    exact hh.kept (hq _ hh.lt)
  · rw [hq q (Nat.lt_of_lt_of_le h1 S.2.1)]
    exact S.2.2.1 q h1 h2
end VCALL
