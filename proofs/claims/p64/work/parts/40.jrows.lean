/-! ===== the JDK's text builder: worlds of a few cells above a mark; texts ===== -/
def zA (Z : Nat) : Nat → Prop := fun q => Z ≤ q
theorem va_Z.as {C n d : String} {v : Value} {A B : Nat → Prop} {U : State} {H : Heap} (h : va_Z C n d v A U H) (hAB : ∀ q, q < H.size → ¬ A q → ¬ B q) : va_Z C n d v B U H := by
  obtain ⟨cf, kf, fi, f, a, cell, h1, h2, h3, h4, h5, h6, h7, h8⟩ := h
  exact ⟨cf, kf, fi, f, a, cell, h1, h2, h3, h4, h5, h6, h7, hAB a (Array.getElem?_eq_some_iff.mp h5).1 h8⟩
theorem va_T.as {ty : FieldType} {t N : Nat} {f : Nat → Value} {A B : Nat → Prop} {U : State} {H : Heap} (h : va_T ty t N f A U H) (hAB : ∀ q, q < H.size → ¬ A q → ¬ B q) : va_T ty t N f B U H := by
  obtain ⟨cell, h1, h2, h3, h4, h5, h6, h7⟩ := h
  exact ⟨cell, h1, h2, h3, h4, h5, h6, hAB t (Array.getElem?_eq_some_iff.mp h1).1 h7⟩
theorem va_O.as {E : String} {t : Nat} {A B : Nat → Prop} {U : State} {H : Heap} (h : va_O E t A U H) (hAB : ∀ q, q < H.size → ¬ A q → ¬ B q) : va_O E t B U H := by
  obtain ⟨cell, h1, h2, h3, h4⟩ := h
  exact ⟨cell, h1, h2, h3, hAB t (Array.getElem?_eq_some_iff.mp h1).1 h4⟩
theorem va_OF.as {o n d : String} {v : Value} {t : Nat} {A B : Nat → Prop} {U : State} {H : Heap} (h : va_OF o n d v t A U H) (hAB : ∀ q, q < H.size → ¬ A q → ¬ B q) : va_OF o n d v t B U H := by
  obtain ⟨cf, k, i, f, cell, h1, h2, h3, h4, h5, h6⟩ := h
  exact ⟨cf, k, i, f, cell, h1, h2, h3, h4, h5, hAB t (Array.getElem?_eq_some_iff.mp h3).1 h6⟩
/-- a text: its object's address, its bytes' address, its letters -/
abbrev Txt3 : Type := Nat × Nat × List Nat
def StrX (A : Nat → Prop) (U : State) (H : Heap) (q : Txt3) : Prop := va_O "java/lang/String" q.1 A U H ∧ va_OF "java/lang/String" "coder" "B" (.int 0) q.1 A U H ∧ va_OF "java/lang/String" "value" "[B" (.ref q.2.1) q.1 A U H ∧ va_T .byte q.2.1 q.2.2.length (fun j => .int (nI (q.2.2.getD j 0))) A U H
theorem StrX.moved {A : Nat → Prop} {u U : State} {H : Heap} {q : Txt3} (hvm : u.vm.Alike U.vm) (h : StrX A u H q) : StrX A U H q := ⟨h.1.moved hvm, h.2.1.moved hvm, h.2.2.1.moved hvm, h.2.2.2.moved hvm⟩
theorem StrX.kept {A : Nat → Prop} {U : State} {H H1 : Heap} {q : Txt3} (h : StrX A U H q) (hq : ∀ a : Nat, a < H.size → ¬ A a → H1[a]? = H[a]?) : StrX A U H1 q := ⟨h.1.kept hq, h.2.1.kept hq, h.2.2.1.kept hq, h.2.2.2.kept hq⟩
theorem StrX.as {A B : Nat → Prop} {U : State} {H : Heap} {q : Txt3} (h : StrX A U H q) (hAB : ∀ a, a < H.size → ¬ A a → ¬ B a) : StrX B U H q := ⟨h.1.as hAB, h.2.1.as hAB, h.2.2.1.as hAB, h.2.2.2.as hAB⟩
/-- start and end of a JDK method on cells ws above the mark Z, and texts xs below it -/
def Pj (l : Launch) (g : GL) (Z : Nat) (As : List Value) (ws : va_W) (xs : List Txt3) : Array Value → State → Prop := fun v U => v = As.toArray ∧ Env l g U ∧ Low g U.heap ∧ gb g < Z ∧ Z ≤ U.heap.size ∧ va_P (gD g) vwCl ws U.heap ∧ ∀ q ∈ xs, StrX (zA Z) U U.heap q
theorem Pj.blind {l : Launch} {g : GL} {Z : Nat} {As : List Value} {ws : va_W} {xs : List Txt3} : FrameBlind (Pj l g Z As ws xs) := fun x U G mk h => ⟨h.1, Env.fr (U := U.calling G mk x) h.2.1 rfl, h.2.2.1, h.2.2.2.1, h.2.2.2.2.1, h.2.2.2.2.2.1, fun q hq => (h.2.2.2.2.2.2 q hq).moved (State.WarmedH.refl U).alike⟩
def Qj (Z : Nat) (post : Option Value → Heap → Prop) : Array Value → State → Outcome → State → Prop := fun _ st o t => (∃ v, o = .returned v ∧ post v t.heap) ∧ va_F (zA Z) st t
def Cj (l : Launch) (g : GL) (d : Nat) (y : MethodName) (b : ByteArray) (nL : Nat) (ret : Option FieldType) (mc ms : Nat) (Z : Nat) (As : List Value) (ws : va_W) (xs : List Txt3) (post : Option Value → Heap → Prop) : Prop :=
  Met l y [Cond.code y b nL ret] (rmd d mc ms) (Pj l g Z As ws xs) (Qj Z post) mc ms (zA Z)
/-- what holds in such a method -/
def SJ (g : GL) (Z : Nat) (s : State) (ws : va_W) (xs : List Txt3) (H : Heap) (locs : List Loc) : Prop := va_P (gD g) vwCl ws H ∧ va_S (zA Z) s.heap H locs ∧ gb g < Z ∧ Z ≤ s.heap.size ∧ ∀ q ∈ xs, StrX (zA Z) s s.heap q
theorem SJ.low {g : GL} {Z : Nat} {s : State} {ws : va_W} {xs : List Txt3} {H : Heap} {locs : List Loc} (hL : Low g s.heap) (S : SJ g Z s ws xs H locs) : Low g H :=
  ⟨hL.1, Nat.le_trans hL.2.1 S.2.1.1, fun a ha hd => by rw [S.2.1.2.1 a (Nat.lt_of_lt_of_le ha hL.2.1) (by have := hL.1; have := S.2.2.1; unfold zA; omega)]; exact hL.2.2 a ha hd⟩
theorem SJ.str {g : GL} {Z Z' : Nat} {s : State} {ws : va_W} {xs : List Txt3} {H : Heap} {locs : List Loc} (S : SJ g Z s ws xs H locs) (hZ : Z ≤ Z') {q : Txt3} (hq : q ∈ xs) : StrX (zA Z') s H q :=
  ((S.2.2.2.2 q hq).kept S.2.1.2.1).as (fun a _ h => fun h2 => h (Nat.le_trans hZ h2))
theorem SJ.old {g : GL} {Z : Nat} {s : State} {ws ws' : va_W} {xs : List Txt3} {H H1 : Heap} {locs locs1 : List Loc} (S : SJ g Z s ws xs H locs) (hS : va_S (zA Z) s.heap H1 locs1) (hP : va_P (gD g) vwCl ws' H1) : SJ g Z s ws' xs H1 locs1 := ⟨hP, hS, S.2.2⟩
/-- cells that a call left alone -/
theorem SJ.kp {g : GL} {Z : Nat} {s : State} {ws : va_W} {xs : List Txt3} {H H1 : Heap} {locs : List Loc} (S : SJ g Z s ws xs H locs) (hk : ∀ q, q < H.size → H1[q]? = H[q]?) : va_P (gD g) vwCl ws H1 := S.1.kept fun k q hq => hk q.1 (S.1 k q hq).lt
theorem SJ.zh {g : GL} {Z : Nat} {s : State} {ws : va_W} {xs : List Txt3} {H : Heap} {locs : List Loc} (S : SJ g Z s ws xs H locs) : Z ≤ H.size := Nat.le_trans S.2.2.2.1 S.2.1.1
theorem env_Z {l : Launch} {g : GL} {s : State} {Z : Nat} (hE : Env l g s) (hL : Low g s.heap) (hZ : gb g < Z) {C n d : String} {v : Value} (h : va_Z C n d v (gA g) s (gH g)) : va_Z C n d v (zA Z) s s.heap := by
  have h1 : va_Z C n d v (gA g) s s.heap := h.kept fun a ha hn => hL.2.2 a ha (fun q => hn (Or.inr (Or.inl q)))
  obtain ⟨cf, kf, fi, f, a, cell, g1, g2, g3, g4, g5, g6, g7, g8⟩ := h
  have ha : a < (gH g).size := (Array.getElem?_eq_some_iff.mp g5).1
  refine ⟨cf, kf, fi, f, a, cell, g1, g2, g3, g4, ?_, g6, g7, ?_⟩
  · rw [hL.2.2 a ha (fun q => g8 (Or.inr (Or.inl q)))]
    exact g5
  · have := hL.1
    unfold zA
    omega
theorem env_T {l : Launch} {g : GL} {s : State} {Z : Nat} (hE : Env l g s) (hL : Low g s.heap) (hZ : gb g < Z) {ty : FieldType} {t N : Nat} {f : Nat → Value} (h : va_T ty t N f (gA g) s (gH g)) : va_T ty t N f (zA Z) s s.heap := by
  obtain ⟨cell, h1, h2, h3, h4, h5, h6, h7⟩ := h
  have ha : t < (gH g).size := (Array.getElem?_eq_some_iff.mp h1).1
  refine ⟨cell, ?_, h2, h3, h4, h5, h6, ?_⟩
  · rw [hL.2.2 t ha (fun q => h7 (Or.inr (Or.inl q)))]
    exact h1
  · have := hL.1
    unfold zA
    omega
section VJ
variable {l : Launch} {g : GL} {p : Program} {e : Jvm.Env} {R : Room} {s : State} {m : MethodId} {args : Array Value} {below : List Frame} {meth : Method} {c : Code} {H : Heap} {locs : List Loc} {cells slots : Nat} {Q : State → Prop}
variable {cc : ByteArray} {nL : Nat} {own : String} {pc d mc ms mL index Z Z' : Nat} {ls : Array Slot} {rest st : List Value} {ws wc : va_W} {xs xc : List Txt3} {Cn : String} {y : MethodName} {b : ByteArray} {ret : Option FieldType} {As : List Value} {post : Option Value → Heap → Prop}
theorem z_go {a : Array Value} (hZ : Z ≤ Z') (hr : va_Run p l e R s m args below meth c H locs cells slots mc ms (F0 m pc ls st) rest (Qj Z' post a) (zA Z')) (S : SJ g Z s ws xs H locs) (hH : Z' ≤ H.size)
    (kk : ∀ (v : Option Value) (H1 : Heap) (locs1 : List Loc), post v H1 → H.size ≤ H1.size → (∀ q, q < Z' → H1[q]? = H[q]?) → va_S (zA Z) s.heap H1 locs1 → W p l e R s m args below meth c H1 locs1 (cells + mc) (slots + ms) Q (F0 m (pc + 3) ls (v.toList ++ rest))) : W p l e R s m args below meth c H locs cells slots Q (F0 m pc ls st) := by
  intro T hT X
  obtain ⟨v, st₀, t, T', L, h0, X', hL, e1, e2, ⟨⟨v', hv, hp⟩, hz, hk⟩, step⟩ := hr T hT X
  cases hv
  rw [h0] at hz hk
  obtain ⟨t2, a1, b1⟩ := kk v T'.heap (locs ++ L) (by rw [e1]; exact hp) (by rw [e1]; exact hz) (fun q hq => by rw [e1]; exact hk q (Nat.lt_of_lt_of_le hq hH) (by unfold zA; omega))
    ⟨by rw [e1]; exact Nat.le_trans S.2.1.1 hz, fun q h1 h2 => by rw [e1, hk q (Nat.lt_of_lt_of_le h1 S.2.1.1) (fun z => h2 (Nat.le_trans hZ z))]; exact S.2.1.2.1 q h1 h2, fun q hq => by
      rcases List.mem_append.mp hq with h | h
      · exact S.2.1.2.2 q h
      · exact Nat.le_trans hZ (hL q h)⟩ T' rfl X'
  exact ⟨t2, step t2 a1, b1⟩
theorem z_pj (C : Cx l g p s m meth c cc nL own) (S : SJ g Z s ws xs H locs) (hZ : Z ≤ Z') (hH : Z' ≤ H.size) (hP : va_P (gD g) vwCl wc H) (hxs : ∀ q ∈ xc, q ∈ xs) (av : List Value) : ∀ U : State, U.heap = H → s.WarmedH U.vm → Pj l g Z' av wc xc av.toArray U :=
  fun U hU hW => ⟨rfl, C.2.2.2.2.1.warm hW, by rw [hU]; exact S.low C.2.2.2.2.2.1, Nat.lt_of_lt_of_le S.2.2.1 hZ, by rw [hU]; exact hH, by rw [hU]; exact hP, fun q hq => by rw [hU]; exact (S.str hZ (hxs q hq)).moved hW.alike⟩
theorem z_callV (C : Cx l g p s m meth c cc nL own) (S : SJ g Z s ws xs H locs) (hZ : Z ≤ Z') (hH : Z' ≤ H.size) (hP : va_P (gD g) vwCl wc H) (hxs : ∀ q ∈ xc, q ∈ xs) {a : Nat} (hrv : ∃ cell : Cell, H[a]? = some cell ∧ cell.vm.isStatics = false ∧ s.vm.findClass Cn = some cell.cls) (hM : Cj l g d y b mL ret mc ms Z' (.ref a :: As) wc xc post)
    (hw : Cond.code y b mL ret ∈ BW ∧ Cond.initialized y.cls ∈ BW ∧ Cond.methodLink own index y ∈ BW ∧ Cond.instanceMethod y ∈ BW) (hsel : (Cond.selects Cn y y).before args s = true) (hy : y.cls ≠ "java/lang/invoke/MethodHandle" ∧ y.cls ≠ "java/lang/invoke/VarHandle") (hlen : (parseMethodDescriptor y.desc).map (fun d => d.parameters.length) = some As.length)
    (hroom : d + 1 ≤ R.frames ∧ 8 + (mL + 11) + 64 * d ≤ R.locals) (hsize : ls.size = nL) (hst : st = As.reverse ++ .ref a :: rest) (hW : (rest.map fun v => v.category).sum ≤ 8) (hf : cells + mc ≤ R.cells ∧ slots + ms ≤ R.slots) (hdg : decode cc pc = .ok (.invokevirtual index, 3))
    (kk : ∀ (v : Option Value) (H1 : Heap) (locs1 : List Loc), post v H1 → H.size ≤ H1.size → (∀ q, q < Z' → H1[q]? = H[q]?) → va_S (zA Z) s.heap H1 locs1 → W p l e R s m args below meth c H1 locs1 (cells + mc) (slots + ms) Q (F0 m (pc + 3) ls (v.toList ++ rest))) : W p l e R s m args below meth c H locs cells slots Q (F0 m pc ls st) :=
  z_go hZ (va_runV (Ts := []) ⟨C.1, C.2.1, C.2.2.1, C.2.2.2.1, fun w h => by cases h⟩ hM ⟨v_cb C hw.1 hw.2.1 hw.2.2.1 hy hlen hroom, C.2.2.2.2.1.w hw.2.2.2, hsel⟩ ⟨Pj.blind, hrv, z_pj C S hZ hH hP hxs _⟩ rfl rfl hsize hst (lv_room hW) hdg hf) S hH kk
theorem z_callS (C : Cx l g p s m meth c cc nL own) (S : SJ g Z s ws xs H locs) (hZ : Z ≤ Z') (hH : Z' ≤ H.size) (hP : va_P (gD g) vwCl wc H) (hxs : ∀ q ∈ xc, q ∈ xs) (hM : Cj l g d y b mL ret mc ms Z' As wc xc post)
    (hw : Cond.code y b mL ret ∈ BW ∧ Cond.initialized y.cls ∈ BW ∧ Cond.methodLink own index y ∈ BW ∧ Cond.static y ∈ BW) (hy : y.cls ≠ "java/lang/invoke/MethodHandle" ∧ y.cls ≠ "java/lang/invoke/VarHandle") (hlen : (parseMethodDescriptor y.desc).map (fun d => d.parameters.length) = some As.length)
    (hroom : d + 1 ≤ R.frames ∧ 8 + (mL + 11) + 64 * d ≤ R.locals) (hsize : ls.size = nL) (hst : st = As.reverse ++ rest) (hW : (rest.map fun v => v.category).sum ≤ 8) (hf : cells + mc ≤ R.cells ∧ slots + ms ≤ R.slots) (hdg : decode cc pc = .ok (.invokestatic index, 3))
    (kk : ∀ (v : Option Value) (H1 : Heap) (locs1 : List Loc), post v H1 → H.size ≤ H1.size → (∀ q, q < Z' → H1[q]? = H[q]?) → va_S (zA Z) s.heap H1 locs1 → W p l e R s m args below meth c H1 locs1 (cells + mc) (slots + ms) Q (F0 m (pc + 3) ls (v.toList ++ rest))) : W p l e R s m args below meth c H locs cells slots Q (F0 m pc ls st) :=
  z_go hZ (va_runS (Ts := []) ⟨C.1, C.2.1, C.2.2.1, C.2.2.2.1, fun w h => by cases h⟩ hM ⟨v_cb C hw.1 hw.2.1 hw.2.2.1 hy hlen hroom, C.2.2.2.2.1.w hw.2.2.2⟩ ⟨Pj.blind, z_pj C S hZ hH hP hxs _⟩ rfl rfl hsize hst (lv_room hW) hdg hf) S hH kk
theorem z_callI (C : Cx l g p s m meth c cc nL own) (S : SJ g Z s ws xs H locs) (hZ : Z ≤ Z') (hH : Z' ≤ H.size) (hP : va_P (gD g) vwCl wc H) (hxs : ∀ q ∈ xc, q ∈ xs) {a : Nat} (hM : Cj l g d y b mL none mc ms Z' (.ref a :: As) wc xc post)
    (hw : Cond.code y b mL none ∈ BW ∧ Cond.initialized y.cls ∈ BW ∧ Cond.methodLink own index y ∈ BW ∧ Cond.instanceMethod y ∈ BW) (hin : y.name = "<init>") (hy : y.cls ≠ "java/lang/invoke/MethodHandle" ∧ y.cls ≠ "java/lang/invoke/VarHandle") (hlen : (parseMethodDescriptor y.desc).map (fun d => d.parameters.length) = some As.length)
    (hroom : d + 1 ≤ R.frames ∧ 8 + (mL + 11) + 64 * d ≤ R.locals) (hsize : ls.size = nL) (hst : st = As.reverse ++ .ref a :: rest) (hW : (rest.map fun v => v.category).sum ≤ 8) (hf : cells + mc ≤ R.cells ∧ slots + ms ≤ R.slots) (hdg : decode cc pc = .ok (.invokespecial index, 3))
    (kk : ∀ (v : Option Value) (H1 : Heap) (locs1 : List Loc), post v H1 → H.size ≤ H1.size → (∀ q, q < Z' → H1[q]? = H[q]?) → va_S (zA Z) s.heap H1 locs1 → W p l e R s m args below meth c H1 locs1 (cells + mc) (slots + ms) Q (F0 m (pc + 3) ls (v.toList ++ rest))) : W p l e R s m args below meth c H locs cells slots Q (F0 m pc ls st) :=
  z_go hZ (va_runI (Ts := []) ⟨C.1, C.2.1, C.2.2.1, C.2.2.2.1, fun w h => by cases h⟩ hM ⟨v_cb C hw.1 hw.2.1 hw.2.2.1 hy hlen hroom, hin, C.2.2.2.2.1.w hw.2.2.2⟩ ⟨Pj.blind, z_pj C S hZ hH hP hxs _⟩ rfl rfl hsize hst (lv_room hW) hdg hf) S hH kk
/-- super.m(..) of a builder -/
theorem z_callU (C : Cx l g p s m meth c cc nL own) (S : SJ g Z s ws xs H locs) (hZ : Z ≤ Z') (hH : Z' ≤ H.size) (hP : va_P (gD g) vwCl wc H) (hxs : ∀ q ∈ xc, q ∈ xs) {a : Nat} (hrv : ∃ cell : Cell, H[a]? = some cell ∧ cell.vm.isStatics = false ∧ s.vm.findClass RJ4 = some cell.cls) (hM : Cj l g d y b mL ret mc ms Z' (.ref a :: As) wc xc post)
    (hw : Cond.code y b mL ret ∈ BW ∧ Cond.initialized y.cls ∈ BW ∧ Cond.methodLink own index y ∈ BW ∧ Cond.instanceMethod y ∈ BW ∧ Cond.sameMethod y.cls y.cls y.name y.desc ∈ BW ∧ Cond.superclass own y.cls ∈ BW) (hno : y.name ≠ "<init>") (hlen : (parseMethodDescriptor y.desc).map (fun d => d.parameters.length) = some As.length)
    (hroom : d + 1 ≤ R.frames ∧ 8 + (mL + 11) + 64 * d ≤ R.locals) (hsize : ls.size = nL) (hst : st = As.reverse ++ .ref a :: rest) (hW : (rest.map fun v => v.category).sum ≤ 8) (hf : cells + mc ≤ R.cells ∧ slots + ms ≤ R.slots) (hdg : decode cc pc = .ok (.invokespecial index, 3))
    (kk : ∀ (v : Option Value) (H1 : Heap) (locs1 : List Loc), post v H1 → H.size ≤ H1.size → (∀ q, q < Z' → H1[q]? = H[q]?) → va_S (zA Z) s.heap H1 locs1 → W p l e R s m args below meth c H1 locs1 (cells + mc) (slots + ms) Q (F0 m (pc + 3) ls (v.toList ++ rest))) : W p l e R s m args below meth c H locs cells slots Q (F0 m pc ls st) :=
  z_go hZ (va_runSU (Ts := []) (C.2.2.2.2.1.2.1.1 15 _ rfl).2 ⟨C.1, C.2.1, C.2.2.1, C.2.2.2.1, fun w h => by cases h⟩ hM ⟨⟨rfl, rfl, hroom.1, hroom.2, fun w hw' a' U hW => v_code (s := s) hw.1 w hw' a' U hW C.2.2.2.2.1.1, List.mem_singleton.mpr rfl⟩, C.2.2.2.2.1.w hw.2.2.1, C.2.2.2.2.1.w hw.2.2.2.2.1, C.2.2.2.2.1.w hw.2.2.2.2.2, C.2.2.2.2.1.w hw.2.2.2.1, C.2.2.2.2.1.w hw.2.1, C.2.2.2.2.1.w hw.1, hno, fun sig h => by rw [h] at hlen; exact (Option.some.inj hlen).symm⟩ ⟨Pj.blind, hrv, z_pj C S hZ hH hP hxs _⟩ rfl rfl hsize hst (lv_room hW) hdg hf) S hH kk
/-- a builder's cell as a receiver -/
theorem z_recv (C : Cx l g p s m meth c cc nL own) (S : SJ g Z s ws xs H locs) (q0 : Nat) {a ci : Nat} {fs : List Value} (he : ws[q0]? = some (a, .inr (ci, fs))) {T : u_T} {N : Nat} (hc : vwCl[ci]? = some (Cn, T, N)) : ∃ cell : Cell, H[a]? = some cell ∧ cell.vm.isStatics = false ∧ s.vm.findClass Cn = some cell.cls :=
  va_recv C.2.2.2.2.1.2.1 S.1 hc he
theorem z_srecv (S : SJ g Z s ws xs H locs) {q : Txt3} (hq : q ∈ xs) : ∃ cell : Cell, H[q.1]? = some cell ∧ cell.vm.isStatics = false ∧ s.vm.findClass "java/lang/String" = some cell.cls := by
  obtain ⟨cell, h1, h2, h3, -⟩ := (S.str (Nat.le_refl Z) hq).1
  exact ⟨cell, h1, h2, h3⟩
/-- ends -/
theorem z_iret {ty : FieldType} (C : Cx l g p s m meth c cc nL own) (S : va_S (zA Z) s.heap H locs) (hr : meth.sig.returnType = some ty) {v : Int32} (hn : narrow ty (.int v) = .int v) (hp : post (some (.int v)) H) (hdg : decode cc pc = .ok (.ireturn, 1)) : W p l e R s m args below meth c H locs cells slots (MQ below (Qj Z post) args s cells slots (zA Z)) (F0 m pc ls [.int v]) :=
  W.zret C.1 C.2.1 hr hn (fun t ht _ => ⟨⟨_, rfl, by rw [ht]; exact hp⟩, S.F ht⟩) S.2.2 hdg C.2.2.2.2.2.2
theorem z_vret (C : Cx l g p s m meth c cc nL own) (S : va_S (zA Z) s.heap H locs) (hr : meth.sig.returnType = none) (hp : post none H) (hdg : decode cc pc = .ok (.return_, 1)) : W p l e R s m args below meth c H locs cells slots (MQ below (Qj Z post) args s cells slots (zA Z)) (F0 m pc ls []) :=
  W.vret C.1 C.2.1 hr (fun t ht _ => ⟨⟨_, rfl, by rw [ht]; exact hp⟩, S.F ht⟩) S.2.2 hdg C.2.2.2.2.2.2
theorem z_aret (C : Cx l g p s m meth c cc nL own) (S : va_S (zA Z) s.heap H locs) {t9 : FieldType} (hr : meth.sig.returnType = some t9) (ht9 : (∃ C9, t9 = .object C9) ∨ ∃ t8, t9 = .array t8) {a : Nat} (hp : post (some (.ref a)) H) (hdg : decode cc pc = .ok (.areturn, 1)) : W p l e R s m args below meth c H locs cells slots (MQ below (Qj Z post) args s cells slots (zA Z)) (F0 m pc ls [.ref a]) :=
  W.aret C.1 C.2.1 hr ht9 (Or.inr ⟨_, rfl⟩) (fun t ht _ => ⟨⟨_, rfl, by rw [ht]; exact hp⟩, S.F ht⟩) S.2.2 hdg C.2.2.2.2.2.2
end VJ
