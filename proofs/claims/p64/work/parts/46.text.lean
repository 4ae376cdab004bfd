/-! ===== texts in the law's own methods ===== -/
/-- a text that the law made: its object a, its bytes v -/
def TXt (g : GL) (a v : Nat) (t : List Nat) (H : Heap) : Prop := ∃ f, va_P (gD g) vwCl [(a, .inr (14, [.ref v, .int 0, .int 0, .int 0])), (v, .inl (gT g 1, t.length, .inl f))] H ∧ ∀ j, j < t.length → f j = nI (t.getD j 0)
theorem TXt.kept {g : GL} {a v Z : Nat} {t : List Nat} {H H1 : Heap} (h : TXt g a v t H) (ha : a < Z) (hv : v < Z) (hk : ∀ q, q < Z → H1[q]? = H[q]?) : TXt g a v t H1 := by
  obtain ⟨f, h1, h2⟩ := h
  refine ⟨f, h1.kept fun k q hq => ?_, h2⟩
  match k, hq with
  | 0, hq => cases hq; exact hk _ ha
  | 1, hq => cases hq; exact hk _ hv
  | k + 2, hq => cases (show (none : Option (Nat × va_E)) = some q from hq)
theorem TXt.str {l : Launch} {g : GL} {U : State} {a v Z : Nat} {t : List Nat} {H : Heap} (hE : Env l g U) (h : TXt g a v t H) (ha : a < Z) (hv : v < Z) (hn : t.length < 2 ^ 31) : StrX (zA Z) U H (a, v, t) := by
  obtain ⟨f, h1, h2⟩ := h
  have hK := hE.2.1
  have hts : ∀ w ∈ u_ws RJ0 TJ0 4, w.before #[] U = true := fun w hw => hE.w (inBJ0 w hw)
  obtain ⟨r, hr, cell, q1, q2, q3, q4⟩ := h1 0 _ rfl
  have hr' : r = (RJ0, TJ0, 4) := Option.some.inj (hr.symm.trans rfl)
  subst hr'
  obtain ⟨hSk, hfc, kC, hkC, hkind⟩ := hK.1 14 _ rfl
  have hF : ∀ k (hk : k < 4) (w : Value), vp_V [.ref v, .int 0, .int 0, .int 0] k = w → va_OF (TJ0 k).1 (TJ0 k).2.1 (TJ0 k).2.2.1 w a (zA Z) U H := fun k hk w hw => by
    obtain ⟨cf, kf, fi, fd, hi, hsl⟩ := hSk k hk
    have hst := (u_facts hfc hkC (u_lays hts (fun w h => h) hk) hi).1
    refine ⟨cf, kf, fi, fd, cell, hi, hst, q1, ?_, ?_, ?_⟩
    · rw [q3]; exact fun h => by cases h
    · rw [hsl, q4 k hk, hw]
    · unfold zA; omega
  refine ⟨⟨cell, q1, by rw [q3]; rfl, by rw [q2]; exact hfc, by unfold zA; omega⟩, hF 1 (by decide) _ rfl, hF 0 (by decide) _ rfl, ?_⟩
  have hc := h1 1 _ rfl
  have hA := (hK.2 1 _ rfl).1 t.length (fun j => .int (f j))
  have hvm : (vp_cell (gT g 1) (t.length, .inl f)).vm ≠ .unknown := by
    rw [vp_cell_i]
    exact fun h => by cases h
  have hv2 : ¬ zA Z v := by unfold zA; omega
  refine ⟨_, hc, hA, hvm, ?_, ?_, ?_, hv2⟩
  · show t.length ≤ (vp_cell (gT g 1) (t.length, .inl f)).slots.size
    rw [vp_cell_i, arrV_size]
    exact Nat.le_refl _
  · show (vp_cell (gT g 1) (t.length, .inl f)).slots.size.toInt32 = Int32.ofNat t.length
    rw [vp_cell_i, arrV_size]
  · intro j hj
    show (vp_cell (gT g 1) (t.length, .inl f)).slots[j]? = some (.int (nI (t.getD j 0)))
    rw [vp_cell_i, arrV_read _ _ hj, h2 j hj]
/-- the constants, letter by letter -/
def kwL (i : Nat) : List Nat := ([[110, 101, 97, 114], [116, 111], [114, 111, 97, 100], [98, 108, 97, 115, 116], [97, 116], [100, 97, 121], [115, 116, 101, 112], [99, 108, 111, 115, 101], [115, 112, 97, 99, 101], [119, 105, 110, 100], [100, 97, 121, 32], [32], [59, 115, 116, 101, 112, 32], [59, 99, 108, 111, 115, 101, 32], [59, 115, 112, 97, 99, 101, 32], [59], [119, 105, 110, 100, 32], [114, 111, 97, 100, 32], [110, 101, 97, 114, 32], [32, 116, 111, 32], [98, 108, 97, 115, 116, 32], [32, 97, 116, 32]] : List (List Nat)).getD i []
theorem kwL_len : ∀ i, i < 22 → strLen.getD i 0 = (kwL i).length := by decide
theorem kwL_byt : ∀ i, i < 22 → ∀ j, j < 10 → (strByt.getD i []).getD j 0 = nI ((kwL i).getD j 0) := by decide
theorem kwL_short : ∀ i, i < 22 → (kwL i).length ≤ 7 := by decide
theorem kwL_asc : ∀ i, i < 22 → ∀ c ∈ kwL i, c < 128 := by decide
theorem cst_str {l : Launch} {g : GL} {U : State} {H : Heap} {Z i : Nat} (hE : Env l g U) (hL : Low g H) (hZ : gb g < Z) (hi : i < 22) : StrX (zA Z) U H (gS g i, gV g i, kwL i) := by
  obtain ⟨h1, h2, h3, h4⟩ := hE.2.2.1.2.1.1 i hi
  have hk : ∀ a : Nat, a < (gH g).size → ¬ gA g a → H[a]? = (gH g)[a]? := fun a ha hn => hL.2.2 a ha (fun q => hn (Or.inr (Or.inl q)))
  have hb : ∀ a, a < (gH g).size → ¬ zA Z a := fun a ha => by have := hL.1; unfold zA; omega
  have hs : ∀ {o n d : String} {v : Value} {a : Nat}, va_OF o n d v a (gA g) U (gH g) → va_OF o n d v a (zA Z) U H := fun h => by
    obtain ⟨cf, k, i, f, cell, g1, g2, g3, g4, g5, g6⟩ := h
    have ha := (Array.getElem?_eq_some_iff.mp g3).1
    exact ⟨cf, k, i, f, cell, g1, g2, by rw [hk _ ha g6]; exact g3, g4, g5, hb _ ha⟩
  refine ⟨?_, hs h2, hs h3, ?_⟩
  · obtain ⟨cell, g1, g2, g3, g4⟩ := h1
    have ha := (Array.getElem?_eq_some_iff.mp g1).1
    exact ⟨cell, by rw [hk _ ha g4]; exact g1, g2, g3, hb _ ha⟩
  · obtain ⟨cell, g1, g2, g3, g4, g5, g6, g7⟩ := h4
    have ha := (Array.getElem?_eq_some_iff.mp g1).1
    refine ⟨cell, by rw [hk _ ha g7]; exact g1, g2, g3, ?_, ?_, fun j hj => ?_, hb _ ha⟩
    · rw [← kwL_len i hi]; exact g4
    · rw [← kwL_len i hi]; exact g5
    · have hj : j < (kwL i).length := hj
      have := kwL_short i hi
      rw [g6 j (by rw [kwL_len i hi]; exact hj)]
      show some (Value.int ((strByt.getD i []).getD j 0)) = some (Value.int (nI ((kwL i).getD j 0)))
      rw [kwL_byt i hi j (by omega)]
section VY
variable {l : Launch} {g : GL} {p : Program} {e : Jvm.Env} {R0 : Room} {s : State} {m : MethodId} {args : Array Value} {below : List Frame} {meth : Method} {c : Code} {H : Heap} {locs : List Loc} {cells slots : Nat} {Q : State → Prop}
variable {cc : ByteArray} {nL : Nat} {own : String} {pc d mc ms mL index Z n : Nat} {ls : Array Slot} {rest st : List Value} {wc : va_W} {xc : List Txt3} {Cn : String} {y : MethodName} {b : ByteArray} {ret : Option FieldType} {As : List Value} {post : Option Value → Heap → Prop} {σ : Sg}
theorem zA_gA (hg : gZ g = 1) (hZ : gb g + 202 ≤ Z) {q : Nat} (h : zA Z q) : gA g q := Or.inr (Or.inr ⟨hg, Nat.le_trans hZ h⟩)
theorem ga_lo {id : Nat} (h : id ≤ 202) : ga g id < gb g + 202 := by
  unfold ga
  split <;> omega
/-- the zone stays where the cells below Z stay -/
theorem Wd.up {H1 : Heap} (h : Wd g 202 σ H) (hZ : gb g + 202 ≤ Z) (hk : ∀ q, q < Z → H1[q]? = H[q]?) : Wd g 202 σ H1 :=
  ⟨fun id h0 h1 => (h.1 id h0 h1).kept (hk _ (Nat.lt_of_lt_of_le (ga_lo (by rw [h.2.1] at h1; exact h1)) hZ)), h.2.1, fun h => absurd h (by decide), fun h => absurd h (by decide)⟩
theorem y_go {a : Array Value} (hg : gZ g = 1) (hZ : gb g + 202 ≤ Z) (hH : Z ≤ H.size) (hr : va_Run p l e R0 s m args below meth c H locs cells slots mc ms (F0 m pc ls st) rest (Qj Z post a) (zA Z)) (S : StL g 202 s σ H locs)
    (kk : ∀ (v : Option Value) (H1 : Heap) (locs1 : List Loc), post v H1 → H.size ≤ H1.size → (∀ q, q < Z → H1[q]? = H[q]?) → StL g 202 s σ H1 locs1 → W p l e R0 s m args below meth c H1 locs1 (cells + mc) (slots + ms) Q (F0 m (pc + 3) ls (v.toList ++ rest))) : W p l e R0 s m args below meth c H locs cells slots Q (F0 m pc ls st) := by
  intro T hT X
  obtain ⟨v, st₀, t, T', L, h0, X', hL, e1, e2, ⟨⟨v', hv, hp⟩, hz, hk⟩, step⟩ := hr T hT X
  cases hv
  rw [h0] at hz hk
  have hk' : ∀ q, q < Z → T'.heap[q]? = H[q]? := fun q hq => by rw [e1]; exact hk q (Nat.lt_of_lt_of_le hq hH) (by unfold zA; omega)
  obtain ⟨t2, a1, b1⟩ := kk v T'.heap (locs ++ L) (by rw [e1]; exact hp) (by rw [e1]; exact hz) hk'
    ⟨S.1.up hZ hk', by rw [e1]; exact Nat.le_trans S.2.1 hz, fun q h1 h2 => by rw [e1, hk q (Nat.lt_of_lt_of_le h1 S.2.1) (fun z => h2 (zA_gA hg hZ z))]; exact S.2.2.1 q h1 h2, fun q hq => by
      rcases List.mem_append.mp hq with h | h
      · exact S.2.2.2 q h
      · exact zA_gA hg hZ (hL q h)⟩ T' rfl X'
  exact ⟨t2, step t2 a1, b1⟩
theorem y_pj (C : Cx l g p s m meth c cc nL own) (S : StL g 202 s σ H locs) (hZ : gb g + 202 ≤ Z) (hH : Z ≤ H.size) (hP : va_P (gD g) vwCl wc H) (hxs : ∀ q ∈ xc, StrX (zA Z) s H q) (av : List Value) : ∀ U : State, U.heap = H → s.WarmedH U.vm → Pj l g Z av wc xc av.toArray U :=
  fun U hU hW => ⟨rfl, C.2.2.2.2.1.warm hW, by rw [hU]; exact S.low C.2.2.2.2.2.1, by omega, by rw [hU]; exact hH, by rw [hU]; exact hP, fun q hq => by rw [hU]; exact (hxs q hq).moved hW.alike⟩
theorem y_callV (C : Cx l g p s m meth c cc nL own) (hg : gZ g = 1) (S : StL g 202 s σ H locs) (hZ : gb g + 202 ≤ Z) (hH : Z ≤ H.size) (hP : va_P (gD g) vwCl wc H) (hxs : ∀ q ∈ xc, StrX (zA Z) s H q) {a : Nat} (hrv : ∃ cell : Cell, H[a]? = some cell ∧ cell.vm.isStatics = false ∧ s.vm.findClass Cn = some cell.cls) (hM : Cj l g d y b mL ret mc ms Z (.ref a :: As) wc xc post)
    (hw : Cond.code y b mL ret ∈ BW ∧ Cond.initialized y.cls ∈ BW ∧ Cond.methodLink own index y ∈ BW ∧ Cond.instanceMethod y ∈ BW ∧ Cond.selects Cn y y ∈ BW) (hy : y.cls ≠ "java/lang/invoke/MethodHandle" ∧ y.cls ≠ "java/lang/invoke/VarHandle") (hlen : (parseMethodDescriptor y.desc).map (fun d => d.parameters.length) = some As.length)
    (hroom : d + 1 ≤ R0.frames ∧ 8 + (mL + 11) + 64 * d ≤ R0.locals) (hsize : ls.size = nL) (hst : st = As.reverse ++ .ref a :: rest) (hW : (rest.map fun v => v.category).sum ≤ 8) (hf : cells + mc ≤ R0.cells ∧ slots + ms ≤ R0.slots) (hdg : decode cc pc = .ok (.invokevirtual index, 3))
    (kk : ∀ (v : Option Value) (H1 : Heap) (locs1 : List Loc), post v H1 → H.size ≤ H1.size → (∀ q, q < Z → H1[q]? = H[q]?) → StL g 202 s σ H1 locs1 → W p l e R0 s m args below meth c H1 locs1 (cells + mc) (slots + ms) Q (F0 m (pc + 3) ls (v.toList ++ rest))) : W p l e R0 s m args below meth c H locs cells slots Q (F0 m pc ls st) :=
  y_go hg hZ hH (va_runV (Ts := []) ⟨C.1, C.2.1, C.2.2.1, C.2.2.2.1, fun w h => by cases h⟩ hM ⟨v_cb C hw.1 hw.2.1 hw.2.2.1 hy hlen hroom, C.2.2.2.2.1.w hw.2.2.2.1, C.2.2.2.2.1.w hw.2.2.2.2⟩ ⟨Pj.blind, hrv, y_pj C S hZ hH hP hxs _⟩ rfl rfl hsize hst (lv_room hW) hdg hf) S kk
theorem y_callI (C : Cx l g p s m meth c cc nL own) (hg : gZ g = 1) (S : StL g 202 s σ H locs) (hZ : gb g + 202 ≤ Z) (hH : Z ≤ H.size) (hP : va_P (gD g) vwCl wc H) (hxs : ∀ q ∈ xc, StrX (zA Z) s H q) {a : Nat} (hM : Cj l g d y b mL none mc ms Z (.ref a :: As) wc xc post)
    (hw : Cond.code y b mL none ∈ BW ∧ Cond.initialized y.cls ∈ BW ∧ Cond.methodLink own index y ∈ BW ∧ Cond.instanceMethod y ∈ BW) (hin : y.name = "<init>") (hy : y.cls ≠ "java/lang/invoke/MethodHandle" ∧ y.cls ≠ "java/lang/invoke/VarHandle") (hlen : (parseMethodDescriptor y.desc).map (fun d => d.parameters.length) = some As.length)
    (hroom : d + 1 ≤ R0.frames ∧ 8 + (mL + 11) + 64 * d ≤ R0.locals) (hsize : ls.size = nL) (hst : st = As.reverse ++ .ref a :: rest) (hW : (rest.map fun v => v.category).sum ≤ 8) (hf : cells + mc ≤ R0.cells ∧ slots + ms ≤ R0.slots) (hdg : decode cc pc = .ok (.invokespecial index, 3))
    (kk : ∀ (v : Option Value) (H1 : Heap) (locs1 : List Loc), post v H1 → H.size ≤ H1.size → (∀ q, q < Z → H1[q]? = H[q]?) → StL g 202 s σ H1 locs1 → W p l e R0 s m args below meth c H1 locs1 (cells + mc) (slots + ms) Q (F0 m (pc + 3) ls (v.toList ++ rest))) : W p l e R0 s m args below meth c H locs cells slots Q (F0 m pc ls st) :=
  y_go hg hZ hH (va_runI (Ts := []) ⟨C.1, C.2.1, C.2.2.1, C.2.2.2.1, fun w h => by cases h⟩ hM ⟨v_cb C hw.1 hw.2.1 hw.2.2.1 hy hlen hroom, hin, C.2.2.2.2.1.w hw.2.2.2⟩ ⟨Pj.blind, y_pj C S hZ hH hP hxs _⟩ rfl rfl hsize hst (lv_room hW) hdg hf) S kk
/-- a new object behind all cells -/
theorem y_new (C : Cx l g p s m meth c cc nL own) (S : StL g 202 s σ H locs) {T : u_T} {N ci : Nat} {ty0 : Nat → FieldType} (hin : ∀ w ∈ u_ws Cn T N, w ∈ BW) (hty : ∀ k, k < N → parseFieldDescriptor (T k).2.2.1 = some (ty0 k)) (hc : vwCl[ci]? = some (Cn, T, N)) (hw : Cond.classLink own index Cn ∈ BW ∧ Cond.instantiable Cn N ∈ BW ∧ Cond.initialized Cn ∈ BW) {fs : List Value} (hfs : ∀ j, j < N → defaultValue (ty0 j) = vp_V fs j) (hcells : cells + 1 ≤ R0.cells) (hslots : slots + N ≤ R0.slots) (hdg : decode cc pc = .ok (.new index, 3))
    (kk : ∀ (H1 : Heap), H1.size = H.size + 1 → (∀ q, q < H.size → H1[q]? = H[q]?) → va_P (gD g) vwCl [(H.size, .inr (ci, fs))] H1 → StL g 202 s σ H1 locs → W p l e R0 s m args below meth c H1 locs (cells + 1) (slots + N) Q (F0 m (pc + 3) ls (.ref H.size :: rest))) : W p l e R0 s m args below meth c H locs cells slots Q (F0 m pc ls rest) := by
  have hts : ∀ w ∈ u_ws Cn T N, w.before args s = true := fun w hw => C.2.2.2.2.1.w (hin w hw)
  have hKn := C.2.2.2.2.1.2.1.1 ci _ hc
  refine W.newcK C.1 C.2.1 C.2.2.2.1 (C.2.2.2.2.1.w hw.1) (C.2.2.2.2.1.w hw.2.1) (C.2.2.2.2.1.w hw.2.2) rfl hdg hcells hslots hKn.2.1 rfl fun H1 kC hkC e1 z1 o1 => ?_
  refine kk H1 z1 o1 (fun k x hx => ?_) ⟨⟨fun id h0 h1 => ?_, S.1.2.1, fun h => absurd h (by decide), fun h => absurd h (by decide)⟩, Nat.le_trans S.2.1 (by omega), fun x h1 h2 => (o1 x (Nat.lt_of_lt_of_le h1 S.2.1)).trans (S.2.2.1 x h1 h2), S.2.2.2⟩
  · have hz : k < 1 := (List.getElem?_eq_some_iff.mp hx).1
    rw [show k = 0 by omega] at hx
    cases hx
    exact ⟨_, hc, (u_born ty0 hts (fun w h => h) hKn hkC e1 hty).to hfs⟩
  · have hh := S.1.1 id h0 h1
    exact hh.kept (o1 _ hh.lt)
end VY
