/-! ===== chains of a builder in the law ===== -/
set_option maxRecDepth 100000 in
theorem cl_RX12_97 : Cond.classLink RX12 97 RJ4 ∈ BW := bw_in (List.mem_of_getElem? (i := 475) (by rfl)) (by rfl)
set_option maxRecDepth 100000 in
theorem iz_RJ4 : Cond.instantiable RJ4 4 ∈ BW := bw_in (List.mem_of_getElem? (i := 476) (by rfl)) (by rfl)
set_option maxRecDepth 100000 in
theorem jc_J4_init_da8c8 : Cond.code yJ4_init_da8c8 cJ4_init_da8c8 1 none ∈ BW := bw_in (List.mem_of_getElem? (i := 479) (by rfl)) (by rfl)
set_option maxRecDepth 100000 in
theorem jl_RX12_99 : Cond.methodLink RX12 99 yJ4_init_da8c8 ∈ BW := bw_in (List.mem_of_getElem? (i := 477) (by rfl)) (by rfl)
set_option maxRecDepth 100000 in
theorem ji_J4_init_da8c8 : Cond.instanceMethod yJ4_init_da8c8 ∈ BW := bw_in (List.mem_of_getElem? (i := 478) (by rfl)) (by rfl)
set_option maxRecDepth 100000 in
theorem jc_J4_append_15ec4 : Cond.code yJ4_append_15ec4 cJ4_append_15ec4 2 (some (.object "java/lang/StringBuilder")) ∈ BW := bw_in (List.mem_of_getElem? (i := 510) (by rfl)) (by rfl)
set_option maxRecDepth 100000 in
theorem jl_RX12_102 : Cond.methodLink RX12 102 yJ4_append_15ec4 ∈ BW := bw_in (List.mem_of_getElem? (i := 507) (by rfl)) (by rfl)
set_option maxRecDepth 100000 in
theorem ji_J4_append_15ec4 : Cond.instanceMethod yJ4_append_15ec4 ∈ BW := bw_in (List.mem_of_getElem? (i := 508) (by rfl)) (by rfl)
set_option maxRecDepth 100000 in
theorem js_RJ4_J4_append_15ec4 : Cond.selects RJ4 yJ4_append_15ec4 yJ4_append_15ec4 ∈ BW := bw_in (List.mem_of_getElem? (i := 509) (by rfl)) (by rfl)
set_option maxRecDepth 100000 in
theorem jc_J4_append_bf812 : Cond.code yJ4_append_bf812 cJ4_append_bf812 2 (some (.object "java/lang/StringBuilder")) ∈ BW := bw_in (List.mem_of_getElem? (i := 630) (by rfl)) (by rfl)
set_option maxRecDepth 100000 in
theorem jl_RX12_106 : Cond.methodLink RX12 106 yJ4_append_bf812 ∈ BW := bw_in (List.mem_of_getElem? (i := 627) (by rfl)) (by rfl)
set_option maxRecDepth 100000 in
theorem ji_J4_append_bf812 : Cond.instanceMethod yJ4_append_bf812 ∈ BW := bw_in (List.mem_of_getElem? (i := 628) (by rfl)) (by rfl)
set_option maxRecDepth 100000 in
theorem js_RJ4_J4_append_bf812 : Cond.selects RJ4 yJ4_append_bf812 yJ4_append_bf812 ∈ BW := bw_in (List.mem_of_getElem? (i := 629) (by rfl)) (by rfl)
set_option maxRecDepth 100000 in
theorem jc_J4_append_cf468 : Cond.code yJ4_append_cf468 cJ4_append_cf468 2 (some (.object "java/lang/StringBuilder")) ∈ BW := bw_in (List.mem_of_getElem? (i := 798) (by rfl)) (by rfl)
set_option maxRecDepth 100000 in
theorem jl_RX12_135 : Cond.methodLink RX12 135 yJ4_append_cf468 ∈ BW := bw_in (List.mem_of_getElem? (i := 795) (by rfl)) (by rfl)
set_option maxRecDepth 100000 in
theorem ji_J4_append_cf468 : Cond.instanceMethod yJ4_append_cf468 ∈ BW := bw_in (List.mem_of_getElem? (i := 796) (by rfl)) (by rfl)
set_option maxRecDepth 100000 in
theorem js_RJ4_J4_append_cf468 : Cond.selects RJ4 yJ4_append_cf468 yJ4_append_cf468 ∈ BW := bw_in (List.mem_of_getElem? (i := 797) (by rfl)) (by rfl)
set_option maxRecDepth 100000 in
theorem jc_J4_toString_0e30d : Cond.code yJ4_toString_0e30d cJ4_toString_0e30d 1 (some (.object "java/lang/String")) ∈ BW := bw_in (List.mem_of_getElem? (i := 660) (by rfl)) (by rfl)
set_option maxRecDepth 100000 in
theorem jl_RX12_119 : Cond.methodLink RX12 119 yJ4_toString_0e30d ∈ BW := bw_in (List.mem_of_getElem? (i := 657) (by rfl)) (by rfl)
set_option maxRecDepth 100000 in
theorem ji_J4_toString_0e30d : Cond.instanceMethod yJ4_toString_0e30d ∈ BW := bw_in (List.mem_of_getElem? (i := 658) (by rfl)) (by rfl)
set_option maxRecDepth 100000 in
theorem js_RJ4_J4_toString_0e30d : Cond.selects RJ4 yJ4_toString_0e30d yJ4_toString_0e30d ∈ BW := bw_in (List.mem_of_getElem? (i := 659) (by rfl)) (by rfl)
section VC
variable {l : Launch} {g : GL} {p : Program} {e : Jvm.Env} {R0 : Room} {s : State} {m : MethodId} {args : Array Value} {below : List Frame} {meth : Method} {c : Code} {H : Heap} {locs : List Loc} {cells slots : Nat} {Q : State → Prop}
variable {cc : ByteArray} {nL : Nat} {pc Z b : Nat} {ls : Array Slot} {rest : List Value} {σ : Sg} {u : List Nat}
theorem SBu.lt {H : Heap} (h : SBu g Z b u H) : Z ≤ b ∧ b < H.size := by
  obtain ⟨w, mm, f, hP, hD, -⟩ := h
  exact ⟨hD.2 0 _ rfl, (hP 0 _ rfl).lt⟩
/-- new StringBuilder() -/
theorem t_new (C : Cx l g p s m meth c cc nL RX12) (hg : gZ g = 1) (S : StL g 202 s σ H locs) (hH : gb g + 202 ≤ H.size) (hroom : 4 ≤ R0.frames ∧ 212 ≤ R0.locals) (hsize : ls.size = nL) (hW : (rest.map fun v => v.category).sum ≤ 7) (hf : cells + 2 ≤ R0.cells ∧ slots + 20 ≤ R0.slots)
    (d0 : decode cc pc = .ok (.new 97, 3)) (d3 : decode cc (pc + 3) = .ok (.dup, 1)) (d4 : decode cc (pc + 3 + 1) = .ok (.invokespecial 99, 3))
    (kk : ∀ (Z : Nat) (H1 : Heap) (locs1 : List Loc), Z = H.size → StL g 202 s σ H1 locs1 → gb g + 202 ≤ Z → Z ≤ H1.size → (∀ q, q < Z → H1[q]? = H[q]?) → SBu g Z Z [] H1 → W p l e R0 s m args below meth c H1 locs1 (cells + 2) (slots + 20) Q (F0 m (pc + 3 + 1 + 3) ls (.ref Z :: rest))) : W p l e R0 s m args below meth c H locs cells slots Q (F0 m pc ls rest) := by
  refine y_new C S inBJ4 tyJ4_ok (ci := 15) (fs := [.null, .int 0, .int 0, .int 0]) rfl ⟨cl_RX12_97, iz_RJ4, jn_RJ4⟩ (fun j hj => by match j, hj with | 0, _ => rfl | 1, _ => rfl | 2, _ => rfl | 3, _ => rfl | j + 4, hj => omega) (by omega) (by omega) d0 (fun H1 hz1 hk1 hP S => ?_)
  refine lv_dup C.1 C.2.1 d3 rfl ?_
  have hD : va_D (zA H.size) [(H.size, (.inr (15, [.null, .int 0, .int 0, .int 0]) : va_E))] := by
    refine ⟨fun i j x y hi hj _ => ?_, fun k q hq => ?_⟩
    · have h1 := (List.getElem?_eq_some_iff.mp hi).1
      have h2 := (List.getElem?_eq_some_iff.mp hj).1
      simp at h1 h2
      omega
    · have h1 := (List.getElem?_eq_some_iff.mp hq).1
      simp at h1
      subst h1
      cases hq
      exact Nat.le_refl _
  have hW8 : ((.ref H.size :: rest : List Value).map fun v => v.category).sum ≤ 8 := by
    rw [List.map_cons, List.sum_cons]
    exact Nat.add_le_add (show Value.category (.ref H.size) ≤ 1 from Nat.le_refl 1) hW
  refine y_callI (Z := H.size) C hg S hH (by omega) hP (xc := []) (fun q hq => by cases hq) (k_init4 hD) ⟨jc_J4_init_da8c8, jn_RJ4, jl_RX12_99, ji_J4_init_da8c8⟩ rfl ⟨by decide, by decide⟩ rfl ⟨by omega, by omega⟩ hsize rfl hW8 ⟨by omega, by omega⟩ d4 (fun v H2 locs1 hp hz hk S => ?_)
  obtain ⟨rfl, hB⟩ := hp
  exact kk H.size H2 locs1 rfl S hH (by omega) (fun q hq => (hk q hq).trans (hk1 q hq)) hB
theorem t_recv (C : Cx l g p s m meth c cc nL RX12) (hB : SBu g Z b u H) : ∃ cell : Cell, H[b]? = some cell ∧ cell.vm.isStatics = false ∧ s.vm.findClass RJ4 = some cell.cls := by
  obtain ⟨w, mm, f, hP, -⟩ := hB
  exact va_recv C.2.2.2.2.1.2.1 hP (q0 := 0) (q := (RJ4, TJ4, 4)) rfl rfl
/-- append of a text -/
theorem t_str (C : Cx l g p s m meth c cc nL RX12) (hg : gZ g = 1) (S : StL g 202 s σ H locs) (hZ : gb g + 202 ≤ Z) (hH : Z ≤ H.size) (hB : SBu g Z b u H) {q : Txt3} (hq : StrX (zA Z) s H q) (hasc : ∀ c ∈ q.2.2, c < 128) (h5 : u.length + q.2.2.length ≤ 500) (hroom : 7 ≤ R0.frames ∧ 405 ≤ R0.locals) (hsize : ls.size = nL) (hW : (rest.map fun v => v.category).sum ≤ 8) (hf : cells + 1 ≤ R0.cells ∧ slots + 1010 ≤ R0.slots) (hdg : decode cc pc = .ok (.invokevirtual 102, 3))
    (kk : ∀ (H1 : Heap) (locs1 : List Loc), StL g 202 s σ H1 locs1 → H.size ≤ H1.size → (∀ q, q < Z → H1[q]? = H[q]?) → SBu g Z b (u ++ q.2.2) H1 → W p l e R0 s m args below meth c H1 locs1 (cells + 1) (slots + 1010) Q (F0 m (pc + 3) ls (.ref b :: rest))) : W p l e R0 s m args below meth c H locs cells slots Q (F0 m pc ls (.ref q.1 :: .ref b :: rest)) := by
  have hrv := t_recv C hB
  obtain ⟨w, mm, f, hP, hD, h1, h2, h3, h4⟩ := hB
  refine y_callV (Cn := RJ4) C hg S hZ hH hP (xc := [q]) (fun q' hq' => by rw [List.mem_singleton.mp hq']; exact hq) hrv (k_appStr (List.mem_singleton.mpr rfl) hasc h5 h1 h2 h3 h4 hD) ⟨jc_J4_append_15ec4, jn_RJ4, jl_RX12_102, ji_J4_append_15ec4, js_RJ4_J4_append_15ec4⟩ ⟨by decide, by decide⟩ rfl ⟨by omega, by omega⟩ hsize rfl hW ⟨by omega, by omega⟩ hdg (fun v H1 locs1 hp hz hk S => ?_)
  obtain ⟨rfl, hB⟩ := hp
  exact kk H1 locs1 S hz hk hB
/-- append of a constant -/
theorem t_cst (C : Cx l g p s m meth c cc nL RX12) (hg : gZ g = 1) (S : StL g 202 s σ H locs) (hZ : gb g + 202 ≤ Z) (hH : Z ≤ H.size) (hB : SBu g Z b u H) {i : Nat} (hi : i < 22) (h5 : u.length + 7 ≤ 500) (hroom : 7 ≤ R0.frames ∧ 405 ≤ R0.locals) (hsize : ls.size = nL) (hW : (rest.map fun v => v.category).sum ≤ 8) (hf : cells + 1 ≤ R0.cells ∧ slots + 1010 ≤ R0.slots) (hdg : decode cc pc = .ok (.invokevirtual 102, 3))
    (kk : ∀ (H1 : Heap) (locs1 : List Loc), StL g 202 s σ H1 locs1 → H.size ≤ H1.size → (∀ q, q < Z → H1[q]? = H[q]?) → SBu g Z b (u ++ kwL i) H1 → W p l e R0 s m args below meth c H1 locs1 (cells + 1) (slots + 1010) Q (F0 m (pc + 3) ls (.ref b :: rest))) : W p l e R0 s m args below meth c H locs cells slots Q (F0 m pc ls (.ref (gS g i) :: .ref b :: rest)) :=
  t_str C hg S hZ hH hB (q := (gS g i, gV g i, kwL i)) (cst_str C.2.2.2.2.1 (S.low C.2.2.2.2.2.1) (by omega) hi) (kwL_asc i hi) (by have := kwL_short i hi; show u.length + (kwL i).length ≤ 500; omega) hroom hsize hW hf hdg kk
/-- append of the law's text -/
theorem t_txt (C : Cx l g p s m meth c cc nL RX12) (hg : gZ g = 1) (S : StL g 202 s σ H locs) (hZ : gb g + 202 ≤ Z) (hH : Z ≤ H.size) (hB : SBu g Z b u H) {a v : Nat} {t : List Nat} (ht : TXt g a v t H) (ha : a < Z) (hv : v < Z) (hasc : ∀ c ∈ t, c < 128) (h5 : u.length + t.length ≤ 500) (hroom : 7 ≤ R0.frames ∧ 405 ≤ R0.locals) (hsize : ls.size = nL) (hW : (rest.map fun v => v.category).sum ≤ 8) (hf : cells + 1 ≤ R0.cells ∧ slots + 1010 ≤ R0.slots) (hdg : decode cc pc = .ok (.invokevirtual 102, 3))
    (kk : ∀ (H1 : Heap) (locs1 : List Loc), StL g 202 s σ H1 locs1 → H.size ≤ H1.size → (∀ q, q < Z → H1[q]? = H[q]?) → SBu g Z b (u ++ t) H1 → W p l e R0 s m args below meth c H1 locs1 (cells + 1) (slots + 1010) Q (F0 m (pc + 3) ls (.ref b :: rest))) : W p l e R0 s m args below meth c H locs cells slots Q (F0 m pc ls (.ref a :: .ref b :: rest)) :=
  t_str C hg S hZ hH hB (q := (a, v, t)) (ht.str C.2.2.2.2.1 ha hv (by omega)) hasc h5 hroom hsize hW hf hdg kk
theorem t_int (C : Cx l g p s m meth c cc nL RX12) (hg : gZ g = 1) (S : StL g 202 s σ H locs) (hZ : gb g + 202 ≤ Z) (hH : Z ≤ H.size) (hB : SBu g Z b u H) {n : Nat} (hn : n < 10000) (h5 : u.length + 4 ≤ 500) (hroom : 7 ≤ R0.frames ∧ 405 ≤ R0.locals) (hsize : ls.size = nL) (hW : (rest.map fun v => v.category).sum ≤ 8) (hf : cells + 1 ≤ R0.cells ∧ slots + 1010 ≤ R0.slots) (hdg : decode cc pc = .ok (.invokevirtual 106, 3))
    (kk : ∀ (H1 : Heap) (locs1 : List Loc), StL g 202 s σ H1 locs1 → H.size ≤ H1.size → (∀ q, q < Z → H1[q]? = H[q]?) → SBu g Z b (u ++ dec n) H1 → W p l e R0 s m args below meth c H1 locs1 (cells + 1) (slots + 1010) Q (F0 m (pc + 3) ls (.ref b :: rest))) : W p l e R0 s m args below meth c H locs cells slots Q (F0 m pc ls (.int (nI n) :: .ref b :: rest)) := by
  have hrv := t_recv C hB
  obtain ⟨w, mm, f, hP, hD, h1, h2, h3, h4⟩ := hB
  refine y_callV (Cn := RJ4) C hg S hZ hH hP (xc := []) (fun q hq => by cases hq) hrv (k_appI hn (by have := dg_in n; omega) h1 h2 h3 h4 hD) ⟨jc_J4_append_bf812, jn_RJ4, jl_RX12_106, ji_J4_append_bf812, js_RJ4_J4_append_bf812⟩ ⟨by decide, by decide⟩ rfl ⟨by omega, by omega⟩ hsize rfl hW ⟨by omega, by omega⟩ hdg (fun v H1 locs1 hp hz hk S => ?_)
  obtain ⟨rfl, hB⟩ := hp
  exact kk H1 locs1 S hz hk hB
theorem t_chr (C : Cx l g p s m meth c cc nL RX12) (hg : gZ g = 1) (S : StL g 202 s σ H locs) (hZ : gb g + 202 ≤ Z) (hH : Z ≤ H.size) (hB : SBu g Z b u H) {n : Nat} (hn : n < 128) (h5 : u.length + 1 ≤ 500) (hroom : 7 ≤ R0.frames ∧ 405 ≤ R0.locals) (hsize : ls.size = nL) (hW : (rest.map fun v => v.category).sum ≤ 8) (hf : cells + 1 ≤ R0.cells ∧ slots + 1010 ≤ R0.slots) (hdg : decode cc pc = .ok (.invokevirtual 135, 3))
    (kk : ∀ (H1 : Heap) (locs1 : List Loc), StL g 202 s σ H1 locs1 → H.size ≤ H1.size → (∀ q, q < Z → H1[q]? = H[q]?) → SBu g Z b (u ++ [n]) H1 → W p l e R0 s m args below meth c H1 locs1 (cells + 1) (slots + 1010) Q (F0 m (pc + 3) ls (.ref b :: rest))) : W p l e R0 s m args below meth c H locs cells slots Q (F0 m pc ls (.int (nI n) :: .ref b :: rest)) := by
  have hrv := t_recv C hB
  obtain ⟨w, mm, f, hP, hD, h1, h2, h3, h4⟩ := hB
  refine y_callV (Cn := RJ4) C hg S hZ hH hP (xc := []) (fun q hq => by cases hq) hrv (k_appC hn h5 h1 h2 h3 h4 hD) ⟨jc_J4_append_cf468, jn_RJ4, jl_RX12_135, ji_J4_append_cf468, js_RJ4_J4_append_cf468⟩ ⟨by decide, by decide⟩ rfl ⟨by omega, by omega⟩ hsize rfl hW ⟨by omega, by omega⟩ hdg (fun v H1 locs1 hp hz hk S => ?_)
  obtain ⟨rfl, hB⟩ := hp
  exact kk H1 locs1 S hz hk hB
theorem t_end (C : Cx l g p s m meth c cc nL RX12) (hg : gZ g = 1) (S : StL g 202 s σ H locs) (hZ : gb g + 202 ≤ Z) (hH : Z ≤ H.size) (hB : SBu g Z b u H) (hroom : 7 ≤ R0.frames ∧ 405 ≤ R0.locals) (hsize : ls.size = nL) (hW : (rest.map fun v => v.category).sum ≤ 8) (hf : cells + 2 ≤ R0.cells ∧ slots + 1014 ≤ R0.slots) (hdg : decode cc pc = .ok (.invokevirtual 119, 3))
    (kk : ∀ (a v : Nat) (H1 : Heap) (locs1 : List Loc), StL g 202 s σ H1 locs1 → H.size ≤ H1.size → (∀ q, q < Z → H1[q]? = H[q]?) → TXt g a v u H1 → gb g + 203 ≤ a → gb g + 202 ≤ v → W p l e R0 s m args below meth c H1 locs1 (cells + 2) (slots + 1014) Q (F0 m (pc + 3) ls (.ref a :: rest))) : W p l e R0 s m args below meth c H locs cells slots Q (F0 m pc ls (.ref b :: rest)) := by
  have hrv := t_recv C hB
  obtain ⟨w, mm, f, hP, hD, h1, h2, h3, h4⟩ := hB
  refine y_callV (Cn := RJ4) C hg S hZ hH hP (xc := []) (fun q hq => by cases hq) hrv (k_toStr h1 h2 h3 hD) ⟨jc_J4_toString_0e30d, jn_RJ4, jl_RX12_119, ji_J4_toString_0e30d, js_RJ4_J4_toString_0e30d⟩ ⟨by decide, by decide⟩ rfl ⟨by omega, by omega⟩ hsize rfl hW ⟨by omega, by omega⟩ hdg (fun v H1 locs1 hp hz hk S => ?_)
  obtain ⟨a0, a, f1, rfl, hlt, hP1, hD1, hk1⟩ := hp
  have hv : Z ≤ a := hD1.2 1 _ rfl
  exact kk a0 a H1 locs1 S hz hk ⟨f1, hP1, fun j hj => (hk1 j hj).trans (h4 j hj)⟩ (by omega) (by omega)
end VC
