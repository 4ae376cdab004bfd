/-! ===== more of the builder's instructions: an overriding method, clone ===== -/
section VJ3
variable {l : Launch} {g : GL} {p : Program} {e : Jvm.Env} {R : Room} {s : State} {m : MethodId} {args : Array Value} {below : List Frame} {meth : Method} {c : Code} {H : Heap} {locs : List Loc} {cells slots : Nat} {Q : State → Prop}
variable {cc : ByteArray} {nL : Nat} {own owner : String} {pc d mc ms mL index Z Z' : Nat} {ls : Array Slot} {rest st : List Value} {ws wc : va_W} {xs xc : List Txt3} {Cn : String} {x y : MethodName} {b : ByteArray} {ret : Option FieldType} {As : List Value} {post : Option Value → Heap → Prop}
theorem z_callO (C : Cx l g p s m meth c cc nL own) (S : SJ g Z s ws xs H locs) (hZ : Z ≤ Z') (hH : Z' ≤ H.size) (hP : va_P (gD g) vwCl wc H) (hxs : ∀ q ∈ xc, q ∈ xs) {a : Nat} (hrv : ∃ cell : Cell, H[a]? = some cell ∧ cell.vm.isStatics = false ∧ s.vm.findClass Cn = some cell.cls) (hM : Cj l g d y b mL ret mc ms Z' (.ref a :: As) wc xc post)
    (hw : Cond.code y b mL ret ∈ BW ∧ Cond.initialized y.cls ∈ BW ∧ Cond.methodLink own index x ∈ BW ∧ Cond.instanceMethod y ∈ BW ∧ Cond.sameMethod x.cls owner x.name x.desc ∈ BW ∧ Cond.selects Cn x y ∈ BW ∧ Cond.instanceMethod ⟨owner, x.name, x.desc⟩ ∈ BW) {b0 : ByteArray} {m0 : Nat} {r0 : Option FieldType} (hc0 : Cond.code ⟨owner, x.name, x.desc⟩ b0 m0 r0 ∈ BW)
    (hy : owner ≠ "java/lang/invoke/MethodHandle" ∧ owner ≠ "java/lang/invoke/VarHandle") (hlen : (parseMethodDescriptor x.desc).map (fun d => d.parameters.length) = some As.length)
    (hroom : d + 1 ≤ R.frames ∧ 8 + (mL + 11) + 64 * d ≤ R.locals) (hsize : ls.size = nL) (hst : st = As.reverse ++ .ref a :: rest) (hW : (rest.map fun v => v.category).sum ≤ 8) (hf : cells + mc ≤ R.cells ∧ slots + ms ≤ R.slots) (hdg : decode cc pc = .ok (.invokevirtual index, 3))
    (kk : ∀ (v : Option Value) (H1 : Heap) (locs1 : List Loc), post v H1 → H.size ≤ H1.size → (∀ q, q < Z' → H1[q]? = H[q]?) → va_S (zA Z) s.heap H1 locs1 → W p l e R s m args below meth c H1 locs1 (cells + mc) (slots + ms) Q (F0 m (pc + 3) ls (v.toList ++ rest))) : W p l e R s m args below meth c H locs cells slots Q (F0 m pc ls st) :=
  z_go hZ (va_runU (Ts := []) ⟨C.1, C.2.1, C.2.2.1, C.2.2.2.1, fun w h => by cases h⟩ hM ⟨⟨rfl, rfl, hroom.1, hroom.2, fun w hw' a' U hW => v_code (s := s) hw.1 w hw' a' U hW C.2.2.2.2.1.1, List.mem_singleton.mpr rfl⟩, C.2.2.2.2.1.w hw.1, C.2.2.2.2.1.w hw.2.1, hy, fun sig h => by rw [h] at hlen; exact (Option.some.inj hlen).symm, C.2.2.2.2.1.w hw.2.2.1, C.2.2.2.2.1.w hw.2.2.2.2.1, va_Decl.of (args := args) (C.2.2.2.2.1.w hw.2.2.2.2.2.2) (C.2.2.2.2.1.w hc0), C.2.2.2.2.1.w hw.2.2.2.2.2.1, C.2.2.2.2.1.w hw.2.2.2.1⟩ ⟨Pj.blind, hrv, z_pj C S hZ hH hP hxs _⟩ rfl rfl hsize hst (lv_room hW) hdg hf) S hH kk
theorem z_clone (C : Cx l g p s m meth c cc nL own) (hsize : ls.size = nL) (S : SJ g Z s ws xs H locs) (hD : va_D (zA Z) ws) (hw : Cond.methodLink own index ⟨"[B", "clone", "()Ljava/lang/Object;"⟩ ∈ BW ∧ Cond.sameMethod "[B" "java/lang/Object" "clone" "()Ljava/lang/Object;" ∈ BW ∧ Cond.native ⟨"java/lang/Object", "clone", "()Ljava/lang/Object;"⟩ ∈ BW ∧ Cond.instanceMethod ⟨"java/lang/Object", "clone", "()Ljava/lang/Object;"⟩ ∈ BW ∧ Cond.selects "[B" ⟨"[B", "clone", "()Ljava/lang/Object;"⟩ ⟨"java/lang/Object", "clone", "()Ljava/lang/Object;"⟩ ∈ BW ∧ Cond.castable "[B" "java/lang/Cloneable" ∈ BW)
    (q0 : Nat) {a n : Nat} {f : Nat → Int32} (ha : ws[q0]? = some (a, .inl (gT g 1, n, .inl f))) (hfit : sb_Fit f) (hframes : 1 ≤ R.frames) (hlocals : (rest.map fun v => v.category).sum + 14 ≤ R.locals) (hcells : cells + 1 ≤ R.cells) (hslots : slots + n ≤ R.slots) (hdg : decode cc pc = .ok (.invokevirtual index, 3))
    (kk : ∀ (q : Nat) (H1 : Heap), SJ g Z s (ws ++ [(q, .inl (gT g 1, n, .inl f))]) xs H1 locs → va_D (zA Z) (ws ++ [(q, .inl (gT g 1, n, .inl f))]) → W p l e R s m args below meth c H1 locs (cells + 1) (slots + n) Q (F0 m (pc + 3) ls (.ref q :: rest))) : W p l e R s m args below meth c H locs cells slots Q (F0 m pc ls (.ref a :: rest)) := by
  refine va_clone C.1 C.2.1 (C.2.2.1.trans hsize.symm) (ad := "[B") C.2.2.2.1 (C.2.2.2.2.1.w hw.1) (C.2.2.2.2.1.w hw.2.1) (C.2.2.2.2.1.w hw.2.2.1) (C.2.2.2.2.1.w hw.2.2.2.1) (C.2.2.2.2.1.w hw.2.2.2.2.1) (C.2.2.2.2.1.1 _ hw.2.2.2.2.2) C.2.2.2.2.1.2.1 S.1 hD S.2.1 (fun q hq => Nat.le_trans S.2.2.2.1 hq) q0 1 ha (ty := .byte) rfl (C.2.2.2.2.1.2.1.2 1 _ rfl).2 (fun i v hv => ?_) hframes hlocals hcells hslots hdg (fun q H1 _ h1 h2 h3 => kk q H1 ⟨h1, h3, S.2.2⟩ h2)
  have hv : (vp_cell (gT g 1) (n, .inl f)).slots[i]? = some v := hv
  rw [vp_cell_i] at hv
  have hi : i < n := by
    have h := (Array.getElem?_eq_some_iff.mp hv).1
    rw [arrV_size] at h
    exact h
  rw [arrV_read _ _ hi] at hv
  cases hv
  exact hfit i
theorem z_castB (C : Cx l g p s m meth c cc nL own) (S : SJ g Z s ws xs H locs) (hw : Cond.classLink own index "[B" ∈ BW) (q0 : Nat) {a n : Nat} {f : Nat → Int32} (ha : ws[q0]? = some (a, .inl (gT g 1, n, .inl f))) (hdg : decode cc pc = .ok (.checkcast index, 3))
    (kk : W p l e R s m args below meth c H locs cells slots Q (F0 m (pc + 3) ls (.ref a :: rest))) : W p l e R s m args below meth c H locs cells slots Q (F0 m pc ls (.ref a :: rest)) :=
  va_castA C.1 C.2.1 C.2.2.2.1 (C.2.2.2.2.1.w hw) S.1 q0 ha (C.2.2.2.2.1.2.1.2 1 _ rfl).2 hdg kk
end VJ3
/-- what a builder at b holds -/
def SBu (g : GL) (Z b : Nat) (u : List Nat) (H : Heap) : Prop := ∃ w mm f, va_P (gD g) vwCl (sb2 g b w u.length mm f []) H ∧ va_D (zA Z) (sb2 g b w u.length mm f []) ∧ u.length ≤ mm ∧ mm ≤ 1010 ∧ sb_Fit f ∧ ∀ j, j < u.length → f j = nI (u.getD j 0)
theorem getD_app_lo {u t : List Nat} {j : Nat} (h : j < u.length) : (u ++ t).getD j 0 = u.getD j 0 := by
  rw [List.getD_eq_getElem?_getD, List.getD_eq_getElem?_getD, List.getElem?_append_left h]
theorem getD_app_hi {u t : List Nat} {j : Nat} : (u ++ t).getD (u.length + j) 0 = t.getD j 0 := by
  rw [List.getD_eq_getElem?_getD, List.getD_eq_getElem?_getD, List.getElem?_append_right (Nat.le_add_right _ _), Nat.add_sub_cancel_left]
/-- letters behind letters -/
theorem lt_app {u t : List Nat} {f f2 : Nat → Int32} (h : ∀ j, j < u.length → f j = nI (u.getD j 0)) (h1 : ∀ j, j < u.length → f2 j = f j) (h2 : ∀ j, j < t.length → f2 (u.length + j) = nI (t.getD j 0)) : ∀ j, j < (u ++ t).length → f2 j = nI ((u ++ t).getD j 0) := by
  intro j hj
  rw [List.length_append] at hj
  by_cases hu : j < u.length
  · rw [getD_app_lo hu, h1 j hu, h j hu]
  · obtain ⟨i, rfl⟩ : ∃ i, j = u.length + i := ⟨j - u.length, by omega⟩
    rw [getD_app_hi, h2 i (by omega)]
/-- the decimal digits of a number below 10000 -/
def dg (v : Nat) : Nat := if v < 10 then 1 else if v < 100 then 2 else if v < 1000 then 3 else 4
def dec (v : Nat) : List Nat := if v < 10 then [48 + v] else if v < 100 then [48 + v / 10, 48 + v % 10] else if v < 1000 then [48 + v / 100, 48 + v / 10 % 10, 48 + v % 10] else [48 + v / 1000, 48 + v / 100 % 10, 48 + v / 10 % 10, 48 + v % 10]
theorem dec_len (v : Nat) : (dec v).length = dg v := by
  unfold dec dg
  by_cases h1 : v < 10
  · rw [if_pos h1, if_pos h1]; rfl
  · rw [if_neg h1, if_neg h1]
    by_cases h2 : v < 100
    · rw [if_pos h2, if_pos h2]; rfl
    · rw [if_neg h2, if_neg h2]
      by_cases h3 : v < 1000
      · rw [if_pos h3, if_pos h3]; rfl
      · rw [if_neg h3, if_neg h3]; rfl
theorem dg_in (v : Nat) : 1 ≤ dg v ∧ dg v ≤ 4 := by
  unfold dg
  repeat' split
  all_goals omega
