/-! ===== the builder's instructions ===== -/
section VJ2
variable {l : Launch} {g : GL} {p : Program} {e : Jvm.Env} {R : Room} {s : State} {m : MethodId} {args : Array Value} {below : List Frame} {meth : Method} {c : Code} {H : Heap} {locs : List Loc} {cells slots : Nat} {Q : State → Prop}
variable {cc : ByteArray} {nL : Nat} {own : String} {pc index Z : Nat} {ls : Array Slot} {rest : List Value} {ws : va_W} {xs : List Txt3}
theorem z_env (C : Cx l g p s m meth c cc nL own) : EnvX g s (gH g) := C.2.2.2.2.1.2.2.1
theorem z_static (C : Cx l g p s m meth c cc nL own) (S : SJ g Z s ws xs H locs) {C0 n0 d0 : String} {v : Value} (h : va_Z C0 n0 d0 v (gA g) s (gH g)) (hw : Cond.fieldLink own index C0 n0 d0 ∈ BW) (hdg : decode cc pc = .ok (.getstatic index, 3))
    (kk : W p l e R s m args below meth c H locs cells slots Q (F0 m (pc + 3) ls (v :: rest))) : W p l e R s m args below meth c H locs cells slots Q (F0 m pc ls rest) :=
  va_gets C.1 C.2.1 (env_Z C.2.2.2.2.1 C.2.2.2.2.2.1 S.2.2.1 h) S.2.1 C.2.2.2.1 (C.2.2.2.2.1.w hw) (fun x h => h) hdg kk
theorem z_compact (C : Cx l g p s m meth c cc nL own) (S : SJ g Z s ws xs H locs) (hw : Cond.fieldLink own index "java/lang/String" "COMPACT_STRINGS" "Z" ∈ BW) (hdg : decode cc pc = .ok (.getstatic index, 3))
    (kk : W p l e R s m args below meth c H locs cells slots Q (F0 m (pc + 3) ls (.int 1 :: rest))) : W p l e R s m args below meth c H locs cells slots Q (F0 m pc ls rest) :=
  z_static C S (z_env C).2.2.2.2.2.2.1 hw hdg kk
theorem z_form (C : Cx l g p s m meth c cc nL own) (S : SJ g Z s ws xs H locs) (hw : Cond.fieldLink own index "jdk/internal/util/Preconditions" "SIOOBE_FORMATTER" "Ljava/util/function/BiFunction;" ∈ BW) (hdg : decode cc pc = .ok (.getstatic index, 3))
    (kn : W p l e R s m args below meth c H locs cells slots Q (F0 m (pc + 3) ls (.null :: rest))) (kr : ∀ q : Nat, W p l e R s m args below meth c H locs cells slots Q (F0 m (pc + 3) ls (.ref q :: rest))) : W p l e R s m args below meth c H locs cells slots Q (F0 m pc ls rest) := by
  rcases (z_env C).2.2.2.2.2.2.2.1 with h | ⟨t, h⟩
  · exact z_static C S h hw hdg kn
  · exact z_static C S h hw hdg (kr t)
theorem z_ones (C : Cx l g p s m meth c cc nL own) (S : SJ g Z s ws xs H locs) (hw : Cond.fieldLink own index "java/lang/Integer" "DigitOnes" "[B" ∈ BW) (hdg : decode cc pc = .ok (.getstatic index, 3))
    (kk : W p l e R s m args below meth c H locs cells slots Q (F0 m (pc + 3) ls (.ref (gV g 902) :: rest))) : W p l e R s m args below meth c H locs cells slots Q (F0 m pc ls rest) :=
  z_static C S (z_env C).2.2.2.2.2.2.2.2.2.2.2.1 hw hdg kk
theorem z_tens (C : Cx l g p s m meth c cc nL own) (S : SJ g Z s ws xs H locs) (hw : Cond.fieldLink own index "java/lang/Integer" "DigitTens" "[B" ∈ BW) (hdg : decode cc pc = .ok (.getstatic index, 3))
    (kk : W p l e R s m args below meth c H locs cells slots Q (F0 m (pc + 3) ls (.ref (gV g 903) :: rest))) : W p l e R s m args below meth c H locs cells slots Q (F0 m pc ls rest) :=
  z_static C S (z_env C).2.2.2.2.2.2.2.2.2.2.2.2.1 hw hdg kk
theorem z_onesAt (C : Cx l g p s m meth c cc nL own) (S : SJ g Z s ws xs H locs) {k : Nat} (hk : k < 100) (hdg : decode cc pc = .ok (.baload, 1))
    (kk : W p l e R s m args below meth c H locs cells slots Q (F0 m (pc + 1) ls (.int (nI (48 + k % 10)) :: rest))) : W p l e R s m args below meth c H locs cells slots Q (F0 m pc ls (.int (nI k) :: .ref (gV g 902) :: rest)) := by
  have h := env_T C.2.2.2.2.1 C.2.2.2.2.2.1 S.2.2.1 (z_env C).2.2.2.2.2.2.2.2.2.2.2.2.2.1
  refine va_tb C.1 C.2.1 h S.2.1 (vp_in_nI hk (by decide)) rfl hdg ?_
  rw [nI_clamp (by omega)]
  exact kk
theorem z_tensAt (C : Cx l g p s m meth c cc nL own) (S : SJ g Z s ws xs H locs) {k : Nat} (hk : k < 100) (hdg : decode cc pc = .ok (.baload, 1))
    (kk : W p l e R s m args below meth c H locs cells slots Q (F0 m (pc + 1) ls (.int (nI (48 + k / 10)) :: rest))) : W p l e R s m args below meth c H locs cells slots Q (F0 m pc ls (.int (nI k) :: .ref (gV g 903) :: rest)) := by
  have h := env_T C.2.2.2.2.1 C.2.2.2.2.2.1 S.2.2.1 (z_env C).2.2.2.2.2.2.2.2.2.2.2.2.2.2
  refine va_tb C.1 C.2.1 h S.2.1 (vp_in_nI hk (by decide)) rfl hdg ?_
  rw [nI_clamp (by omega)]
  exact kk
/-- a text's fields -/
theorem z_scoder (C : Cx l g p s m meth c cc nL own) (S : SJ g Z s ws xs H locs) {q : Txt3} (hq : q ∈ xs) (hw : Cond.fieldLink own index "java/lang/String" "coder" "B" ∈ BW) (hdg : decode cc pc = .ok (.getfield index, 3))
    (kk : W p l e R s m args below meth c H locs cells slots Q (F0 m (pc + 3) ls (.int 0 :: rest))) : W p l e R s m args below meth c H locs cells slots Q (F0 m pc ls (.ref q.1 :: rest)) :=
  vk_getf C.1 C.2.1 (S.2.2.2.2 q hq).2.1 S.2.1 C.2.2.2.1 (C.2.2.2.2.1.w hw) (fun x h => h) hdg kk
theorem z_svalue (C : Cx l g p s m meth c cc nL own) (S : SJ g Z s ws xs H locs) {q : Txt3} (hq : q ∈ xs) (hw : Cond.fieldLink own index "java/lang/String" "value" "[B" ∈ BW) (hdg : decode cc pc = .ok (.getfield index, 3))
    (kk : W p l e R s m args below meth c H locs cells slots Q (F0 m (pc + 3) ls (.ref q.2.1 :: rest))) : W p l e R s m args below meth c H locs cells slots Q (F0 m pc ls (.ref q.1 :: rest)) :=
  vk_getf C.1 C.2.1 (S.2.2.2.2 q hq).2.2.1 S.2.1 C.2.2.2.1 (C.2.2.2.2.1.w hw) (fun x h => h) hdg kk
theorem z_slen (C : Cx l g p s m meth c cc nL own) (S : SJ g Z s ws xs H locs) {q : Txt3} (hq : q ∈ xs) (hdg : decode cc pc = .ok (.arraylength, 1))
    (kk : W p l e R s m args below meth c H locs cells slots Q (F0 m (pc + 1) ls (.int (nI q.2.2.length) :: rest))) : W p l e R s m args below meth c H locs cells slots Q (F0 m pc ls (.ref q.2.1 :: rest)) :=
  va_tlen C.1 C.2.1 (S.2.2.2.2 q hq).2.2.2 S.2.1 rfl hdg kk
theorem z_sat (C : Cx l g p s m meth c cc nL own) (S : SJ g Z s ws xs H locs) {q : Txt3} (hq : q ∈ xs) (hn : q.2.2.length < 2 ^ 31) {k : Nat} (hk : k < q.2.2.length) (hdg : decode cc pc = .ok (.baload, 1))
    (kk : W p l e R s m args below meth c H locs cells slots Q (F0 m (pc + 1) ls (.int (nI (q.2.2.getD k 0)) :: rest))) : W p l e R s m args below meth c H locs cells slots Q (F0 m pc ls (.int (nI k) :: .ref q.2.1 :: rest)) := by
  refine va_tb C.1 C.2.1 (S.2.2.2.2 q hq).2.2.2 S.2.1 (vp_in_nI hk hn) rfl hdg ?_
  rw [nI_clamp (by omega)]
  exact kk
/-- fields of objects of the world -/
theorem z_get (C : Cx l g p s m meth c cc nL own) (S : SJ g Z s ws xs H locs) {Cn ref : String} {T : u_T} {N ci : Nat} (hin : ∀ w ∈ u_ws Cn T N, w ∈ BW) (hc : vwCl[ci]? = some (Cn, T, N)) (q0 : Nat) {a : Nat} {fs : List Value} (he : ws[q0]? = some (a, .inr (ci, fs))) (k : Nat) (hk : k < N) (hT : (T k).1 = ref) {v : Value} (hv : fs[k]? = some v)
    (hw : Cond.fieldLink own index ref (T k).2.1 (T k).2.2.1 ∈ BW) (hdg : decode cc pc = .ok (.getfield index, 3))
    (kk : W p l e R s m args below meth c H locs cells slots Q (F0 m (pc + 3) ls (v :: rest))) : W p l e R s m args below meth c H locs cells slots Q (F0 m pc ls (.ref a :: rest)) :=
  va_get C.1 C.2.1 (fun w hw => C.2.2.2.2.1.w (hin w hw)) (fun w h => h) C.2.2.2.1 C.2.2.2.2.1.2.1 S.1 q0 he hc k hk (C.2.2.2.2.1.w hw) (fun x h => by rw [hT] at h; exact h) hv hdg kk
theorem z_put (C : Cx l g p s m meth c cc nL own) (S : SJ g Z s ws xs H locs) (hD : va_D (zA Z) ws) {Cn ref : String} {T : u_T} {N ci : Nat} {ty0 : Nat → FieldType} (hin : ∀ w ∈ u_ws Cn T N, w ∈ BW) (hty : ∀ k, k < N → parseFieldDescriptor (T k).2.2.1 = some (ty0 k)) (hnm : ∀ a, a < N → ∀ b, b < N → a ≠ b → (T a).2.1 ≠ (T b).2.1) (hc : vwCl[ci]? = some (Cn, T, N)) (q0 : Nat) {a : Nat} {fs : List Value} (he : ws[q0]? = some (a, .inr (ci, fs))) (k : Nat) (hk : k < N) (hl : k < fs.length) (hT : (T k).1 = ref) (hfin : (T k).2.2.2 = false) {v : Value} (hn : narrow (ty0 k) v = v) (hfit : fits (ty0 k) v = true)
    (hw : Cond.fieldLink own index ref (T k).2.1 (T k).2.2.1 ∈ BW) (hdg : decode cc pc = .ok (.putfield index, 3))
    (kk : ∀ (H1 : Heap) (locs1 : List Loc), SJ g Z s (ws.set q0 (a, .inr (ci, fs.set k v))) xs H1 locs1 → va_D (zA Z) (ws.set q0 (a, .inr (ci, fs.set k v))) → W p l e R s m args below meth c H1 locs1 cells slots Q (F0 m (pc + 3) ls rest)) : W p l e R s m args below meth c H locs cells slots Q (F0 m pc ls (v :: .ref a :: rest)) :=
  va_put C.1 C.2.1 (fun w hw => C.2.2.2.2.1.w (hin w hw)) (fun w h => h) ty0 hty hnm C.2.2.2.1 C.2.2.2.2.1.2.1 S.1 hD S.2.1 q0 he hc k hk (C.2.2.2.2.1.w hw) (fun x h => by rw [hT] at h; exact h) hfin (hty k hk) hn hfit hl hdg (fun H1 locs1 h1 h2 h3 => kk H1 locs1 ⟨h1, h3, S.2.2⟩ h2)
theorem z_putF (C : Cx l g p s m meth c cc nL own) (S : SJ g Z s ws xs H locs) (hD : va_D (zA Z) ws) {Cn ref : String} {T : u_T} {N ci : Nat} {ty0 : Nat → FieldType} (hin : ∀ w ∈ u_ws Cn T N, w ∈ BW) (hty : ∀ k, k < N → parseFieldDescriptor (T k).2.2.1 = some (ty0 k)) (hnm : ∀ a, a < N → ∀ b, b < N → a ≠ b → (T a).2.1 ≠ (T b).2.1) (hc : vwCl[ci]? = some (Cn, T, N)) (q0 : Nat) {a : Nat} {fs : List Value} (he : ws[q0]? = some (a, .inr (ci, fs))) (k : Nat) (hk : k < N) (hl : k < fs.length) (hT : (T k).1 = ref) (hfin : (T k).2.2.2 = true) (hin2 : meth.name = "<init>") (hdecl : (T k).1 = own) {v : Value} (hn : narrow (ty0 k) v = v) (hfit : fits (ty0 k) v = true)
    (hw : Cond.fieldLink own index ref (T k).2.1 (T k).2.2.1 ∈ BW) (hdg : decode cc pc = .ok (.putfield index, 3))
    (kk : ∀ (H1 : Heap) (locs1 : List Loc), SJ g Z s (ws.set q0 (a, .inr (ci, fs.set k v))) xs H1 locs1 → va_D (zA Z) (ws.set q0 (a, .inr (ci, fs.set k v))) → W p l e R s m args below meth c H1 locs1 cells slots Q (F0 m (pc + 3) ls rest)) : W p l e R s m args below meth c H locs cells slots Q (F0 m pc ls (v :: .ref a :: rest)) :=
  va_putF C.1 C.2.1 (fun w hw => C.2.2.2.2.1.w (hin w hw)) (fun w h => h) ty0 hty hnm C.2.2.2.1 C.2.2.2.2.1.2.1 S.1 hD S.2.1 q0 he hc k hk (C.2.2.2.2.1.w hw) (fun x h => by rw [hT] at h; exact h) hfin hin2 hdecl (hty k hk) hn hfit hl hdg (fun H1 locs1 h1 h2 h3 => kk H1 locs1 ⟨h1, h3, S.2.2⟩ h2)
/-- byte rows of the world -/
theorem z_alen (C : Cx l g p s m meth c cc nL own) (S : SJ g Z s ws xs H locs) (q0 : Nat) {a n : Nat} {f : Nat → Int32} (ha : ws[q0]? = some (a, .inl (gT g 1, n, .inl f))) (hdg : decode cc pc = .ok (.arraylength, 1))
    (kk : W p l e R s m args below meth c H locs cells slots Q (F0 m (pc + 1) ls (.int (nI n) :: rest))) : W p l e R s m args below meth c H locs cells slots Q (F0 m pc ls (.ref a :: rest)) :=
  va_alen C.1 C.2.1 C.2.2.2.2.1.2.1 S.1 q0 1 ha rfl rfl hdg kk
theorem z_bast (C : Cx l g p s m meth c cc nL own) (S : SJ g Z s ws xs H locs) (hD : va_D (zA Z) ws) (q0 : Nat) {a n : Nat} {f : Nat → Int32} (ha : ws[q0]? = some (a, .inl (gT g 1, n, .inl f))) {i v : Nat} (hi : i < n) (hn : n < 2 ^ 31) (hv : v < 128) (hdg : decode cc pc = .ok (.bastore, 1))
    (kk : ∀ (H1 : Heap) (locs1 : List Loc), SJ g Z s (ws.set q0 (a, .inl (gT g 1, n, .inl (upd f i (nI v))))) xs H1 locs1 → va_D (zA Z) (ws.set q0 (a, .inl (gT g 1, n, .inl (upd f i (nI v))))) → W p l e R s m args below meth c H1 locs1 cells slots Q (F0 m (pc + 1) ls rest)) : W p l e R s m args below meth c H locs cells slots Q (F0 m pc ls (.int (nI v) :: .int (nI i) :: .ref a :: rest)) := by
  refine va_bast C.1 C.2.1 C.2.2.2.2.1.2.1 S.1 hD S.2.1 q0 1 ha rfl (vp_in_nI hi hn) hdg (fun H1 locs1 h1 h2 h3 => ?_)
  have e : vp_nar .byte (nI v) = nI v := by
    have : ∀ v, v < 128 → vp_nar .byte (nI v) = nI v := by decide +kernel
    exact this v hv
  rw [e, nI_clamp (by omega)] at h1 h2
  exact kk H1 locs1 ⟨h1, h3, S.2.2⟩ h2
/-- a new row of bytes -/
theorem z_newB (C : Cx l g p s m meth c cc nL own) (S : SJ g Z s ws xs H locs) (hD : va_D (zA Z) ws) (harr : Cond.arrayClass .byte ∈ BW) {k : Int32} {N : Nat} (h0 : ¬ k < 0) (hN : k.toNatClampNeg = N) (hbytes : N ≤ 536870912) (hcells : cells + 1 ≤ R.cells) (hslots : slots + N ≤ R.slots) (hdg : decode cc pc = .ok (.newarray .byte, 2))
    (kk : ∀ H1 : Heap, SJ g Z s (ws ++ [(H.size, .inl (gT g 1, N, .inl (fun _ => 0)))]) xs H1 locs → va_D (zA Z) (ws ++ [(H.size, .inl (gT g 1, N, .inl (fun _ => 0)))]) → W p l e R s m args below meth c H1 locs (cells + 1) (slots + N) Q (F0 m (pc + 2) ls (.ref H.size :: rest))) : W p l e R s m args below meth c H locs cells slots Q (F0 m pc ls (.int k :: rest)) := by
  refine va_newaK (atype := .byte) C.1 C.2.1 (C.2.2.2.2.1.w harr) rfl hdg rfl h0 hN (by show N * 1 ≤ _; omega) hcells hslots rfl fun H1 cA e1 z1 o1 _ hNm => ?_
  have hcA : cA = gT g 1 := by
    have hh := (C.2.2.2.2.1.2.1.2 1 _ rfl).2
    exact Option.some.inj (hNm.symm.trans hh)
  subst hcA
  have hk : ∀ (k : Nat) (x : Nat × va_E), ws[k]? = some x → H1[x.1]? = H[x.1]? := fun k x hx => o1 x.1 ((S.1 k x hx).lt)
  refine kk H1 ⟨(S.1.kept hk).app (fun k x hx => ?_), ⟨Nat.le_trans S.2.1.1 (by omega), fun x h1 h2 => (o1 x (Nat.lt_of_lt_of_le h1 S.2.1.1)).trans (S.2.1.2.1 x h1 h2), S.2.1.2.2⟩, S.2.2⟩ (hD.push S.1 rfl S.zh)
  have hz : k < 1 := (List.getElem?_eq_some_iff.mp hx).1
  rw [show k = 0 by omega] at hx
  cases hx
  show H1[H.size]? = some (vp_cell _ _)
  rw [e1]
  rfl
/-- a new object -/
theorem z_new (C : Cx l g p s m meth c cc nL own) (S : SJ g Z s ws xs H locs) (hD : va_D (zA Z) ws) {Cn : String} {T : u_T} {N ci : Nat} {ty0 : Nat → FieldType} (hin : ∀ w ∈ u_ws Cn T N, w ∈ BW) (hty : ∀ k, k < N → parseFieldDescriptor (T k).2.2.1 = some (ty0 k)) (hc : vwCl[ci]? = some (Cn, T, N)) (hw : Cond.classLink own index Cn ∈ BW ∧ Cond.instantiable Cn N ∈ BW ∧ Cond.initialized Cn ∈ BW) {fs : List Value} (hfs : ∀ j, j < N → defaultValue (ty0 j) = vp_V fs j) (hcells : cells + 1 ≤ R.cells) (hslots : slots + N ≤ R.slots) (hdg : decode cc pc = .ok (.new index, 3))
    (kk : ∀ (q : Nat) (H1 : Heap), q = H.size → SJ g Z s (ws ++ [(q, .inr (ci, fs))]) xs H1 locs → va_D (zA Z) (ws ++ [(q, .inr (ci, fs))]) → W p l e R s m args below meth c H1 locs (cells + 1) (slots + N) Q (F0 m (pc + 3) ls (.ref q :: rest))) : W p l e R s m args below meth c H locs cells slots Q (F0 m pc ls rest) := by
  have hts : ∀ w ∈ u_ws Cn T N, w.before args s = true := fun w hw => C.2.2.2.2.1.w (hin w hw)
  have hKn := C.2.2.2.2.1.2.1.1 ci _ hc
  refine W.newcK C.1 C.2.1 C.2.2.2.1 (C.2.2.2.2.1.w hw.1) (C.2.2.2.2.1.w hw.2.1) (C.2.2.2.2.1.w hw.2.2) rfl hdg hcells hslots hKn.2.1 rfl fun H1 kC hkC e1 z1 o1 => ?_
  have hk : ∀ (k : Nat) (x : Nat × va_E), ws[k]? = some x → H1[x.1]? = H[x.1]? := fun k x hx => o1 x.1 ((S.1 k x hx).lt)
  refine kk H.size H1 rfl ⟨(S.1.kept hk).app (fun k x hx => ?_), ⟨Nat.le_trans S.2.1.1 (by omega), fun x h1 h2 => (o1 x (Nat.lt_of_lt_of_le h1 S.2.1.1)).trans (S.2.1.2.1 x h1 h2), S.2.1.2.2⟩, S.2.2⟩ (hD.push S.1 rfl S.zh)
  have hz : k < 1 := (List.getElem?_eq_some_iff.mp hx).1
  rw [show k = 0 by omega] at hx
  cases hx
  exact ⟨_, hc, (u_born ty0 hts (fun w h => h) hKn hkC e1 hty).to hfs⟩
/-- System.arraycopy: from a row of the world, and from a text -/
theorem z_copy (C : Cx l g p s m meth c cc nL own) (hsize : ls.size = nL) (S : SJ g Z s ws xs H locs) (hD : va_D (zA Z) ws) (hw : Cond.methodLink own index arraycopyName ∈ BW ∧ Cond.native arraycopyName ∈ BW ∧ Cond.static arraycopyName ∈ BW ∧ Cond.initialized "java/lang/System" ∈ BW) (q0 q1 : Nat) {a0 a n0 n1 : Nat} {f h : Nat → Int32} (ha0 : ws[q0]? = some (a0, .inl (gT g 1, n0, .inl f))) (ha1 : ws[q1]? = some (a, .inl (gT g 1, n1, .inl h)))
    {sp dp n : Nat} (hn0 : n0 < 2 ^ 31) (hn1 : n1 < 2 ^ 31) (h4 : sp + n ≤ n0) (h5 : dp + n ≤ n1) (hfit : sb_Fit f) (hframes : 1 ≤ R.frames) (hlocals : (rest.map fun v => v.category).sum + (nativeFrameWords "java/lang/System" "arraycopy" 5 + 11) ≤ R.locals) (hdg : decode cc pc = .ok (.invokestatic index, 3))
    (kk : ∀ (H1 : Heap) (locs1 : List Loc), SJ g Z s (ws.set q1 (a, .inl (gT g 1, n1, .inl (va_cpy f h sp dp n)))) xs H1 locs1 → va_D (zA Z) (ws.set q1 (a, .inl (gT g 1, n1, .inl (va_cpy f h sp dp n)))) → W p l e R s m args below meth c H1 locs1 cells slots Q (F0 m (pc + 3) ls rest)) : W p l e R s m args below meth c H locs cells slots Q (F0 m pc ls (.int (nI n) :: .int (nI dp) :: .ref a :: .int (nI sp) :: .ref a0 :: rest)) := by
  have e1 := nI_clamp (n := sp) (by omega)
  have e2 := nI_clamp (n := dp) (by omega)
  have e3 := nI_clamp (n := n) (by omega)
  refine va_copyi C.1 C.2.1 (C.2.2.1.trans hsize.symm) C.2.2.2.1 (C.2.2.2.2.1.w hw.1) (C.2.2.2.2.1.w hw.2.1) (C.2.2.2.2.1.w hw.2.2.1) (C.2.2.2.2.1.w hw.2.2.2) C.2.2.2.2.1.2.1 S.1 hD S.2.1 q0 q1 1 1 ha0 ha1 rfl rfl rfl (nI_pos (by omega)) (nI_pos (by omega)) (nI_pos (by omega)) (by rw [e1, e3]; exact h4) (by rw [e2, e3]; exact h5) (fun i _ => hfit _) hframes hlocals hdg (fun H1 locs1 h1 h2 h3 => ?_)
  rw [e1, e2, e3] at h1 h2
  exact kk H1 locs1 ⟨h1, h3, S.2.2⟩ h2
theorem z_copyT (C : Cx l g p s m meth c cc nL own) (hsize : ls.size = nL) (S : SJ g Z s ws xs H locs) (hD : va_D (zA Z) ws) (hw : Cond.methodLink own index arraycopyName ∈ BW ∧ Cond.native arraycopyName ∈ BW ∧ Cond.static arraycopyName ∈ BW ∧ Cond.initialized "java/lang/System" ∈ BW) {q : Txt3} (hq : q ∈ xs) (hasc : ∀ c ∈ q.2.2, c < 128) (q1 : Nat) {a n1 : Nat} {h : Nat → Int32} (ha1 : ws[q1]? = some (a, .inl (gT g 1, n1, .inl h)))
    {dp : Nat} (hn1 : n1 < 2 ^ 31) (h5 : dp + q.2.2.length ≤ n1) (hframes : 1 ≤ R.frames) (hlocals : (rest.map fun v => v.category).sum + (nativeFrameWords "java/lang/System" "arraycopy" 5 + 11) ≤ R.locals) (hdg : decode cc pc = .ok (.invokestatic index, 3))
    (kk : ∀ (H1 : Heap) (locs1 : List Loc), SJ g Z s (ws.set q1 (a, .inl (gT g 1, n1, .inl (va_cpy (fun j => nI (q.2.2.getD j 0)) h 0 dp q.2.2.length)))) xs H1 locs1 → va_D (zA Z) (ws.set q1 (a, .inl (gT g 1, n1, .inl (va_cpy (fun j => nI (q.2.2.getD j 0)) h 0 dp q.2.2.length)))) → W p l e R s m args below meth c H1 locs1 cells slots Q (F0 m (pc + 3) ls rest)) : W p l e R s m args below meth c H locs cells slots Q (F0 m pc ls (.int (nI q.2.2.length) :: .int (nI dp) :: .ref a :: .int (nI 0) :: .ref q.2.1 :: rest)) := by
  have e1 : (nI 0).toNatClampNeg = 0 := by decide
  have e2 := nI_clamp (n := dp) (by omega)
  have e3 := nI_clamp (n := q.2.2.length) (by omega)
  have ef : ∀ v, v < 128 → fits .byte (.int (nI v)) = true := by decide +kernel
  refine vk_copyt C.1 C.2.1 (C.2.2.1.trans hsize.symm) C.2.2.2.1 (C.2.2.2.2.1.w hw.1) (C.2.2.2.2.1.w hw.2.1) (C.2.2.2.2.1.w hw.2.2.1) (C.2.2.2.2.1.w hw.2.2.2) C.2.2.2.2.1.2.1 S.1 hD S.2.1 (S.2.2.2.2 q hq).2.2.2 q1 1 ha1 rfl (by decide) (nI_pos (by omega)) (nI_pos (by omega)) (by rw [e1, e3]; omega) (by rw [e2, e3]; exact h5) (fun i hi => ?_) hframes hlocals hdg (fun H1 locs1 h1 h2 h3 => ?_)
  · rw [e3] at hi
    rw [e1, Nat.zero_add]
    refine ef _ ?_
    rw [List.getD_eq_getElem?_getD, List.getElem?_eq_getElem hi]
    exact hasc _ (List.getElem_mem hi)
  · rw [e1, e2, e3] at h1 h2
    exact kk H1 locs1 ⟨h1, h3, S.2.2⟩ h2
/-- a private method of the builder's superclass is the one that is run -/
theorem sel_priv {a2 : Array Value} {y : MethodName} (hy : y.cls = RJ5) (h0 : (Cond.selects RJ4 ⟨RJ5, "isLatin1", "()Z"⟩ ⟨RJ5, "isLatin1", "()Z"⟩).before a2 s = true) (hpriv : (Cond.privateMethod y).before a2 s = true) (hinst : (Cond.instanceMethod y).before a2 s = true) : (Cond.selects RJ4 y y).before a2 s = true := by
  obtain ⟨c, r2, m2, q1, q2, q3, q4, kP, hkP, hkPi⟩ := Cond.selects_spec h0
  obtain ⟨mk, methM, hnamed, hmethM, -, -⟩ := Cond.instanceMethod_spec hinst
  have hy2 : y.cls ≠ "java/lang/invoke/MethodHandle" ∧ y.cls ≠ "java/lang/invoke/VarHandle" := by rw [hy]; decide
  have hfound : s.methodFound? y.cls y.name y.desc = some mk := State.methodFound?_of_named hnamed hy2
  have hcls : mk.cls = m2.cls := by
    have e1 := findClass_of_methodNamed hnamed
    have e2 := findClass_of_methodNamed q3
    rw [hy] at e1
    exact Option.some.inj (e1.symm.trans e2)
  have hsel : selectMethod {} s.vm c mk = .method mk := selectMethod_private hmethM (Cond.privateMethod_at hpriv mk methM hnamed hmethM)
  simp only [Cond.before, Cond.holds, Cond.value, q1, hfound, hnamed, hsel, hcls, hkP]
  simp; exact hkPi
end VJ2

/-- a builder: n letters in a row w of m bytes -/
abbrev sb2 (g : GL) (b w n m : Nat) (f : Nat → Int32) (wt : va_W) : va_W := (b, .inr (15, [.ref w, .int 0, .int 0, .int (nI n)])) :: (w, .inl (gT g 1, m, .inl f)) :: wt
def Pk (g : GL) (v : Option Value) (ws : va_W) : Option Value → Heap → Prop := fun w H => w = v ∧ va_P (gD g) vwCl ws H
