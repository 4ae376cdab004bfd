theorem dL_law_22 : decode cL_law 22 = .ok (.iload_n 2, 1) := by decide +kernel
theorem dL_law_23 : decode cL_law 23 = .ok (.aload_n 0, 1) := by decide +kernel
theorem dL_law_24 : decode cL_law 24 = .ok (.arraylength, 1) := by decide +kernel
theorem dL_law_25 : decode cL_law 25 = .ok (.if_icmp .ge 120, 3) := by decide +kernel
theorem dL_law_28 : decode cL_law 28 = .ok (.iload_n 2, 1) := by decide +kernel
theorem dL_law_29 : decode cL_law 29 = .ok (.bipush 10, 2) := by decide +kernel
theorem dL_law_31 : decode cL_law 31 = .ok (.if_icmp .ge 114, 3) := by decide +kernel
theorem dL_law_139 : decode cL_law 139 = .ok (.iinc 2 1, 3) := by decide +kernel
theorem dL_law_142 : decode cL_law 142 = .ok (.goto (-120), 3) := by decide +kernel
/-! ===== the law: what stays between its rounds ===== -/
/-- classes and their slots, array classes, addresses of texts -/
abbrev Kl : Type := (Nat → ClassId) × (Nat → Nat → Nat) × (Nat → ClassId) × (Nat → Nat) × (Nat → Nat)
def tyK (k : Kl) : List (ClassId × FieldType) := [(k.2.2.1 0, .int), (k.2.2.1 1, .byte), (k.2.2.1 2, .int), (k.2.2.1 3, .int), (k.2.2.1 4, .object RX0), (k.2.2.1 5, .object RX4), (k.2.2.1 6, .object RX7), (k.2.2.1 7, .array .int)]
def EnvA (A : Nat → Prop) (fS fV : Nat → Nat) (U : State) (H : Heap) : Prop :=
  (∀ q ∈ strTab, vk_R q.1 q.2.1 q.2.2.1 (fS q.2.2.2) U) ∧ vk_S 22 strLen strByt fS fV A U H ∧
  va_Z RX9 "WIND_X" "[I" (.ref (fV 900)) A U H ∧ va_Z RX9 "WIND_Y" "[I" (.ref (fV 901)) A U H ∧
  va_T .int (fV 900) 8 (fun j => .int (wxL.getD j 0)) A U H ∧ va_T .int (fV 901) 8 (fun j => .int (wyL.getD j 0)) A U H ∧
  va_Z "java/lang/String" "COMPACT_STRINGS" "Z" (.int 1) A U H ∧
  va_Zq "jdk/internal/util/Preconditions" "SIOOBE_FORMATTER" "Ljava/util/function/BiFunction;" A U H ∧
  vx_Zq Bundle.tN "UNASSIGNED_STACK" Bundle.steD A U H ∧ vx_Zq Bundle.tN "SUPPRESSED_SENTINEL" Bundle.listD A U H ∧
  (∀ q ∈ ncTab, va_Nc q.1 q.2 U) ∧
  va_Z "java/lang/Integer" "DigitOnes" "[B" (.ref (fV 902)) A U H ∧ va_Z "java/lang/Integer" "DigitTens" "[B" (.ref (fV 903)) A U H ∧
  va_T .byte (fV 902) 100 (fun j => .int (nI (48 + j % 10))) A U H ∧ va_T .byte (fV 903) 100 (fun j => .int (nI (48 + j / 10))) A U H
theorem EnvA.mv {A : Nat → Prop} {fS fV : Nat → Nat} {s U : State} {H H1 : Heap} (h : EnvA A fS fV s H) (hW : s.WarmedH U.vm) (hq : ∀ a : Nat, a < H.size → ¬ A a → H1[a]? = H[a]?) : EnvA A fS fV U H1 := by
  obtain ⟨h1, h2, h3, h4, h5, h6, h7, h8, h9, h10, h11, h12, h13, h14, h15⟩ := h
  have B := hW.alike
  exact ⟨fun q hq => (h1 q hq).warm hW, (h2.moved B).kept hq, (h3.moved B).kept hq, (h4.moved B).kept hq, (h5.moved B).kept hq, (h6.moved B).kept hq, (h7.moved B).kept hq, (h8.moved B).kept hq, (h9.moved B).kept hq, (h10.moved B).kept hq, fun q hq => (h11 q hq).moved B, (h12.moved B).kept hq, (h13.moved B).kept hq, (h14.moved B).kept hq, (h15.moved B).kept hq⟩
theorem EnvA.nar {A B : Nat → Prop} {fS fV : Nat → Nat} {U : State} {H : Heap} (h : EnvA A fS fV U H) (hAB : ∀ q, B q → A q) : EnvA B fS fV U H := by
  obtain ⟨e1, e2, e3, e4, e5, e6, e7, e8, e9, e10, e11, e12, e13, e14, e15⟩ := h
  exact ⟨e1, e2.narrow hAB, e3.narrow hAB, e4.narrow hAB, e5.narrow hAB, e6.narrow hAB, e7.narrow hAB, e8.narrow hAB, e9.narrow hAB, e10.narrow hAB, e11, e12.narrow hAB, e13.narrow hAB, e14.narrow hAB, e15.narrow hAB⟩
/-- what the law's start gives, for all of its rounds -/
def EnvL (l : Launch) (k : Kl) (s : State) : Prop := (∀ w ∈ BW, va_Nw w s) ∧ va_K (k.1, k.2.1) vwCl (tyK k) s ∧ EnvA (fun q => s.heap.size ≤ q) k.2.2.2.1 k.2.2.2.2 s s.heap ∧ l.stackTraces = false
theorem EnvL.w {l : Launch} {k : Kl} {s : State} {args : Array Value} {w : Cond} (h : EnvL l k s) (hw : w ∈ BW) : w.before args s = true := wok_use (List.mem_filter.mp hw).2 (h.1 w hw)
/-- the cells of a round that begins at the heap H, the draws at dA -/
def gRd (H : Heap) (dA : Nat) (k : Kl) : GL := (H.size - 1, H, k.1, k.2.1, k.2.2.1, k.2.2.2.1, k.2.2.2.2, H.size - 1 - dA, 1)
/-- the law's world between its rounds -/
def LW (k : Kl) (s : State) (dA : Nat) (H : Heap) : Prop := s.heap.size ≤ H.size ∧ (∀ a : Nat, a < s.heap.size → H[a]? = s.heap[a]?) ∧ s.heap.size ≤ dA ∧ dA < H.size ∧ ∃ x0 : Int32, va_at (k.1, k.2.1) vwCl (dA, .inr (13, [.int x0])) H
theorem gRd_A {k : Kl} {s : State} {dA q : Nat} {H : Heap} (h : LW k s dA H) (hq : gA (gRd H dA k) q) : s.heap.size ≤ q := by
  obtain ⟨h1, -, h3, h4, -⟩ := h
  rcases hq with hq | hq | hq
  · have : H.size - 1 < q := hq.1
    omega
  · have : q = H.size - 1 - (H.size - 1 - dA) := hq
    omega
  · have : H.size - 1 + 202 ≤ q := hq.2
    omega
theorem gRd_202 {k : Kl} {dA : Nat} {H : Heap} (h : dA < H.size) : ga (gRd H dA k) 202 = dA := by
  rw [ga_202]
  show H.size - 1 - (H.size - 1 - dA) = dA
  omega
theorem EnvL.round {l : Launch} {k : Kl} {s U : State} {dA : Nat} {H : Heap} (h : EnvL l k s) (hW : s.WarmedH U.vm) (hL : LW k s dA H) : Env l (gRd H dA k) U :=
  ⟨fun w hw => wok_warm (List.mem_filter.mp hw).2 hW (h.1 w hw), h.2.1.moved hW.alike, (h.2.2.1.mv hW (fun a ha _ => hL.2.1 a ha)).nar (fun _ hq => gRd_A hL hq), h.2.2.2⟩
theorem LW.next {k : Kl} {s s2 : State} {dA : Nat} {H H1 : Heap} {locs : List Loc} {σ : SI} {R : Nat → Nat → Nat} {L : Nat → Nat → Int64} (hL : LW k s dA H) (hs2 : s2.heap = H) (S : S2 (gRd H dA k) s2 σ R L H1 locs) : LW k s dA H1 ∧ ∀ q ∈ locs, s.heap.size ≤ q.base := by
  have h202 : Ok 202 202 13 := ⟨by decide +kernel, by decide, by decide⟩
  have hz : H.size ≤ H1.size := by rw [← hs2]; exact S.2.1
  have hk : ∀ a : Nat, a < s.heap.size → H1[a]? = H[a]? := fun a ha => by
    have h := S.2.2.1 a (by rw [hs2]; exact Nat.lt_of_lt_of_le ha hL.1) (fun q => by have := gRd_A hL q; omega)
    rw [hs2] at h
    exact h
  refine ⟨⟨Nat.le_trans hL.1 hz, fun a ha => (hk a ha).trans (hL.2.1 a ha), hL.2.2.1, Nat.lt_of_lt_of_le hL.2.2.2.1 hz, σ 202 0, ?_⟩, fun q hq => gRd_A hL (S.2.2.2 q hq)⟩
  have hP := v_cell S h202 0 _ rfl
  rw [v_elk (by decide), gRd_202 hL.2.2.2.1] at hP
  exact hP
section VLR
variable {l : Launch} {k : Kl} {p : Program} {e : Jvm.Env} {R : Room} {s : State} {m : MethodId} {args : Array Value} {below : List Frame} {meth : Method} {c : Code} {Q : State → Prop}
set_option maxHeartbeats 4000000 in
set_option maxRecDepth 100000 in
/-- a round, from the law's own start -/
theorem n_round (E : EnvL l k s) (hx : p.tables.exec = Jvm.exec) (hb : c.code = cL_law) (hml : c.maxLocals = 6) (hown : s.vm.findClass RL = some m.cls) (hlocks : meth.locks = false) (hRf : 20 ≤ R.frames) (hRl : 1500 ≤ R.locals) {dA b0 i cells slots : Nat} {H : Heap} {ls : Array Slot} (hL : LW k s dA H) (hf : cells + 1000 ≤ R.cells ∧ slots + 260000 ≤ R.slots) (hl : lv_has ls 6 [(2, .int (nI i)), (1, .ref dA), (0, .ref b0)])
    (kk : ∀ (H1 : Heap) (ls1 : Array Slot), LW k s dA H1 → lv_has ls1 6 [(2, .int (nI i)), (1, .ref dA), (0, .ref b0)] → W p l e R s m args below meth c H1 [] (cells + 1000) (slots + 260000) Q (F0 m 139 ls1 [])) : W p l e R s m args below meth c H [] cells slots Q (F0 m 34 ls []) := by
  refine W_hop (by omega) (by omega) (fun s2 hs2 hW2 back => ?_)
  have hE := E.round hW2 hL
  have h202 : ga (gRd H dA k) 202 = dA := gRd_202 hL.2.2.2.1
  have h0 : 0 < H.size := Nat.lt_of_le_of_lt (Nat.zero_le _) hL.2.2.2.1
  have hLo : Low (gRd H dA k) s2.heap := by
    rw [hs2]
    exact ⟨by show H.size = H.size - 1 + 1; omega, Nat.le_refl _, fun a _ _ => rfl⟩
  have C : Cx l (gRd H dA k) p s2 m meth c cL_law 6 RL := ⟨hx, hb, hml, (hW2.alike.findClass RL none).trans hown, hE, hLo, hlocks⟩
  have S : StL (gRd H dA k) 0 s2 zI H [] := ⟨⟨fun id h0 h1 => absurd (Nat.lt_of_lt_of_le h0 h1) (Nat.lt_irrefl 0), rfl, fun _ => by show H.size = H.size - 1 + 0 + 1; omega, fun _ => rfl⟩, by rw [hs2]; exact va_S.rf⟩
  obtain ⟨x0, hDr⟩ := hL.2.2.2.2
  have hDr2 : va_at (gD (gRd H dA k)) vwCl (ga (gRd H dA k) 202, .inr (13, [.int x0])) (gH (gRd H dA k)) := by
    rw [h202]
    exact hDr
  rw [← h202] at hl
  refine n_body C rfl hDr2 hRf hRl (by show 1000 ≤ R.cells - cells; omega) (by show 260000 ≤ R.slots - slots; omega) S hl (fun σ R1 L1 H1 locs1 ls1 S hl => ?_)
  rw [h202] at hl
  obtain ⟨hL1, hlo⟩ := hL.next hs2 S
  refine back H1 locs1 1000 260000 _ ?_
  exact va_forget (fun q hq => hlo q hq) (kk H1 ls1 hL1 hl)
set_option maxHeartbeats 4000000 in
set_option maxRecDepth 100000 in
/-- the law's loop -/
theorem n_lawL (E : EnvL l k s) (hx : p.tables.exec = Jvm.exec) (hb : c.code = cL_law) (hml : c.maxLocals = 6) (hown : s.vm.findClass RL = some m.cls) (hlocks : meth.locks = false) (hRf : 20 ≤ R.frames) (hRl : 1500 ≤ R.locals) {dA b0 n : Nat} {xs : Nat → Int32} (hn : n ≤ 260) (hX : va_X b0 n xs s s.heap) (hbl : b0 < s.heap.size) {cells2 slots2 : Nat} (hf : cells2 ≤ R.cells ∧ slots2 ≤ R.slots) : ∀ (j i cells slots : Nat) (H : Heap) (ls : Array Slot), i + j = 10 → cells + 1000 * j ≤ cells2 → slots + 260000 * j ≤ slots2 → LW k s dA H → lv_has ls 6 [(2, .int (nI i)), (1, .ref dA), (0, .ref b0)] → (∀ (H1 : Heap) (ls1 : Array Slot), LW k s dA H1 → W p l e R s m args below meth c H1 [] cells2 slots2 Q (F0 m 145 ls1 [])) → W p l e R s m args below meth c H [] cells slots Q (F0 m 22 ls []) := by
  intro j
  induction j with
  | zero =>
    intro i cells slots H ls hi hc hs hL hl kk
    have hS : va_S (fun q => s.heap.size ≤ q) s.heap H [] := ⟨hL.1, fun a ha _ => hL.2.1 a ha, fun _ h => by cases h⟩
    refine lv_iload_n hx hb dL_law_22 rfl (lv_at hl 0 rfl) ?_
    refine lv_aload_n hx hb dL_law_23 rfl (lv_at hl 2 rfl) ?_
    refine va_slen hx hb hX hbl (by show ¬ (s.heap.size ≤ b0); omega) hS dL_law_24 ?_
    refine lv_icmp_ge (tgt := 145) hx hb dL_law_25 (by decide) (fun _ => W.widen (k := cells2) (n := slots2) (by omega) (by omega) (kk H ls hL)) (fun _ => ?_)
    refine lv_iload_n hx hb dL_law_28 rfl (lv_at hl 0 rfl) ?_
    refine lv_bipush (v := nI 10) hx hb dL_law_29 (by decide) ?_
    exact lv_icmp_ge (tgt := 145) hx hb dL_law_31 (by decide) (fun _ => W.widen (k := cells2) (n := slots2) (by omega) (by omega) (kk H ls hL)) (fun q => absurd (nI_le (by omega) (by omega)) q)
  | succ j ih =>
    intro i cells slots H ls hi hc hs hL hl kk
    have hs0 : slots ≤ slots2 := Nat.le_trans (Nat.le_add_right _ _) hs
    have hS : va_S (fun q => s.heap.size ≤ q) s.heap H [] := ⟨hL.1, fun a ha _ => hL.2.1 a ha, fun _ h => by cases h⟩
    refine lv_iload_n hx hb dL_law_22 rfl (lv_at hl 0 rfl) ?_
    refine lv_aload_n hx hb dL_law_23 rfl (lv_at hl 2 rfl) ?_
    refine va_slen hx hb hX hbl (by show ¬ (s.heap.size ≤ b0); omega) hS dL_law_24 ?_
    refine lv_icmp_ge (tgt := 145) hx hb dL_law_25 (by decide) (fun _ => W.widen (k := cells2) (n := slots2) (by omega) hs0 (kk H ls hL)) (fun _ => ?_)
    refine lv_iload_n hx hb dL_law_28 rfl (lv_at hl 0 rfl) ?_
    refine lv_bipush (v := nI 10) hx hb dL_law_29 (by decide) ?_
    refine lv_icmp_ge (tgt := 145) hx hb dL_law_31 (by decide) (fun q => absurd q (nI_ge (by omega) (by omega))) (fun _ => ?_)
    have hs2 : slots + 260000 + 260000 * j ≤ slots2 := by
      rw [Nat.mul_succ, Nat.add_comm (260000 * j) 260000, ← Nat.add_assoc] at hs
      exact hs
    refine n_round E hx hb hml hown hlocks hRf hRl hL ⟨by omega, Nat.le_trans (Nat.le_trans (Nat.le_add_right _ _) hs2) hf.2⟩ hl (fun H1 ls1 hL1 hl1 => ?_)
    refine lv_iinc (v := nI (i + 1)) (lv' := [(2, .int (nI (i + 1))), (1, .ref dA), (0, .ref b0)]) hx hb dL_law_139 hl1 (k := 0) rfl (nI_1 i) (by decide) rfl (fun ls hl => ?_)
    refine lv_goto (tgt := 22) hx hb dL_law_142 (by decide) ?_
    exact ih (i + 1) _ _ H1 ls (by omega) (by omega) hs2 hL1 hl kk
end VLR
