set_option maxRecDepth 100000 in
theorem cl_RL_142 : Cond.classLink RL 142 RX13 ∈ BW := bw_in (List.mem_of_getElem? (i := 916) (by rfl)) (by rfl)
set_option maxRecDepth 100000 in
theorem iz_RX13 : Cond.instantiable RX13 1 ∈ BW := bw_in (List.mem_of_getElem? (i := 917) (by rfl)) (by rfl)
set_option maxRecDepth 100000 in
theorem ml_RL_144 : Cond.methodLink RL 144 yX13_init ∈ BW := bw_in (List.mem_of_getElem? (i := 918) (by rfl)) (by rfl)
set_option maxRecDepth 100000 in
theorem in_X13_init : Cond.instanceMethod yX13_init ∈ BW := bw_in (List.mem_of_getElem? (i := 919) (by rfl)) (by rfl)
set_option maxRecDepth 100000 in
theorem cd_X13_init : Cond.code yX13_init cX13_init 2 none ∈ BW := bw_in (List.mem_of_getElem? (i := 920) (by rfl)) (by rfl)
set_option maxRecDepth 100000 in
theorem ol_RX13 : Cond.methodLink RX13 1 Lib.objectInit ∈ BW := bw_in (List.mem_of_getElem? (i := 921) (by rfl)) (by rfl)
theorem dL_law_16 : decode cL_law 16 = .ok (.invokespecial 144, 3) := by decide +kernel
theorem dL_law_19 : decode cL_law 19 = .ok (.astore_n 1, 1) := by decide +kernel
theorem dL_law_20 : decode cL_law 20 = .ok (.iconst 1, 1) := by decide +kernel
theorem dL_law_21 : decode cL_law 21 = .ok (.istore_n 2, 1) := by decide +kernel
theorem dX13_init_0 : decode cX13_init 0 = .ok (.aload_n 0, 1) := by decide +kernel
theorem dX13_init_1 : decode cX13_init 1 = .ok (.invokespecial 1, 3) := by decide +kernel
theorem dX13_init_4 : decode cX13_init 4 = .ok (.aload_n 0, 1) := by decide +kernel
theorem dX13_init_5 : decode cX13_init 5 = .ok (.iload_n 1, 1) := by decide +kernel
theorem dX13_init_6 : decode cX13_init 6 = .ok (.putfield 7, 3) := by decide +kernel
theorem dX13_init_9 : decode cX13_init 9 = .ok (.return_, 1) := by decide +kernel
/-! ===== the law's draws are made; from its entry to its end ===== -/
def PcD (k : Kl) (a : Nat) (x : Int32) : Array Value → State → Prop := fun v U => v = #[.ref a, .int x] ∧ (∀ w ∈ BW, va_Nw w U) ∧ va_K (k.1, k.2.1) vwCl (tyK k) U ∧ va_P (k.1, k.2.1) vwCl [(a, .inr (13, [.int 0]))] U.heap
def QcD (k : Kl) (a : Nat) (x : Int32) : Array Value → State → Outcome → State → Prop := fun _ st o t => (o = .returned none ∧ va_P (k.1, k.2.1) vwCl [(a, .inr (13, [.int x]))] t.heap) ∧ va_F (fun q => q = a) st t
theorem nw_warm {s U : State} (h : ∀ w ∈ BW, va_Nw w s) (hW : s.WarmedH U.vm) : ∀ w ∈ BW, va_Nw w U := fun w hw => wok_warm (List.mem_filter.mp hw).2 hW (h w hw)
theorem PcD.blind {k : Kl} {a : Nat} {x : Int32} : FrameBlind (PcD k a x) := fun v U G mk h => ⟨h.1, nw_warm h.2.1 (State.WarmedH.refl U), h.2.2.1.moved (State.WarmedH.refl U).alike, h.2.2.2⟩
theorem va_D.one {A : Nat → Prop} {q : Nat × va_E} (h : A q.1) : va_D A [q] := by
  refine ⟨fun i j p r hp hr _ => ?_, fun k r hr => ?_⟩
  · have h1 := (List.getElem?_eq_some_iff.mp hp).1
    have h2 := (List.getElem?_eq_some_iff.mp hr).1
    simp only [List.length_cons, List.length_nil] at h1 h2
    omega
  · match k, hr with
    | 0, hr => cases hr; exact h
    | k + 1, hr => cases (show (none : Option (Nat × va_E)) = some r from hr)
set_option maxHeartbeats 4000000 in
set_option maxRecDepth 100000 in
theorem n_draws {l : Launch} {k : Kl} {a : Nat} {x : Int32} : Met l yX13_init [Cond.code yX13_init cX13_init 2 none] (rmd 2 0 0) (PcD k a x) (QcD k a x) 0 0 (fun q => q = a) := by
  refine Met.ofW (cc := cX13_init) (maxL := 2) (ret := none) (by decide) rfl ?_
  intro p e s m args below meth c s₁ B hml hv
  obtain ⟨rfl, hN, hK, hP⟩ := hv
  have hr : meth.sig.returnType = none := B.returns
  have hx : p.tables.exec = Jvm.exec := B.exec
  have hb : c.code = cX13_init := B.bytes
  have hown : s.vm.findClass RX13 = some m.cls := findClass_of_methodNamed B.named
  have hw : ∀ w ∈ BW, w.before #[Value.ref a, Value.int x] s = true := fun w h => wok_use (List.mem_filter.mp h).2 (hN w h)
  have hl := lv_entry ([.ref a, .int x]) (n := 2) (Nat.le_of_ble_eq_true rfl)
  rw [lg_entry_eq]
  generalize (lg_sl ([.ref a, .int x]) ++ List.replicate (2 - (lg_sl ([.ref a, .int x])).length) Slot.unset).toArray = ls at hl ⊢
  have hl : lv_has ls 2 [(0, .ref a), (1, .int x)] := hl
  have hS : va_S (fun q => q = a) s.heap s.heap [] := va_S.rf
  have hD : va_D (fun q => q = a) [((a, .inr (13, [.int 0])) : Nat × va_E)] := va_D.one rfl
  refine lv_aload_n hx hb dX13_init_0 rfl (lv_at hl 0 rfl) ?_
  refine W.objInit hx hb hown (hw _ ol_RX13) (hw _ in_obj) (hw _ cd_obj) rfl (hl.1.trans hml.symm) rfl dX13_init_1 (Nat.le_of_ble_eq_true rfl) (Nat.le_of_ble_eq_true rfl) ?_
  refine lv_aload_n hx hb dX13_init_4 rfl (lv_at hl 0 rfl) ?_
  refine lv_iload_n hx hb dX13_init_5 rfl (lv_at hl 1 rfl) ?_
  refine va_put hx hb (fun w h => hw w (KX13.2.1 w h)) (fun w h => h) tyX13 KX13.2.2.1 KX13.2.2.2.1 hown hK hP hD hS 0 rfl KX13.1 0 (by decide) (hw _ fl_RX13_7) (fun z h => h) rfl rfl rfl rfl (Nat.le_of_ble_eq_true rfl) dX13_init_6 (fun H1 locs1 hP hD hS => ?_)
  exact W.vret hx hb hr (fun tt ht _ => ⟨⟨rfl, by rw [ht]; exact hP⟩, hS.F ht⟩) hS.2.2 dX13_init_9 B.notSynchronized
section VLD2
variable {l : Launch} {k : Kl} {p : Program} {e : Jvm.Env} {R : Room} {s : State} {m : MethodId} {args : Array Value} {below : List Frame} {meth : Method} {c : Code} {Q : State → Prop}
set_option maxHeartbeats 4000000 in
set_option maxRecDepth 100000 in
/-- the draws' constructor is called, and the law goes on to its loop -/
theorem n_made (E : EnvL l k s) (hx : p.tables.exec = Jvm.exec) (hb : c.code = cL_law) (hml : c.maxLocals = 6) (hown : s.vm.findClass RL = some m.cls) (hRf : 20 ≤ R.frames) (hRl : 1500 ≤ R.locals) {a b0 cells slots : Nat} {x : Int32} {H : Heap} {ls : Array Slot} (hf : cells ≤ R.cells ∧ slots ≤ R.slots) (hP : va_P (k.1, k.2.1) vwCl [(a, .inr (13, [.int 0]))] H) (ha : s.heap.size ≤ a) (hz : s.heap.size ≤ H.size) (ho : ∀ q : Nat, q < s.heap.size → H[q]? = s.heap[q]?) (hl : lv_has ls 6 [(0, .ref b0)])
    (kk : ∀ (H1 : Heap) (ls1 : Array Slot), LW k s a H1 → lv_has ls1 6 [(2, .int (nI 1)), (1, .ref a), (0, .ref b0)] → W p l e R s m args below meth c H1 [] cells slots Q (F0 m 22 ls1 [])) : W p l e R s m args below meth c H [] cells slots Q (F0 m 16 ls (.int x :: .ref a :: .ref a :: [])) := by
  have hr := va_runI (p := p) (l := l) (e := e) (R := R) (s := s) (m := m) (args := args) (below := below) (meth := meth) (c := c) (H := H) (locs := []) (cells := cells) (slots := slots) (g := F0 m 16 ls (.int x :: .ref a :: .ref a :: [])) (rest := [.ref a]) (As := [.int x]) (b := a) (Ts := []) ⟨hx, hb, hml, hown, fun w h => by cases h⟩ (n_draws (k := k) (a := a) (x := x)) ⟨⟨rfl, rfl, by show 2 + 1 ≤ _; omega, by show 8 + (2 + 11) + 128 ≤ _; omega, fun w hw' a' U hW => by rw [List.mem_singleton.mp hw']; exact wok_use (List.mem_filter.mp cd_X13_init).2 (wok_warm (List.mem_filter.mp cd_X13_init).2 hW (E.1 _ cd_X13_init)), List.mem_singleton.mpr rfl, E.w cd_X13_init, E.w ni_RX13, ⟨by decide, by decide⟩, fun sig h => by cases h; rfl, E.w ml_RL_144⟩, rfl, E.w in_X13_init⟩ ⟨PcD.blind, fun U hU hW => ⟨rfl, nw_warm E.1 hW, E.2.1.moved hW.alike, by rw [hU]; exact hP⟩⟩ rfl rfl hl.1 rfl (lv_room (Nat.le_of_ble_eq_true rfl)) dL_law_16 ⟨hf.1, hf.2⟩
  intro T hT X
  obtain ⟨v, st₀, t, T', L', h0, X', hL, e1, e2, ⟨⟨ho2, hP2⟩, hF⟩, step⟩ := hr T hT X
  cases ho2
  have hz1 : H.size ≤ t.heap.size := by rw [← h0]; exact hF.1
  have hL1 : LW k s a T'.heap := by
    rw [e1]
    refine ⟨Nat.le_trans hz hz1, fun q hq => ?_, ha, (hP2 0 _ rfl).lt, x, hP2 0 _ rfl⟩
    have h := hF.2 q (by rw [h0]; omega) (by omega)
    rw [h0] at h
    exact h.trans (ho q hq)
  have hgo : W p l e R s m args below meth c T'.heap ([] ++ L') (cells + 0) (slots + 0) Q (F0 m 19 ls (.ref a :: [])) := by
    refine va_forget (fun q hq => by rw [hL q hq]; exact ha) ?_
    refine lv_astore_n (lv' := [(1, .ref a), (0, .ref b0)]) hx hb dL_law_19 rfl hl (by decide) rfl (fun ls hl => ?_)
    refine lv_iconst (v := nI 1) hx hb dL_law_20 (by decide) ?_
    refine lv_istore_n (lv' := [(2, .int (nI 1)), (1, .ref a), (0, .ref b0)]) hx hb dL_law_21 rfl hl (by decide) rfl (fun ls hl => ?_)
    exact kk T'.heap ls hL1 hl
  obtain ⟨t2, a1, b1⟩ := hgo T' rfl X'
  exact ⟨t2, step t2 a1, b1⟩
end VLD2
