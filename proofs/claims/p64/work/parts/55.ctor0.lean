/-! ===== the quarry's constructor: its rows ===== -/
theorem adopt {g : GL} {s : State} {z : Sg} {x : Int32} {H : Heap} {locs : List Loc} (S : StL g 201 s z H locs) (hD : va_at (gD g) vwCl (ga g 202, .inr (13, [.int x])) (gH g)) : S2 g s (up z.1 202 0 x) z.2.1 z.2.2.1 H locs := by
  refine ⟨⟨fun id h0 h1 => ?_, rfl, fun h => absurd h (by decide), fun h => absurd h (by decide)⟩, S.2⟩
  by_cases hid : id = 202
  · subst hid
    have hk : kd 202 = 13 := by decide +kernel
    have e : elk g (kd 202) (mkS (up z.1 202 0 x) z.2.1 z.2.2.1) 202 = .inr (13, [.int x]) := by
      rw [hk]
      show (Sum.inr (13, [Value.int (up z.1 202 0 x 202 0)]) : va_E) = _
      rw [show up z.1 202 0 x 202 0 = x from if_pos ⟨rfl, rfl⟩]
    rw [e]
    exact hD.kept (by rw [ga_202]; exact S.1.2.2.2 (by decide))
  · have hh := S.1.1 id h0 (by rw [S.1.2.1]; have h2 : id ≤ 202 := h1; omega)
    have e : elk g (kd id) (mkS (up z.1 202 0 x) z.2.1 z.2.2.1) id = elk g (kd id) z id := elk_uI (σ := z) (o := 202) (k := 0) (v := x) (kd id) hid
    rw [e]
    exact hh
section VF
variable {l : Launch} {g : GL} {p : Program} {e : Jvm.Env} {R0 : Room} {s : State} {m : MethodId} {args : Array Value} {below : List Frame} {meth : Method} {c : Code} {H : Heap} {locs : List Loc} {cells slots : Nat} {Q : State → Prop}
variable {cc : ByteArray} {nL : Nat} {pc index : Nat} {ls : Array Slot} {rest : List Value} {σ : SI} {R : Nat → Nat → Nat} {L : Nat → Nat → Int64}
/-- a final number of the quarry, in its constructor -/
theorem d_putFI {id kc N : Nat} {Cn : String} {T : u_T} {ty0 : Nat → FieldType} (C : Cx l g p s m meth c cc nL Cn) (S : S2 g s σ R L H locs) (K : KC kc Cn T N ty0) (hid : Ok 202 id kc) (k : Nat) (hk : k < N) (hT : (T k).1 = Cn) (hfin : (T k).2.2.2 = true) (hin2 : meth.name = "<init>") {x : Int32} (hnr : narrow (ty0 k) (.int x) = .int x) (hfit : fits (ty0 k) (.int x) = true) (hb : (flK kc)[k]? = some false)
    (hw : Cond.fieldLink Cn index Cn (T k).2.1 (T k).2.2.1 ∈ BW) (hdg : decode cc pc = .ok (.putfield index, 3))
    (kk : ∀ (σ1 : SI) (H1 : Heap) (locs1 : List Loc), σ1 id k = x → (∀ o j, o ≠ id ∨ j ≠ k → σ1 o j = σ o j) → S2 g s σ1 R L H1 locs1 → H.size ≤ H1.size → (∀ q, gb g + 202 ≤ q → q < H.size → H1[q]? = H[q]?) → W p l e R0 s m args below meth c H1 locs1 cells slots Q (F0 m (pc + 3) ls rest)) : W p l e R0 s m args below meth c H locs cells slots Q (F0 m pc ls (.int x :: .ref (ga g id) :: rest)) := by
  have hts : ∀ w ∈ u_ws Cn T N, w.before args s = true := fun w hw => C.2.2.2.2.1.w (K.2.1 w hw)
  have hK := C.2.2.2.2.1.2.1
  have hap := va_apart (own := Cn) hts (fun w h => h) ty0 K.2.2.1 K.2.2.2.1 hK K.1
  have hP := v_cell S hid
  rw [v_elk K.2.2.2.2] at hP
  obtain ⟨r', h1, cell, q1, q2, q3, q4⟩ := hP 0 _ rfl
  have hr' : r' = (Cn, T, N) := Option.some.inj (h1.symm.trans K.1)
  subst hr'
  obtain ⟨hSk, hfc, kC, hkC, hkind⟩ := hK.1 kc _ K.1
  obtain ⟨cf, kf, fi, f, hi, hsl⟩ := hSk k hk
  have hlay := hts _ (u_in_lay hk)
  unfold u_lay at hlay
  rw [if_pos hfin] at hlay
  have hst := (u_facts hfc hkC (u_lays hts (fun w h => h) hk) hi).1
  have hcf : m.cls = cf := by
    obtain ⟨_, _, c', _, _, _, -, -, hf', -, -, -, hown2, -⟩ := Cond.laysFinal_spec hlay
    have e1 : c' = cf := by have := hi.symm.trans hf'; simp at this; exact this.1.symm
    rw [hT] at hown2
    rw [← e1]; exact Option.some.inj (C.2.2.2.1.symm.trans hown2)
  have h6 := u_fits hfc hkC hkind (Or.inr hlay) hi (K.2.2.1 k hk) hnr hfit
  have hlen : k < (fl g kc (mkS σ R L) id).length := by unfold fl; rw [List.length_mapIdx]; exact (List.getElem?_eq_some_iff.mp hb).1
  refine W.putFinK C.1 C.2.1 C.2.2.2.1 (C.2.2.2.2.1.w hw) (by rw [hT] at hi; exact hi) hst hcf hin2 (by rw [q2]; exact h6) q1 q3 (by rw [hsl]; exact k2_hasslot (q4 k hk)) rfl rfl hdg fun H' e1 e2 e3 => ?_
  rw [hsl] at e1 ⊢
  have hset : (fl g kc (mkS σ R L) id).set k (.int x) = fl g kc (uI (mkS σ R L) id k x) id := fl_uI hb
  refine kk (up σ id k x) H' _ (if_pos ⟨rfl, rfl⟩) (fun o j h => if_neg (by omega)) (show StL g 202 s (uI (mkS σ R L) id k x) H' _ from S.one hid e2 e3 ?_ (fun i c h => elk_uI c h) rfl (S.2.put e2 e3 (hid.zone (Nat.lt_trans K.2.2.2.2 (by decide))))) (by omega) (fun q h1 _ => e3 q (fun h => ?_))
  · rw [v_elk K.2.2.2.2, ← hset]
    exact ⟨_, K.1, t_OB.to (V := updV (vp_V (fl g kc (mkS σ R L) id)) k (.int x)) ⟨_, e1, q2, q3, t_set q4 hap hk _⟩ (fun j _ => vp_updV_set hlen _ j)⟩
  · have := ga_lo (g := g) (id := id) hid.2.2
    have h : q = ga g id := h
    omega
theorem ok178 : Ok 202 178 12 := ⟨by decide +kernel, by decide, by decide⟩
/-- a private method of the quarry is the one that is run -/
theorem sel_own {a2 : Array Value} {y : MethodName} (hy : y.cls = RX12) (h0 : (Cond.selects RX12 yX12_window yX12_window).before a2 s = true) (hpriv : (Cond.privateMethod y).before a2 s = true) (hinst : (Cond.instanceMethod y).before a2 s = true) : (Cond.selects RX12 y y).before a2 s = true := by
  obtain ⟨c, r2, m2, q1, q2, q3, q4, kP, hkP, hkPi⟩ := Cond.selects_spec h0
  obtain ⟨mk, methM, hnamed, hmethM, -, -⟩ := Cond.instanceMethod_spec hinst
  have hy2 : y.cls ≠ "java/lang/invoke/MethodHandle" ∧ y.cls ≠ "java/lang/invoke/VarHandle" := by rw [hy]; decide
  have hfound : s.methodFound? y.cls y.name y.desc = some mk := State.methodFound?_of_named hnamed hy2
  have hcls : mk.cls = m2.cls := by
    have e1 := findClass_of_methodNamed hnamed
    have e2 := findClass_of_methodNamed q3
    rw [hy] at e1
    exact Option.some.inj (e1.symm.trans e2)
  have hsel : selectMethod {} s.vm c mk = .method mk := selectMethod_private hmethM (Cond.privateMethod_at hpriv mk methM hnamed hmethM)
  simp only [Cond.before, Cond.holds, Cond.value, q1, hfound, hnamed, hsel, hcls, hkP]
  simp; exact hkPi
/-- a method that draws is called -/
theorem d_callD (C : Cx l g p s m meth c cc nL RX12) (S : S2 g s σ R L H locs) {d mc ms mL : Nat} {y : MethodName} {b : ByteArray} {As : List Value} {a v : Nat} {t : List Nat} {post : SI → List Nat → Prop} {st : List Value} (hM : Cdr l g d y b mL mc ms (.ref (ga g 178) :: As) σ R L a v t post) (hT : TXt g a v t H)
    (hw : Cond.code y b mL none ∈ BW ∧ Cond.initialized y.cls ∈ BW ∧ Cond.methodLink RX12 index y ∈ BW ∧ Cond.instanceMethod y ∈ BW ∧ Cond.privateMethod y ∈ BW ∧ y.cls = RX12) (h0 : Cond.selects RX12 yX12_window yX12_window ∈ BW) (hy : y.cls ≠ "java/lang/invoke/MethodHandle" ∧ y.cls ≠ "java/lang/invoke/VarHandle") (hlen : (parseMethodDescriptor y.desc).map (fun d => d.parameters.length) = some As.length)
    (hroom : d + 1 ≤ R0.frames ∧ 8 + (mL + 11) + 64 * d ≤ R0.locals) (hsize : ls.size = nL) (hst : st = As.reverse ++ .ref (ga g 178) :: rest) (hW : (rest.map fun v => v.category).sum ≤ 8) (hf : cells + mc ≤ R0.cells ∧ slots + ms ≤ R0.slots) (hdg : decode cc pc = .ok (.invokevirtual index, 3))
    (kk : ∀ (σ' : SI) (R' : Nat → Nat → Nat) (a' v' : Nat) (t' : List Nat) (H1 : Heap) (locs1 : List Loc), post σ' t' → RDr R' → ShR R' → TL g R' a' v' → Asc t' → TXt g a' v' t' H1 → S2 g s σ' R' L H1 locs1 → W p l e R0 s m args below meth c H1 locs1 (cells + mc) (slots + ms) Q (F0 m (pc + 3) ls rest)) : W p l e R0 s m args below meth c H locs cells slots Q (F0 m pc ls st) := by
  have hr := va_runV (p := p) (l := l) (e := e) (R := R0) (s := s) (m := m) (args := args) (below := below) (meth := meth) (c := c) (H := H) (locs := locs) (cells := cells) (slots := slots) (Ts := []) ⟨C.1, C.2.1, C.2.2.1, C.2.2.2.1, fun w h => by cases h⟩ hM ⟨v_cb C hw.1 hw.2.1 hw.2.2.1 hy hlen hroom, C.2.2.2.2.1.w hw.2.2.2.1, sel_own hw.2.2.2.2.2 (C.2.2.2.2.1.w h0) (C.2.2.2.2.1.w hw.2.2.2.2.1) (C.2.2.2.2.1.w hw.2.2.2.1)⟩ ⟨Pd.blind, v_recv C S (id := 178) (kc := 12) ⟨by decide +kernel, by decide, by decide⟩ rfl (by decide), fun U hU hW => ⟨rfl, C.2.2.2.2.1.warm hW, by rw [hU]; exact StL.low C.2.2.2.2.2.1 S, by rw [hU]; exact S.1, by rw [hU]; exact hT⟩⟩ rfl rfl hsize hst (lv_room hW) hdg hf
  intro T hT X
  obtain ⟨v, st₀, t, T', L', h0, X', hL, e1, e2, ⟨⟨σ', R', a', v', t', ho, hp, hRD, hSh, hTL, hA, hw, hTx⟩, hF⟩, step⟩ := hr T hT X
  cases ho
  obtain ⟨t2, a1, b1⟩ := kk σ' R' a' v' t' T'.heap (locs ++ L') hp hRD hSh hTL hA (by rw [e1]; exact hTx) (StL.lift S h0 e1 hw hF hL) T' rfl X'
  exact ⟨t2, step t2 a1, b1⟩
end VF
