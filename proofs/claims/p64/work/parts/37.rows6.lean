/-! ===== phase 1: rows of constructors ===== -/
def mkN (n : Nat) (σ : SI) (R : Nat → Nat → Nat) (L : Nat → Nat → Int64) : Sg := (σ, R, L, n)
def SN (n : Nat) (g : GL) (s : State) (σ : SI) (R : Nat → Nat → Nat) (L : Nat → Nat → Int64) (H : Heap) (locs : List Loc) : Prop := StL g n s (mkN n σ R L) H locs
theorem SN.of {n : Nat} {g : GL} {s : State} {z : Sg} {H : Heap} {locs : List Loc} (h : sn z = n) (S : StL g n s z H locs) : SN n g s z.1 z.2.1 z.2.2.1 H locs := by
  subst h
  exact S
def PVn (n : Nat) (R : Nat → Nat → Nat) (L : Nat → Nat → Int64) (r : Unit × SI) : Option Value → Sg → Prop := fun v σ' => v = none ∧ σ' = mkN n r.2 R L
def OkZ (n z x c : Nat) : Prop := Ok n x c ∧ x = z
theorem shz {n z x c : Nat} {R : Nat → Nat → Nat} (h : OkZ n z x c) (hSh : ∀ k d, fk c k = some d → Ok n (R z k) d) (k d : Nat) (hf : fk c k = some d) : Ok n (R x k) d := by
  rw [h.2]
  exact hSh k d hf
section VNEW2
variable {l : Launch} {g : GL} {p : Program} {e : Jvm.Env} {R : Room} {s : State} {m : MethodId} {args : Array Value} {below : List Frame} {meth : Method} {c : Code} {H : Heap} {locs : List Loc} {cells slots : Nat} {Q : State → Prop}
variable {cc : ByteArray} {nL : Nat} {own : String} {pc n : Nat} {ls : Array Slot} {rest : List Value} {σ : Sg} {id kc index : Nat} {Cn : String} {T : u_T} {N : Nat} {ty0 : Nat → FieldType}
theorem a_newI (C : Cx l g p s m meth c cc nL own) (S : StL g n s σ H locs) (hn : n < 201) (hz : Zr n σ) (harr : Cond.arrayClass .int ∈ BW) {k : Int32} {len : Nat} (hlen : len < 10000) (hk : kd (n + 1) = 10000 + len) (h0 : ¬ k < 0) (hN : k.toNatClampNeg = len) (hcells : cells + 1 ≤ R.cells) (hslots : slots + len ≤ R.slots) (hdg : decode cc pc = .ok (.newarray .int, 2))
    (kk : ∀ H1 : Heap, StL g (n + 1) s (alk 1 σ) H1 locs → Zr (n + 1) (alk 1 σ) → W p l e R s m args below meth c H1 locs (cells + 1) (slots + len) Q (F0 m (pc + 2) ls (.ref (ga g (n + 1)) :: rest))) : W p l e R s m args below meth c H locs cells slots Q (F0 m pc ls (.int k :: rest)) := by
  refine a_newA (ty := .int) C S hn hz rfl harr 0 rfl (fun _ => rfl) hk (fun σ h1 h2 => ⟨_, elk_i σ (n + 1) len hlen, fun cA => ?_⟩) h0 hN (by show len * 4 ≤ _; omega) hcells hslots hdg kk
  rw [vp_cell_i]
  congr 1
  funext j
  rw [h1 j]
  rfl
theorem a_newB (C : Cx l g p s m meth c cc nL own) (S : StL g n s σ H locs) (hn : n < 201) (hz : Zr n σ) (harr : Cond.arrayClass .byte ∈ BW) {k : Int32} {len : Nat} (hlen : len < 10000) (hk : kd (n + 1) = 20000 + len) (h0 : ¬ k < 0) (hN : k.toNatClampNeg = len) (hcells : cells + 1 ≤ R.cells) (hslots : slots + len ≤ R.slots) (hdg : decode cc pc = .ok (.newarray .byte, 2))
    (kk : ∀ H1 : Heap, StL g (n + 1) s (alk 1 σ) H1 locs → Zr (n + 1) (alk 1 σ) → W p l e R s m args below meth c H1 locs (cells + 1) (slots + len) Q (F0 m (pc + 2) ls (.ref (ga g (n + 1)) :: rest))) : W p l e R s m args below meth c H locs cells slots Q (F0 m pc ls (.int k :: rest)) := by
  refine a_newA (ty := .byte) C S hn hz rfl harr 1 rfl (fun _ => rfl) hk (fun σ h1 h2 => ⟨_, elk_b σ (n + 1) len hlen, fun cA => ?_⟩) h0 hN (by show len * 1 ≤ _; omega) hcells hslots hdg kk
  rw [vp_cell_i]
  congr 1
  funext j
  rw [h1 j]
  rfl
/-- new int[N][K]: the outer cell is n + 1, its rows n + 2 .. -/
def mnS (n N : Nat) (σ : Sg) : Sg := (σ.1, fun a j => if a = n + 1 ∧ j < N then n + 2 + j else σ.2.1 a j, σ.2.2)
theorem a_mna (C : Cx l g p s m meth c cc nL own) (S : StL g n s σ H locs) {N' K' : Nat} (hn : n + (1 + N') ≤ 201) (hz : Zr n σ) (hw : Cond.classLink own index "[[I" ∈ BW ∧ Cond.arrayOver (.array .int) ∈ BW ∧ Cond.arrayClass .int ∈ BW) {x k : Int32} (hx0 : ¬ x < 0) (hk0 : ¬ k < 0) (hN : x.toNatClampNeg = N') (hK : k.toNatClampNeg = K') (hKl : K' < 10000) (hNl : N' < 10000)
    (hk1 : kd (n + 1) = 80000 + N') (hk2 : ∀ j, j < N' → kd (n + 2 + j) = 10000 + K') (hcells : cells + (1 + N') ≤ R.cells) (hslots : slots + (N' + N' * K') ≤ R.slots) (hdg : decode cc pc = .ok (.multianewarray index 2, 4))
    (kk : ∀ H1 : Heap, StL g (n + (1 + N')) s (alk (1 + N') (mnS n N' σ)) H1 locs → W p l e R s m args below meth c H1 locs (cells + 1 + N') (slots + N' + N' * K') Q (F0 m (pc + 4) ls (.ref (ga g (n + 1)) :: rest))) : W p l e R s m args below meth c H locs cells slots Q (F0 m pc ls (.int k :: .int x :: rest)) := by
  have hx := C.1
  have hb := C.2.1
  have hE := C.2.2.2.2.1
  have hs : H.size = gb g + (n + 1) := by have := S.1.2.2.1 (by omega); omega
  have hs' : H.size = ga g (n + 1) := by rw [ga_lt (by omega)]; exact hs
  subst hN
  subst hK
  intro T hT Xs
  obtain ⟨vm₁, cA, comp, -, fA, fC, hO, -, X', step⟩ := Xs.multianewarray2F hx C.2.2.2.1 (hE.w hw.1) (hE.w hw.2.1) (hE.w hw.2.2) (g := F0 m pc ls (.int k :: .int x :: rest)) rfl (by rw [hb]; exact hdg) rfl hx0 hk0 (by omega) (by show _ * 4 ≤ _; omega) (by omega) rfl rfl hcells hslots
  have hTs : T.heap.size = ga g (n + 1) := by rw [hT]; exact hs'
  rw [hTs] at step
  have e7 : some (gT g 7) = some cA := ((hE.2.1.2 7 _ rfl).2 : s.vm.findClass _ = _).symm.trans fA
  have e0 : some (gT g 0) = some comp := ((hE.2.1.2 0 _ rfl).2 : s.vm.findClass _ = _).symm.trans fC
  cases e7
  cases e0
  generalize hF : Jvm.Free.Multi.fill (T.setVm vm₁) (gT g 7) (gT g 0) x.toNatClampNeg k.toNatClampNeg (defaultValue .int) x.toNatClampNeg = F at X' step
  have hTh : (T.setVm vm₁).heap = H := hT
  obtain ⟨f1, f2, -, -⟩ := Jvm.Free.Multi.fill_facts (T.setVm vm₁) (gT g 7) (gT g 0) x.toNatClampNeg k.toNatClampNeg (defaultValue .int) x.toNatClampNeg
  rw [hF, hTh] at f1 f2
  have hold : ∀ q : Nat, q < H.size → F.heap[q]? = H[q]? := fun q hq => by
    have := Jvm.Free.Multi.fill_old (T.setVm vm₁) (gT g 7) (gT g 0) x.toNatClampNeg k.toNatClampNeg (defaultValue .int) (a := q) (by rw [hTh]; exact hq) x.toNatClampNeg
    rw [hF, hTh] at this
    exact this
  have hrow : ∀ j : Nat, j < x.toNatClampNeg → F.heap[H.size + 1 + j]? = some (Jvm.Free.Multi.innerC (gT g 0) k.toNatClampNeg (defaultValue .int)) := fun j hj => by
    have := Jvm.Free.Multi.fill_inner (T.setVm vm₁) (gT g 7) (gT g 0) x.toNatClampNeg k.toNatClampNeg (defaultValue .int) x.toNatClampNeg j hj
    rw [hF, hTh] at this
    exact this
  have S0 : StL g n s (mnS n x.toNatClampNeg σ) H locs := by
    refine ⟨⟨fun i h0 h1 => ?_, S.1.2.1, S.1.2.2⟩, S.2⟩
    have h1' : i ≤ n := by rw [← S.1.2.1]; exact h1
    rw [elk_ext (σ := σ) (σ' := mnS n x.toNatClampNeg σ) (kd i) rfl (funext fun j => if_neg (by omega)) rfl]
    exact S.1.1 i h0 h1
  have hnew : ∀ i, i < 1 + x.toNatClampNeg → va_at (gD g) vwCl (ga g (n + 1 + i), elk g (kd (n + 1 + i)) (mnS n x.toNatClampNeg σ) (n + 1 + i)) F.heap := fun i hi => by
    by_cases hi0 : i = 0
    · subst hi0
      rw [show n + 1 + 0 = n + 1 by omega, hk1, show (80000 + x.toNatClampNeg) = 10000 * 7 + 10000 + x.toNatClampNeg by omega, elk_q 7 (by omega) _ _ _ hNl]
      show F.heap[ga g (n + 1)]? = some (vp_cell _ _)
      rw [← hs', f2, vp_cell_q]
      have hv := vr_outer (gT g 7) x.toNatClampNeg H.size x.toNatClampNeg
      rw [hv]
      refine congrArg some (congrArg (arrV (gT g 7) x.toNatClampNeg) (funext fun j => ?_))
      refine congrArg va_rf ?_
      show (if j < x.toNatClampNeg then some (H.size + 1 + j) else none) = ro g (sR (mnS n x.toNatClampNeg σ) (n + 1) j)
      by_cases hj : j < x.toNatClampNeg
      · rw [if_pos hj, show sR (mnS n x.toNatClampNeg σ) (n + 1) j = n + 2 + j from if_pos ⟨rfl, hj⟩, ro_pos (by omega)]
        exact congrArg some (by rw [ga_lt (by omega)]; omega)
      · rw [if_neg hj, show sR (mnS n x.toNatClampNeg σ) (n + 1) j = sR σ (n + 1) j from if_neg (fun q => hj q.2), (hz (n + 1) (by omega)).2.1 j]
        rfl
    · obtain ⟨j, rfl⟩ : ∃ j, i = j + 1 := ⟨i - 1, by omega⟩
      rw [show n + 1 + (j + 1) = n + 2 + j by omega, hk2 j (by omega), elk_i _ _ _ hKl]
      show F.heap[ga g (n + 2 + j)]? = some (vp_cell _ _)
      rw [show ga g (n + 2 + j) = H.size + 1 + j by rw [ga_lt (by omega)]; omega, hrow j (by omega), vp_cell_i]
      refine congrArg some ?_
      show ({ cls := gT g 0, slots := Array.replicate k.toNatClampNeg (defaultValue .int), vm := .none } : Cell) = _
      rw [arrV_new]
      refine congrArg (arrV (gT g 0) k.toNatClampNeg) (funext fun j' => ?_)
      show Value.int 0 = Value.int (sI σ (n + 2 + j) j')
      rw [(hz (n + 2 + j) (by omega)).1 j']
  obtain ⟨t2, a1, b1⟩ := kk F.heap (S0.grow (k := 1 + x.toNatClampNeg) hn (by omega) (by omega) hold hnew) _ rfl X'
  exact ⟨t2, step t2 a1, b1⟩
theorem zr_mna {n N : Nat} {σ : Sg} (hz : Zr n σ) : Zr (n + (1 + N)) (alk (1 + N) (mnS n N σ)) := fun id hid => ⟨(hz id (by omega)).1, fun j => by
  show (if id = n + 1 ∧ j < N then n + 2 + j else σ.2.1 id j) = 0
  rw [if_neg (by omega)]
  exact (hz id (by omega)).2.1 j, (hz id (by omega)).2.2⟩
variable {d mc ms mL n' : Nat} {y : MethodName} {b : ByteArray} {As st : List Value} {post : Option Value → Sg → Prop}
theorem v_callI (C : Cx l g p s m meth c cc nL own) (S : StL g n s σ H locs) (hM : Ct l g d y b mL none n n' mc ms (.ref (ga g id) :: As) σ post)
    (hw : Cond.code y b mL none ∈ BW ∧ Cond.initialized y.cls ∈ BW ∧ Cond.methodLink own index y ∈ BW ∧ Cond.instanceMethod y ∈ BW) (hyn : y.name = "<init>") (hy : y.cls ≠ "java/lang/invoke/MethodHandle" ∧ y.cls ≠ "java/lang/invoke/VarHandle") (hlen : (parseMethodDescriptor y.desc).map (fun d => d.parameters.length) = some As.length)
    (hroom : d + 1 ≤ R.frames ∧ 8 + (mL + 11) + 64 * d ≤ R.locals) (hsize : ls.size = nL) (hst : st = As.reverse ++ .ref (ga g id) :: rest) (hW : (rest.map fun v => v.category).sum ≤ 8) (hf : cells + mc ≤ R.cells ∧ slots + ms ≤ R.slots) (hdg : decode cc pc = .ok (.invokespecial index, 3))
    (kk : ∀ (v : Option Value) (σ' : Sg) (H1 : Heap) (locs1 : List Loc), post v σ' → StL g n' s σ' H1 locs1 → W p l e R s m args below meth c H1 locs1 (cells + mc) (slots + ms) Q (F0 m (pc + 3) ls (v.toList ++ rest))) : W p l e R s m args below meth c H locs cells slots Q (F0 m pc ls st) :=
  v_go (g0 := F0 m pc ls st) ⟨rfl, rfl⟩ (va_runI (Ts := []) ⟨C.1, C.2.1, C.2.2.1, C.2.2.2.1, fun w h => by cases h⟩ hM ⟨v_cb C hw.1 hw.2.1 hw.2.2.1 hy hlen hroom, hyn, C.2.2.2.2.1.w hw.2.2.2⟩ ⟨Pcc.blind, v_pcc C S _⟩ rfl rfl hsize hst (lv_room hW) hdg hf) S kk
theorem v_callIN (C : Cx l g p s m meth c cc nL own) (S : StL g n s σ H locs) (hM : Ct l g d y b mL none n n' mc ms (.ref (ga g id) :: As) σ post)
    (hw : Cond.code y b mL none ∈ BW ∧ Cond.initialized y.cls ∈ BW ∧ Cond.methodLinkNest own index y "BlastPlanner" ∈ BW ∧ Cond.instanceMethod y ∈ BW) (hyn : y.name = "<init>") (hy : y.cls ≠ "java/lang/invoke/MethodHandle" ∧ y.cls ≠ "java/lang/invoke/VarHandle") (hlen : (parseMethodDescriptor y.desc).map (fun d => d.parameters.length) = some As.length)
    (hroom : d + 1 ≤ R.frames ∧ 8 + (mL + 11) + 64 * d ≤ R.locals) (hsize : ls.size = nL) (hst : st = As.reverse ++ .ref (ga g id) :: rest) (hW : (rest.map fun v => v.category).sum ≤ 8) (hf : cells + mc ≤ R.cells ∧ slots + ms ≤ R.slots) (hdg : decode cc pc = .ok (.invokespecial index, 3))
    (kk : ∀ (v : Option Value) (σ' : Sg) (H1 : Heap) (locs1 : List Loc), post v σ' → StL g n' s σ' H1 locs1 → W p l e R s m args below meth c H1 locs1 (cells + mc) (slots + ms) Q (F0 m (pc + 3) ls (v.toList ++ rest))) : W p l e R s m args below meth c H locs cells slots Q (F0 m pc ls st) :=
  v_go (g0 := F0 m pc ls st) ⟨rfl, rfl⟩ (va_runIN (Ts := []) (host := "BlastPlanner") ⟨C.1, C.2.1, C.2.2.1, C.2.2.2.1, fun w h => by cases h⟩ hM ⟨⟨⟨rfl, rfl, hroom.1, hroom.2, fun w hw' a' U hW => v_code (s := s) hw.1 w hw' a' U hW C.2.2.2.2.1.1, List.mem_singleton.mpr rfl⟩, C.2.2.2.2.1.w hw.1, C.2.2.2.2.1.w hw.2.1, hy, fun sig h => by rw [h] at hlen; exact (Option.some.inj hlen).symm, C.2.2.2.2.1.w hw.2.2.1⟩, hyn, C.2.2.2.2.1.w hw.2.2.2⟩ ⟨Pcc.blind, v_pcc C S _⟩ rfl rfl hsize hst (lv_room hW) hdg hf) S kk
theorem a_getR (C : Cx l g p s m meth c cc nL own) (S : StL g n s σ H locs) (K : KC kc Cn T N ty0) (hid : Ok n id kc) (k : Nat) (hk : k < N) (hb' : (flK kc)[k]? = some true) (hT : (T k).1 = Cn)
    (hw : Cond.fieldLink own index Cn (T k).2.1 (T k).2.2.1 ∈ BW) {r : Nat} (hr : sR σ id k = r) (h0 : 0 < r) (hdg : decode cc pc = .ok (.getfield index, 3))
    (kk : W p l e R s m args below meth c H locs cells slots Q (F0 m (pc + 3) ls (.ref (ga g r) :: rest))) : W p l e R s m args below meth c H locs cells slots Q (F0 m pc ls (.ref (ga g id) :: rest)) := by
  refine v_get C S hid K.1 K.2.1 K.2.2.2.2 k hk hb' hT hw hdg ?_
  show W p l e R s m args below meth c H locs cells slots Q (F0 m (pc + 3) ls (va_rf (ro g (sR σ id k)) :: rest))
  rw [hr, ro_pos h0]
  exact kk
theorem a_obj (C : Cx l g p s m meth c cc nL own) (hlink : Cond.methodLink own index Lib.objectInit ∈ BW) (hinst : Cond.instanceMethod Lib.objectInit ∈ BW) (hcode : Cond.code Lib.objectInit ⟨#[0xb1]⟩ 1 none ∈ BW) (hsize : ls.size = nL) {a : Nat} (hdg : decode cc pc = .ok (.invokespecial index, 3))
    (hframes : 1 ≤ R.frames) (hlocals : (rest.map fun v => v.category).sum + 12 ≤ R.locals)
    (kk : W p l e R s m args below meth c H locs cells slots Q (F0 m (pc + 3) ls rest)) : W p l e R s m args below meth c H locs cells slots Q (F0 m pc ls (.ref a :: rest)) :=
  W.objInit C.1 C.2.1 C.2.2.2.1 (C.2.2.2.2.1.w hlink) (C.2.2.2.2.1.w hinst) (C.2.2.2.2.1.w hcode) rfl (hsize.trans C.2.2.1.symm) rfl hdg hframes (by show 2 * 0 + _ + 12 ≤ _; omega) kk
end VNEW2
section WN
variable {l : Launch} {g : GL} {p : Program} {e : Jvm.Env} {R0 : Room} {s : State} {m : MethodId} {args : Array Value} {below : List Frame} {meth : Method} {c : Code} {H : Heap} {locs : List Loc} {cells slots : Nat} {Q : State → Prop}
variable {cc : ByteArray} {nL : Nat} {own : String} {pc n z : Nat} {ls : Array Slot} {rest : List Value} {σ : SI} {R : Nat → Nat → Nat} {L : Nat → Nat → Int64} {id kc index len : Nat} {Cn : String} {T : u_T} {N : Nat} {ty0 : Nat → FieldType}
theorem xn_getR (C : Cx l g p s m meth c cc nL own) (S : SN n g s σ R L H locs) (K : KC kc Cn T N ty0) (hid : OkZ n z id kc) (k : Nat) (hk : k < N) (hb' : (flK kc)[k]? = some true) (hT : (T k).1 = Cn)
    (hw : Cond.fieldLink own index Cn (T k).2.1 (T k).2.2.1 ∈ BW) {d : Nat} (hr : Ok n (R id k) d) (hdg : decode cc pc = .ok (.getfield index, 3))
    (kk : W p l e R0 s m args below meth c H locs cells slots Q (F0 m (pc + 3) ls (.ref (ga g (R id k)) :: rest))) : W p l e R0 s m args below meth c H locs cells slots Q (F0 m pc ls (.ref (ga g id) :: rest)) :=
  v_getR C S hid.1 K.1 K.2.1 K.2.2.2.2 k hk hb' hT hw hr hdg kk
theorem xn_putI (C : Cx l g p s m meth c cc nL own) (S : SN n g s σ R L H locs) (K : KC kc Cn T N ty0) (hid : OkZ n z id kc) (k : Nat) (hk : k < N) (hb' : (flK kc)[k]? = some false) (hT : (T k).1 = Cn) (hfin : (T k).2.2.2 = false) {x : Int32} (hn : narrow (ty0 k) (.int x) = .int x ∧ fits (ty0 k) (.int x) = true)
    (hw : Cond.fieldLink own index Cn (T k).2.1 (T k).2.2.1 ∈ BW) (hdg : decode cc pc = .ok (.putfield index, 3)) {σ1 : SI} (h1 : up σ id k x = σ1)
    (kk : ∀ (H1 : Heap) (locs1 : List Loc), SN n g s σ1 R L H1 locs1 → W p l e R0 s m args below meth c H1 locs1 cells slots Q (F0 m (pc + 3) ls rest)) : W p l e R0 s m args below meth c H locs cells slots Q (F0 m pc ls (.int x :: .ref (ga g id) :: rest)) := by
  subst h1
  exact v_putI C S hid.1 K.1 K.2.1 ty0 K.2.2.1 K.2.2.2.1 K.2.2.2.2 k hk hT hfin hn.1 hn.2 hb' hw hdg kk
theorem xn_iast (C : Cx l g p s m meth c cc nL own) (S : SN n g s σ R L H locs) (hlen : len < 10000) (hid : Ok n id (10000 + len)) {i x : Int32} (hin : vp_in i len) (hdg : decode cc pc = .ok (.iastore, 1)) {σ1 : SI} (h1 : up σ id i.toNatClampNeg x = σ1)
    (kk : ∀ (H1 : Heap) (locs1 : List Loc), SN n g s σ1 R L H1 locs1 → W p l e R0 s m args below meth c H1 locs1 cells slots Q (F0 m (pc + 1) ls rest)) : W p l e R0 s m args below meth c H locs cells slots Q (F0 m pc ls (.int x :: .int i :: .ref (ga g id) :: rest)) := by
  subst h1
  exact v_iast C S hlen hid hin hdg kk
theorem xn_vret {r : Unit × SI} (C : Cx l g p s m meth c cc nL own) (S : SN n g s σ R L H locs) (hr : meth.sig.returnType = none) (hp : some ((), σ) = some r) (hdg : decode cc pc = .ok (.return_, 1)) : W p l e R0 s m args below meth c H locs cells slots (MQ below (Qg g n (PVn n R L r)) args s cells slots (gA g)) (F0 m pc ls []) :=
  v_vret C S hr (by cases hp; exact ⟨rfl, rfl⟩) hdg
end WN
theorem df_X0 : Df 0 14 tyX0 := by
  intro j hj
  match j, hj with
  | 0, _ => exact ⟨_, rfl, rfl⟩
  | 1, _ => exact ⟨_, rfl, rfl⟩
  | 2, _ => exact ⟨_, rfl, rfl⟩
  | 3, _ => exact ⟨_, rfl, rfl⟩
  | 4, _ => exact ⟨_, rfl, rfl⟩
  | 5, _ => exact ⟨_, rfl, rfl⟩
  | 6, _ => exact ⟨_, rfl, rfl⟩
  | 7, _ => exact ⟨_, rfl, rfl⟩
  | 8, _ => exact ⟨_, rfl, rfl⟩
  | 9, _ => exact ⟨_, rfl, rfl⟩
  | 10, _ => exact ⟨_, rfl, rfl⟩
  | 11, _ => exact ⟨_, rfl, rfl⟩
  | 12, _ => exact ⟨_, rfl, rfl⟩
  | 13, _ => exact ⟨_, rfl, rfl⟩
  | j + 14, hj => exact absurd hj (by omega)
theorem df_X1 : Df 1 2 tyX1 := by
  intro j hj
  match j, hj with
  | 0, _ => exact ⟨_, rfl, rfl⟩
  | 1, _ => exact ⟨_, rfl, rfl⟩
  | j + 2, hj => exact absurd hj (by omega)
theorem df_X2 : Df 2 3 tyX2 := by
  intro j hj
  match j, hj with
  | 0, _ => exact ⟨_, rfl, rfl⟩
  | 1, _ => exact ⟨_, rfl, rfl⟩
  | 2, _ => exact ⟨_, rfl, rfl⟩
  | j + 3, hj => exact absurd hj (by omega)
theorem df_X3 : Df 3 3 tyX3 := by
  intro j hj
  match j, hj with
  | 0, _ => exact ⟨_, rfl, rfl⟩
  | 1, _ => exact ⟨_, rfl, rfl⟩
  | 2, _ => exact ⟨_, rfl, rfl⟩
  | j + 3, hj => exact absurd hj (by omega)
theorem df_X4 : Df 4 6 tyX4 := by
  intro j hj
  match j, hj with
  | 0, _ => exact ⟨_, rfl, rfl⟩
  | 1, _ => exact ⟨_, rfl, rfl⟩
  | 2, _ => exact ⟨_, rfl, rfl⟩
  | 3, _ => exact ⟨_, rfl, rfl⟩
  | 4, _ => exact ⟨_, rfl, rfl⟩
  | 5, _ => exact ⟨_, rfl, rfl⟩
  | j + 6, hj => exact absurd hj (by omega)
theorem df_X5 : Df 5 1 tyX5 := by
  intro j hj
  match j, hj with
  | 0, _ => exact ⟨_, rfl, rfl⟩
  | j + 1, hj => exact absurd hj (by omega)
theorem df_X6 : Df 6 6 tyX6 := by
  intro j hj
  match j, hj with
  | 0, _ => exact ⟨_, rfl, rfl⟩
  | 1, _ => exact ⟨_, rfl, rfl⟩
  | 2, _ => exact ⟨_, rfl, rfl⟩
  | 3, _ => exact ⟨_, rfl, rfl⟩
  | 4, _ => exact ⟨_, rfl, rfl⟩
  | 5, _ => exact ⟨_, rfl, rfl⟩
  | j + 6, hj => exact absurd hj (by omega)
theorem df_X7 : Df 7 4 tyX7 := by
  intro j hj
  match j, hj with
  | 0, _ => exact ⟨_, rfl, rfl⟩
  | 1, _ => exact ⟨_, rfl, rfl⟩
  | 2, _ => exact ⟨_, rfl, rfl⟩
  | 3, _ => exact ⟨_, rfl, rfl⟩
  | j + 4, hj => exact absurd hj (by omega)
theorem df_X8 : Df 8 2 tyX8 := by
  intro j hj
  match j, hj with
  | 0, _ => exact ⟨_, rfl, rfl⟩
  | 1, _ => exact ⟨_, rfl, rfl⟩
  | j + 2, hj => exact absurd hj (by omega)
theorem df_X9 : Df 9 18 tyX9 := by
  intro j hj
  match j, hj with
  | 0, _ => exact ⟨_, rfl, rfl⟩
  | 1, _ => exact ⟨_, rfl, rfl⟩
  | 2, _ => exact ⟨_, rfl, rfl⟩
  | 3, _ => exact ⟨_, rfl, rfl⟩
  | 4, _ => exact ⟨_, rfl, rfl⟩
  | 5, _ => exact ⟨_, rfl, rfl⟩
  | 6, _ => exact ⟨_, rfl, rfl⟩
  | 7, _ => exact ⟨_, rfl, rfl⟩
  | 8, _ => exact ⟨_, rfl, rfl⟩
  | 9, _ => exact ⟨_, rfl, rfl⟩
  | 10, _ => exact ⟨_, rfl, rfl⟩
  | 11, _ => exact ⟨_, rfl, rfl⟩
  | 12, _ => exact ⟨_, rfl, rfl⟩
  | 13, _ => exact ⟨_, rfl, rfl⟩
  | 14, _ => exact ⟨_, rfl, rfl⟩
  | 15, _ => exact ⟨_, rfl, rfl⟩
  | 16, _ => exact ⟨_, rfl, rfl⟩
  | 17, _ => exact ⟨_, rfl, rfl⟩
  | j + 18, hj => exact absurd hj (by omega)
theorem df_X10 : Df 10 5 tyX10 := by
  intro j hj
  match j, hj with
  | 0, _ => exact ⟨_, rfl, rfl⟩
  | 1, _ => exact ⟨_, rfl, rfl⟩
  | 2, _ => exact ⟨_, rfl, rfl⟩
  | 3, _ => exact ⟨_, rfl, rfl⟩
  | 4, _ => exact ⟨_, rfl, rfl⟩
  | j + 5, hj => exact absurd hj (by omega)
theorem df_X11 : Df 11 10 tyX11 := by
  intro j hj
  match j, hj with
  | 0, _ => exact ⟨_, rfl, rfl⟩
  | 1, _ => exact ⟨_, rfl, rfl⟩
  | 2, _ => exact ⟨_, rfl, rfl⟩
  | 3, _ => exact ⟨_, rfl, rfl⟩
  | 4, _ => exact ⟨_, rfl, rfl⟩
  | 5, _ => exact ⟨_, rfl, rfl⟩
  | 6, _ => exact ⟨_, rfl, rfl⟩
  | 7, _ => exact ⟨_, rfl, rfl⟩
  | 8, _ => exact ⟨_, rfl, rfl⟩
  | 9, _ => exact ⟨_, rfl, rfl⟩
  | j + 10, hj => exact absurd hj (by omega)
set_option maxHeartbeats 4000000 in
set_option maxRecDepth 100000 in
theorem wn_X9_reset_82 {l : Launch} {g : GL} {p : Program} {e : Jvm.Env} {s : State} {m : MethodId} {args : Array Value} {below : List Frame} {meth : Method} {c : Code} {R : Nat → Nat → Nat} {L : Nat → Nat → Int64} {n0 z : Nat} {r : (Unit × SI)} {N : Nat} (C : Cx l g p s m meth c cX9_reset 2 RX9) (hr : meth.sig.returnType = none) (hSh : ∀ k d, fk 9 k = some d → Ok n0 (R z k) d) : ∀ (n : Nat) (σ : SI) (x0 : Nat) (x1 : Int32), f_X9_reset_82 N R n σ x0 x1 = some r → OkZ n0 z x0 9 → ∀ (H : Heap) (locs : List Loc) (ls : Array Slot), SN n0 g s σ R L H locs → lv_has ls 2 [(0, .ref (ga g x0)), (1, .int x1)] → W p l e (rmd 1 0 0) s m args below meth c H locs 0 0 (MQ below (Qg g n0 (PVn n0 R L r)) args s 0 0 (gA g)) (F0 m 82 ls []) := by
  have hx := C.1
  have hb := C.2.1
  intro n
  induction n with
  | zero =>
    intro σ x0 x1 h
    cases (show (none : Option (Unit × SI)) = some r from h)
  | succ n ih =>
    intro σ x0 x1 h hx0 H locs ls S hl
    rw [f_X9_reset_82] at h
    refine lv_iload_n hx hb dX9_reset_82 rfl (lv_at hl 1 rfl) ?_
    refine lv_bipush (v := (6 : Int32)) hx hb dX9_reset_83 (by decide) ?_
    refine lv_icmp_ge (tgt := 101) hx hb dX9_reset_85 (by decide) (fun c11 => ?_) (fun c11 => ?_)
    · have h := it_p c11 h
      exact xn_vret C S hr h dX9_reset_101
    · have h := it_n c11 h
      refine lv_aload_n hx hb dX9_reset_88 rfl (lv_at hl 0 rfl) ?_
      have hR12 : Ok n0 (R x0 6) 10006 := shz hx0 hSh 6 10006 rfl
      refine xn_getR C S KX9 hx0 6 (by decide) rfl rfl fl_RX9_39 hR12 dX9_reset_89 ?_
      refine lv_iload_n hx hb dX9_reset_92 rfl (lv_at hl 1 rfl) ?_
      refine lv_iconst (v := (-1 : Int32)) hx hb dX9_reset_93 (by decide) ?_
      obtain ⟨hi13, h⟩ := ck_el h
      obtain ⟨σ14, hs14, h⟩ := sq_el h
      refine xn_iast (len := 6) C S (by decide) hR12 hi13 dX9_reset_94 hs14 (fun H locs S => ?_)
      refine lv_iinc (v := x1 + 1) (lv' := [(1, .int (x1 + 1)), (0, .ref (ga g x0))]) hx hb dX9_reset_95 hl (k := 1) rfl rfl (by decide) rfl (fun ls hl => ?_)
      refine lv_goto (tgt := 82) hx hb dX9_reset_98 (by decide) ?_
      exact ih σ14 x0 (x1 + 1) h hx0 H locs ls S (lv_sub hl [1, 0] rfl)
set_option maxHeartbeats 4000000 in
set_option maxRecDepth 100000 in
theorem wn_X9_reset_54 {l : Launch} {g : GL} {p : Program} {e : Jvm.Env} {s : State} {m : MethodId} {args : Array Value} {below : List Frame} {meth : Method} {c : Code} {R : Nat → Nat → Nat} {L : Nat → Nat → Int64} {n0 z : Nat} {r : (Unit × SI)} {N : Nat} (C : Cx l g p s m meth c cX9_reset 2 RX9) (hr : meth.sig.returnType = none) (hSh : ∀ k d, fk 9 k = some d → Ok n0 (R z k) d) : ∀ (n : Nat) (σ : SI) (x0 : Nat) (x1 : Int32), f_X9_reset_54 N R n σ x0 x1 = some r → OkZ n0 z x0 9 → ∀ (H : Heap) (locs : List Loc) (ls : Array Slot), SN n0 g s σ R L H locs → lv_has ls 2 [(0, .ref (ga g x0)), (1, .int x1)] → W p l e (rmd 1 0 0) s m args below meth c H locs 0 0 (MQ below (Qg g n0 (PVn n0 R L r)) args s 0 0 (gA g)) (F0 m 54 ls []) := by
  have hx := C.1
  have hb := C.2.1
  intro n
  induction n with
  | zero =>
    intro σ x0 x1 h
    cases (show (none : Option (Unit × SI)) = some r from h)
  | succ n ih =>
    intro σ x0 x1 h hx0 H locs ls S hl
    rw [f_X9_reset_54] at h
    refine lv_iload_n hx hb dX9_reset_54 rfl (lv_at hl 1 rfl) ?_
    refine lv_bipush (v := (24 : Int32)) hx hb dX9_reset_55 (by decide) ?_
    refine lv_icmp_ge (tgt := 80) hx hb dX9_reset_57 (by decide) (fun c10 => ?_) (fun c10 => ?_)
    · have h := it_p c10 h
      refine lv_iconst (v := (0 : Int32)) hx hb dX9_reset_80 (by decide) ?_
      refine lv_istore_n (lv' := [(1, .int (0 : Int32)), (0, .ref (ga g x0))]) hx hb dX9_reset_81 rfl hl (by decide) rfl (fun ls hl => ?_)
      exact wn_X9_reset_82 C hr hSh N σ x0 (0 : Int32) h hx0 H locs ls S (lv_sub hl [1, 0] rfl)
    · have h := it_n c10 h
      refine lv_aload_n hx hb dX9_reset_60 rfl (lv_at hl 0 rfl) ?_
      have hR15 : Ok n0 (R x0 7) 10024 := shz hx0 hSh 7 10024 rfl
      refine xn_getR C S KX9 hx0 7 (by decide) rfl rfl fl_RX9_42 hR15 dX9_reset_61 ?_
      refine lv_iload_n hx hb dX9_reset_64 rfl (lv_at hl 1 rfl) ?_
      refine lv_iconst (v := (-1 : Int32)) hx hb dX9_reset_65 (by decide) ?_
      obtain ⟨hi16, h⟩ := ck_el h
      obtain ⟨σ17, hs17, h⟩ := sq_el h
      refine xn_iast (len := 24) C S (by decide) hR15 hi16 dX9_reset_66 hs17 (fun H locs S => ?_)
      refine lv_aload_n hx hb dX9_reset_67 rfl (lv_at hl 0 rfl) ?_
      have hR18 : Ok n0 (R x0 8) 10024 := shz hx0 hSh 8 10024 rfl
      refine xn_getR C S KX9 hx0 8 (by decide) rfl rfl fl_RX9_45 hR18 dX9_reset_68 ?_
      refine lv_iload_n hx hb dX9_reset_71 rfl (lv_at hl 1 rfl) ?_
      refine lv_iconst (v := (0 : Int32)) hx hb dX9_reset_72 (by decide) ?_
      obtain ⟨hi19, h⟩ := ck_el h
      obtain ⟨σ20, hs20, h⟩ := sq_el h
      refine xn_iast (len := 24) C S (by decide) hR18 hi19 dX9_reset_73 hs20 (fun H locs S => ?_)
      refine lv_iinc (v := x1 + 1) (lv' := [(1, .int (x1 + 1)), (0, .ref (ga g x0))]) hx hb dX9_reset_74 hl (k := 1) rfl rfl (by decide) rfl (fun ls hl => ?_)
      refine lv_goto (tgt := 54) hx hb dX9_reset_77 (by decide) ?_
      exact ih σ20 x0 (x1 + 1) h hx0 H locs ls S (lv_sub hl [1, 0] rfl)
set_option maxHeartbeats 4000000 in
set_option maxRecDepth 100000 in
theorem okn_X9_reset {l : Launch} {g : GL} {R : Nat → Nat → Nat} {L : Nat → Nat → Int64} {n0 z : Nat} {N : Nat} {σ : SI} {x0 : Nat} {r : (Unit × SI)} (h : f_X9_reset N R σ x0 = some r) (hSh : ∀ k d, fk 9 k = some d → Ok n0 (R z k) d) (hx0 : OkZ n0 z x0 9) : Ct l g 1 yX9_reset cX9_reset 2 none n0 n0 0 0 [.ref (ga g x0)] (mkN n0 σ R L) (PVn n0 R L r) := by
  refine Met.ofW (cc := cX9_reset) (maxL := 2) (ret := none) (by decide) rfl ?_
  intro p e s m args below meth c s₁ B hml hv
  obtain ⟨rfl, hE, hLo, hWd⟩ := hv
  have hr : meth.sig.returnType = none := B.returns
  have C : Cx l g p s m meth c cX9_reset 2 RX9 := ⟨B.exec, B.bytes, hml, findClass_of_methodNamed B.named, hE, hLo, B.notSynchronized⟩
  have S : SN n0 g s σ R L s.heap [] := ⟨hWd, va_S.rf⟩
  have hx := C.1
  have hb := C.2.1
  have hl := lv_entry ([.ref (ga g x0)]) (n := 2) (Nat.le_of_ble_eq_true rfl)
  rw [lg_entry_eq]
  generalize (lg_sl ([.ref (ga g x0)]) ++ List.replicate (2 - (lg_sl ([.ref (ga g x0)])).length) Slot.unset).toArray = ls at hl ⊢
  have hl : lv_has ls 2 [(0, .ref (ga g x0))] := hl
  generalize hH : s.heap = H at S ⊢
  generalize hlc : ([] : List Loc) = locs at S ⊢
  rw [f_X9_reset] at h
  refine lv_aload_n hx hb dX9_reset_0 rfl (lv_at hl 0 rfl) ?_
  refine lv_iconst (v := (0 : Int32)) hx hb dX9_reset_1 (by decide) ?_
  obtain ⟨σ1, hs1, h⟩ := sq_el h
  refine xn_putI C S KX9 hx0 9 (by decide) rfl rfl rfl ⟨rfl, rfl⟩ fl_RX9_54 dX9_reset_2 hs1 (fun H locs S => ?_)
  refine lv_aload_n hx hb dX9_reset_5 rfl (lv_at hl 0 rfl) ?_
  refine lv_iconst (v := (0 : Int32)) hx hb dX9_reset_6 (by decide) ?_
  obtain ⟨σ2, hs2, h⟩ := sq_el h
  refine xn_putI C S KX9 hx0 10 (by decide) rfl rfl rfl ⟨rfl, rfl⟩ fl_RX9_58 dX9_reset_7 hs2 (fun H locs S => ?_)
  refine lv_aload_n hx hb dX9_reset_10 rfl (lv_at hl 0 rfl) ?_
  refine lv_iconst (v := (0 : Int32)) hx hb dX9_reset_11 (by decide) ?_
  obtain ⟨σ3, hs3, h⟩ := sq_el h
  refine xn_putI C S KX9 hx0 11 (by decide) rfl rfl rfl ⟨rfl, rfl⟩ fl_RX9_61 dX9_reset_12 hs3 (fun H locs S => ?_)
  refine lv_aload_n hx hb dX9_reset_15 rfl (lv_at hl 0 rfl) ?_
  refine lv_sipush (v := (480 : Int32)) hx hb dX9_reset_16 (by decide) ?_
  obtain ⟨σ4, hs4, h⟩ := sq_el h
  refine xn_putI C S KX9 hx0 12 (by decide) rfl rfl rfl ⟨rfl, rfl⟩ fl_RX9_64 dX9_reset_19 hs4 (fun H locs S => ?_)
  refine lv_aload_n hx hb dX9_reset_22 rfl (lv_at hl 0 rfl) ?_
  refine lv_sipush (v := (960 : Int32)) hx hb dX9_reset_23 (by decide) ?_
  obtain ⟨σ5, hs5, h⟩ := sq_el h
  refine xn_putI C S KX9 hx0 13 (by decide) rfl rfl rfl ⟨rfl, rfl⟩ fl_RX9_67 dX9_reset_26 hs5 (fun H locs S => ?_)
  refine lv_aload_n hx hb dX9_reset_29 rfl (lv_at hl 0 rfl) ?_
  refine lv_bipush (v := (60 : Int32)) hx hb dX9_reset_30 (by decide) ?_
  obtain ⟨σ6, hs6, h⟩ := sq_el h
  refine xn_putI C S KX9 hx0 14 (by decide) rfl rfl rfl ⟨rfl, rfl⟩ fl_RX9_70 dX9_reset_32 hs6 (fun H locs S => ?_)
  refine lv_aload_n hx hb dX9_reset_35 rfl (lv_at hl 0 rfl) ?_
  refine lv_bipush (v := (10 : Int32)) hx hb dX9_reset_36 (by decide) ?_
  obtain ⟨σ7, hs7, h⟩ := sq_el h
  refine xn_putI C S KX9 hx0 15 (by decide) rfl rfl rfl ⟨rfl, rfl⟩ fl_RX9_73 dX9_reset_38 hs7 (fun H locs S => ?_)
  refine lv_aload_n hx hb dX9_reset_41 rfl (lv_at hl 0 rfl) ?_
  refine lv_iconst (v := (5 : Int32)) hx hb dX9_reset_42 (by decide) ?_
  obtain ⟨σ8, hs8, h⟩ := sq_el h
  refine xn_putI C S KX9 hx0 16 (by decide) rfl rfl rfl ⟨rfl, rfl⟩ fl_RX9_76 dX9_reset_43 hs8 (fun H locs S => ?_)
  refine lv_aload_n hx hb dX9_reset_46 rfl (lv_at hl 0 rfl) ?_
  refine lv_bipush (v := (15 : Int32)) hx hb dX9_reset_47 (by decide) ?_
  obtain ⟨σ9, hs9, h⟩ := sq_el h
  refine xn_putI C S KX9 hx0 17 (by decide) rfl rfl rfl ⟨rfl, rfl⟩ fl_RX9_79 dX9_reset_49 hs9 (fun H locs S => ?_)
  refine lv_iconst (v := (0 : Int32)) hx hb dX9_reset_52 (by decide) ?_
  refine lv_istore_n (lv' := [(1, .int (0 : Int32)), (0, .ref (ga g x0))]) hx hb dX9_reset_53 rfl hl (by decide) rfl (fun ls hl => ?_)
  exact wn_X9_reset_54 C hr hSh N σ9 x0 (0 : Int32) h hx0 H locs ls S (lv_sub hl [1, 0] rfl)

theorem df_X12 : Df 12 27 tyX12 := by
  intro j hj
  match j, hj with
  | 0, _ => exact ⟨_, rfl, rfl⟩
  | 1, _ => exact ⟨_, rfl, rfl⟩
  | 2, _ => exact ⟨_, rfl, rfl⟩
  | 3, _ => exact ⟨_, rfl, rfl⟩
  | 4, _ => exact ⟨_, rfl, rfl⟩
  | 5, _ => exact ⟨_, rfl, rfl⟩
  | 6, _ => exact ⟨_, rfl, rfl⟩
  | 7, _ => exact ⟨_, rfl, rfl⟩
  | 8, _ => exact ⟨_, rfl, rfl⟩
  | 9, _ => exact ⟨_, rfl, rfl⟩
  | 10, _ => exact ⟨_, rfl, rfl⟩
  | 11, _ => exact ⟨_, rfl, rfl⟩
  | 12, _ => exact ⟨_, rfl, rfl⟩
  | 13, _ => exact ⟨_, rfl, rfl⟩
  | 14, _ => exact ⟨_, rfl, rfl⟩
  | 15, _ => exact ⟨_, rfl, rfl⟩
  | 16, _ => exact ⟨_, rfl, rfl⟩
  | 17, _ => exact ⟨_, rfl, rfl⟩
  | 18, _ => exact ⟨_, rfl, rfl⟩
  | 19, _ => exact ⟨_, rfl, rfl⟩
  | 20, _ => exact ⟨_, rfl, rfl⟩
  | 21, _ => exact ⟨_, rfl, rfl⟩
  | 22, _ => exact ⟨_, rfl, rfl⟩
  | 23, _ => exact ⟨_, rfl, rfl⟩
  | 24, _ => exact ⟨_, rfl, rfl⟩
  | 25, _ => exact ⟨_, rfl, rfl⟩
  | 26, _ => exact ⟨_, rfl, rfl⟩
  | j + 27, hj => exact absurd hj (by omega)

theorem df_X13 : Df 13 1 tyX13 := by
  intro j hj
  match j, hj with
  | 0, _ => exact ⟨_, rfl, rfl⟩
  | j + 1, hj => exact absurd hj (by omega)
