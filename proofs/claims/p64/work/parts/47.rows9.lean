/-! ===== rows of the law's methods that draw: what they leave alone ===== -/
def g0 (g : GL) : GL := (g.1, g.2.1, g.2.2.1, g.2.2.2.1, g.2.2.2.2.1, g.2.2.2.2.2.1, g.2.2.2.2.2.2.1, g.2.2.2.2.2.2.2.1, 0)
theorem gA_g0 {g : GL} {q : Nat} (h : gA (g0 g) q) : gA g q := by
  rcases h with h | h | h
  · exact Or.inl h
  · exact Or.inr (Or.inl h)
  · exact absurd (show (0 : Nat) = 1 from h.1) (by decide)
theorem gA_g0_lo {g : GL} {q : Nat} (h : gA (g0 g) q) : q < gb g + 202 := by
  rcases h with h | h | h
  · have : q ≤ gb g + 201 := h.2
    omega
  · have : q = gb g - gO g := h
    omega
  · exact absurd (show (0 : Nat) = 1 from h.1) (by decide)
theorem Env.g0 {l : Launch} {g : GL} {U : State} (h : Env l g U) : Env l (g0 g) U := by
  obtain ⟨h1, h2, ⟨e1, e2, e3, e4, e5, e6, e7, e8, e9, e10, e11, e12, e13, e14, e15⟩, h4⟩ := h
  exact ⟨h1, h2, ⟨e1, e2.narrow fun _ => gA_g0, e3.narrow fun _ => gA_g0, e4.narrow fun _ => gA_g0, e5.narrow fun _ => gA_g0, e6.narrow fun _ => gA_g0, e7.narrow fun _ => gA_g0, e8.narrow fun _ => gA_g0, e9.narrow fun _ => gA_g0, e10.narrow fun _ => gA_g0, e11, e12.narrow fun _ => gA_g0, e13.narrow fun _ => gA_g0, e14.narrow fun _ => gA_g0, e15.narrow fun _ => gA_g0⟩, h4⟩
/-- the references of the drawn quarry -/
def RDr (R : Nat → Nat → Nat) : Prop := (∀ j, j < 15 → R 178 (9 + j) = 179 + j) ∧ R 178 24 = 194 ∧ R 178 25 = 198 ∧ (∀ j, j < 3 → R 194 j = 195 + j) ∧ (∀ j, j < 3 → R 198 j = 199 + j) ∧ ∀ o k, o ≠ 178 ∨ k ≠ 26 → R o k = zF.2.1 o k
def uT (R : Nat → Nat → Nat) (r : Nat) : Nat → Nat → Nat := fun o k => if o = 178 ∧ k = 26 then r else R o k
theorem uT_ne {R : Nat → Nat → Nat} {r o k : Nat} (h : o ≠ 178 ∨ k ≠ 26) : uT R r o k = R o k := if_neg (by omega)
theorem RDr.uT {R : Nat → Nat → Nat} {r : Nat} (h : RDr R) : RDr (uT R r) := by
  obtain ⟨h1, h2, h3, h4, h5, h6⟩ := h
  refine ⟨fun j hj => ?_, ?_, ?_, fun j hj => ?_, fun j hj => ?_, fun o k ho => (uT_ne ho).trans (h6 o k ho)⟩
  · rw [uT_ne (by omega)]; exact h1 j hj
  · rw [uT_ne (by omega)]; exact h2
  · rw [uT_ne (by omega)]; exact h3
  · rw [uT_ne (by omega)]; exact h4 j hj
  · rw [uT_ne (by omega)]; exact h5 j hj
theorem ShR.uT {R : Nat → Nat → Nat} {r : Nat} (h : ShR R) : ShR (uT R r) := by
  intro o c k d hc hk
  by_cases hq : o = 178 ∧ k = 26
  · obtain ⟨rfl, rfl⟩ := hq
    have e : c = 12 := hc.symm.trans (by decide +kernel)
    subst e
    cases (show (none : Option Nat) = some d from hk)
  · rw [uT_ne (by omega)]
    exact h o c k d hc hk
/-- where the text lies -/
def TL (g : GL) (R : Nat → Nat → Nat) (a v : Nat) : Prop := R 178 26 = a - gb g ∧ gb g + 203 ≤ a ∧ gb g + 202 ≤ v
theorem TL.ga {g : GL} {R : Nat → Nat → Nat} {a v : Nat} (h : TL g R a v) : ga g (R 178 26) = a := by
  rw [h.1, ga_lt (by have := h.2.1; omega)]
  have := h.2.1
  omega
theorem and_nI (a : Int32) : ∃ k, k < 32768 ∧ a &&& 32767 = nI k := by
  refine ⟨(a &&& 32767).toBitVec.toNat, ?_, ?_⟩
  · have e : (a &&& 32767).toBitVec = a.toBitVec &&& (32767 : BitVec 32) := rfl
    rw [e, BitVec.toNat_and]
    exact Nat.lt_of_le_of_lt Nat.and_le_right (by decide)
  · apply Int32.toBitVec_inj.mp
    show _ = (Int32.ofNat _).toBitVec
    simp [Int32.toBitVec_ofNat']
/-- a draw: some number below n, and nothing but the seed is changed -/
theorem next_val {N : Nat} {R : Nat → Nat → Nat} {σ : SI} {n : Nat} (h0 : 0 < n) (hn : n < 2 ^ 31) : ∃ (x : Nat) (σ1 : SI), f_X13_next N R σ 202 (nI n) = some (nI x, σ1) ∧ x < n ∧ ∀ o j, o ≠ 202 → σ1 o j = σ o j := by
  unfold f_X13_next sq
  have hcd : ∀ {α : Type} {x : Option α}, cd (nI n) x = x := fun {α} {x} => if_neg (nI_ne0 h0 hn)
  simp only [hcd]
  obtain ⟨k, hk, e⟩ := and_nI ((up σ 202 0 (σ 202 0 * 1103515245 + 12345) 202 0).toUInt32 >>> ((16 : Int32).toUInt32 &&& Int32.toUInt32 31)).toInt32
  refine ⟨k % n, up σ 202 0 (σ 202 0 * 1103515245 + 12345), ?_, Nat.mod_lt _ h0, fun o j ho => ?_⟩
  · rw [e, pk_rem (by omega) h0 hn]
  · unfold up
    rw [if_neg (by omega)]
section VD
variable {l : Launch} {g : GL} {p : Program} {e : Jvm.Env} {R0 : Room} {s : State} {m : MethodId} {args : Array Value} {below : List Frame} {meth : Method} {c : Code} {H : Heap} {locs : List Loc} {cells slots : Nat} {Q : State → Prop}
variable {cc : ByteArray} {nL : Nat} {own : String} {pc index : Nat} {ls : Array Slot} {rest : List Value} {σ : SI} {R : Nat → Nat → Nat} {L : Nat → Nat → Int64}
/-- a call of the zone's methods from where texts lie behind the cells -/
theorem d_go {σ0 : Sg} {mc ms : Nat} {post : Option Value → Sg → Prop} {st : List Value} {a : Array Value} (hr : va_Run p l e R0 s m args below meth c H locs cells slots mc ms (F0 m pc ls st) rest (Qg (g0 g) 202 post a) (gA (g0 g))) (S : StL g 202 s σ0 H locs)
    (kk : ∀ (v : Option Value) (σ' : Sg) (H1 : Heap) (locs1 : List Loc), post v σ' → StL g 202 s σ' H1 locs1 → H.size ≤ H1.size → (∀ q, gb g + 202 ≤ q → q < H.size → H1[q]? = H[q]?) → W p l e R0 s m args below meth c H1 locs1 (cells + mc) (slots + ms) Q (F0 m (pc + 3) ls (v.toList ++ rest))) : W p l e R0 s m args below meth c H locs cells slots Q (F0 m pc ls st) := by
  intro T hT X
  obtain ⟨v, st₀, t, T', L', h0, X', hL, e1, e2, ⟨⟨v', σ', hv, hp, hw⟩, hz, hk⟩, step⟩ := hr T hT X
  cases hv
  rw [h0] at hz hk
  obtain ⟨t2, a1, b1⟩ := kk v σ' T'.heap (locs ++ L') hp ⟨by rw [e1]; exact hw, by rw [e1]; exact Nat.le_trans S.2.1 hz, fun q h1 h2 => by rw [e1, hk q (Nat.lt_of_lt_of_le h1 S.2.1) (fun z => h2 (gA_g0 z))]; exact S.2.2.1 q h1 h2, fun q hq => by
      rcases List.mem_append.mp hq with h | h
      · exact S.2.2.2 q h
      · exact gA_g0 (hL q h)⟩ (by rw [e1]; exact hz) (fun q h1 h2 => by rw [e1]; exact hk q h2 (fun z => by have := gA_g0_lo z; omega)) T' rfl X'
  exact ⟨t2, step t2 a1, b1⟩
theorem d_next (C : Cx l g p s m meth c cc nL own) (S : S2 g s σ R L H locs) (hSh : ShR R) {n : Nat} (h0 : 0 < n) (hn : n < 2 ^ 31)
    (hw : Cond.code yX13_next cX13_next 2 (some .int) ∈ BW ∧ Cond.initialized RX13 ∈ BW ∧ Cond.methodLink own index yX13_next ∈ BW ∧ Cond.instanceMethod yX13_next ∈ BW ∧ Cond.selects RX13 yX13_next yX13_next ∈ BW)
    (hroom : 2 ≤ R0.frames ∧ 90 ≤ R0.locals) (hsize : ls.size = nL) (hW : (rest.map fun v => v.category).sum ≤ 8) (hf : cells ≤ R0.cells ∧ slots ≤ R0.slots) (hdg : decode cc pc = .ok (.invokevirtual index, 3))
    (kk : ∀ (x : Nat) (σ1 : SI) (H1 : Heap) (locs1 : List Loc), x < n → (∀ o j, o ≠ 202 → σ1 o j = σ o j) → S2 g s σ1 R L H1 locs1 → H.size ≤ H1.size → (∀ q, gb g + 202 ≤ q → q < H.size → H1[q]? = H[q]?) → W p l e R0 s m args below meth c H1 locs1 cells slots Q (F0 m (pc + 3) ls (.int (nI x) :: rest))) : W p l e R0 s m args below meth c H locs cells slots Q (F0 m pc ls (.int (nI n) :: .ref (ga g 202) :: rest)) := by
  obtain ⟨x, σ1, hf1, hx, hσ⟩ := next_val (N := 1) (R := R) (σ := σ) h0 hn
  have hok : Ok 202 202 13 := ⟨by decide +kernel, by decide, by decide⟩
  refine d_go (mc := 0) (ms := 0) (va_runV (Ts := []) ⟨C.1, C.2.1, C.2.2.1, C.2.2.2.1, fun w h => by cases h⟩ (ok_X13_next (l := l) (g := g0 g) (L := L) hf1 hSh hok) ⟨v_cb C hw.1 hw.2.1 hw.2.2.1 (by decide) rfl ⟨hroom.1, by show 8 + (2 + 11) + 64 * 1 ≤ _; omega⟩, C.2.2.2.2.1.w hw.2.2.2.1, C.2.2.2.2.1.w hw.2.2.2.2⟩ ⟨Pcc.blind, v_recv C S hok rfl (by decide), fun U hU hW => ⟨rfl, (C.2.2.2.2.1.warm hW).g0, by rw [hU]; show Low g H; exact StL.low C.2.2.2.2.2.1 S, by rw [hU]; exact S.1⟩⟩ rfl rfl hsize rfl (lv_room hW) hdg hf) S (fun v σ' H1 locs1 hp hS hz hk => ?_)
  obtain ⟨rfl, rfl⟩ := hp
  exact kk x σ1 H1 locs1 hx hσ hS hz hk
/-- an int into a row of the quarry -/
theorem d_iast (C : Cx l g p s m meth c cc nL own) (S : S2 g s σ R L H locs) {id len k : Nat} (hlen : len < 10000) (hid : Ok 202 id (10000 + len)) (hk : k < len) {x : Int32} (hdg : decode cc pc = .ok (.iastore, 1))
    (kk : ∀ (σ1 : SI) (H1 : Heap) (locs1 : List Loc), σ1 id k = x → (∀ o j, o ≠ id ∨ j ≠ k → σ1 o j = σ o j) → S2 g s σ1 R L H1 locs1 → H.size ≤ H1.size → (∀ q, gb g + 202 ≤ q → q < H.size → H1[q]? = H[q]?) → W p l e R0 s m args below meth c H1 locs1 cells slots Q (F0 m (pc + 1) ls rest)) : W p l e R0 s m args below meth c H locs cells slots Q (F0 m pc ls (.int x :: .int (nI k) :: .ref (ga g id) :: rest)) := by
  have hP := v_cell S hid
  rw [elk_i _ _ _ hlen] at hP
  have hin : vp_in (nI k) len := vp_in_nI hk (by omega)
  have hcl := nI_clamp (n := k) (by omega)
  refine W.iast C.1 C.2.1 (hP 0 _ rfl) ((C.2.2.2.2.1.2.1.2 0 _ rfl).1 len (fun j => .int (sI (mkS σ R L) id j))) (fun q => by cases q) (by show ¬ (nI k < 0 ∨ (arrV _ _ _).slots.size ≤ _); rw [arrV_size]; exact hin) rfl rfl hdg fun H1 e z oq => ?_
  refine kk (up σ id k x) H1 _ (if_pos ⟨rfl, rfl⟩) (fun o j h => if_neg (by omega)) (show StL g 202 s (uI (mkS σ R L) id k x) H1 _ from StL.one S hid z oq ?_ (fun i c h => elk_uI c h) rfl (S.2.put z oq (hid.zone (by omega)))) (by omega) (fun q h1 _ => oq q (fun h => ?_))
  · rw [elk_i _ _ _ hlen]
    show H1[ga g id]? = some (vp_cell _ _)
    rw [e, vp_cell_i, vp_cell_i, arrV_store, sI_upd, hcl]
    congr 2
    funext q
    by_cases hq : q = k
    · subst hq
      simp [updV, upd]
    · simp [updV, upd, hq]
  · have := ga_lo (g := g) (id := id) hid.2.2
    have h : q = ga g id := h
    omega
/-- an object's field: what v_put says, and what stays -/
theorem d_put (C : Cx l g p s m meth c cc nL own) {σ0 : Sg} (S : StL g 202 s σ0 H locs) {id kc N : Nat} {Cn : String} {T : u_T} {ty0 : Nat → FieldType} (K : KC kc Cn T N ty0) (hid : Ok 202 id kc) (k : Nat) (hk : k < N) (hT : (T k).1 = Cn) (hfin : (T k).2.2.2 = false) {v : Value} (hn : narrow (ty0 k) v = v) (hfit : fits (ty0 k) v = true) (hl : k < (flK kc).length)
    (hw : Cond.fieldLink own index Cn (T k).2.1 (T k).2.2.1 ∈ BW) (hdg : decode cc pc = .ok (.putfield index, 3)) (σ' : Sg) (hset : (fl g kc σ0 id).set k v = fl g kc σ' id) (ho : ∀ i c, i ≠ id → elk g c σ' i = elk g c σ0 i) (hsn : sn σ' = sn σ0)
    (kk : ∀ (H1 : Heap) (locs1 : List Loc), StL g 202 s σ' H1 locs1 → H.size ≤ H1.size → (∀ q, gb g + 202 ≤ q → q < H.size → H1[q]? = H[q]?) → W p l e R0 s m args below meth c H1 locs1 cells slots Q (F0 m (pc + 3) ls rest)) : W p l e R0 s m args below meth c H locs cells slots Q (F0 m pc ls (v :: .ref (ga g id) :: rest)) := by
  have hts : ∀ w ∈ u_ws Cn T N, w.before args s = true := fun w hw => C.2.2.2.2.1.w (K.2.1 w hw)
  have hK := C.2.2.2.2.1.2.1
  have hap := va_apart (own := own) hts (fun w h => h) ty0 K.2.2.1 K.2.2.2.1 hK K.1
  have hP := v_cell S hid
  rw [v_elk K.2.2.2.2] at hP
  obtain ⟨r, h1, cell, q1, q2, q3, q4⟩ := hP 0 _ rfl
  have hr : r = (Cn, T, N) := Option.some.inj (h1.symm.trans K.1)
  subst hr
  obtain ⟨hSk, hfc, kC, hkC, hkind⟩ := hK.1 kc _ K.1
  obtain ⟨cf, kf, fi, f, hi, hsl⟩ := hSk k hk
  have hlay := hts _ (u_in_lay hk)
  unfold u_lay at hlay
  rw [if_neg (by rw [hfin]; decide)] at hlay
  have hst := (u_facts hfc hkC (u_lays hts (fun w h => h) hk) hi).1
  have h6 := u_store hfc hkC hkind hlay hi (K.2.2.1 k hk) hn hfit
  have hlen : k < (fl g kc σ0 id).length := by unfold fl; rw [List.length_mapIdx]; exact hl
  refine W.putK C.1 C.2.1 (f := f) ⟨C.2.2.2.1, C.2.2.2.2.1.w hw, ⟨_, _, _, by rw [hT] at hi; exact hi⟩, hst⟩ (by rw [q2]; exact h6) q1 q3 (by rw [hsl]; exact k2_hasslot (q4 k hk)) rfl rfl hdg fun H' e1 e2 e3 => ?_
  rw [hsl] at e1 ⊢
  refine kk H' _ (S.one hid e2 e3 ?_ ho hsn (S.2.put e2 e3 (hid.zone (Nat.lt_trans K.2.2.2.2 (by decide))))) (by omega) (fun q h1 _ => e3 q (fun h => ?_))
  · rw [v_elk K.2.2.2.2, ← hset]
    exact ⟨_, K.1, t_OB.to (V := updV (vp_V (fl g kc σ0 id)) k v) ⟨_, e1, q2, q3, t_set q4 hap hk v⟩ (fun j _ => vp_updV_set hlen v j)⟩
  · have := ga_lo (g := g) (id := id) hid.2.2
    have h : q = ga g id := h
    omega
/-- the text's field gets a new text -/
theorem d_putT (C : Cx l g p s m meth c cc nL RX12) (S : S2 g s σ R L H locs) {a : Nat} (ha : gb g + 203 ≤ a) (hw : Cond.fieldLink RX12 index RX12 "text" "Ljava/lang/String;" ∈ BW) (hdg : decode cc pc = .ok (.putfield index, 3))
    (kk : ∀ (H1 : Heap) (locs1 : List Loc), S2 g s σ (uT R (a - gb g)) L H1 locs1 → H.size ≤ H1.size → (∀ q, gb g + 202 ≤ q → q < H.size → H1[q]? = H[q]?) → W p l e R0 s m args below meth c H1 locs1 cells slots Q (F0 m (pc + 3) ls rest)) : W p l e R0 s m args below meth c H locs cells slots Q (F0 m pc ls (.ref a :: .ref (ga g 178) :: rest)) := by
  have hok : Ok 202 178 12 := ⟨by decide +kernel, by decide, by decide⟩
  have ea : ga g (a - gb g) = a := by rw [ga_lt (by omega)]; omega
  refine d_put C (σ0 := mkS σ R L) S KX12 hok 26 (by decide) rfl rfl (v := .ref a) rfl rfl (by decide) hw hdg (uR (mkS σ R L) 178 26 (a - gb g)) ?_ (fun i c h => elk_uR c h) rfl kk
  have h := fl_uR (g := g) (kc := 12) (σ := mkS σ R L) (id := 178) (k := 26) (r := a - gb g) rfl
  rw [ro_pos (by omega), ea] at h
  exact h
/-- reading the quarry -/
theorem d_getA (C : Cx l g p s m meth c cc nL RX12) (S : S2 g s σ R L H locs) (k id : Nat) (hk : k < 27) (hb : (flK 12)[k]? = some true) (hT : (TX12 k).1 = RX12) (hR : R 178 k = id) (h0 : 0 < id) (hw : Cond.fieldLink RX12 index RX12 (TX12 k).2.1 (TX12 k).2.2.1 ∈ BW) (hdg : decode cc pc = .ok (.getfield index, 3))
    (kk : W p l e R0 s m args below meth c H locs cells slots Q (F0 m (pc + 3) ls (.ref (ga g id) :: rest))) : W p l e R0 s m args below meth c H locs cells slots Q (F0 m pc ls (.ref (ga g 178) :: rest)) := by
  subst hR
  have hok : Ok 202 178 12 := ⟨by decide +kernel, by decide, by decide⟩
  refine v_get C S hok rfl inB12 (by decide) k hk hb hT hw hdg ?_
  show W p l e R0 s m args below meth c H locs cells slots Q (F0 m (pc + 3) ls (va_rf (ro g (R 178 k)) :: rest))
  rw [ro_pos h0]
  exact kk
theorem d_getI (C : Cx l g p s m meth c cc nL own) (S : S2 g s σ R L H locs) (k : Nat) (hk : k < 27) (hb : (flK 12)[k]? = some false) (hT : (TX12 k).1 = RX12) (hw : Cond.fieldLink own index RX12 (TX12 k).2.1 (TX12 k).2.2.1 ∈ BW) (hdg : decode cc pc = .ok (.getfield index, 3))
    (kk : W p l e R0 s m args below meth c H locs cells slots Q (F0 m (pc + 3) ls (.int (σ 178 k) :: rest))) : W p l e R0 s m args below meth c H locs cells slots Q (F0 m pc ls (.ref (ga g 178) :: rest)) :=
  v_getI C S (⟨by decide +kernel, by decide, by decide⟩ : Ok 202 178 12) rfl inB12 (by decide) k hk hb hT hw hdg kk
theorem d_iald (C : Cx l g p s m meth c cc nL own) (S : S2 g s σ R L H locs) {id len k : Nat} (hlen : len < 10000) (hid : Ok 202 id (10000 + len)) (hk : k < len) {x : Int32} (hx : σ id k = x) (hdg : decode cc pc = .ok (.iaload, 1))
    (kk : W p l e R0 s m args below meth c H locs cells slots Q (F0 m (pc + 1) ls (.int x :: rest))) : W p l e R0 s m args below meth c H locs cells slots Q (F0 m pc ls (.int (nI k) :: .ref (ga g id) :: rest)) := by
  refine v_iald C S hlen hid (vp_in_nI hk (by omega)) hdg ?_
  rw [nI_clamp (by omega)]
  show W p l e R0 s m args below meth c H locs cells slots Q (F0 m (pc + 1) ls (.int (σ id k) :: rest))
  rw [hx]
  exact kk
theorem d_aald (C : Cx l g p s m meth c cc nL own) (S : S2 g s σ R L H locs) {id r k : Nat} (hid : Ok 202 id 80003) (hk : k < 3) (hR : R id k = r) (h0 : 0 < r) (hok : Ok 202 r 10004) (hdg : decode cc pc = .ok (.aaload, 1))
    (kk : W p l e R0 s m args below meth c H locs cells slots Q (F0 m (pc + 1) ls (.ref (ga g r) :: rest))) : W p l e R0 s m args below meth c H locs cells slots Q (F0 m pc ls (.int (nI k) :: .ref (ga g id) :: rest)) := by
  have e := nI_clamp (n := k) (by omega)
  subst hR
  refine x_aald2 (len := 3) C S (by decide) hid (vp_in_nI hk (by decide)) (d := 10004) (by rw [e]; exact hok) hdg ?_
  rw [e]
  exact kk
end VD
