/-! ===== rows that write: fields, arrays ===== -/
theorem uI_sI {σ : Sg} {o k i : Nat} {v : Int32} (h : i ≠ o) : sI (uI σ o k v) i = sI σ i := funext fun j => by
  rw [sI_uI, if_neg (fun q => h q.1)]
theorem uR_sR {σ : Sg} {o k i : Nat} {v : Nat} (h : i ≠ o) : sR (uR σ o k v) i = sR σ i := funext fun j => by
  rw [sR_uR, if_neg (fun q => h q.1)]
theorem uL_sL {σ : Sg} {o k i : Nat} {v : Int64} (h : i ≠ o) : sL (uL σ o k v) i = sL σ i := funext fun j => by
  rw [sL_uL, if_neg (fun q => h q.1)]
theorem elk_ext {g : GL} {σ σ' : Sg} {i : Nat} (kc : Nat) (h1 : sI σ' i = sI σ i) (h2 : sR σ' i = sR σ i) (h3 : sL σ' i = sL σ i) : elk g kc σ' i = elk g kc σ i := by
  unfold elk fl fw
  rw [h1, h2, h3]
theorem elk_uI {g : GL} {σ : Sg} {o k i : Nat} {v : Int32} (kc : Nat) (h : i ≠ o) : elk g kc (uI σ o k v) i = elk g kc σ i := elk_ext kc (uI_sI h) rfl rfl
theorem elk_uR {g : GL} {σ : Sg} {o k i : Nat} {v : Nat} (kc : Nat) (h : i ≠ o) : elk g kc (uR σ o k v) i = elk g kc σ i := elk_ext kc rfl (uR_sR h) rfl
theorem elk_uL {g : GL} {σ : Sg} {o k i : Nat} {v : Int64} (kc : Nat) (h : i ≠ o) : elk g kc (uL σ o k v) i = elk g kc σ i := elk_ext kc rfl rfl (uL_sL h)
theorem fl_set {g : GL} {σ σ' : Sg} {id k kc : Nat} {b : Bool} {v : Value} (hb : (flK kc)[k]? = some b) (hv : v = fw g σ' id k b) (ho : ∀ j c, j ≠ k → fw g σ' id j c = fw g σ id j c) : (fl g kc σ id).set k v = fl g kc σ' id := by
  apply List.ext_getElem?
  intro j
  unfold fl
  rw [List.getElem?_set, List.getElem?_mapIdx]
  by_cases h : k = j
  · subst h
    have hk := (List.getElem?_eq_some_iff.mp hb).1
    rw [if_pos rfl, if_pos (by rw [List.length_mapIdx]; exact hk), hv, List.getElem?_mapIdx, hb]
    rfl
  · rw [if_neg h, List.getElem?_mapIdx]
    cases hj : (flK kc)[j]? with
    | none => rfl
    | some c =>
      show some (fw g σ id j c) = some (fw g σ' id j c)
      rw [ho j c (fun q => h q.symm)]
theorem fl_uI {g : GL} {σ : Sg} {id k kc : Nat} {x : Int32} (hb : (flK kc)[k]? = some false) : (fl g kc σ id).set k (.int x) = fl g kc (uI σ id k x) id := by
  refine fl_set hb ?_ ?_
  · show Value.int x = Value.int (sI (uI σ id k x) id k)
    rw [sI_uI, if_pos ⟨rfl, rfl⟩]
  · intro j c h
    cases c with
    | true => rfl
    | false =>
      show Value.int (sI (uI σ id k x) id j) = Value.int (sI σ id j)
      rw [sI_uI, if_neg (fun q => h q.2)]
theorem fl_uR {g : GL} {σ : Sg} {id k kc r : Nat} (hb : (flK kc)[k]? = some true) : (fl g kc σ id).set k (va_rf (ro g r)) = fl g kc (uR σ id k r) id := by
  refine fl_set hb ?_ ?_
  · show va_rf (ro g r) = va_rf (ro g (sR (uR σ id k r) id k))
    rw [sR_uR, if_pos ⟨rfl, rfl⟩]
  · intro j c h
    cases c with
    | false => rfl
    | true =>
      show va_rf (ro g (sR (uR σ id k r) id j)) = va_rf (ro g (sR σ id j))
      rw [sR_uR, if_neg (fun q => h q.2)]
/-- one cell changed -/
theorem StL.one {g : GL} {n : Nat} {s : State} {σ σ' : Sg} {H H1 : Heap} {locs locs1 : List Loc} {id kc : Nat} (S : StL g n s σ H locs) (hid : Ok n id kc) (hsz : H1.size = H.size) (oq : ∀ q : Nat, q ≠ ga g id → H1[q]? = H[q]?) (hcell : va_at (gD g) vwCl (ga g id, elk g kc σ' id) H1)
    (ho : ∀ i c, i ≠ id → elk g c σ' i = elk g c σ i) (hn : sn σ' = sn σ) (hl : va_S (gA g) s.heap H1 locs1) : StL g n s σ' H1 locs1 := by
  refine ⟨⟨fun i h0 h1 => ?_, hn.trans S.1.2.1, fun h => hsz.trans (S.1.2.2.1 h), fun h => (oq _ (by rw [ga_lt (by have := hid.2.2; omega)]; have := hid.2.1; omega)).trans (S.1.2.2.2 h)⟩, hl⟩
  by_cases hi : i = id
  · subst hi
    rw [hid.1]
    exact hcell
  · rw [ho i _ hi]
    exact (S.1.1 i h0 (by rw [← hn]; exact h1)).kept (oq _ (fun q => hi (ga_inj h0 hid.2.1 q)))
section VPUT
variable {l : Launch} {g : GL} {p : Program} {e : Jvm.Env} {R : Room} {s : State} {m : MethodId} {args : Array Value} {below : List Frame} {meth : Method} {c : Code} {H : Heap} {locs : List Loc} {cells slots : Nat} {Q : State → Prop}
variable {cc : ByteArray} {nL : Nat} {own : String} {pc n : Nat} {ls : Array Slot} {rest : List Value} {σ : Sg} {id kc index : Nat} {Cn : String} {T : u_T} {N : Nat}
theorem v_put (C : Cx l g p s m meth c cc nL own) (S : StL g n s σ H locs) (hid : Ok n id kc) (hc : vwCl[kc]? = some (Cn, T, N)) (hin : ∀ w ∈ u_ws Cn T N, w ∈ BW) (ty0 : Nat → FieldType) (hty : ∀ k, k < N → parseFieldDescriptor (T k).2.2.1 = some (ty0 k)) (hnm : ∀ a, a < N → ∀ b, b < N → a ≠ b → (T a).2.1 ≠ (T b).2.1)
    (hlt : kc < 10000) (k : Nat) (hk : k < N) (hT : (T k).1 = Cn) (hfin : (T k).2.2.2 = false) {v : Value} (hn : narrow (ty0 k) v = v) (hfit : fits (ty0 k) v = true) (hl : k < (flK kc).length)
    (hw : Cond.fieldLink own index Cn (T k).2.1 (T k).2.2.1 ∈ BW) (hdg : decode cc pc = .ok (.putfield index, 3)) (σ' : Sg) (hset : (fl g kc σ id).set k v = fl g kc σ' id) (ho : ∀ i c, i ≠ id → elk g c σ' i = elk g c σ i) (hsn : sn σ' = sn σ)
    (kk : ∀ (H1 : Heap) (locs1 : List Loc), StL g n s σ' H1 locs1 → W p l e R s m args below meth c H1 locs1 cells slots Q (F0 m (pc + 3) ls rest)) : W p l e R s m args below meth c H locs cells slots Q (F0 m pc ls (v :: .ref (ga g id) :: rest)) := by
  have hts : ∀ w ∈ u_ws Cn T N, w.before args s = true := fun w hw => C.2.2.2.2.1.w (hin w hw)
  have hK := C.2.2.2.2.1.2.1
  have hap := va_apart (own := own) hts (fun w h => h) ty0 hty hnm hK hc
  have hP := v_cell S hid
  rw [v_elk hlt] at hP
  obtain ⟨r, h1, cell, q1, q2, q3, q4⟩ := hP 0 _ rfl
  have hr : r = (Cn, T, N) := Option.some.inj (h1.symm.trans hc)
  subst hr
  obtain ⟨hSk, hfc, kC, hkC, hkind⟩ := hK.1 kc _ hc
  obtain ⟨cf, kf, fi, f, hi, hsl⟩ := hSk k hk
  have hlay := hts _ (u_in_lay hk)
  unfold u_lay at hlay
  rw [if_neg (by rw [hfin]; decide)] at hlay
  have hst := (u_facts hfc hkC (u_lays hts (fun w h => h) hk) hi).1
  have h6 := u_store hfc hkC hkind hlay hi (hty k hk) hn hfit
  have hlen : k < (fl g kc σ id).length := by unfold fl; rw [List.length_mapIdx]; exact hl
  refine W.putK C.1 C.2.1 (f := f) ⟨C.2.2.2.1, C.2.2.2.2.1.w hw, ⟨_, _, _, by rw [hT] at hi; exact hi⟩, hst⟩ (by rw [q2]; exact h6) q1 q3 (by rw [hsl]; exact k2_hasslot (q4 k hk)) rfl rfl hdg fun H' e1 e2 e3 => ?_
  rw [hsl] at e1 ⊢
  refine kk H' _ (S.one hid e2 e3 ?_ ho hsn (S.2.put e2 e3 (hid.zone (by omega))))
  rw [v_elk hlt, ← hset]
  exact ⟨_, hc, t_OB.to (V := updV (vp_V (fl g kc σ id)) k v) ⟨_, e1, q2, q3, t_set q4 hap hk v⟩ (fun j _ => vp_updV_set hlen v j)⟩
theorem v_putI (C : Cx l g p s m meth c cc nL own) (S : StL g n s σ H locs) (hid : Ok n id kc) (hc : vwCl[kc]? = some (Cn, T, N)) (hin : ∀ w ∈ u_ws Cn T N, w ∈ BW) (ty0 : Nat → FieldType) (hty : ∀ k, k < N → parseFieldDescriptor (T k).2.2.1 = some (ty0 k)) (hnm : ∀ a, a < N → ∀ b, b < N → a ≠ b → (T a).2.1 ≠ (T b).2.1)
    (hlt : kc < 10000) (k : Nat) (hk : k < N) (hT : (T k).1 = Cn) (hfin : (T k).2.2.2 = false) {x : Int32} (hn : narrow (ty0 k) (.int x) = .int x) (hfit : fits (ty0 k) (.int x) = true) (hb : (flK kc)[k]? = some false)
    (hw : Cond.fieldLink own index Cn (T k).2.1 (T k).2.2.1 ∈ BW) (hdg : decode cc pc = .ok (.putfield index, 3))
    (kk : ∀ (H1 : Heap) (locs1 : List Loc), StL g n s (uI σ id k x) H1 locs1 → W p l e R s m args below meth c H1 locs1 cells slots Q (F0 m (pc + 3) ls rest)) : W p l e R s m args below meth c H locs cells slots Q (F0 m pc ls (.int x :: .ref (ga g id) :: rest)) :=
  v_put C S hid hc hin ty0 hty hnm hlt k hk hT hfin hn hfit (List.getElem?_eq_some_iff.mp hb).1 hw hdg _ (fl_uI hb) (fun i c h => elk_uI c h) rfl kk
theorem v_putR (C : Cx l g p s m meth c cc nL own) (S : StL g n s σ H locs) (hid : Ok n id kc) (hc : vwCl[kc]? = some (Cn, T, N)) (hin : ∀ w ∈ u_ws Cn T N, w ∈ BW) (ty0 : Nat → FieldType) (hty : ∀ k, k < N → parseFieldDescriptor (T k).2.2.1 = some (ty0 k)) (hnm : ∀ a, a < N → ∀ b, b < N → a ≠ b → (T a).2.1 ≠ (T b).2.1)
    (hlt : kc < 10000) (k : Nat) (hk : k < N) (hT : (T k).1 = Cn) (hfin : (T k).2.2.2 = false) {r d : Nat} (hr : Ok n r d) (hn : ∀ a : Nat, narrow (ty0 k) (.ref a) = .ref a) (hfit : ∀ a : Nat, fits (ty0 k) (.ref a) = true) (hb : (flK kc)[k]? = some true)
    (hw : Cond.fieldLink own index Cn (T k).2.1 (T k).2.2.1 ∈ BW) (hdg : decode cc pc = .ok (.putfield index, 3))
    (kk : ∀ (H1 : Heap) (locs1 : List Loc), StL g n s (uR σ id k r) H1 locs1 → W p l e R s m args below meth c H1 locs1 cells slots Q (F0 m (pc + 3) ls rest)) : W p l e R s m args below meth c H locs cells slots Q (F0 m pc ls (.ref (ga g r) :: .ref (ga g id) :: rest)) :=
  v_put C S hid hc hin ty0 hty hnm hlt k hk hT hfin (hn _) (hfit _) (List.getElem?_eq_some_iff.mp hb).1 hw hdg _ (by have h := fl_uR (g := g) (σ := σ) (id := id) (r := r) hb; rw [ro_pos hr.2.1] at h; exact h) (fun i c h => elk_uR c h) rfl kk
end VPUT
section VARR
variable {l : Launch} {g : GL} {p : Program} {e : Jvm.Env} {R : Room} {s : State} {m : MethodId} {args : Array Value} {below : List Frame} {meth : Method} {c : Code} {H : Heap} {locs : List Loc} {cells slots : Nat} {Q : State → Prop}
variable {cc : ByteArray} {nL : Nat} {own : String} {pc n : Nat} {ls : Array Slot} {rest : List Value} {σ : Sg} {id len : Nat}
theorem elk_i (σ : Sg) (id len : Nat) (h : len < 10000) : elk g (10000 + len) σ id = .inl (gT g 0, len, .inl (sI σ id)) := by
  unfold elk
  rw [if_neg (by omega), if_neg (by omega), if_pos (by omega), show (10000 + len) / 10000 - 1 = 0 by omega, show (10000 + len) % 10000 = len by omega]
theorem elk_b (σ : Sg) (id len : Nat) (h : len < 10000) : elk g (20000 + len) σ id = .inl (gT g 1, len, .inl (sI σ id)) := by
  unfold elk
  rw [if_neg (by omega), if_neg (by omega), if_pos (by omega), show (20000 + len) / 10000 - 1 = 1 by omega, show (20000 + len) % 10000 = len by omega]
theorem elk_z (σ : Sg) (id len : Nat) (h : len < 10000) : elk g (30000 + len) σ id = .inl (gT g 2, len, .inl (sI σ id)) := by
  unfold elk
  rw [if_neg (by omega), if_neg (by omega), if_pos (by omega), show (30000 + len) / 10000 - 1 = 2 by omega, show (30000 + len) % 10000 = len by omega]
theorem elk_l (σ : Sg) (id len : Nat) (h : len < 10000) : elk g (40000 + len) σ id = .inl (gT g 3, len, .inr (.inl (sL σ id))) := by
  unfold elk
  rw [if_neg (by omega), if_pos (by omega), show (40000 + len) / 10000 - 1 = 3 by omega, show (40000 + len) % 10000 = len by omega]
theorem elk_q (t : Nat) (ht : 4 ≤ t) (σ : Sg) (id len : Nat) (h : len < 10000) : elk g (10000 * t + 10000 + len) σ id = .inl (gT g t, len, .inr (.inr (.inr (.inr (fun j => ro g (sR σ id j)))))) := by
  unfold elk
  rw [if_neg (by omega), if_neg (by omega), if_neg (by omega), show (10000 * t + 10000 + len) / 10000 - 1 = t by omega, show (10000 * t + 10000 + len) % 10000 = len by omega]
theorem v_iald (C : Cx l g p s m meth c cc nL own) (S : StL g n s σ H locs) (hlen : len < 10000) (hid : Ok n id (10000 + len)) {i : Int32} (hin : vp_in i len) (hdg : decode cc pc = .ok (.iaload, 1))
    (kk : W p l e R s m args below meth c H locs cells slots Q (F0 m (pc + 1) ls (.int (sI σ id i.toNatClampNeg) :: rest))) : W p l e R s m args below meth c H locs cells slots Q (F0 m pc ls (.int i :: .ref (ga g id) :: rest)) := by
  have hP := v_cell S hid
  rw [elk_i _ _ _ hlen] at hP
  exact va_iald C.1 C.2.1 C.2.2.2.2.1.2.1 hP 0 0 rfl rfl hin hdg kk
theorem v_bald (C : Cx l g p s m meth c cc nL own) (S : StL g n s σ H locs) (hlen : len < 10000) (hid : Ok n id (20000 + len)) {i : Int32} (hin : vp_in i len) (hdg : decode cc pc = .ok (.baload, 1))
    (kk : W p l e R s m args below meth c H locs cells slots Q (F0 m (pc + 1) ls (.int (sI σ id i.toNatClampNeg) :: rest))) : W p l e R s m args below meth c H locs cells slots Q (F0 m pc ls (.int i :: .ref (ga g id) :: rest)) := by
  have hP := v_cell S hid
  rw [elk_b _ _ _ hlen] at hP
  exact va_bald C.1 C.2.1 C.2.2.2.2.1.2.1 hP 0 1 rfl rfl hin hdg kk
theorem v_aald (C : Cx l g p s m meth c cc nL own) (S : StL g n s σ H locs) (hlen : len < 10000) (t : Nat) (ht : 4 ≤ t) {Cm : String} (hty : (tysL g)[t]? = some (gT g t, .object Cm)) (hid : Ok n id (10000 * t + 10000 + len)) {i : Int32} (hin : vp_in i len) {d : Nat} (hr : Ok n (sR σ id i.toNatClampNeg) d) (hdg : decode cc pc = .ok (.aaload, 1))
    (kk : W p l e R s m args below meth c H locs cells slots Q (F0 m (pc + 1) ls (.ref (ga g (sR σ id i.toNatClampNeg)) :: rest))) : W p l e R s m args below meth c H locs cells slots Q (F0 m pc ls (.int i :: .ref (ga g id) :: rest)) := by
  have hP := v_cell S hid
  rw [elk_q t ht _ _ _ hlen] at hP
  refine va_aldq C.1 C.2.1 C.2.2.2.2.1.2.1 hP 0 t rfl hty hin hdg ?_
  rw [ro_pos hr.2.1]
  exact kk
/-- an array's cell after a store -/
theorem sI_upd (σ : Sg) (id k : Nat) (x : Int32) : sI (uI σ id k x) id = upd (sI σ id) k x := by
  funext j
  rw [sI_uI]
  unfold upd
  by_cases h : j = k
  · rw [if_pos ⟨rfl, h⟩, if_pos h]
  · rw [if_neg (fun q => h q.2), if_neg h]
theorem v_iast (C : Cx l g p s m meth c cc nL own) (S : StL g n s σ H locs) (hlen : len < 10000) (hid : Ok n id (10000 + len)) {i x : Int32} (hin : vp_in i len) (hdg : decode cc pc = .ok (.iastore, 1))
    (kk : ∀ (H1 : Heap) (locs1 : List Loc), StL g n s (uI σ id i.toNatClampNeg x) H1 locs1 → W p l e R s m args below meth c H1 locs1 cells slots Q (F0 m (pc + 1) ls rest)) : W p l e R s m args below meth c H locs cells slots Q (F0 m pc ls (.int x :: .int i :: .ref (ga g id) :: rest)) := by
  have hP := v_cell S hid
  rw [elk_i _ _ _ hlen] at hP
  refine W.iast C.1 C.2.1 (hP 0 _ rfl) ((C.2.2.2.2.1.2.1.2 0 _ rfl).1 len (fun j => .int (sI σ id j))) (fun q => by cases q) (by show ¬ (i < 0 ∨ (arrV _ _ _).slots.size ≤ _); rw [arrV_size]; exact hin) rfl rfl hdg fun H1 e z oq => ?_
  refine kk H1 _ (S.one hid z oq ?_ (fun i c h => elk_uI c h) rfl (S.2.put z oq (hid.zone (by omega))))
  rw [elk_i _ _ _ hlen]
  show H1[ga g id]? = some (vp_cell _ _)
  rw [e, vp_cell_i, vp_cell_i, arrV_store, sI_upd]
  congr 2
  funext q
  by_cases hq : q = i.toNatClampNeg
  · subst hq
    simp [updV, upd]
  · simp [updV, upd, hq]
theorem v_bast (C : Cx l g p s m meth c cc nL own) (S : StL g n s σ H locs) (hlen : len < 10000) (hid : Ok n id (20000 + len)) {i x : Int32} (hin : vp_in i len) (hdg : decode cc pc = .ok (.bastore, 1))
    (kk : ∀ (H1 : Heap) (locs1 : List Loc), StL g n s (uI σ id i.toNatClampNeg (vp_nar .byte x)) H1 locs1 → W p l e R s m args below meth c H1 locs1 cells slots Q (F0 m (pc + 1) ls rest)) : W p l e R s m args below meth c H locs cells slots Q (F0 m pc ls (.int x :: .int i :: .ref (ga g id) :: rest)) := by
  have hP := v_cell S hid
  rw [elk_b _ _ _ hlen] at hP
  refine W.bast C.1 C.2.1 (hP 0 _ rfl) ((C.2.2.2.2.1.2.1.2 1 _ rfl).1 len (fun j => .int (sI σ id j))) (fun q => by cases q) (by show ¬ (i < 0 ∨ (arrV _ _ _).slots.size ≤ _); rw [arrV_size]; exact hin) rfl rfl hdg fun H1 e z oq => ?_
  refine kk H1 _ (S.one hid z oq ?_ (fun i c h => elk_uI c h) rfl (S.2.put z oq (hid.zone (by omega))))
  rw [elk_b _ _ _ hlen]
  show H1[ga g id]? = some (vp_cell _ _)
  rw [e, vp_cell_i, vp_cell_i, arrV_store, sI_upd]
  congr 2
  funext q
  by_cases hq : q = i.toNatClampNeg
  · subst hq
    simp [updV, upd, vp_nar, narrow]
  · simp [updV, upd, hq]
theorem v_alen (C : Cx l g p s m meth c cc nL own) (S : StL g n s σ H locs) {kc : Nat} (hid : Ok n id kc) {x : vp_A} {t0 : Nat} {ty : FieldType} (hx : elk g kc σ id = .inl (gT g t0, x)) (hty : (tysL g)[t0]? = some (gT g t0, ty)) {v : Int32} (hv : Int32.ofNat x.1 = v) (hdg : decode cc pc = .ok (.arraylength, 1))
    (kk : W p l e R s m args below meth c H locs cells slots Q (F0 m (pc + 1) ls (.int v :: rest))) : W p l e R s m args below meth c H locs cells slots Q (F0 m pc ls (.ref (ga g id) :: rest)) := by
  have hP := v_cell S hid
  rw [hx] at hP
  exact va_alen C.1 C.2.1 C.2.2.2.2.1.2.1 hP 0 t0 rfl hty hv hdg kk
theorem v_alenI (C : Cx l g p s m meth c cc nL own) (S : StL g n s σ H locs) (hlen : len < 10000) (hid : Ok n id (10000 + len)) (hdg : decode cc pc = .ok (.arraylength, 1))
    (kk : W p l e R s m args below meth c H locs cells slots Q (F0 m (pc + 1) ls (.int (Int32.ofNat len) :: rest))) : W p l e R s m args below meth c H locs cells slots Q (F0 m pc ls (.ref (ga g id) :: rest)) := v_alen C S hid (t0 := 0) (elk_i _ _ _ hlen) rfl rfl hdg kk
theorem v_alenB (C : Cx l g p s m meth c cc nL own) (S : StL g n s σ H locs) (hlen : len < 10000) (hid : Ok n id (20000 + len)) (hdg : decode cc pc = .ok (.arraylength, 1))
    (kk : W p l e R s m args below meth c H locs cells slots Q (F0 m (pc + 1) ls (.int (Int32.ofNat len) :: rest))) : W p l e R s m args below meth c H locs cells slots Q (F0 m pc ls (.ref (ga g id) :: rest)) := v_alen C S hid (t0 := 1) (elk_b _ _ _ hlen) rfl rfl hdg kk
end VARR
