/-! ===== phase 1: cells are made ===== -/
def al (σ : Sg) : Sg := (σ.1, σ.2.1, σ.2.2.1, σ.2.2.2 + 1)
def alk (k : Nat) (σ : Sg) : Sg := (σ.1, σ.2.1, σ.2.2.1, σ.2.2.2 + k)
/-- nothing lies beyond cell n -/
def Zr (n : Nat) (σ : Sg) : Prop := ∀ id, n < id → (∀ j, sI σ id j = 0) ∧ (∀ j, sR σ id j = 0) ∧ ∀ j, sL σ id j = 0
theorem Zr.al {n : Nat} {σ : Sg} (h : Zr n σ) : Zr (n + 1) (al σ) := fun id hid => h id (by omega)
theorem Zr.alk {n k : Nat} {σ : Sg} (h : Zr n σ) : Zr (n + k) (alk k σ) := fun id hid => h id (by omega)
theorem Zr.uI {n o k : Nat} {v : Int32} {σ : Sg} (h : Zr n σ) (ho : o ≤ n) : Zr n (uI σ o k v) := fun id hid => ⟨fun j => by rw [sI_uI, if_neg (by omega)]; exact (h id hid).1 j, (h id hid).2⟩
theorem Zr.uR {n o k v : Nat} {σ : Sg} (h : Zr n σ) (ho : o ≤ n) : Zr n (uR σ o k v) := fun id hid => ⟨(h id hid).1, fun j => by rw [sR_uR, if_neg (by omega)]; exact (h id hid).2.1 j, (h id hid).2.2⟩
theorem elk_al {g : GL} (kc : Nat) (σ : Sg) (i k : Nat) : elk g kc (alk k σ) i = elk g kc σ i := rfl
/-- what a class's fields hold at first -/
def Df (kc : Nat) (N : Nat) (ty0 : Nat → FieldType) : Prop := ∀ j, j < N → ∃ b, (flK kc)[j]? = some b ∧ defaultValue (ty0 j) = if b then .null else .int 0
theorem fl_zero {g : GL} {kc N : Nat} {ty0 : Nat → FieldType} {σ : Sg} {id : Nat} (hd : Df kc N ty0) (h : (∀ j, sI σ id j = 0) ∧ (∀ j, sR σ id j = 0) ∧ ∀ j, sL σ id j = 0) : ∀ j, j < N → defaultValue (ty0 j) = vp_V (fl g kc σ id) j := by
  intro j hj
  obtain ⟨b, hb, he⟩ := hd j hj
  have e := v_fl (g := g) kc j σ id hb
  unfold vp_V
  rw [List.getD_eq_getElem?_getD, e, he]
  unfold fw
  rw [h.1, h.2.1]
  cases b <;> rfl
theorem StL.grow {g : GL} {n k : Nat} {s : State} {σ : Sg} {H H1 : Heap} {locs : List Loc} (S : StL g n s σ H locs) (hn : n + k ≤ 201) (hk : 0 < k) (hsz : H1.size = H.size + k) (hold : ∀ q, q < H.size → H1[q]? = H[q]?) (hnew : ∀ i, i < k → va_at (gD g) vwCl (ga g (n + 1 + i), elk g (kd (n + 1 + i)) σ (n + 1 + i)) H1) : StL g (n + k) s (alk k σ) H1 locs := by
  have hs : H.size = gb g + n + 1 := S.1.2.2.1 (by omega)
  refine ⟨⟨fun id h0 h1 => ?_, ?_, fun _ => by omega, fun _ => (hold _ (by omega)).trans (S.1.2.2.2 (by omega))⟩, Nat.le_trans S.2.1 (by omega), fun q h1 h2 => (hold q (Nat.lt_of_lt_of_le h1 S.2.1)).trans (S.2.2.1 q h1 h2), S.2.2.2⟩
  · rw [elk_al]
    by_cases hid : id ≤ n
    · have hh := S.1.1 id h0 (by rw [S.1.2.1]; exact hid)
      exact hh.kept (hold _ hh.lt)
    · have h2 : id ≤ n + k := by
        have : sn (alk k σ) = sn σ + k := rfl
        rw [this, S.1.2.1] at h1
        exact h1
      have e : id = n + 1 + (id - (n + 1)) := by omega
      rw [e]
      exact hnew _ (by omega)
  · show sn σ + k = n + k
    rw [S.1.2.1]
section VNEW
variable {l : Launch} {g : GL} {p : Program} {e : Jvm.Env} {R : Room} {s : State} {m : MethodId} {args : Array Value} {below : List Frame} {meth : Method} {c : Code} {H : Heap} {locs : List Loc} {cells slots : Nat} {Q : State → Prop}
variable {cc : ByteArray} {nL : Nat} {own : String} {pc n : Nat} {ls : Array Slot} {rest : List Value} {σ : Sg} {id kc index : Nat} {Cn : String} {T : u_T} {N : Nat} {ty0 : Nat → FieldType}
theorem a_new (C : Cx l g p s m meth c cc nL own) (S : StL g n s σ H locs) (hn : n < 201) (hz : Zr n σ) (K : KC kc Cn T N ty0) (hd : Df kc N ty0) (hk : kd (n + 1) = kc) (hw : Cond.classLink own index Cn ∈ BW ∧ Cond.instantiable Cn N ∈ BW ∧ Cond.initialized Cn ∈ BW) (hcells : cells + 1 ≤ R.cells) (hslots : slots + N ≤ R.slots) (hdg : decode cc pc = .ok (.new index, 3))
    (kk : ∀ H1 : Heap, StL g (n + 1) s (alk 1 σ) H1 locs → Zr (n + 1) (alk 1 σ) → W p l e R s m args below meth c H1 locs (cells + 1) (slots + N) Q (F0 m (pc + 3) ls (.ref (ga g (n + 1)) :: rest))) : W p l e R s m args below meth c H locs cells slots Q (F0 m pc ls rest) := by
  have hts : ∀ w ∈ u_ws Cn T N, w.before args s = true := fun w hw => C.2.2.2.2.1.w (K.2.1 w hw)
  have hKn := C.2.2.2.2.1.2.1.1 kc _ K.1
  have hs : H.size = ga g (n + 1) := by rw [ga_lt (by omega)]; have := S.1.2.2.1 hn; omega
  refine W.newcK C.1 C.2.1 C.2.2.2.1 (C.2.2.2.2.1.w hw.1) (C.2.2.2.2.1.w hw.2.1) (C.2.2.2.2.1.w hw.2.2) rfl hdg hcells hslots hKn.2.1 hs fun H1 kC hkC e1 z1 o1 => ?_
  refine kk H1 (S.grow (by omega) (by omega) (by omega) (fun q hq => o1 q (by omega)) (fun i hi => ?_)) hz.alk
  have hi0 : i = 0 := by omega
  subst hi0
  rw [show n + 1 + 0 = n + 1 by omega, hk, v_elk K.2.2.2.2]
  exact ⟨_, K.1, (u_born ty0 hts (fun w h => h) hKn hkC e1 K.2.2.1).to (fl_zero hd (hz (n + 1) (by omega)))⟩
theorem a_newA (C : Cx l g p s m meth c cc nL own) (S : StL g n s σ H locs) (hn : n < 201) (hz : Zr n σ) {atype : ArrayType} {ty : FieldType} (hty : newarray.typeOf atype = ty) (harr : Cond.arrayClass ty ∈ BW) (t : Nat) (ht : (tysL g)[t]? = some (gT g t, ty)) (hprim : ∀ cA : ClassId, va_RA s cA ty = (s.vm.findClass ("[" ++ ty.toString) = some cA))
    {k : Int32} {len : Nat} (hk : kd (n + 1) = kc) (hel : ∀ σ : Sg, (∀ j, sI σ (n + 1) j = 0) → (∀ j, sL σ (n + 1) j = 0) → ∃ a0 : vp_A, elk g kc σ (n + 1) = .inl (gT g t, a0) ∧ ∀ cA : ClassId, vp_cell cA a0 = arrV cA len (fun _ => defaultValue ty)) (h0 : ¬ k < 0) (hN : k.toNatClampNeg = len) (hbytes : len * componentBytes ty ≤ 536870912) (hcells : cells + 1 ≤ R.cells) (hslots : slots + len ≤ R.slots) (hdg : decode cc pc = .ok (.newarray atype, 2))
    (kk : ∀ H1 : Heap, StL g (n + 1) s (alk 1 σ) H1 locs → Zr (n + 1) (alk 1 σ) → W p l e R s m args below meth c H1 locs (cells + 1) (slots + len) Q (F0 m (pc + 2) ls (.ref (ga g (n + 1)) :: rest))) : W p l e R s m args below meth c H locs cells slots Q (F0 m pc ls (.int k :: rest)) := by
  subst hty
  have hs : H.size = ga g (n + 1) := by rw [ga_lt (by omega)]; have := S.1.2.2.1 hn; omega
  refine va_newaK C.1 C.2.1 (C.2.2.2.2.1.w harr) rfl hdg rfl h0 hN hbytes hcells hslots hs fun H1 cA e1 z1 o1 _ hNm => ?_
  have hcA : cA = gT g t := by
    have hh := (C.2.2.2.2.1.2.1.2 t _ ht).2
    rw [hprim] at hh
    exact Option.some.inj (hNm.symm.trans hh)
  subst hcA
  refine kk H1 (S.grow (by omega) (by omega) (by omega) (fun q hq => o1 q (by omega)) (fun i hi => ?_)) hz.alk
  have hi0 : i = 0 := by omega
  subst hi0
  obtain ⟨a0, ha, hc⟩ := hel σ (hz (n + 1) (by omega)).1 (hz (n + 1) (by omega)).2.2
  rw [show n + 1 + 0 = n + 1 by omega, hk, ha]
  show H1[ga g (n + 1)]? = some (vp_cell _ _)
  rw [hc]
  exact e1
theorem a_newQ (C : Cx l g p s m meth c cc nL own) (S : StL g n s σ H locs) (hn : n < 201) (hz : Zr n σ) {Cm : String} (t : Nat) (ht4 : 4 ≤ t) (ht : (tysL g)[t]? = some (gT g t, .object Cm)) (hw : Cond.classLink own index Cm ∈ BW ∧ Cond.arrayOver (.object Cm) ∈ BW)
    {k : Int32} {len : Nat} (hlen : len < 10000) (hk : kd (n + 1) = 10000 * t + 10000 + len) (h0 : ¬ k < 0) (hN : k.toNatClampNeg = len) (hbytes : len * 4 ≤ 536870912) (hcells : cells + 1 ≤ R.cells) (hslots : slots + len ≤ R.slots) (hdg : decode cc pc = .ok (.anewarray index, 3))
    (kk : ∀ H1 : Heap, StL g (n + 1) s (alk 1 σ) H1 locs → Zr (n + 1) (alk 1 σ) → W p l e R s m args below meth c H1 locs (cells + 1) (slots + len) Q (F0 m (pc + 3) ls (.ref (ga g (n + 1)) :: rest))) : W p l e R s m args below meth c H locs cells slots Q (F0 m pc ls (.int k :: rest)) := by
  subst hN
  have hs : H.size = ga g (n + 1) := by rw [ga_lt (by omega)]; have := S.1.2.2.1 hn; omega
  refine W.anew C.1 C.2.1 C.2.2.2.1 (C.2.2.2.2.1.w hw.1) (C.2.2.2.2.1.w hw.2) rfl hdg rfl h0 hbytes hcells hslots fun cA kA comp f1 f2 f3 f4 => ?_
  generalize hH1 : H.push ({ cls := cA, slots := Array.replicate k.toNatClampNeg .null, vm := .none } : Cell) = H1
  have z1 : H1.size = H.size + 1 := by rw [← hH1, Array.size_push]
  have e1 : H1[H.size]? = some (arrV cA k.toNatClampNeg (fun _ => .null)) := by rw [← hH1, Array.getElem?_push_size, ← arrV_new]
  have hcA : cA = gT g t := by
    obtain ⟨kA', comp', -, -, -, hh⟩ := (C.2.2.2.2.1.2.1.2 t _ ht).2
    exact Option.some.inj (f1.symm.trans hh)
  subst hcA
  rw [hs]
  refine kk H1 (S.grow (by omega) (by omega) (by omega) (fun q hq => by rw [← hH1, Array.getElem?_push, if_neg (Nat.ne_of_lt hq)]) (fun i hi => ?_)) hz.alk
  have hi0 : i = 0 := by omega
  subst hi0
  rw [show n + 1 + 0 = n + 1 by omega, hk, elk_q t ht4 _ _ _ hlen]
  show H1[ga g (n + 1)]? = some (vp_cell _ _)
  rw [← hs, e1, vp_cell_q]
  congr 2
  funext j
  show Value.null = va_rf (ro g (sR σ (n + 1) j))
  rw [(hz (n + 1) (by omega)).2.1 j]
  rfl
/-- a reference field, not final, in a constructor or elsewhere -/
theorem a_putR (C : Cx l g p s m meth c cc nL own) (S : StL g n s σ H locs) (K : KC kc Cn T N ty0) (hid : Ok n id kc) (k : Nat) (hk : k < N) (hT : (T k).1 = Cn) (hfin : (T k).2.2.2 = false) {r : Nat} (hr : 0 < r) (hn : ∀ a : Nat, narrow (ty0 k) (.ref a) = .ref a) (hfit : ∀ a : Nat, fits (ty0 k) (.ref a) = true) (hb : (flK kc)[k]? = some true)
    (hw : Cond.fieldLink own index Cn (T k).2.1 (T k).2.2.1 ∈ BW) (hdg : decode cc pc = .ok (.putfield index, 3))
    (kk : ∀ (H1 : Heap) (locs1 : List Loc), StL g n s (uR σ id k r) H1 locs1 → W p l e R s m args below meth c H1 locs1 cells slots Q (F0 m (pc + 3) ls rest)) : W p l e R s m args below meth c H locs cells slots Q (F0 m pc ls (.ref (ga g r) :: .ref (ga g id) :: rest)) :=
  v_put C S hid K.1 K.2.1 ty0 K.2.2.1 K.2.2.2.1 K.2.2.2.2 k hk hT hfin (hn _) (hfit _) (List.getElem?_eq_some_iff.mp hb).1 hw hdg _ (by have h := fl_uR (g := g) (σ := σ) (id := id) (r := r) hb; rw [ro_pos hr] at h; exact h) (fun i c h => elk_uR c h) rfl kk
/-- a final reference field, in its class's constructor -/
theorem a_putF (C : Cx l g p s m meth c cc nL Cn) (S : StL g n s σ H locs) (K : KC kc Cn T N ty0) (hid : Ok n id kc) (k : Nat) (hk : k < N) (hT : (T k).1 = Cn) (hfin : (T k).2.2.2 = true) (hin2 : meth.name = "<init>") {r : Nat} (hr : 0 < r) (hnr : ∀ a : Nat, narrow (ty0 k) (.ref a) = .ref a) (hfit : ∀ a : Nat, fits (ty0 k) (.ref a) = true) (hb : (flK kc)[k]? = some true)
    (hw : Cond.fieldLink Cn index Cn (T k).2.1 (T k).2.2.1 ∈ BW) (hdg : decode cc pc = .ok (.putfield index, 3))
    (kk : ∀ (H1 : Heap) (locs1 : List Loc), StL g n s (uR σ id k r) H1 locs1 → W p l e R s m args below meth c H1 locs1 cells slots Q (F0 m (pc + 3) ls rest)) : W p l e R s m args below meth c H locs cells slots Q (F0 m pc ls (.ref (ga g r) :: .ref (ga g id) :: rest)) := by
  have hts : ∀ w ∈ u_ws Cn T N, w.before args s = true := fun w hw => C.2.2.2.2.1.w (K.2.1 w hw)
  have hK := C.2.2.2.2.1.2.1
  have hap := va_apart (own := Cn) hts (fun w h => h) ty0 K.2.2.1 K.2.2.2.1 hK K.1
  have hP := v_cell S hid
  rw [v_elk K.2.2.2.2] at hP
  obtain ⟨r', h1, cell, q1, q2, q3, q4⟩ := hP 0 _ rfl
  have hr' : r' = (Cn, T, N) := Option.some.inj (h1.symm.trans K.1)
  subst hr'
  obtain ⟨hSk, hfc, kC, hkC, hkind⟩ := hK.1 kc _ K.1
  obtain ⟨cf, kf, fi, f, hi, hsl⟩ := hSk k hk
  have hlay := hts _ (u_in_lay hk)
  unfold u_lay at hlay
  rw [if_pos hfin] at hlay
  have hst := (u_facts hfc hkC (u_lays hts (fun w h => h) hk) hi).1
  have hcf : m.cls = cf := by
    obtain ⟨_, _, c', _, _, _, -, -, hf', -, -, -, hown2, -⟩ := Cond.laysFinal_spec hlay
    have e1 : c' = cf := by have := hi.symm.trans hf'; simp at this; exact this.1.symm
    rw [hT] at hown2
    rw [← e1]; exact Option.some.inj (C.2.2.2.1.symm.trans hown2)
  have h6 := u_fits hfc hkC hkind (Or.inr hlay) hi (K.2.2.1 k hk) (hnr (ga g r)) (hfit (ga g r))
  have hlen : k < (fl g kc σ id).length := by unfold fl; rw [List.length_mapIdx]; exact (List.getElem?_eq_some_iff.mp hb).1
  refine W.putFinK C.1 C.2.1 C.2.2.2.1 (C.2.2.2.2.1.w hw) (by rw [hT] at hi; exact hi) hst hcf hin2 (by rw [q2]; exact h6) q1 q3 (by rw [hsl]; exact k2_hasslot (q4 k hk)) rfl rfl hdg fun H' e1 e2 e3 => ?_
  rw [hsl] at e1 ⊢
  have hset : (fl g kc σ id).set k (.ref (ga g r)) = fl g kc (uR σ id k r) id := by have h := fl_uR (g := g) (σ := σ) (id := id) (r := r) hb; rw [ro_pos hr] at h; exact h
  refine kk H' _ (S.one hid e2 e3 ?_ (fun i c h => elk_uR c h) rfl (S.2.put e2 e3 (hid.zone (Nat.lt_trans K.2.2.2.2 (by decide)))))
  rw [v_elk K.2.2.2.2, ← hset]
  exact ⟨_, K.1, t_OB.to (V := updV (vp_V (fl g kc σ id)) k (.ref (ga g r))) ⟨_, e1, q2, q3, t_set q4 hap hk _⟩ (fun j _ => vp_updV_set hlen _ j)⟩
/-- an object into an array of references -/
theorem a_aast (C : Cx l g p s m meth c cc nL own) (S : StL g n s σ H locs) {Cm : String} {Tm : u_T} {Nm len t km v : Nat} {tym : Nat → FieldType} (hlen : len < 10000) (ht4 : 4 ≤ t) (Km : KC km Cm Tm Nm tym) (hty : (tysL g)[t]? = some (gT g t, .object Cm)) (hid : Ok n id (10000 * t + 10000 + len)) (hv : Ok n v km) {i : Int32} (hin : vp_in i len) (hdg : decode cc pc = .ok (.aastore, 1))
    (kk : ∀ (H1 : Heap) (locs1 : List Loc), StL g n s (uR σ id i.toNatClampNeg v) H1 locs1 → W p l e R s m args below meth c H1 locs1 cells slots Q (F0 m (pc + 1) ls rest)) : W p l e R s m args below meth c H locs cells slots Q (F0 m pc ls (.ref (ga g v) :: .int i :: .ref (ga g id) :: rest)) := by
  have hP := v_cell S hid
  rw [elk_q t ht4 _ _ _ hlen] at hP
  have hPv := v_cell S hv
  rw [v_elk Km.2.2.2.2] at hPv
  have hlt : i.toNatClampNeg < len := Nat.not_le.mp fun q => hin (Or.inr q)
  have h0 : ¬ i < 0 := fun q => hin (Or.inl q)
  have hK := C.2.2.2.2.1.2.1
  obtain ⟨r', hr', cellV, g1, g2, g3, -⟩ := hPv 0 _ rfl
  have hcls := (hK.1 km _ Km.1).2
  obtain ⟨kA, comp, k1, k2, k3, -⟩ := (hK.2 t _ hty).2
  have hcomp : comp = (gD g).1 km := Option.some.inj (k3.symm.trans hcls.1)
  subst hcomp
  obtain ⟨kC, hkC, -⟩ := hcls.2
  refine W.aast C.1 C.2.1 (hP 0 _ rfl) (fun q h => by cases h) (fun h => by cases h) k1 k2 rfl hkC ⟨h0, by show _ < (arrV _ _ _).slots.size; rw [arrV_size]; exact hlt⟩ g1 (fun q h => by rw [g3] at h; cases h) (by rw [g2]; exact hkC) (by rw [g2]; exact va_assign hcls) rfl rfl hdg fun H1 e z oq => ?_
  refine kk H1 _ (S.one hid z oq ?_ (fun i c h => elk_uR c h) rfl (S.2.put z oq (hid.zone (by have h8 : t < 8 := (List.getElem?_eq_some_iff.mp hty).1; omega))))
  rw [elk_q t ht4 _ _ _ hlen]
  show H1[ga g id]? = some (vp_cell _ _)
  rw [e, vp_cell_q, vp_cell_q, arrV_store]
  congr 2
  funext j
  by_cases hq : j = i.toNatClampNeg
  · subst hq
    simp [updV, sR_uR, ro_pos hv.2.1, va_rf]
  · simp [updV, sR_uR, hq]
end VNEW
