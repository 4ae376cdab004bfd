/-! ===== once all is made: ints by cell and place; the rows that the printed walks use ===== -/
abbrev SI : Type := Nat → Nat → Int32
def up (σ : SI) (o k : Nat) (v : Int32) : SI := fun a j => if a = o ∧ j = k then v else σ a j
def mkS (σ : SI) (R : Nat → Nat → Nat) (L : Nat → Nat → Int64) : Sg := (σ, R, L, 202)
def ShR (R : Nat → Nat → Nat) : Prop := ∀ o c k d, kd o = c → fk c k = some d → Ok 202 (R o k) d
def S2 (g : GL) (s : State) (σ : SI) (R : Nat → Nat → Nat) (L : Nat → Nat → Int64) (H : Heap) (locs : List Loc) : Prop := StL g 202 s (mkS σ R L) H locs
def ck {α : Type} (i : Int32) (len : Nat) (x : Option α) : Option α := if 0 ≤ i.toInt ∧ i.toInt < len then x else none
def cd {α : Type} (y : Int32) (x : Option α) : Option α := if y = 0 then none else x
def cb {α : Type} (v : Int32) (x : Option α) : Option α := if v = 0 ∨ v = 1 then x else none
def sq {α : Type} (x : SI) (k : SI → Option α) : Option α := k x
def bd {α β : Type} (x : Option (β × SI)) (k : β → SI → Option α) : Option α := match x with
  | none => none
  | some r => k r.1 r.2
def bdX {α β : Type} (x : Option ((β ⊕ Nat) × SI)) (k : β → SI → Option ((α ⊕ Nat) × SI)) : Option ((α ⊕ Nat) × SI) := match x with
  | none => none
  | some (.inl a, σ) => k a σ
  | some (.inr e, σ) => some (.inr e, σ)
theorem ck_el {α : Type} {i : Int32} {len : Nat} {x : Option α} {r : α} (h : ck i len x = some r) : vp_in i len ∧ x = some r := by
  unfold ck at h
  by_cases c : 0 ≤ i.toInt ∧ i.toInt < len
  · rw [if_pos c] at h
    exact ⟨vp_in_iff.mpr c, h⟩
  · rw [if_neg c] at h
    cases h
theorem cd_el {α : Type} {y : Int32} {x : Option α} {r : α} (h : cd y x = some r) : ¬ y = 0 ∧ x = some r := by
  unfold cd at h
  by_cases c : y = 0
  · rw [if_pos c] at h
    cases h
  · rw [if_neg c] at h
    exact ⟨c, h⟩
theorem cb_el {α : Type} {v : Int32} {x : Option α} {r : α} (h : cb v x = some r) : (v = 0 ∨ v = 1) ∧ x = some r := by
  unfold cb at h
  by_cases c : v = 0 ∨ v = 1
  · rw [if_pos c] at h
    exact ⟨c, h⟩
  · rw [if_neg c] at h
    cases h
theorem sq_el {α : Type} {x : SI} {k : SI → Option α} {r : α} (h : sq x k = some r) : ∃ y, x = y ∧ k y = some r := ⟨x, rfl, h⟩
theorem bd_el {α β : Type} {x : Option (β × SI)} {k : β → SI → Option α} {r : α} (h : bd x k = some r) : ∃ (a : β) (σ : SI), x = some (a, σ) ∧ k a σ = some r := by
  cases x with
  | none => cases h
  | some q => exact ⟨q.1, q.2, rfl, h⟩
theorem nb_ok {x : Int32} (h : x = 0 ∨ x = 1) : narrow .boolean (.int x) = .int x ∧ fits .boolean (.int x) = true := by
  rcases h with rfl | rfl <;> exact ⟨rfl, rfl⟩
theorem bdX_el {α β : Type} {x : Option ((β ⊕ Nat) × SI)} {k : β → SI → Option ((α ⊕ Nat) × SI)} {r : (α ⊕ Nat) × SI} (h : bdX x k = some r) : (∃ (a : β) (σ : SI), x = some (.inl a, σ) ∧ k a σ = some r) ∨ ∃ (e : Nat) (σ : SI), x = some (.inr e, σ) ∧ r = (.inr e, σ) := by
  cases x with
  | none => cases h
  | some q =>
    obtain ⟨q1, q2⟩ := q
    cases q1 with
    | inl a => exact Or.inl ⟨a, q2, rfl, h⟩
    | inr e => exact Or.inr ⟨e, q2, rfl, (Option.some.inj h).symm⟩
theorem it_p {α : Type} {c : Prop} [Decidable c] {x y : Option α} {r : Option α} (hc : c) (h : (if c then x else y) = r) : x = r := (if_pos hc).symm.trans h
theorem it_n {α : Type} {c : Prop} [Decidable c] {x y : Option α} {r : Option α} (hc : ¬ c) (h : (if c then x else y) = r) : y = r := (if_neg hc).symm.trans h
def exN : Nat → String := fun k => match k with
  | 0 => "java/lang/IndexOutOfBoundsException"
  | 1 => "java/lang/IllegalArgumentException"
  | _ => "java/lang/IllegalStateException"
def PI (R : Nat → Nat → Nat) (L : Nat → Nat → Int64) (r : Int32 × SI) : Option Value → Sg → Prop := fun v σ' => v = some (.int r.1) ∧ σ' = mkS r.2 R L
def PV (R : Nat → Nat → Nat) (L : Nat → Nat → Int64) (r : Unit × SI) : Option Value → Sg → Prop := fun v σ' => v = none ∧ σ' = mkS r.2 R L
def PIX (R : Nat → Nat → Nat) (L : Nat → Nat → Int64) (r : (Int32 ⊕ Nat) × SI) : Option Value → Sg → Prop := fun v σ' => ∃ a, r.1 = .inl a ∧ v = some (.int a) ∧ σ' = mkS r.2 R L
def PVX (R : Nat → Nat → Nat) (L : Nat → Nat → Int64) (r : (Unit ⊕ Nat) × SI) : Option Value → Sg → Prop := fun v σ' => ∃ a, r.1 = .inl a ∧ v = none ∧ σ' = mkS r.2 R L
def PRX (g : GL) (d : Nat) (R : Nat → Nat → Nat) (L : Nat → Nat → Int64) (r : (Nat ⊕ Nat) × SI) : Option Value → Sg → Prop := fun v σ' => ∃ a, r.1 = .inl a ∧ v = some (.ref (ga g a)) ∧ σ' = mkS r.2 R L ∧ Ok 202 a d
def PX {α : Type} (R : Nat → Nat → Nat) (L : Nat → Nat → Int64) (r : (α ⊕ Nat) × SI) : String → Sg → Prop := fun E σ' => ∃ k, r.1 = .inr k ∧ E = exN k ∧ σ' = mkS r.2 R L
theorem vp_lt {i : Int32} {n : Nat} (h : vp_in i n) : i.toNatClampNeg < n := Nat.not_le.mp fun q => h (Or.inr q)
section W2
variable {l : Launch} {g : GL} {p : Program} {e : Jvm.Env} {R0 : Room} {s : State} {m : MethodId} {args : Array Value} {below : List Frame} {meth : Method} {c : Code} {H : Heap} {locs : List Loc} {cells slots : Nat} {Q : State → Prop}
variable {cc : ByteArray} {nL : Nat} {own : String} {pc : Nat} {ls : Array Slot} {rest : List Value} {σ : SI} {R : Nat → Nat → Nat} {L : Nat → Nat → Int64} {id kc index len : Nat} {Cn : String} {T : u_T} {N : Nat}
/-- what the rows need of a class: its tables -/
def KC (kc : Nat) (Cn : String) (T : u_T) (N : Nat) (ty0 : Nat → FieldType) : Prop := vwCl[kc]? = some (Cn, T, N) ∧ (∀ w ∈ u_ws Cn T N, w ∈ BW) ∧ (∀ k, k < N → parseFieldDescriptor (T k).2.2.1 = some (ty0 k)) ∧ (∀ a, a < N → ∀ b, b < N → a ≠ b → (T a).2.1 ≠ (T b).2.1) ∧ kc < 10000
variable {ty0 : Nat → FieldType}
theorem x_getI (C : Cx l g p s m meth c cc nL own) (S : S2 g s σ R L H locs) (K : KC kc Cn T N ty0) (hid : Ok 202 id kc) (k : Nat) (hk : k < N) (hb' : (flK kc)[k]? = some false) (hT : (T k).1 = Cn)
    (hw : Cond.fieldLink own index Cn (T k).2.1 (T k).2.2.1 ∈ BW) (hdg : decode cc pc = .ok (.getfield index, 3))
    (kk : W p l e R0 s m args below meth c H locs cells slots Q (F0 m (pc + 3) ls (.int (σ id k) :: rest))) : W p l e R0 s m args below meth c H locs cells slots Q (F0 m pc ls (.ref (ga g id) :: rest)) :=
  v_getI C S hid K.1 K.2.1 K.2.2.2.2 k hk hb' hT hw hdg kk
theorem x_getR (C : Cx l g p s m meth c cc nL own) (S : S2 g s σ R L H locs) (K : KC kc Cn T N ty0) (hid : Ok 202 id kc) (k : Nat) (hk : k < N) (hb' : (flK kc)[k]? = some true) (hT : (T k).1 = Cn)
    (hw : Cond.fieldLink own index Cn (T k).2.1 (T k).2.2.1 ∈ BW) {d : Nat} (hr : Ok 202 (R id k) d) (hdg : decode cc pc = .ok (.getfield index, 3))
    (kk : W p l e R0 s m args below meth c H locs cells slots Q (F0 m (pc + 3) ls (.ref (ga g (R id k)) :: rest))) : W p l e R0 s m args below meth c H locs cells slots Q (F0 m pc ls (.ref (ga g id) :: rest)) :=
  v_getR C S hid K.1 K.2.1 K.2.2.2.2 k hk hb' hT hw hr hdg kk
theorem x_putI (C : Cx l g p s m meth c cc nL own) (S : S2 g s σ R L H locs) (K : KC kc Cn T N ty0) (hid : Ok 202 id kc) (k : Nat) (hk : k < N) (hb' : (flK kc)[k]? = some false) (hT : (T k).1 = Cn) (hfin : (T k).2.2.2 = false) {x : Int32} (hn : narrow (ty0 k) (.int x) = .int x ∧ fits (ty0 k) (.int x) = true)
    (hw : Cond.fieldLink own index Cn (T k).2.1 (T k).2.2.1 ∈ BW) (hdg : decode cc pc = .ok (.putfield index, 3)) {σ1 : SI} (h1 : up σ id k x = σ1)
    (kk : ∀ (H1 : Heap) (locs1 : List Loc), S2 g s σ1 R L H1 locs1 → W p l e R0 s m args below meth c H1 locs1 cells slots Q (F0 m (pc + 3) ls rest)) : W p l e R0 s m args below meth c H locs cells slots Q (F0 m pc ls (.int x :: .ref (ga g id) :: rest)) := by
  subst h1
  exact v_putI C S hid K.1 K.2.1 ty0 K.2.2.1 K.2.2.2.1 K.2.2.2.2 k hk hT hfin hn.1 hn.2 hb' hw hdg kk
theorem x_iald (C : Cx l g p s m meth c cc nL own) (S : S2 g s σ R L H locs) (hlen : len < 10000) (hid : Ok 202 id (10000 + len)) {i : Int32} (hin : vp_in i len) (hdg : decode cc pc = .ok (.iaload, 1))
    (kk : W p l e R0 s m args below meth c H locs cells slots Q (F0 m (pc + 1) ls (.int (σ id i.toNatClampNeg) :: rest))) : W p l e R0 s m args below meth c H locs cells slots Q (F0 m pc ls (.int i :: .ref (ga g id) :: rest)) := v_iald C S hlen hid hin hdg kk
theorem x_bald (C : Cx l g p s m meth c cc nL own) (S : S2 g s σ R L H locs) (hlen : len < 10000) (hid : Ok 202 id (20000 + len)) {i : Int32} (hin : vp_in i len) (hdg : decode cc pc = .ok (.baload, 1))
    (kk : W p l e R0 s m args below meth c H locs cells slots Q (F0 m (pc + 1) ls (.int (σ id i.toNatClampNeg) :: rest))) : W p l e R0 s m args below meth c H locs cells slots Q (F0 m pc ls (.int i :: .ref (ga g id) :: rest)) := v_bald C S hlen hid hin hdg kk
theorem x_aald (C : Cx l g p s m meth c cc nL own) (S : S2 g s σ R L H locs) (hlen : len < 10000) (t : Nat) (ht : 4 ≤ t) {Cm : String} (hty : (tysL g)[t]? = some (gT g t, .object Cm)) (hid : Ok 202 id (10000 * t + 10000 + len)) {i : Int32} (hin : vp_in i len) {d : Nat} (hr : Ok 202 (R id i.toNatClampNeg) d) (hdg : decode cc pc = .ok (.aaload, 1))
    (kk : W p l e R0 s m args below meth c H locs cells slots Q (F0 m (pc + 1) ls (.ref (ga g (R id i.toNatClampNeg)) :: rest))) : W p l e R0 s m args below meth c H locs cells slots Q (F0 m pc ls (.int i :: .ref (ga g id) :: rest)) := v_aald C S hlen t ht hty hid hin hr hdg kk
/-- a row of the rows of ints -/
theorem x_aald2 (C : Cx l g p s m meth c cc nL own) (S : S2 g s σ R L H locs) (hlen : len < 10000) (hid : Ok 202 id (80000 + len)) {i : Int32} (hin : vp_in i len) {d : Nat} (hr : Ok 202 (R id i.toNatClampNeg) d) (hdg : decode cc pc = .ok (.aaload, 1))
    (kk : W p l e R0 s m args below meth c H locs cells slots Q (F0 m (pc + 1) ls (.ref (ga g (R id i.toNatClampNeg)) :: rest))) : W p l e R0 s m args below meth c H locs cells slots Q (F0 m pc ls (.int i :: .ref (ga g id) :: rest)) := by
  have hP := v_cell S hid
  rw [show (80000 + len) = 10000 * 7 + 10000 + len by omega, elk_q 7 (by omega) _ _ _ hlen] at hP
  have hlt : i.toNatClampNeg < len := Nat.not_le.mp fun q => hin (Or.inr q)
  refine W.aald (v := va_rf (ro g (R id i.toNatClampNeg))) (ty := .array .int) C.1 C.2.1 (hP 0 _ rfl) ((C.2.2.2.2.1.2.1.2 7 _ rfl).1 len (fun j => va_rf (ro g (R id j)))) rfl (fun q => by cases q) (by show ¬ (i < 0 ∨ (arrV _ _ _).slots.size ≤ _); rw [arrV_size]; exact hin) (by show (arrV _ _ _).slots[_]? = _; rw [arrV_read _ _ hlt]; rfl) rfl rfl hdg ?_
  rw [ro_pos hr.2.1]
  exact kk
theorem x_iast (C : Cx l g p s m meth c cc nL own) (S : S2 g s σ R L H locs) (hlen : len < 10000) (hid : Ok 202 id (10000 + len)) {i x : Int32} (hin : vp_in i len) (hdg : decode cc pc = .ok (.iastore, 1)) {σ1 : SI} (h1 : up σ id i.toNatClampNeg x = σ1)
    (kk : ∀ (H1 : Heap) (locs1 : List Loc), S2 g s σ1 R L H1 locs1 → W p l e R0 s m args below meth c H1 locs1 cells slots Q (F0 m (pc + 1) ls rest)) : W p l e R0 s m args below meth c H locs cells slots Q (F0 m pc ls (.int x :: .int i :: .ref (ga g id) :: rest)) := by
  subst h1
  exact v_iast C S hlen hid hin hdg kk
theorem x_bast (C : Cx l g p s m meth c cc nL own) (S : S2 g s σ R L H locs) (hlen : len < 10000) (hid : Ok 202 id (20000 + len)) {i x : Int32} (hin : vp_in i len) (hdg : decode cc pc = .ok (.bastore, 1)) {σ1 : SI} (h1 : up σ id i.toNatClampNeg (vp_nar .byte x) = σ1)
    (kk : ∀ (H1 : Heap) (locs1 : List Loc), S2 g s σ1 R L H1 locs1 → W p l e R0 s m args below meth c H1 locs1 cells slots Q (F0 m (pc + 1) ls rest)) : W p l e R0 s m args below meth c H locs cells slots Q (F0 m pc ls (.int x :: .int i :: .ref (ga g id) :: rest)) := by
  subst h1
  exact v_bast C S hlen hid hin hdg kk
/-- calls of a static JDK method on ints -/
theorem x_max (C : Cx l g p s m meth c cc nL own) (hsize : ls.size = nL) (hw : Cond.methodLink own index Lib.Math.max.name ∈ BW ∧ Cond.static Lib.Math.max.name ∈ BW ∧ Cond.initialized "java/lang/Math" ∈ BW ∧ Cond.code Lib.Math.max.name Lib.Math.max.code 2 (some .int) ∈ BW) (hframes : 1 ≤ R0.frames) (hlocals : (rest.map fun v => v.category).sum + 13 ≤ R0.locals) (hc : cells ≤ R0.cells) (hs : slots ≤ R0.slots) {x y : Int32} (hdg : decode cc pc = .ok (.invokestatic index, 3))
    (kk : W p l e R0 s m args below meth c H locs cells slots Q (F0 m (pc + 3) ls (.int (if x < y then y else x) :: rest))) : W p l e R0 s m args below meth c H locs cells slots Q (F0 m pc ls (.int y :: .int x :: rest)) :=
  va_mmax C.1 C.2.1 (C.2.2.1.trans hsize.symm) C.2.2.2.1 (C.2.2.2.2.1.w hw.1) (C.2.2.2.2.1.w hw.2.1) (C.2.2.2.2.1.w hw.2.2.1) (C.2.2.2.2.1.w hw.2.2.2) hframes hlocals hc hs hdg kk
theorem x_min (C : Cx l g p s m meth c cc nL own) (hsize : ls.size = nL) (hw : Cond.methodLink own index Lib.Math.min.name ∈ BW ∧ Cond.static Lib.Math.min.name ∈ BW ∧ Cond.initialized "java/lang/Math" ∈ BW ∧ Cond.code Lib.Math.min.name Lib.Math.min.code 2 (some .int) ∈ BW) (hframes : 1 ≤ R0.frames) (hlocals : (rest.map fun v => v.category).sum + 13 ≤ R0.locals) (hc : cells ≤ R0.cells) (hs : slots ≤ R0.slots) {x y : Int32} (hdg : decode cc pc = .ok (.invokestatic index, 3))
    (kk : W p l e R0 s m args below meth c H locs cells slots Q (F0 m (pc + 3) ls (.int (if y < x then y else x) :: rest))) : W p l e R0 s m args below meth c H locs cells slots Q (F0 m pc ls (.int y :: .int x :: rest)) :=
  va_mmin C.1 C.2.1 (C.2.2.1.trans hsize.symm) C.2.2.2.1 (C.2.2.2.2.1.w hw.1) (C.2.2.2.2.1.w hw.2.1) (C.2.2.2.2.1.w hw.2.2.1) (C.2.2.2.2.1.w hw.2.2.2) hframes hlocals hc hs hdg kk
theorem x_abs (C : Cx l g p s m meth c cc nL own) (hsize : ls.size = nL) (hw : Cond.methodLink own index Lib.Math.abs.name ∈ BW ∧ Cond.static Lib.Math.abs.name ∈ BW ∧ Cond.initialized "java/lang/Math" ∈ BW ∧ Cond.code Lib.Math.abs.name Lib.Math.abs.code 1 (some .int) ∈ BW) (hframes : 1 ≤ R0.frames) (hlocals : (rest.map fun v => v.category).sum + 13 ≤ R0.locals) (hc : cells ≤ R0.cells) (hs : slots ≤ R0.slots) {x : Int32} (hdg : decode cc pc = .ok (.invokestatic index, 3))
    (kk : W p l e R0 s m args below meth c H locs cells slots Q (F0 m (pc + 3) ls (.int (if 0 ≤ x then x else 0 - x) :: rest))) : W p l e R0 s m args below meth c H locs cells slots Q (F0 m pc ls (.int x :: rest)) :=
  va_mabs C.1 C.2.1 (C.2.2.1.trans hsize.symm) C.2.2.2.1 (C.2.2.2.2.1.w hw.1) (C.2.2.2.2.1.w hw.2.1) (C.2.2.2.2.1.w hw.2.2.1) (C.2.2.2.2.1.w hw.2.2.2) hframes hlocals hc hs hdg kk
variable {mL d mc ms : Nat} {y : MethodName} {b : ByteArray} {ret : Option FieldType} {As st : List Value} {σ1 : SI} {a : Int32}
theorem x_callVI (C : Cx l g p s m meth c cc nL own) (S : S2 g s σ R L H locs) (K : KC kc Cn T N ty0) (hid : Ok 202 id kc) (hM : Ct l g d y b mL ret 202 202 mc ms (.ref (ga g id) :: As) (mkS σ R L) (PI R L (a, σ1)))
    (hw : Cond.code y b mL ret ∈ BW ∧ Cond.initialized y.cls ∈ BW ∧ Cond.methodLink own index y ∈ BW ∧ Cond.instanceMethod y ∈ BW ∧ Cond.selects Cn y y ∈ BW) (hy : y.cls ≠ "java/lang/invoke/MethodHandle" ∧ y.cls ≠ "java/lang/invoke/VarHandle") (hlen : (parseMethodDescriptor y.desc).map (fun d => d.parameters.length) = some As.length)
    (hroom : d + 1 ≤ R0.frames ∧ 8 + (mL + 11) + 64 * d ≤ R0.locals) (hsize : ls.size = nL) (hst : st = As.reverse ++ .ref (ga g id) :: rest) (hW : (rest.map fun v => v.category).sum ≤ 8) (hf : cells + mc ≤ R0.cells ∧ slots + ms ≤ R0.slots) (hdg : decode cc pc = .ok (.invokevirtual index, 3))
    (kk : ∀ (H1 : Heap) (locs1 : List Loc), S2 g s σ1 R L H1 locs1 → W p l e R0 s m args below meth c H1 locs1 (cells + mc) (slots + ms) Q (F0 m (pc + 3) ls (.int a :: rest))) : W p l e R0 s m args below meth c H locs cells slots Q (F0 m pc ls st) := by
  refine v_callV C S hid K.1 K.2.2.2.2 hM hw hy hlen hroom hsize hst hW hf hdg (fun v σ' H1 locs1 hp hS => ?_)
  obtain ⟨rfl, rfl⟩ := hp
  exact kk H1 locs1 hS
theorem x_callVV (C : Cx l g p s m meth c cc nL own) (S : S2 g s σ R L H locs) (K : KC kc Cn T N ty0) (hid : Ok 202 id kc) {u : Unit} (hM : Ct l g d y b mL ret 202 202 mc ms (.ref (ga g id) :: As) (mkS σ R L) (PV R L (u, σ1)))
    (hw : Cond.code y b mL ret ∈ BW ∧ Cond.initialized y.cls ∈ BW ∧ Cond.methodLink own index y ∈ BW ∧ Cond.instanceMethod y ∈ BW ∧ Cond.selects Cn y y ∈ BW) (hy : y.cls ≠ "java/lang/invoke/MethodHandle" ∧ y.cls ≠ "java/lang/invoke/VarHandle") (hlen : (parseMethodDescriptor y.desc).map (fun d => d.parameters.length) = some As.length)
    (hroom : d + 1 ≤ R0.frames ∧ 8 + (mL + 11) + 64 * d ≤ R0.locals) (hsize : ls.size = nL) (hst : st = As.reverse ++ .ref (ga g id) :: rest) (hW : (rest.map fun v => v.category).sum ≤ 8) (hf : cells + mc ≤ R0.cells ∧ slots + ms ≤ R0.slots) (hdg : decode cc pc = .ok (.invokevirtual index, 3))
    (kk : ∀ (H1 : Heap) (locs1 : List Loc), S2 g s σ1 R L H1 locs1 → W p l e R0 s m args below meth c H1 locs1 (cells + mc) (slots + ms) Q (F0 m (pc + 3) ls rest)) : W p l e R0 s m args below meth c H locs cells slots Q (F0 m pc ls st) := by
  refine v_callV C S hid K.1 K.2.2.2.2 hM hw hy hlen hroom hsize hst hW hf hdg (fun v σ' H1 locs1 hp hS => ?_)
  obtain ⟨rfl, rfl⟩ := hp
  exact kk H1 locs1 hS
theorem x_callSI (C : Cx l g p s m meth c cc nL own) (S : S2 g s σ R L H locs) (hM : Ct l g d y b mL ret 202 202 mc ms As (mkS σ R L) (PI R L (a, σ1)))
    (hw : Cond.code y b mL ret ∈ BW ∧ Cond.initialized y.cls ∈ BW ∧ Cond.methodLink own index y ∈ BW ∧ Cond.static y ∈ BW) (hy : y.cls ≠ "java/lang/invoke/MethodHandle" ∧ y.cls ≠ "java/lang/invoke/VarHandle") (hlen : (parseMethodDescriptor y.desc).map (fun d => d.parameters.length) = some As.length)
    (hroom : d + 1 ≤ R0.frames ∧ 8 + (mL + 11) + 64 * d ≤ R0.locals) (hsize : ls.size = nL) (hst : st = As.reverse ++ rest) (hW : (rest.map fun v => v.category).sum ≤ 8) (hf : cells + mc ≤ R0.cells ∧ slots + ms ≤ R0.slots) (hdg : decode cc pc = .ok (.invokestatic index, 3))
    (kk : ∀ (H1 : Heap) (locs1 : List Loc), S2 g s σ1 R L H1 locs1 → W p l e R0 s m args below meth c H1 locs1 (cells + mc) (slots + ms) Q (F0 m (pc + 3) ls (.int a :: rest))) : W p l e R0 s m args below meth c H locs cells slots Q (F0 m pc ls st) := by
  refine v_callS C S hM hw hy hlen hroom hsize hst hW hf hdg (fun v σ' H1 locs1 hp hS => ?_)
  obtain ⟨rfl, rfl⟩ := hp
  exact kk H1 locs1 hS
theorem x_callSV (C : Cx l g p s m meth c cc nL own) (S : S2 g s σ R L H locs) {u : Unit} (hM : Ct l g d y b mL ret 202 202 mc ms As (mkS σ R L) (PV R L (u, σ1)))
    (hw : Cond.code y b mL ret ∈ BW ∧ Cond.initialized y.cls ∈ BW ∧ Cond.methodLink own index y ∈ BW ∧ Cond.static y ∈ BW) (hy : y.cls ≠ "java/lang/invoke/MethodHandle" ∧ y.cls ≠ "java/lang/invoke/VarHandle") (hlen : (parseMethodDescriptor y.desc).map (fun d => d.parameters.length) = some As.length)
    (hroom : d + 1 ≤ R0.frames ∧ 8 + (mL + 11) + 64 * d ≤ R0.locals) (hsize : ls.size = nL) (hst : st = As.reverse ++ rest) (hW : (rest.map fun v => v.category).sum ≤ 8) (hf : cells + mc ≤ R0.cells ∧ slots + ms ≤ R0.slots) (hdg : decode cc pc = .ok (.invokestatic index, 3))
    (kk : ∀ (H1 : Heap) (locs1 : List Loc), S2 g s σ1 R L H1 locs1 → W p l e R0 s m args below meth c H1 locs1 (cells + mc) (slots + ms) Q (F0 m (pc + 3) ls rest)) : W p l e R0 s m args below meth c H locs cells slots Q (F0 m pc ls st) := by
  refine v_callS C S hM hw hy hlen hroom hsize hst hW hf hdg (fun v σ' H1 locs1 hp hS => ?_)
  obtain ⟨rfl, rfl⟩ := hp
  exact kk H1 locs1 hS
theorem x_callNI {host : String} (C : Cx l g p s m meth c cc nL own) (S : S2 g s σ R L H locs) (hM : Ct l g d y b mL ret 202 202 mc ms As (mkS σ R L) (PI R L (a, σ1)))
    (hw : Cond.code y b mL ret ∈ BW ∧ Cond.initialized y.cls ∈ BW ∧ Cond.methodLinkNest own index y host ∈ BW ∧ Cond.static y ∈ BW) (hy : y.cls ≠ "java/lang/invoke/MethodHandle" ∧ y.cls ≠ "java/lang/invoke/VarHandle") (hlen : (parseMethodDescriptor y.desc).map (fun d => d.parameters.length) = some As.length)
    (hroom : d + 1 ≤ R0.frames ∧ 8 + (mL + 11) + 64 * d ≤ R0.locals) (hsize : ls.size = nL) (hst : st = As.reverse ++ rest) (hW : (rest.map fun v => v.category).sum ≤ 8) (hf : cells + mc ≤ R0.cells ∧ slots + ms ≤ R0.slots) (hdg : decode cc pc = .ok (.invokestatic index, 3))
    (kk : ∀ (H1 : Heap) (locs1 : List Loc), S2 g s σ1 R L H1 locs1 → W p l e R0 s m args below meth c H1 locs1 (cells + mc) (slots + ms) Q (F0 m (pc + 3) ls (.int a :: rest))) : W p l e R0 s m args below meth c H locs cells slots Q (F0 m pc ls st) := by
  refine v_callSN C S hM hw hy hlen hroom hsize hst hW hf hdg (fun v σ' H1 locs1 hp hS => ?_)
  obtain ⟨rfl, rfl⟩ := hp
  exact kk H1 locs1 hS
theorem x_iret {r : Int32 × SI} (C : Cx l g p s m meth c cc nL own) (S : S2 g s σ R L H locs) (hr : meth.sig.returnType = some .int) {v : Int32} (hp : some (v, σ) = some r) (hdg : decode cc pc = .ok (.ireturn, 1)) : W p l e R0 s m args below meth c H locs cells slots (MQ below (Qg g 202 (PI R L r)) args s cells slots (gA g)) (F0 m pc ls [.int v]) :=
  v_iret C S hr (by cases hp; exact ⟨rfl, rfl⟩) hdg
theorem x_zret {r : Int32 × SI} (C : Cx l g p s m meth c cc nL own) (S : S2 g s σ R L H locs) (hr : meth.sig.returnType = some .boolean) {v : Int32} (hv : v = 0 ∨ v = 1) (hp : some (v, σ) = some r) (hdg : decode cc pc = .ok (.ireturn, 1)) : W p l e R0 s m args below meth c H locs cells slots (MQ below (Qg g 202 (PI R L r)) args s cells slots (gA g)) (F0 m pc ls [.int v]) :=
  v_zret C S hr hv (by cases hp; exact ⟨rfl, rfl⟩) hdg
theorem x_vret {r : Unit × SI} (C : Cx l g p s m meth c cc nL own) (S : S2 g s σ R L H locs) (hr : meth.sig.returnType = none) (hp : some ((), σ) = some r) (hdg : decode cc pc = .ok (.return_, 1)) : W p l e R0 s m args below meth c H locs cells slots (MQ below (Qg g 202 (PV R L r)) args s cells slots (gA g)) (F0 m pc ls []) :=
  v_vret C S hr (by cases hp; exact ⟨rfl, rfl⟩) hdg
end W2
