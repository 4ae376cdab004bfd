/-! ===== what is drawn, and how it is printed ===== -/
abbrev NDt : Type := Nat × Nat × Nat × Option (Nat × Nat)
abbrev RDt : Type := Nat × Nat × Nat × Nat
abbrev BDt : Type := Nat × Nat × Nat × List (Nat × Nat)
abbrev WDt : Type := Nat × Nat × Nat
abbrev SDt : Type := Nat × Nat × Nat × Nat × Nat × Nat
def NdOk (d : NDt) : Prop := d.1 < 300 ∧ d.2.1 < 300 ∧ d.2.2.1 < 40 ∧ ∀ q ∈ d.2.2.2, 400 ≤ q.1 ∧ q.1 < 800 ∧ q.1 < q.2 ∧ q.2 ≤ q.1 + 200
def RdOk (d : RDt) : Prop := d.1 < 300 ∧ d.2.1 < 300 ∧ d.2.2.1 < 300 ∧ d.2.2.2 < 300
def ChOk (c : Nat × Nat) : Prop := 1 ≤ c.1 ∧ c.1 ≤ 200 ∧ c.2 < 25
def BdOk (d : BDt) : Prop := d.1 < 300 ∧ d.2.1 < 300 ∧ 1 ≤ d.2.2.1 ∧ d.2.2.1 ≤ 120 ∧ 1 ≤ d.2.2.2.length ∧ d.2.2.2.length ≤ 4 ∧ ∀ c ∈ d.2.2.2, ChOk c
def WdOk (d : WDt) : Prop := 6 ≤ d.1 ∧ d.1 < 18 ∧ d.2.1 < 8 ∧ d.2.2 < 12
def SdOk (d : SDt) : Prop := 400 ≤ d.1 ∧ d.1 < 500 ∧ d.1 ≤ d.2.1 ∧ d.2.1 < 1300 ∧ 40 ≤ d.2.2.1 ∧ d.2.2.1 < 100 ∧ d.2.2.2.1 < 20 ∧ d.2.2.2.2.1 < 20 ∧ d.2.2.2.2.2 < 90
def prQ (q : Option (Nat × Nat)) : List Nat := match q with
  | none => []
  | some q => kwL 11 ++ (dec q.1 ++ (kwL 19 ++ dec q.2))
def prN (k : Nat) (d : NDt) : List Nat := kwL 18 ++ ([110 + k] ++ (kwL 11 ++ (dec d.1 ++ (kwL 11 ++ (dec d.2.1 ++ (kwL 11 ++ (dec d.2.2.1 ++ (prQ d.2.2.2 ++ kwL 15))))))))
def prR (k : Nat) (d : RDt) : List Nat := kwL 17 ++ ([114 + k] ++ (kwL 11 ++ (dec d.1 ++ (kwL 11 ++ (dec d.2.1 ++ (kwL 11 ++ (dec d.2.2.1 ++ (kwL 11 ++ (dec d.2.2.2 ++ kwL 15)))))))))
def prC : List (Nat × Nat) → List Nat
  | [] => []
  | c :: cs => kwL 11 ++ (dec c.1 ++ (kwL 21 ++ (dec c.2 ++ prC cs)))
def prB (k : Nat) (d : BDt) : List Nat := kwL 20 ++ ([98 + k] ++ (kwL 11 ++ (dec d.1 ++ (kwL 11 ++ (dec d.2.1 ++ (kwL 11 ++ (dec d.2.2.1 ++ (prC d.2.2.2 ++ kwL 15))))))))
def prW (d : WDt) : List Nat := kwL 16 ++ (dec d.1 ++ (kwL 11 ++ (dec d.2.1 ++ (kwL 11 ++ (dec d.2.2 ++ kwL 15)))))
def prS (d : SDt) : List Nat := kwL 10 ++ (dec d.1 ++ (kwL 11 ++ (dec d.2.1 ++ (kwL 12 ++ (dec d.2.2.1 ++ (kwL 13 ++ (dec d.2.2.2.1 ++ (kwL 11 ++ (dec d.2.2.2.2.1 ++ (kwL 14 ++ (dec d.2.2.2.2.2 ++ kwL 15)))))))))))
theorem prC_app (a : List (Nat × Nat)) (c : Nat × Nat) : prC (a ++ [c]) = prC a ++ (kwL 11 ++ (dec c.1 ++ (kwL 21 ++ dec c.2))) := by
  induction a with
  | nil => simp [prC]
  | cons x xs ih =>
    show kwL 11 ++ (dec x.1 ++ (kwL 21 ++ (dec x.2 ++ prC (xs ++ [c])))) = _
    rw [ih]
    simp [prC, List.append_assoc]
theorem dec_asc {v : Nat} (h : v < 10000) : ∀ c ∈ dec v, 48 ≤ c ∧ c < 58 := by
  intro c hc
  unfold dec at hc
  split at hc
  · simp only [List.mem_cons, List.not_mem_nil, or_false] at hc
    omega
  · split at hc
    · simp only [List.mem_cons, List.not_mem_nil, or_false] at hc
      omega
    · split at hc
      · simp only [List.mem_cons, List.not_mem_nil, or_false] at hc
        omega
      · simp only [List.mem_cons, List.not_mem_nil, or_false] at hc
        omega
def Asc (t : List Nat) : Prop := ∀ c ∈ t, c < 128
theorem Asc.app {a b : List Nat} (ha : Asc a) (hb : Asc b) : Asc (a ++ b) := fun c hc => (List.mem_append.mp hc).elim (ha c) (hb c)
theorem Asc.kw {i : Nat} (h : i < 22) : Asc (kwL i) := kwL_asc i h
theorem Asc.dec {v : Nat} (h : v < 10000) : Asc (dec v) := fun c hc => by have := dec_asc h c hc; omega
theorem Asc.one {c : Nat} (h : c < 128) : Asc [c] := fun x hx => by rw [List.mem_singleton.mp hx]; exact h
theorem Asc.nil : Asc [] := fun c hc => by cases hc
theorem dgS {v : Nat} (h : v < 1000) : dg v ≤ 3 := by
  unfold dg
  repeat' split
  all_goals omega
theorem dgT {v : Nat} (h : v < 100) : dg v ≤ 2 := by
  unfold dg
  repeat' split
  all_goals omega
/-- cells of the quarry -/
def DN (σ : SI) (k : Nat) (d : NDt) : Prop := σ 179 k = nI d.1 ∧ σ 180 k = nI d.2.1 ∧ σ 181 k = nI d.2.2.1 ∧ σ 182 k = nI (d.2.2.2.getD (0, 0)).1 ∧ σ 183 k = nI (d.2.2.2.getD (0, 0)).2
def DR (σ : SI) (k : Nat) (d : RDt) : Prop := σ 184 k = nI d.1 ∧ σ 185 k = nI d.2.1 ∧ σ 186 k = nI d.2.2.1 ∧ σ 187 k = nI d.2.2.2
def DB (σ : SI) (k : Nat) (d : BDt) : Prop := σ 188 k = nI d.1 ∧ σ 189 k = nI d.2.1 ∧ σ 190 k = nI d.2.2.1 ∧ σ 191 k = nI d.2.2.2.length ∧ ∀ j, j < d.2.2.2.length → σ (195 + k) j = nI (d.2.2.2.getD j (0, 0)).1 ∧ σ (199 + k) j = nI (d.2.2.2.getD j (0, 0)).2
/-- contracts of the methods that draw -/
def Pd (l : Launch) (g : GL) (As : List Value) (σ : SI) (R : Nat → Nat → Nat) (L : Nat → Nat → Int64) (a v : Nat) (t : List Nat) : Array Value → State → Prop := fun w U => w = As.toArray ∧ Env l g U ∧ Low g U.heap ∧ Wd g 202 (mkS σ R L) U.heap ∧ TXt g a v t U.heap
theorem Pd.blind {l : Launch} {g : GL} {As : List Value} {σ : SI} {R : Nat → Nat → Nat} {L : Nat → Nat → Int64} {a v : Nat} {t : List Nat} : FrameBlind (Pd l g As σ R L a v t) := fun x U G mk h => ⟨h.1, Env.fr (U := U.calling G mk x) h.2.1 rfl, h.2.2⟩
def Qd (g : GL) (L : Nat → Nat → Int64) (post : SI → List Nat → Prop) : Array Value → State → Outcome → State → Prop := fun _ st o tt => (∃ σ' R' a' v' t', o = .returned none ∧ post σ' t' ∧ RDr R' ∧ ShR R' ∧ TL g R' a' v' ∧ Asc t' ∧ Wd g 202 (mkS σ' R' L) tt.heap ∧ TXt g a' v' t' tt.heap) ∧ va_F (gA g) st tt
def Cdr (l : Launch) (g : GL) (d : Nat) (y : MethodName) (b : ByteArray) (nL mc ms : Nat) (As : List Value) (σ : SI) (R : Nat → Nat → Nat) (L : Nat → Nat → Int64) (a v : Nat) (t : List Nat) (post : SI → List Nat → Prop) : Prop :=
  Met l y [Cond.code y b nL none] (rmd d mc ms) (Pd l g As σ R L a v t) (Qd g L post) mc ms (gA g)
theorem TXt.upz {g : GL} {a v : Nat} {t : List Nat} {H H1 : Heap} (h : TXt g a v t H) (ha : gb g + 203 ≤ a) (hv : gb g + 202 ≤ v) (hk : ∀ q, gb g + 202 ≤ q → q < H.size → H1[q]? = H[q]?) : TXt g a v t H1 := by
  obtain ⟨f, h1, h2⟩ := h
  have l0 := (h1 0 _ rfl).lt
  have l1 := (h1 1 _ rfl).lt
  refine ⟨f, h1.kept fun k q hq => ?_, h2⟩
  match k, hq with
  | 0, hq => cases hq; exact hk _ (by omega) l0
  | 1, hq => cases hq; exact hk _ hv l1
  | k + 2, hq => cases (show (none : Option (Nat × va_E)) = some q from hq)
theorem TXt.lt {g : GL} {a v : Nat} {t : List Nat} {H : Heap} (h : TXt g a v t H) : a < H.size ∧ v < H.size := by
  obtain ⟨f, h1, -⟩ := h
  exact ⟨(h1 0 _ rfl).lt, (h1 1 _ rfl).lt⟩
section VE
variable {l : Launch} {g : GL} {p : Program} {e : Jvm.Env} {R0 : Room} {s : State} {m : MethodId} {args : Array Value} {below : List Frame} {meth : Method} {c : Code} {H : Heap} {locs : List Loc} {cells slots : Nat} {Q : State → Prop}
variable {cc : ByteArray} {nL : Nat} {pc index : Nat} {ls : Array Slot} {rest : List Value} {σ : SI} {R : Nat → Nat → Nat} {L : Nat → Nat → Int64}
theorem e_put (C : Cx l g p s m meth c cc nL RX12) (S : S2 g s σ R L H locs) (hRD : RDr R) (hSh : ShR R) {a v : Nat} {t : List Nat} (hT : TXt g a v t H) (ha : gb g + 203 ≤ a) (hv : gb g + 202 ≤ v) (hw : Cond.fieldLink RX12 index RX12 "text" "Ljava/lang/String;" ∈ BW) (hdg : decode cc pc = .ok (.putfield index, 3))
    (kk : ∀ (R2 : Nat → Nat → Nat) (H1 : Heap) (locs1 : List Loc), S2 g s σ R2 L H1 locs1 → RDr R2 → ShR R2 → TL g R2 a v → TXt g a v t H1 → W p l e R0 s m args below meth c H1 locs1 cells slots Q (F0 m (pc + 3) ls rest)) : W p l e R0 s m args below meth c H locs cells slots Q (F0 m pc ls (.ref a :: .ref (ga g 178) :: rest)) :=
  d_putT C S ha hw hdg (fun H1 locs1 S hz hk => kk _ H1 locs1 S hRD.uT hSh.uT ⟨if_pos ⟨rfl, rfl⟩, ha, hv⟩ (hT.upz ha hv hk))
theorem e_ret (C : Cx l g p s m meth c cc nL RX12) (S : S2 g s σ R L H locs) {post : SI → List Nat → Prop} {a v : Nat} {t : List Nat} (hr : meth.sig.returnType = none) (hp : post σ t) (hRD : RDr R) (hSh : ShR R) (hTL : TL g R a v) (hA : Asc t) (hT : TXt g a v t H) (hdg : decode cc pc = .ok (.return_, 1)) : W p l e R0 s m args below meth c H locs cells slots (MQ below (Qd g L post) args s cells slots (gA g)) (F0 m pc ls []) :=
  W.vret C.1 C.2.1 hr (fun tt ht _ => ⟨⟨σ, R, a, v, t, rfl, hp, hRD, hSh, hTL, hA, by rw [ht]; exact S.1, by rw [ht]; exact hT⟩, S.2.F ht⟩) S.2.2.2 hdg C.2.2.2.2.2.2
theorem e_getT (C : Cx l g p s m meth c cc nL RX12) (S : S2 g s σ R L H locs) {a v : Nat} (hTL : TL g R a v) (hw : Cond.fieldLink RX12 index RX12 "text" "Ljava/lang/String;" ∈ BW) (hdg : decode cc pc = .ok (.getfield index, 3))
    (kk : W p l e R0 s m args below meth c H locs cells slots Q (F0 m (pc + 3) ls (.ref a :: rest))) : W p l e R0 s m args below meth c H locs cells slots Q (F0 m pc ls (.ref (ga g 178) :: rest)) := by
  refine d_getA C S 26 (R 178 26) (by decide) rfl rfl rfl (by rw [hTL.1]; have := hTL.2.1; omega) hw hdg ?_
  rw [hTL.ga]
  exact kk
end VE
