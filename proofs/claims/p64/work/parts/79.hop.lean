/-! ===== a round of the law: the frame's start is taken anew ===== -/
theorem hears_warm {s T : State} (h : s.WarmedH T.vm) (m : MethodId) (below fs : List Frame) (hh : s.hears m below = true) : (T.setFrames fs).hears m below = true := by
  have hm : ∀ q, (T.setFrames fs).vm.method? q = s.vm.method? q := fun q => h.alike.method? q
  have hc : ∀ q, (T.setFrames fs).code? q = s.code? q := fun q => by rw [State.code?_eq, State.code?_eq, hm]
  rcases below with _ | ⟨y, r⟩
  · simp only [State.hears, hm] at hh ⊢
    exact hh
  · cases y <;> first | rfl | (simp only [State.hears, hm, hc] at hh ⊢; exact hh)
section VHOP
variable {p : Program} {l : Launch} {e : Jvm.Env} {R : Room} {s : State} {m : MethodId} {args : Array Value} {below : List Frame} {meth : Method} {c : Code} {H : Heap} {locs : List Loc} {cells slots : Nat} {Q : State → Prop}
/-- what is left of the room -/
def rmL (R : Room) (cells slots : Nat) : Room := { frames := R.frames, cells := R.cells - cells, slots := R.slots - slots, locals := R.locals }
theorem stand_hop {T : State} (hc : cells ≤ R.cells) (hs : slots ≤ R.slots) (X : Stand p l e R s m args below meth c T locs cells slots) : Stand p l e (rmL R cells slots) (T.setFrames (.invoking m args :: below)) m args below meth c T [] 0 0 := by
  obtain ⟨g0, hfr⟩ := X.frames_eq
  have hcur : T.cur < T.threads.size := State.cur_lt_of_frames hfr
  obtain ⟨t, ht, -⟩ := State.frames_cons hfr
  have hF : (T.setFrames (.invoking m args :: below)).frames = .invoking m args :: below := State.frames_setFrames _ hcur
  have hU : (T.setFrames (.invoking m args :: below)).localsInUse = s.localsInUse := by
    rw [State.localsInUse_invoking hF (meth := meth) (c := c) X.method' X.code, State.localsInUse_invoking X.frames X.method X.code]
  have hroom : (T.setFrames (.invoking m args :: below)).hasRoom e.platform (rmL R cells slots) = true := by
    have h := X.room
    have hz := X.heapSize
    have hu := X.used
    simp only [State.hasRoom, Bool.and_eq_true, decide_eq_true_eq] at h ⊢
    rw [hU, hF, State.stackLimits_setFrames, State.stackBytes_setFrames, X.limits, X.bytes]
    rw [X.frames] at h
    refine ⟨⟨⟨⟨h.1.1.1.1, h.1.1.1.2⟩, ?_⟩, ?_⟩, X.book⟩
    · have := h.1.1.2
      show T.heap.size + (R.cells - cells) ≤ _
      omega
    · have := h.1.2
      show T.slotsUsed + (R.slots - slots) ≤ _
      omega
  refine ⟨X.admits, X.cas, X.clock, hF, hroom, hears_warm X.warmed m below _ X.hears, X.method', X.code, X.here, X.tail, State.WarmedH.refl T, (State.stackLimits_setFrames _ T _).symm, (State.stackBytes_setFrames T _).symm, ?_⟩
  have hcur2 : (T.setFrames (.invoking m args :: below)).cur < (T.setFrames (.invoking m args :: below)).threads.size := State.cur_lt_of_frames hF
  obtain ⟨t2, ht2, -⟩ := State.frames_cons hF
  have h := (State.sameButNew.refl (T.setFrames (.invoking m args :: below)) ht2).setFrames T.frames hcur2
  rw [State.setFrames_setFrames, State.setFrames_self ht] at h
  exact h
theorem stand_back {T T' : State} {R2 : Room} {locs' : List Loc} {c' n' : Nat} (X : Stand p l e R s m args below meth c T locs cells slots) (X' : Stand p l e R2 (T.setFrames (.invoking m args :: below)) m args below meth c T' locs' c' n') : Stand p l e R s m args below meth c T' (locs ++ locs') (cells + c') (slots + n') := by
  refine X.moved X'.here X'.tail (X'.limits.trans (State.stackLimits_setFrames _ T _)) (X'.bytes.trans (State.stackBytes_setFrames T _)) X'.warmed ?_
  have h := X'.same
  obtain ⟨a1, a2, a3, a4, a5, a6⟩ := h
  refine ⟨?_, a2, a3, a4, a5, a6⟩
  rw [State.setFrames_setFrames] at a1
  exact a1
/-- from here on as if the frame had begun here -/
theorem W_hop (hc : cells ≤ R.cells) (hs : slots ≤ R.slots) {g : JFrame}
    (k : ∀ s2 : State, s2.heap = H → s.WarmedH s2.vm → (∀ (H' : Heap) (locs' : List Loc) (c' n' : Nat) (g' : JFrame), W p l e R s m args below meth c H' (locs ++ locs') (cells + c') (slots + n') Q g' → W p l e (rmL R cells slots) s2 m args below meth c H' locs' c' n' Q g') → W p l e (rmL R cells slots) s2 m args below meth c H [] 0 0 Q g) : W p l e R s m args below meth c H locs cells slots Q g := by
  intro T hT X
  exact k (T.setFrames (.invoking m args :: below)) hT X.warmed (fun H' locs' c' n' g' hW T' hT' X' => hW T' hT' (stand_back X X')) T hT (stand_hop hc hs X)
end VHOP
