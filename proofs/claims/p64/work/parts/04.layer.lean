/-! ===== the abstract state of all cells, and rows over it ===== -/
/-- ints, references (0: null, else the cell's number), longs, by cell and place; how many cells there are -/
abbrev Sg : Type := (Nat → Nat → Int32) × (Nat → Nat → Nat) × (Nat → Nat → Int64) × Nat
def sI (σ : Sg) (o k : Nat) : Int32 := σ.1 o k
def sR (σ : Sg) (o k : Nat) : Nat := σ.2.1 o k
def sL (σ : Sg) (o k : Nat) : Int64 := σ.2.2.1 o k
def sn (σ : Sg) : Nat := σ.2.2.2
def uI (σ : Sg) (o k : Nat) (v : Int32) : Sg := (fun a j => if a = o ∧ j = k then v else σ.1 a j, σ.2)
def uR (σ : Sg) (o k : Nat) (v : Nat) : Sg := (σ.1, fun a j => if a = o ∧ j = k then v else σ.2.1 a j, σ.2.2)
def uL (σ : Sg) (o k : Nat) (v : Int64) : Sg := (σ.1, σ.2.1, fun a j => if a = o ∧ j = k then v else σ.2.2.1 a j, σ.2.2.2)
theorem sI_uI (σ : Sg) (o k a j : Nat) (v : Int32) : sI (uI σ o k v) a j = if a = o ∧ j = k then v else sI σ a j := rfl
theorem sR_uI (σ : Sg) (o k a j : Nat) (v : Int32) : sR (uI σ o k v) a j = sR σ a j := rfl
theorem sL_uI (σ : Sg) (o k a j : Nat) (v : Int32) : sL (uI σ o k v) a j = sL σ a j := rfl
theorem sn_uI (σ : Sg) (o k : Nat) (v : Int32) : sn (uI σ o k v) = sn σ := rfl
theorem sI_uR (σ : Sg) (o k a j : Nat) (v : Nat) : sI (uR σ o k v) a j = sI σ a j := rfl
theorem sR_uR (σ : Sg) (o k a j : Nat) (v : Nat) : sR (uR σ o k v) a j = if a = o ∧ j = k then v else sR σ a j := rfl
theorem sL_uR (σ : Sg) (o k a j : Nat) (v : Nat) : sL (uR σ o k v) a j = sL σ a j := rfl
theorem sn_uR (σ : Sg) (o k : Nat) (v : Nat) : sn (uR σ o k v) = sn σ := rfl
theorem sI_uL (σ : Sg) (o k a j : Nat) (v : Int64) : sI (uL σ o k v) a j = sI σ a j := rfl
theorem sR_uL (σ : Sg) (o k a j : Nat) (v : Int64) : sR (uL σ o k v) a j = sR σ a j := rfl
theorem sL_uL (σ : Sg) (o k a j : Nat) (v : Int64) : sL (uL σ o k v) a j = if a = o ∧ j = k then v else sL σ a j := rfl
theorem sn_uL (σ : Sg) (o k : Nat) (v : Int64) : sn (uL σ o k v) = sn σ := rfl
/-- what is fixed for a run: the cells' first address, the heap at the start, classes and their slots, array classes, addresses of texts -/
abbrev GL : Type := Nat × Heap × (Nat → ClassId) × (Nat → Nat → Nat) × (Nat → ClassId) × (Nat → Nat) × (Nat → Nat) × Nat × Nat
def gb (g : GL) : Nat := g.1
def gH (g : GL) : Heap := g.2.1
def gC (g : GL) : Nat → ClassId := g.2.2.1
def gN (g : GL) : Nat → Nat → Nat := g.2.2.2.1
def gT (g : GL) : Nat → ClassId := g.2.2.2.2.1
def gS (g : GL) : Nat → Nat := g.2.2.2.2.2.1
def gV (g : GL) : Nat → Nat := g.2.2.2.2.2.2.1
/-- how far below the others the cell 202 lies (the law's Draws) -/
def gO (g : GL) : Nat := g.2.2.2.2.2.2.2.1
/-- 1: also what lies behind the cells may change -/
def gZ (g : GL) : Nat := g.2.2.2.2.2.2.2.2
/-- a cell's address -/
def ga (g : GL) (id : Nat) : Nat := if id = 202 then gb g - gO g else gb g + id
theorem ga_lt {g : GL} {id : Nat} (h : id ≠ 202) : ga g id = gb g + id := if_neg h
theorem ga_202 {g : GL} : ga g 202 = gb g - gO g := if_pos rfl
theorem ga_inj {g : GL} {a b : Nat} (ha : 0 < a) (hb : 0 < b) (h : ga g a = ga g b) : a = b := by
  unfold ga at h
  split at h <;> split at h <;> omega
def gA (g : GL) : Nat → Prop := fun q => (gb g < q ∧ q ≤ gb g + 201) ∨ q = gb g - gO g ∨ (gZ g = 1 ∧ gb g + 202 ≤ q)
def gD (g : GL) : va_G := (gC g, gN g)
def ro (g : GL) (r : Nat) : Option Nat := if r = 0 then none else some (ga g r)
theorem ro_pos {g : GL} {r : Nat} (h : 0 < r) : ro g r = some (ga g r) := if_neg (Nat.pos_iff_ne_zero.mp h)
/-- fields of an object of class kc: are they references? -/
def flK : Nat → List Bool := fun k => match k with
  | 0 => [true, true, true, true, false, false, false, false, false, false, false, false, false, false]
  | 1 => [true, false]
  | 2 => [true, false, false]
  | 3 => [true, true, false]
  | 4 => [true, true, false, false, false, false]
  | 5 => [true]
  | 6 => [true, true, true, false, false, false]
  | 7 => [false, false, false, false]
  | 8 => [true, false]
  | 9 => [true, true, true, true, true, true, true, true, true, false, false, false, false, false, false, false, false, false]
  | 10 => [true, false, false, false, false]
  | 11 => [true, true, true, true, true, true, true, true, true, true]
  | 12 => [false, false, false, false, false, false, false, false, false, true, true, true, true, true, true, true, true, true, true, true, true, true, true, true, true, true, true]
  | 13 => [false]
  | _ => []
def fw (g : GL) (σ : Sg) (id k : Nat) (b : Bool) : Value := if b then va_rf (ro g (sR σ id k)) else .int (sI σ id k)
def fl (g : GL) (kc : Nat) (σ : Sg) (id : Nat) : List Value := (flK kc).mapIdx (fun k b => fw g σ id k b)
/-- arrays: kind 10000 * (t + 1) + length -/
def elk (g : GL) (kc : Nat) (σ : Sg) (id : Nat) : va_E :=
  if kc < 10000 then .inr (kc, fl g kc σ id)
  else .inl (gT g (kc / 10000 - 1), kc % 10000, if kc / 10000 = 4 then .inr (.inl (sL σ id)) else if kc / 10000 ≤ 3 then .inl (sI σ id) else .inr (.inr (.inr (.inr (fun j => ro g (sR σ id j))))))
/-- the kind of a cell by its number -/
def kdL : List Nat := [11, 5, 10, 20800, 2, 80016, 10084, 10084, 10084, 10084, 10084, 10084, 10084, 10084, 10084, 10084, 10084, 10084, 10084, 10084, 10084, 10084, 6, 10004, 10006, 10006, 8, 10018, 1, 20040, 3, 10008, 10008, 3, 10008, 10008, 10024, 9, 60008, 70006, 50006, 10008, 10006, 10006, 10006, 10024, 10024, 4, 10004, 10004, 4, 10004, 10004, 4, 10004, 10004, 4, 10004, 10004, 4, 10004, 10004, 4, 10004, 10004, 4, 10004, 10004, 4, 10004, 10004, 7, 7, 7, 7, 7, 7, 0, 10012, 10012, 10008, 10024, 0, 10012, 10012, 10008, 10024, 0, 10012, 10012, 10008, 10024, 0, 10012, 10012, 10008, 10024, 0, 10012, 10012, 10008, 10024, 0, 10012, 10012, 10008, 10024, 9, 60008, 70006, 50006, 10008, 10006, 10006, 10006, 10024, 10024, 4, 10004, 10004, 4, 10004, 10004, 4, 10004, 10004, 4, 10004, 10004, 4, 10004, 10004, 4, 10004, 10004, 4, 10004, 10004, 4, 10004, 10004, 7, 7, 7, 7, 7, 7, 0, 10012, 10012, 10008, 10024, 0, 10012, 10012, 10008, 10024, 0, 10012, 10012, 10008, 10024, 0, 10012, 10012, 10008, 10024, 0, 10012, 10012, 10008, 10024, 0, 10012, 10012, 10008, 10024, 12, 10002, 10002, 10002, 10002, 10002, 10002, 10002, 10002, 10002, 10003, 10003, 10003, 10003, 10024, 10024, 80003, 10004, 10004, 10004, 80003, 10004, 10004, 10004, 13]
def kd (id : Nat) : Nat := if id = 0 then 999999 else kdL.getD (id - 1) 999999
/-- the cells are as the state says -/
def Rp (g : GL) (σ : Sg) (H : Heap) : Prop := ∀ id, 0 < id → id ≤ sn σ → va_at (gD g) vwCl (ga g id, elk g (kd id) σ id) H
def St (g : GL) (s : State) (σ : Sg) (H : Heap) (locs : List Loc) : Prop := Rp g σ H ∧ va_S (gA g) s.heap H locs
def tysL (g : GL) : List (ClassId × FieldType) := [(gT g 0, .int), (gT g 1, .byte), (gT g 2, .int), (gT g 3, .int), (gT g 4, .object RX0), (gT g 5, .object RX4), (gT g 6, .object RX7), (gT g 7, .array .int)]
/-- words that stay when the tables warm -/
def wok : Cond → Bool
  | .arrayClass _ => true
  | .arrayOver (.object _) => true
  | .arrayOver (.array _) => true
  | .castable _ _ => true
  | .declares _ => true
  | .fieldLinkNest _ _ _ _ _ _ => true
  | .methodLinkNest _ _ _ _ => true
  | .privateMethod _ => true
  | w => w.onTables && w.keeps
def BW : List Cond := lw_tbl.filter wok
theorem bw_in {w : Cond} (h : w ∈ lw_tbl) (h2 : wok w = true) : w ∈ BW := List.mem_filter.mpr ⟨h, h2⟩
theorem wok_use {w : Cond} (h : wok w = true) {s : State} {args : Array Value} (hw : va_Nw w s) : w.before args s = true := by
  cases w
  case arrayClass ty => exact word_at (State.WarmedH.refl s) (Or.inr ⟨_, rfl⟩) hw
  case arrayOver ty => exact hw
  case castable a b => exact va_Nw.use rfl hw
  case declares x => exact va_Nw.use rfl hw
  case fieldLinkNest => exact va_Nw.use rfl hw
  case methodLinkNest => exact va_Nw.use rfl hw
  case privateMethod y => exact Cond.privateMethod_warm (State.WarmedH.refl s) hw
  all_goals exact word_at (State.WarmedH.refl s) (Or.inl h) hw
theorem wok_warm {w : Cond} (h : wok w = true) {s U : State} (hW : s.WarmedH U.vm) (hw : va_Nw w s) : va_Nw w U := by
  cases w
  case arrayClass ty => exact word_at hW (Or.inr ⟨_, rfl⟩) hw
  case arrayOver ty =>
    cases ty with
    | object n => exact Cond.arrayOver_alike hW.alike hw
    | array t => exact over_moved hW.alike hw
    | _ => first | cases h | exact word_at hW (Or.inl h) hw
  case castable a b => exact va_Nw.warmC hW hw
  case declares x => exact va_Nw.warmD hW hw
  case fieldLinkNest => exact va_Nw.warmF hW hw
  case methodLinkNest => exact va_Nw.warmM hW hw
  case privateMethod y => exact Cond.privateMethod_warm hW hw
  all_goals exact word_at hW (Or.inl h) hw
/-- the kind of what a reference place holds, once all is made -/
def fk : Nat → Nat → Option Nat := fun c k => match c with
  | 0 => ([some 10012, some 10012, some 10008, some 10024] : List (Option Nat)).getD k none
  | 1 => ([some 20040] : List (Option Nat)).getD k none
  | 2 => ([some 80016] : List (Option Nat)).getD k none
  | 3 => ([some 10008, some 10008] : List (Option Nat)).getD k none
  | 4 => ([some 10004, some 10004] : List (Option Nat)).getD k none
  | 5 => ([some 10] : List (Option Nat)).getD k none
  | 6 => ([some 10004, some 10006, some 10006] : List (Option Nat)).getD k none
  | 8 => ([some 10018] : List (Option Nat)).getD k none
  | 9 => ([some 60008, some 70006, some 50006, some 10008, some 10006, some 10006, some 10006, some 10024, some 10024] : List (Option Nat)).getD k none
  | 10 => ([some 20800] : List (Option Nat)).getD k none
  | 11 => ([some 5, some 2, some 6, some 8, some 1, some 3, some 3, some 10024, some 9, some 9] : List (Option Nat)).getD k none
  | 12 => ([none, none, none, none, none, none, none, none, none, some 10002, some 10002, some 10002, some 10002, some 10002, some 10002, some 10002, some 10002, some 10002, some 10003, some 10003, some 10003, some 10003, some 10024, some 10024, some 80003, some 80003] : List (Option Nat)).getD k none
  | 50006 => if k < 6 then some 0 else none
  | 60008 => if k < 8 then some 4 else none
  | 70006 => if k < 6 then some 7 else none
  | 80003 => if k < 3 then some 10004 else none
  | 80016 => if k < 16 then some 10084 else none
  | _ => none
/-- cell id is made, and is of kind c -/
def Ok (n id c : Nat) : Prop := kd id = c ∧ 0 < id ∧ id ≤ n
theorem kd_le {id : Nat} (h : kd id < 999999) : 0 < id ∧ id ≤ 202 := by
  unfold kd at h
  refine ⟨Nat.pos_of_ne_zero fun q => ?_, Nat.le_of_not_lt fun q => ?_⟩
  · rw [if_pos q] at h
    exact absurd h (by decide)
  · rw [if_neg (by omega), List.getD_eq_getElem?_getD, List.getElem?_eq_none (by show 202 ≤ id - 1; omega)] at h
    exact absurd h (by decide)
theorem Ok.le {n id c : Nat} (h : Ok n id c) (hc : c < 999999) : id ≤ 202 := (kd_le (by rw [h.1]; exact hc)).2
theorem ga_in {g : GL} {id : Nat} (h0 : 0 < id) (h : id ≤ 202) : gA g (ga g id) := by
  unfold gA ga
  split
  · exact Or.inr (Or.inl rfl)
  · exact Or.inl ⟨by omega, by omega⟩
theorem Ok.zone {g : GL} {n id c : Nat} (h : Ok n id c) (hc : c < 999999) : gA g (ga g id) := ga_in h.2.1 (h.le hc)
def Sh (n : Nat) (σ : Sg) : Prop := ∀ o c k d, kd o = c → fk c k = some d → Ok n (sR σ o k) d
def strTab : List (String × Nat × String × Nat) := [(RX12, 100, "day ", 10), (RX12, 109, " ", 11), (RX12, 111, ";step ", 12), (RX12, 113, ";close ", 13), (RX12, 115, ";space ", 14), (RX12, 117, ";", 15), (RX12, 127, "wind ", 16), (RX12, 141, "near ", 18), (RX12, 143, " to ", 19), (RX12, 133, "road ", 17), (RX12, 145, "blast ", 20), (RX12, 147, " at ", 21), (RX5, 48, "near", 0), (RX5, 152, "to", 1), (RX5, 58, "road", 2), (RX5, 63, "blast", 3), (RX5, 209, "at", 4), (RX5, 71, "day", 5), (RX5, 83, "step", 6), (RX5, 87, "close", 7), (RX5, 95, "space", 8), (RX5, 100, "wind", 9), (RX11, 92, "the text does not match", 22), (RX11, 358, "no such blast", 23), (RX11, 365, "no such neighbour", 24), (RX11, 371, "no such road", 25), (RX11, 379, "out of range", 26), (RX11, 259, "fired, or the minute is not allowed", 27), (RX11, 381, "the blast is open or fired", 28), (RX11, 268, "another blast is fired before", 29), (RX11, 270, "the blast is fired", 30), (RX11, 383, "no such siren", 31), (RX11, 391, "too many open blasts or start minutes", 32), (RX11, 333, "there is no plan", 33)]
def strLen : List Nat := [4, 2, 4, 5, 2, 3, 4, 5, 5, 4, 4, 1, 6, 7, 7, 1, 5, 5, 5, 4, 6, 4]
def strByt : List (List Int32) := [[110, 101, 97, 114], [116, 111], [114, 111, 97, 100], [98, 108, 97, 115, 116], [97, 116], [100, 97, 121], [115, 116, 101, 112], [99, 108, 111, 115, 101], [115, 112, 97, 99, 101], [119, 105, 110, 100], [100, 97, 121, 32], [32], [59, 115, 116, 101, 112, 32], [59, 99, 108, 111, 115, 101, 32], [59, 115, 112, 97, 99, 101, 32], [59], [119, 105, 110, 100, 32], [114, 111, 97, 100, 32], [110, 101, 97, 114, 32], [32, 116, 111, 32], [98, 108, 97, 115, 116, 32], [32, 97, 116, 32]]
def wxL : List Int32 := [0, 1, 1, 1, 0, -1, -1, -1]
def wyL : List Int32 := [-1, -1, 0, 1, 1, 1, 0, -1]
def ncTab : List (String × String) := [("java/lang/IllegalArgumentException", "java/lang/IndexOutOfBoundsException"), ("java/lang/IllegalStateException", "java/lang/IndexOutOfBoundsException"), ("java/lang/IllegalStateException", "java/lang/IllegalArgumentException")]
/-- texts, static rows, and what a throw reads -/
def EnvX (g : GL) (U : State) (H : Heap) : Prop :=
  (∀ q ∈ strTab, vk_R q.1 q.2.1 q.2.2.1 (gS g q.2.2.2) U) ∧ vk_S 22 strLen strByt (gS g) (gV g) (gA g) U H ∧
  va_Z RX9 "WIND_X" "[I" (.ref (gV g 900)) (gA g) U H ∧ va_Z RX9 "WIND_Y" "[I" (.ref (gV g 901)) (gA g) U H ∧
  va_T .int (gV g 900) 8 (fun j => .int (wxL.getD j 0)) (gA g) U H ∧ va_T .int (gV g 901) 8 (fun j => .int (wyL.getD j 0)) (gA g) U H ∧
  va_Z "java/lang/String" "COMPACT_STRINGS" "Z" (.int 1) (gA g) U H ∧
  va_Zq "jdk/internal/util/Preconditions" "SIOOBE_FORMATTER" "Ljava/util/function/BiFunction;" (gA g) U H ∧
  vx_Zq Bundle.tN "UNASSIGNED_STACK" Bundle.steD (gA g) U H ∧ vx_Zq Bundle.tN "SUPPRESSED_SENTINEL" Bundle.listD (gA g) U H ∧
  (∀ q ∈ ncTab, va_Nc q.1 q.2 U) ∧
  va_Z "java/lang/Integer" "DigitOnes" "[B" (.ref (gV g 902)) (gA g) U H ∧ va_Z "java/lang/Integer" "DigitTens" "[B" (.ref (gV g 903)) (gA g) U H ∧
  va_T .byte (gV g 902) 100 (fun j => .int (nI (48 + j % 10))) (gA g) U H ∧ va_T .byte (gV g 903) 100 (fun j => .int (nI (48 + j / 10))) (gA g) U H
theorem EnvX.mv {g : GL} {s U : State} {H H1 : Heap} (h : EnvX g s H) (hW : s.WarmedH U.vm) (hq : ∀ a : Nat, a < H.size → ¬ gA g a → H1[a]? = H[a]?) : EnvX g U H1 := by
  obtain ⟨h1, h2, h3, h4, h5, h6, h7, h8, h9, h10, h11, h12, h13, h14, h15⟩ := h
  have A := hW.alike
  exact ⟨fun q hq => (h1 q hq).warm hW, (h2.moved A).kept hq, (h3.moved A).kept hq, (h4.moved A).kept hq, (h5.moved A).kept hq, (h6.moved A).kept hq, (h7.moved A).kept hq, (h8.moved A).kept hq, (h9.moved A).kept hq, (h10.moved A).kept hq, fun q hq => (h11 q hq).moved A, (h12.moved A).kept hq, (h13.moved A).kept hq, (h14.moved A).kept hq, (h15.moved A).kept hq⟩
def Low (g : GL) (H : Heap) : Prop := (gH g).size = gb g + 1 ∧ (gH g).size ≤ H.size ∧ ∀ a : Nat, a < (gH g).size → a ≠ gb g - gO g → H[a]? = (gH g)[a]?
def Env (l : Launch) (g : GL) (U : State) : Prop := (∀ w ∈ BW, va_Nw w U) ∧ va_K (gD g) vwCl (tysL g) U ∧ EnvX g U (gH g) ∧ l.stackTraces = false
theorem Env.warm {l : Launch} {g : GL} {s U : State} (h : Env l g s) (hW : s.WarmedH U.vm) : Env l g U :=
  ⟨fun w hw => wok_warm (List.mem_filter.mp hw).2 hW (h.1 w hw), h.2.1.moved hW.alike, h.2.2.1.mv hW (fun _ _ _ => rfl), h.2.2.2⟩
theorem Env.fr {l : Launch} {g : GL} {s U : State} (h : Env l g s) (hv : U.vm = s.vm) : Env l g U :=
  h.warm (by rw [hv]; exact State.WarmedH.refl s)
theorem Env.w {l : Launch} {g : GL} {s : State} {args : Array Value} {w : Cond} (h : Env l g s) (hw : w ∈ BW) : w.before args s = true := wok_use (List.mem_filter.mp hw).2 (h.1 w hw)
theorem Env.x {l : Launch} {g : GL} {s : State} (h : Env l g s) {H : Heap} (hL : Low g H) : EnvX g s H := by
  obtain ⟨h1, h2, h3, h4, h5, h6, h7, h8, h9, h10, h11, h12, h13, h14, h15⟩ := h.2.2.1
  have hq : ∀ a : Nat, a < (gH g).size → ¬ gA g a → H[a]? = (gH g)[a]? := fun a ha hn => hL.2.2 a ha (fun q => hn (Or.inr (Or.inl q)))
  exact ⟨h1, h2.kept hq, h3.kept hq, h4.kept hq, h5.kept hq, h6.kept hq, h7.kept hq, h8.kept hq, h9.kept hq, h10.kept hq, h11, h12.kept hq, h13.kept hq, h14.kept hq, h15.kept hq⟩
/-- a world: n cells made, in the state σ -/
def Wd (g : GL) (n : Nat) (σ : Sg) (H : Heap) : Prop := Rp g σ H ∧ sn σ = n ∧ (n < 201 → H.size = gb g + n + 1) ∧ (n < 202 → H[gb g - gO g]? = (gH g)[gb g - gO g]?)
def Pcc (l : Launch) (g : GL) (n : Nat) (As : List Value) (σ : Sg) : Array Value → State → Prop := fun v U => v = As.toArray ∧ Env l g U ∧ Low g U.heap ∧ Wd g n σ U.heap
theorem Pcc.blind {l : Launch} {g : GL} {n : Nat} {As : List Value} {σ : Sg} : FrameBlind (Pcc l g n As σ) := fun a U G mk h => ⟨h.1, Env.fr (U := U.calling G mk a) h.2.1 rfl, h.2.2.1, h.2.2.2⟩
def Qg (g : GL) (n : Nat) (post : Option Value → Sg → Prop) : Array Value → State → Outcome → State → Prop := fun _ st o t => (∃ v σ, o = .returned v ∧ post v σ ∧ Wd g n σ t.heap) ∧ va_F (gA g) st t
def Xg (g : GL) (n : Nat) (post : String → Sg → Prop) : String → State → State → Prop := fun E st t => (∃ σ, post E σ ∧ Wd g n σ t.heap) ∧ va_F (gA g) st t
/-- room of a call that nests d deep -/
def rmd (d mc ms : Nat) : Room := { frames := d, cells := mc, slots := ms, locals := 64 * d }
/-- a method's contract: from σ with arguments As it returns v and σ' with post v σ' -/
def Ct (l : Launch) (g : GL) (d : Nat) (y : MethodName) (b : ByteArray) (nL : Nat) (ret : Option FieldType) (n n' mc ms : Nat) (As : List Value) (σ : Sg) (post : Option Value → Sg → Prop) : Prop :=
  Met l y [Cond.code y b nL ret] (rmd d mc ms) (Pcc l g n As σ) (Qg g n' post) mc ms (gA g)
def Cx (l : Launch) (g : GL) (p : Program) (s : State) (m : MethodId) (meth : Method) (c : Code) (cc : ByteArray) (nL : Nat) (own : String) : Prop :=
  p.tables.exec = Jvm.exec ∧ c.code = cc ∧ c.maxLocals = nL ∧ s.vm.findClass own = some m.cls ∧ Env l g s ∧ Low g s.heap ∧ meth.locks = false
def StL (g : GL) (n : Nat) (s : State) (σ : Sg) (H : Heap) (locs : List Loc) : Prop := Wd g n σ H ∧ va_S (gA g) s.heap H locs
section VROW
variable {l : Launch} {g : GL} {p : Program} {e : Jvm.Env} {R : Room} {s : State} {m : MethodId} {args : Array Value} {below : List Frame} {meth : Method} {c : Code} {H : Heap} {locs : List Loc} {cells slots : Nat} {Q : State → Prop}
variable {cc : ByteArray} {nL : Nat} {own : String} {pc n : Nat} {ls : Array Slot} {rest : List Value} {σ : Sg} {id kc index : Nat} {Cn : String} {T : u_T} {N : Nat}
theorem v_cell (S : StL g n s σ H locs) (hid : Ok n id kc) : va_P (gD g) vwCl [(ga g id, elk g kc σ id)] H := by
  intro k q hk
  have hz : k = 0 := by
    have := (List.getElem?_eq_some_iff.mp hk).1
    simp at this
    exact this
  subst hz
  cases hk
  have h := S.1.1 id hid.2.1 (by rw [S.1.2.1]; exact hid.2.2)
  rw [hid.1] at h
  exact h
theorem v_fl (kc k : Nat) (σ : Sg) (id : Nat) {b : Bool} (hb : (flK kc)[k]? = some b) : (fl g kc σ id)[k]? = some (fw g σ id k b) := by
  unfold fl
  rw [List.getElem?_mapIdx, hb]
  rfl
theorem v_elk (h : kc < 10000) (σ : Sg) (id : Nat) : elk g kc σ id = .inr (kc, fl g kc σ id) := if_pos h
theorem v_get (C : Cx l g p s m meth c cc nL own) (S : StL g n s σ H locs) (hid : Ok n id kc) (hc : vwCl[kc]? = some (Cn, T, N)) (hin : ∀ w ∈ u_ws Cn T N, w ∈ BW) (hlt : kc < 10000) (k : Nat) (hk : k < N) {b : Bool} (hb' : (flK kc)[k]? = some b) (hT : (T k).1 = Cn)
    (hw : Cond.fieldLink own index Cn (T k).2.1 (T k).2.2.1 ∈ BW) (hdg : decode cc pc = .ok (.getfield index, 3))
    (kk : W p l e R s m args below meth c H locs cells slots Q (F0 m (pc + 3) ls (fw g σ id k b :: rest))) : W p l e R s m args below meth c H locs cells slots Q (F0 m pc ls (.ref (ga g id) :: rest)) := by
  have hP := v_cell S hid
  rw [v_elk hlt] at hP
  exact va_get C.1 C.2.1 (fun w hw => C.2.2.2.2.1.w (hin w hw)) (fun w h => h) C.2.2.2.1 C.2.2.2.2.1.2.1 hP 0 rfl hc k hk (C.2.2.2.2.1.w hw) (fun x h => by rw [hT] at h; exact h) (v_fl kc k σ id hb') hdg kk
theorem v_getI (C : Cx l g p s m meth c cc nL own) (S : StL g n s σ H locs) (hid : Ok n id kc) (hc : vwCl[kc]? = some (Cn, T, N)) (hin : ∀ w ∈ u_ws Cn T N, w ∈ BW) (hlt : kc < 10000) (k : Nat) (hk : k < N) (hb' : (flK kc)[k]? = some false) (hT : (T k).1 = Cn)
    (hw : Cond.fieldLink own index Cn (T k).2.1 (T k).2.2.1 ∈ BW) (hdg : decode cc pc = .ok (.getfield index, 3))
    (kk : W p l e R s m args below meth c H locs cells slots Q (F0 m (pc + 3) ls (.int (sI σ id k) :: rest))) : W p l e R s m args below meth c H locs cells slots Q (F0 m pc ls (.ref (ga g id) :: rest)) :=
  v_get C S hid hc hin hlt k hk hb' hT hw hdg kk
theorem v_getR (C : Cx l g p s m meth c cc nL own) (S : StL g n s σ H locs) (hid : Ok n id kc) (hc : vwCl[kc]? = some (Cn, T, N)) (hin : ∀ w ∈ u_ws Cn T N, w ∈ BW) (hlt : kc < 10000) (k : Nat) (hk : k < N) (hb' : (flK kc)[k]? = some true) (hT : (T k).1 = Cn)
    (hw : Cond.fieldLink own index Cn (T k).2.1 (T k).2.2.1 ∈ BW) {d : Nat} (hr : Ok n (sR σ id k) d) (hdg : decode cc pc = .ok (.getfield index, 3))
    (kk : W p l e R s m args below meth c H locs cells slots Q (F0 m (pc + 3) ls (.ref (ga g (sR σ id k)) :: rest))) : W p l e R s m args below meth c H locs cells slots Q (F0 m pc ls (.ref (ga g id) :: rest)) := by
  refine v_get C S hid hc hin hlt k hk hb' hT hw hdg ?_
  show W p l e R s m args below meth c H locs cells slots Q (F0 m (pc + 3) ls (va_rf (ro g (sR σ id k)) :: rest))
  rw [ro_pos hr.2.1]
  exact kk
end VROW
