/-! ===== the world at the law's entry ===== -/
def FLs : List Cond := flatC (Jvm.Cond.and given_1 narrow_1)
/-- the texts by their numbers: where each is first read -/
def tmT : List (String × Nat) := [(RX5, 48), (RX5, 152), (RX5, 58), (RX5, 63), (RX5, 209), (RX5, 71), (RX5, 83), (RX5, 87), (RX5, 95), (RX5, 100), (RX12, 100), (RX12, 109), (RX12, 111), (RX12, 113), (RX12, 115), (RX12, 117), (RX12, 127), (RX12, 133), (RX12, 141), (RX12, 143), (RX12, 145), (RX12, 147)]
def tmS (i : Nat) : Term := .string (tmT.getD i (RX5, 0)).1 (tmT.getD i (RX5, 0)).2
/-- where the conditions of the texts begin -/
def fo : List Nat := [460, 468, 474, 482, 491, 497, 504, 512, 521, 530, 350, 358, 363, 373, 384, 395, 407, 433, 416, 425, 442, 452]
set_option maxRecDepth 100000 in
theorem fs_ex_p : ∀ i, i < 22 → FLs[fo.getD i 0 + 0]? = some (Cond.exactly (tmS i) "java/lang/String") := by decide +kernel
theorem fs_ex : ∀ i, i < 22 → Cond.exactly (tmS i) "java/lang/String" ∈ FLs := fun i hi => List.mem_of_getElem? (fs_ex_p i hi)
set_option maxRecDepth 100000 in
theorem fs_co_p : ∀ i, i < 22 → FLs[fo.getD i 0 + 1]? = some (Cond.eq (.field (tmS i) "java/lang/String" "coder" "B") (.int 0)) := by decide +kernel
theorem fs_co : ∀ i, i < 22 → Cond.eq (.field (tmS i) "java/lang/String" "coder" "B") (.int 0) ∈ FLs := fun i hi => List.mem_of_getElem? (fs_co_p i hi)
set_option maxRecDepth 100000 in
theorem fs_ar_p : ∀ i, i < 22 → FLs[fo.getD i 0 + 2]? = some (Cond.arrayOf (.field (tmS i) "java/lang/String" "value" "[B") .byte) := by decide +kernel
theorem fs_ar : ∀ i, i < 22 → Cond.arrayOf (.field (tmS i) "java/lang/String" "value" "[B") .byte ∈ FLs := fun i hi => List.mem_of_getElem? (fs_ar_p i hi)
set_option maxRecDepth 100000 in
theorem fs_le_p : ∀ i, i < 22 → FLs[fo.getD i 0 + 3]? = some (Cond.eq (.length (.field (tmS i) "java/lang/String" "value" "[B")) (.int (Int32.ofNat (strLen.getD i 0)))) := by decide +kernel
theorem fs_le : ∀ i, i < 22 → Cond.eq (.length (.field (tmS i) "java/lang/String" "value" "[B")) (.int (Int32.ofNat (strLen.getD i 0))) ∈ FLs := fun i hi => List.mem_of_getElem? (fs_le_p i hi)
set_option maxRecDepth 100000 in
theorem fs_el_p : ∀ i, i < 22 → ∀ j, j < strLen.getD i 0 → FLs[fo.getD i 0 + 4 + j]? = some (Cond.eq (.elem (.field (tmS i) "java/lang/String" "value" "[B") (.int (Int32.ofNat j))) (.int ((strByt.getD i []).getD j 0))) := by decide +kernel
theorem fs_el : ∀ i, i < 22 → ∀ j, j < strLen.getD i 0 → Cond.eq (.elem (.field (tmS i) "java/lang/String" "value" "[B") (.int (Int32.ofNat j))) (.int ((strByt.getD i []).getD j 0)) ∈ FLs := fun i hi j hj => List.mem_of_getElem? (fs_el_p i hi j hj)
theorem fs_df : ∀ i, i < 22 → ∀ j, j < 22 → strLen.getD i 0 = strLen.getD j 0 → (∀ k, k < strLen.getD i 0 → (strByt.getD i []).getD k 0 = (strByt.getD j []).getD k 0) → i = j := by decide +kernel
set_option maxRecDepth 100000 in
theorem fs_all : ∀ q ∈ strTab, Cond.exactly (.string q.1 q.2.1) "java/lang/String" ∈ FLs := by decide +kernel
set_option maxRecDepth 100000 in
theorem fs_rf : ∀ q ∈ strTab, Cond.stringRef q.1 q.2.1 q.2.2.1 ∈ lw_tbl := by decide +kernel
set_option maxRecDepth 100000 in
theorem fs_sm : ∀ q ∈ strTab, q.2.2.2 < 22 → (q.1, q.2.1) = tmT.getD q.2.2.2 (RX5, 0) ∨ Cond.eq (tmS q.2.2.2) (.string q.1 q.2.1) ∈ FLs := by decide +kernel
theorem fs_one : ∀ q ∈ strTab, ∀ q' ∈ strTab, 22 ≤ q.2.2.2 → q.2.2.2 = q'.2.2.2 → q = q' := by decide +kernel
theorem fs_lt : ∀ q ∈ strTab, q.2.2.2 < 34 := by decide +kernel
set_option maxRecDepth 100000 in
theorem fs_wx_p : ∀ j, j < 8 → FLs[220 + j]? = some (Cond.eq (.elem (.static RX9 "WIND_X" "[I") (.int (Int32.ofNat j))) (.int (wxL.getD j 0))) := by decide +kernel
set_option maxRecDepth 100000 in
theorem fs_wx_q : FLs[218]? = some (Cond.arrayOf (.static RX9 "WIND_X" "[I") .int) ∧ FLs[219]? = some (Cond.eq (.length (.static RX9 "WIND_X" "[I")) (.int (Int32.ofNat 8))) := by decide +kernel
theorem fs_wx : Cond.arrayOf (.static RX9 "WIND_X" "[I") .int ∈ FLs ∧ Cond.eq (.length (.static RX9 "WIND_X" "[I")) (.int (Int32.ofNat 8)) ∈ FLs ∧ ∀ j, j < 8 → Cond.eq (.elem (.static RX9 "WIND_X" "[I") (.int (Int32.ofNat j))) (.int (wxL.getD j 0)) ∈ FLs := ⟨List.mem_of_getElem? fs_wx_q.1, List.mem_of_getElem? fs_wx_q.2, fun j hj => List.mem_of_getElem? (fs_wx_p j hj)⟩
set_option maxRecDepth 100000 in
theorem fs_wy_p : ∀ j, j < 8 → FLs[231 + j]? = some (Cond.eq (.elem (.static RX9 "WIND_Y" "[I") (.int (Int32.ofNat j))) (.int (wyL.getD j 0))) := by decide +kernel
set_option maxRecDepth 100000 in
theorem fs_wy_q : FLs[229]? = some (Cond.arrayOf (.static RX9 "WIND_Y" "[I") .int) ∧ FLs[230]? = some (Cond.eq (.length (.static RX9 "WIND_Y" "[I")) (.int (Int32.ofNat 8))) := by decide +kernel
theorem fs_wy : Cond.arrayOf (.static RX9 "WIND_Y" "[I") .int ∈ FLs ∧ Cond.eq (.length (.static RX9 "WIND_Y" "[I")) (.int (Int32.ofNat 8)) ∈ FLs ∧ ∀ j, j < 8 → Cond.eq (.elem (.static RX9 "WIND_Y" "[I") (.int (Int32.ofNat j))) (.int (wyL.getD j 0)) ∈ FLs := ⟨List.mem_of_getElem? fs_wy_q.1, List.mem_of_getElem? fs_wy_q.2, fun j hj => List.mem_of_getElem? (fs_wy_p j hj)⟩
set_option maxRecDepth 100000 in
theorem fs_d1_p : ∀ j, j < 100 → FLs[12 + j]? = some (Cond.eq (.elem (.static "java/lang/Integer" "DigitOnes" "[B") (.int (Int32.ofNat j))) (.int (nI (48 + j % 10)))) := by decide +kernel
set_option maxRecDepth 100000 in
theorem fs_d1_q : FLs[10]? = some (Cond.arrayOf (.static "java/lang/Integer" "DigitOnes" "[B") .byte) ∧ FLs[11]? = some (Cond.eq (.length (.static "java/lang/Integer" "DigitOnes" "[B")) (.int (Int32.ofNat 100))) := by decide +kernel
theorem fs_d1 : Cond.arrayOf (.static "java/lang/Integer" "DigitOnes" "[B") .byte ∈ FLs ∧ Cond.eq (.length (.static "java/lang/Integer" "DigitOnes" "[B")) (.int (Int32.ofNat 100)) ∈ FLs ∧ ∀ j, j < 100 → Cond.eq (.elem (.static "java/lang/Integer" "DigitOnes" "[B") (.int (Int32.ofNat j))) (.int (nI (48 + j % 10))) ∈ FLs := ⟨List.mem_of_getElem? fs_d1_q.1, List.mem_of_getElem? fs_d1_q.2, fun j hj => List.mem_of_getElem? (fs_d1_p j hj)⟩
set_option maxRecDepth 100000 in
theorem fs_d2_p : ∀ j, j < 100 → FLs[115 + j]? = some (Cond.eq (.elem (.static "java/lang/Integer" "DigitTens" "[B") (.int (Int32.ofNat j))) (.int (nI (48 + j / 10)))) := by decide +kernel
set_option maxRecDepth 100000 in
theorem fs_d2_q : FLs[113]? = some (Cond.arrayOf (.static "java/lang/Integer" "DigitTens" "[B") .byte) ∧ FLs[114]? = some (Cond.eq (.length (.static "java/lang/Integer" "DigitTens" "[B")) (.int (Int32.ofNat 100))) := by decide +kernel
theorem fs_d2 : Cond.arrayOf (.static "java/lang/Integer" "DigitTens" "[B") .byte ∈ FLs ∧ Cond.eq (.length (.static "java/lang/Integer" "DigitTens" "[B")) (.int (Int32.ofNat 100)) ∈ FLs ∧ ∀ j, j < 100 → Cond.eq (.elem (.static "java/lang/Integer" "DigitTens" "[B") (.int (Int32.ofNat j))) (.int (nI (48 + j / 10))) ∈ FLs := ⟨List.mem_of_getElem? fs_d2_q.1, List.mem_of_getElem? fs_d2_q.2, fun j hj => List.mem_of_getElem? (fs_d2_p j hj)⟩
set_option maxRecDepth 100000 in
theorem fs_ti : Cond.laysStatic "java/lang/Integer" "DigitOnes" "[B" ∈ lw_tbl ∧ Cond.laysStatic "java/lang/Integer" "DigitTens" "[B" ∈ lw_tbl ∧ Cond.initialized "java/lang/Integer" ∈ lw_tbl := by decide +kernel
set_option maxRecDepth 100000 in
theorem fs_st : Cond.eq (.static "java/lang/String" "COMPACT_STRINGS" "Z") (.int 1) ∈ FLs ∧ Cond.isRef (.static "jdk/internal/util/Preconditions" "SIOOBE_FORMATTER" "Ljava/util/function/BiFunction;") ∈ FLs ∧ Cond.isRef (.static Bundle.tN "UNASSIGNED_STACK" Bundle.steD) ∈ FLs ∧ Cond.isRef (.static Bundle.tN "SUPPRESSED_SENTINEL" Bundle.listD) ∈ FLs := by decide +kernel
set_option maxRecDepth 100000 in
theorem fs_tb : Cond.laysStatic RX9 "WIND_X" "[I" ∈ lw_tbl ∧ Cond.laysStatic RX9 "WIND_Y" "[I" ∈ lw_tbl ∧ Cond.laysStatic "java/lang/String" "COMPACT_STRINGS" "Z" ∈ lw_tbl ∧ Cond.laysStatic "jdk/internal/util/Preconditions" "SIOOBE_FORMATTER" "Ljava/util/function/BiFunction;" ∈ lw_tbl ∧ Cond.laysStatic Bundle.tN "UNASSIGNED_STACK" Bundle.steD ∈ lw_tbl ∧ Cond.laysStatic Bundle.tN "SUPPRESSED_SENTINEL" Bundle.listD ∈ lw_tbl := by decide +kernel
set_option maxRecDepth 100000 in
theorem fs_in : Cond.initialized RX9 ∈ lw_tbl ∧ Cond.initialized "java/lang/String" ∈ lw_tbl ∧ Cond.initialized "jdk/internal/util/Preconditions" ∈ lw_tbl ∧ Cond.initialized Bundle.tN ∈ lw_tbl := by decide +kernel
set_option maxRecDepth 100000 in
theorem fs_nc : ∀ q ∈ ncTab, Cond.not (.castable q.1 q.2) ∈ FLs := by decide +kernel
set_option maxRecDepth 100000 in
theorem fs_cl : ∀ (c : Nat) (q : vw_C), vwCl[c]? = some q → (∀ w ∈ u_ws q.1 q.2.1 q.2.2, w ∈ BW) ∧ ∃ n, Cond.instantiable q.1 n ∈ lw_tbl := by
  intro c q h
  match c, h with
  | 0, h => cases h; exact ⟨inB0, _, (List.mem_filter.mp iz_RX0).1⟩
  | 1, h => cases h; exact ⟨inB1, _, (List.mem_filter.mp iz_RX1).1⟩
  | 2, h => cases h; exact ⟨inB2, _, (List.mem_filter.mp iz_RX2).1⟩
  | 3, h => cases h; exact ⟨inB3, _, (List.mem_filter.mp iz_RX3).1⟩
  | 4, h => cases h; exact ⟨inB4, _, (List.mem_filter.mp iz_RX4).1⟩
  | 5, h => cases h; exact ⟨inB5, _, (List.mem_filter.mp iz_RX5).1⟩
  | 6, h => cases h; exact ⟨inB6, _, (List.mem_filter.mp iz_RX6).1⟩
  | 7, h => cases h; exact ⟨inB7, _, (List.mem_filter.mp iz_RX7).1⟩
  | 8, h => cases h; exact ⟨inB8, _, (List.mem_filter.mp iz_RX8).1⟩
  | 9, h => cases h; exact ⟨inB9, _, (List.mem_filter.mp iz_RX9).1⟩
  | 10, h => cases h; exact ⟨inB10, _, (List.mem_filter.mp iz_RX10).1⟩
  | 11, h => cases h; exact ⟨inB11, _, (List.mem_filter.mp iz_RX11).1⟩
  | 12, h => cases h; exact ⟨inB12, _, (List.mem_filter.mp iz_RX12).1⟩
  | 13, h => cases h; exact ⟨inB13, _, (List.mem_filter.mp iz_RX13).1⟩
  | 14, h => cases h; exact ⟨inBJ0, _, (List.mem_filter.mp iz_RJ0).1⟩
  | 15, h => cases h; exact ⟨inBJ4, _, (List.mem_filter.mp iz_RJ4).1⟩
  | c + 16, h => cases (show (none : Option vw_C) = some q from h)
theorem wok_of {w : Cond} (h : wok w = true) {s : State} {args : Array Value} (hw : w.before args s = true) : va_Nw w s := by
  cases w
  case arrayClass ty => exact word_at (State.WarmedH.refl s) (Or.inr ⟨_, rfl⟩) hw
  case arrayOver ty => exact hw
  case castable a b => exact va_Nw.of rfl hw
  case declares x => exact va_Nw.of rfl hw
  case fieldLinkNest => exact va_Nw.of rfl hw
  case methodLinkNest => exact va_Nw.of rfl hw
  case privateMethod y => exact Cond.privateMethod_warm (State.WarmedH.refl s) hw
  all_goals exact word_at (State.WarmedH.refl s) (Or.inl h) hw
theorem va_OF_uq {o n d : String} {v w : Value} {t : Nat} {A : Nat → Prop} {U : State} {H : Heap} (h1 : va_OF o n d v t A U H) (h2 : va_OF o n d w t A U H) : v = w := by
  obtain ⟨cf, k, i, f, cell, a1, -, a3, -, a5, -⟩ := h1
  obtain ⟨cf', k', i', f', cell', b1, -, b3, -, b5, -⟩ := h2
  cases a1.symm.trans b1
  cases a3.symm.trans b3
  exact Option.some.inj (a5.symm.trans b5)
theorem va_T_uq {ty : FieldType} {t N M : Nat} {f h : Nat → Value} {A : Nat → Prop} {U : State} {H : Heap} (hN : N < 2 ^ 31) (hM : M < 2 ^ 31) (h1 : va_T ty t N f A U H) (h2 : va_T ty t M h A U H) : N = M ∧ ∀ j, j < N → f j = h j := by
  obtain ⟨cell, a1, -, -, -, a5, a6, -⟩ := h1
  obtain ⟨cell', b1, -, -, -, b5, b6, -⟩ := h2
  cases a1.symm.trans b1
  have e : N = M := by
    have := a5.symm.trans b5
    exact (nI_eq hN hM).mp this
  exact ⟨e, fun j hj => Option.some.inj ((a6 j hj).symm.trans (b6 j (by omega)))⟩
theorem arr_p {s : State} {args : Array Value} {ty : FieldType} (h : (Cond.arrayClass ty).before args s = true) (hp : ∀ cA : ClassId, va_RA s cA ty = (s.vm.findClass ("[" ++ ty.toString) = some cA)) : ∃ cA : ClassId, ArrOfT s cA ty ∧ va_RA s cA ty := by
  obtain ⟨cA, kA, comp, h1, h2, h3⟩ := Cond.arrayClass_spec h
  exact ⟨cA, fun N z => ⟨(fun k h => by cases h), kA, h2, comp, h3⟩, by rw [hp]; exact h1⟩
theorem arr_q {s : State} {args : Array Value} {C : String} (h : (Cond.arrayOver (.object C)).before args s = true) : ∃ cA : ClassId, ArrOfT s cA (.object C) ∧ va_RA s cA (.object C) := by
  obtain ⟨comp, cA, kA, h1, h2, h3, h4, h5⟩ := Cond.arrayOver_spec h
  exact ⟨cA, fun N z => ⟨(fun k h => by cases h), kA, h3, comp, h4⟩, kA, comp, h3, h4, h1, h5⟩
theorem arr_a {s : State} {args : Array Value} {t : FieldType} (h : (Cond.arrayOver (.array t)).before args s = true) : ∃ cA : ClassId, ArrOfT s cA (.array t) ∧ va_RA s cA (.array t) := by
  obtain ⟨comp, cA, kA, h1, -, h3, h4, h5⟩ := arrayOverA_spec h
  exact ⟨cA, fun N z => ⟨(fun k h => by cases h), kA, h3, comp, h4⟩, h5⟩
theorem env_start {l : Launch} (hflags : l.flags = flags0) {s : State} {b : Nat} (hts : ∀ w ∈ lw_tbl, w.before #[Value.ref b] s = true) (hbl : b < s.heap.size) (hgv : (Jvm.Cond.and given_1 narrow_1).before #[Value.ref b] s = true) : ∃ k : Kl, EnvL l k s := by
  have hfl : ∀ w ∈ FLs, w.before #[Value.ref b] s = true := flat_of_before _ hgv
  have hBW : ∀ w ∈ BW, w ∈ lw_tbl := fun w hw => (List.mem_filter.mp hw).1
  -- the classes
  have hcl : ∀ c : Nat, ∃ q : ClassId × (Nat → Nat), ∀ v, vwCl[c]? = some v → u_Kn s v.1 v.2.1 v.2.2 q.1 q.2 := by
    intro c
    cases hc : vwCl[c]? with
    | none => exact ⟨(0, fun _ => 0), fun v h => by cases h⟩
    | some v =>
      obtain ⟨hin, n, hi⟩ := fs_cl c v hc
      obtain ⟨cC, iS, h⟩ := u_known hts (fun w hw => hBW w (hin w hw)) (hts _ hi)
      exact ⟨(cC, iS), fun v' hv => by cases hv; exact h⟩
  obtain ⟨fC, hfC⟩ := Classical.axiomOfChoice hcl
  -- array classes
  obtain ⟨t0, ht0⟩ := arr_p (hts _ (hBW _ ac_int)) (fun _ => rfl)
  obtain ⟨t1, ht1⟩ := arr_p (hts _ (hBW _ ac_byte)) (fun _ => rfl)
  obtain ⟨t2, ht2⟩ := arr_p (hts _ (hBW _ ac_int)) (fun _ => rfl)
  obtain ⟨t4, ht4⟩ := arr_q (hts _ (hBW _ ao_RX0))
  obtain ⟨t5, ht5⟩ := arr_q (hts _ (hBW _ ao_RX4))
  obtain ⟨t6, ht6⟩ := arr_q (hts _ (hBW _ ao_RX7))
  obtain ⟨t7, ht7⟩ := arr_a (hts _ (hBW _ ao_int))
  let A : Nat → Prop := fun q => s.heap.size ≤ q
  have hA : ∀ a : Nat, a < s.heap.size → ¬ A a := fun a ha => by show ¬ (s.heap.size ≤ a); omega
  -- the texts
  have hst : ∀ i : Nat, ∃ q : Nat × Nat, i < 22 → va_O "java/lang/String" q.1 A s s.heap ∧ va_OF "java/lang/String" "coder" "B" (.int 0) q.1 A s s.heap ∧ va_OF "java/lang/String" "value" "[B" (.ref q.2) q.1 A s s.heap ∧ va_T .byte q.2 (strLen.getD i 0) (fun j => .int ((strByt.getD i []).getD j 0)) A s s.heap ∧ (tmS i).eval #[Value.ref b] s none [] s = some (.ref q.1) := by
    intro i
    by_cases hi : i < 22
    · have hle : strLen.getD i 0 < 2 ^ 31 := by
        have : ∀ i, i < 22 → strLen.getD i 0 < 2 ^ 31 := by decide +kernel
        exact this i hi
      obtain ⟨ak, av, ⟨h1, -⟩, h2⟩ := vk_Sof (args := #[Value.ref b]) (s := s) (N := 1) (tm := fun _ => tmS i) (len := [strLen.getD i 0]) (byt := [strByt.getD i []]) (A := A)
        (fun k hk => by rw [show k = 0 by omega]; exact hle) (fun k _ => hfl _ (fs_ex i hi)) (fun k _ => hfl _ (fs_co i hi)) (fun k _ => hfl _ (fs_ar i hi))
        (fun k hk => by rw [show k = 0 by omega]; exact hfl _ (fs_le i hi)) (fun k hk j hj => by rw [show k = 0 by omega] at hj ⊢; exact hfl _ (fs_el i hi j hj)) (fun i j hi hj hij => absurd (by omega) hij) hA
      have h10 := h1 0 (by decide)
      exact ⟨(ak 0, av 0), fun _ => ⟨h10.1, h10.2.1, h10.2.2.1, h10.2.2.2, h2 0 (by decide)⟩⟩
    · exact ⟨(0, 0), fun h => absurd h hi⟩
  obtain ⟨fS, hfS⟩ := Classical.axiomOfChoice hst
  -- the messages
  have hms : ∀ i : Nat, ∃ a : Nat, ∀ q ∈ strTab, q.2.2.2 = i → 22 ≤ i → (Term.string q.1 q.2.1).eval #[Value.ref b] s none [] s = some (.ref a) := by
    intro i
    by_cases h : ∃ q ∈ strTab, q.2.2.2 = i ∧ 22 ≤ i
    · obtain ⟨q, hq, hi, h13⟩ := h
      obtain ⟨a, c, cA, kA, q1, -⟩ := Cond.exactly_spec (hfl _ (fs_all q hq))
      exact ⟨a, fun q' hq' hi' _ => by rw [← fs_one q hq q' hq' (by omega) (by omega)]; exact q1⟩
    · exact ⟨0, fun q hq hi h13 => absurd ⟨q, hq, hi, h13⟩ h⟩
  obtain ⟨fM, hfM⟩ := Classical.axiomOfChoice hms
  obtain ⟨wx, hwx1, hwx2⟩ := va_Tof (args := #[Value.ref b]) (s := s) (f := fun j => .int (wxL.getD j 0)) (A := A) (N := 8) (by decide) (hfl _ fs_wx.1) (va_eqt (hfl _ fs_wx.2.1)) (fun j hj => va_eqt (hfl _ (fs_wx.2.2 j hj))) hA
  obtain ⟨d1, hd11, hd12⟩ := va_Tof (args := #[Value.ref b]) (s := s) (f := fun j => .int (nI (48 + j % 10))) (A := A) (N := 100) (by decide) (hfl _ fs_d1.1) (va_eqt (hfl _ fs_d1.2.1)) (fun j hj => va_eqt (hfl _ (fs_d1.2.2 j hj))) hA
  obtain ⟨d2, hd21, hd22⟩ := va_Tof (args := #[Value.ref b]) (s := s) (f := fun j => .int (nI (48 + j / 10))) (A := A) (N := 100) (by decide) (hfl _ fs_d2.1) (va_eqt (hfl _ fs_d2.2.1)) (fun j hj => va_eqt (hfl _ (fs_d2.2.2 j hj))) hA
  obtain ⟨wy, hwy1, hwy2⟩ := va_Tof (args := #[Value.ref b]) (s := s) (f := fun j => .int (wyL.getD j 0)) (A := A) (N := 8) (by decide) (hfl _ fs_wy.1) (va_eqt (hfl _ fs_wy.2.1)) (fun j hj => va_eqt (hfl _ (fs_wy.2.2 j hj))) hA
  refine ⟨(fun c => (fC c).1, fun c => (fC c).2, fun t => ([t0, t1, t2, t0, t4, t5, t6, t7] : List ClassId).getD t t0, fun i => if i < 22 then (fS i).1 else fM i, fun i => if i = 900 then wx else if i = 901 then wy else if i = 902 then d1 else if i = 903 then d2 else (fS i).2), ?_, ⟨fun c v hv => hfC c v hv, ?_⟩, ⟨?_, ?_, ?_, ?_, ?_, ?_, ?_, ?_, ?_, ?_, ?_, ?_, ?_, ?_, ?_⟩, ?_⟩
  · exact fun w hw => wok_of (List.mem_filter.mp hw).2 (hts w (hBW w hw))
  · intro k q hk
    match k, hk with
    | 0, hk => cases hk; exact ht0
    | 1, hk => cases hk; exact ht1
    | 2, hk => cases hk; exact ht2
    | 3, hk => cases hk; exact ht0
    | 4, hk => cases hk; exact ht4
    | 5, hk => cases hk; exact ht5
    | 6, hk => cases hk; exact ht6
    | 7, hk => cases hk; exact ht7
    | k + 8, hk => cases (show (none : Option (ClassId × FieldType)) = some q from hk)
  · intro q hq
    refine vk_R.of (hts _ (fs_rf q hq)) ?_
    by_cases h : q.2.2.2 < 22
    · have he := (hfS _ h).2.2.2.2
      show (Term.string q.1 q.2.1).eval #[Value.ref b] s none [] s = some (.ref (if q.2.2.2 < 22 then (fS q.2.2.2).1 else fM q.2.2.2))
      rw [if_pos h]
      rcases fs_sm q hq h with e | e
      · unfold tmS at he
        rw [← e] at he
        exact he
      · exact va_eqR (hfl _ e) he
    · show (Term.string q.1 q.2.1).eval #[Value.ref b] s none [] s = some (.ref (if q.2.2.2 < 22 then (fS q.2.2.2).1 else fM q.2.2.2))
      rw [if_neg h]
      exact hfM _ q hq rfl (by omega)
  · refine ⟨fun i hi => ?_, fun i j hi hj e => ?_⟩
    · have h := hfS i hi
      show va_O "java/lang/String" (if i < 22 then (fS i).1 else fM i) A s s.heap ∧ va_OF "java/lang/String" "coder" "B" (.int 0) (if i < 22 then (fS i).1 else fM i) A s s.heap ∧ va_OF "java/lang/String" "value" "[B" (.ref (if i = 900 then wx else if i = 901 then wy else if i = 902 then d1 else if i = 903 then d2 else (fS i).2)) (if i < 22 then (fS i).1 else fM i) A s s.heap ∧ va_T .byte (if i = 900 then wx else if i = 901 then wy else if i = 902 then d1 else if i = 903 then d2 else (fS i).2) _ _ A s s.heap
      rw [if_pos hi, if_neg (show ¬ i = 900 by omega), if_neg (show ¬ i = 901 by omega), if_neg (show ¬ i = 902 by omega), if_neg (show ¬ i = 903 by omega)]
      exact ⟨h.1, h.2.1, h.2.2.1, h.2.2.2.1⟩
    · have e : (if i < 22 then (fS i).1 else fM i) = (if j < 22 then (fS j).1 else fM j) := e
      rw [if_pos hi, if_pos hj] at e
      have h1 := hfS i hi
      have h2 := hfS j hj
      rw [← e] at h2
      have hv := va_OF_uq h1.2.2.1 h2.2.2.1
      have hv : (fS i).2 = (fS j).2 := Value.ref.inj hv
      have h3 := h2.2.2.2.1
      rw [← hv] at h3
      have hle : ∀ i, i < 22 → strLen.getD i 0 < 2 ^ 31 := by decide +kernel
      obtain ⟨q1, q2⟩ := va_T_uq (hle i hi) (hle j hj) h1.2.2.2.1 h3
      exact fs_df i hi j hj q1 (fun k hk => Value.int.inj (q2 k hk))
  · exact va_Zof (hts _ fs_tb.1) (hts _ fs_in.1) hwx1 hA
  · exact va_Zof (hts _ fs_tb.2.1) (hts _ fs_in.1) hwy1 hA
  · exact hwx2
  · exact hwy2
  · exact va_Zof (hts _ fs_tb.2.2.1) (hts _ fs_in.2.1) (va_eqi (hfl _ fs_st.1)) hA
  · exact va_Zqof (hts _ fs_tb.2.2.2.1) (hts _ fs_in.2.2.1) (hfl _ fs_st.2.1) hA
  · exact vx_Zqof (hts _ fs_tb.2.2.2.2.1) (hts _ fs_in.2.2.2) (hfl _ fs_st.2.2.1) hA
  · exact vx_Zqof (hts _ fs_tb.2.2.2.2.2) (hts _ fs_in.2.2.2) (hfl _ fs_st.2.2.2) hA
  · exact fun q hq => va_Nc.of (hfl _ (fs_nc q hq))
  · exact va_Zof (hts _ fs_ti.1) (hts _ fs_ti.2.2) hd11 hA
  · exact va_Zof (hts _ fs_ti.2.1) (hts _ fs_ti.2.2) hd21 hA
  · exact hd12
  · exact hd22
  · unfold Launch.stackTraces
    rw [hflags]
    decide +kernel
