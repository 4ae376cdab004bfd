/-! ===== load: the two sites change places ===== -/
set_option maxRecDepth 100000 in
theorem cd_X5_parse : Cond.code yX5_parse cX5_parse 3 (some .boolean) ∈ BW := bw_in (List.mem_of_getElem? (i := 939) (by rfl)) (by rfl)
set_option maxRecDepth 100000 in
theorem ml_RX11_86 : Cond.methodLink RX11 86 yX5_parse ∈ BW := bw_in (List.mem_of_getElem? (i := 936) (by rfl)) (by rfl)
set_option maxRecDepth 100000 in
theorem in_X5_parse : Cond.instanceMethod yX5_parse ∈ BW := bw_in (List.mem_of_getElem? (i := 937) (by rfl)) (by rfl)
set_option maxRecDepth 100000 in
theorem sl_X5_parse : Cond.selects RX5 yX5_parse yX5_parse ∈ BW := bw_in (List.mem_of_getElem? (i := 938) (by rfl)) (by rfl)
set_option maxRecDepth 100000 in
theorem cd_X9_survey : Cond.code yX9_survey cX9_survey 4 none ∈ BW := bw_in (List.mem_of_getElem? (i := 1072) (by rfl)) (by rfl)
set_option maxRecDepth 100000 in
theorem ml_RX11_97 : Cond.methodLink RX11 97 yX9_survey ∈ BW := bw_in (List.mem_of_getElem? (i := 1069) (by rfl)) (by rfl)
set_option maxRecDepth 100000 in
theorem in_X9_survey : Cond.instanceMethod yX9_survey ∈ BW := bw_in (List.mem_of_getElem? (i := 1070) (by rfl)) (by rfl)
set_option maxRecDepth 100000 in
theorem sl_X9_survey : Cond.selects RX9 yX9_survey yX9_survey ∈ BW := bw_in (List.mem_of_getElem? (i := 1071) (by rfl)) (by rfl)
set_option maxRecDepth 100000 in
theorem cd_X2_clear : Cond.code yX2_clear cX2_clear 1 none ∈ BW := bw_in (List.mem_of_getElem? (i := 1122) (by rfl)) (by rfl)
set_option maxRecDepth 100000 in
theorem ml_RX11_100 : Cond.methodLink RX11 100 yX2_clear ∈ BW := bw_in (List.mem_of_getElem? (i := 1119) (by rfl)) (by rfl)
set_option maxRecDepth 100000 in
theorem in_X2_clear : Cond.instanceMethod yX2_clear ∈ BW := bw_in (List.mem_of_getElem? (i := 1120) (by rfl)) (by rfl)
set_option maxRecDepth 100000 in
theorem sl_X2_clear : Cond.selects RX2 yX2_clear yX2_clear ∈ BW := bw_in (List.mem_of_getElem? (i := 1121) (by rfl)) (by rfl)
set_option maxRecDepth 100000 in
theorem cd_X6_forget : Cond.code yX6_forget cX6_forget 1 none ∈ BW := bw_in (List.mem_of_getElem? (i := 1126) (by rfl)) (by rfl)
set_option maxRecDepth 100000 in
theorem ml_RX11_103 : Cond.methodLink RX11 103 yX6_forget ∈ BW := bw_in (List.mem_of_getElem? (i := 1123) (by rfl)) (by rfl)
set_option maxRecDepth 100000 in
theorem in_X6_forget : Cond.instanceMethod yX6_forget ∈ BW := bw_in (List.mem_of_getElem? (i := 1124) (by rfl)) (by rfl)
set_option maxRecDepth 100000 in
theorem sl_X6_forget : Cond.selects RX6 yX6_forget yX6_forget ∈ BW := bw_in (List.mem_of_getElem? (i := 1125) (by rfl)) (by rfl)
set_option maxRecDepth 100000 in
theorem cd_X11_load : Cond.code yX11_load cX11_load 3 (some .int) ∈ BW := bw_in (List.mem_of_getElem? (i := 935) (by rfl)) (by rfl)
theorem dX11_load_0 : decode cX11_load 0 = .ok (.aload_n 0, 1) := by decide +kernel
theorem dX11_load_1 : decode cX11_load 1 = .ok (.getfield 10, 3) := by decide +kernel
theorem dX11_load_4 : decode cX11_load 4 = .ok (.aload_n 0, 1) := by decide +kernel
theorem dX11_load_5 : decode cX11_load 5 = .ok (.getfield 65, 3) := by decide +kernel
theorem dX11_load_8 : decode cX11_load 8 = .ok (.invokevirtual 86, 3) := by decide +kernel
theorem dX11_load_11 : decode cX11_load 11 = .ok (.istore_n 1, 1) := by decide +kernel
theorem dX11_load_12 : decode cX11_load 12 = .ok (.aload_n 0, 1) := by decide +kernel
theorem dX11_load_13 : decode cX11_load 13 = .ok (.getfield 10, 3) := by decide +kernel
theorem dX11_load_16 : decode cX11_load 16 = .ok (.getfield 68, 3) := by decide +kernel
theorem dX11_load_19 : decode cX11_load 19 = .ok (.iconst 0, 1) := by decide +kernel
theorem dX11_load_20 : decode cX11_load 20 = .ok (.putfield 82, 3) := by decide +kernel
theorem dX11_load_23 : decode cX11_load 23 = .ok (.iload_n 1, 1) := by decide +kernel
theorem dX11_load_24 : decode cX11_load 24 = .ok (.ifCond .ne 13, 3) := by decide +kernel
theorem dX11_load_27 : decode cX11_load 27 = .ok (.new 90, 3) := by decide +kernel
theorem dX11_load_30 : decode cX11_load 30 = .ok (.dup, 1) := by decide +kernel
theorem dX11_load_31 : decode cX11_load 31 = .ok (.ldc 92, 2) := by decide +kernel
theorem dX11_load_33 : decode cX11_load 33 = .ok (.invokespecial 94, 3) := by decide +kernel
theorem dX11_load_36 : decode cX11_load 36 = .ok (.athrow, 1) := by decide +kernel
theorem dX11_load_37 : decode cX11_load 37 = .ok (.aload_n 0, 1) := by decide +kernel
theorem dX11_load_38 : decode cX11_load 38 = .ok (.getfield 61, 3) := by decide +kernel
theorem dX11_load_41 : decode cX11_load 41 = .ok (.astore_n 2, 1) := by decide +kernel
theorem dX11_load_42 : decode cX11_load 42 = .ok (.aload_n 0, 1) := by decide +kernel
theorem dX11_load_43 : decode cX11_load 43 = .ok (.aload_n 0, 1) := by decide +kernel
theorem dX11_load_44 : decode cX11_load 44 = .ok (.getfield 65, 3) := by decide +kernel
theorem dX11_load_47 : decode cX11_load 47 = .ok (.putfield 61, 3) := by decide +kernel
theorem dX11_load_50 : decode cX11_load 50 = .ok (.aload_n 0, 1) := by decide +kernel
theorem dX11_load_51 : decode cX11_load 51 = .ok (.aload_n 2, 1) := by decide +kernel
theorem dX11_load_52 : decode cX11_load 52 = .ok (.putfield 65, 3) := by decide +kernel
theorem dX11_load_55 : decode cX11_load 55 = .ok (.aload_n 0, 1) := by decide +kernel
theorem dX11_load_56 : decode cX11_load 56 = .ok (.getfield 61, 3) := by decide +kernel
theorem dX11_load_59 : decode cX11_load 59 = .ok (.invokevirtual 97, 3) := by decide +kernel
theorem dX11_load_62 : decode cX11_load 62 = .ok (.aload_n 0, 1) := by decide +kernel
theorem dX11_load_63 : decode cX11_load 63 = .ok (.getfield 19, 3) := by decide +kernel
theorem dX11_load_66 : decode cX11_load 66 = .ok (.invokevirtual 100, 3) := by decide +kernel
theorem dX11_load_69 : decode cX11_load 69 = .ok (.aload_n 0, 1) := by decide +kernel
theorem dX11_load_70 : decode cX11_load 70 = .ok (.getfield 26, 3) := by decide +kernel
theorem dX11_load_73 : decode cX11_load 73 = .ok (.invokevirtual 103, 3) := by decide +kernel
theorem dX11_load_76 : decode cX11_load 76 = .ok (.aload_n 0, 1) := by decide +kernel
theorem dX11_load_77 : decode cX11_load 77 = .ok (.getfield 61, 3) := by decide +kernel
theorem dX11_load_80 : decode cX11_load 80 = .ok (.getfield 106, 3) := by decide +kernel
theorem dX11_load_83 : decode cX11_load 83 = .ok (.ireturn, 1) := by decide +kernel
def swR (R : Nat → Nat → Nat) (o : Nat) : Nat → Nat → Nat := fun a j => if a = o ∧ j = 9 then R o 8 else if a = o ∧ j = 8 then R o 9 else R a j
theorem swR_sh {R : Nat → Nat → Nat} {o : Nat} (h : ShR R) (ho : Ok 202 o 11) : ShR (swR R o) := by
  intro a c k d hc hk
  unfold swR
  by_cases h9 : a = o ∧ k = 9
  · rw [if_pos h9]
    obtain ⟨rfl, rfl⟩ := h9
    have e : c = 11 := hc.symm.trans ho.1
    subst e
    exact h a 11 8 d ho.1 hk
  · rw [if_neg h9]
    by_cases h8 : a = o ∧ k = 8
    · rw [if_pos h8]
      obtain ⟨rfl, rfl⟩ := h8
      have e : c = 11 := hc.symm.trans ho.1
      subst e
      exact h a 11 9 d ho.1 hk
    · rw [if_neg h8]
      exact h a c k d hc hk
def f_X11_load (N : Nat) (R : Nat → Nat → Nat) (σ : SI) (x0 : Nat) : Option (((Int32 ⊕ Nat) × SI) × (Nat → Nat → Nat)) :=
  bd (f_X5_parse N R σ (R x0 0) (R x0 9)) (fun a1 σ1 => sq (up σ1 (R (R x0 0) 0) 1 0) (fun σ2 => if a1 = 0 then some ((.inr 1, σ2), R) else
    bd (f_X9_survey N (swR R x0) σ2 (swR R x0 x0 8)) (fun _ σ3 => bd (f_X2_clear N (swR R x0) σ3 (swR R x0 x0 1)) (fun _ σ4 => bd (f_X6_forget N (swR R x0) σ4 (swR R x0 x0 2)) (fun _ σ5 => some ((.inl (σ5 (swR R x0 x0 8) 11), σ5), swR R x0))))))
section VTS
variable {l : Launch} {g : GL} {p : Program} {e : Jvm.Env} {R : Room} {s : State} {m : MethodId} {args : Array Value} {below : List Frame} {meth : Method} {c : Code} {H : Heap} {locs : List Loc} {cells slots : Nat} {Q : State → Prop}
variable {cc : ByteArray} {nL : Nat} {own : String} {pc n n' d mc ms mL : Nat} {ls : Array Slot} {rest st : List Value} {σ : Sg} {id kc index : Nat} {Cn : String} {T : u_T} {N : Nat} {y : MethodName} {b : ByteArray} {ret : Option FieldType} {As : List Value} {post : Option Value → Sg → Prop} {px : String → Sg → Prop}
/-- throw new X("text"): ldc_w -/
theorem v_throwS {post0 : Option Value → Sg → Prop} {px0 : String → Sg → Prop} {mc0 ms0 : Nat} (C : Cx l g p s m meth c cc nL own) (S : StL g 202 s σ H locs) {cls text : String} {names : List String} {ik is ic ia : Nat} (hcls : Bundle.fit cls = true) (hnames : ∀ n ∈ names, Bundle.fit n = true)
    (hk : Cond.classLink own ik cls ∈ BW) (hini : Cond.initialized cls ∈ BW) (hstr : (own, is, text, ia) ∈ strTab) (hat : ∀ w ∈ vx_atS own ic cls names, w ∈ BW) (hgood : ∀ w ∈ Cond.classLink own ik cls :: Cond.initialized cls :: vx_atS own ic cls names, vx_ot w = true) (hsize : ls.size = nL)
    (d0 : decode cc pc = .ok (.new ik, 3)) (d3 : decode cc (pc + 3) = .ok (.dup, 1)) (d4 : decode cc (pc + 4) = .ok (.ldc is, 2)) (d6 : decode cc (pc + 6) = .ok (.invokespecial ic, 3)) (d9 : decode cc (pc + 9) = .ok (.athrow, 1))
    (hout : ∀ x ∈ c.exceptionTable.toList, covers x (pc + 9) = false)
    (hRf : names.length + 3 < R.frames) (hRl : (rest.map fun v => v.category).sum + (13 * (names.length + 1) + 43) ≤ R.locals) (hRc : cells + 1 ≤ R.cells) (hRs : slots + 6 ≤ R.slots) (hc0 : cells + 1 ≤ mc0) (hs0 : slots + 6 ≤ ms0) (hpx : px0 cls σ) :
    W p l e R s m args below meth c H locs cells slots (vx_MQ below (Qg g 202 post0) (Xg g 202 px0) args s mc0 ms0 (gA g)) (F0 m pc ls rest) := by
  have E := C.2.2.2.2.1
  have EX := E.x C.2.2.2.2.2.1
  refine vx_throwS C.1 C.2.1 E.2.2.2 C.2.2.2.1 hcls hnames (E.w hk) (E.w hini) (EX.1 _ hstr) (fun w hw => E.w (hat w hw)) hgood EX.2.2.2.2.2.2.2.2.1 EX.2.2.2.2.2.2.2.2.2.1 S.2 (hsize.trans C.2.2.1.symm) d0 d3 d4 d6 d9 hout hRf hRl hRc hRs C.2.2.2.2.2.2 (fun t hv hz hq => ?_) S.2.2.2 hc0 hs0
  refine ⟨⟨σ, hpx, fun id h0 h1 => ?_, S.1.2.1, fun h => absurd h (by decide), fun h => absurd h (by decide)⟩, Nat.le_trans S.2.1 hz, fun q h1 h2 => ?_⟩
  · have hh := S.1.1 id h0 h1
    exact hh.kept (hq _ hh.lt)
  · rw [hq q (Nat.lt_of_lt_of_le h1 S.2.1)]
    exact S.2.2.1 q h1 h2
end VTS
set_option maxHeartbeats 4000000 in
set_option maxRecDepth 100000 in
theorem ok_X11_load {l : Launch} {g : GL} {R : Nat → Nat → Nat} {L : Nat → Nat → Int64} {N : Nat} {σ : SI} {x0 : Nat} {r : ((Int32 ⊕ Nat) × SI) × (Nat → Nat → Nat)} (h : f_X11_load N R σ x0 = some r) (hSh : ShR R) (hx0 : Ok 202 x0 11) : CtX l g 10 yX11_load cX11_load 3 (some .int) 202 202 1 6 [.ref (ga g x0)] (mkS σ R L) (PIX r.2 L r.1) (PX r.2 L r.1) := by
  refine vx_ofW (cc := cX11_load) (maxL := 3) (ret := (some .int)) (by decide) rfl ?_
  intro p e s m args below meth c s₁ B hml hT hv
  obtain ⟨rfl, hE, hLo, hWd⟩ := hv
  have hr : meth.sig.returnType = (some .int) := B.returns
  have C : Cx l g p s m meth c cX11_load 3 RX11 := ⟨B.exec, B.bytes, hml, findClass_of_methodNamed B.named, hE, hLo, B.notSynchronized⟩
  have S : S2 g s σ R L s.heap [] := ⟨hWd, va_S.rf⟩
  have hx := C.1
  have hb := C.2.1
  have hl := lv_entry ([.ref (ga g x0)]) (n := 3) (Nat.le_of_ble_eq_true rfl)
  rw [lg_entry_eq]
  generalize (lg_sl ([.ref (ga g x0)]) ++ List.replicate (3 - (lg_sl ([.ref (ga g x0)])).length) Slot.unset).toArray = ls at hl ⊢
  have hl : lv_has ls 3 [(0, .ref (ga g x0))] := hl
  generalize hH : s.heap = H at S ⊢
  generalize hlc : ([] : List Loc) = locs at S ⊢
  rw [f_X11_load] at h
  have hP : Ok 202 (R x0 0) 5 := hSh x0 11 0 5 hx0.1 rfl
  have hT0 : Ok 202 (R (R x0 0) 0) 10 := hSh (R x0 0) 5 0 10 hP.1 rfl
  have hA : Ok 202 (R x0 8) 9 := hSh x0 11 8 9 hx0.1 rfl
  have hB : Ok 202 (R x0 9) 9 := hSh x0 11 9 9 hx0.1 rfl
  refine lv_aload_n hx hb dX11_load_0 rfl (lv_at hl 0 rfl) ?_
  refine x_getR C S KX11 hx0 0 (by decide) rfl rfl fl_RX11_10 hP dX11_load_1 ?_
  refine lv_aload_n hx hb dX11_load_4 rfl (lv_at hl 0 rfl) ?_
  refine x_getR C S KX11 hx0 9 (by decide) rfl rfl fl_RX11_65 hB dX11_load_5 ?_
  obtain ⟨a1, σ1, hc1, h⟩ := bd_el h
  refine x_callVI C S KX5 hP (ok_X5_parse (L := L) hc1 hSh hP hB) ⟨cd_X5_parse, ni_RX5, ml_RX11_86, in_X5_parse, sl_X5_parse⟩ ⟨by decide, by decide⟩ rfl (rm_ok (by decide) (by decide)) hl.1 rfl (Nat.le_of_ble_eq_true rfl) ⟨by decide, by decide⟩ dX11_load_8 (fun H locs S => ?_)
  refine lv_istore_n (lv' := [(1, .int a1), (0, .ref (ga g x0))]) hx hb dX11_load_11 rfl hl (by decide) rfl (fun ls hl => ?_)
  refine lv_aload_n hx hb dX11_load_12 rfl (lv_at hl 1 rfl) ?_
  refine x_getR C S KX11 hx0 0 (by decide) rfl rfl fl_RX11_10 hP dX11_load_13 ?_
  refine x_getR C S KX5 hP 0 (by decide) rfl rfl fl_RX11_68 hT0 dX11_load_16 ?_
  refine lv_iconst (v := (0 : Int32)) hx hb dX11_load_19 (by decide) ?_
  obtain ⟨σ2, hs2, h⟩ := sq_el h
  refine x_putI C S KX10 hT0 1 (by decide) rfl rfl rfl ⟨rfl, rfl⟩ fl_RX11_82 dX11_load_20 hs2 (fun H locs S => ?_)
  refine lv_iload_n hx hb dX11_load_23 rfl (lv_at hl 0 rfl) ?_
  refine lv_if_ne (tgt := 37) hx hb dX11_load_24 (by decide) (fun c1 => ?_) (fun c1 => ?_)
  · have h := it_n c1 h
    have hSh := swR_sh hSh hx0
    have hA' : Ok 202 (swR R x0 x0 8) 9 := hSh x0 11 8 9 hx0.1 rfl
    have hHi : Ok 202 (swR R x0 x0 1) 2 := hSh x0 11 1 2 hx0.1 rfl
    have hPl : Ok 202 (swR R x0 x0 2) 6 := hSh x0 11 2 6 hx0.1 rfl
    refine lv_aload_n hx hb dX11_load_37 rfl (lv_at hl 1 rfl) ?_
    refine x_getR C S KX11 hx0 8 (by decide) rfl rfl fl_RX11_61 hA dX11_load_38 ?_
    refine lv_astore_n (lv' := [(2, .ref (ga g (R x0 8))), (1, .int a1), (0, .ref (ga g x0))]) hx hb dX11_load_41 rfl hl (by decide) rfl (fun ls hl => ?_)
    refine lv_aload_n hx hb dX11_load_42 rfl (lv_at hl 2 rfl) ?_
    refine lv_aload_n hx hb dX11_load_43 rfl (lv_at hl 2 rfl) ?_
    refine x_getR C S KX11 hx0 9 (by decide) rfl rfl fl_RX11_65 hB dX11_load_44 ?_
    refine v_putR C S hx0 KX11.1 KX11.2.1 tyX11 KX11.2.2.1 KX11.2.2.2.1 KX11.2.2.2.2 8 (by decide) rfl rfl hB (fun _ => rfl) (fun _ => rfl) rfl fl_RX11_61 dX11_load_47 (fun H locs S => ?_)
    refine lv_aload_n hx hb dX11_load_50 rfl (lv_at hl 2 rfl) ?_
    refine lv_aload_n hx hb dX11_load_51 rfl (lv_at hl 0 rfl) ?_
    refine v_putR C S hx0 KX11.1 KX11.2.1 tyX11 KX11.2.2.1 KX11.2.2.2.1 KX11.2.2.2.2 9 (by decide) rfl rfl hA (fun _ => rfl) (fun _ => rfl) rfl fl_RX11_65 dX11_load_52 (fun H locs S => ?_)
    have S : S2 g s σ2 (swR R x0) L H locs := S
    refine lv_aload_n hx hb dX11_load_55 rfl (lv_at hl 2 rfl) ?_
    refine x_getR C S KX11 hx0 8 (by decide) rfl rfl fl_RX11_61 hA' dX11_load_56 ?_
    obtain ⟨a3, σ3, hc3, h⟩ := bd_el h
    refine x_callVV C S KX9 hA' (ok_X9_survey (L := L) hc3 hSh hA') ⟨cd_X9_survey, ni_RX9, ml_RX11_97, in_X9_survey, sl_X9_survey⟩ ⟨by decide, by decide⟩ rfl (rm_ok (by decide) (by decide)) hl.1 rfl (Nat.le_of_ble_eq_true rfl) ⟨by decide, by decide⟩ dX11_load_59 (fun H locs S => ?_)
    refine lv_aload_n hx hb dX11_load_62 rfl (lv_at hl 2 rfl) ?_
    refine x_getR C S KX11 hx0 1 (by decide) rfl rfl fl_RX11_19 hHi dX11_load_63 ?_
    obtain ⟨a4, σ4, hc4, h⟩ := bd_el h
    refine x_callVV C S KX2 hHi (ok_X2_clear (L := L) hc4 hSh hHi) ⟨cd_X2_clear, ni_RX2, ml_RX11_100, in_X2_clear, sl_X2_clear⟩ ⟨by decide, by decide⟩ rfl (rm_ok (by decide) (by decide)) hl.1 rfl (Nat.le_of_ble_eq_true rfl) ⟨by decide, by decide⟩ dX11_load_66 (fun H locs S => ?_)
    refine lv_aload_n hx hb dX11_load_69 rfl (lv_at hl 2 rfl) ?_
    refine x_getR C S KX11 hx0 2 (by decide) rfl rfl fl_RX11_26 hPl dX11_load_70 ?_
    obtain ⟨a5, σ5, hc5, h⟩ := bd_el h
    refine x_callVV C S KX6 hPl (ok_X6_forget (L := L) hc5 hSh hPl) ⟨cd_X6_forget, ni_RX6, ml_RX11_103, in_X6_forget, sl_X6_forget⟩ ⟨by decide, by decide⟩ rfl (rm_ok (by decide) (by decide)) hl.1 rfl (Nat.le_of_ble_eq_true rfl) ⟨by decide, by decide⟩ dX11_load_73 (fun H locs S => ?_)
    refine lv_aload_n hx hb dX11_load_76 rfl (lv_at hl 2 rfl) ?_
    refine x_getR C S KX11 hx0 8 (by decide) rfl rfl fl_RX11_61 hA' dX11_load_77 ?_
    refine x_getI C S KX9 hA' 11 (by decide) rfl rfl fl_RX11_106 dX11_load_80 ?_
    cases h
    exact x_iretX (r := (.inl (σ5 (swR R x0 x0 8) 11), σ5)) C S hr (by decide) (by decide) rfl dX11_load_83
  · have h := it_p c1 h
    cases h
    exact v_throwS C S (cls := "java/lang/IllegalArgumentException") (names := ["java/lang/RuntimeException", "java/lang/Exception"]) (by decide) (by decide) cl_RX11_90 ni_ex1 (show (RX11, 92, "the text does not match", 22) ∈ strTab by decide) at_RX11_94.1 at_RX11_94.2 hl.1 dX11_load_27 dX11_load_30 dX11_load_31 dX11_load_33 dX11_load_36 (fun x hx => (hT x hx).elim) (by decide) (Nat.le_of_ble_eq_true rfl) (by decide) (by decide) (by decide) (by decide) ⟨1, rfl, rfl, rfl⟩
