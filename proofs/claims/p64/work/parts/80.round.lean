set_option maxRecDepth 100000 in
theorem fn_RL_153 : Cond.fieldLinkNest RL 153 RX12 "text" "Ljava/lang/String;" RL ∈ BW := bw_in (List.mem_of_getElem? (i := 860) (by rfl)) (by rfl)
set_option maxRecDepth 100000 in
theorem fn_RL_164 : Cond.fieldLinkNest RL 164 RX12 "blasts" "I" RL ∈ BW := bw_in (List.mem_of_getElem? (i := 830) (by rfl)) (by rfl)
set_option maxRecDepth 100000 in
theorem cl_RL_8 : Cond.classLink RL 8 RX11 ∈ BW := bw_in (List.mem_of_getElem? (i := 69) (by rfl)) (by rfl)
set_option maxRecDepth 100000 in
theorem cl_RL_148 : Cond.classLink RL 148 RX12 ∈ BW := bw_in (List.mem_of_getElem? (i := 463) (by rfl)) (by rfl)
set_option maxRecDepth 100000 in
theorem iz_RX12 : Cond.instantiable RX12 27 ∈ BW := bw_in (List.mem_of_getElem? (i := 464) (by rfl)) (by rfl)
set_option maxRecDepth 100000 in
theorem ml_RL_147 : Cond.methodLink RL 147 yX11_init ∈ BW := bw_in (List.mem_of_getElem? (i := 71) (by rfl)) (by rfl)
set_option maxRecDepth 100000 in
theorem ml_RL_150 : Cond.methodLink RL 150 yX12_init ∈ BW := bw_in (List.mem_of_getElem? (i := 465) (by rfl)) (by rfl)
set_option maxRecDepth 100000 in
theorem in_X12_init : Cond.instanceMethod yX12_init ∈ BW := bw_in (List.mem_of_getElem? (i := 466) (by rfl)) (by rfl)
set_option maxRecDepth 100000 in
theorem ml_RL_157 : Cond.methodLink RL 157 yL_text ∈ BW := bw_in (List.mem_of_getElem? (i := 1484) (by rfl)) (by rfl)
set_option maxRecDepth 100000 in
theorem st_L_text : Cond.static yL_text ∈ BW := bw_in (List.mem_of_getElem? (i := 1485) (by rfl)) (by rfl)
set_option maxRecDepth 100000 in
theorem ml_RL_171 : Cond.methodLink RL 171 yL_isKnown ∈ BW := bw_in (List.mem_of_getElem? (i := 1508) (by rfl)) (by rfl)
set_option maxRecDepth 100000 in
theorem st_L_isKnown : Cond.static yL_isKnown ∈ BW := bw_in (List.mem_of_getElem? (i := 1509) (by rfl)) (by rfl)
set_option maxRecDepth 100000 in
theorem cd_L_isKnown : Cond.code yL_isKnown cL_isKnown 9 (some .boolean) ∈ BW := bw_in (List.mem_of_getElem? (i := 1510) (by rfl)) (by rfl)
set_option maxRecDepth 100000 in
theorem cd_X11_errorKind : Cond.code yX11_errorKind cX11_errorKind 1 (some .int) ∈ BW := bw_in (List.mem_of_getElem? (i := 462) (by rfl)) (by rfl)
set_option maxRecDepth 100000 in
theorem ml_RL_168 : Cond.methodLink RL 168 yX11_errorKind ∈ BW := bw_in (List.mem_of_getElem? (i := 459) (by rfl)) (by rfl)
set_option maxRecDepth 100000 in
theorem in_X11_errorKind : Cond.instanceMethod yX11_errorKind ∈ BW := bw_in (List.mem_of_getElem? (i := 460) (by rfl)) (by rfl)
set_option maxRecDepth 100000 in
theorem sl_X11_errorKind : Cond.selects RX11 yX11_errorKind yX11_errorKind ∈ BW := bw_in (List.mem_of_getElem? (i := 461) (by rfl)) (by rfl)
theorem dL_law_47 : decode cL_law 47 = .ok (.invokespecial 150, 3) := by decide +kernel
theorem dL_law_109 : decode cL_law 109 = .ok (.iload 5, 2) := by decide +kernel
theorem dL_law_111 : decode cL_law 111 = .ok (.aload 4, 2) := by decide +kernel
theorem dL_law_113 : decode cL_law 113 = .ok (.getfield 164, 3) := by decide +kernel
theorem dL_law_116 : decode cL_law 116 = .ok (.if_icmp .ge 23, 3) := by decide +kernel
theorem dL_law_119 : decode cL_law 119 = .ok (.aload_n 3, 1) := by decide +kernel
theorem dL_law_120 : decode cL_law 120 = .ok (.aload 4, 2) := by decide +kernel
theorem dL_law_122 : decode cL_law 122 = .ok (.aload_n 1, 1) := by decide +kernel
theorem dL_law_123 : decode cL_law 123 = .ok (.iload 5, 2) := by decide +kernel
theorem dL_law_125 : decode cL_law 125 = .ok (.invokestatic 171, 3) := by decide +kernel
theorem dL_law_128 : decode cL_law 128 = .ok (.ifCond .ne 5, 3) := by decide +kernel
theorem dL_law_133 : decode cL_law 133 = .ok (.iinc 5 1, 3) := by decide +kernel
theorem dL_law_136 : decode cL_law 136 = .ok (.goto (-27), 3) := by decide +kernel
theorem dL_law_34 : decode cL_law 34 = .ok (.new 8, 3) := by decide +kernel
theorem dL_law_37 : decode cL_law 37 = .ok (.dup, 1) := by decide +kernel
theorem dL_law_38 : decode cL_law 38 = .ok (.invokespecial 147, 3) := by decide +kernel
theorem dL_law_41 : decode cL_law 41 = .ok (.astore_n 3, 1) := by decide +kernel
theorem dL_law_42 : decode cL_law 42 = .ok (.new 148, 3) := by decide +kernel
theorem dL_law_45 : decode cL_law 45 = .ok (.dup, 1) := by decide +kernel
theorem dL_law_46 : decode cL_law 46 = .ok (.aload_n 1, 1) := by decide +kernel
theorem dL_law_50 : decode cL_law 50 = .ok (.astore 4, 2) := by decide +kernel
theorem dL_law_52 : decode cL_law 52 = .ok (.aload 4, 2) := by decide +kernel
theorem dL_law_54 : decode cL_law 54 = .ok (.getfield 153, 3) := by decide +kernel
theorem dL_law_57 : decode cL_law 57 = .ok (.invokevirtual 120, 3) := by decide +kernel
theorem dL_law_60 : decode cL_law 60 = .ok (.sipush 400, 3) := by decide +kernel
theorem dL_law_63 : decode cL_law 63 = .ok (.if_icmp .le 6, 3) := by decide +kernel
theorem dL_law_69 : decode cL_law 69 = .ok (.aload_n 3, 1) := by decide +kernel
theorem dL_law_70 : decode cL_law 70 = .ok (.aload 4, 2) := by decide +kernel
theorem dL_law_72 : decode cL_law 72 = .ok (.getfield 153, 3) := by decide +kernel
theorem dL_law_75 : decode cL_law 75 = .ok (.invokestatic 157, 3) := by decide +kernel
theorem dL_law_78 : decode cL_law 78 = .ok (.ifCond .eq 26, 3) := by decide +kernel
theorem dL_law_81 : decode cL_law 81 = .ok (.aload_n 3, 1) := by decide +kernel
theorem dL_law_82 : decode cL_law 82 = .ok (.iconst 0, 1) := by decide +kernel
theorem dL_law_83 : decode cL_law 83 = .ok (.iconst 0, 1) := by decide +kernel
theorem dL_law_84 : decode cL_law 84 = .ok (.iconst 0, 1) := by decide +kernel
theorem dL_law_85 : decode cL_law 85 = .ok (.iconst 0, 1) := by decide +kernel
theorem dL_law_86 : decode cL_law 86 = .ok (.invokestatic 160, 3) := by decide +kernel
theorem dL_law_89 : decode cL_law 89 = .ok (.aload 4, 2) := by decide +kernel
theorem dL_law_91 : decode cL_law 91 = .ok (.getfield 164, 3) := by decide +kernel
theorem dL_law_94 : decode cL_law 94 = .ok (.if_icmp .ne 10, 3) := by decide +kernel
theorem dL_law_97 : decode cL_law 97 = .ok (.aload_n 3, 1) := by decide +kernel
theorem dL_law_98 : decode cL_law 98 = .ok (.invokevirtual 168, 3) := by decide +kernel
theorem dL_law_101 : decode cL_law 101 = .ok (.ifCond .eq 5, 3) := by decide +kernel
theorem dL_law_106 : decode cL_law 106 = .ok (.iconst 0, 1) := by decide +kernel
theorem dL_law_107 : decode cL_law 107 = .ok (.istore 5, 2) := by decide +kernel
/-! ===== a round of the law ===== -/
theorem Qc.keepH {σ σ' : SI} {sd : SDt} {ws : List WDt} {ns : List NDt} {rs : List RDt} {bs : List BDt} (h : Qc σ sd ws ns rs bs) (hq : QOk sd ws ns rs bs) (f : ∀ o j, 177 < o → o ≠ 202 → σ' o j = σ o j) : Qc σ' sd ws ns rs bs := by
  obtain ⟨⟨c1, c2, c3, c4, c5, c6⟩, hw, hn, hr, hb⟩ := h
  have hb3 := hq.2.2.2.2.1.2
  refine ⟨⟨(f _ _ (by decide) (by decide)).trans c1, (f _ _ (by decide) (by decide)).trans c2, (f _ _ (by decide) (by decide)).trans c3, (f _ _ (by decide) (by decide)).trans c4, (f _ _ (by decide) (by decide)).trans c5, (f _ _ (by decide) (by decide)).trans c6⟩, fun q hq => ⟨(f _ _ (by decide) (by decide)).trans (hw q hq).1, (f _ _ (by decide) (by decide)).trans (hw q hq).2⟩, fun j hj => ?_, fun j hj => ?_, fun j hj => ?_⟩
  · obtain ⟨g1, g2, g3, g4, g5⟩ := hn j hj
    exact ⟨(f _ _ (by decide) (by decide)).trans g1, (f _ _ (by decide) (by decide)).trans g2, (f _ _ (by decide) (by decide)).trans g3, (f _ _ (by decide) (by decide)).trans g4, (f _ _ (by decide) (by decide)).trans g5⟩
  · obtain ⟨g1, g2, g3, g4⟩ := hr j hj
    exact ⟨(f _ _ (by decide) (by decide)).trans g1, (f _ _ (by decide) (by decide)).trans g2, (f _ _ (by decide) (by decide)).trans g3, (f _ _ (by decide) (by decide)).trans g4⟩
  · obtain ⟨g1, g2, g3, g4, g5⟩ := hb j hj
    exact ⟨(f _ _ (by decide) (by decide)).trans g1, (f _ _ (by decide) (by decide)).trans g2, (f _ _ (by decide) (by decide)).trans g3, (f _ _ (by decide) (by decide)).trans g4, fun c hc => ⟨(f _ _ (by omega) (by omega)).trans (g5 c hc).1, (f _ _ (by omega) (by omega)).trans (g5 c hc).2⟩⟩
theorem ek_0 {N s : Nat} {R : Nat → Nat → Nat} {σ : SI} (h : RO R s) (e : σ 3 4 = 0) : f_X11_errorKind N R σ 1 = some (0, σ) := by
  unfold f_X11_errorKind
  rw [h.r1_0, h.r2_0, e]
theorem zF_31 : zF.1 3 1 = nI 0 := by decide +kernel
section VLC
variable {l : Launch} {g : GL} {p : Program} {e : Jvm.Env} {R0 : Room} {s : State} {m : MethodId} {args : Array Value} {below : List Frame} {meth : Method} {c : Code} {H : Heap} {locs : List Loc} {cells slots : Nat} {Q : State → Prop} {ls : Array Slot} {rest : List Value}
/-- the quarry's constructor is called -/
theorem l_ctor (C : Cx l g p s m meth c cL_law 6 RL) (hg : gZ g = 1) {x0 : Int32} (hDr : va_at (gD g) vwCl (ga g 202, .inr (13, [.int x0])) (gH g)) (S : StL g 178 s zm_0 H locs) (hRf : 20 ≤ R0.frames) (hRl : 1500 ≤ R0.locals) (hsize : ls.size = 6) (hW : (rest.map fun v => v.category).sum ≤ 8) (hf : cells + 360 ≤ R0.cells ∧ slots + 240000 ≤ R0.slots)
    (kk : ∀ (σ : SI) (R : Nat → Nat → Nat) (a v : Nat) (t : List Nat) (sd : SDt) (ws : List WDt) (ns : List NDt) (rs : List RDt) (bs : List BDt) (H1 : Heap) (locs1 : List Loc), Quarry σ t sd ws ns rs bs → (∀ o j, o ≤ 177 → σ o j = zF.1 o j) → RDr R → ShR R → TL g R a v → Asc t → TXt g a v t H1 → S2 g s σ R zF.2.2.1 H1 locs1 → W p l e R0 s m args below meth c H1 locs1 (cells + 360) (slots + 240000) Q (F0 m 50 ls rest)) : W p l e R0 s m args below meth c H locs cells slots Q (F0 m 47 ls (.ref (ga g 202) :: .ref (ga g 178) :: rest)) := by
  have hr := va_runI (p := p) (l := l) (e := e) (R := R0) (s := s) (m := m) (args := args) (below := below) (meth := meth) (c := c) (H := H) (locs := locs) (cells := cells) (slots := slots) (g := F0 m 47 ls (.ref (ga g 202) :: .ref (ga g 178) :: rest)) (rest := rest) (Ts := []) ⟨C.1, C.2.1, C.2.2.1, C.2.2.2.1, fun w h => by cases h⟩ (n_ctor hg hDr) ⟨v_cb C cd_X12_init ni_RX12 ml_RL_150 ⟨by decide, by decide⟩ rfl ⟨by omega, by omega⟩, rfl, C.2.2.2.2.1.w in_X12_init⟩ ⟨Pcc.blind, v_pcc C S _⟩ rfl rfl hsize rfl (lv_room hW) dL_law_47 hf
  intro T hT X
  obtain ⟨v, st₀, t, T', L', h0, X', hL, e1, e2, ⟨⟨σ, R, a, v1, t1, sd, ws, ns, rs, bs, ho, hQ, hP, hRD, hSh, hTL, hA, hTx, hw⟩, hF⟩, step⟩ := hr T hT X
  cases ho
  obtain ⟨t2, a1, b1⟩ := kk σ R a v1 t1 sd ws ns rs bs T'.heap (locs ++ L') hQ hP hRD hSh hTL hA (by rw [e1]; exact hTx) (StL.lift S h0 e1 hw hF hL) T' rfl X'
  exact ⟨t2, step t2 a1, b1⟩
end VLC
set_option maxHeartbeats 4000000 in
set_option maxRecDepth 100000 in
theorem k_blasts {l : Launch} {g : GL} {p : Program} {e : Jvm.Env} {R0 : Room} {s : State} {m : MethodId} {args : Array Value} {below : List Frame} {meth : Method} {c : Code} {Q : State → Prop} {R : Nat → Nat → Nat} {L : Nat → Nat → Int64} {b0 i : Nat} {sd : SDt} {ws : List WDt} {ns : List NDt} {rs : List RDt} {bs : List BDt} (C : Cx l g p s m meth c cL_law 6 RL) (hSh : ShR R) (hRD : RDq R) (hok : QOk sd ws ns rs bs) (hRf : 20 ≤ R0.frames) (hRl : 1500 ≤ R0.locals) {cells2 slots2 : Nat} (hf : cells2 ≤ R0.cells ∧ slots2 ≤ R0.slots) : ∀ (n j cells slots : Nat) (σ : SI) (H : Heap) (locs : List Loc) (ls : Array Slot), j + n = bs.length → cells + 120 * n ≤ cells2 → slots + 720 * n ≤ slots2 → Kn R σ sd ws ns rs bs → S2 g s σ R L H locs → lv_has ls 6 [(5, .int (nI j)), (4, .ref (ga g 178)), (3, .ref (ga g 1)), (2, .int (nI i)), (1, .ref (ga g 202)), (0, .ref b0)] → (∀ (σ1 : SI) (H1 : Heap) (locs1 : List Loc) (ls1 : Array Slot), S2 g s σ1 R L H1 locs1 → lv_has ls1 6 [(2, .int (nI i)), (1, .ref (ga g 202)), (0, .ref b0)] → W p l e R0 s m args below meth c H1 locs1 cells2 slots2 Q (F0 m 139 ls1 [])) → W p l e R0 s m args below meth c H locs cells slots Q (F0 m 109 ls []) := by
  have hx := C.1
  have hb : c.code = cL_law := C.2.1
  have hb4 := hok.2.2.2.2.1.2
  intro n
  induction n with
  | zero =>
    intro j cells slots σ H locs ls hj hc hs hK S hl kk
    have h2 : σ 178 2 = nI bs.length := hK.2.1.2.2.1
    refine lv_iload hx hb dL_law_109 (lv_at hl 0 rfl) ?_
    refine lv_aload hx hb dL_law_111 (lv_at hl 1 rfl) ?_
    refine k_getI C S 2 (by decide) rfl rfl h2 fn_RL_164 dL_law_113 ?_
    refine lv_icmp_ge (tgt := 139) hx hb dL_law_116 (by decide) (fun _ => ?_) (fun c => absurd (nI_le (by omega) (by omega)) c)
    refine W.widen (k := cells2) (n := slots2) (by omega) (by omega) ?_
    exact kk σ H locs ls S (lv_sub hl [3, 4, 5] rfl)
  | succ n ih =>
    intro j cells slots σ H locs ls hj hc hs hK S hl kk
    have h2 : σ 178 2 = nI bs.length := hK.2.1.2.2.1
    have hjb : j < bs.length := by omega
    refine lv_iload hx hb dL_law_109 (lv_at hl 0 rfl) ?_
    refine lv_aload hx hb dL_law_111 (lv_at hl 1 rfl) ?_
    refine k_getI C S 2 (by decide) rfl rfl h2 fn_RL_164 dL_law_113 ?_
    refine lv_icmp_ge (tgt := 139) hx hb dL_law_116 (by decide) (fun c => absurd c (nI_ge (by omega) (by omega))) (fun _ => ?_)
    refine lv_aload_n hx hb dL_law_119 rfl (lv_at hl 2 rfl) ?_
    refine lv_aload hx hb dL_law_120 (lv_at hl 1 rfl) ?_
    refine lv_aload_n hx hb dL_law_122 rfl (lv_at hl 4 rfl) ?_
    refine lv_iload hx hb dL_law_123 (lv_at hl 0 rfl) ?_
    refine v_callS C S (n_known (L := L) hRD hok hjb hSh hK) ⟨cd_L_isKnown, ni_RL, ml_RL_171, st_L_isKnown⟩ ⟨by decide, by decide⟩ rfl ⟨by omega, by omega⟩ hl.1 rfl (Nat.le_of_ble_eq_true rfl) ⟨by omega, by omega⟩ dL_law_125 (fun w σ9 H locs hp S => ?_)
    obtain ⟨rfl, σ1, rfl, hf1⟩ := hp
    have S : S2 g s σ1 R L H locs := S
    change W p l e R0 s m args below meth c H locs (cells + 120) (slots + 720) Q (F0 m 128 ls (Value.int (1 : Int32) :: []))
    refine lv_if_ne (tgt := 133) hx hb dL_law_128 (by decide) (fun _ => ?_) (fun c => absurd c (by decide))
    refine lv_iinc (v := nI (j + 1)) (lv' := [(5, .int (nI (j + 1))), (4, .ref (ga g 178)), (3, .ref (ga g 1)), (2, .int (nI i)), (1, .ref (ga g 202)), (0, .ref b0)]) hx hb dL_law_133 hl (k := 0) rfl (nI_1 j) (by decide) rfl (fun ls hl => ?_)
    refine lv_goto (tgt := 109) hx hb dL_law_136 (by decide) ?_
    exact ih (j + 1) _ _ σ1 H locs ls (by omega) (by omega) (by omega) (hK.keep hok hf1) S (lv_sub hl [0, 1, 2, 3, 4, 5] rfl) kk
set_option maxHeartbeats 4000000 in
set_option maxRecDepth 100000 in
theorem n_body {l : Launch} {g : GL} {p : Program} {e : Jvm.Env} {R0 : Room} {s : State} {m : MethodId} {args : Array Value} {below : List Frame} {meth : Method} {c : Code} {Q : State → Prop} {b0 i : Nat} {H : Heap} {locs : List Loc} {ls : Array Slot} (C : Cx l g p s m meth c cL_law 6 RL) (hg : gZ g = 1) {x0 : Int32} (hDr : va_at (gD g) vwCl (ga g 202, .inr (13, [.int x0])) (gH g)) (hRf : 20 ≤ R0.frames) (hRl : 1500 ≤ R0.locals) (hRc : 1000 ≤ R0.cells) (hRs : 260000 ≤ R0.slots) (S : StL g 0 s zI H locs) (hl : lv_has ls 6 [(2, .int (nI i)), (1, .ref (ga g 202)), (0, .ref b0)]) (kk : ∀ (σ : SI) (R : Nat → Nat → Nat) (L : Nat → Nat → Int64) (H1 : Heap) (locs1 : List Loc) (ls1 : Array Slot), S2 g s σ R L H1 locs1 → lv_has ls1 6 [(2, .int (nI i)), (1, .ref (ga g 202)), (0, .ref b0)] → W p l e R0 s m args below meth c H1 locs1 1000 260000 Q (F0 m 139 ls1 [])) : W p l e R0 s m args below meth c H locs 0 0 Q (F0 m 34 ls []) := by
  have hx := C.1
  have hb : c.code = cL_law := C.2.1
  refine a_new C S (by decide) zr_zI KX11 df_X11 rfl ⟨cl_RL_8, iz_RX11, ni_RX11⟩ (by omega) (by omega) dL_law_34 (fun H S _ => ?_)
  have S : StL g 1 s zb_0 H locs := S
  change W p l e R0 s m args below meth c H locs (0 + 1) (0 + 10) Q (F0 m 37 ls (.ref (ga g 1) :: []))
  refine lv_dup hx hb dL_law_37 rfl ?_
  refine v_callI C S ci_zb ⟨cd_X11_init, ni_RX11, ml_RL_147, in_X11_init⟩ rfl ⟨by decide, by decide⟩ rfl ⟨by omega, by omega⟩ hl.1 rfl (Nat.le_of_ble_eq_true rfl) ⟨by omega, by omega⟩ dL_law_38 (fun v σ9 H locs hp S => ?_)
  obtain ⟨rfl, rfl⟩ := hp
  have S : StL g 177 s zP H locs := S
  change W p l e R0 s m args below meth c H locs (0 + 1 + 176) (0 + 10 + 3651) Q (F0 m 41 ls (.ref (ga g 1) :: []))
  refine lv_astore_n (lv' := [(3, .ref (ga g 1)), (2, .int (nI i)), (1, .ref (ga g 202)), (0, .ref b0)]) hx hb dL_law_41 rfl hl (by decide) rfl (fun ls hl => ?_)
  refine a_new C S (by decide) zr_zP KX12 df_X12 rfl ⟨cl_RL_148, iz_RX12, ni_RX12⟩ (by omega) (by omega) dL_law_42 (fun H S _ => ?_)
  have S : StL g 178 s zm_0 H locs := S
  change W p l e R0 s m args below meth c H locs (0 + 1 + 176 + 1) (0 + 10 + 3651 + 27) Q (F0 m 45 ls (.ref (ga g 178) :: []))
  refine lv_dup hx hb dL_law_45 rfl ?_
  refine lv_aload_n hx hb dL_law_46 rfl (lv_at hl 2 rfl) ?_
  refine l_ctor C hg hDr S hRf hRl hl.1 (Nat.le_of_ble_eq_true rfl) ⟨by omega, by omega⟩ (fun σ R a v t sd ws ns rs bs H locs hQ hP hRDr hSh hTL hA hT S => ?_)
  refine lv_astore (lv' := [(4, .ref (ga g 178)), (3, .ref (ga g 1)), (2, .int (nI i)), (1, .ref (ga g 202)), (0, .ref b0)]) hx hb dL_law_50 hl (by decide) rfl (fun ls hl => ?_)
  have hRD := hRDr.q
  have hRO := hRDr.ro
  have hlen : t.length ≤ 400 := hQ.2.1.2
  have hok := Quarry.ok hQ
  have hHs : gb g + 202 ≤ H.size := by have := hT.lt.1; have := hTL.2.1; omega
  have h31 : σ 3 1 = nI 0 := (hP 3 1 (by decide)).trans zF_31
  refine lv_aload hx hb dL_law_52 (lv_at hl 0 rfl) ?_
  refine k_getA C S 26 (R 178 26) (by decide) rfl rfl rfl (by rw [hTL.1]; have := hTL.2.1; omega) fn_RL_153 dL_law_54 ?_
  rw [hTL.ga]
  refine t_len C hg S hHs hT (by omega) ⟨by omega, by omega⟩ hl.1 (Nat.le_of_ble_eq_true rfl) ⟨by omega, by omega⟩ dL_law_57 (fun H locs S hHs hT => ?_)
  refine lv_sipush (v := nI 400) hx hb dL_law_60 (by decide) ?_
  refine lv_icmp_le (tgt := 69) hx hb dL_law_63 (by decide) (fun _ => ?_) (fun q => absurd (nI_le hlen (by omega)) q)
  refine lv_aload_n hx hb dL_law_69 rfl (lv_at hl 1 rfl) ?_
  refine lv_aload hx hb dL_law_70 (lv_at hl 0 rfl) ?_
  refine k_getA C S 26 (R 178 26) (by decide) rfl rfl rfl (by rw [hTL.1]; have := hTL.2.1; omega) fn_RL_153 dL_law_72 ?_
  rw [hTL.ga]
  refine d_callS C S (n_text (L := zF.2.2.1) (σ := σ) (s0 := 38) hg hTL.2.1 hA hTL.2.2 hlen hRO hSh h31) hT ⟨cd_L_text, ni_RL, ml_RL_157, st_L_text⟩ ⟨by decide, by decide⟩ rfl ⟨by omega, by omega⟩ hl.1 rfl (Nat.le_of_ble_eq_true rfl) ⟨by omega, by omega⟩ dL_law_75 (fun x9 σ1 H locs hp S hz9 hT => ?_)
  obtain ⟨hx9, h31n, h4n, hfr1⟩ := hp
  subst hx9
  change W p l e R0 s m args below meth c H locs _ _ Q (F0 m 78 ls (Value.int (1 : Int32) :: []))
  refine lv_if_eq (tgt := 104) hx hb dL_law_78 (by decide) (fun c => absurd c (by decide)) (fun _ => ?_)
  refine lv_aload_n hx hb dL_law_81 rfl (lv_at hl 1 rfl) ?_
  refine lv_iconst (v := nI 0) hx hb dL_law_82 (by decide) ?_
  refine lv_iconst (v := nI 0) hx hb dL_law_83 (by decide) ?_
  refine lv_iconst (v := nI 0) hx hb dL_law_84 (by decide) ?_
  refine lv_iconst (v := nI 0) hx hb dL_law_85 (by decide) ?_
  obtain ⟨σ2, e2, hIv, h34, hfr2⟩ := c_load (N := 2000) (Nat.le_refl _) hRO hok hQ.2.1.1 hlen h31n h4n
  refine v_callW C S (h_asks_0 (L := zF.2.2.1) e2 hSh hx_1) ⟨cw_asks, ni_RL, ml_RL_160, st_L_asks⟩ ⟨by decide, by decide⟩ rfl ⟨by omega, by show 8 + (6 + 11) + 64 * 11 ≤ _; omega⟩ hl.1 rfl (Nat.le_of_ble_eq_true rfl) ⟨by omega, by omega⟩ dL_law_86 (fun w σ9 H locs hp S => ?_)
  obtain ⟨rfl, rfl⟩ := hp
  have S : S2 g s σ2 (swR R 1) zF.2.2.1 H locs := S
  have hSh2 := swR_sh hSh hx_1
  have hQc : Qc σ2 sd ws ns rs bs := (Qc.of hQ).keepH hok (fun o j ho _ => (hfr2 o j ho).trans (hfr1 o j (by omega) (by omega)))
  have h2 : σ2 178 2 = nI bs.length := hQc.1.2.2.1
  change W p l e R0 s m args below meth c H locs _ _ Q (F0 m 89 ls (Value.int (nI bs.length) :: []))
  refine lv_aload hx hb dL_law_89 (lv_at hl 0 rfl) ?_
  refine k_getI C S 2 (by decide) rfl rfl h2 fn_RL_164 dL_law_91 ?_
  refine lv_icmp_ne (tgt := 104) hx hb dL_law_94 (by decide) (fun c => absurd rfl c) (fun _ => ?_)
  refine lv_aload_n hx hb dL_law_97 rfl (lv_at hl 1 rfl) ?_
  refine x_callVI C S KX11 hx_1 (ok_X11_errorKind (L := zF.2.2.1) (ek_0 (N := 2000) hIv.ro h34) hSh2 hx_1) ⟨cd_X11_errorKind, ni_RX11, ml_RL_168, in_X11_errorKind, sl_X11_errorKind⟩ ⟨by decide, by decide⟩ rfl ⟨by omega, by omega⟩ hl.1 rfl (Nat.le_of_ble_eq_true rfl) ⟨by omega, by omega⟩ dL_law_98 (fun H locs S => ?_)
  refine lv_if_eq (tgt := 106) hx hb dL_law_101 (by decide) (fun _ => ?_) (fun c => absurd rfl c)
  refine lv_iconst (v := nI 0) hx hb dL_law_106 (by decide) ?_
  refine lv_istore (lv' := [(5, .int (nI 0)), (4, .ref (ga g 178)), (3, .ref (ga g 1)), (2, .int (nI i)), (1, .ref (ga g 202)), (0, .ref b0)]) hx hb dL_law_107 hl (by decide) rfl (fun ls hl => ?_)
  refine k_blasts C hSh2 hRD hok hRf hRl (cells2 := 1000) (slots2 := 260000) ⟨by omega, by omega⟩ bs.length 0 _ _ σ2 H locs ls (by omega) (by have := hok.2.2.2.2.1.2; omega) (by have := hok.2.2.2.2.1.2; omega) ⟨hIv, hQc⟩ S (lv_sub hl [0, 1, 2, 3, 4, 5] rfl) (fun σ3 H locs ls S hl => ?_)
  exact kk σ3 (swR R 1) zF.2.2.1 H locs ls S hl
