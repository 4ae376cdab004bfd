theorem dL_isKnown_281 : decode cL_isKnown 281 = .ok (.iload 6, 2) := by decide +kernel
theorem dL_isKnown_283 : decode cL_isKnown 283 = .ok (.bipush 12, 2) := by decide +kernel
theorem dL_isKnown_285 : decode cL_isKnown 285 = .ok (.if_icmp .ge 115, 3) := by decide +kernel
theorem dL_isKnown_288 : decode cL_isKnown 288 = .ok (.iload 6, 2) := by decide +kernel
theorem dL_isKnown_290 : decode cL_isKnown 290 = .ok (.bipush 6, 2) := by decide +kernel
theorem dL_isKnown_321 : decode cL_isKnown 321 = .ok (.istore 7, 2) := by decide +kernel
theorem dL_isKnown_323 : decode cL_isKnown 323 = .ok (.aload_n 0, 1) := by decide +kernel
theorem dL_isKnown_324 : decode cL_isKnown 324 = .ok (.bipush 8, 2) := by decide +kernel
theorem dL_isKnown_326 : decode cL_isKnown 326 = .ok (.iload_n 3, 1) := by decide +kernel
theorem dL_isKnown_327 : decode cL_isKnown 327 = .ok (.iload 7, 2) := by decide +kernel
theorem dL_isKnown_329 : decode cL_isKnown 329 = .ok (.iconst 0, 1) := by decide +kernel
theorem dL_isKnown_330 : decode cL_isKnown 330 = .ok (.invokestatic 160, 3) := by decide +kernel
theorem dL_isKnown_333 : decode cL_isKnown 333 = .ok (.aload_n 1, 1) := by decide +kernel
theorem dL_isKnown_334 : decode cL_isKnown 334 = .ok (.iload_n 3, 1) := by decide +kernel
theorem dL_isKnown_335 : decode cL_isKnown 335 = .ok (.iload 7, 2) := by decide +kernel
theorem dL_isKnown_337 : decode cL_isKnown 337 = .ok (.invokevirtual 211, 3) := by decide +kernel
theorem dL_isKnown_340 : decode cL_isKnown 340 = .ok (.if_icmp .eq 5, 3) := by decide +kernel
theorem dL_isKnown_345 : decode cL_isKnown 345 = .ok (.iconst 0, 1) := by decide +kernel
theorem dL_isKnown_346 : decode cL_isKnown 346 = .ok (.istore 8, 2) := by decide +kernel
theorem dL_isKnown_394 : decode cL_isKnown 394 = .ok (.iinc 6 1, 3) := by decide +kernel
theorem dL_isKnown_397 : decode cL_isKnown 397 = .ok (.goto (-116), 3) := by decide +kernel
theorem dL_isKnown_292 : decode cL_isKnown 292 = .ok (.if_icmp .ge 18, 3) := by decide +kernel
theorem dL_isKnown_310 : decode cL_isKnown 310 = .ok (.sipush 380, 3) := by decide +kernel
theorem dL_isKnown_313 : decode cL_isKnown 313 = .ok (.aload_n 2, 1) := by decide +kernel
theorem dL_isKnown_314 : decode cL_isKnown 314 = .ok (.sipush 700, 3) := by decide +kernel
theorem dL_isKnown_317 : decode cL_isKnown 317 = .ok (.invokevirtual 208, 3) := by decide +kernel
theorem dL_isKnown_320 : decode cL_isKnown 320 = .ok (.iadd, 1) := by decide +kernel
theorem dL_isKnown_295 : decode cL_isKnown 295 = .ok (.aload_n 1, 1) := by decide +kernel
theorem dL_isKnown_296 : decode cL_isKnown 296 = .ok (.getfield 202, 3) := by decide +kernel
theorem dL_isKnown_299 : decode cL_isKnown 299 = .ok (.aload_n 1, 1) := by decide +kernel
theorem dL_isKnown_300 : decode cL_isKnown 300 = .ok (.getfield 205, 3) := by decide +kernel
theorem dL_isKnown_303 : decode cL_isKnown 303 = .ok (.iload 6, 2) := by decide +kernel
theorem dL_isKnown_305 : decode cL_isKnown 305 = .ok (.imul, 1) := by decide +kernel
theorem dL_isKnown_306 : decode cL_isKnown 306 = .ok (.iadd, 1) := by decide +kernel
theorem dL_isKnown_307 : decode cL_isKnown 307 = .ok (.goto 14, 3) := by decide +kernel
theorem dL_isKnown_0 : decode cL_isKnown 0 = .ok (.iconst 0, 1) := by decide +kernel
theorem dL_isKnown_1 : decode cL_isKnown 1 = .ok (.istore 4, 2) := by decide +kernel
theorem dL_isKnown_3 : decode cL_isKnown 3 = .ok (.iconst 0, 1) := by decide +kernel
theorem dL_isKnown_4 : decode cL_isKnown 4 = .ok (.istore 5, 2) := by decide +kernel
theorem dL_isKnown_6 : decode cL_isKnown 6 = .ok (.iconst 0, 1) := by decide +kernel
theorem dL_isKnown_7 : decode cL_isKnown 7 = .ok (.istore 6, 2) := by decide +kernel
theorem dL_isKnown_104 : decode cL_isKnown 104 = .ok (.aload_n 0, 1) := by decide +kernel
theorem dL_isKnown_105 : decode cL_isKnown 105 = .ok (.iconst 1, 1) := by decide +kernel
theorem dL_isKnown_106 : decode cL_isKnown 106 = .ok (.iload_n 3, 1) := by decide +kernel
theorem dL_isKnown_107 : decode cL_isKnown 107 = .ok (.iconst 0, 1) := by decide +kernel
theorem dL_isKnown_108 : decode cL_isKnown 108 = .ok (.iconst 0, 1) := by decide +kernel
theorem dL_isKnown_109 : decode cL_isKnown 109 = .ok (.invokestatic 160, 3) := by decide +kernel
theorem dL_isKnown_112 : decode cL_isKnown 112 = .ok (.iload 4, 2) := by decide +kernel
theorem dL_isKnown_114 : decode cL_isKnown 114 = .ok (.if_icmp .ne 16, 3) := by decide +kernel
theorem dL_isKnown_117 : decode cL_isKnown 117 = .ok (.aload_n 0, 1) := by decide +kernel
theorem dL_isKnown_118 : decode cL_isKnown 118 = .ok (.iconst 2, 1) := by decide +kernel
theorem dL_isKnown_119 : decode cL_isKnown 119 = .ok (.iload_n 3, 1) := by decide +kernel
theorem dL_isKnown_120 : decode cL_isKnown 120 = .ok (.iconst 0, 1) := by decide +kernel
theorem dL_isKnown_121 : decode cL_isKnown 121 = .ok (.iconst 0, 1) := by decide +kernel
theorem dL_isKnown_122 : decode cL_isKnown 122 = .ok (.invokestatic 160, 3) := by decide +kernel
theorem dL_isKnown_125 : decode cL_isKnown 125 = .ok (.iload 5, 2) := by decide +kernel
theorem dL_isKnown_127 : decode cL_isKnown 127 = .ok (.if_icmp .eq 5, 3) := by decide +kernel
theorem dL_isKnown_132 : decode cL_isKnown 132 = .ok (.iconst 0, 1) := by decide +kernel
theorem dL_isKnown_133 : decode cL_isKnown 133 = .ok (.istore 6, 2) := by decide +kernel
theorem dL_isKnown_180 : decode cL_isKnown 180 = .ok (.iconst 0, 1) := by decide +kernel
theorem dL_isKnown_181 : decode cL_isKnown 181 = .ok (.istore 6, 2) := by decide +kernel
theorem dL_isKnown_278 : decode cL_isKnown 278 = .ok (.iconst 0, 1) := by decide +kernel
theorem dL_isKnown_279 : decode cL_isKnown 279 = .ok (.istore 6, 2) := by decide +kernel
theorem dL_isKnown_400 : decode cL_isKnown 400 = .ok (.bipush 6, 2) := by decide +kernel
theorem dL_isKnown_402 : decode cL_isKnown 402 = .ok (.aload_n 2, 1) := by decide +kernel
theorem dL_isKnown_403 : decode cL_isKnown 403 = .ok (.bipush 12, 2) := by decide +kernel
theorem dL_isKnown_405 : decode cL_isKnown 405 = .ok (.invokevirtual 208, 3) := by decide +kernel
theorem dL_isKnown_408 : decode cL_isKnown 408 = .ok (.iadd, 1) := by decide +kernel
theorem dL_isKnown_409 : decode cL_isKnown 409 = .ok (.istore 6, 2) := by decide +kernel
theorem dL_isKnown_411 : decode cL_isKnown 411 = .ok (.iconst 0, 1) := by decide +kernel
theorem dL_isKnown_412 : decode cL_isKnown 412 = .ok (.istore 7, 2) := by decide +kernel
theorem dL_isKnown_414 : decode cL_isKnown 414 = .ok (.iconst 0, 1) := by decide +kernel
theorem dL_isKnown_415 : decode cL_isKnown 415 = .ok (.istore 8, 2) := by decide +kernel
theorem dL_isKnown_457 : decode cL_isKnown 457 = .ok (.aload_n 0, 1) := by decide +kernel
theorem dL_isKnown_458 : decode cL_isKnown 458 = .ok (.bipush 6, 2) := by decide +kernel
theorem dL_isKnown_460 : decode cL_isKnown 460 = .ok (.iload_n 3, 1) := by decide +kernel
theorem dL_isKnown_461 : decode cL_isKnown 461 = .ok (.iload 6, 2) := by decide +kernel
theorem dL_isKnown_463 : decode cL_isKnown 463 = .ok (.iconst 0, 1) := by decide +kernel
theorem dL_isKnown_464 : decode cL_isKnown 464 = .ok (.invokestatic 160, 3) := by decide +kernel
theorem dL_isKnown_467 : decode cL_isKnown 467 = .ok (.iload 7, 2) := by decide +kernel
theorem dL_isKnown_469 : decode cL_isKnown 469 = .ok (.if_icmp .ne 35, 3) := by decide +kernel
theorem dL_isKnown_472 : decode cL_isKnown 472 = .ok (.aload_n 0, 1) := by decide +kernel
theorem dL_isKnown_473 : decode cL_isKnown 473 = .ok (.bipush 6, 2) := by decide +kernel
theorem dL_isKnown_475 : decode cL_isKnown 475 = .ok (.iload_n 3, 1) := by decide +kernel
theorem dL_isKnown_476 : decode cL_isKnown 476 = .ok (.bipush 24, 2) := by decide +kernel
theorem dL_isKnown_478 : decode cL_isKnown 478 = .ok (.iconst 0, 1) := by decide +kernel
theorem dL_isKnown_479 : decode cL_isKnown 479 = .ok (.invokestatic 160, 3) := by decide +kernel
theorem dL_isKnown_482 : decode cL_isKnown 482 = .ok (.ldc 116, 2) := by decide +kernel
theorem dL_isKnown_484 : decode cL_isKnown 484 = .ok (.if_icmp .ne 20, 3) := by decide +kernel
theorem dL_isKnown_487 : decode cL_isKnown 487 = .ok (.aload_n 0, 1) := by decide +kernel
theorem dL_isKnown_488 : decode cL_isKnown 488 = .ok (.bipush 7, 2) := by decide +kernel
theorem dL_isKnown_490 : decode cL_isKnown 490 = .ok (.iload_n 3, 1) := by decide +kernel
theorem dL_isKnown_491 : decode cL_isKnown 491 = .ok (.iconst 0, 1) := by decide +kernel
theorem dL_isKnown_492 : decode cL_isKnown 492 = .ok (.iconst 0, 1) := by decide +kernel
theorem dL_isKnown_493 : decode cL_isKnown 493 = .ok (.invokestatic 160, 3) := by decide +kernel
theorem dL_isKnown_496 : decode cL_isKnown 496 = .ok (.iconst (-1), 1) := by decide +kernel
theorem dL_isKnown_497 : decode cL_isKnown 497 = .ok (.if_icmp .ne 7, 3) := by decide +kernel
theorem dL_isKnown_500 : decode cL_isKnown 500 = .ok (.iconst 1, 1) := by decide +kernel
theorem dL_isKnown_501 : decode cL_isKnown 501 = .ok (.goto 4, 3) := by decide +kernel
theorem dL_isKnown_505 : decode cL_isKnown 505 = .ok (.ireturn, 1) := by decide +kernel
/-! ===== the law's questions about a blast: all of them ===== -/
/-- the planner has loaded the drawn quarry -/
def Kn (R : Nat → Nat → Nat) (σ : SI) (sd : SDt) (ws : List WDt) (ns : List NDt) (rs : List RDt) (bs : List BDt) : Prop := Iv σ R 108 (tQ sd ws ns rs bs) (wQ bs) ∧ Qc σ sd ws ns rs bs
theorem Kn.keep {R : Nat → Nat → Nat} {σ σ' : SI} {sd : SDt} {ws : List WDt} {ns : List NDt} {rs : List RDt} {bs : List BDt} (h : Kn R σ sd ws ns rs bs) (hok : QOk sd ws ns rs bs) (f : ∀ o j, o ≠ 202 → σ' o j = σ o j) : Kn R σ' sd ws ns rs bs :=
  ⟨h.1.keep (fun o k ho => f o k (by omega)), h.2.keep hok f⟩
theorem kn_div {t w : Nat → Int} (hO : TOk t) {b n mo : Nat} (hb : (b : Int) < t 2) (hn : (n : Int) < t 0) (hw : win t w b = (mo : Int)) (hmo : mo ≤ 800) (hD : 0 ≤ dist t b n ∧ dist t b n ≤ 200000) : ¬ iI (dist t b n) + nI 1 = 0 ∧ iI (shk t w b n) = nI 1000 * nI mo / (iI (dist t b n) + nI 1) := by
  have e1 : nI 1 = iI 1 := rfl
  have e0 : (0 : Int32) = iI 0 := rfl
  refine ⟨fun z => ?_, ?_⟩
  · rw [e1, iI_add, e0] at z
    have := (iI_eq (by omega)).mp z
    omega
  · unfold shk
    rw [e1, iI_add, nI_mul, iI_nat (1000 * mo), iI_div (by omega) (by omega), hw]
    rfl
set_option maxHeartbeats 4000000 in
set_option maxRecDepth 100000 in
theorem k_min {l : Launch} {g : GL} {p : Program} {e : Jvm.Env} {R0 : Room} {s : State} {m : MethodId} {args : Array Value} {below : List Frame} {meth : Method} {c : Code} {Q : State → Prop} {R : Nat → Nat → Nat} {L : Nat → Nat → Int64} {b : Nat} (C : Cx l g p s m meth c cL_isKnown 9 RL) (hSh : ShR R) (hRf : 10 ≤ R0.frames) (hRl : 640 ≤ R0.locals) (hb3 : b < 3) {sd : SDt} {ws : List WDt} {ns : List NDt} {rs : List RDt} {bs : List BDt} (hRD : RDq R) (hok : QOk sd ws ns rs bs) (hbl : b < bs.length) {cells2 slots2 : Nat} (hf : cells2 ≤ R0.cells ∧ slots2 ≤ R0.slots) : ∀ (n k cells slots : Nat) (σ : SI) (H : Heap) (locs : List Loc) (ls : Array Slot), k + n = 12 → cells + 6 * n ≤ cells2 → slots + 36 * n ≤ slots2 → Kn R σ sd ws ns rs bs → S2 g s σ R L H locs → lv_has ls 9 [(6, .int (nI k)), (0, .ref (ga g 1)), (1, .ref (ga g 178)), (2, .ref (ga g 202)), (3, .int (nI b))] → (∀ (σ1 : SI) (H1 : Heap) (locs1 : List Loc) (ls1 : Array Slot), Kn R σ1 sd ws ns rs bs → (∀ o j, o ≠ 202 → σ1 o j = σ o j) → S2 g s σ1 R L H1 locs1 → lv_has ls1 9 [(0, .ref (ga g 1)), (1, .ref (ga g 178)), (2, .ref (ga g 202)), (3, .int (nI b))] → W p l e R0 s m args below meth c H1 locs1 cells2 slots2 Q (F0 m 400 ls1 [])) → W p l e R0 s m args below meth c H locs cells slots Q (F0 m 281 ls []) := by
  have hx := C.1
  have hb := C.2.1
  obtain ⟨d1, d2, d3, d4, d5, d6, -⟩ := hok.1
  have hnn : ns.length ≤ 2 := hok.2.2.1.1
  have t0 : tQ sd ws ns rs bs 0 = (ns.length : Int) := rfl
  have t2 : tQ sd ws ns rs bs 2 = (bs.length : Int) := rfl
  have hbI : (b : Int) < tQ sd ws ns rs bs 2 := by rw [t2]; omega
  intro n
  induction n with
  | zero =>
    intro k cells slots σ H locs ls hk hc hs hK S hl kk
    obtain rfl : k = 12 := by omega
    refine lv_iload hx hb dL_isKnown_281 (lv_at hl 0 rfl) ?_
    refine lv_bipush (v := nI 12) hx hb dL_isKnown_283 (by decide) ?_
    refine lv_icmp_ge (tgt := 400) hx hb dL_isKnown_285 (by decide) (fun _ => ?_) (fun c => absurd (nI_le (by omega) (by omega)) c)
    refine W.widen (k := cells2) (n := slots2) (by omega) (by omega) ?_
    exact kk σ H locs ls hK (fun o j _ => rfl) S (lv_sub hl [1, 2, 3, 4] rfl)
  | succ n ih =>
    intro k cells slots σ H locs ls hk hc hs hK S hl kk
    refine lv_iload hx hb dL_isKnown_281 (lv_at hl 0 rfl) ?_
    refine lv_bipush (v := nI 12) hx hb dL_isKnown_283 (by decide) ?_
    refine lv_icmp_ge (tgt := 400) hx hb dL_isKnown_285 (by decide) (fun c => absurd c (nI_ge (by omega) (by omega))) (fun _ => ?_)
    refine lv_iload hx hb dL_isKnown_288 (lv_at hl 0 rfl) ?_
    refine lv_bipush (v := nI 6) hx hb dL_isKnown_290 (by decide) ?_
    have tail : ∀ (x : Nat) (σ1 : SI) (H : Heap) (locs : List Loc), x < 1440 → Kn R σ1 sd ws ns rs bs → (∀ o j, o ≠ 202 → σ1 o j = σ o j) → S2 g s σ1 R L H locs → W p l e R0 s m args below meth c H locs cells slots Q (F0 m 321 ls (.int (nI x) :: [])) := by
      intro x σ1 H locs hx9 hK hfr S
      have h0 : σ1 178 0 = nI ns.length := hK.2.1.1
      refine lv_istore (lv' := [(7, .int (nI x)), (6, .int (nI k)), (0, .ref (ga g 1)), (1, .ref (ga g 178)), (2, .ref (ga g 202)), (3, .int (nI b))]) hx hb dL_isKnown_321 hl (by decide) rfl (fun ls hl => ?_)
      refine lv_aload_n hx hb dL_isKnown_323 rfl (lv_at hl 2 rfl) ?_
      refine lv_bipush (v := nI 8) hx hb dL_isKnown_324 (by decide) ?_
      refine lv_iload_n hx hb dL_isKnown_326 rfl (lv_at hl 5 rfl) ?_
      refine lv_iload hx hb dL_isKnown_327 (lv_at hl 0 rfl) ?_
      refine lv_iconst (v := nI 0) hx hb dL_isKnown_329 (by decide) ?_
      refine k_asks C S (h_asks_8 (r_reason (N := 2000) (Nat.le_refl _) hK.1 (b := b) (x := x) hbI (by omega)) hSh hx_1) hRf hRl hl.1 (by decide) ⟨by omega, by omega⟩ dL_isKnown_330 (fun H locs S => ?_)
      refine lv_aload_n hx hb dL_isKnown_333 rfl (lv_at hl 3 rfl) ?_
      refine lv_iload_n hx hb dL_isKnown_334 rfl (lv_at hl 5 rfl) ?_
      refine lv_iload hx hb dL_isKnown_335 (lv_at hl 0 rfl) ?_
      refine x_callVI C S KX12 ok178 (ok_X12_reason (L := L) (w_reason (N := 2000) (Nat.le_refl _) hRD hK.2 hok hbl (by omega)) hSh ok178) ⟨cd_X12_reason, ni_RX12, ml_RL_211, in_X12_reason, sl_X12_reason⟩ ⟨by decide, by decide⟩ rfl ⟨by omega, by omega⟩ hl.1 rfl (Nat.le_of_ble_eq_true rfl) ⟨by omega, by omega⟩ dL_isKnown_337 (fun H locs S => ?_)
      refine lv_icmp_eq (tgt := 345) hx hb dL_isKnown_340 (by decide) (fun _ => ?_) (fun c => absurd rfl c)
      refine lv_iconst (v := nI 0) hx hb dL_isKnown_345 (by decide) ?_
      refine lv_istore (lv' := [(8, .int (nI 0)), (7, .int (nI x)), (6, .int (nI k)), (0, .ref (ga g 1)), (1, .ref (ga g 178)), (2, .ref (ga g 202)), (3, .int (nI b))]) hx hb dL_isKnown_346 hl (by decide) rfl (fun ls hl => ?_)
      refine k_quiet (nn := ns.length) (Pq := fun n => still (tQ sd ws ns rs bs) n (x : Int)) (cells2 := cells + 2 + 0 + 4) (slots2 := slots + 12 + 0 + 24) C hSh hRf hRl hb3 hnn ⟨by omega, by omega⟩ h0 (fun n hn => r_quiet (Nat.le_refl _) hK.1 (by rw [t0]; omega) (by omega)) (fun n hn => w_quiet hRD hK.2 hok hn (by omega)) ns.length 0 _ _ H locs ls (by omega) (by omega) (by omega) S (lv_sub hl [0, 1, 2, 3, 4, 5, 6] rfl) (fun H locs ls S hl => ?_)
      refine lv_iinc (v := nI (k + 1)) (lv' := [(6, .int (nI (k + 1))), (0, .ref (ga g 1)), (1, .ref (ga g 178)), (2, .ref (ga g 202)), (3, .int (nI b))]) hx hb dL_isKnown_394 hl (k := 0) rfl (nI_1 k) (by decide) rfl (fun ls hl => ?_)
      refine lv_goto (tgt := 281) hx hb dL_isKnown_397 (by decide) ?_
      exact ih (k + 1) _ _ σ1 H locs ls (by omega) (by omega) (by omega) hK S (lv_sub hl [0, 1, 2, 3, 4] rfl) (fun σ2 H2 locs2 ls2 hK2 hf2 S2 hl2 => kk σ2 H2 locs2 ls2 hK2 (fun o j ho => (hf2 o j ho).trans (hfr o j ho)) S2 hl2)
    refine lv_icmp_ge (tgt := 310) hx hb dL_isKnown_292 (by decide) (fun c6 => ?_) (fun c6 => ?_)
    · refine lv_sipush (v := nI 380) hx hb dL_isKnown_310 (by decide) ?_
      refine lv_aload_n hx hb dL_isKnown_313 rfl (lv_at hl 3 rfl) ?_
      refine lv_sipush (v := nI 700) hx hb dL_isKnown_314 (by decide) ?_
      refine d_next (n := 700) C S hSh (by decide) (by decide) ⟨cd_X13_next, ni_RX13, ml_RL_208, in_X13_next, sl_X13_next⟩ ⟨by omega, by omega⟩ hl.1 (Nat.le_of_ble_eq_true rfl) ⟨by omega, by omega⟩ dL_isKnown_317 (fun x9 σ1 H locs hx9 hf1 S hz hk9 => ?_)
      refine lv_iadd hx hb dL_isKnown_320 ?_
      rw [nI_add]
      exact tail (380 + x9) σ1 H locs (by omega) (hK.keep hok hf1) hf1 S
    · have hk6 : k < 6 := Nat.lt_of_not_le (fun z => c6 (nI_le z (by omega)))
      have h3 : σ 178 3 = nI sd.1 := hK.2.1.2.2.2.1
      have h5 : σ 178 5 = nI sd.2.2.1 := hK.2.1.2.2.2.2.2
      refine lv_aload_n hx hb dL_isKnown_295 rfl (lv_at hl 2 rfl) ?_
      refine k_getI C S 3 (by decide) rfl rfl h3 fn_RL_202 dL_isKnown_296 ?_
      refine lv_aload_n hx hb dL_isKnown_299 rfl (lv_at hl 2 rfl) ?_
      refine k_getI C S 5 (by decide) rfl rfl h5 fn_RL_205 dL_isKnown_300 ?_
      refine lv_iload hx hb dL_isKnown_303 (lv_at hl 0 rfl) ?_
      refine lv_imul hx hb dL_isKnown_305 ?_
      rw [pk_mul]
      have hm : sd.2.2.1 * k ≤ 99 * 5 := Nat.mul_le_mul (by omega) (by omega)
      refine lv_iadd hx hb dL_isKnown_306 ?_
      rw [nI_add]
      refine lv_goto (tgt := 321) hx hb dL_isKnown_307 (by decide) ?_
      exact tail (sd.1 + sd.2.2.1 * k) σ H locs (by omega) hK (fun o j _ => rfl) S
set_option maxHeartbeats 4000000 in
set_option maxRecDepth 100000 in
theorem n_known {l : Launch} {g : GL} {σ : SI} {R : Nat → Nat → Nat} {L : Nat → Nat → Int64} {b : Nat} {sd : SDt} {ws : List WDt} {ns : List NDt} {rs : List RDt} {bs : List BDt} (hRD : RDq R) (hok : QOk sd ws ns rs bs) (hbl : b < bs.length) (hSh : ShR R) (hK : Kn R σ sd ws ns rs bs) : Ct l g 10 yL_isKnown cL_isKnown 9 (some .boolean) 202 202 120 720 [.ref (ga g 1), .ref (ga g 178), .ref (ga g 202), .int (nI b)] (mkS σ R L) (fun w σ9 => w = some (.int 1) ∧ ∃ σ1, σ9 = mkS σ1 R L ∧ ∀ o j, o ≠ 202 → σ1 o j = σ o j) := by
  refine Met.ofW (cc := cL_isKnown) (maxL := 9) (ret := some .boolean) (by decide) rfl ?_
  intro p e s m args below meth c s₁ B hml hv
  obtain ⟨rfl, hE, hLo, hWd⟩ := hv
  have hr : meth.sig.returnType = some .boolean := B.returns
  have C : Cx l g p s m meth c cL_isKnown 9 RL := ⟨B.exec, B.bytes, hml, findClass_of_methodNamed B.named, hE, hLo, B.notSynchronized⟩
  have S : S2 g s σ R L s.heap [] := ⟨hWd, va_S.rf⟩
  have hx := C.1
  have hb := C.2.1
  have hl := lv_entry ([.ref (ga g 1), .ref (ga g 178), .ref (ga g 202), .int (nI b)]) (n := 9) (Nat.le_of_ble_eq_true rfl)
  rw [lg_entry_eq]
  generalize (lg_sl ([.ref (ga g 1), .ref (ga g 178), .ref (ga g 202), .int (nI b)]) ++ List.replicate (9 - (lg_sl ([.ref (ga g 1), .ref (ga g 178), .ref (ga g 202), .int (nI b)])).length) Slot.unset).toArray = ls at hl ⊢
  have hl : lv_has ls 9 [(0, .ref (ga g 1)), (1, .ref (ga g 178)), (2, .ref (ga g 202)), (3, .int (nI b))] := hl
  generalize hH0 : s.heap = H at S ⊢
  generalize hlc : ([] : List Loc) = locs at S ⊢
  generalize hRm : (headSpec [Cond.code yL_isKnown cL_isKnown 9 (some .boolean)] (rmd 10 120 720)).room = R0
  have hRf : 10 ≤ R0.frames := by rw [← hRm]; exact Nat.le_refl 10
  have hRl : 640 ≤ R0.locals := by rw [← hRm]; exact Nat.le_refl 640
  have hRc : R0.cells = 120 := by rw [← hRm]; rfl
  have hRs : R0.slots = 720 := by rw [← hRm]; rfl
  obtain ⟨d1, d2, d3, d4, d5, d6, -⟩ := hok.1
  have hnn : ns.length ≤ 2 := hok.2.2.1.1
  have t0 : tQ sd ws ns rs bs 0 = (ns.length : Int) := rfl
  have t2 : tQ sd ws ns rs bs 2 = (bs.length : Int) := rfl
  have hbI : (b : Int) < tQ sd ws ns rs bs 2 := by rw [t2]; omega
  have t1 : tQ sd ws ns rs bs 1 = (rs.length : Int) := rfl
  have hb3 : b < 3 := by have := hok.2.2.2.2.1.2; omega
  have hrr : rs.length ≤ 2 := hok.2.2.2.1.1
  obtain ⟨g1, g2, g3, g4, g5⟩ := hK.2.2.2.2.2 b hbl
  obtain ⟨q1, q2, q3, q4, q5, q6, q7⟩ := hok.2.2.2.2.2 _ (getD_mem (x := (0, 0, 0, [])) hbl)
  have r20 : R 178 20 = 190 := rd_21 hRD 11 (by decide)
  have r21 : R 178 21 = 191 := rd_21 hRD 12 (by decide)
  have r25 : R 178 25 = 198 := hRD.2.2.1
  have r8 : R 198 b = 199 + b := hRD.2.2.2.2.1 b hb3
  obtain ⟨sc1, sc2⟩ := scn_eq hok hbl
  have hwin : ∀ d, d < 100 → f_X12_window 2000 R σ 178 (nI b) (nI d) = some (nI (sumW d (bs.getD b (0, 0, 0, [])).2.2.2), σ) := fun d hd => w_window (Nat.le_refl _) hRD hK.2 hok hbl hd
  have tr := (T_b hok hbl).2.2.1
  generalize hcs : (bs.getD b (0, 0, 0, [])).2.2.2 = cs at g4 g5 q5 q6 q7 sc1 sc2 hwin
  have hsl := scn_le q7 q6 30
  have hsz := r_size (N := 2000) hK.1 hbI
  have hst := r_start (N := 2000) hK.1 hbI
  rw [sc1] at hsz
  rw [sc2] at hst
  have hdiv : ∀ n, n < ns.length → ¬ iI (dist (tQ sd ws ns rs bs) b n) + nI 1 = 0 ∧ iI (shk (tQ sd ws ns rs bs) (wQ bs) b n) = nI 1000 * nI (scn cs 30).1 / (iI (dist (tQ sd ws ns rs bs) b n) + nI 1) := fun n hn => kn_div (tQ_ok hok) hbI (by rw [t0]; omega) sc1 hsl.1 (by have := (dist_b hok hbl hn).2.2; omega)
  refine lv_iconst (v := nI 0) hx hb dL_isKnown_0 (by decide) ?_
  refine lv_istore (lv' := [(4, .int (nI 0)), (0, .ref (ga g 1)), (1, .ref (ga g 178)), (2, .ref (ga g 202)), (3, .int (nI b))]) hx hb dL_isKnown_1 hl (by decide) rfl (fun ls hl => ?_)
  refine lv_iconst (v := nI 0) hx hb dL_isKnown_3 (by decide) ?_
  refine lv_istore (lv' := [(5, .int (nI 0)), (4, .int (nI 0)), (0, .ref (ga g 1)), (1, .ref (ga g 178)), (2, .ref (ga g 202)), (3, .int (nI b))]) hx hb dL_isKnown_4 hl (by decide) rfl (fun ls hl => ?_)
  refine lv_iconst (v := nI 0) hx hb dL_isKnown_6 (by decide) ?_
  refine lv_istore (lv' := [(6, .int (nI 0)), (5, .int (nI 0)), (4, .int (nI 0)), (0, .ref (ga g 1)), (1, .ref (ga g 178)), (2, .ref (ga g 202)), (3, .int (nI b))]) hx hb dL_isKnown_7 hl (by decide) rfl (fun ls hl => ?_)
  refine k_scan C hSh hRf hRl hb3 ⟨by omega, by omega⟩ q6 q7 r21 r25 r8 g4 (fun j hj => (g5 j hj).2) hwin 30 0 H locs ls (by omega) S (lv_sub hl [0, 2, 1, 3, 4, 5, 6] rfl) (fun H locs ls S hl => ?_)
  refine lv_aload_n hx hb dL_isKnown_104 rfl (lv_at hl 2 rfl) ?_
  refine lv_iconst (v := nI 1) hx hb dL_isKnown_105 (by decide) ?_
  refine lv_iload_n hx hb dL_isKnown_106 rfl (lv_at hl 5 rfl) ?_
  refine lv_iconst (v := nI 0) hx hb dL_isKnown_107 (by decide) ?_
  refine lv_iconst (v := nI 0) hx hb dL_isKnown_108 (by decide) ?_
  refine k_asks C S (h_asks_1 hsz hSh hx_1) hRf hRl hl.1 (by decide) ⟨by omega, by omega⟩ dL_isKnown_109 (fun H locs S => ?_)
  refine lv_iload hx hb dL_isKnown_112 (lv_at hl 0 rfl) ?_
  refine lv_icmp_ne (tgt := 130) hx hb dL_isKnown_114 (by decide) (fun c => absurd (iI_nat (scn cs 30).1).symm c) (fun _ => ?_)
  refine lv_aload_n hx hb dL_isKnown_117 rfl (lv_at hl 2 rfl) ?_
  refine lv_iconst (v := nI 2) hx hb dL_isKnown_118 (by decide) ?_
  refine lv_iload_n hx hb dL_isKnown_119 rfl (lv_at hl 5 rfl) ?_
  refine lv_iconst (v := nI 0) hx hb dL_isKnown_120 (by decide) ?_
  refine lv_iconst (v := nI 0) hx hb dL_isKnown_121 (by decide) ?_
  refine k_asks C S (h_asks_2 hst hSh hx_1) hRf hRl hl.1 (by decide) ⟨by omega, by omega⟩ dL_isKnown_122 (fun H locs S => ?_)
  refine lv_iload hx hb dL_isKnown_125 (lv_at hl 1 rfl) ?_
  refine lv_icmp_eq (tgt := 132) hx hb dL_isKnown_127 (by decide) (fun _ => ?_) (fun c => absurd (iI_nat (scn cs 30).2).symm c)
  refine lv_iconst (v := nI 0) hx hb dL_isKnown_132 (by decide) ?_
  refine lv_istore (lv' := [(6, .int (nI 0)), (4, .int (nI (scn cs 30).1)), (5, .int (nI (scn cs 30).2)), (0, .ref (ga g 1)), (1, .ref (ga g 178)), (2, .ref (ga g 202)), (3, .int (nI b))]) hx hb dL_isKnown_133 hl (by decide) rfl (fun ls hl => ?_)
  refine k_near (nn := ns.length) (mo := (scn cs 30).1) (V := fun n => iI (shk (tQ sd ws ns rs bs) (wQ bs) b n)) (D := fun n => dist (tQ sd ws ns rs bs) b n) (cells2 := 8) (slots2 := 48) C hSh hRf hRl hb3 hnn ⟨by omega, by omega⟩ hK.2.1.1 (fun n hn => r_vib hK.1 hbI (by rw [t0]; omega)) (fun n hn => w_far hRD hK.2 hok hbl hn) hdiv ns.length 0 _ _ H locs ls (by omega) (by omega) (by omega) S (lv_sub hl [0, 1, 3, 4, 5, 6] rfl) (fun H locs ls S hl => ?_)
  refine lv_iconst (v := nI 0) hx hb dL_isKnown_180 (by decide) ?_
  refine lv_istore (lv' := [(6, .int (nI 0)), (0, .ref (ga g 1)), (1, .ref (ga g 178)), (2, .ref (ga g 202)), (3, .int (nI b))]) hx hb dL_isKnown_181 hl (by decide) rfl (fun ls hl => ?_)
  refine k_roads (nr := rs.length) (rad := (bs.getD b (0, 0, 0, [])).2.2.1) (Pn := fun r c => near (tQ sd ws ns rs bs) b r (c : Int)) (nd := fun r => lst (fun q => near (tQ sd ws ns rs bs) b r (q : Int)) 0 1500) (cells2 := 16) (slots2 := 96) C hSh hRf hRl hb3 hrr (by omega) ⟨by omega, by omega⟩ hK.2.1.2.1 r20 g3 (fun r hr => by have h := r_closes (N := 2000) hK.1 hbI (r := r) (by rw [t1]; omega); unfold shut at h; rw [tr] at h; exact h) (fun r c hr hc => w_comes hRD hK.2 hok hbl hr hc) (fun r hr => r_need (Nat.le_refl _) hK.1 hbI (by rw [t1]; omega)) (fun r hr => ?nd) rs.length 0 _ _ H locs ls (by omega) (by omega) (by omega) S (lv_sub hl [0, 1, 2, 3, 4] rfl) (fun H locs ls S hl => ?_)
  case nd =>
    obtain ⟨n1, n2, n3⟩ := lst_spec (fun q => near (tQ sd ws ns rs bs) b r (q : Int)) 1500 0 (near_all hok hbl hr)
    exact ⟨by omega, n2, fun hp => n3 _ (Nat.zero_le _) (by omega)⟩
  refine lv_iconst (v := nI 0) hx hb dL_isKnown_278 (by decide) ?_
  refine lv_istore (lv' := [(6, .int (nI 0)), (0, .ref (ga g 1)), (1, .ref (ga g 178)), (2, .ref (ga g 202)), (3, .int (nI b))]) hx hb dL_isKnown_279 hl (by decide) rfl (fun ls hl => ?_)
  refine k_min C hSh hRf hRl hb3 hRD hok hbl (cells2 := 88) (slots2 := 528) ⟨by omega, by omega⟩ 12 0 _ _ σ H locs ls (by omega) (by omega) (by omega) hK S (lv_sub hl [0, 1, 2, 3, 4] rfl) (fun σ1 H locs ls hK1 hf1 S hl => ?_)
  refine lv_bipush (v := nI 6) hx hb dL_isKnown_400 (by decide) ?_
  refine lv_aload_n hx hb dL_isKnown_402 rfl (lv_at hl 2 rfl) ?_
  refine lv_bipush (v := nI 12) hx hb dL_isKnown_403 (by decide) ?_
  refine d_next (n := 12) C S hSh (by decide) (by decide) ⟨cd_X13_next, ni_RX13, ml_RL_208, in_X13_next, sl_X13_next⟩ ⟨by omega, by omega⟩ hl.1 (Nat.le_of_ble_eq_true rfl) ⟨by omega, by omega⟩ dL_isKnown_405 (fun x9 σ2 H locs hx9 hf2 S hz hk9 => ?_)
  have hK2 := hK1.keep hok hf2
  refine lv_iadd hx hb dL_isKnown_408 ?_
  rw [nI_add]
  refine lv_istore (lv' := [(6, .int (nI (6 + x9))), (0, .ref (ga g 1)), (1, .ref (ga g 178)), (2, .ref (ga g 202)), (3, .int (nI b))]) hx hb dL_isKnown_409 hl (by decide) rfl (fun ls hl => ?_)
  refine lv_iconst (v := nI 0) hx hb dL_isKnown_411 (by decide) ?_
  refine lv_istore (lv' := [(7, .int (nI 0)), (6, .int (nI (6 + x9))), (0, .ref (ga g 1)), (1, .ref (ga g 178)), (2, .ref (ga g 202)), (3, .int (nI b))]) hx hb dL_isKnown_412 hl (by decide) rfl (fun ls hl => ?_)
  refine lv_iconst (v := nI 0) hx hb dL_isKnown_414 (by decide) ?_
  refine lv_istore (lv' := [(8, .int (nI 0)), (7, .int (nI 0)), (6, .int (nI (6 + x9))), (0, .ref (ga g 1)), (1, .ref (ga g 178)), (2, .ref (ga g 202)), (3, .int (nI b))]) hx hb dL_isKnown_415 hl (by decide) rfl (fun ls hl => ?_)
  have hl := lv_sub hl [0, 1, 2, 3, 4, 5, 6] rfl
  refine k_dust (nn := ns.length) (Pd_ := fun n => isD (tQ sd ws ns rs bs) b (6 + x9) n) C hSh hRf hRl hb3 hnn ⟨by omega, by omega⟩ hK2.2.1.1 (fun n hn => w_dusty hRD hK2.2 hok hbl hn (by omega)) ns.length 0 (nI 0) H locs ls (by omega) S hl (fun H locs ls S hl => ?_)
  refine lv_aload_n hx hb dL_isKnown_457 rfl (lv_at hl 2 rfl) ?_
  refine lv_bipush (v := nI 6) hx hb dL_isKnown_458 (by decide) ?_
  refine lv_iload_n hx hb dL_isKnown_460 rfl (lv_at hl 5 rfl) ?_
  refine lv_iload hx hb dL_isKnown_461 (lv_at hl 1 rfl) ?_
  refine lv_iconst (v := nI 0) hx hb dL_isKnown_463 (by decide) ?_
  have hdu := r_dust (N := 2000) hK2.1 hbI (q := 6 + x9) (by omega)
  refine k_asks C S (h_asks_6 hdu hSh hx_1) hRf hRl hl.1 (by decide) ⟨by omega, by omega⟩ dL_isKnown_464 (fun H locs S => ?_)
  refine lv_iload hx hb dL_isKnown_467 (lv_at hl 0 rfl) ?_
  refine lv_icmp_ne (tgt := 504) hx hb dL_isKnown_469 (by decide) (fun c => absurd rfl c) (fun _ => ?_)
  refine lv_aload_n hx hb dL_isKnown_472 rfl (lv_at hl 2 rfl) ?_
  refine lv_bipush (v := nI 6) hx hb dL_isKnown_473 (by decide) ?_
  refine lv_iload_n hx hb dL_isKnown_475 rfl (lv_at hl 5 rfl) ?_
  refine lv_bipush (v := nI 24) hx hb dL_isKnown_476 (by decide) ?_
  refine lv_iconst (v := nI 0) hx hb dL_isKnown_478 (by decide) ?_
  refine k_asks C S (h_asks_6x (r_dustX (N := 2000) hK2.1 hbI) hSh hx_1) hRf hRl hl.1 (by decide) ⟨by omega, by omega⟩ dL_isKnown_479 (fun H locs S => ?_)
  refine lv_ldc (v := (-2000000053 : Int32)) hx hb C.2.2.2.1 (C.2.2.2.2.1.w ct_RL_116) dL_isKnown_482 ?_
  refine lv_icmp_ne (tgt := 504) hx hb dL_isKnown_484 (by decide) (fun c => absurd rfl c) (fun _ => ?_)
  refine lv_aload_n hx hb dL_isKnown_487 rfl (lv_at hl 2 rfl) ?_
  refine lv_bipush (v := nI 7) hx hb dL_isKnown_488 (by decide) ?_
  refine lv_iload_n hx hb dL_isKnown_490 rfl (lv_at hl 5 rfl) ?_
  refine lv_iconst (v := nI 0) hx hb dL_isKnown_491 (by decide) ?_
  refine lv_iconst (v := nI 0) hx hb dL_isKnown_492 (by decide) ?_
  have htm := r_time (N := 2000) hK2.1 hbI
  rw [wQ_0] at htm
  refine k_asks C S (h_asks_7 htm hSh hx_1) hRf hRl hl.1 (by decide) ⟨by omega, by omega⟩ dL_isKnown_493 (fun H locs S => ?_)
  refine lv_iconst (v := (-1 : Int32)) hx hb dL_isKnown_496 (by decide) ?_
  refine lv_icmp_ne (tgt := 504) hx hb dL_isKnown_497 (by decide) (fun c => absurd rfl c) (fun _ => ?_)
  refine lv_iconst (v := (1 : Int32)) hx hb dL_isKnown_500 (by decide) ?_
  refine lv_goto (tgt := 505) hx hb dL_isKnown_501 (by decide) ?_
  refine W.widen (k := 120) (n := 720) (by omega) (by omega) ?_
  exact v_zret C S hr (Or.inr rfl) ⟨rfl, σ2, rfl, fun o j ho => (hf2 o j ho).trans (hf1 o j ho)⟩ dL_isKnown_505
