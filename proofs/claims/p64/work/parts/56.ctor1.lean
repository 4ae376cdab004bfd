/-! ===== the loops of the constructor ===== -/
set_option maxRecDepth 100000 in
theorem cd_X12_neighbour : Cond.code yX12_neighbour cX12_neighbour 3 none ∈ BW := bw_in (List.mem_of_getElem? (i := 793) (by rfl)) (by rfl)
set_option maxRecDepth 100000 in
theorem ml_RX12_129 : Cond.methodLink RX12 129 yX12_neighbour ∈ BW := bw_in (List.mem_of_getElem? (i := 790) (by rfl)) (by rfl)
set_option maxRecDepth 100000 in
theorem in_X12_neighbour : Cond.instanceMethod yX12_neighbour ∈ BW := bw_in (List.mem_of_getElem? (i := 792) (by rfl)) (by rfl)
set_option maxRecDepth 100000 in
theorem pm_X12_neighbour : Cond.privateMethod yX12_neighbour ∈ BW := bw_in (List.mem_of_getElem? (i := 791) (by rfl)) (by rfl)
set_option maxRecDepth 100000 in
theorem fl_RX12_73 : Cond.fieldLink RX12 73 RX12 "roads" "I" ∈ BW := bw_in (List.mem_of_getElem? (i := 827) (by rfl)) (by rfl)
set_option maxRecDepth 100000 in
theorem fl_RX12_76 : Cond.fieldLink RX12 76 RX12 "blasts" "I" ∈ BW := bw_in (List.mem_of_getElem? (i := 829) (by rfl)) (by rfl)
set_option maxRecDepth 100000 in
theorem cd_X12_blast : Cond.code yX12_blast cX12_blast 4 none ∈ BW := bw_in (List.mem_of_getElem? (i := 822) (by rfl)) (by rfl)
set_option maxRecDepth 100000 in
theorem ml_RX12_138 : Cond.methodLink RX12 138 yX12_blast ∈ BW := bw_in (List.mem_of_getElem? (i := 819) (by rfl)) (by rfl)
set_option maxRecDepth 100000 in
theorem in_X12_blast : Cond.instanceMethod yX12_blast ∈ BW := bw_in (List.mem_of_getElem? (i := 821) (by rfl)) (by rfl)
set_option maxRecDepth 100000 in
theorem pm_X12_blast : Cond.privateMethod yX12_blast ∈ BW := bw_in (List.mem_of_getElem? (i := 820) (by rfl)) (by rfl)
theorem dX12_init_337 : decode cX12_init 337 = .ok (.iload_n 2, 1) := by decide +kernel
theorem dX12_init_338 : decode cX12_init 338 = .ok (.bipush 24, 2) := by decide +kernel
theorem dX12_init_340 : decode cX12_init 340 = .ok (.if_icmp .ge 16, 3) := by decide +kernel
theorem dX12_init_343 : decode cX12_init 343 = .ok (.aload_n 0, 1) := by decide +kernel
theorem dX12_init_344 : decode cX12_init 344 = .ok (.getfield 49, 3) := by decide +kernel
theorem dX12_init_347 : decode cX12_init 347 = .ok (.iload_n 2, 1) := by decide +kernel
theorem dX12_init_348 : decode cX12_init 348 = .ok (.iconst (-1), 1) := by decide +kernel
theorem dX12_init_349 : decode cX12_init 349 = .ok (.iastore, 1) := by decide +kernel
theorem dX12_init_350 : decode cX12_init 350 = .ok (.iinc 2 1, 3) := by decide +kernel
theorem dX12_init_353 : decode cX12_init 353 = .ok (.goto (-16), 3) := by decide +kernel
theorem dX12_init_363 : decode cX12_init 363 = .ok (.ifCond .le 106, 3) := by decide +kernel
theorem dX12_init_362 : decode cX12_init 362 = .ok (.iload_n 2, 1) := by decide +kernel
theorem dX12_init_366 : decode cX12_init 366 = .ok (.bipush 6, 2) := by decide +kernel
theorem dX12_init_368 : decode cX12_init 368 = .ok (.aload_n 1, 1) := by decide +kernel
theorem dX12_init_369 : decode cX12_init 369 = .ok (.bipush 12, 2) := by decide +kernel
theorem dX12_init_371 : decode cX12_init 371 = .ok (.invokevirtual 63, 3) := by decide +kernel
theorem dX12_init_374 : decode cX12_init 374 = .ok (.iadd, 1) := by decide +kernel
theorem dX12_init_375 : decode cX12_init 375 = .ok (.istore_n 3, 1) := by decide +kernel
theorem dX12_init_376 : decode cX12_init 376 = .ok (.aload_n 0, 1) := by decide +kernel
theorem dX12_init_377 : decode cX12_init 377 = .ok (.getfield 49, 3) := by decide +kernel
theorem dX12_init_380 : decode cX12_init 380 = .ok (.iload_n 3, 1) := by decide +kernel
theorem dX12_init_381 : decode cX12_init 381 = .ok (.aload_n 1, 1) := by decide +kernel
theorem dX12_init_382 : decode cX12_init 382 = .ok (.bipush 8, 2) := by decide +kernel
theorem dX12_init_384 : decode cX12_init 384 = .ok (.invokevirtual 63, 3) := by decide +kernel
theorem dX12_init_387 : decode cX12_init 387 = .ok (.iastore, 1) := by decide +kernel
theorem dX12_init_388 : decode cX12_init 388 = .ok (.aload_n 0, 1) := by decide +kernel
theorem dX12_init_389 : decode cX12_init 389 = .ok (.getfield 52, 3) := by decide +kernel
theorem dX12_init_392 : decode cX12_init 392 = .ok (.iload_n 3, 1) := by decide +kernel
theorem dX12_init_393 : decode cX12_init 393 = .ok (.aload_n 1, 1) := by decide +kernel
theorem dX12_init_394 : decode cX12_init 394 = .ok (.bipush 12, 2) := by decide +kernel
theorem dX12_init_396 : decode cX12_init 396 = .ok (.invokevirtual 63, 3) := by decide +kernel
theorem dX12_init_399 : decode cX12_init 399 = .ok (.iastore, 1) := by decide +kernel
theorem dX12_init_400 : decode cX12_init 400 = .ok (.aload_n 0, 1) := by decide +kernel
theorem dX12_init_401 : decode cX12_init 401 = .ok (.new 97, 3) := by decide +kernel
theorem dX12_init_404 : decode cX12_init 404 = .ok (.dup, 1) := by decide +kernel
theorem dX12_init_405 : decode cX12_init 405 = .ok (.invokespecial 99, 3) := by decide +kernel
theorem dX12_init_408 : decode cX12_init 408 = .ok (.aload_n 0, 1) := by decide +kernel
theorem dX12_init_409 : decode cX12_init 409 = .ok (.getfield 123, 3) := by decide +kernel
theorem dX12_init_412 : decode cX12_init 412 = .ok (.invokevirtual 102, 3) := by decide +kernel
theorem dX12_init_415 : decode cX12_init 415 = .ok (.ldc 127, 2) := by decide +kernel
theorem dX12_init_417 : decode cX12_init 417 = .ok (.invokevirtual 102, 3) := by decide +kernel
theorem dX12_init_420 : decode cX12_init 420 = .ok (.iload_n 3, 1) := by decide +kernel
theorem dX12_init_421 : decode cX12_init 421 = .ok (.invokevirtual 106, 3) := by decide +kernel
theorem dX12_init_424 : decode cX12_init 424 = .ok (.ldc 109, 2) := by decide +kernel
theorem dX12_init_426 : decode cX12_init 426 = .ok (.invokevirtual 102, 3) := by decide +kernel
theorem dX12_init_429 : decode cX12_init 429 = .ok (.aload_n 0, 1) := by decide +kernel
theorem dX12_init_430 : decode cX12_init 430 = .ok (.getfield 49, 3) := by decide +kernel
theorem dX12_init_433 : decode cX12_init 433 = .ok (.iload_n 3, 1) := by decide +kernel
theorem dX12_init_434 : decode cX12_init 434 = .ok (.iaload, 1) := by decide +kernel
theorem dX12_init_435 : decode cX12_init 435 = .ok (.invokevirtual 106, 3) := by decide +kernel
theorem dX12_init_438 : decode cX12_init 438 = .ok (.ldc 109, 2) := by decide +kernel
theorem dX12_init_440 : decode cX12_init 440 = .ok (.invokevirtual 102, 3) := by decide +kernel
theorem dX12_init_443 : decode cX12_init 443 = .ok (.aload_n 0, 1) := by decide +kernel
theorem dX12_init_444 : decode cX12_init 444 = .ok (.getfield 52, 3) := by decide +kernel
theorem dX12_init_447 : decode cX12_init 447 = .ok (.iload_n 3, 1) := by decide +kernel
theorem dX12_init_448 : decode cX12_init 448 = .ok (.iaload, 1) := by decide +kernel
theorem dX12_init_449 : decode cX12_init 449 = .ok (.invokevirtual 106, 3) := by decide +kernel
theorem dX12_init_452 : decode cX12_init 452 = .ok (.ldc 117, 2) := by decide +kernel
theorem dX12_init_454 : decode cX12_init 454 = .ok (.invokevirtual 102, 3) := by decide +kernel
theorem dX12_init_457 : decode cX12_init 457 = .ok (.invokevirtual 119, 3) := by decide +kernel
theorem dX12_init_460 : decode cX12_init 460 = .ok (.putfield 123, 3) := by decide +kernel
theorem dX12_init_463 : decode cX12_init 463 = .ok (.iinc 2 (-1), 3) := by decide +kernel
theorem dX12_init_466 : decode cX12_init 466 = .ok (.goto (-104), 3) := by decide +kernel
theorem dX12_init_471 : decode cX12_init 471 = .ok (.iload_n 2, 1) := by decide +kernel
theorem dX12_init_472 : decode cX12_init 472 = .ok (.aload_n 0, 1) := by decide +kernel
theorem dX12_init_473 : decode cX12_init 473 = .ok (.getfield 69, 3) := by decide +kernel
theorem dX12_init_476 : decode cX12_init 476 = .ok (.if_icmp .ge 15, 3) := by decide +kernel
theorem dX12_init_479 : decode cX12_init 479 = .ok (.aload_n 0, 1) := by decide +kernel
theorem dX12_init_480 : decode cX12_init 480 = .ok (.aload_n 1, 1) := by decide +kernel
theorem dX12_init_481 : decode cX12_init 481 = .ok (.iload_n 2, 1) := by decide +kernel
theorem dX12_init_482 : decode cX12_init 482 = .ok (.invokevirtual 129, 3) := by decide +kernel
theorem dX12_init_485 : decode cX12_init 485 = .ok (.iinc 2 1, 3) := by decide +kernel
theorem dX12_init_488 : decode cX12_init 488 = .ok (.goto (-17), 3) := by decide +kernel
theorem dX12_init_493 : decode cX12_init 493 = .ok (.iload_n 2, 1) := by decide +kernel
theorem dX12_init_494 : decode cX12_init 494 = .ok (.aload_n 0, 1) := by decide +kernel
theorem dX12_init_495 : decode cX12_init 495 = .ok (.getfield 73, 3) := by decide +kernel
theorem dX12_init_498 : decode cX12_init 498 = .ok (.if_icmp .ge 156, 3) := by decide +kernel
theorem dX12_init_501 : decode cX12_init 501 = .ok (.aload_n 0, 1) := by decide +kernel
theorem dX12_init_502 : decode cX12_init 502 = .ok (.getfield 25, 3) := by decide +kernel
theorem dX12_init_505 : decode cX12_init 505 = .ok (.iload_n 2, 1) := by decide +kernel
theorem dX12_init_506 : decode cX12_init 506 = .ok (.aload_n 1, 1) := by decide +kernel
theorem dX12_init_507 : decode cX12_init 507 = .ok (.sipush 300, 3) := by decide +kernel
theorem dX12_init_510 : decode cX12_init 510 = .ok (.invokevirtual 63, 3) := by decide +kernel
theorem dX12_init_513 : decode cX12_init 513 = .ok (.iastore, 1) := by decide +kernel
theorem dX12_init_514 : decode cX12_init 514 = .ok (.aload_n 0, 1) := by decide +kernel
theorem dX12_init_515 : decode cX12_init 515 = .ok (.getfield 28, 3) := by decide +kernel
theorem dX12_init_518 : decode cX12_init 518 = .ok (.iload_n 2, 1) := by decide +kernel
theorem dX12_init_519 : decode cX12_init 519 = .ok (.aload_n 1, 1) := by decide +kernel
theorem dX12_init_520 : decode cX12_init 520 = .ok (.sipush 300, 3) := by decide +kernel
theorem dX12_init_523 : decode cX12_init 523 = .ok (.invokevirtual 63, 3) := by decide +kernel
theorem dX12_init_526 : decode cX12_init 526 = .ok (.iastore, 1) := by decide +kernel
theorem dX12_init_527 : decode cX12_init 527 = .ok (.aload_n 0, 1) := by decide +kernel
theorem dX12_init_528 : decode cX12_init 528 = .ok (.getfield 31, 3) := by decide +kernel
theorem dX12_init_531 : decode cX12_init 531 = .ok (.iload_n 2, 1) := by decide +kernel
theorem dX12_init_532 : decode cX12_init 532 = .ok (.aload_n 1, 1) := by decide +kernel
theorem dX12_init_533 : decode cX12_init 533 = .ok (.sipush 300, 3) := by decide +kernel
theorem dX12_init_536 : decode cX12_init 536 = .ok (.invokevirtual 63, 3) := by decide +kernel
theorem dX12_init_539 : decode cX12_init 539 = .ok (.iastore, 1) := by decide +kernel
theorem dX12_init_540 : decode cX12_init 540 = .ok (.aload_n 0, 1) := by decide +kernel
theorem dX12_init_541 : decode cX12_init 541 = .ok (.getfield 34, 3) := by decide +kernel
theorem dX12_init_544 : decode cX12_init 544 = .ok (.iload_n 2, 1) := by decide +kernel
theorem dX12_init_545 : decode cX12_init 545 = .ok (.aload_n 1, 1) := by decide +kernel
theorem dX12_init_546 : decode cX12_init 546 = .ok (.sipush 300, 3) := by decide +kernel
theorem dX12_init_549 : decode cX12_init 549 = .ok (.invokevirtual 63, 3) := by decide +kernel
theorem dX12_init_552 : decode cX12_init 552 = .ok (.iastore, 1) := by decide +kernel
theorem dX12_init_553 : decode cX12_init 553 = .ok (.aload_n 0, 1) := by decide +kernel
theorem dX12_init_554 : decode cX12_init 554 = .ok (.new 97, 3) := by decide +kernel
theorem dX12_init_557 : decode cX12_init 557 = .ok (.dup, 1) := by decide +kernel
theorem dX12_init_558 : decode cX12_init 558 = .ok (.invokespecial 99, 3) := by decide +kernel
theorem dX12_init_561 : decode cX12_init 561 = .ok (.aload_n 0, 1) := by decide +kernel
theorem dX12_init_562 : decode cX12_init 562 = .ok (.getfield 123, 3) := by decide +kernel
theorem dX12_init_565 : decode cX12_init 565 = .ok (.invokevirtual 102, 3) := by decide +kernel
theorem dX12_init_568 : decode cX12_init 568 = .ok (.ldc 133, 2) := by decide +kernel
theorem dX12_init_570 : decode cX12_init 570 = .ok (.invokevirtual 102, 3) := by decide +kernel
theorem dX12_init_573 : decode cX12_init 573 = .ok (.bipush 114, 2) := by decide +kernel
theorem dX12_init_575 : decode cX12_init 575 = .ok (.iload_n 2, 1) := by decide +kernel
theorem dX12_init_576 : decode cX12_init 576 = .ok (.iadd, 1) := by decide +kernel
theorem dX12_init_577 : decode cX12_init 577 = .ok (.i2c, 1) := by decide +kernel
theorem dX12_init_578 : decode cX12_init 578 = .ok (.invokevirtual 135, 3) := by decide +kernel
theorem dX12_init_581 : decode cX12_init 581 = .ok (.ldc 109, 2) := by decide +kernel
theorem dX12_init_583 : decode cX12_init 583 = .ok (.invokevirtual 102, 3) := by decide +kernel
theorem dX12_init_586 : decode cX12_init 586 = .ok (.aload_n 0, 1) := by decide +kernel
theorem dX12_init_587 : decode cX12_init 587 = .ok (.getfield 25, 3) := by decide +kernel
theorem dX12_init_590 : decode cX12_init 590 = .ok (.iload_n 2, 1) := by decide +kernel
theorem dX12_init_591 : decode cX12_init 591 = .ok (.iaload, 1) := by decide +kernel
theorem dX12_init_592 : decode cX12_init 592 = .ok (.invokevirtual 106, 3) := by decide +kernel
theorem dX12_init_595 : decode cX12_init 595 = .ok (.ldc 109, 2) := by decide +kernel
theorem dX12_init_597 : decode cX12_init 597 = .ok (.invokevirtual 102, 3) := by decide +kernel
theorem dX12_init_600 : decode cX12_init 600 = .ok (.aload_n 0, 1) := by decide +kernel
theorem dX12_init_601 : decode cX12_init 601 = .ok (.getfield 28, 3) := by decide +kernel
theorem dX12_init_604 : decode cX12_init 604 = .ok (.iload_n 2, 1) := by decide +kernel
theorem dX12_init_605 : decode cX12_init 605 = .ok (.iaload, 1) := by decide +kernel
theorem dX12_init_606 : decode cX12_init 606 = .ok (.invokevirtual 106, 3) := by decide +kernel
theorem dX12_init_609 : decode cX12_init 609 = .ok (.ldc 109, 2) := by decide +kernel
theorem dX12_init_611 : decode cX12_init 611 = .ok (.invokevirtual 102, 3) := by decide +kernel
theorem dX12_init_614 : decode cX12_init 614 = .ok (.aload_n 0, 1) := by decide +kernel
theorem dX12_init_615 : decode cX12_init 615 = .ok (.getfield 31, 3) := by decide +kernel
theorem dX12_init_618 : decode cX12_init 618 = .ok (.iload_n 2, 1) := by decide +kernel
theorem dX12_init_619 : decode cX12_init 619 = .ok (.iaload, 1) := by decide +kernel
theorem dX12_init_620 : decode cX12_init 620 = .ok (.invokevirtual 106, 3) := by decide +kernel
theorem dX12_init_623 : decode cX12_init 623 = .ok (.ldc 109, 2) := by decide +kernel
theorem dX12_init_625 : decode cX12_init 625 = .ok (.invokevirtual 102, 3) := by decide +kernel
theorem dX12_init_628 : decode cX12_init 628 = .ok (.aload_n 0, 1) := by decide +kernel
theorem dX12_init_629 : decode cX12_init 629 = .ok (.getfield 34, 3) := by decide +kernel
theorem dX12_init_632 : decode cX12_init 632 = .ok (.iload_n 2, 1) := by decide +kernel
theorem dX12_init_633 : decode cX12_init 633 = .ok (.iaload, 1) := by decide +kernel
theorem dX12_init_634 : decode cX12_init 634 = .ok (.invokevirtual 106, 3) := by decide +kernel
theorem dX12_init_637 : decode cX12_init 637 = .ok (.ldc 117, 2) := by decide +kernel
theorem dX12_init_639 : decode cX12_init 639 = .ok (.invokevirtual 102, 3) := by decide +kernel
theorem dX12_init_642 : decode cX12_init 642 = .ok (.invokevirtual 119, 3) := by decide +kernel
theorem dX12_init_645 : decode cX12_init 645 = .ok (.putfield 123, 3) := by decide +kernel
theorem dX12_init_648 : decode cX12_init 648 = .ok (.iinc 2 1, 3) := by decide +kernel
theorem dX12_init_651 : decode cX12_init 651 = .ok (.goto (-158), 3) := by decide +kernel
theorem dX12_init_656 : decode cX12_init 656 = .ok (.iload_n 2, 1) := by decide +kernel
theorem dX12_init_657 : decode cX12_init 657 = .ok (.aload_n 0, 1) := by decide +kernel
theorem dX12_init_658 : decode cX12_init 658 = .ok (.getfield 76, 3) := by decide +kernel
theorem dX12_init_661 : decode cX12_init 661 = .ok (.if_icmp .ge 15, 3) := by decide +kernel
theorem dX12_init_664 : decode cX12_init 664 = .ok (.aload_n 0, 1) := by decide +kernel
theorem dX12_init_665 : decode cX12_init 665 = .ok (.aload_n 1, 1) := by decide +kernel
theorem dX12_init_666 : decode cX12_init 666 = .ok (.iload_n 2, 1) := by decide +kernel
theorem dX12_init_667 : decode cX12_init 667 = .ok (.invokevirtual 138, 3) := by decide +kernel
theorem dX12_init_670 : decode cX12_init 670 = .ok (.iinc 2 1, 3) := by decide +kernel
theorem dX12_init_673 : decode cX12_init 673 = .ok (.goto (-17), 3) := by decide +kernel
theorem nI_dec (n : Nat) : nI (n + 1) + Int32.ofInt (-1) = nI n := by
  rw [show Int32.ofInt (-1) = (-1 : Int32) from by decide]
  exact (Int32.sub_eq_add_neg (nI (n + 1)) 1).symm.trans (nI_pred n)
def prWs : List WDt → List Nat
  | [] => []
  | w :: ws => prW w ++ prWs ws
def wF : List WDt → Int32 → Nat → Int32
  | [], x, _ => x
  | w :: ws, x, h => wF ws (if w.1 = h then nI w.2.1 else x) h
def sF : List WDt → Int32 → Nat → Int32
  | [], x, _ => x
  | w :: ws, x, h => sF ws (if w.1 = h then nI w.2.2 else x) h
def prNs (i : Nat) : List NDt → List Nat
  | [] => []
  | d :: ds => prN i d ++ prNs (i + 1) ds
def prRs (i : Nat) : List RDt → List Nat
  | [] => []
  | d :: ds => prR i d ++ prRs (i + 1) ds
def prBs (i : Nat) : List BDt → List Nat
  | [] => []
  | d :: ds => prB i d ++ prBs (i + 1) ds
section VCL
variable {l : Launch} {g : GL} {p : Program} {e : Jvm.Env} {R0 : Room} {s : State} {m : MethodId} {args : Array Value} {below : List Frame} {meth : Method} {c : Code} {Q : State → Prop} {L : Nat → Nat → Int64}
set_option maxHeartbeats 4000000 in
set_option maxRecDepth 100000 in
theorem n_fillL (C : Cx l g p s m meth c cX12_init 4 RX12) {R : Nat → Nat → Nat} {a v : Nat} {t : List Nat} (hRD : RDr R) (hTL : TL g R a v) : ∀ (n i cells slots : Nat) (σ : SI) (H : Heap) (locs : List Loc) (ls : Array Slot), S2 g s σ R L H locs → TXt g a v t H → lv_has ls 4 [(2, .int (nI i)), (0, .ref (ga g 178)), (1, .ref (ga g 202))] → i + n = 24 → (∀ (σ' : SI) (H' : Heap) (locs' : List Loc) (ls' : Array Slot), S2 g s σ' R L H' locs' → TXt g a v t H' → lv_has ls' 4 [(2, .int (nI 24)), (0, .ref (ga g 178)), (1, .ref (ga g 202))] → (∀ j, i ≤ j → j < 24 → σ' 192 j = -1) → (∀ o j, ¬ (o = 192 ∧ i ≤ j) → σ' o j = σ o j) → W p l e R0 s m args below meth c H' locs' cells slots Q (F0 m 356 ls' [])) → W p l e R0 s m args below meth c H locs cells slots Q (F0 m 337 ls []) := by
  have hx := C.1
  have hb := C.2.1
  intro n
  induction n with
  | zero =>
    intro i cells slots σ H locs ls S hT hl hi kk
    obtain rfl : i = 24 := by omega
    refine lv_iload_n hx hb dX12_init_337 rfl (lv_at hl 0 rfl) ?_
    refine lv_bipush (v := nI 24) hx hb dX12_init_338 (by decide) ?_
    refine lv_icmp_ge (tgt := 356) hx hb dX12_init_340 (by decide) (fun _ => ?_) (fun c => absurd (by decide) c)
    exact kk σ H locs ls S hT hl (fun j h1 h2 => by omega) (fun o j _ => rfl)
  | succ n ih =>
    intro i cells slots σ H locs ls S hT hl hi kk
    refine lv_iload_n hx hb dX12_init_337 rfl (lv_at hl 0 rfl) ?_
    refine lv_bipush (v := nI 24) hx hb dX12_init_338 (by decide) ?_
    refine lv_icmp_ge (tgt := 356) hx hb dX12_init_340 (by decide) (fun c => absurd c (nI_ge (by omega) (by decide))) (fun _ => ?_)
    refine lv_aload_n hx hb dX12_init_343 rfl (lv_at hl 1 rfl) ?_
    refine d_getA C S 22 192 (by decide) rfl rfl (hRD.1 13 (by decide)) (by decide) fl_RX12_49 dX12_init_344 ?_
    refine lv_iload_n hx hb dX12_init_347 rfl (lv_at hl 0 rfl) ?_
    refine lv_iconst (v := (-1 : Int32)) hx hb dX12_init_348 (by decide) ?_
    refine d_iast (k := i) (len := 24) C S (by decide) (⟨by decide +kernel, by decide, by decide⟩ : Ok 202 192 10024) (by omega) dX12_init_349 (fun s1 H1 locs1 he2 hf3 S hz hk => ?_)
    have hT := hT.upz hTL.2.1 hTL.2.2 hk
    refine lv_iinc (v := nI (i + 1)) (lv' := [(2, .int (nI (i + 1))), (0, .ref (ga g 178)), (1, .ref (ga g 202))]) hx hb dX12_init_350 hl (k := 0) rfl (nI_1 i) (by decide) rfl (fun ls hl => ?_)
    refine lv_goto (tgt := 337) hx hb dX12_init_353 (by decide) ?_
    refine ih (i + 1) _ _ _ _ _ ls S hT hl (by omega) (fun σ' H' locs' ls' S hT hl hv hfr => kk σ' H' locs' ls' S hT hl (fun j h1 h2 => ?_) (fun o j h => (hfr o j (by omega)).trans (hf3 o j (by omega))))
    by_cases q : j = i
    · rw [q]
      exact (hfr 192 i (by omega)).trans he2
    · exact hv j (by omega) h2
set_option maxHeartbeats 4000000 in
set_option maxRecDepth 100000 in
theorem n_windL (C : Cx l g p s m meth c cX12_init 4 RX12) (hg : gZ g = 1) {cells2 slots2 : Nat} (hRf : 9 ≤ R0.frames) (hRl : 576 ≤ R0.locals) (hRc : cells2 ≤ R0.cells) (hRs : slots2 ≤ R0.slots) : ∀ (n : Nat) (cells slots : Nat) (σ : SI) (R : Nat → Nat → Nat) (a v : Nat) (t : List Nat) (H : Heap) (locs : List Loc) (ls : Array Slot), S2 g s σ R L H locs → RDr R → ShR R → TL g R a v → Asc t → TXt g a v t H → lv_has ls 4 [(2, .int (nI n)), (0, .ref (ga g 178)), (1, .ref (ga g 202))] → n ≤ 2 → t.length + 14 * n ≤ 400 → cells + n * 12 ≤ cells2 → slots + n * 9200 ≤ slots2 → (∀ (σ' : SI) (R' : Nat → Nat → Nat) (a' v' : Nat) (t' : List Nat) (ws : List WDt) (H' : Heap) (locs' : List Loc) (ls' : Array Slot), S2 g s σ' R' L H' locs' → RDr R' → ShR R' → TL g R' a' v' → Asc t' → TXt g a' v' t' H' → lv_has ls' 4 [(2, .int (nI 0)), (0, .ref (ga g 178)), (1, .ref (ga g 202))] → ws.length = n → (∀ w ∈ ws, WdOk w) → t' = t ++ prWs ws → t'.length ≤ t.length + 14 * n → (∀ h, σ' 192 h = wF ws (σ 192 h) h) → (∀ h, σ' 193 h = sF ws (σ 193 h) h) → (∀ o j, o ≠ 202 → o ≠ 192 → o ≠ 193 → σ' o j = σ o j) → W p l e R0 s m args below meth c H' locs' cells2 slots2 Q (F0 m 469 ls' [])) → W p l e R0 s m args below meth c H locs cells slots Q (F0 m 362 ls []) := by
  have hx := C.1
  have hb := C.2.1
  intro n
  induction n with
  | zero =>
    intro cells slots σ R a v t H locs ls S hRD hSh hTL hA hT hl hn ht hcl hsl kk
    refine lv_iload_n hx hb dX12_init_362 rfl (lv_at hl 0 rfl) ?_
    refine lv_if_le (tgt := 469) hx hb dX12_init_363 (by decide) (fun _ => ?_) (fun c => absurd (by decide) c)
    refine W.widen (k := cells2) (n := slots2) (by omega) (by omega) ?_
    exact kk σ R a v t [] H locs ls S hRD hSh hTL hA hT hl rfl (fun c hc => by cases hc) (by rw [show prWs [] = ([] : List Nat) from rfl, List.append_nil]) (by omega) (fun h => rfl) (fun h => rfl) (fun o j _ _ _ => rfl)
  | succ n ih =>
    intro cells slots σ R a v t H locs ls S hRD hSh hTL hA hT hl hn ht hcl hsl kk
    refine lv_iload_n hx hb dX12_init_362 rfl (lv_at hl 0 rfl) ?_
    refine lv_if_le (tgt := 469) hx hb dX12_init_363 (by decide) (fun c => absurd c (nI_nle (by omega) (by omega))) (fun _ => ?_)
    refine lv_bipush (v := nI 6) hx hb dX12_init_366 (by decide) ?_
    refine lv_aload_n hx hb dX12_init_368 rfl (lv_at hl 2 rfl) ?_
    refine lv_bipush (v := nI 12) hx hb dX12_init_369 (by decide) ?_
    refine d_next (n := 12) C S hSh (by decide) (by decide) ⟨cd_X13_next, ni_RX13, ml_RX12_63, in_X13_next, sl_X13_next⟩ ⟨by omega, by omega⟩ hl.1 (Nat.le_of_ble_eq_true rfl) ⟨by omega, by omega⟩ dX12_init_371 (fun x1 s2 H1 locs1 hx1 hf3 S hz hk => ?_)
    have hT := hT.upz hTL.2.1 hTL.2.2 hk
    refine lv_iadd hx hb dX12_init_374 ?_
    rw [nI_add]
    refine lv_istore_n (lv' := [(3, .int (nI (6 + x1))), (2, .int (nI (n + 1))), (0, .ref (ga g 178)), (1, .ref (ga g 202))]) hx hb dX12_init_375 rfl hl (by decide) rfl (fun ls hl => ?_)
    refine lv_aload_n hx hb dX12_init_376 rfl (lv_at hl 2 rfl) ?_
    refine d_getA C S 22 192 (by decide) rfl rfl (hRD.1 13 (by decide)) (by decide) fl_RX12_49 dX12_init_377 ?_
    refine lv_iload_n hx hb dX12_init_380 rfl (lv_at hl 0 rfl) ?_
    refine lv_aload_n hx hb dX12_init_381 rfl (lv_at hl 3 rfl) ?_
    refine lv_bipush (v := nI 8) hx hb dX12_init_382 (by decide) ?_
    refine d_next (n := 8) C S hSh (by decide) (by decide) ⟨cd_X13_next, ni_RX13, ml_RX12_63, in_X13_next, sl_X13_next⟩ ⟨by omega, by omega⟩ hl.1 (Nat.le_of_ble_eq_true rfl) ⟨by omega, by omega⟩ dX12_init_384 (fun x4 s5 H1 locs1 hx4 hf6 S hz hk => ?_)
    have hT := hT.upz hTL.2.1 hTL.2.2 hk
    refine d_iast (k := 6 + x1) (len := 24) C S (by decide) (⟨by decide +kernel, by decide, by decide⟩ : Ok 202 192 10024) (by omega) dX12_init_387 (fun s7 H1 locs1 he8 hf9 S hz hk => ?_)
    have hT := hT.upz hTL.2.1 hTL.2.2 hk
    refine lv_aload_n hx hb dX12_init_388 rfl (lv_at hl 2 rfl) ?_
    refine d_getA C S 23 193 (by decide) rfl rfl (hRD.1 14 (by decide)) (by decide) fl_RX12_52 dX12_init_389 ?_
    refine lv_iload_n hx hb dX12_init_392 rfl (lv_at hl 0 rfl) ?_
    refine lv_aload_n hx hb dX12_init_393 rfl (lv_at hl 3 rfl) ?_
    refine lv_bipush (v := nI 12) hx hb dX12_init_394 (by decide) ?_
    refine d_next (n := 12) C S hSh (by decide) (by decide) ⟨cd_X13_next, ni_RX13, ml_RX12_63, in_X13_next, sl_X13_next⟩ ⟨by omega, by omega⟩ hl.1 (Nat.le_of_ble_eq_true rfl) ⟨by omega, by omega⟩ dX12_init_396 (fun x10 s11 H1 locs1 hx10 hf12 S hz hk => ?_)
    have hT := hT.upz hTL.2.1 hTL.2.2 hk
    refine d_iast (k := 6 + x1) (len := 24) C S (by decide) (⟨by decide +kernel, by decide, by decide⟩ : Ok 202 193 10024) (by omega) dX12_init_399 (fun s13 H1 locs1 he14 hf15 S hz hk => ?_)
    have hT := hT.upz hTL.2.1 hTL.2.2 hk
    refine lv_aload_n hx hb dX12_init_400 rfl (lv_at hl 2 rfl) ?_
    refine t_new C hg S (by have h1 := hT.lt; have h2 := hTL.2.1; omega) ⟨by omega, by omega⟩ hl.1 (Nat.le_of_ble_eq_true rfl) ⟨by omega, by omega⟩ dX12_init_401 dX12_init_404 dX12_init_405 (fun Z H1 locs1 hZe S hZ hH hk hB => ?_)
    have haZ : a < Z := by have h1 := hT.lt; omega
    have hvZ : v < Z := by have h1 := hT.lt; omega
    have hT := hT.kept haZ hvZ hk
    refine lv_aload_n hx hb dX12_init_408 rfl (lv_at hl 2 rfl) ?_
    refine e_getT C S hTL fl_RX12_123 dX12_init_409 ?_
    refine t_txt C hg S hZ hH hB hT haZ hvZ hA (by simp only [List.length_nil]; omega) ⟨by omega, by omega⟩ hl.1 (Nat.le_of_ble_eq_true rfl) ⟨by omega, by omega⟩ dX12_init_412 (fun H1 locs1 S hz hk hB => ?_)
    have hH := Nat.le_trans hH hz
    have hT := hT.kept haZ hvZ hk
    refine x_ldcs C (k := 127) (tx := "wind ") (ia := 16) (by decide) dX12_init_415 ?_
    refine t_cst (i := 16) C hg S hZ hH hB (by decide) (by simp only [List.length_append, List.length_nil, List.length_cons, dec_len]; omega) ⟨by omega, by omega⟩ hl.1 (Nat.le_of_ble_eq_true rfl) ⟨by omega, by omega⟩ dX12_init_417 (fun H1 locs1 S hz hk hB => ?_)
    have hH := Nat.le_trans hH hz
    have hT := hT.kept haZ hvZ hk
    refine lv_iload_n hx hb dX12_init_420 rfl (lv_at hl 0 rfl) ?_
    refine t_int (n := 6 + x1) C hg S hZ hH hB (by omega) (by simp only [List.length_append, List.length_nil, List.length_cons, dec_len]; have : (kwL 16).length = 5 := rfl; omega) ⟨by omega, by omega⟩ hl.1 (Nat.le_of_ble_eq_true rfl) ⟨by omega, by omega⟩ dX12_init_421 (fun H1 locs1 S hz hk hB => ?_)
    have hH := Nat.le_trans hH hz
    have hT := hT.kept haZ hvZ hk
    refine x_ldcs C (k := 109) (tx := " ") (ia := 11) (by decide) dX12_init_424 ?_
    refine t_cst (i := 11) C hg S hZ hH hB (by decide) (by simp only [List.length_append, List.length_nil, List.length_cons, dec_len]; have : (kwL 16).length = 5 := rfl; have := dg_in (6 + x1); omega) ⟨by omega, by omega⟩ hl.1 (Nat.le_of_ble_eq_true rfl) ⟨by omega, by omega⟩ dX12_init_426 (fun H1 locs1 S hz hk hB => ?_)
    have hH := Nat.le_trans hH hz
    have hT := hT.kept haZ hvZ hk
    refine lv_aload_n hx hb dX12_init_429 rfl (lv_at hl 2 rfl) ?_
    refine d_getA C S 22 192 (by decide) rfl rfl (hRD.1 13 (by decide)) (by decide) fl_RX12_49 dX12_init_430 ?_
    refine lv_iload_n hx hb dX12_init_433 rfl (lv_at hl 0 rfl) ?_
    refine d_iald (k := 6 + x1) (len := 24) C S (by decide) (⟨by decide +kernel, by decide, by decide⟩ : Ok 202 192 10024) (by omega) (show s13 192 (6 + x1) = nI x4 from by rw [hf15 192 (6 + x1) (by omega), hf12 192 (6 + x1) (by omega), he8]) dX12_init_434 ?_
    refine t_int (n := x4) C hg S hZ hH hB (by omega) (by simp only [List.length_append, List.length_nil, List.length_cons, dec_len]; have : (kwL 16).length = 5 := rfl; have := dg_in (6 + x1); have : (kwL 11).length = 1 := rfl; omega) ⟨by omega, by omega⟩ hl.1 (Nat.le_of_ble_eq_true rfl) ⟨by omega, by omega⟩ dX12_init_435 (fun H1 locs1 S hz hk hB => ?_)
    have hH := Nat.le_trans hH hz
    have hT := hT.kept haZ hvZ hk
    refine x_ldcs C (k := 109) (tx := " ") (ia := 11) (by decide) dX12_init_438 ?_
    refine t_cst (i := 11) C hg S hZ hH hB (by decide) (by simp only [List.length_append, List.length_nil, List.length_cons, dec_len]; have : (kwL 16).length = 5 := rfl; have := dg_in (6 + x1); have : (kwL 11).length = 1 := rfl; have := dg_in (x4); omega) ⟨by omega, by omega⟩ hl.1 (Nat.le_of_ble_eq_true rfl) ⟨by omega, by omega⟩ dX12_init_440 (fun H1 locs1 S hz hk hB => ?_)
    have hH := Nat.le_trans hH hz
    have hT := hT.kept haZ hvZ hk
    refine lv_aload_n hx hb dX12_init_443 rfl (lv_at hl 2 rfl) ?_
    refine d_getA C S 23 193 (by decide) rfl rfl (hRD.1 14 (by decide)) (by decide) fl_RX12_52 dX12_init_444 ?_
    refine lv_iload_n hx hb dX12_init_447 rfl (lv_at hl 0 rfl) ?_
    refine d_iald (k := 6 + x1) (len := 24) C S (by decide) (⟨by decide +kernel, by decide, by decide⟩ : Ok 202 193 10024) (by omega) (show s13 193 (6 + x1) = nI x10 from by rw [he14]) dX12_init_448 ?_
    refine t_int (n := x10) C hg S hZ hH hB (by omega) (by simp only [List.length_append, List.length_nil, List.length_cons, dec_len]; have : (kwL 16).length = 5 := rfl; have := dg_in (6 + x1); have : (kwL 11).length = 1 := rfl; have := dg_in (x4); have : (kwL 11).length = 1 := rfl; omega) ⟨by omega, by omega⟩ hl.1 (Nat.le_of_ble_eq_true rfl) ⟨by omega, by omega⟩ dX12_init_449 (fun H1 locs1 S hz hk hB => ?_)
    have hH := Nat.le_trans hH hz
    have hT := hT.kept haZ hvZ hk
    refine x_ldcs C (k := 117) (tx := ";") (ia := 15) (by decide) dX12_init_452 ?_
    refine t_cst (i := 15) C hg S hZ hH hB (by decide) (by simp only [List.length_append, List.length_nil, List.length_cons, dec_len]; have : (kwL 16).length = 5 := rfl; have := dg_in (6 + x1); have : (kwL 11).length = 1 := rfl; have := dg_in (x4); have : (kwL 11).length = 1 := rfl; have := dg_in (x10); omega) ⟨by omega, by omega⟩ hl.1 (Nat.le_of_ble_eq_true rfl) ⟨by omega, by omega⟩ dX12_init_454 (fun H1 locs1 S hz hk hB => ?_)
    have hH := Nat.le_trans hH hz
    have hT := hT.kept haZ hvZ hk
    refine t_end C hg S hZ hH hB ⟨by omega, by omega⟩ hl.1 (Nat.le_of_ble_eq_true rfl) ⟨by omega, by omega⟩ dX12_init_457 (fun a16 v17 H1 locs1 S hz hk hT ha9 hv9 => ?_)
    refine e_put C S hRD hSh hT ha9 hv9 fl_RX12_123 dX12_init_460 (fun R19 H1 locs1 S hRD hSh hTL hT => ?_)
    have hlen : (([] : List Nat) ++ t ++ kwL 16 ++ dec (6 + x1) ++ kwL 11 ++ dec x4 ++ kwL 11 ++ dec x10 ++ kwL 15).length ≤ t.length + 14 := by
      simp only [List.length_append, List.length_nil, List.length_cons, dec_len]
      have : (kwL 16).length = 5 := rfl
      have := dgT (v := 6 + x1) (by omega)
      have : (kwL 11).length = 1 := rfl
      have := dgT (v := x4) (by omega)
      have : (kwL 11).length = 1 := rfl
      have := dgT (v := x10) (by omega)
      have : (kwL 15).length = 1 := rfl
      omega
    have hA : Asc (([] : List Nat) ++ t ++ kwL 16 ++ dec (6 + x1) ++ kwL 11 ++ dec x4 ++ kwL 11 ++ dec x10 ++ kwL 15) := ((((((((Asc.nil.app hA).app (Asc.kw (by decide))).app (Asc.dec (by omega))).app (Asc.kw (by decide))).app (Asc.dec (by omega))).app (Asc.kw (by decide))).app (Asc.dec (by omega))).app (Asc.kw (by decide)))
    obtain ⟨t20, et20⟩ : ∃ x, x = ([] : List Nat) ++ t ++ kwL 16 ++ dec (6 + x1) ++ kwL 11 ++ dec x4 ++ kwL 11 ++ dec x10 ++ kwL 15 := ⟨_, rfl⟩
    rw [← et20] at hlen hA hT
    refine lv_iinc (v := nI n) (lv' := [(2, .int (nI n)), (3, .int (nI (6 + x1))), (0, .ref (ga g 178)), (1, .ref (ga g 202))]) hx hb dX12_init_463 hl (k := 1) rfl (nI_dec n) (by decide) rfl (fun ls hl => ?_)
    refine lv_goto (tgt := 362) hx hb dX12_init_466 (by decide) ?_
    have hl : lv_has ls 4 [(2, .int (nI n)), (0, .ref (ga g 178)), (1, .ref (ga g 202))] := lv_sub hl [0, 2, 3] rfl
    have e192 : ∀ h, s13 192 h = if 6 + x1 = h then nI x4 else σ 192 h := by
      intro h
      by_cases q : 6 + x1 = h
      · rw [if_pos q, ← q]
        exact (show s13 192 (6 + x1) = nI x4 from by rw [hf15 192 (6 + x1) (by omega), hf12 192 (6 + x1) (by omega), he8])
      · rw [if_neg q, hf15 192 h (by omega), hf12 192 h (by omega), hf9 192 h (by omega), hf6 192 h (by omega), hf3 192 h (by omega)]
    have e193 : ∀ h, s13 193 h = if 6 + x1 = h then nI x10 else σ 193 h := by
      intro h
      by_cases q : 6 + x1 = h
      · rw [if_pos q, ← q]
        exact (show s13 193 (6 + x1) = nI x10 from by rw [he14])
      · rw [if_neg q, hf15 193 h (by omega), hf12 193 h (by omega), hf9 193 h (by omega), hf6 193 h (by omega), hf3 193 h (by omega)]
    refine ih _ _ s13 _ a16 v17 t20 _ _ ls S hRD hSh hTL hA hT hl (by omega) (by omega) (by omega) (by omega) ?_
    intro σ' R' a' v' t' ws H' locs' ls' S hRD hSh hTL hA hT hl hn' hc ht' hle h192 h193 hf
    refine kk σ' R' a' v' t' ((6 + x1, x4, x10) :: ws) H' locs' ls' S hRD hSh hTL hA hT hl (by rw [List.length_cons, hn']) ?_ ?_ (by omega) (fun h => (h192 h).trans (by rw [e192 h]; rfl)) (fun h => (h193 h).trans (by rw [e193 h]; rfl)) (fun o j h1 h2 h3 => (hf o j h1 h2 h3).trans (by rw [hf15 o j (by omega), hf12 o j (by omega), hf9 o j (by omega), hf6 o j (by omega), hf3 o j (by omega)]))
    · intro w hw
      rcases List.mem_cons.mp hw with rfl | h
      · exact ⟨by show 6 ≤ 6 + x1; omega, by show 6 + x1 < 18; omega, hx4, hx10⟩
      · exact hc w h
    · rw [ht', et20]
      simp only [prWs, prW, List.append_assoc, List.nil_append]
set_option maxHeartbeats 4000000 in
set_option maxRecDepth 100000 in
theorem n_nearL (C : Cx l g p s m meth c cX12_init 4 RX12) (hg : gZ g = 1) {cells2 slots2 : Nat} (hRf : 9 ≤ R0.frames) (hRl : 576 ≤ R0.locals) (hRc : cells2 ≤ R0.cells) (hRs : slots2 ≤ R0.slots) : ∀ (n i : Nat) (cells slots : Nat) (σ : SI) (R : Nat → Nat → Nat) (a v : Nat) (t : List Nat) (H : Heap) (locs : List Loc) (ls : Array Slot), S2 g s σ R L H locs → RDr R → ShR R → TL g R a v → Asc t → TXt g a v t H → lv_has ls 4 [(2, .int (nI i)), (0, .ref (ga g 178)), (1, .ref (ga g 202))] → i + n ≤ 2 → σ 178 0 = nI (i + n) → t.length + 32 * n ≤ 400 → (∀ j, i ≤ j → σ 182 j = nI 0 ∧ σ 183 j = nI 0) → cells + n * 40 ≤ cells2 → slots + n * 30000 ≤ slots2 → (∀ (σ' : SI) (R' : Nat → Nat → Nat) (a' v' : Nat) (t' : List Nat) (ds : List NDt) (H' : Heap) (locs' : List Loc) (ls' : Array Slot), S2 g s σ' R' L H' locs' → RDr R' → ShR R' → TL g R' a' v' → Asc t' → TXt g a' v' t' H' → lv_has ls' 4 [(2, .int (nI (i + n))), (0, .ref (ga g 178)), (1, .ref (ga g 202))] → ds.length = n → (∀ d ∈ ds, NdOk d) → t' = t ++ prNs i ds → t'.length ≤ t.length + 32 * n → (∀ j, j < n → DN σ' (i + j) (ds.getD j (0, 0, 0, none))) → (∀ o j, o ≠ 202 → ¬ ((179 ≤ o ∧ o ≤ 183) ∧ i ≤ j) → σ' o j = σ o j) → W p l e R0 s m args below meth c H' locs' cells2 slots2 Q (F0 m 491 ls' [])) → W p l e R0 s m args below meth c H locs cells slots Q (F0 m 471 ls []) := by
  have hx := C.1
  have hb := C.2.1
  intro n
  induction n with
  | zero =>
    intro i cells slots σ R a v t H locs ls S hRD hSh hTL hA hT hl hi hcnt ht hpre hcl hsl kk
    refine lv_iload_n hx hb dX12_init_471 rfl (lv_at hl 0 rfl) ?_
    refine lv_aload_n hx hb dX12_init_472 rfl (lv_at hl 1 rfl) ?_
    refine d_getI C S 0 (by decide) rfl rfl fl_RX12_69 dX12_init_473 ?_
    rw [show σ 178 0 = nI (i + 0) from (show σ 178 0 = nI (i + 0) from by rw [hcnt])]
    refine lv_icmp_ge (tgt := 491) hx hb dX12_init_476 (by decide) (fun _ => ?_) (fun c => absurd (nI_le (by omega) (by omega)) c)
    refine W.widen (k := cells2) (n := slots2) (by omega) (by omega) ?_
    exact kk σ R a v t [] H locs ls S hRD hSh hTL hA hT hl rfl (fun c hc => by cases hc) (by rw [show prNs i [] = ([] : List Nat) from rfl, List.append_nil]) (by omega) (fun j hj => absurd hj (Nat.not_lt_zero j)) (fun o j _ _ => rfl)
  | succ n ih =>
    intro i cells slots σ R a v t H locs ls S hRD hSh hTL hA hT hl hi hcnt ht hpre hcl hsl kk
    refine lv_iload_n hx hb dX12_init_471 rfl (lv_at hl 0 rfl) ?_
    refine lv_aload_n hx hb dX12_init_472 rfl (lv_at hl 1 rfl) ?_
    refine d_getI C S 0 (by decide) rfl rfl fl_RX12_69 dX12_init_473 ?_
    rw [show σ 178 0 = nI (i + (n + 1)) from (show σ 178 0 = nI (i + (n + 1)) from by rw [hcnt])]
    refine lv_icmp_ge (tgt := 491) hx hb dX12_init_476 (by decide) (fun c => absurd c (nI_ge (by omega) (by omega))) (fun _ => ?_)
    refine lv_aload_n hx hb dX12_init_479 rfl (lv_at hl 1 rfl) ?_
    refine lv_aload_n hx hb dX12_init_480 rfl (lv_at hl 2 rfl) ?_
    refine lv_iload_n hx hb dX12_init_481 rfl (lv_at hl 0 rfl) ?_
    refine d_callD C S (n_near (L := L) hg hRD hSh hTL hA (by omega) (by omega) (hpre i (by omega)).1 (hpre i (by omega)).2) hT ⟨cd_X12_neighbour, ni_RX12, ml_RX12_129, in_X12_neighbour, pm_X12_neighbour, rfl⟩ sl_X12_window ⟨by decide, by decide⟩ rfl ⟨by omega, by omega⟩ hl.1 rfl (Nat.le_of_ble_eq_true rfl) ⟨by omega, by omega⟩ dX12_init_482 (fun σ1 R1 a1 v1 t1 H1 locs1 hp hRD hSh hTL hA hT S => ?_)
    obtain ⟨d, hd, et, hlen, hDN, hfr⟩ := hp
    refine lv_iinc (v := nI (i + 1)) (lv' := [(2, .int (nI (i + 1))), (0, .ref (ga g 178)), (1, .ref (ga g 202))]) hx hb dX12_init_485 hl (k := 0) rfl (nI_1 i) (by decide) rfl (fun ls hl => ?_)
    refine lv_goto (tgt := 471) hx hb dX12_init_488 (by decide) ?_
    refine ih (i + 1) _ _ σ1 _ a1 v1 t1 _ _ ls S hRD hSh hTL hA hT hl (by omega) (by rw [show i + 1 + n = i + (n + 1) by omega, hfr 178 0 (by omega) (by omega)]; exact hcnt) (by omega) (fun j hj => ⟨(hfr 182 j (by omega) (by omega)).trans (hpre j (by omega)).1, (hfr 183 j (by omega) (by omega)).trans (hpre j (by omega)).2⟩) (by omega) (by omega) ?_
    intro σ' R' a' v' t' ds H' locs' ls' S hRD hSh hTL hA hT hl hn hc ht' hle hv hf
    refine kk σ' R' a' v' t' (d :: ds) H' locs' ls' S hRD hSh hTL hA hT (by rw [show i + (n + 1) = i + 1 + n by omega]; exact hl) (by rw [List.length_cons, hn]) ?_ ?_ (by omega) ?_ (fun o j h1 h2 => (hf o j h1 (by omega)).trans (hfr o j h1 (by omega)))
    · intro w hw
      rcases List.mem_cons.mp hw with rfl | h
      · exact hd
      · exact hc w h
    · rw [ht', et]
      simp only [prNs, List.append_assoc]
    · intro j hj
      match j, hj with
      | 0, _ =>
        have f : ∀ o, 179 ≤ o → o ≤ 183 → σ' o i = σ1 o i := fun o h1 h2 => hf o i (by omega) (by omega)
        exact ⟨(f 179 (by omega) (by omega)).trans hDN.1, (f 180 (by omega) (by omega)).trans hDN.2.1, (f 181 (by omega) (by omega)).trans hDN.2.2.1, (f 182 (by omega) (by omega)).trans hDN.2.2.2.1, (f 183 (by omega) (by omega)).trans hDN.2.2.2.2⟩
      | j + 1, hj =>
        have h := hv j (by omega)
        rw [show i + (j + 1) = i + 1 + j by omega]
        exact h
set_option maxHeartbeats 4000000 in
set_option maxRecDepth 100000 in
theorem n_roadL (C : Cx l g p s m meth c cX12_init 4 RX12) (hg : gZ g = 1) {cells2 slots2 : Nat} (hRf : 9 ≤ R0.frames) (hRl : 576 ≤ R0.locals) (hRc : cells2 ≤ R0.cells) (hRs : slots2 ≤ R0.slots) : ∀ (n i : Nat) (cells slots : Nat) (σ : SI) (R : Nat → Nat → Nat) (a v : Nat) (t : List Nat) (H : Heap) (locs : List Loc) (ls : Array Slot), S2 g s σ R L H locs → RDr R → ShR R → TL g R a v → Asc t → TXt g a v t H → lv_has ls 4 [(2, .int (nI i)), (0, .ref (ga g 178)), (1, .ref (ga g 202))] → i + n ≤ 2 → σ 178 1 = nI (i + n) → t.length + 23 * n ≤ 400 → cells + n * 16 ≤ cells2 → slots + n * 13200 ≤ slots2 → (∀ (σ' : SI) (R' : Nat → Nat → Nat) (a' v' : Nat) (t' : List Nat) (ds : List RDt) (H' : Heap) (locs' : List Loc) (ls' : Array Slot), S2 g s σ' R' L H' locs' → RDr R' → ShR R' → TL g R' a' v' → Asc t' → TXt g a' v' t' H' → lv_has ls' 4 [(2, .int (nI (i + n))), (0, .ref (ga g 178)), (1, .ref (ga g 202))] → ds.length = n → (∀ d ∈ ds, RdOk d) → t' = t ++ prRs i ds → t'.length ≤ t.length + 23 * n → (∀ j, j < n → DR σ' (i + j) (ds.getD j (0, 0, 0, 0))) → (∀ o j, o ≠ 202 → ¬ ((184 ≤ o ∧ o ≤ 187) ∧ i ≤ j) → σ' o j = σ o j) → W p l e R0 s m args below meth c H' locs' cells2 slots2 Q (F0 m 654 ls' [])) → W p l e R0 s m args below meth c H locs cells slots Q (F0 m 493 ls []) := by
  have hx := C.1
  have hb := C.2.1
  intro n
  induction n with
  | zero =>
    intro i cells slots σ R a v t H locs ls S hRD hSh hTL hA hT hl hi hcnt ht hcl hsl kk
    refine lv_iload_n hx hb dX12_init_493 rfl (lv_at hl 0 rfl) ?_
    refine lv_aload_n hx hb dX12_init_494 rfl (lv_at hl 1 rfl) ?_
    refine d_getI C S 1 (by decide) rfl rfl fl_RX12_73 dX12_init_495 ?_
    rw [show σ 178 1 = nI (i + 0) from (show σ 178 1 = nI (i + 0) from by rw [hcnt])]
    refine lv_icmp_ge (tgt := 654) hx hb dX12_init_498 (by decide) (fun _ => ?_) (fun c => absurd (nI_le (by omega) (by omega)) c)
    refine W.widen (k := cells2) (n := slots2) (by omega) (by omega) ?_
    exact kk σ R a v t [] H locs ls S hRD hSh hTL hA hT hl rfl (fun c hc => by cases hc) (by rw [show prRs i [] = ([] : List Nat) from rfl, List.append_nil]) (by omega) (fun j hj => absurd hj (Nat.not_lt_zero j)) (fun o j _ _ => rfl)
  | succ n ih =>
    intro i cells slots σ R a v t H locs ls S hRD hSh hTL hA hT hl hi hcnt ht hcl hsl kk
    refine lv_iload_n hx hb dX12_init_493 rfl (lv_at hl 0 rfl) ?_
    refine lv_aload_n hx hb dX12_init_494 rfl (lv_at hl 1 rfl) ?_
    refine d_getI C S 1 (by decide) rfl rfl fl_RX12_73 dX12_init_495 ?_
    rw [show σ 178 1 = nI (i + (n + 1)) from (show σ 178 1 = nI (i + (n + 1)) from by rw [hcnt])]
    refine lv_icmp_ge (tgt := 654) hx hb dX12_init_498 (by decide) (fun c => absurd c (nI_ge (by omega) (by omega))) (fun _ => ?_)
    refine lv_aload_n hx hb dX12_init_501 rfl (lv_at hl 1 rfl) ?_
    refine d_getA C S 14 184 (by decide) rfl rfl (hRD.1 5 (by decide)) (by decide) fl_RX12_25 dX12_init_502 ?_
    refine lv_iload_n hx hb dX12_init_505 rfl (lv_at hl 0 rfl) ?_
    refine lv_aload_n hx hb dX12_init_506 rfl (lv_at hl 2 rfl) ?_
    refine lv_sipush (v := nI 300) hx hb dX12_init_507 (by decide) ?_
    refine d_next (n := 300) C S hSh (by decide) (by decide) ⟨cd_X13_next, ni_RX13, ml_RX12_63, in_X13_next, sl_X13_next⟩ ⟨by omega, by omega⟩ hl.1 (Nat.le_of_ble_eq_true rfl) ⟨by omega, by omega⟩ dX12_init_510 (fun x1 s2 H1 locs1 hx1 hf3 S hz hk => ?_)
    have hT := hT.upz hTL.2.1 hTL.2.2 hk
    refine d_iast (k := i) (len := 2) C S (by decide) (⟨by decide +kernel, by decide, by decide⟩ : Ok 202 184 10002) (by omega) dX12_init_513 (fun s4 H1 locs1 he5 hf6 S hz hk => ?_)
    have hT := hT.upz hTL.2.1 hTL.2.2 hk
    refine lv_aload_n hx hb dX12_init_514 rfl (lv_at hl 1 rfl) ?_
    refine d_getA C S 15 185 (by decide) rfl rfl (hRD.1 6 (by decide)) (by decide) fl_RX12_28 dX12_init_515 ?_
    refine lv_iload_n hx hb dX12_init_518 rfl (lv_at hl 0 rfl) ?_
    refine lv_aload_n hx hb dX12_init_519 rfl (lv_at hl 2 rfl) ?_
    refine lv_sipush (v := nI 300) hx hb dX12_init_520 (by decide) ?_
    refine d_next (n := 300) C S hSh (by decide) (by decide) ⟨cd_X13_next, ni_RX13, ml_RX12_63, in_X13_next, sl_X13_next⟩ ⟨by omega, by omega⟩ hl.1 (Nat.le_of_ble_eq_true rfl) ⟨by omega, by omega⟩ dX12_init_523 (fun x7 s8 H1 locs1 hx7 hf9 S hz hk => ?_)
    have hT := hT.upz hTL.2.1 hTL.2.2 hk
    refine d_iast (k := i) (len := 2) C S (by decide) (⟨by decide +kernel, by decide, by decide⟩ : Ok 202 185 10002) (by omega) dX12_init_526 (fun s10 H1 locs1 he11 hf12 S hz hk => ?_)
    have hT := hT.upz hTL.2.1 hTL.2.2 hk
    refine lv_aload_n hx hb dX12_init_527 rfl (lv_at hl 1 rfl) ?_
    refine d_getA C S 16 186 (by decide) rfl rfl (hRD.1 7 (by decide)) (by decide) fl_RX12_31 dX12_init_528 ?_
    refine lv_iload_n hx hb dX12_init_531 rfl (lv_at hl 0 rfl) ?_
    refine lv_aload_n hx hb dX12_init_532 rfl (lv_at hl 2 rfl) ?_
    refine lv_sipush (v := nI 300) hx hb dX12_init_533 (by decide) ?_
    refine d_next (n := 300) C S hSh (by decide) (by decide) ⟨cd_X13_next, ni_RX13, ml_RX12_63, in_X13_next, sl_X13_next⟩ ⟨by omega, by omega⟩ hl.1 (Nat.le_of_ble_eq_true rfl) ⟨by omega, by omega⟩ dX12_init_536 (fun x13 s14 H1 locs1 hx13 hf15 S hz hk => ?_)
    have hT := hT.upz hTL.2.1 hTL.2.2 hk
    refine d_iast (k := i) (len := 2) C S (by decide) (⟨by decide +kernel, by decide, by decide⟩ : Ok 202 186 10002) (by omega) dX12_init_539 (fun s16 H1 locs1 he17 hf18 S hz hk => ?_)
    have hT := hT.upz hTL.2.1 hTL.2.2 hk
    refine lv_aload_n hx hb dX12_init_540 rfl (lv_at hl 1 rfl) ?_
    refine d_getA C S 17 187 (by decide) rfl rfl (hRD.1 8 (by decide)) (by decide) fl_RX12_34 dX12_init_541 ?_
    refine lv_iload_n hx hb dX12_init_544 rfl (lv_at hl 0 rfl) ?_
    refine lv_aload_n hx hb dX12_init_545 rfl (lv_at hl 2 rfl) ?_
    refine lv_sipush (v := nI 300) hx hb dX12_init_546 (by decide) ?_
    refine d_next (n := 300) C S hSh (by decide) (by decide) ⟨cd_X13_next, ni_RX13, ml_RX12_63, in_X13_next, sl_X13_next⟩ ⟨by omega, by omega⟩ hl.1 (Nat.le_of_ble_eq_true rfl) ⟨by omega, by omega⟩ dX12_init_549 (fun x19 s20 H1 locs1 hx19 hf21 S hz hk => ?_)
    have hT := hT.upz hTL.2.1 hTL.2.2 hk
    refine d_iast (k := i) (len := 2) C S (by decide) (⟨by decide +kernel, by decide, by decide⟩ : Ok 202 187 10002) (by omega) dX12_init_552 (fun s22 H1 locs1 he23 hf24 S hz hk => ?_)
    have hT := hT.upz hTL.2.1 hTL.2.2 hk
    refine lv_aload_n hx hb dX12_init_553 rfl (lv_at hl 1 rfl) ?_
    refine t_new C hg S (by have h1 := hT.lt; have h2 := hTL.2.1; omega) ⟨by omega, by omega⟩ hl.1 (Nat.le_of_ble_eq_true rfl) ⟨by omega, by omega⟩ dX12_init_554 dX12_init_557 dX12_init_558 (fun Z H1 locs1 hZe S hZ hH hk hB => ?_)
    have haZ : a < Z := by have h1 := hT.lt; omega
    have hvZ : v < Z := by have h1 := hT.lt; omega
    have hT := hT.kept haZ hvZ hk
    refine lv_aload_n hx hb dX12_init_561 rfl (lv_at hl 1 rfl) ?_
    refine e_getT C S hTL fl_RX12_123 dX12_init_562 ?_
    refine t_txt C hg S hZ hH hB hT haZ hvZ hA (by simp only [List.length_nil]; omega) ⟨by omega, by omega⟩ hl.1 (Nat.le_of_ble_eq_true rfl) ⟨by omega, by omega⟩ dX12_init_565 (fun H1 locs1 S hz hk hB => ?_)
    have hH := Nat.le_trans hH hz
    have hT := hT.kept haZ hvZ hk
    refine x_ldcs C (k := 133) (tx := "road ") (ia := 17) (by decide) dX12_init_568 ?_
    refine t_cst (i := 17) C hg S hZ hH hB (by decide) (by simp only [List.length_append, List.length_nil, List.length_cons, dec_len]; omega) ⟨by omega, by omega⟩ hl.1 (Nat.le_of_ble_eq_true rfl) ⟨by omega, by omega⟩ dX12_init_570 (fun H1 locs1 S hz hk hB => ?_)
    have hH := Nat.le_trans hH hz
    have hT := hT.kept haZ hvZ hk
    refine lv_bipush (v := nI 114) hx hb dX12_init_573 (by decide) ?_
    refine lv_iload_n hx hb dX12_init_575 rfl (lv_at hl 0 rfl) ?_
    refine lv_iadd hx hb dX12_init_576 ?_
    rw [nI_add]
    refine lv_i2c (v := (nI (114 + i))) hx hb dX12_init_577 (asc_ch (by omega)) ?_
    refine t_chr (n := 114 + i) C hg S hZ hH hB (by omega) (by simp only [List.length_append, List.length_nil, List.length_cons, dec_len]; have : (kwL 17).length = 5 := rfl; omega) ⟨by omega, by omega⟩ hl.1 (Nat.le_of_ble_eq_true rfl) ⟨by omega, by omega⟩ dX12_init_578 (fun H1 locs1 S hz hk hB => ?_)
    have hH := Nat.le_trans hH hz
    have hT := hT.kept haZ hvZ hk
    refine x_ldcs C (k := 109) (tx := " ") (ia := 11) (by decide) dX12_init_581 ?_
    refine t_cst (i := 11) C hg S hZ hH hB (by decide) (by simp only [List.length_append, List.length_nil, List.length_cons, dec_len]; have : (kwL 17).length = 5 := rfl; omega) ⟨by omega, by omega⟩ hl.1 (Nat.le_of_ble_eq_true rfl) ⟨by omega, by omega⟩ dX12_init_583 (fun H1 locs1 S hz hk hB => ?_)
    have hH := Nat.le_trans hH hz
    have hT := hT.kept haZ hvZ hk
    refine lv_aload_n hx hb dX12_init_586 rfl (lv_at hl 1 rfl) ?_
    refine d_getA C S 14 184 (by decide) rfl rfl (hRD.1 5 (by decide)) (by decide) fl_RX12_25 dX12_init_587 ?_
    refine lv_iload_n hx hb dX12_init_590 rfl (lv_at hl 0 rfl) ?_
    refine d_iald (k := i) (len := 2) C S (by decide) (⟨by decide +kernel, by decide, by decide⟩ : Ok 202 184 10002) (by omega) (show s22 184 i = nI x1 from by rw [hf24 184 i (by omega), hf21 184 i (by omega), hf18 184 i (by omega), hf15 184 i (by omega), hf12 184 i (by omega), hf9 184 i (by omega), he5]) dX12_init_591 ?_
    refine t_int (n := x1) C hg S hZ hH hB (by omega) (by simp only [List.length_append, List.length_nil, List.length_cons, dec_len]; have : (kwL 17).length = 5 := rfl; have : (kwL 11).length = 1 := rfl; omega) ⟨by omega, by omega⟩ hl.1 (Nat.le_of_ble_eq_true rfl) ⟨by omega, by omega⟩ dX12_init_592 (fun H1 locs1 S hz hk hB => ?_)
    have hH := Nat.le_trans hH hz
    have hT := hT.kept haZ hvZ hk
    refine x_ldcs C (k := 109) (tx := " ") (ia := 11) (by decide) dX12_init_595 ?_
    refine t_cst (i := 11) C hg S hZ hH hB (by decide) (by simp only [List.length_append, List.length_nil, List.length_cons, dec_len]; have : (kwL 17).length = 5 := rfl; have : (kwL 11).length = 1 := rfl; have := dg_in (x1); omega) ⟨by omega, by omega⟩ hl.1 (Nat.le_of_ble_eq_true rfl) ⟨by omega, by omega⟩ dX12_init_597 (fun H1 locs1 S hz hk hB => ?_)
    have hH := Nat.le_trans hH hz
    have hT := hT.kept haZ hvZ hk
    refine lv_aload_n hx hb dX12_init_600 rfl (lv_at hl 1 rfl) ?_
    refine d_getA C S 15 185 (by decide) rfl rfl (hRD.1 6 (by decide)) (by decide) fl_RX12_28 dX12_init_601 ?_
    refine lv_iload_n hx hb dX12_init_604 rfl (lv_at hl 0 rfl) ?_
    refine d_iald (k := i) (len := 2) C S (by decide) (⟨by decide +kernel, by decide, by decide⟩ : Ok 202 185 10002) (by omega) (show s22 185 i = nI x7 from by rw [hf24 185 i (by omega), hf21 185 i (by omega), hf18 185 i (by omega), hf15 185 i (by omega), he11]) dX12_init_605 ?_
    refine t_int (n := x7) C hg S hZ hH hB (by omega) (by simp only [List.length_append, List.length_nil, List.length_cons, dec_len]; have : (kwL 17).length = 5 := rfl; have : (kwL 11).length = 1 := rfl; have := dg_in (x1); have : (kwL 11).length = 1 := rfl; omega) ⟨by omega, by omega⟩ hl.1 (Nat.le_of_ble_eq_true rfl) ⟨by omega, by omega⟩ dX12_init_606 (fun H1 locs1 S hz hk hB => ?_)
    have hH := Nat.le_trans hH hz
    have hT := hT.kept haZ hvZ hk
    refine x_ldcs C (k := 109) (tx := " ") (ia := 11) (by decide) dX12_init_609 ?_
    refine t_cst (i := 11) C hg S hZ hH hB (by decide) (by simp only [List.length_append, List.length_nil, List.length_cons, dec_len]; have : (kwL 17).length = 5 := rfl; have : (kwL 11).length = 1 := rfl; have := dg_in (x1); have : (kwL 11).length = 1 := rfl; have := dg_in (x7); omega) ⟨by omega, by omega⟩ hl.1 (Nat.le_of_ble_eq_true rfl) ⟨by omega, by omega⟩ dX12_init_611 (fun H1 locs1 S hz hk hB => ?_)
    have hH := Nat.le_trans hH hz
    have hT := hT.kept haZ hvZ hk
    refine lv_aload_n hx hb dX12_init_614 rfl (lv_at hl 1 rfl) ?_
    refine d_getA C S 16 186 (by decide) rfl rfl (hRD.1 7 (by decide)) (by decide) fl_RX12_31 dX12_init_615 ?_
    refine lv_iload_n hx hb dX12_init_618 rfl (lv_at hl 0 rfl) ?_
    refine d_iald (k := i) (len := 2) C S (by decide) (⟨by decide +kernel, by decide, by decide⟩ : Ok 202 186 10002) (by omega) (show s22 186 i = nI x13 from by rw [hf24 186 i (by omega), hf21 186 i (by omega), he17]) dX12_init_619 ?_
    refine t_int (n := x13) C hg S hZ hH hB (by omega) (by simp only [List.length_append, List.length_nil, List.length_cons, dec_len]; have : (kwL 17).length = 5 := rfl; have : (kwL 11).length = 1 := rfl; have := dg_in (x1); have : (kwL 11).length = 1 := rfl; have := dg_in (x7); have : (kwL 11).length = 1 := rfl; omega) ⟨by omega, by omega⟩ hl.1 (Nat.le_of_ble_eq_true rfl) ⟨by omega, by omega⟩ dX12_init_620 (fun H1 locs1 S hz hk hB => ?_)
    have hH := Nat.le_trans hH hz
    have hT := hT.kept haZ hvZ hk
    refine x_ldcs C (k := 109) (tx := " ") (ia := 11) (by decide) dX12_init_623 ?_
    refine t_cst (i := 11) C hg S hZ hH hB (by decide) (by simp only [List.length_append, List.length_nil, List.length_cons, dec_len]; have : (kwL 17).length = 5 := rfl; have : (kwL 11).length = 1 := rfl; have := dg_in (x1); have : (kwL 11).length = 1 := rfl; have := dg_in (x7); have : (kwL 11).length = 1 := rfl; have := dg_in (x13); omega) ⟨by omega, by omega⟩ hl.1 (Nat.le_of_ble_eq_true rfl) ⟨by omega, by omega⟩ dX12_init_625 (fun H1 locs1 S hz hk hB => ?_)
    have hH := Nat.le_trans hH hz
    have hT := hT.kept haZ hvZ hk
    refine lv_aload_n hx hb dX12_init_628 rfl (lv_at hl 1 rfl) ?_
    refine d_getA C S 17 187 (by decide) rfl rfl (hRD.1 8 (by decide)) (by decide) fl_RX12_34 dX12_init_629 ?_
    refine lv_iload_n hx hb dX12_init_632 rfl (lv_at hl 0 rfl) ?_
    refine d_iald (k := i) (len := 2) C S (by decide) (⟨by decide +kernel, by decide, by decide⟩ : Ok 202 187 10002) (by omega) (show s22 187 i = nI x19 from by rw [he23]) dX12_init_633 ?_
    refine t_int (n := x19) C hg S hZ hH hB (by omega) (by simp only [List.length_append, List.length_nil, List.length_cons, dec_len]; have : (kwL 17).length = 5 := rfl; have : (kwL 11).length = 1 := rfl; have := dg_in (x1); have : (kwL 11).length = 1 := rfl; have := dg_in (x7); have : (kwL 11).length = 1 := rfl; have := dg_in (x13); have : (kwL 11).length = 1 := rfl; omega) ⟨by omega, by omega⟩ hl.1 (Nat.le_of_ble_eq_true rfl) ⟨by omega, by omega⟩ dX12_init_634 (fun H1 locs1 S hz hk hB => ?_)
    have hH := Nat.le_trans hH hz
    have hT := hT.kept haZ hvZ hk
    refine x_ldcs C (k := 117) (tx := ";") (ia := 15) (by decide) dX12_init_637 ?_
    refine t_cst (i := 15) C hg S hZ hH hB (by decide) (by simp only [List.length_append, List.length_nil, List.length_cons, dec_len]; have : (kwL 17).length = 5 := rfl; have : (kwL 11).length = 1 := rfl; have := dg_in (x1); have : (kwL 11).length = 1 := rfl; have := dg_in (x7); have : (kwL 11).length = 1 := rfl; have := dg_in (x13); have : (kwL 11).length = 1 := rfl; have := dg_in (x19); omega) ⟨by omega, by omega⟩ hl.1 (Nat.le_of_ble_eq_true rfl) ⟨by omega, by omega⟩ dX12_init_639 (fun H1 locs1 S hz hk hB => ?_)
    have hH := Nat.le_trans hH hz
    have hT := hT.kept haZ hvZ hk
    refine t_end C hg S hZ hH hB ⟨by omega, by omega⟩ hl.1 (Nat.le_of_ble_eq_true rfl) ⟨by omega, by omega⟩ dX12_init_642 (fun a25 v26 H1 locs1 S hz hk hT ha9 hv9 => ?_)
    refine e_put C S hRD hSh hT ha9 hv9 fl_RX12_123 dX12_init_645 (fun R28 H1 locs1 S hRD hSh hTL hT => ?_)
    have hlen : (([] : List Nat) ++ t ++ kwL 17 ++ [114 + i] ++ kwL 11 ++ dec x1 ++ kwL 11 ++ dec x7 ++ kwL 11 ++ dec x13 ++ kwL 11 ++ dec x19 ++ kwL 15).length ≤ t.length + 23 := by
      simp only [List.length_append, List.length_nil, List.length_cons, dec_len]
      have : (kwL 17).length = 5 := rfl
      have : (kwL 11).length = 1 := rfl
      have := dgS (v := x1) (by omega)
      have : (kwL 11).length = 1 := rfl
      have := dgS (v := x7) (by omega)
      have : (kwL 11).length = 1 := rfl
      have := dgS (v := x13) (by omega)
      have : (kwL 11).length = 1 := rfl
      have := dgS (v := x19) (by omega)
      have : (kwL 15).length = 1 := rfl
      omega
    have hA : Asc (([] : List Nat) ++ t ++ kwL 17 ++ [114 + i] ++ kwL 11 ++ dec x1 ++ kwL 11 ++ dec x7 ++ kwL 11 ++ dec x13 ++ kwL 11 ++ dec x19 ++ kwL 15) := ((((((((((((Asc.nil.app hA).app (Asc.kw (by decide))).app (Asc.one (by omega))).app (Asc.kw (by decide))).app (Asc.dec (by omega))).app (Asc.kw (by decide))).app (Asc.dec (by omega))).app (Asc.kw (by decide))).app (Asc.dec (by omega))).app (Asc.kw (by decide))).app (Asc.dec (by omega))).app (Asc.kw (by decide)))
    obtain ⟨t29, et29⟩ : ∃ x, x = ([] : List Nat) ++ t ++ kwL 17 ++ [114 + i] ++ kwL 11 ++ dec x1 ++ kwL 11 ++ dec x7 ++ kwL 11 ++ dec x13 ++ kwL 11 ++ dec x19 ++ kwL 15 := ⟨_, rfl⟩
    rw [← et29] at hlen hA hT
    refine lv_iinc (v := nI (i + 1)) (lv' := [(2, .int (nI (i + 1))), (0, .ref (ga g 178)), (1, .ref (ga g 202))]) hx hb dX12_init_648 hl (k := 0) rfl (nI_1 i) (by decide) rfl (fun ls hl => ?_)
    refine lv_goto (tgt := 493) hx hb dX12_init_651 (by decide) ?_
    refine ih (i + 1) _ _ s22 _ a25 v26 t29 _ _ ls S hRD hSh hTL hA hT hl (by omega) (by rw [show i + 1 + n = i + (n + 1) by omega]; exact (show s22 178 1 = nI (i + (n + 1)) from by rw [hf24 178 1 (by omega), hf21 178 1 (by omega), hf18 178 1 (by omega), hf15 178 1 (by omega), hf12 178 1 (by omega), hf9 178 1 (by omega), hf6 178 1 (by omega), hf3 178 1 (by omega), hcnt])) (by omega) (by omega) (by omega) ?_
    intro σ' R' a' v' t' ds H' locs' ls' S hRD hSh hTL hA hT hl hn hc ht' hle hv hf
    refine kk σ' R' a' v' t' ((x1, x7, x13, x19) :: ds) H' locs' ls' S hRD hSh hTL hA hT (by rw [show i + (n + 1) = i + 1 + n by omega]; exact hl) (by rw [List.length_cons, hn]) ?_ ?_ (by omega) ?_ (fun o j h1 h2 => (hf o j h1 (by omega)).trans (by rw [hf24 o j (by omega), hf21 o j (by omega), hf18 o j (by omega), hf15 o j (by omega), hf12 o j (by omega), hf9 o j (by omega), hf6 o j (by omega), hf3 o j (by omega)]))
    · intro w hw
      rcases List.mem_cons.mp hw with rfl | h
      · exact ⟨hx1, hx7, hx13, hx19⟩
      · exact hc w h
    · rw [ht', et29]
      simp only [prRs, prR, List.append_assoc, List.nil_append]
    · intro j hj
      match j, hj with
      | 0, _ =>
        exact ⟨(hf 184 i (by omega) (by omega)).trans (show s22 184 i = nI x1 from by rw [hf24 184 i (by omega), hf21 184 i (by omega), hf18 184 i (by omega), hf15 184 i (by omega), hf12 184 i (by omega), hf9 184 i (by omega), he5]), (hf 185 i (by omega) (by omega)).trans (show s22 185 i = nI x7 from by rw [hf24 185 i (by omega), hf21 185 i (by omega), hf18 185 i (by omega), hf15 185 i (by omega), he11]), (hf 186 i (by omega) (by omega)).trans (show s22 186 i = nI x13 from by rw [hf24 186 i (by omega), hf21 186 i (by omega), he17]), (hf 187 i (by omega) (by omega)).trans (show s22 187 i = nI x19 from by rw [he23])⟩
      | j + 1, hj =>
        have h := hv j (by omega)
        rw [show i + (j + 1) = i + 1 + j by omega]
        exact h
set_option maxHeartbeats 4000000 in
set_option maxRecDepth 100000 in
theorem n_blastsL (C : Cx l g p s m meth c cX12_init 4 RX12) (hg : gZ g = 1) {cells2 slots2 : Nat} (hRf : 9 ≤ R0.frames) (hRl : 576 ≤ R0.locals) (hRc : cells2 ≤ R0.cells) (hRs : slots2 ≤ R0.slots) : ∀ (n i : Nat) (cells slots : Nat) (σ : SI) (R : Nat → Nat → Nat) (a v : Nat) (t : List Nat) (H : Heap) (locs : List Loc) (ls : Array Slot), S2 g s σ R L H locs → RDr R → ShR R → TL g R a v → Asc t → TXt g a v t H → lv_has ls 4 [(2, .int (nI i)), (0, .ref (ga g 178)), (1, .ref (ga g 202))] → i + n ≤ 3 → σ 178 2 = nI (i + n) → t.length + 60 * n ≤ 460 → cells + n * 60 ≤ cells2 → slots + n * 40000 ≤ slots2 → (∀ (σ' : SI) (R' : Nat → Nat → Nat) (a' v' : Nat) (t' : List Nat) (ds : List BDt) (H' : Heap) (locs' : List Loc) (ls' : Array Slot), S2 g s σ' R' L H' locs' → RDr R' → ShR R' → TL g R' a' v' → Asc t' → TXt g a' v' t' H' → lv_has ls' 4 [(2, .int (nI (i + n))), (0, .ref (ga g 178)), (1, .ref (ga g 202))] → ds.length = n → (∀ d ∈ ds, BdOk d) → t' = t ++ prBs i ds → t'.length ≤ t.length + 60 * n → (∀ j, j < n → DB σ' (i + j) (ds.getD j (0, 0, 0, []))) → (∀ o j, o ≠ 202 → ¬ ((188 ≤ o ∧ o ≤ 191) ∧ i ≤ j) → ¬ (195 + i ≤ o ∧ o ≤ 197) → ¬ (199 + i ≤ o ∧ o ≤ 201) → σ' o j = σ o j) → W p l e R0 s m args below meth c H' locs' cells2 slots2 Q (F0 m 676 ls' [])) → W p l e R0 s m args below meth c H locs cells slots Q (F0 m 656 ls []) := by
  have hx := C.1
  have hb := C.2.1
  intro n
  induction n with
  | zero =>
    intro i cells slots σ R a v t H locs ls S hRD hSh hTL hA hT hl hi hcnt ht hcl hsl kk
    refine lv_iload_n hx hb dX12_init_656 rfl (lv_at hl 0 rfl) ?_
    refine lv_aload_n hx hb dX12_init_657 rfl (lv_at hl 1 rfl) ?_
    refine d_getI C S 2 (by decide) rfl rfl fl_RX12_76 dX12_init_658 ?_
    rw [show σ 178 2 = nI (i + 0) from (show σ 178 2 = nI (i + 0) from by rw [hcnt])]
    refine lv_icmp_ge (tgt := 676) hx hb dX12_init_661 (by decide) (fun _ => ?_) (fun c => absurd (nI_le (by omega) (by omega)) c)
    refine W.widen (k := cells2) (n := slots2) (by omega) (by omega) ?_
    exact kk σ R a v t [] H locs ls S hRD hSh hTL hA hT hl rfl (fun c hc => by cases hc) (by rw [show prBs i [] = ([] : List Nat) from rfl, List.append_nil]) (by omega) (fun j hj => absurd hj (Nat.not_lt_zero j)) (fun o j _ _ _ _ => rfl)
  | succ n ih =>
    intro i cells slots σ R a v t H locs ls S hRD hSh hTL hA hT hl hi hcnt ht hcl hsl kk
    refine lv_iload_n hx hb dX12_init_656 rfl (lv_at hl 0 rfl) ?_
    refine lv_aload_n hx hb dX12_init_657 rfl (lv_at hl 1 rfl) ?_
    refine d_getI C S 2 (by decide) rfl rfl fl_RX12_76 dX12_init_658 ?_
    rw [show σ 178 2 = nI (i + (n + 1)) from (show σ 178 2 = nI (i + (n + 1)) from by rw [hcnt])]
    refine lv_icmp_ge (tgt := 676) hx hb dX12_init_661 (by decide) (fun c => absurd c (nI_ge (by omega) (by omega))) (fun _ => ?_)
    refine lv_aload_n hx hb dX12_init_664 rfl (lv_at hl 1 rfl) ?_
    refine lv_aload_n hx hb dX12_init_665 rfl (lv_at hl 2 rfl) ?_
    refine lv_iload_n hx hb dX12_init_666 rfl (lv_at hl 0 rfl) ?_
    refine d_callD C S (n_blast (L := L) hg hRD hSh hTL hA (k := i) (by omega) (by omega)) hT ⟨cd_X12_blast, ni_RX12, ml_RX12_138, in_X12_blast, pm_X12_blast, rfl⟩ sl_X12_window ⟨by decide, by decide⟩ rfl ⟨by omega, by omega⟩ hl.1 rfl (Nat.le_of_ble_eq_true rfl) ⟨by omega, by omega⟩ dX12_init_667 (fun σ1 R1 a1 v1 t1 H1 locs1 hp hRD hSh hTL hA hT S => ?_)
    obtain ⟨d, hd, et, hlen, hDB, hfr⟩ := hp
    refine lv_iinc (v := nI (i + 1)) (lv' := [(2, .int (nI (i + 1))), (0, .ref (ga g 178)), (1, .ref (ga g 202))]) hx hb dX12_init_670 hl (k := 0) rfl (nI_1 i) (by decide) rfl (fun ls hl => ?_)
    refine lv_goto (tgt := 656) hx hb dX12_init_673 (by decide) ?_
    refine ih (i + 1) _ _ σ1 _ a1 v1 t1 _ _ ls S hRD hSh hTL hA hT hl (by omega) (by rw [show i + 1 + n = i + (n + 1) by omega, hfr 178 2 (by omega) (by omega) (by omega) (by omega)]; exact hcnt) (by omega) (by omega) (by omega) ?_
    intro σ' R' a' v' t' ds H' locs' ls' S hRD hSh hTL hA hT hl hn hc ht' hle hv hf
    refine kk σ' R' a' v' t' (d :: ds) H' locs' ls' S hRD hSh hTL hA hT (by rw [show i + (n + 1) = i + 1 + n by omega]; exact hl) (by rw [List.length_cons, hn]) ?_ ?_ (by omega) ?_ (fun o j h1 h2 h3 h4 => (hf o j h1 (by omega) (by omega) (by omega)).trans (hfr o j h1 (by omega) (by omega) (by omega)))
    · intro w hw
      rcases List.mem_cons.mp hw with rfl | h
      · exact hd
      · exact hc w h
    · rw [ht', et]
      simp only [prBs, List.append_assoc]
    · intro j hj
      match j, hj with
      | 0, _ =>
        have f : ∀ o, 188 ≤ o → o ≤ 191 → σ' o i = σ1 o i := fun o h1 h2 => hf o i (by omega) (by omega) (by omega) (by omega)
        exact ⟨(f 188 (by omega) (by omega)).trans hDB.1, (f 189 (by omega) (by omega)).trans hDB.2.1, (f 190 (by omega) (by omega)).trans hDB.2.2.1, (f 191 (by omega) (by omega)).trans hDB.2.2.2.1, fun q hq => ⟨(hf (195 + i) q (by omega) (by omega) (by omega) (by omega)).trans (hDB.2.2.2.2 q hq).1, (hf (199 + i) q (by omega) (by omega) (by omega) (by omega)).trans (hDB.2.2.2.2 q hq).2⟩⟩
      | j + 1, hj =>
        have h := hv j (by omega)
        rw [show i + (j + 1) = i + 1 + j by omega]
        exact h
end VCL
