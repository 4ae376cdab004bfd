/-! ===== the constructors: Site twice, BlastPlanner ===== -/
def zI : Sg := (fun _ _ => 0, fun _ _ => 0, fun _ _ => 0, 0)
theorem zr_zI : Zr 0 zI := fun _ _ => ⟨fun _ => rfl, fun _ => rfl, fun _ => rfl⟩
def zb_0 : Sg := alk 1 zI
theorem zr_zb_0 : Zr 1 zb_0 := Zr.alk (k := 1) zr_zI
def zb_1 : Sg := alk 1 (zb_0)
theorem zr_zb_1 : Zr 2 zb_1 := Zr.alk (k := 1) zr_zb_0
def zb_2 : Sg := F_X5 (2) (zb_1)
theorem zr_zb_2 : Zr 4 zb_2 := zr_X5 zr_zb_1
def zb_3 : Sg := uR (zb_2) 1 0 (2)
theorem zr_zb_3 : Zr 4 zb_3 := Zr.uR zr_zb_2 (by decide)
def zb_4 : Sg := alk 1 (zb_3)
theorem zr_zb_4 : Zr 5 zb_4 := Zr.alk (k := 1) zr_zb_3
def zb_5 : Sg := F_X2 (5) (zb_4)
theorem zr_zb_5 : Zr 22 zb_5 := zr_X2 zr_zb_4
def zb_6 : Sg := uR (zb_5) 1 1 (5)
theorem zr_zb_6 : Zr 22 zb_6 := Zr.uR zr_zb_5 (by decide)
def zb_7 : Sg := alk 1 (zb_6)
theorem zr_zb_7 : Zr 23 zb_7 := Zr.alk (k := 1) zr_zb_6
def zb_8 : Sg := F_X6 (23) (zb_7)
theorem zr_zb_8 : Zr 26 zb_8 := zr_X6 zr_zb_7
def zb_9 : Sg := uR (zb_8) 1 2 (23)
theorem zr_zb_9 : Zr 26 zb_9 := Zr.uR zr_zb_8 (by decide)
def zb_10 : Sg := alk 1 (zb_9)
theorem zr_zb_10 : Zr 27 zb_10 := Zr.alk (k := 1) zr_zb_9
def zb_11 : Sg := F_X8 (27) (zb_10)
theorem zr_zb_11 : Zr 28 zb_11 := zr_X8 zr_zb_10
def zb_12 : Sg := uR (zb_11) 1 3 (27)
theorem zr_zb_12 : Zr 28 zb_12 := Zr.uR zr_zb_11 (by decide)
def zb_13 : Sg := alk 1 (zb_12)
theorem zr_zb_13 : Zr 29 zb_13 := Zr.alk (k := 1) zr_zb_12
def zb_14 : Sg := F_X1 (29) (zb_13)
theorem zr_zb_14 : Zr 30 zb_14 := zr_X1 zr_zb_13
def zb_15 : Sg := uR (zb_14) 1 4 (29)
theorem zr_zb_15 : Zr 30 zb_15 := Zr.uR zr_zb_14 (by decide)
def zb_16 : Sg := alk 1 (zb_15)
theorem zr_zb_16 : Zr 31 zb_16 := Zr.alk (k := 1) zr_zb_15
def zb_17 : Sg := F_X3 (31) (zb_16)
theorem zr_zb_17 : Zr 33 zb_17 := zr_X3 zr_zb_16
def zb_18 : Sg := uR (zb_17) 1 5 (31)
theorem zr_zb_18 : Zr 33 zb_18 := Zr.uR zr_zb_17 (by decide)
def zb_19 : Sg := alk 1 (zb_18)
theorem zr_zb_19 : Zr 34 zb_19 := Zr.alk (k := 1) zr_zb_18
def zb_20 : Sg := F_X3 (34) (zb_19)
theorem zr_zb_20 : Zr 36 zb_20 := zr_X3 zr_zb_19
def zb_21 : Sg := uR (zb_20) 1 6 (34)
theorem zr_zb_21 : Zr 36 zb_21 := Zr.uR zr_zb_20 (by decide)
def zb_22 : Sg := alk 1 (zb_21)
theorem zr_zb_22 : Zr 37 zb_22 := Zr.alk (k := 1) zr_zb_21
def zb_23 : Sg := uR (zb_22) 1 7 (37)
theorem zr_zb_23 : Zr 37 zb_23 := Zr.uR zr_zb_22 (by decide)
def zb_24 : Sg := alk 1 (zb_23)
theorem zr_zb_24 : Zr 38 zb_24 := Zr.alk (k := 1) zr_zb_23
def zs38_1 : Sg := alk 1 (zb_24)
theorem zr_zs38_1 : Zr 39 zs38_1 := Zr.alk (k := 1) zr_zb_24
def zs38_2 : Sg := uR (zs38_1) 38 0 (39)
theorem zr_zs38_2 : Zr 39 zs38_2 := Zr.uR zr_zs38_1 (by decide)
def zs38_3 : Sg := alk 1 (zs38_2)
theorem zr_zs38_3 : Zr 40 zs38_3 := Zr.alk (k := 1) zr_zs38_2
def zs38_4 : Sg := uR (zs38_3) 38 1 (40)
theorem zr_zs38_4 : Zr 40 zs38_4 := Zr.uR zr_zs38_3 (by decide)
def zs38_5 : Sg := alk 1 (zs38_4)
theorem zr_zs38_5 : Zr 41 zs38_5 := Zr.alk (k := 1) zr_zs38_4
def zs38_6 : Sg := uR (zs38_5) 38 2 (41)
theorem zr_zs38_6 : Zr 41 zs38_6 := Zr.uR zr_zs38_5 (by decide)
def zs38_7 : Sg := alk 1 (zs38_6)
theorem zr_zs38_7 : Zr 42 zs38_7 := Zr.alk (k := 1) zr_zs38_6
def zs38_8 : Sg := uR (zs38_7) 38 3 (42)
theorem zr_zs38_8 : Zr 42 zs38_8 := Zr.uR zr_zs38_7 (by decide)
def zs38_9 : Sg := alk 1 (zs38_8)
theorem zr_zs38_9 : Zr 43 zs38_9 := Zr.alk (k := 1) zr_zs38_8
def zs38_10 : Sg := uR (zs38_9) 38 4 (43)
theorem zr_zs38_10 : Zr 43 zs38_10 := Zr.uR zr_zs38_9 (by decide)
def zs38_11 : Sg := alk 1 (zs38_10)
theorem zr_zs38_11 : Zr 44 zs38_11 := Zr.alk (k := 1) zr_zs38_10
def zs38_12 : Sg := uR (zs38_11) 38 5 (44)
theorem zr_zs38_12 : Zr 44 zs38_12 := Zr.uR zr_zs38_11 (by decide)
def zs38_13 : Sg := alk 1 (zs38_12)
theorem zr_zs38_13 : Zr 45 zs38_13 := Zr.alk (k := 1) zr_zs38_12
def zs38_14 : Sg := uR (zs38_13) 38 6 (45)
theorem zr_zs38_14 : Zr 45 zs38_14 := Zr.uR zr_zs38_13 (by decide)
def zs38_15 : Sg := alk 1 (zs38_14)
theorem zr_zs38_15 : Zr 46 zs38_15 := Zr.alk (k := 1) zr_zs38_14
def zs38_16 : Sg := uR (zs38_15) 38 7 (46)
theorem zr_zs38_16 : Zr 46 zs38_16 := Zr.uR zr_zs38_15 (by decide)
def zs38_17 : Sg := alk 1 (zs38_16)
theorem zr_zs38_17 : Zr 47 zs38_17 := Zr.alk (k := 1) zr_zs38_16
def zs38_18 : Sg := uR (zs38_17) 38 8 (47)
theorem zr_zs38_18 : Zr 47 zs38_18 := Zr.uR zr_zs38_17 (by decide)
def zs38_19 : Sg := alk 1 (zs38_18)
theorem zr_zs38_19 : Zr 48 zs38_19 := Zr.alk (k := 1) zr_zs38_18
def zs38_20 : Sg := F_X4 (48) (zs38_19)
theorem zr_zs38_20 : Zr 50 zs38_20 := zr_X4 zr_zs38_19
def zs38_21 : Sg := uR (zs38_20) 39 0 48
theorem zr_zs38_21 : Zr 50 zs38_21 := Zr.uR zr_zs38_20 (by decide)
def zs38_22 : Sg := alk 1 (zs38_21)
theorem zr_zs38_22 : Zr 51 zs38_22 := Zr.alk (k := 1) zr_zs38_21
def zs38_23 : Sg := F_X4 (51) (zs38_22)
theorem zr_zs38_23 : Zr 53 zs38_23 := zr_X4 zr_zs38_22
def zs38_24 : Sg := uR (zs38_23) 39 1 51
theorem zr_zs38_24 : Zr 53 zs38_24 := Zr.uR zr_zs38_23 (by decide)
def zs38_25 : Sg := alk 1 (zs38_24)
theorem zr_zs38_25 : Zr 54 zs38_25 := Zr.alk (k := 1) zr_zs38_24
def zs38_26 : Sg := F_X4 (54) (zs38_25)
theorem zr_zs38_26 : Zr 56 zs38_26 := zr_X4 zr_zs38_25
def zs38_27 : Sg := uR (zs38_26) 39 2 54
theorem zr_zs38_27 : Zr 56 zs38_27 := Zr.uR zr_zs38_26 (by decide)
def zs38_28 : Sg := alk 1 (zs38_27)
theorem zr_zs38_28 : Zr 57 zs38_28 := Zr.alk (k := 1) zr_zs38_27
def zs38_29 : Sg := F_X4 (57) (zs38_28)
theorem zr_zs38_29 : Zr 59 zs38_29 := zr_X4 zr_zs38_28
def zs38_30 : Sg := uR (zs38_29) 39 3 57
theorem zr_zs38_30 : Zr 59 zs38_30 := Zr.uR zr_zs38_29 (by decide)
def zs38_31 : Sg := alk 1 (zs38_30)
theorem zr_zs38_31 : Zr 60 zs38_31 := Zr.alk (k := 1) zr_zs38_30
def zs38_32 : Sg := F_X4 (60) (zs38_31)
theorem zr_zs38_32 : Zr 62 zs38_32 := zr_X4 zr_zs38_31
def zs38_33 : Sg := uR (zs38_32) 39 4 60
theorem zr_zs38_33 : Zr 62 zs38_33 := Zr.uR zr_zs38_32 (by decide)
def zs38_34 : Sg := alk 1 (zs38_33)
theorem zr_zs38_34 : Zr 63 zs38_34 := Zr.alk (k := 1) zr_zs38_33
def zs38_35 : Sg := F_X4 (63) (zs38_34)
theorem zr_zs38_35 : Zr 65 zs38_35 := zr_X4 zr_zs38_34
def zs38_36 : Sg := uR (zs38_35) 39 5 63
theorem zr_zs38_36 : Zr 65 zs38_36 := Zr.uR zr_zs38_35 (by decide)
def zs38_37 : Sg := alk 1 (zs38_36)
theorem zr_zs38_37 : Zr 66 zs38_37 := Zr.alk (k := 1) zr_zs38_36
def zs38_38 : Sg := F_X4 (66) (zs38_37)
theorem zr_zs38_38 : Zr 68 zs38_38 := zr_X4 zr_zs38_37
def zs38_39 : Sg := uR (zs38_38) 39 6 66
theorem zr_zs38_39 : Zr 68 zs38_39 := Zr.uR zr_zs38_38 (by decide)
def zs38_40 : Sg := alk 1 (zs38_39)
theorem zr_zs38_40 : Zr 69 zs38_40 := Zr.alk (k := 1) zr_zs38_39
def zs38_41 : Sg := F_X4 (69) (zs38_40)
theorem zr_zs38_41 : Zr 71 zs38_41 := zr_X4 zr_zs38_40
def zs38_42 : Sg := uR (zs38_41) 39 7 69
theorem zr_zs38_42 : Zr 71 zs38_42 := Zr.uR zr_zs38_41 (by decide)
def zs38_43 : Sg := alk 1 (zs38_42)
theorem zr_zs38_43 : Zr 72 zs38_43 := Zr.alk (k := 1) zr_zs38_42
def zs38_44 : Sg := F_X7 (72) (zs38_43)
theorem zr_zs38_44 : Zr 72 zs38_44 := zr_X7 zr_zs38_43
def zs38_45 : Sg := uR (zs38_44) 40 0 72
theorem zr_zs38_45 : Zr 72 zs38_45 := Zr.uR zr_zs38_44 (by decide)
def zs38_46 : Sg := alk 1 (zs38_45)
theorem zr_zs38_46 : Zr 73 zs38_46 := Zr.alk (k := 1) zr_zs38_45
def zs38_47 : Sg := F_X7 (73) (zs38_46)
theorem zr_zs38_47 : Zr 73 zs38_47 := zr_X7 zr_zs38_46
def zs38_48 : Sg := uR (zs38_47) 40 1 73
theorem zr_zs38_48 : Zr 73 zs38_48 := Zr.uR zr_zs38_47 (by decide)
def zs38_49 : Sg := alk 1 (zs38_48)
theorem zr_zs38_49 : Zr 74 zs38_49 := Zr.alk (k := 1) zr_zs38_48
def zs38_50 : Sg := F_X7 (74) (zs38_49)
theorem zr_zs38_50 : Zr 74 zs38_50 := zr_X7 zr_zs38_49
def zs38_51 : Sg := uR (zs38_50) 40 2 74
theorem zr_zs38_51 : Zr 74 zs38_51 := Zr.uR zr_zs38_50 (by decide)
def zs38_52 : Sg := alk 1 (zs38_51)
theorem zr_zs38_52 : Zr 75 zs38_52 := Zr.alk (k := 1) zr_zs38_51
def zs38_53 : Sg := F_X7 (75) (zs38_52)
theorem zr_zs38_53 : Zr 75 zs38_53 := zr_X7 zr_zs38_52
def zs38_54 : Sg := uR (zs38_53) 40 3 75
theorem zr_zs38_54 : Zr 75 zs38_54 := Zr.uR zr_zs38_53 (by decide)
def zs38_55 : Sg := alk 1 (zs38_54)
theorem zr_zs38_55 : Zr 76 zs38_55 := Zr.alk (k := 1) zr_zs38_54
def zs38_56 : Sg := F_X7 (76) (zs38_55)
theorem zr_zs38_56 : Zr 76 zs38_56 := zr_X7 zr_zs38_55
def zs38_57 : Sg := uR (zs38_56) 40 4 76
theorem zr_zs38_57 : Zr 76 zs38_57 := Zr.uR zr_zs38_56 (by decide)
def zs38_58 : Sg := alk 1 (zs38_57)
theorem zr_zs38_58 : Zr 77 zs38_58 := Zr.alk (k := 1) zr_zs38_57
def zs38_59 : Sg := F_X7 (77) (zs38_58)
theorem zr_zs38_59 : Zr 77 zs38_59 := zr_X7 zr_zs38_58
def zs38_60 : Sg := uR (zs38_59) 40 5 77
theorem zr_zs38_60 : Zr 77 zs38_60 := Zr.uR zr_zs38_59 (by decide)
def zs38_61 : Sg := alk 1 (zs38_60)
theorem zr_zs38_61 : Zr 78 zs38_61 := Zr.alk (k := 1) zr_zs38_60
def zs38_62 : Sg := F_X0 (78) (zs38_61)
theorem zr_zs38_62 : Zr 82 zs38_62 := zr_X0 zr_zs38_61
def zs38_63 : Sg := uR (zs38_62) 41 0 78
theorem zr_zs38_63 : Zr 82 zs38_63 := Zr.uR zr_zs38_62 (by decide)
def zs38_64 : Sg := alk 1 (zs38_63)
theorem zr_zs38_64 : Zr 83 zs38_64 := Zr.alk (k := 1) zr_zs38_63
def zs38_65 : Sg := F_X0 (83) (zs38_64)
theorem zr_zs38_65 : Zr 87 zs38_65 := zr_X0 zr_zs38_64
def zs38_66 : Sg := uR (zs38_65) 41 1 83
theorem zr_zs38_66 : Zr 87 zs38_66 := Zr.uR zr_zs38_65 (by decide)
def zs38_67 : Sg := alk 1 (zs38_66)
theorem zr_zs38_67 : Zr 88 zs38_67 := Zr.alk (k := 1) zr_zs38_66
def zs38_68 : Sg := F_X0 (88) (zs38_67)
theorem zr_zs38_68 : Zr 92 zs38_68 := zr_X0 zr_zs38_67
def zs38_69 : Sg := uR (zs38_68) 41 2 88
theorem zr_zs38_69 : Zr 92 zs38_69 := Zr.uR zr_zs38_68 (by decide)
def zs38_70 : Sg := alk 1 (zs38_69)
theorem zr_zs38_70 : Zr 93 zs38_70 := Zr.alk (k := 1) zr_zs38_69
def zs38_71 : Sg := F_X0 (93) (zs38_70)
theorem zr_zs38_71 : Zr 97 zs38_71 := zr_X0 zr_zs38_70
def zs38_72 : Sg := uR (zs38_71) 41 3 93
theorem zr_zs38_72 : Zr 97 zs38_72 := Zr.uR zr_zs38_71 (by decide)
def zs38_73 : Sg := alk 1 (zs38_72)
theorem zr_zs38_73 : Zr 98 zs38_73 := Zr.alk (k := 1) zr_zs38_72
def zs38_74 : Sg := F_X0 (98) (zs38_73)
theorem zr_zs38_74 : Zr 102 zs38_74 := zr_X0 zr_zs38_73
def zs38_75 : Sg := uR (zs38_74) 41 4 98
theorem zr_zs38_75 : Zr 102 zs38_75 := Zr.uR zr_zs38_74 (by decide)
def zs38_76 : Sg := alk 1 (zs38_75)
theorem zr_zs38_76 : Zr 103 zs38_76 := Zr.alk (k := 1) zr_zs38_75
def zs38_77 : Sg := F_X0 (103) (zs38_76)
theorem zr_zs38_77 : Zr 107 zs38_77 := zr_X0 zr_zs38_76
def zs38_78 : Sg := uR (zs38_77) 41 5 103
theorem zr_zs38_78 : Zr 107 zs38_78 := Zr.uR zr_zs38_77 (by decide)
theorem hsh_zs38_ : ∀ k d, fk 9 k = some d → Ok 107 (zs38_78.2.1 38 k) d := by
  intro k d h
  match k, h with
  | 0, h => cases h; exact ⟨by decide +kernel, by decide +kernel, by decide +kernel⟩
  | 1, h => cases h; exact ⟨by decide +kernel, by decide +kernel, by decide +kernel⟩
  | 2, h => cases h; exact ⟨by decide +kernel, by decide +kernel, by decide +kernel⟩
  | 3, h => cases h; exact ⟨by decide +kernel, by decide +kernel, by decide +kernel⟩
  | 4, h => cases h; exact ⟨by decide +kernel, by decide +kernel, by decide +kernel⟩
  | 5, h => cases h; exact ⟨by decide +kernel, by decide +kernel, by decide +kernel⟩
  | 6, h => cases h; exact ⟨by decide +kernel, by decide +kernel, by decide +kernel⟩
  | 7, h => cases h; exact ⟨by decide +kernel, by decide +kernel, by decide +kernel⟩
  | 8, h => cases h; exact ⟨by decide +kernel, by decide +kernel, by decide +kernel⟩
  | k + 9, h => cases (show (none : Option Nat) = some d from h)
def zs38_79 : Sg := mkN 107 (FS_reset zs38_78.2.1 zs38_78.1 38) zs38_78.2.1 zs38_78.2.2.1
theorem zr_zs38_79 : Zr 107 zs38_79 := zr_FS_reset zr_zs38_78 (by decide) (by decide +kernel)
set_option maxHeartbeats 4000000 in
set_option maxRecDepth 100000 in
theorem ci_zs38_ {l : Launch} {g : GL} : Ct l g 2 yX9_init cX9_init 2 none 38 107 69 650 [.ref (ga g 38)] zb_24 (fun v σ' => v = none ∧ σ' = zs38_79) := by
  refine Met.ofW (cc := cX9_init) (maxL := 2) (ret := none) (by decide) rfl ?_
  intro p e s m args below meth c s₁ B hml hv
  obtain ⟨rfl, hE, hLo, hWd⟩ := hv
  have hr : meth.sig.returnType = none := B.returns
  have hnm : meth.name = "<init>" := (name_of_methodNamed B.named B.method).1
  have C : Cx l g p s m meth c cX9_init 2 RX9 := ⟨B.exec, B.bytes, hml, findClass_of_methodNamed B.named, hE, hLo, B.notSynchronized⟩
  have S : StL g 38 s zb_24 s.heap [] := ⟨hWd, va_S.rf⟩
  have hx := C.1
  have hb := C.2.1
  have hl := lv_entry ([.ref (ga g (38))]) (n := 2) (Nat.le_of_ble_eq_true rfl)
  rw [lg_entry_eq]
  generalize (lg_sl ([.ref (ga g (38))]) ++ List.replicate (2 - (lg_sl ([.ref (ga g (38))])).length) Slot.unset).toArray = ls at hl ⊢
  have hl : lv_has ls 2 [(0, .ref (ga g (38)))] := hl
  generalize hH : s.heap = H at S ⊢
  generalize hlc : ([] : List Loc) = locs at S ⊢
  refine lv_aload_n hx hb dX9_init_0 rfl (lv_at hl 0 rfl) ?_
  refine a_obj C ol_RX9 in_obj cd_obj hl.1 dX9_init_1 (Nat.le_of_ble_eq_true rfl) (Nat.le_of_ble_eq_true rfl) ?_
  refine lv_aload_n hx hb dX9_init_4 rfl (lv_at hl 0 rfl) ?_
  refine lv_bipush (v := (8 : Int32)) hx hb dX9_init_5 (by decide) ?_
  refine a_newQ C S (by decide) zr_zb_24 (Cm := RX4) 5 (by decide) rfl ⟨cl_RX9_9, ao_RX4⟩ (len := 8) (by decide) rfl (by decide) (by decide) (by decide) (Nat.le_of_ble_eq_true rfl) (Nat.le_of_ble_eq_true rfl) dX9_init_7 (fun H S hz => ?_)
  have S : StL g 39 s zs38_1 H locs := S
  refine a_putF C S KX9 (⟨by decide, by decide, by decide⟩ : Ok 39 38 9) 0 (by decide) rfl rfl hnm (by omega) (fun _ => rfl) (fun _ => rfl) rfl fl_RX9_11 dX9_init_10 (fun H locs S => ?_)
  have S : StL g 39 s zs38_2 H locs := S
  refine lv_aload_n hx hb dX9_init_13 rfl (lv_at hl 0 rfl) ?_
  refine lv_bipush (v := (6 : Int32)) hx hb dX9_init_14 (by decide) ?_
  refine a_newQ C S (by decide) zr_zs38_2 (Cm := RX7) 6 (by decide) rfl ⟨cl_RX9_17, ao_RX7⟩ (len := 6) (by decide) rfl (by decide) (by decide) (by decide) (Nat.le_of_ble_eq_true rfl) (Nat.le_of_ble_eq_true rfl) dX9_init_16 (fun H S hz => ?_)
  have S : StL g 40 s zs38_3 H locs := S
  refine a_putF C S KX9 (⟨by decide, by decide, by decide⟩ : Ok 40 38 9) 1 (by decide) rfl rfl hnm (by omega) (fun _ => rfl) (fun _ => rfl) rfl fl_RX9_19 dX9_init_19 (fun H locs S => ?_)
  have S : StL g 40 s zs38_4 H locs := S
  refine lv_aload_n hx hb dX9_init_22 rfl (lv_at hl 0 rfl) ?_
  refine lv_bipush (v := (6 : Int32)) hx hb dX9_init_23 (by decide) ?_
  refine a_newQ C S (by decide) zr_zs38_4 (Cm := RX0) 4 (by decide) rfl ⟨cl_RX9_23, ao_RX0⟩ (len := 6) (by decide) rfl (by decide) (by decide) (by decide) (Nat.le_of_ble_eq_true rfl) (Nat.le_of_ble_eq_true rfl) dX9_init_25 (fun H S hz => ?_)
  have S : StL g 41 s zs38_5 H locs := S
  refine a_putF C S KX9 (⟨by decide, by decide, by decide⟩ : Ok 41 38 9) 2 (by decide) rfl rfl hnm (by omega) (fun _ => rfl) (fun _ => rfl) rfl fl_RX9_25 dX9_init_28 (fun H locs S => ?_)
  have S : StL g 41 s zs38_6 H locs := S
  refine lv_aload_n hx hb dX9_init_31 rfl (lv_at hl 0 rfl) ?_
  refine lv_bipush (v := (8 : Int32)) hx hb dX9_init_32 (by decide) ?_
  refine a_newI C S (by decide) zr_zs38_6 ac_int (len := 8) (by decide) rfl (by decide) (by decide) (Nat.le_of_ble_eq_true rfl) (Nat.le_of_ble_eq_true rfl) dX9_init_34 (fun H S hz => ?_)
  have S : StL g 42 s zs38_7 H locs := S
  refine a_putF C S KX9 (⟨by decide, by decide, by decide⟩ : Ok 42 38 9) 3 (by decide) rfl rfl hnm (by omega) (fun _ => rfl) (fun _ => rfl) rfl fl_RX9_29 dX9_init_36 (fun H locs S => ?_)
  have S : StL g 42 s zs38_8 H locs := S
  refine lv_aload_n hx hb dX9_init_39 rfl (lv_at hl 0 rfl) ?_
  refine lv_bipush (v := (6 : Int32)) hx hb dX9_init_40 (by decide) ?_
  refine a_newI C S (by decide) zr_zs38_8 ac_int (len := 6) (by decide) rfl (by decide) (by decide) (Nat.le_of_ble_eq_true rfl) (Nat.le_of_ble_eq_true rfl) dX9_init_42 (fun H S hz => ?_)
  have S : StL g 43 s zs38_9 H locs := S
  refine a_putF C S KX9 (⟨by decide, by decide, by decide⟩ : Ok 43 38 9) 4 (by decide) rfl rfl hnm (by omega) (fun _ => rfl) (fun _ => rfl) rfl fl_RX9_33 dX9_init_44 (fun H locs S => ?_)
  have S : StL g 43 s zs38_10 H locs := S
  refine lv_aload_n hx hb dX9_init_47 rfl (lv_at hl 0 rfl) ?_
  refine lv_bipush (v := (6 : Int32)) hx hb dX9_init_48 (by decide) ?_
  refine a_newI C S (by decide) zr_zs38_10 ac_int (len := 6) (by decide) rfl (by decide) (by decide) (Nat.le_of_ble_eq_true rfl) (Nat.le_of_ble_eq_true rfl) dX9_init_50 (fun H S hz => ?_)
  have S : StL g 44 s zs38_11 H locs := S
  refine a_putF C S KX9 (⟨by decide, by decide, by decide⟩ : Ok 44 38 9) 5 (by decide) rfl rfl hnm (by omega) (fun _ => rfl) (fun _ => rfl) rfl fl_RX9_36 dX9_init_52 (fun H locs S => ?_)
  have S : StL g 44 s zs38_12 H locs := S
  refine lv_aload_n hx hb dX9_init_55 rfl (lv_at hl 0 rfl) ?_
  refine lv_bipush (v := (6 : Int32)) hx hb dX9_init_56 (by decide) ?_
  refine a_newI C S (by decide) zr_zs38_12 ac_int (len := 6) (by decide) rfl (by decide) (by decide) (Nat.le_of_ble_eq_true rfl) (Nat.le_of_ble_eq_true rfl) dX9_init_58 (fun H S hz => ?_)
  have S : StL g 45 s zs38_13 H locs := S
  refine a_putF C S KX9 (⟨by decide, by decide, by decide⟩ : Ok 45 38 9) 6 (by decide) rfl rfl hnm (by omega) (fun _ => rfl) (fun _ => rfl) rfl fl_RX9_39 dX9_init_60 (fun H locs S => ?_)
  have S : StL g 45 s zs38_14 H locs := S
  refine lv_aload_n hx hb dX9_init_63 rfl (lv_at hl 0 rfl) ?_
  refine lv_bipush (v := (24 : Int32)) hx hb dX9_init_64 (by decide) ?_
  refine a_newI C S (by decide) zr_zs38_14 ac_int (len := 24) (by decide) rfl (by decide) (by decide) (Nat.le_of_ble_eq_true rfl) (Nat.le_of_ble_eq_true rfl) dX9_init_66 (fun H S hz => ?_)
  have S : StL g 46 s zs38_15 H locs := S
  refine a_putF C S KX9 (⟨by decide, by decide, by decide⟩ : Ok 46 38 9) 7 (by decide) rfl rfl hnm (by omega) (fun _ => rfl) (fun _ => rfl) rfl fl_RX9_42 dX9_init_68 (fun H locs S => ?_)
  have S : StL g 46 s zs38_16 H locs := S
  refine lv_aload_n hx hb dX9_init_71 rfl (lv_at hl 0 rfl) ?_
  refine lv_bipush (v := (24 : Int32)) hx hb dX9_init_72 (by decide) ?_
  refine a_newI C S (by decide) zr_zs38_16 ac_int (len := 24) (by decide) rfl (by decide) (by decide) (Nat.le_of_ble_eq_true rfl) (Nat.le_of_ble_eq_true rfl) dX9_init_74 (fun H S hz => ?_)
  have S : StL g 47 s zs38_17 H locs := S
  refine a_putF C S KX9 (⟨by decide, by decide, by decide⟩ : Ok 47 38 9) 8 (by decide) rfl rfl hnm (by omega) (fun _ => rfl) (fun _ => rfl) rfl fl_RX9_45 dX9_init_76 (fun H locs S => ?_)
  have S : StL g 47 s zs38_18 H locs := S
  refine lv_iconst (v := (0 : Int32)) hx hb dX9_init_79 (by decide) ?_
  refine lv_istore_n (lv' := [(1, .int (0 : Int32)), (0, .ref (ga g (38)))]) hx hb dX9_init_80 rfl hl (by decide) rfl (fun ls hl => ?_)
  refine lv_iload_n hx hb dX9_init_81 rfl (lv_at hl 0 rfl) ?_
  refine lv_bipush (v := (8 : Int32)) hx hb dX9_init_82 (by decide) ?_
  refine lv_icmp_ge (tgt := 106) hx hb dX9_init_84 (by decide) (fun c => absurd c (by decide)) (fun _ => ?_)
  refine lv_aload_n hx hb dX9_init_87 rfl (lv_at hl 1 rfl) ?_
  refine a_getR (r := 39) C S KX9 (⟨by decide, by decide, by decide⟩ : Ok 47 38 9) 0 (by decide) rfl rfl fl_RX9_11 (by decide +kernel) (by decide) dX9_init_88 ?_
  refine lv_iload_n hx hb dX9_init_91 rfl (lv_at hl 0 rfl) ?_
  refine a_new C S (by decide) zr_zs38_18 KX4 df_X4 rfl ⟨cl_RX9_9, iz_RX4, ni_RX4⟩ (Nat.le_of_ble_eq_true rfl) (Nat.le_of_ble_eq_true rfl) dX9_init_92 (fun H S hz => ?_)
  have S : StL g 48 s zs38_19 H locs := S
  refine lv_dup hx hb dX9_init_95 rfl ?_
  refine v_callIN C S (ci_X4 zr_zs38_19 (by decide) (by decide) rfl rfl rfl) ⟨cd_X4_init, ni_RX4, mn_RX9_48, in_X4_init⟩ rfl ⟨by decide, by decide⟩ rfl ⟨by decide, by decide⟩ hl.1 rfl (Nat.le_of_ble_eq_true rfl) ⟨Nat.le_of_ble_eq_true rfl, Nat.le_of_ble_eq_true rfl⟩ dX9_init_96 (fun v σ' H locs hp S => ?_)
  obtain ⟨rfl, rfl⟩ := hp
  have S : StL g 50 s zs38_20 H locs := S
  refine a_aast (len := 8) (t := 5) C S (by decide) (by decide) KX4 rfl (⟨by decide, by decide, by decide⟩ : Ok 50 39 60008) (⟨by decide, by decide, by decide⟩ : Ok 50 48 4) (i := (0 : Int32)) (vp_in_iff.mpr ⟨by decide, by decide⟩) dX9_init_99 (fun H locs S => ?_)
  have S : StL g 50 s zs38_21 H locs := S
  refine lv_iinc (v := (1 : Int32)) (lv' := [(1, .int (1 : Int32)), (0, .ref (ga g (38)))]) hx hb dX9_init_100 hl (k := 0) rfl (by decide) (by decide) rfl (fun ls hl => ?_)
  refine lv_goto (tgt := 81) hx hb dX9_init_103 (by decide) ?_
  refine lv_iload_n hx hb dX9_init_81 rfl (lv_at hl 0 rfl) ?_
  refine lv_bipush (v := (8 : Int32)) hx hb dX9_init_82 (by decide) ?_
  refine lv_icmp_ge (tgt := 106) hx hb dX9_init_84 (by decide) (fun c => absurd c (by decide)) (fun _ => ?_)
  refine lv_aload_n hx hb dX9_init_87 rfl (lv_at hl 1 rfl) ?_
  refine a_getR (r := 39) C S KX9 (⟨by decide, by decide, by decide⟩ : Ok 50 38 9) 0 (by decide) rfl rfl fl_RX9_11 (by decide +kernel) (by decide) dX9_init_88 ?_
  refine lv_iload_n hx hb dX9_init_91 rfl (lv_at hl 0 rfl) ?_
  refine a_new C S (by decide) zr_zs38_21 KX4 df_X4 rfl ⟨cl_RX9_9, iz_RX4, ni_RX4⟩ (Nat.le_of_ble_eq_true rfl) (Nat.le_of_ble_eq_true rfl) dX9_init_92 (fun H S hz => ?_)
  have S : StL g 51 s zs38_22 H locs := S
  refine lv_dup hx hb dX9_init_95 rfl ?_
  refine v_callIN C S (ci_X4 zr_zs38_22 (by decide) (by decide) rfl rfl rfl) ⟨cd_X4_init, ni_RX4, mn_RX9_48, in_X4_init⟩ rfl ⟨by decide, by decide⟩ rfl ⟨by decide, by decide⟩ hl.1 rfl (Nat.le_of_ble_eq_true rfl) ⟨Nat.le_of_ble_eq_true rfl, Nat.le_of_ble_eq_true rfl⟩ dX9_init_96 (fun v σ' H locs hp S => ?_)
  obtain ⟨rfl, rfl⟩ := hp
  have S : StL g 53 s zs38_23 H locs := S
  refine a_aast (len := 8) (t := 5) C S (by decide) (by decide) KX4 rfl (⟨by decide, by decide, by decide⟩ : Ok 53 39 60008) (⟨by decide, by decide, by decide⟩ : Ok 53 51 4) (i := (1 : Int32)) (vp_in_iff.mpr ⟨by decide, by decide⟩) dX9_init_99 (fun H locs S => ?_)
  have S : StL g 53 s zs38_24 H locs := S
  refine lv_iinc (v := (2 : Int32)) (lv' := [(1, .int (2 : Int32)), (0, .ref (ga g (38)))]) hx hb dX9_init_100 hl (k := 0) rfl (by decide) (by decide) rfl (fun ls hl => ?_)
  refine lv_goto (tgt := 81) hx hb dX9_init_103 (by decide) ?_
  refine lv_iload_n hx hb dX9_init_81 rfl (lv_at hl 0 rfl) ?_
  refine lv_bipush (v := (8 : Int32)) hx hb dX9_init_82 (by decide) ?_
  refine lv_icmp_ge (tgt := 106) hx hb dX9_init_84 (by decide) (fun c => absurd c (by decide)) (fun _ => ?_)
  refine lv_aload_n hx hb dX9_init_87 rfl (lv_at hl 1 rfl) ?_
  refine a_getR (r := 39) C S KX9 (⟨by decide, by decide, by decide⟩ : Ok 53 38 9) 0 (by decide) rfl rfl fl_RX9_11 (by decide +kernel) (by decide) dX9_init_88 ?_
  refine lv_iload_n hx hb dX9_init_91 rfl (lv_at hl 0 rfl) ?_
  refine a_new C S (by decide) zr_zs38_24 KX4 df_X4 rfl ⟨cl_RX9_9, iz_RX4, ni_RX4⟩ (Nat.le_of_ble_eq_true rfl) (Nat.le_of_ble_eq_true rfl) dX9_init_92 (fun H S hz => ?_)
  have S : StL g 54 s zs38_25 H locs := S
  refine lv_dup hx hb dX9_init_95 rfl ?_
  refine v_callIN C S (ci_X4 zr_zs38_25 (by decide) (by decide) rfl rfl rfl) ⟨cd_X4_init, ni_RX4, mn_RX9_48, in_X4_init⟩ rfl ⟨by decide, by decide⟩ rfl ⟨by decide, by decide⟩ hl.1 rfl (Nat.le_of_ble_eq_true rfl) ⟨Nat.le_of_ble_eq_true rfl, Nat.le_of_ble_eq_true rfl⟩ dX9_init_96 (fun v σ' H locs hp S => ?_)
  obtain ⟨rfl, rfl⟩ := hp
  have S : StL g 56 s zs38_26 H locs := S
  refine a_aast (len := 8) (t := 5) C S (by decide) (by decide) KX4 rfl (⟨by decide, by decide, by decide⟩ : Ok 56 39 60008) (⟨by decide, by decide, by decide⟩ : Ok 56 54 4) (i := (2 : Int32)) (vp_in_iff.mpr ⟨by decide, by decide⟩) dX9_init_99 (fun H locs S => ?_)
  have S : StL g 56 s zs38_27 H locs := S
  refine lv_iinc (v := (3 : Int32)) (lv' := [(1, .int (3 : Int32)), (0, .ref (ga g (38)))]) hx hb dX9_init_100 hl (k := 0) rfl (by decide) (by decide) rfl (fun ls hl => ?_)
  refine lv_goto (tgt := 81) hx hb dX9_init_103 (by decide) ?_
  refine lv_iload_n hx hb dX9_init_81 rfl (lv_at hl 0 rfl) ?_
  refine lv_bipush (v := (8 : Int32)) hx hb dX9_init_82 (by decide) ?_
  refine lv_icmp_ge (tgt := 106) hx hb dX9_init_84 (by decide) (fun c => absurd c (by decide)) (fun _ => ?_)
  refine lv_aload_n hx hb dX9_init_87 rfl (lv_at hl 1 rfl) ?_
  refine a_getR (r := 39) C S KX9 (⟨by decide, by decide, by decide⟩ : Ok 56 38 9) 0 (by decide) rfl rfl fl_RX9_11 (by decide +kernel) (by decide) dX9_init_88 ?_
  refine lv_iload_n hx hb dX9_init_91 rfl (lv_at hl 0 rfl) ?_
  refine a_new C S (by decide) zr_zs38_27 KX4 df_X4 rfl ⟨cl_RX9_9, iz_RX4, ni_RX4⟩ (Nat.le_of_ble_eq_true rfl) (Nat.le_of_ble_eq_true rfl) dX9_init_92 (fun H S hz => ?_)
  have S : StL g 57 s zs38_28 H locs := S
  refine lv_dup hx hb dX9_init_95 rfl ?_
  refine v_callIN C S (ci_X4 zr_zs38_28 (by decide) (by decide) rfl rfl rfl) ⟨cd_X4_init, ni_RX4, mn_RX9_48, in_X4_init⟩ rfl ⟨by decide, by decide⟩ rfl ⟨by decide, by decide⟩ hl.1 rfl (Nat.le_of_ble_eq_true rfl) ⟨Nat.le_of_ble_eq_true rfl, Nat.le_of_ble_eq_true rfl⟩ dX9_init_96 (fun v σ' H locs hp S => ?_)
  obtain ⟨rfl, rfl⟩ := hp
  have S : StL g 59 s zs38_29 H locs := S
  refine a_aast (len := 8) (t := 5) C S (by decide) (by decide) KX4 rfl (⟨by decide, by decide, by decide⟩ : Ok 59 39 60008) (⟨by decide, by decide, by decide⟩ : Ok 59 57 4) (i := (3 : Int32)) (vp_in_iff.mpr ⟨by decide, by decide⟩) dX9_init_99 (fun H locs S => ?_)
  have S : StL g 59 s zs38_30 H locs := S
  refine lv_iinc (v := (4 : Int32)) (lv' := [(1, .int (4 : Int32)), (0, .ref (ga g (38)))]) hx hb dX9_init_100 hl (k := 0) rfl (by decide) (by decide) rfl (fun ls hl => ?_)
  refine lv_goto (tgt := 81) hx hb dX9_init_103 (by decide) ?_
  refine lv_iload_n hx hb dX9_init_81 rfl (lv_at hl 0 rfl) ?_
  refine lv_bipush (v := (8 : Int32)) hx hb dX9_init_82 (by decide) ?_
  refine lv_icmp_ge (tgt := 106) hx hb dX9_init_84 (by decide) (fun c => absurd c (by decide)) (fun _ => ?_)
  refine lv_aload_n hx hb dX9_init_87 rfl (lv_at hl 1 rfl) ?_
  refine a_getR (r := 39) C S KX9 (⟨by decide, by decide, by decide⟩ : Ok 59 38 9) 0 (by decide) rfl rfl fl_RX9_11 (by decide +kernel) (by decide) dX9_init_88 ?_
  refine lv_iload_n hx hb dX9_init_91 rfl (lv_at hl 0 rfl) ?_
  refine a_new C S (by decide) zr_zs38_30 KX4 df_X4 rfl ⟨cl_RX9_9, iz_RX4, ni_RX4⟩ (Nat.le_of_ble_eq_true rfl) (Nat.le_of_ble_eq_true rfl) dX9_init_92 (fun H S hz => ?_)
  have S : StL g 60 s zs38_31 H locs := S
  refine lv_dup hx hb dX9_init_95 rfl ?_
  refine v_callIN C S (ci_X4 zr_zs38_31 (by decide) (by decide) rfl rfl rfl) ⟨cd_X4_init, ni_RX4, mn_RX9_48, in_X4_init⟩ rfl ⟨by decide, by decide⟩ rfl ⟨by decide, by decide⟩ hl.1 rfl (Nat.le_of_ble_eq_true rfl) ⟨Nat.le_of_ble_eq_true rfl, Nat.le_of_ble_eq_true rfl⟩ dX9_init_96 (fun v σ' H locs hp S => ?_)
  obtain ⟨rfl, rfl⟩ := hp
  have S : StL g 62 s zs38_32 H locs := S
  refine a_aast (len := 8) (t := 5) C S (by decide) (by decide) KX4 rfl (⟨by decide, by decide, by decide⟩ : Ok 62 39 60008) (⟨by decide, by decide, by decide⟩ : Ok 62 60 4) (i := (4 : Int32)) (vp_in_iff.mpr ⟨by decide, by decide⟩) dX9_init_99 (fun H locs S => ?_)
  have S : StL g 62 s zs38_33 H locs := S
  refine lv_iinc (v := (5 : Int32)) (lv' := [(1, .int (5 : Int32)), (0, .ref (ga g (38)))]) hx hb dX9_init_100 hl (k := 0) rfl (by decide) (by decide) rfl (fun ls hl => ?_)
  refine lv_goto (tgt := 81) hx hb dX9_init_103 (by decide) ?_
  refine lv_iload_n hx hb dX9_init_81 rfl (lv_at hl 0 rfl) ?_
  refine lv_bipush (v := (8 : Int32)) hx hb dX9_init_82 (by decide) ?_
  refine lv_icmp_ge (tgt := 106) hx hb dX9_init_84 (by decide) (fun c => absurd c (by decide)) (fun _ => ?_)
  refine lv_aload_n hx hb dX9_init_87 rfl (lv_at hl 1 rfl) ?_
  refine a_getR (r := 39) C S KX9 (⟨by decide, by decide, by decide⟩ : Ok 62 38 9) 0 (by decide) rfl rfl fl_RX9_11 (by decide +kernel) (by decide) dX9_init_88 ?_
  refine lv_iload_n hx hb dX9_init_91 rfl (lv_at hl 0 rfl) ?_
  refine a_new C S (by decide) zr_zs38_33 KX4 df_X4 rfl ⟨cl_RX9_9, iz_RX4, ni_RX4⟩ (Nat.le_of_ble_eq_true rfl) (Nat.le_of_ble_eq_true rfl) dX9_init_92 (fun H S hz => ?_)
  have S : StL g 63 s zs38_34 H locs := S
  refine lv_dup hx hb dX9_init_95 rfl ?_
  refine v_callIN C S (ci_X4 zr_zs38_34 (by decide) (by decide) rfl rfl rfl) ⟨cd_X4_init, ni_RX4, mn_RX9_48, in_X4_init⟩ rfl ⟨by decide, by decide⟩ rfl ⟨by decide, by decide⟩ hl.1 rfl (Nat.le_of_ble_eq_true rfl) ⟨Nat.le_of_ble_eq_true rfl, Nat.le_of_ble_eq_true rfl⟩ dX9_init_96 (fun v σ' H locs hp S => ?_)
  obtain ⟨rfl, rfl⟩ := hp
  have S : StL g 65 s zs38_35 H locs := S
  refine a_aast (len := 8) (t := 5) C S (by decide) (by decide) KX4 rfl (⟨by decide, by decide, by decide⟩ : Ok 65 39 60008) (⟨by decide, by decide, by decide⟩ : Ok 65 63 4) (i := (5 : Int32)) (vp_in_iff.mpr ⟨by decide, by decide⟩) dX9_init_99 (fun H locs S => ?_)
  have S : StL g 65 s zs38_36 H locs := S
  refine lv_iinc (v := (6 : Int32)) (lv' := [(1, .int (6 : Int32)), (0, .ref (ga g (38)))]) hx hb dX9_init_100 hl (k := 0) rfl (by decide) (by decide) rfl (fun ls hl => ?_)
  refine lv_goto (tgt := 81) hx hb dX9_init_103 (by decide) ?_
  refine lv_iload_n hx hb dX9_init_81 rfl (lv_at hl 0 rfl) ?_
  refine lv_bipush (v := (8 : Int32)) hx hb dX9_init_82 (by decide) ?_
  refine lv_icmp_ge (tgt := 106) hx hb dX9_init_84 (by decide) (fun c => absurd c (by decide)) (fun _ => ?_)
  refine lv_aload_n hx hb dX9_init_87 rfl (lv_at hl 1 rfl) ?_
  refine a_getR (r := 39) C S KX9 (⟨by decide, by decide, by decide⟩ : Ok 65 38 9) 0 (by decide) rfl rfl fl_RX9_11 (by decide +kernel) (by decide) dX9_init_88 ?_
  refine lv_iload_n hx hb dX9_init_91 rfl (lv_at hl 0 rfl) ?_
  refine a_new C S (by decide) zr_zs38_36 KX4 df_X4 rfl ⟨cl_RX9_9, iz_RX4, ni_RX4⟩ (Nat.le_of_ble_eq_true rfl) (Nat.le_of_ble_eq_true rfl) dX9_init_92 (fun H S hz => ?_)
  have S : StL g 66 s zs38_37 H locs := S
  refine lv_dup hx hb dX9_init_95 rfl ?_
  refine v_callIN C S (ci_X4 zr_zs38_37 (by decide) (by decide) rfl rfl rfl) ⟨cd_X4_init, ni_RX4, mn_RX9_48, in_X4_init⟩ rfl ⟨by decide, by decide⟩ rfl ⟨by decide, by decide⟩ hl.1 rfl (Nat.le_of_ble_eq_true rfl) ⟨Nat.le_of_ble_eq_true rfl, Nat.le_of_ble_eq_true rfl⟩ dX9_init_96 (fun v σ' H locs hp S => ?_)
  obtain ⟨rfl, rfl⟩ := hp
  have S : StL g 68 s zs38_38 H locs := S
  refine a_aast (len := 8) (t := 5) C S (by decide) (by decide) KX4 rfl (⟨by decide, by decide, by decide⟩ : Ok 68 39 60008) (⟨by decide, by decide, by decide⟩ : Ok 68 66 4) (i := (6 : Int32)) (vp_in_iff.mpr ⟨by decide, by decide⟩) dX9_init_99 (fun H locs S => ?_)
  have S : StL g 68 s zs38_39 H locs := S
  refine lv_iinc (v := (7 : Int32)) (lv' := [(1, .int (7 : Int32)), (0, .ref (ga g (38)))]) hx hb dX9_init_100 hl (k := 0) rfl (by decide) (by decide) rfl (fun ls hl => ?_)
  refine lv_goto (tgt := 81) hx hb dX9_init_103 (by decide) ?_
  refine lv_iload_n hx hb dX9_init_81 rfl (lv_at hl 0 rfl) ?_
  refine lv_bipush (v := (8 : Int32)) hx hb dX9_init_82 (by decide) ?_
  refine lv_icmp_ge (tgt := 106) hx hb dX9_init_84 (by decide) (fun c => absurd c (by decide)) (fun _ => ?_)
  refine lv_aload_n hx hb dX9_init_87 rfl (lv_at hl 1 rfl) ?_
  refine a_getR (r := 39) C S KX9 (⟨by decide, by decide, by decide⟩ : Ok 68 38 9) 0 (by decide) rfl rfl fl_RX9_11 (by decide +kernel) (by decide) dX9_init_88 ?_
  refine lv_iload_n hx hb dX9_init_91 rfl (lv_at hl 0 rfl) ?_
  refine a_new C S (by decide) zr_zs38_39 KX4 df_X4 rfl ⟨cl_RX9_9, iz_RX4, ni_RX4⟩ (Nat.le_of_ble_eq_true rfl) (Nat.le_of_ble_eq_true rfl) dX9_init_92 (fun H S hz => ?_)
  have S : StL g 69 s zs38_40 H locs := S
  refine lv_dup hx hb dX9_init_95 rfl ?_
  refine v_callIN C S (ci_X4 zr_zs38_40 (by decide) (by decide) rfl rfl rfl) ⟨cd_X4_init, ni_RX4, mn_RX9_48, in_X4_init⟩ rfl ⟨by decide, by decide⟩ rfl ⟨by decide, by decide⟩ hl.1 rfl (Nat.le_of_ble_eq_true rfl) ⟨Nat.le_of_ble_eq_true rfl, Nat.le_of_ble_eq_true rfl⟩ dX9_init_96 (fun v σ' H locs hp S => ?_)
  obtain ⟨rfl, rfl⟩ := hp
  have S : StL g 71 s zs38_41 H locs := S
  refine a_aast (len := 8) (t := 5) C S (by decide) (by decide) KX4 rfl (⟨by decide, by decide, by decide⟩ : Ok 71 39 60008) (⟨by decide, by decide, by decide⟩ : Ok 71 69 4) (i := (7 : Int32)) (vp_in_iff.mpr ⟨by decide, by decide⟩) dX9_init_99 (fun H locs S => ?_)
  have S : StL g 71 s zs38_42 H locs := S
  refine lv_iinc (v := (8 : Int32)) (lv' := [(1, .int (8 : Int32)), (0, .ref (ga g (38)))]) hx hb dX9_init_100 hl (k := 0) rfl (by decide) (by decide) rfl (fun ls hl => ?_)
  refine lv_goto (tgt := 81) hx hb dX9_init_103 (by decide) ?_
  refine lv_iload_n hx hb dX9_init_81 rfl (lv_at hl 0 rfl) ?_
  refine lv_bipush (v := (8 : Int32)) hx hb dX9_init_82 (by decide) ?_
  refine lv_icmp_ge (tgt := 106) hx hb dX9_init_84 (by decide) (fun _ => ?_) (fun c => absurd (by decide) c)
  refine lv_iconst (v := (0 : Int32)) hx hb dX9_init_106 (by decide) ?_
  refine lv_istore_n (lv' := [(1, .int (0 : Int32)), (0, .ref (ga g (38)))]) hx hb dX9_init_107 rfl hl (by decide) rfl (fun ls hl => ?_)
  refine lv_iload_n hx hb dX9_init_108 rfl (lv_at hl 0 rfl) ?_
  refine lv_bipush (v := (6 : Int32)) hx hb dX9_init_109 (by decide) ?_
  refine lv_icmp_ge (tgt := 133) hx hb dX9_init_111 (by decide) (fun c => absurd c (by decide)) (fun _ => ?_)
  refine lv_aload_n hx hb dX9_init_114 rfl (lv_at hl 1 rfl) ?_
  refine a_getR (r := 40) C S KX9 (⟨by decide, by decide, by decide⟩ : Ok 71 38 9) 1 (by decide) rfl rfl fl_RX9_19 (by decide +kernel) (by decide) dX9_init_115 ?_
  refine lv_iload_n hx hb dX9_init_118 rfl (lv_at hl 0 rfl) ?_
  refine a_new C S (by decide) zr_zs38_42 KX7 df_X7 rfl ⟨cl_RX9_17, iz_RX7, ni_RX7⟩ (Nat.le_of_ble_eq_true rfl) (Nat.le_of_ble_eq_true rfl) dX9_init_119 (fun H S hz => ?_)
  have S : StL g 72 s zs38_43 H locs := S
  refine lv_dup hx hb dX9_init_122 rfl ?_
  refine v_callIN C S (ci_X7 zr_zs38_43 (by decide) (by decide) rfl) ⟨cd_X7_init, ni_RX7, mn_RX9_49, in_X7_init⟩ rfl ⟨by decide, by decide⟩ rfl ⟨by decide, by decide⟩ hl.1 rfl (Nat.le_of_ble_eq_true rfl) ⟨Nat.le_of_ble_eq_true rfl, Nat.le_of_ble_eq_true rfl⟩ dX9_init_123 (fun v σ' H locs hp S => ?_)
  obtain ⟨rfl, rfl⟩ := hp
  have S : StL g 72 s zs38_44 H locs := S
  refine a_aast (len := 6) (t := 6) C S (by decide) (by decide) KX7 rfl (⟨by decide, by decide, by decide⟩ : Ok 72 40 70006) (⟨by decide, by decide, by decide⟩ : Ok 72 72 7) (i := (0 : Int32)) (vp_in_iff.mpr ⟨by decide, by decide⟩) dX9_init_126 (fun H locs S => ?_)
  have S : StL g 72 s zs38_45 H locs := S
  refine lv_iinc (v := (1 : Int32)) (lv' := [(1, .int (1 : Int32)), (0, .ref (ga g (38)))]) hx hb dX9_init_127 hl (k := 0) rfl (by decide) (by decide) rfl (fun ls hl => ?_)
  refine lv_goto (tgt := 108) hx hb dX9_init_130 (by decide) ?_
  refine lv_iload_n hx hb dX9_init_108 rfl (lv_at hl 0 rfl) ?_
  refine lv_bipush (v := (6 : Int32)) hx hb dX9_init_109 (by decide) ?_
  refine lv_icmp_ge (tgt := 133) hx hb dX9_init_111 (by decide) (fun c => absurd c (by decide)) (fun _ => ?_)
  refine lv_aload_n hx hb dX9_init_114 rfl (lv_at hl 1 rfl) ?_
  refine a_getR (r := 40) C S KX9 (⟨by decide, by decide, by decide⟩ : Ok 72 38 9) 1 (by decide) rfl rfl fl_RX9_19 (by decide +kernel) (by decide) dX9_init_115 ?_
  refine lv_iload_n hx hb dX9_init_118 rfl (lv_at hl 0 rfl) ?_
  refine a_new C S (by decide) zr_zs38_45 KX7 df_X7 rfl ⟨cl_RX9_17, iz_RX7, ni_RX7⟩ (Nat.le_of_ble_eq_true rfl) (Nat.le_of_ble_eq_true rfl) dX9_init_119 (fun H S hz => ?_)
  have S : StL g 73 s zs38_46 H locs := S
  refine lv_dup hx hb dX9_init_122 rfl ?_
  refine v_callIN C S (ci_X7 zr_zs38_46 (by decide) (by decide) rfl) ⟨cd_X7_init, ni_RX7, mn_RX9_49, in_X7_init⟩ rfl ⟨by decide, by decide⟩ rfl ⟨by decide, by decide⟩ hl.1 rfl (Nat.le_of_ble_eq_true rfl) ⟨Nat.le_of_ble_eq_true rfl, Nat.le_of_ble_eq_true rfl⟩ dX9_init_123 (fun v σ' H locs hp S => ?_)
  obtain ⟨rfl, rfl⟩ := hp
  have S : StL g 73 s zs38_47 H locs := S
  refine a_aast (len := 6) (t := 6) C S (by decide) (by decide) KX7 rfl (⟨by decide, by decide, by decide⟩ : Ok 73 40 70006) (⟨by decide, by decide, by decide⟩ : Ok 73 73 7) (i := (1 : Int32)) (vp_in_iff.mpr ⟨by decide, by decide⟩) dX9_init_126 (fun H locs S => ?_)
  have S : StL g 73 s zs38_48 H locs := S
  refine lv_iinc (v := (2 : Int32)) (lv' := [(1, .int (2 : Int32)), (0, .ref (ga g (38)))]) hx hb dX9_init_127 hl (k := 0) rfl (by decide) (by decide) rfl (fun ls hl => ?_)
  refine lv_goto (tgt := 108) hx hb dX9_init_130 (by decide) ?_
  refine lv_iload_n hx hb dX9_init_108 rfl (lv_at hl 0 rfl) ?_
  refine lv_bipush (v := (6 : Int32)) hx hb dX9_init_109 (by decide) ?_
  refine lv_icmp_ge (tgt := 133) hx hb dX9_init_111 (by decide) (fun c => absurd c (by decide)) (fun _ => ?_)
  refine lv_aload_n hx hb dX9_init_114 rfl (lv_at hl 1 rfl) ?_
  refine a_getR (r := 40) C S KX9 (⟨by decide, by decide, by decide⟩ : Ok 73 38 9) 1 (by decide) rfl rfl fl_RX9_19 (by decide +kernel) (by decide) dX9_init_115 ?_
  refine lv_iload_n hx hb dX9_init_118 rfl (lv_at hl 0 rfl) ?_
  refine a_new C S (by decide) zr_zs38_48 KX7 df_X7 rfl ⟨cl_RX9_17, iz_RX7, ni_RX7⟩ (Nat.le_of_ble_eq_true rfl) (Nat.le_of_ble_eq_true rfl) dX9_init_119 (fun H S hz => ?_)
  have S : StL g 74 s zs38_49 H locs := S
  refine lv_dup hx hb dX9_init_122 rfl ?_
  refine v_callIN C S (ci_X7 zr_zs38_49 (by decide) (by decide) rfl) ⟨cd_X7_init, ni_RX7, mn_RX9_49, in_X7_init⟩ rfl ⟨by decide, by decide⟩ rfl ⟨by decide, by decide⟩ hl.1 rfl (Nat.le_of_ble_eq_true rfl) ⟨Nat.le_of_ble_eq_true rfl, Nat.le_of_ble_eq_true rfl⟩ dX9_init_123 (fun v σ' H locs hp S => ?_)
  obtain ⟨rfl, rfl⟩ := hp
  have S : StL g 74 s zs38_50 H locs := S
  refine a_aast (len := 6) (t := 6) C S (by decide) (by decide) KX7 rfl (⟨by decide, by decide, by decide⟩ : Ok 74 40 70006) (⟨by decide, by decide, by decide⟩ : Ok 74 74 7) (i := (2 : Int32)) (vp_in_iff.mpr ⟨by decide, by decide⟩) dX9_init_126 (fun H locs S => ?_)
  have S : StL g 74 s zs38_51 H locs := S
  refine lv_iinc (v := (3 : Int32)) (lv' := [(1, .int (3 : Int32)), (0, .ref (ga g (38)))]) hx hb dX9_init_127 hl (k := 0) rfl (by decide) (by decide) rfl (fun ls hl => ?_)
  refine lv_goto (tgt := 108) hx hb dX9_init_130 (by decide) ?_
  refine lv_iload_n hx hb dX9_init_108 rfl (lv_at hl 0 rfl) ?_
  refine lv_bipush (v := (6 : Int32)) hx hb dX9_init_109 (by decide) ?_
  refine lv_icmp_ge (tgt := 133) hx hb dX9_init_111 (by decide) (fun c => absurd c (by decide)) (fun _ => ?_)
  refine lv_aload_n hx hb dX9_init_114 rfl (lv_at hl 1 rfl) ?_
  refine a_getR (r := 40) C S KX9 (⟨by decide, by decide, by decide⟩ : Ok 74 38 9) 1 (by decide) rfl rfl fl_RX9_19 (by decide +kernel) (by decide) dX9_init_115 ?_
  refine lv_iload_n hx hb dX9_init_118 rfl (lv_at hl 0 rfl) ?_
  refine a_new C S (by decide) zr_zs38_51 KX7 df_X7 rfl ⟨cl_RX9_17, iz_RX7, ni_RX7⟩ (Nat.le_of_ble_eq_true rfl) (Nat.le_of_ble_eq_true rfl) dX9_init_119 (fun H S hz => ?_)
  have S : StL g 75 s zs38_52 H locs := S
  refine lv_dup hx hb dX9_init_122 rfl ?_
  refine v_callIN C S (ci_X7 zr_zs38_52 (by decide) (by decide) rfl) ⟨cd_X7_init, ni_RX7, mn_RX9_49, in_X7_init⟩ rfl ⟨by decide, by decide⟩ rfl ⟨by decide, by decide⟩ hl.1 rfl (Nat.le_of_ble_eq_true rfl) ⟨Nat.le_of_ble_eq_true rfl, Nat.le_of_ble_eq_true rfl⟩ dX9_init_123 (fun v σ' H locs hp S => ?_)
  obtain ⟨rfl, rfl⟩ := hp
  have S : StL g 75 s zs38_53 H locs := S
  refine a_aast (len := 6) (t := 6) C S (by decide) (by decide) KX7 rfl (⟨by decide, by decide, by decide⟩ : Ok 75 40 70006) (⟨by decide, by decide, by decide⟩ : Ok 75 75 7) (i := (3 : Int32)) (vp_in_iff.mpr ⟨by decide, by decide⟩) dX9_init_126 (fun H locs S => ?_)
  have S : StL g 75 s zs38_54 H locs := S
  refine lv_iinc (v := (4 : Int32)) (lv' := [(1, .int (4 : Int32)), (0, .ref (ga g (38)))]) hx hb dX9_init_127 hl (k := 0) rfl (by decide) (by decide) rfl (fun ls hl => ?_)
  refine lv_goto (tgt := 108) hx hb dX9_init_130 (by decide) ?_
  refine lv_iload_n hx hb dX9_init_108 rfl (lv_at hl 0 rfl) ?_
  refine lv_bipush (v := (6 : Int32)) hx hb dX9_init_109 (by decide) ?_
  refine lv_icmp_ge (tgt := 133) hx hb dX9_init_111 (by decide) (fun c => absurd c (by decide)) (fun _ => ?_)
  refine lv_aload_n hx hb dX9_init_114 rfl (lv_at hl 1 rfl) ?_
  refine a_getR (r := 40) C S KX9 (⟨by decide, by decide, by decide⟩ : Ok 75 38 9) 1 (by decide) rfl rfl fl_RX9_19 (by decide +kernel) (by decide) dX9_init_115 ?_
  refine lv_iload_n hx hb dX9_init_118 rfl (lv_at hl 0 rfl) ?_
  refine a_new C S (by decide) zr_zs38_54 KX7 df_X7 rfl ⟨cl_RX9_17, iz_RX7, ni_RX7⟩ (Nat.le_of_ble_eq_true rfl) (Nat.le_of_ble_eq_true rfl) dX9_init_119 (fun H S hz => ?_)
  have S : StL g 76 s zs38_55 H locs := S
  refine lv_dup hx hb dX9_init_122 rfl ?_
  refine v_callIN C S (ci_X7 zr_zs38_55 (by decide) (by decide) rfl) ⟨cd_X7_init, ni_RX7, mn_RX9_49, in_X7_init⟩ rfl ⟨by decide, by decide⟩ rfl ⟨by decide, by decide⟩ hl.1 rfl (Nat.le_of_ble_eq_true rfl) ⟨Nat.le_of_ble_eq_true rfl, Nat.le_of_ble_eq_true rfl⟩ dX9_init_123 (fun v σ' H locs hp S => ?_)
  obtain ⟨rfl, rfl⟩ := hp
  have S : StL g 76 s zs38_56 H locs := S
  refine a_aast (len := 6) (t := 6) C S (by decide) (by decide) KX7 rfl (⟨by decide, by decide, by decide⟩ : Ok 76 40 70006) (⟨by decide, by decide, by decide⟩ : Ok 76 76 7) (i := (4 : Int32)) (vp_in_iff.mpr ⟨by decide, by decide⟩) dX9_init_126 (fun H locs S => ?_)
  have S : StL g 76 s zs38_57 H locs := S
  refine lv_iinc (v := (5 : Int32)) (lv' := [(1, .int (5 : Int32)), (0, .ref (ga g (38)))]) hx hb dX9_init_127 hl (k := 0) rfl (by decide) (by decide) rfl (fun ls hl => ?_)
  refine lv_goto (tgt := 108) hx hb dX9_init_130 (by decide) ?_
  refine lv_iload_n hx hb dX9_init_108 rfl (lv_at hl 0 rfl) ?_
  refine lv_bipush (v := (6 : Int32)) hx hb dX9_init_109 (by decide) ?_
  refine lv_icmp_ge (tgt := 133) hx hb dX9_init_111 (by decide) (fun c => absurd c (by decide)) (fun _ => ?_)
  refine lv_aload_n hx hb dX9_init_114 rfl (lv_at hl 1 rfl) ?_
  refine a_getR (r := 40) C S KX9 (⟨by decide, by decide, by decide⟩ : Ok 76 38 9) 1 (by decide) rfl rfl fl_RX9_19 (by decide +kernel) (by decide) dX9_init_115 ?_
  refine lv_iload_n hx hb dX9_init_118 rfl (lv_at hl 0 rfl) ?_
  refine a_new C S (by decide) zr_zs38_57 KX7 df_X7 rfl ⟨cl_RX9_17, iz_RX7, ni_RX7⟩ (Nat.le_of_ble_eq_true rfl) (Nat.le_of_ble_eq_true rfl) dX9_init_119 (fun H S hz => ?_)
  have S : StL g 77 s zs38_58 H locs := S
  refine lv_dup hx hb dX9_init_122 rfl ?_
  refine v_callIN C S (ci_X7 zr_zs38_58 (by decide) (by decide) rfl) ⟨cd_X7_init, ni_RX7, mn_RX9_49, in_X7_init⟩ rfl ⟨by decide, by decide⟩ rfl ⟨by decide, by decide⟩ hl.1 rfl (Nat.le_of_ble_eq_true rfl) ⟨Nat.le_of_ble_eq_true rfl, Nat.le_of_ble_eq_true rfl⟩ dX9_init_123 (fun v σ' H locs hp S => ?_)
  obtain ⟨rfl, rfl⟩ := hp
  have S : StL g 77 s zs38_59 H locs := S
  refine a_aast (len := 6) (t := 6) C S (by decide) (by decide) KX7 rfl (⟨by decide, by decide, by decide⟩ : Ok 77 40 70006) (⟨by decide, by decide, by decide⟩ : Ok 77 77 7) (i := (5 : Int32)) (vp_in_iff.mpr ⟨by decide, by decide⟩) dX9_init_126 (fun H locs S => ?_)
  have S : StL g 77 s zs38_60 H locs := S
  refine lv_iinc (v := (6 : Int32)) (lv' := [(1, .int (6 : Int32)), (0, .ref (ga g (38)))]) hx hb dX9_init_127 hl (k := 0) rfl (by decide) (by decide) rfl (fun ls hl => ?_)
  refine lv_goto (tgt := 108) hx hb dX9_init_130 (by decide) ?_
  refine lv_iload_n hx hb dX9_init_108 rfl (lv_at hl 0 rfl) ?_
  refine lv_bipush (v := (6 : Int32)) hx hb dX9_init_109 (by decide) ?_
  refine lv_icmp_ge (tgt := 133) hx hb dX9_init_111 (by decide) (fun _ => ?_) (fun c => absurd (by decide) c)
  refine lv_iconst (v := (0 : Int32)) hx hb dX9_init_133 (by decide) ?_
  refine lv_istore_n (lv' := [(1, .int (0 : Int32)), (0, .ref (ga g (38)))]) hx hb dX9_init_134 rfl hl (by decide) rfl (fun ls hl => ?_)
  refine lv_iload_n hx hb dX9_init_135 rfl (lv_at hl 0 rfl) ?_
  refine lv_bipush (v := (6 : Int32)) hx hb dX9_init_136 (by decide) ?_
  refine lv_icmp_ge (tgt := 160) hx hb dX9_init_138 (by decide) (fun c => absurd c (by decide)) (fun _ => ?_)
  refine lv_aload_n hx hb dX9_init_141 rfl (lv_at hl 1 rfl) ?_
  refine a_getR (r := 41) C S KX9 (⟨by decide, by decide, by decide⟩ : Ok 77 38 9) 2 (by decide) rfl rfl fl_RX9_25 (by decide +kernel) (by decide) dX9_init_142 ?_
  refine lv_iload_n hx hb dX9_init_145 rfl (lv_at hl 0 rfl) ?_
  refine a_new C S (by decide) zr_zs38_60 KX0 df_X0 rfl ⟨cl_RX9_23, iz_RX0, ni_RX0⟩ (Nat.le_of_ble_eq_true rfl) (Nat.le_of_ble_eq_true rfl) dX9_init_146 (fun H S hz => ?_)
  have S : StL g 78 s zs38_61 H locs := S
  refine lv_dup hx hb dX9_init_149 rfl ?_
  refine v_callIN C S (ci_X0 zr_zs38_61 (by decide) (by decide) rfl rfl rfl rfl rfl) ⟨cd_X0_init, ni_RX0, mn_RX9_50, in_X0_init⟩ rfl ⟨by decide, by decide⟩ rfl ⟨by decide, by decide⟩ hl.1 rfl (Nat.le_of_ble_eq_true rfl) ⟨Nat.le_of_ble_eq_true rfl, Nat.le_of_ble_eq_true rfl⟩ dX9_init_150 (fun v σ' H locs hp S => ?_)
  obtain ⟨rfl, rfl⟩ := hp
  have S : StL g 82 s zs38_62 H locs := S
  refine a_aast (len := 6) (t := 4) C S (by decide) (by decide) KX0 rfl (⟨by decide, by decide, by decide⟩ : Ok 82 41 50006) (⟨by decide, by decide, by decide⟩ : Ok 82 78 0) (i := (0 : Int32)) (vp_in_iff.mpr ⟨by decide, by decide⟩) dX9_init_153 (fun H locs S => ?_)
  have S : StL g 82 s zs38_63 H locs := S
  refine lv_iinc (v := (1 : Int32)) (lv' := [(1, .int (1 : Int32)), (0, .ref (ga g (38)))]) hx hb dX9_init_154 hl (k := 0) rfl (by decide) (by decide) rfl (fun ls hl => ?_)
  refine lv_goto (tgt := 135) hx hb dX9_init_157 (by decide) ?_
  refine lv_iload_n hx hb dX9_init_135 rfl (lv_at hl 0 rfl) ?_
  refine lv_bipush (v := (6 : Int32)) hx hb dX9_init_136 (by decide) ?_
  refine lv_icmp_ge (tgt := 160) hx hb dX9_init_138 (by decide) (fun c => absurd c (by decide)) (fun _ => ?_)
  refine lv_aload_n hx hb dX9_init_141 rfl (lv_at hl 1 rfl) ?_
  refine a_getR (r := 41) C S KX9 (⟨by decide, by decide, by decide⟩ : Ok 82 38 9) 2 (by decide) rfl rfl fl_RX9_25 (by decide +kernel) (by decide) dX9_init_142 ?_
  refine lv_iload_n hx hb dX9_init_145 rfl (lv_at hl 0 rfl) ?_
  refine a_new C S (by decide) zr_zs38_63 KX0 df_X0 rfl ⟨cl_RX9_23, iz_RX0, ni_RX0⟩ (Nat.le_of_ble_eq_true rfl) (Nat.le_of_ble_eq_true rfl) dX9_init_146 (fun H S hz => ?_)
  have S : StL g 83 s zs38_64 H locs := S
  refine lv_dup hx hb dX9_init_149 rfl ?_
  refine v_callIN C S (ci_X0 zr_zs38_64 (by decide) (by decide) rfl rfl rfl rfl rfl) ⟨cd_X0_init, ni_RX0, mn_RX9_50, in_X0_init⟩ rfl ⟨by decide, by decide⟩ rfl ⟨by decide, by decide⟩ hl.1 rfl (Nat.le_of_ble_eq_true rfl) ⟨Nat.le_of_ble_eq_true rfl, Nat.le_of_ble_eq_true rfl⟩ dX9_init_150 (fun v σ' H locs hp S => ?_)
  obtain ⟨rfl, rfl⟩ := hp
  have S : StL g 87 s zs38_65 H locs := S
  refine a_aast (len := 6) (t := 4) C S (by decide) (by decide) KX0 rfl (⟨by decide, by decide, by decide⟩ : Ok 87 41 50006) (⟨by decide, by decide, by decide⟩ : Ok 87 83 0) (i := (1 : Int32)) (vp_in_iff.mpr ⟨by decide, by decide⟩) dX9_init_153 (fun H locs S => ?_)
  have S : StL g 87 s zs38_66 H locs := S
  refine lv_iinc (v := (2 : Int32)) (lv' := [(1, .int (2 : Int32)), (0, .ref (ga g (38)))]) hx hb dX9_init_154 hl (k := 0) rfl (by decide) (by decide) rfl (fun ls hl => ?_)
  refine lv_goto (tgt := 135) hx hb dX9_init_157 (by decide) ?_
  refine lv_iload_n hx hb dX9_init_135 rfl (lv_at hl 0 rfl) ?_
  refine lv_bipush (v := (6 : Int32)) hx hb dX9_init_136 (by decide) ?_
  refine lv_icmp_ge (tgt := 160) hx hb dX9_init_138 (by decide) (fun c => absurd c (by decide)) (fun _ => ?_)
  refine lv_aload_n hx hb dX9_init_141 rfl (lv_at hl 1 rfl) ?_
  refine a_getR (r := 41) C S KX9 (⟨by decide, by decide, by decide⟩ : Ok 87 38 9) 2 (by decide) rfl rfl fl_RX9_25 (by decide +kernel) (by decide) dX9_init_142 ?_
  refine lv_iload_n hx hb dX9_init_145 rfl (lv_at hl 0 rfl) ?_
  refine a_new C S (by decide) zr_zs38_66 KX0 df_X0 rfl ⟨cl_RX9_23, iz_RX0, ni_RX0⟩ (Nat.le_of_ble_eq_true rfl) (Nat.le_of_ble_eq_true rfl) dX9_init_146 (fun H S hz => ?_)
  have S : StL g 88 s zs38_67 H locs := S
  refine lv_dup hx hb dX9_init_149 rfl ?_
  refine v_callIN C S (ci_X0 zr_zs38_67 (by decide) (by decide) rfl rfl rfl rfl rfl) ⟨cd_X0_init, ni_RX0, mn_RX9_50, in_X0_init⟩ rfl ⟨by decide, by decide⟩ rfl ⟨by decide, by decide⟩ hl.1 rfl (Nat.le_of_ble_eq_true rfl) ⟨Nat.le_of_ble_eq_true rfl, Nat.le_of_ble_eq_true rfl⟩ dX9_init_150 (fun v σ' H locs hp S => ?_)
  obtain ⟨rfl, rfl⟩ := hp
  have S : StL g 92 s zs38_68 H locs := S
  refine a_aast (len := 6) (t := 4) C S (by decide) (by decide) KX0 rfl (⟨by decide, by decide, by decide⟩ : Ok 92 41 50006) (⟨by decide, by decide, by decide⟩ : Ok 92 88 0) (i := (2 : Int32)) (vp_in_iff.mpr ⟨by decide, by decide⟩) dX9_init_153 (fun H locs S => ?_)
  have S : StL g 92 s zs38_69 H locs := S
  refine lv_iinc (v := (3 : Int32)) (lv' := [(1, .int (3 : Int32)), (0, .ref (ga g (38)))]) hx hb dX9_init_154 hl (k := 0) rfl (by decide) (by decide) rfl (fun ls hl => ?_)
  refine lv_goto (tgt := 135) hx hb dX9_init_157 (by decide) ?_
  refine lv_iload_n hx hb dX9_init_135 rfl (lv_at hl 0 rfl) ?_
  refine lv_bipush (v := (6 : Int32)) hx hb dX9_init_136 (by decide) ?_
  refine lv_icmp_ge (tgt := 160) hx hb dX9_init_138 (by decide) (fun c => absurd c (by decide)) (fun _ => ?_)
  refine lv_aload_n hx hb dX9_init_141 rfl (lv_at hl 1 rfl) ?_
  refine a_getR (r := 41) C S KX9 (⟨by decide, by decide, by decide⟩ : Ok 92 38 9) 2 (by decide) rfl rfl fl_RX9_25 (by decide +kernel) (by decide) dX9_init_142 ?_
  refine lv_iload_n hx hb dX9_init_145 rfl (lv_at hl 0 rfl) ?_
  refine a_new C S (by decide) zr_zs38_69 KX0 df_X0 rfl ⟨cl_RX9_23, iz_RX0, ni_RX0⟩ (Nat.le_of_ble_eq_true rfl) (Nat.le_of_ble_eq_true rfl) dX9_init_146 (fun H S hz => ?_)
  have S : StL g 93 s zs38_70 H locs := S
  refine lv_dup hx hb dX9_init_149 rfl ?_
  refine v_callIN C S (ci_X0 zr_zs38_70 (by decide) (by decide) rfl rfl rfl rfl rfl) ⟨cd_X0_init, ni_RX0, mn_RX9_50, in_X0_init⟩ rfl ⟨by decide, by decide⟩ rfl ⟨by decide, by decide⟩ hl.1 rfl (Nat.le_of_ble_eq_true rfl) ⟨Nat.le_of_ble_eq_true rfl, Nat.le_of_ble_eq_true rfl⟩ dX9_init_150 (fun v σ' H locs hp S => ?_)
  obtain ⟨rfl, rfl⟩ := hp
  have S : StL g 97 s zs38_71 H locs := S
  refine a_aast (len := 6) (t := 4) C S (by decide) (by decide) KX0 rfl (⟨by decide, by decide, by decide⟩ : Ok 97 41 50006) (⟨by decide, by decide, by decide⟩ : Ok 97 93 0) (i := (3 : Int32)) (vp_in_iff.mpr ⟨by decide, by decide⟩) dX9_init_153 (fun H locs S => ?_)
  have S : StL g 97 s zs38_72 H locs := S
  refine lv_iinc (v := (4 : Int32)) (lv' := [(1, .int (4 : Int32)), (0, .ref (ga g (38)))]) hx hb dX9_init_154 hl (k := 0) rfl (by decide) (by decide) rfl (fun ls hl => ?_)
  refine lv_goto (tgt := 135) hx hb dX9_init_157 (by decide) ?_
  refine lv_iload_n hx hb dX9_init_135 rfl (lv_at hl 0 rfl) ?_
  refine lv_bipush (v := (6 : Int32)) hx hb dX9_init_136 (by decide) ?_
  refine lv_icmp_ge (tgt := 160) hx hb dX9_init_138 (by decide) (fun c => absurd c (by decide)) (fun _ => ?_)
  refine lv_aload_n hx hb dX9_init_141 rfl (lv_at hl 1 rfl) ?_
  refine a_getR (r := 41) C S KX9 (⟨by decide, by decide, by decide⟩ : Ok 97 38 9) 2 (by decide) rfl rfl fl_RX9_25 (by decide +kernel) (by decide) dX9_init_142 ?_
  refine lv_iload_n hx hb dX9_init_145 rfl (lv_at hl 0 rfl) ?_
  refine a_new C S (by decide) zr_zs38_72 KX0 df_X0 rfl ⟨cl_RX9_23, iz_RX0, ni_RX0⟩ (Nat.le_of_ble_eq_true rfl) (Nat.le_of_ble_eq_true rfl) dX9_init_146 (fun H S hz => ?_)
  have S : StL g 98 s zs38_73 H locs := S
  refine lv_dup hx hb dX9_init_149 rfl ?_
  refine v_callIN C S (ci_X0 zr_zs38_73 (by decide) (by decide) rfl rfl rfl rfl rfl) ⟨cd_X0_init, ni_RX0, mn_RX9_50, in_X0_init⟩ rfl ⟨by decide, by decide⟩ rfl ⟨by decide, by decide⟩ hl.1 rfl (Nat.le_of_ble_eq_true rfl) ⟨Nat.le_of_ble_eq_true rfl, Nat.le_of_ble_eq_true rfl⟩ dX9_init_150 (fun v σ' H locs hp S => ?_)
  obtain ⟨rfl, rfl⟩ := hp
  have S : StL g 102 s zs38_74 H locs := S
  refine a_aast (len := 6) (t := 4) C S (by decide) (by decide) KX0 rfl (⟨by decide, by decide, by decide⟩ : Ok 102 41 50006) (⟨by decide, by decide, by decide⟩ : Ok 102 98 0) (i := (4 : Int32)) (vp_in_iff.mpr ⟨by decide, by decide⟩) dX9_init_153 (fun H locs S => ?_)
  have S : StL g 102 s zs38_75 H locs := S
  refine lv_iinc (v := (5 : Int32)) (lv' := [(1, .int (5 : Int32)), (0, .ref (ga g (38)))]) hx hb dX9_init_154 hl (k := 0) rfl (by decide) (by decide) rfl (fun ls hl => ?_)
  refine lv_goto (tgt := 135) hx hb dX9_init_157 (by decide) ?_
  refine lv_iload_n hx hb dX9_init_135 rfl (lv_at hl 0 rfl) ?_
  refine lv_bipush (v := (6 : Int32)) hx hb dX9_init_136 (by decide) ?_
  refine lv_icmp_ge (tgt := 160) hx hb dX9_init_138 (by decide) (fun c => absurd c (by decide)) (fun _ => ?_)
  refine lv_aload_n hx hb dX9_init_141 rfl (lv_at hl 1 rfl) ?_
  refine a_getR (r := 41) C S KX9 (⟨by decide, by decide, by decide⟩ : Ok 102 38 9) 2 (by decide) rfl rfl fl_RX9_25 (by decide +kernel) (by decide) dX9_init_142 ?_
  refine lv_iload_n hx hb dX9_init_145 rfl (lv_at hl 0 rfl) ?_
  refine a_new C S (by decide) zr_zs38_75 KX0 df_X0 rfl ⟨cl_RX9_23, iz_RX0, ni_RX0⟩ (Nat.le_of_ble_eq_true rfl) (Nat.le_of_ble_eq_true rfl) dX9_init_146 (fun H S hz => ?_)
  have S : StL g 103 s zs38_76 H locs := S
  refine lv_dup hx hb dX9_init_149 rfl ?_
  refine v_callIN C S (ci_X0 zr_zs38_76 (by decide) (by decide) rfl rfl rfl rfl rfl) ⟨cd_X0_init, ni_RX0, mn_RX9_50, in_X0_init⟩ rfl ⟨by decide, by decide⟩ rfl ⟨by decide, by decide⟩ hl.1 rfl (Nat.le_of_ble_eq_true rfl) ⟨Nat.le_of_ble_eq_true rfl, Nat.le_of_ble_eq_true rfl⟩ dX9_init_150 (fun v σ' H locs hp S => ?_)
  obtain ⟨rfl, rfl⟩ := hp
  have S : StL g 107 s zs38_77 H locs := S
  refine a_aast (len := 6) (t := 4) C S (by decide) (by decide) KX0 rfl (⟨by decide, by decide, by decide⟩ : Ok 107 41 50006) (⟨by decide, by decide, by decide⟩ : Ok 107 103 0) (i := (5 : Int32)) (vp_in_iff.mpr ⟨by decide, by decide⟩) dX9_init_153 (fun H locs S => ?_)
  have S : StL g 107 s zs38_78 H locs := S
  refine lv_iinc (v := (6 : Int32)) (lv' := [(1, .int (6 : Int32)), (0, .ref (ga g (38)))]) hx hb dX9_init_154 hl (k := 0) rfl (by decide) (by decide) rfl (fun ls hl => ?_)
  refine lv_goto (tgt := 135) hx hb dX9_init_157 (by decide) ?_
  refine lv_iload_n hx hb dX9_init_135 rfl (lv_at hl 0 rfl) ?_
  refine lv_bipush (v := (6 : Int32)) hx hb dX9_init_136 (by decide) ?_
  refine lv_icmp_ge (tgt := 160) hx hb dX9_init_138 (by decide) (fun _ => ?_) (fun c => absurd (by decide) c)
  refine lv_aload_n hx hb dX9_init_160 rfl (lv_at hl 1 rfl) ?_
  have S : SN 107 g s zs38_78.1 zs38_78.2.1 zs38_78.2.2.1 H locs := SN.of (by decide +kernel) S
  refine v_callV C S (⟨by decide, by decide, by decide⟩ : Ok 107 38 9) KX9.1 KX9.2.2.2.2 (okn_X9_reset (z := 38) (reset_eq zs38_78.2.1 zs38_78.1 38) hsh_zs38_ ⟨(⟨by decide, by decide, by decide⟩ : Ok 107 38 9), rfl⟩) ⟨cd_X9_reset, ni_RX9, ml_RX9_51, in_X9_reset, sl_X9_reset⟩ ⟨by decide, by decide⟩ rfl ⟨by decide, by decide⟩ hl.1 rfl (Nat.le_of_ble_eq_true rfl) ⟨Nat.le_of_ble_eq_true rfl, Nat.le_of_ble_eq_true rfl⟩ dX9_init_161 (fun v σ' H locs hp S => ?_)
  obtain ⟨rfl, rfl⟩ := hp
  have S : StL g 107 s zs38_79 H locs := S
  exact v_vret C S hr ⟨rfl, rfl⟩ dX9_init_164
def zb_25 : Sg := uR (zs38_79) 1 8 (38)
theorem zr_zb_25 : Zr 107 zb_25 := Zr.uR zr_zs38_79 (by decide)
def zb_26 : Sg := alk 1 (zb_25)
theorem zr_zb_26 : Zr 108 zb_26 := Zr.alk (k := 1) zr_zb_25
def zs108_1 : Sg := alk 1 (zb_26)
theorem zr_zs108_1 : Zr 109 zs108_1 := Zr.alk (k := 1) zr_zb_26
def zs108_2 : Sg := uR (zs108_1) 108 0 (109)
theorem zr_zs108_2 : Zr 109 zs108_2 := Zr.uR zr_zs108_1 (by decide)
def zs108_3 : Sg := alk 1 (zs108_2)
theorem zr_zs108_3 : Zr 110 zs108_3 := Zr.alk (k := 1) zr_zs108_2
def zs108_4 : Sg := uR (zs108_3) 108 1 (110)
theorem zr_zs108_4 : Zr 110 zs108_4 := Zr.uR zr_zs108_3 (by decide)
def zs108_5 : Sg := alk 1 (zs108_4)
theorem zr_zs108_5 : Zr 111 zs108_5 := Zr.alk (k := 1) zr_zs108_4
def zs108_6 : Sg := uR (zs108_5) 108 2 (111)
theorem zr_zs108_6 : Zr 111 zs108_6 := Zr.uR zr_zs108_5 (by decide)
def zs108_7 : Sg := alk 1 (zs108_6)
theorem zr_zs108_7 : Zr 112 zs108_7 := Zr.alk (k := 1) zr_zs108_6
def zs108_8 : Sg := uR (zs108_7) 108 3 (112)
theorem zr_zs108_8 : Zr 112 zs108_8 := Zr.uR zr_zs108_7 (by decide)
def zs108_9 : Sg := alk 1 (zs108_8)
theorem zr_zs108_9 : Zr 113 zs108_9 := Zr.alk (k := 1) zr_zs108_8
def zs108_10 : Sg := uR (zs108_9) 108 4 (113)
theorem zr_zs108_10 : Zr 113 zs108_10 := Zr.uR zr_zs108_9 (by decide)
def zs108_11 : Sg := alk 1 (zs108_10)
theorem zr_zs108_11 : Zr 114 zs108_11 := Zr.alk (k := 1) zr_zs108_10
def zs108_12 : Sg := uR (zs108_11) 108 5 (114)
theorem zr_zs108_12 : Zr 114 zs108_12 := Zr.uR zr_zs108_11 (by decide)
def zs108_13 : Sg := alk 1 (zs108_12)
theorem zr_zs108_13 : Zr 115 zs108_13 := Zr.alk (k := 1) zr_zs108_12
def zs108_14 : Sg := uR (zs108_13) 108 6 (115)
theorem zr_zs108_14 : Zr 115 zs108_14 := Zr.uR zr_zs108_13 (by decide)
def zs108_15 : Sg := alk 1 (zs108_14)
theorem zr_zs108_15 : Zr 116 zs108_15 := Zr.alk (k := 1) zr_zs108_14
def zs108_16 : Sg := uR (zs108_15) 108 7 (116)
theorem zr_zs108_16 : Zr 116 zs108_16 := Zr.uR zr_zs108_15 (by decide)
def zs108_17 : Sg := alk 1 (zs108_16)
theorem zr_zs108_17 : Zr 117 zs108_17 := Zr.alk (k := 1) zr_zs108_16
def zs108_18 : Sg := uR (zs108_17) 108 8 (117)
theorem zr_zs108_18 : Zr 117 zs108_18 := Zr.uR zr_zs108_17 (by decide)
def zs108_19 : Sg := alk 1 (zs108_18)
theorem zr_zs108_19 : Zr 118 zs108_19 := Zr.alk (k := 1) zr_zs108_18
def zs108_20 : Sg := F_X4 (118) (zs108_19)
theorem zr_zs108_20 : Zr 120 zs108_20 := zr_X4 zr_zs108_19
def zs108_21 : Sg := uR (zs108_20) 109 0 118
theorem zr_zs108_21 : Zr 120 zs108_21 := Zr.uR zr_zs108_20 (by decide)
def zs108_22 : Sg := alk 1 (zs108_21)
theorem zr_zs108_22 : Zr 121 zs108_22 := Zr.alk (k := 1) zr_zs108_21
def zs108_23 : Sg := F_X4 (121) (zs108_22)
theorem zr_zs108_23 : Zr 123 zs108_23 := zr_X4 zr_zs108_22
def zs108_24 : Sg := uR (zs108_23) 109 1 121
theorem zr_zs108_24 : Zr 123 zs108_24 := Zr.uR zr_zs108_23 (by decide)
def zs108_25 : Sg := alk 1 (zs108_24)
theorem zr_zs108_25 : Zr 124 zs108_25 := Zr.alk (k := 1) zr_zs108_24
def zs108_26 : Sg := F_X4 (124) (zs108_25)
theorem zr_zs108_26 : Zr 126 zs108_26 := zr_X4 zr_zs108_25
def zs108_27 : Sg := uR (zs108_26) 109 2 124
theorem zr_zs108_27 : Zr 126 zs108_27 := Zr.uR zr_zs108_26 (by decide)
def zs108_28 : Sg := alk 1 (zs108_27)
theorem zr_zs108_28 : Zr 127 zs108_28 := Zr.alk (k := 1) zr_zs108_27
def zs108_29 : Sg := F_X4 (127) (zs108_28)
theorem zr_zs108_29 : Zr 129 zs108_29 := zr_X4 zr_zs108_28
def zs108_30 : Sg := uR (zs108_29) 109 3 127
theorem zr_zs108_30 : Zr 129 zs108_30 := Zr.uR zr_zs108_29 (by decide)
def zs108_31 : Sg := alk 1 (zs108_30)
theorem zr_zs108_31 : Zr 130 zs108_31 := Zr.alk (k := 1) zr_zs108_30
def zs108_32 : Sg := F_X4 (130) (zs108_31)
theorem zr_zs108_32 : Zr 132 zs108_32 := zr_X4 zr_zs108_31
def zs108_33 : Sg := uR (zs108_32) 109 4 130
theorem zr_zs108_33 : Zr 132 zs108_33 := Zr.uR zr_zs108_32 (by decide)
def zs108_34 : Sg := alk 1 (zs108_33)
theorem zr_zs108_34 : Zr 133 zs108_34 := Zr.alk (k := 1) zr_zs108_33
def zs108_35 : Sg := F_X4 (133) (zs108_34)
theorem zr_zs108_35 : Zr 135 zs108_35 := zr_X4 zr_zs108_34
def zs108_36 : Sg := uR (zs108_35) 109 5 133
theorem zr_zs108_36 : Zr 135 zs108_36 := Zr.uR zr_zs108_35 (by decide)
def zs108_37 : Sg := alk 1 (zs108_36)
theorem zr_zs108_37 : Zr 136 zs108_37 := Zr.alk (k := 1) zr_zs108_36
def zs108_38 : Sg := F_X4 (136) (zs108_37)
theorem zr_zs108_38 : Zr 138 zs108_38 := zr_X4 zr_zs108_37
def zs108_39 : Sg := uR (zs108_38) 109 6 136
theorem zr_zs108_39 : Zr 138 zs108_39 := Zr.uR zr_zs108_38 (by decide)
def zs108_40 : Sg := alk 1 (zs108_39)
theorem zr_zs108_40 : Zr 139 zs108_40 := Zr.alk (k := 1) zr_zs108_39
def zs108_41 : Sg := F_X4 (139) (zs108_40)
theorem zr_zs108_41 : Zr 141 zs108_41 := zr_X4 zr_zs108_40
def zs108_42 : Sg := uR (zs108_41) 109 7 139
theorem zr_zs108_42 : Zr 141 zs108_42 := Zr.uR zr_zs108_41 (by decide)
def zs108_43 : Sg := alk 1 (zs108_42)
theorem zr_zs108_43 : Zr 142 zs108_43 := Zr.alk (k := 1) zr_zs108_42
def zs108_44 : Sg := F_X7 (142) (zs108_43)
theorem zr_zs108_44 : Zr 142 zs108_44 := zr_X7 zr_zs108_43
def zs108_45 : Sg := uR (zs108_44) 110 0 142
theorem zr_zs108_45 : Zr 142 zs108_45 := Zr.uR zr_zs108_44 (by decide)
def zs108_46 : Sg := alk 1 (zs108_45)
theorem zr_zs108_46 : Zr 143 zs108_46 := Zr.alk (k := 1) zr_zs108_45
def zs108_47 : Sg := F_X7 (143) (zs108_46)
theorem zr_zs108_47 : Zr 143 zs108_47 := zr_X7 zr_zs108_46
def zs108_48 : Sg := uR (zs108_47) 110 1 143
theorem zr_zs108_48 : Zr 143 zs108_48 := Zr.uR zr_zs108_47 (by decide)
def zs108_49 : Sg := alk 1 (zs108_48)
theorem zr_zs108_49 : Zr 144 zs108_49 := Zr.alk (k := 1) zr_zs108_48
def zs108_50 : Sg := F_X7 (144) (zs108_49)
theorem zr_zs108_50 : Zr 144 zs108_50 := zr_X7 zr_zs108_49
def zs108_51 : Sg := uR (zs108_50) 110 2 144
theorem zr_zs108_51 : Zr 144 zs108_51 := Zr.uR zr_zs108_50 (by decide)
def zs108_52 : Sg := alk 1 (zs108_51)
theorem zr_zs108_52 : Zr 145 zs108_52 := Zr.alk (k := 1) zr_zs108_51
def zs108_53 : Sg := F_X7 (145) (zs108_52)
theorem zr_zs108_53 : Zr 145 zs108_53 := zr_X7 zr_zs108_52
def zs108_54 : Sg := uR (zs108_53) 110 3 145
theorem zr_zs108_54 : Zr 145 zs108_54 := Zr.uR zr_zs108_53 (by decide)
def zs108_55 : Sg := alk 1 (zs108_54)
theorem zr_zs108_55 : Zr 146 zs108_55 := Zr.alk (k := 1) zr_zs108_54
def zs108_56 : Sg := F_X7 (146) (zs108_55)
theorem zr_zs108_56 : Zr 146 zs108_56 := zr_X7 zr_zs108_55
def zs108_57 : Sg := uR (zs108_56) 110 4 146
theorem zr_zs108_57 : Zr 146 zs108_57 := Zr.uR zr_zs108_56 (by decide)
def zs108_58 : Sg := alk 1 (zs108_57)
theorem zr_zs108_58 : Zr 147 zs108_58 := Zr.alk (k := 1) zr_zs108_57
def zs108_59 : Sg := F_X7 (147) (zs108_58)
theorem zr_zs108_59 : Zr 147 zs108_59 := zr_X7 zr_zs108_58
def zs108_60 : Sg := uR (zs108_59) 110 5 147
theorem zr_zs108_60 : Zr 147 zs108_60 := Zr.uR zr_zs108_59 (by decide)
def zs108_61 : Sg := alk 1 (zs108_60)
theorem zr_zs108_61 : Zr 148 zs108_61 := Zr.alk (k := 1) zr_zs108_60
def zs108_62 : Sg := F_X0 (148) (zs108_61)
theorem zr_zs108_62 : Zr 152 zs108_62 := zr_X0 zr_zs108_61
def zs108_63 : Sg := uR (zs108_62) 111 0 148
theorem zr_zs108_63 : Zr 152 zs108_63 := Zr.uR zr_zs108_62 (by decide)
def zs108_64 : Sg := alk 1 (zs108_63)
theorem zr_zs108_64 : Zr 153 zs108_64 := Zr.alk (k := 1) zr_zs108_63
def zs108_65 : Sg := F_X0 (153) (zs108_64)
theorem zr_zs108_65 : Zr 157 zs108_65 := zr_X0 zr_zs108_64
def zs108_66 : Sg := uR (zs108_65) 111 1 153
theorem zr_zs108_66 : Zr 157 zs108_66 := Zr.uR zr_zs108_65 (by decide)
def zs108_67 : Sg := alk 1 (zs108_66)
theorem zr_zs108_67 : Zr 158 zs108_67 := Zr.alk (k := 1) zr_zs108_66
def zs108_68 : Sg := F_X0 (158) (zs108_67)
theorem zr_zs108_68 : Zr 162 zs108_68 := zr_X0 zr_zs108_67
def zs108_69 : Sg := uR (zs108_68) 111 2 158
theorem zr_zs108_69 : Zr 162 zs108_69 := Zr.uR zr_zs108_68 (by decide)
def zs108_70 : Sg := alk 1 (zs108_69)
theorem zr_zs108_70 : Zr 163 zs108_70 := Zr.alk (k := 1) zr_zs108_69
def zs108_71 : Sg := F_X0 (163) (zs108_70)
theorem zr_zs108_71 : Zr 167 zs108_71 := zr_X0 zr_zs108_70
def zs108_72 : Sg := uR (zs108_71) 111 3 163
theorem zr_zs108_72 : Zr 167 zs108_72 := Zr.uR zr_zs108_71 (by decide)
def zs108_73 : Sg := alk 1 (zs108_72)
theorem zr_zs108_73 : Zr 168 zs108_73 := Zr.alk (k := 1) zr_zs108_72
def zs108_74 : Sg := F_X0 (168) (zs108_73)
theorem zr_zs108_74 : Zr 172 zs108_74 := zr_X0 zr_zs108_73
def zs108_75 : Sg := uR (zs108_74) 111 4 168
theorem zr_zs108_75 : Zr 172 zs108_75 := Zr.uR zr_zs108_74 (by decide)
def zs108_76 : Sg := alk 1 (zs108_75)
theorem zr_zs108_76 : Zr 173 zs108_76 := Zr.alk (k := 1) zr_zs108_75
def zs108_77 : Sg := F_X0 (173) (zs108_76)
theorem zr_zs108_77 : Zr 177 zs108_77 := zr_X0 zr_zs108_76
def zs108_78 : Sg := uR (zs108_77) 111 5 173
theorem zr_zs108_78 : Zr 177 zs108_78 := Zr.uR zr_zs108_77 (by decide)
theorem hsh_zs108_ : ∀ k d, fk 9 k = some d → Ok 177 (zs108_78.2.1 108 k) d := by
  intro k d h
  match k, h with
  | 0, h => cases h; exact ⟨by decide +kernel, by decide +kernel, by decide +kernel⟩
  | 1, h => cases h; exact ⟨by decide +kernel, by decide +kernel, by decide +kernel⟩
  | 2, h => cases h; exact ⟨by decide +kernel, by decide +kernel, by decide +kernel⟩
  | 3, h => cases h; exact ⟨by decide +kernel, by decide +kernel, by decide +kernel⟩
  | 4, h => cases h; exact ⟨by decide +kernel, by decide +kernel, by decide +kernel⟩
  | 5, h => cases h; exact ⟨by decide +kernel, by decide +kernel, by decide +kernel⟩
  | 6, h => cases h; exact ⟨by decide +kernel, by decide +kernel, by decide +kernel⟩
  | 7, h => cases h; exact ⟨by decide +kernel, by decide +kernel, by decide +kernel⟩
  | 8, h => cases h; exact ⟨by decide +kernel, by decide +kernel, by decide +kernel⟩
  | k + 9, h => cases (show (none : Option Nat) = some d from h)
def zs108_79 : Sg := mkN 177 (FS_reset zs108_78.2.1 zs108_78.1 108) zs108_78.2.1 zs108_78.2.2.1
theorem zr_zs108_79 : Zr 177 zs108_79 := zr_FS_reset zr_zs108_78 (by decide) (by decide +kernel)
set_option maxHeartbeats 4000000 in
set_option maxRecDepth 100000 in
theorem ci_zs108_ {l : Launch} {g : GL} : Ct l g 2 yX9_init cX9_init 2 none 108 177 69 650 [.ref (ga g 108)] zb_26 (fun v σ' => v = none ∧ σ' = zs108_79) := by
  refine Met.ofW (cc := cX9_init) (maxL := 2) (ret := none) (by decide) rfl ?_
  intro p e s m args below meth c s₁ B hml hv
  obtain ⟨rfl, hE, hLo, hWd⟩ := hv
  have hr : meth.sig.returnType = none := B.returns
  have hnm : meth.name = "<init>" := (name_of_methodNamed B.named B.method).1
  have C : Cx l g p s m meth c cX9_init 2 RX9 := ⟨B.exec, B.bytes, hml, findClass_of_methodNamed B.named, hE, hLo, B.notSynchronized⟩
  have S : StL g 108 s zb_26 s.heap [] := ⟨hWd, va_S.rf⟩
  have hx := C.1
  have hb := C.2.1
  have hl := lv_entry ([.ref (ga g (108))]) (n := 2) (Nat.le_of_ble_eq_true rfl)
  rw [lg_entry_eq]
  generalize (lg_sl ([.ref (ga g (108))]) ++ List.replicate (2 - (lg_sl ([.ref (ga g (108))])).length) Slot.unset).toArray = ls at hl ⊢
  have hl : lv_has ls 2 [(0, .ref (ga g (108)))] := hl
  generalize hH : s.heap = H at S ⊢
  generalize hlc : ([] : List Loc) = locs at S ⊢
  refine lv_aload_n hx hb dX9_init_0 rfl (lv_at hl 0 rfl) ?_
  refine a_obj C ol_RX9 in_obj cd_obj hl.1 dX9_init_1 (Nat.le_of_ble_eq_true rfl) (Nat.le_of_ble_eq_true rfl) ?_
  refine lv_aload_n hx hb dX9_init_4 rfl (lv_at hl 0 rfl) ?_
  refine lv_bipush (v := (8 : Int32)) hx hb dX9_init_5 (by decide) ?_
  refine a_newQ C S (by decide) zr_zb_26 (Cm := RX4) 5 (by decide) rfl ⟨cl_RX9_9, ao_RX4⟩ (len := 8) (by decide) rfl (by decide) (by decide) (by decide) (Nat.le_of_ble_eq_true rfl) (Nat.le_of_ble_eq_true rfl) dX9_init_7 (fun H S hz => ?_)
  have S : StL g 109 s zs108_1 H locs := S
  refine a_putF C S KX9 (⟨by decide, by decide, by decide⟩ : Ok 109 108 9) 0 (by decide) rfl rfl hnm (by omega) (fun _ => rfl) (fun _ => rfl) rfl fl_RX9_11 dX9_init_10 (fun H locs S => ?_)
  have S : StL g 109 s zs108_2 H locs := S
  refine lv_aload_n hx hb dX9_init_13 rfl (lv_at hl 0 rfl) ?_
  refine lv_bipush (v := (6 : Int32)) hx hb dX9_init_14 (by decide) ?_
  refine a_newQ C S (by decide) zr_zs108_2 (Cm := RX7) 6 (by decide) rfl ⟨cl_RX9_17, ao_RX7⟩ (len := 6) (by decide) rfl (by decide) (by decide) (by decide) (Nat.le_of_ble_eq_true rfl) (Nat.le_of_ble_eq_true rfl) dX9_init_16 (fun H S hz => ?_)
  have S : StL g 110 s zs108_3 H locs := S
  refine a_putF C S KX9 (⟨by decide, by decide, by decide⟩ : Ok 110 108 9) 1 (by decide) rfl rfl hnm (by omega) (fun _ => rfl) (fun _ => rfl) rfl fl_RX9_19 dX9_init_19 (fun H locs S => ?_)
  have S : StL g 110 s zs108_4 H locs := S
  refine lv_aload_n hx hb dX9_init_22 rfl (lv_at hl 0 rfl) ?_
  refine lv_bipush (v := (6 : Int32)) hx hb dX9_init_23 (by decide) ?_
  refine a_newQ C S (by decide) zr_zs108_4 (Cm := RX0) 4 (by decide) rfl ⟨cl_RX9_23, ao_RX0⟩ (len := 6) (by decide) rfl (by decide) (by decide) (by decide) (Nat.le_of_ble_eq_true rfl) (Nat.le_of_ble_eq_true rfl) dX9_init_25 (fun H S hz => ?_)
  have S : StL g 111 s zs108_5 H locs := S
  refine a_putF C S KX9 (⟨by decide, by decide, by decide⟩ : Ok 111 108 9) 2 (by decide) rfl rfl hnm (by omega) (fun _ => rfl) (fun _ => rfl) rfl fl_RX9_25 dX9_init_28 (fun H locs S => ?_)
  have S : StL g 111 s zs108_6 H locs := S
  refine lv_aload_n hx hb dX9_init_31 rfl (lv_at hl 0 rfl) ?_
  refine lv_bipush (v := (8 : Int32)) hx hb dX9_init_32 (by decide) ?_
  refine a_newI C S (by decide) zr_zs108_6 ac_int (len := 8) (by decide) rfl (by decide) (by decide) (Nat.le_of_ble_eq_true rfl) (Nat.le_of_ble_eq_true rfl) dX9_init_34 (fun H S hz => ?_)
  have S : StL g 112 s zs108_7 H locs := S
  refine a_putF C S KX9 (⟨by decide, by decide, by decide⟩ : Ok 112 108 9) 3 (by decide) rfl rfl hnm (by omega) (fun _ => rfl) (fun _ => rfl) rfl fl_RX9_29 dX9_init_36 (fun H locs S => ?_)
  have S : StL g 112 s zs108_8 H locs := S
  refine lv_aload_n hx hb dX9_init_39 rfl (lv_at hl 0 rfl) ?_
  refine lv_bipush (v := (6 : Int32)) hx hb dX9_init_40 (by decide) ?_
  refine a_newI C S (by decide) zr_zs108_8 ac_int (len := 6) (by decide) rfl (by decide) (by decide) (Nat.le_of_ble_eq_true rfl) (Nat.le_of_ble_eq_true rfl) dX9_init_42 (fun H S hz => ?_)
  have S : StL g 113 s zs108_9 H locs := S
  refine a_putF C S KX9 (⟨by decide, by decide, by decide⟩ : Ok 113 108 9) 4 (by decide) rfl rfl hnm (by omega) (fun _ => rfl) (fun _ => rfl) rfl fl_RX9_33 dX9_init_44 (fun H locs S => ?_)
  have S : StL g 113 s zs108_10 H locs := S
  refine lv_aload_n hx hb dX9_init_47 rfl (lv_at hl 0 rfl) ?_
  refine lv_bipush (v := (6 : Int32)) hx hb dX9_init_48 (by decide) ?_
  refine a_newI C S (by decide) zr_zs108_10 ac_int (len := 6) (by decide) rfl (by decide) (by decide) (Nat.le_of_ble_eq_true rfl) (Nat.le_of_ble_eq_true rfl) dX9_init_50 (fun H S hz => ?_)
  have S : StL g 114 s zs108_11 H locs := S
  refine a_putF C S KX9 (⟨by decide, by decide, by decide⟩ : Ok 114 108 9) 5 (by decide) rfl rfl hnm (by omega) (fun _ => rfl) (fun _ => rfl) rfl fl_RX9_36 dX9_init_52 (fun H locs S => ?_)
  have S : StL g 114 s zs108_12 H locs := S
  refine lv_aload_n hx hb dX9_init_55 rfl (lv_at hl 0 rfl) ?_
  refine lv_bipush (v := (6 : Int32)) hx hb dX9_init_56 (by decide) ?_
  refine a_newI C S (by decide) zr_zs108_12 ac_int (len := 6) (by decide) rfl (by decide) (by decide) (Nat.le_of_ble_eq_true rfl) (Nat.le_of_ble_eq_true rfl) dX9_init_58 (fun H S hz => ?_)
  have S : StL g 115 s zs108_13 H locs := S
  refine a_putF C S KX9 (⟨by decide, by decide, by decide⟩ : Ok 115 108 9) 6 (by decide) rfl rfl hnm (by omega) (fun _ => rfl) (fun _ => rfl) rfl fl_RX9_39 dX9_init_60 (fun H locs S => ?_)
  have S : StL g 115 s zs108_14 H locs := S
  refine lv_aload_n hx hb dX9_init_63 rfl (lv_at hl 0 rfl) ?_
  refine lv_bipush (v := (24 : Int32)) hx hb dX9_init_64 (by decide) ?_
  refine a_newI C S (by decide) zr_zs108_14 ac_int (len := 24) (by decide) rfl (by decide) (by decide) (Nat.le_of_ble_eq_true rfl) (Nat.le_of_ble_eq_true rfl) dX9_init_66 (fun H S hz => ?_)
  have S : StL g 116 s zs108_15 H locs := S
  refine a_putF C S KX9 (⟨by decide, by decide, by decide⟩ : Ok 116 108 9) 7 (by decide) rfl rfl hnm (by omega) (fun _ => rfl) (fun _ => rfl) rfl fl_RX9_42 dX9_init_68 (fun H locs S => ?_)
  have S : StL g 116 s zs108_16 H locs := S
  refine lv_aload_n hx hb dX9_init_71 rfl (lv_at hl 0 rfl) ?_
  refine lv_bipush (v := (24 : Int32)) hx hb dX9_init_72 (by decide) ?_
  refine a_newI C S (by decide) zr_zs108_16 ac_int (len := 24) (by decide) rfl (by decide) (by decide) (Nat.le_of_ble_eq_true rfl) (Nat.le_of_ble_eq_true rfl) dX9_init_74 (fun H S hz => ?_)
  have S : StL g 117 s zs108_17 H locs := S
  refine a_putF C S KX9 (⟨by decide, by decide, by decide⟩ : Ok 117 108 9) 8 (by decide) rfl rfl hnm (by omega) (fun _ => rfl) (fun _ => rfl) rfl fl_RX9_45 dX9_init_76 (fun H locs S => ?_)
  have S : StL g 117 s zs108_18 H locs := S
  refine lv_iconst (v := (0 : Int32)) hx hb dX9_init_79 (by decide) ?_
  refine lv_istore_n (lv' := [(1, .int (0 : Int32)), (0, .ref (ga g (108)))]) hx hb dX9_init_80 rfl hl (by decide) rfl (fun ls hl => ?_)
  refine lv_iload_n hx hb dX9_init_81 rfl (lv_at hl 0 rfl) ?_
  refine lv_bipush (v := (8 : Int32)) hx hb dX9_init_82 (by decide) ?_
  refine lv_icmp_ge (tgt := 106) hx hb dX9_init_84 (by decide) (fun c => absurd c (by decide)) (fun _ => ?_)
  refine lv_aload_n hx hb dX9_init_87 rfl (lv_at hl 1 rfl) ?_
  refine a_getR (r := 109) C S KX9 (⟨by decide, by decide, by decide⟩ : Ok 117 108 9) 0 (by decide) rfl rfl fl_RX9_11 (by decide +kernel) (by decide) dX9_init_88 ?_
  refine lv_iload_n hx hb dX9_init_91 rfl (lv_at hl 0 rfl) ?_
  refine a_new C S (by decide) zr_zs108_18 KX4 df_X4 rfl ⟨cl_RX9_9, iz_RX4, ni_RX4⟩ (Nat.le_of_ble_eq_true rfl) (Nat.le_of_ble_eq_true rfl) dX9_init_92 (fun H S hz => ?_)
  have S : StL g 118 s zs108_19 H locs := S
  refine lv_dup hx hb dX9_init_95 rfl ?_
  refine v_callIN C S (ci_X4 zr_zs108_19 (by decide) (by decide) rfl rfl rfl) ⟨cd_X4_init, ni_RX4, mn_RX9_48, in_X4_init⟩ rfl ⟨by decide, by decide⟩ rfl ⟨by decide, by decide⟩ hl.1 rfl (Nat.le_of_ble_eq_true rfl) ⟨Nat.le_of_ble_eq_true rfl, Nat.le_of_ble_eq_true rfl⟩ dX9_init_96 (fun v σ' H locs hp S => ?_)
  obtain ⟨rfl, rfl⟩ := hp
  have S : StL g 120 s zs108_20 H locs := S
  refine a_aast (len := 8) (t := 5) C S (by decide) (by decide) KX4 rfl (⟨by decide, by decide, by decide⟩ : Ok 120 109 60008) (⟨by decide, by decide, by decide⟩ : Ok 120 118 4) (i := (0 : Int32)) (vp_in_iff.mpr ⟨by decide, by decide⟩) dX9_init_99 (fun H locs S => ?_)
  have S : StL g 120 s zs108_21 H locs := S
  refine lv_iinc (v := (1 : Int32)) (lv' := [(1, .int (1 : Int32)), (0, .ref (ga g (108)))]) hx hb dX9_init_100 hl (k := 0) rfl (by decide) (by decide) rfl (fun ls hl => ?_)
  refine lv_goto (tgt := 81) hx hb dX9_init_103 (by decide) ?_
  refine lv_iload_n hx hb dX9_init_81 rfl (lv_at hl 0 rfl) ?_
  refine lv_bipush (v := (8 : Int32)) hx hb dX9_init_82 (by decide) ?_
  refine lv_icmp_ge (tgt := 106) hx hb dX9_init_84 (by decide) (fun c => absurd c (by decide)) (fun _ => ?_)
  refine lv_aload_n hx hb dX9_init_87 rfl (lv_at hl 1 rfl) ?_
  refine a_getR (r := 109) C S KX9 (⟨by decide, by decide, by decide⟩ : Ok 120 108 9) 0 (by decide) rfl rfl fl_RX9_11 (by decide +kernel) (by decide) dX9_init_88 ?_
  refine lv_iload_n hx hb dX9_init_91 rfl (lv_at hl 0 rfl) ?_
  refine a_new C S (by decide) zr_zs108_21 KX4 df_X4 rfl ⟨cl_RX9_9, iz_RX4, ni_RX4⟩ (Nat.le_of_ble_eq_true rfl) (Nat.le_of_ble_eq_true rfl) dX9_init_92 (fun H S hz => ?_)
  have S : StL g 121 s zs108_22 H locs := S
  refine lv_dup hx hb dX9_init_95 rfl ?_
  refine v_callIN C S (ci_X4 zr_zs108_22 (by decide) (by decide) rfl rfl rfl) ⟨cd_X4_init, ni_RX4, mn_RX9_48, in_X4_init⟩ rfl ⟨by decide, by decide⟩ rfl ⟨by decide, by decide⟩ hl.1 rfl (Nat.le_of_ble_eq_true rfl) ⟨Nat.le_of_ble_eq_true rfl, Nat.le_of_ble_eq_true rfl⟩ dX9_init_96 (fun v σ' H locs hp S => ?_)
  obtain ⟨rfl, rfl⟩ := hp
  have S : StL g 123 s zs108_23 H locs := S
  refine a_aast (len := 8) (t := 5) C S (by decide) (by decide) KX4 rfl (⟨by decide, by decide, by decide⟩ : Ok 123 109 60008) (⟨by decide, by decide, by decide⟩ : Ok 123 121 4) (i := (1 : Int32)) (vp_in_iff.mpr ⟨by decide, by decide⟩) dX9_init_99 (fun H locs S => ?_)
  have S : StL g 123 s zs108_24 H locs := S
  refine lv_iinc (v := (2 : Int32)) (lv' := [(1, .int (2 : Int32)), (0, .ref (ga g (108)))]) hx hb dX9_init_100 hl (k := 0) rfl (by decide) (by decide) rfl (fun ls hl => ?_)
  refine lv_goto (tgt := 81) hx hb dX9_init_103 (by decide) ?_
  refine lv_iload_n hx hb dX9_init_81 rfl (lv_at hl 0 rfl) ?_
  refine lv_bipush (v := (8 : Int32)) hx hb dX9_init_82 (by decide) ?_
  refine lv_icmp_ge (tgt := 106) hx hb dX9_init_84 (by decide) (fun c => absurd c (by decide)) (fun _ => ?_)
  refine lv_aload_n hx hb dX9_init_87 rfl (lv_at hl 1 rfl) ?_
  refine a_getR (r := 109) C S KX9 (⟨by decide, by decide, by decide⟩ : Ok 123 108 9) 0 (by decide) rfl rfl fl_RX9_11 (by decide +kernel) (by decide) dX9_init_88 ?_
  refine lv_iload_n hx hb dX9_init_91 rfl (lv_at hl 0 rfl) ?_
  refine a_new C S (by decide) zr_zs108_24 KX4 df_X4 rfl ⟨cl_RX9_9, iz_RX4, ni_RX4⟩ (Nat.le_of_ble_eq_true rfl) (Nat.le_of_ble_eq_true rfl) dX9_init_92 (fun H S hz => ?_)
  have S : StL g 124 s zs108_25 H locs := S
  refine lv_dup hx hb dX9_init_95 rfl ?_
  refine v_callIN C S (ci_X4 zr_zs108_25 (by decide) (by decide) rfl rfl rfl) ⟨cd_X4_init, ni_RX4, mn_RX9_48, in_X4_init⟩ rfl ⟨by decide, by decide⟩ rfl ⟨by decide, by decide⟩ hl.1 rfl (Nat.le_of_ble_eq_true rfl) ⟨Nat.le_of_ble_eq_true rfl, Nat.le_of_ble_eq_true rfl⟩ dX9_init_96 (fun v σ' H locs hp S => ?_)
  obtain ⟨rfl, rfl⟩ := hp
  have S : StL g 126 s zs108_26 H locs := S
  refine a_aast (len := 8) (t := 5) C S (by decide) (by decide) KX4 rfl (⟨by decide, by decide, by decide⟩ : Ok 126 109 60008) (⟨by decide, by decide, by decide⟩ : Ok 126 124 4) (i := (2 : Int32)) (vp_in_iff.mpr ⟨by decide, by decide⟩) dX9_init_99 (fun H locs S => ?_)
  have S : StL g 126 s zs108_27 H locs := S
  refine lv_iinc (v := (3 : Int32)) (lv' := [(1, .int (3 : Int32)), (0, .ref (ga g (108)))]) hx hb dX9_init_100 hl (k := 0) rfl (by decide) (by decide) rfl (fun ls hl => ?_)
  refine lv_goto (tgt := 81) hx hb dX9_init_103 (by decide) ?_
  refine lv_iload_n hx hb dX9_init_81 rfl (lv_at hl 0 rfl) ?_
  refine lv_bipush (v := (8 : Int32)) hx hb dX9_init_82 (by decide) ?_
  refine lv_icmp_ge (tgt := 106) hx hb dX9_init_84 (by decide) (fun c => absurd c (by decide)) (fun _ => ?_)
  refine lv_aload_n hx hb dX9_init_87 rfl (lv_at hl 1 rfl) ?_
  refine a_getR (r := 109) C S KX9 (⟨by decide, by decide, by decide⟩ : Ok 126 108 9) 0 (by decide) rfl rfl fl_RX9_11 (by decide +kernel) (by decide) dX9_init_88 ?_
  refine lv_iload_n hx hb dX9_init_91 rfl (lv_at hl 0 rfl) ?_
  refine a_new C S (by decide) zr_zs108_27 KX4 df_X4 rfl ⟨cl_RX9_9, iz_RX4, ni_RX4⟩ (Nat.le_of_ble_eq_true rfl) (Nat.le_of_ble_eq_true rfl) dX9_init_92 (fun H S hz => ?_)
  have S : StL g 127 s zs108_28 H locs := S
  refine lv_dup hx hb dX9_init_95 rfl ?_
  refine v_callIN C S (ci_X4 zr_zs108_28 (by decide) (by decide) rfl rfl rfl) ⟨cd_X4_init, ni_RX4, mn_RX9_48, in_X4_init⟩ rfl ⟨by decide, by decide⟩ rfl ⟨by decide, by decide⟩ hl.1 rfl (Nat.le_of_ble_eq_true rfl) ⟨Nat.le_of_ble_eq_true rfl, Nat.le_of_ble_eq_true rfl⟩ dX9_init_96 (fun v σ' H locs hp S => ?_)
  obtain ⟨rfl, rfl⟩ := hp
  have S : StL g 129 s zs108_29 H locs := S
  refine a_aast (len := 8) (t := 5) C S (by decide) (by decide) KX4 rfl (⟨by decide, by decide, by decide⟩ : Ok 129 109 60008) (⟨by decide, by decide, by decide⟩ : Ok 129 127 4) (i := (3 : Int32)) (vp_in_iff.mpr ⟨by decide, by decide⟩) dX9_init_99 (fun H locs S => ?_)
  have S : StL g 129 s zs108_30 H locs := S
  refine lv_iinc (v := (4 : Int32)) (lv' := [(1, .int (4 : Int32)), (0, .ref (ga g (108)))]) hx hb dX9_init_100 hl (k := 0) rfl (by decide) (by decide) rfl (fun ls hl => ?_)
  refine lv_goto (tgt := 81) hx hb dX9_init_103 (by decide) ?_
  refine lv_iload_n hx hb dX9_init_81 rfl (lv_at hl 0 rfl) ?_
  refine lv_bipush (v := (8 : Int32)) hx hb dX9_init_82 (by decide) ?_
  refine lv_icmp_ge (tgt := 106) hx hb dX9_init_84 (by decide) (fun c => absurd c (by decide)) (fun _ => ?_)
  refine lv_aload_n hx hb dX9_init_87 rfl (lv_at hl 1 rfl) ?_
  refine a_getR (r := 109) C S KX9 (⟨by decide, by decide, by decide⟩ : Ok 129 108 9) 0 (by decide) rfl rfl fl_RX9_11 (by decide +kernel) (by decide) dX9_init_88 ?_
  refine lv_iload_n hx hb dX9_init_91 rfl (lv_at hl 0 rfl) ?_
  refine a_new C S (by decide) zr_zs108_30 KX4 df_X4 rfl ⟨cl_RX9_9, iz_RX4, ni_RX4⟩ (Nat.le_of_ble_eq_true rfl) (Nat.le_of_ble_eq_true rfl) dX9_init_92 (fun H S hz => ?_)
  have S : StL g 130 s zs108_31 H locs := S
  refine lv_dup hx hb dX9_init_95 rfl ?_
  refine v_callIN C S (ci_X4 zr_zs108_31 (by decide) (by decide) rfl rfl rfl) ⟨cd_X4_init, ni_RX4, mn_RX9_48, in_X4_init⟩ rfl ⟨by decide, by decide⟩ rfl ⟨by decide, by decide⟩ hl.1 rfl (Nat.le_of_ble_eq_true rfl) ⟨Nat.le_of_ble_eq_true rfl, Nat.le_of_ble_eq_true rfl⟩ dX9_init_96 (fun v σ' H locs hp S => ?_)
  obtain ⟨rfl, rfl⟩ := hp
  have S : StL g 132 s zs108_32 H locs := S
  refine a_aast (len := 8) (t := 5) C S (by decide) (by decide) KX4 rfl (⟨by decide, by decide, by decide⟩ : Ok 132 109 60008) (⟨by decide, by decide, by decide⟩ : Ok 132 130 4) (i := (4 : Int32)) (vp_in_iff.mpr ⟨by decide, by decide⟩) dX9_init_99 (fun H locs S => ?_)
  have S : StL g 132 s zs108_33 H locs := S
  refine lv_iinc (v := (5 : Int32)) (lv' := [(1, .int (5 : Int32)), (0, .ref (ga g (108)))]) hx hb dX9_init_100 hl (k := 0) rfl (by decide) (by decide) rfl (fun ls hl => ?_)
  refine lv_goto (tgt := 81) hx hb dX9_init_103 (by decide) ?_
  refine lv_iload_n hx hb dX9_init_81 rfl (lv_at hl 0 rfl) ?_
  refine lv_bipush (v := (8 : Int32)) hx hb dX9_init_82 (by decide) ?_
  refine lv_icmp_ge (tgt := 106) hx hb dX9_init_84 (by decide) (fun c => absurd c (by decide)) (fun _ => ?_)
  refine lv_aload_n hx hb dX9_init_87 rfl (lv_at hl 1 rfl) ?_
  refine a_getR (r := 109) C S KX9 (⟨by decide, by decide, by decide⟩ : Ok 132 108 9) 0 (by decide) rfl rfl fl_RX9_11 (by decide +kernel) (by decide) dX9_init_88 ?_
  refine lv_iload_n hx hb dX9_init_91 rfl (lv_at hl 0 rfl) ?_
  refine a_new C S (by decide) zr_zs108_33 KX4 df_X4 rfl ⟨cl_RX9_9, iz_RX4, ni_RX4⟩ (Nat.le_of_ble_eq_true rfl) (Nat.le_of_ble_eq_true rfl) dX9_init_92 (fun H S hz => ?_)
  have S : StL g 133 s zs108_34 H locs := S
  refine lv_dup hx hb dX9_init_95 rfl ?_
  refine v_callIN C S (ci_X4 zr_zs108_34 (by decide) (by decide) rfl rfl rfl) ⟨cd_X4_init, ni_RX4, mn_RX9_48, in_X4_init⟩ rfl ⟨by decide, by decide⟩ rfl ⟨by decide, by decide⟩ hl.1 rfl (Nat.le_of_ble_eq_true rfl) ⟨Nat.le_of_ble_eq_true rfl, Nat.le_of_ble_eq_true rfl⟩ dX9_init_96 (fun v σ' H locs hp S => ?_)
  obtain ⟨rfl, rfl⟩ := hp
  have S : StL g 135 s zs108_35 H locs := S
  refine a_aast (len := 8) (t := 5) C S (by decide) (by decide) KX4 rfl (⟨by decide, by decide, by decide⟩ : Ok 135 109 60008) (⟨by decide, by decide, by decide⟩ : Ok 135 133 4) (i := (5 : Int32)) (vp_in_iff.mpr ⟨by decide, by decide⟩) dX9_init_99 (fun H locs S => ?_)
  have S : StL g 135 s zs108_36 H locs := S
  refine lv_iinc (v := (6 : Int32)) (lv' := [(1, .int (6 : Int32)), (0, .ref (ga g (108)))]) hx hb dX9_init_100 hl (k := 0) rfl (by decide) (by decide) rfl (fun ls hl => ?_)
  refine lv_goto (tgt := 81) hx hb dX9_init_103 (by decide) ?_
  refine lv_iload_n hx hb dX9_init_81 rfl (lv_at hl 0 rfl) ?_
  refine lv_bipush (v := (8 : Int32)) hx hb dX9_init_82 (by decide) ?_
  refine lv_icmp_ge (tgt := 106) hx hb dX9_init_84 (by decide) (fun c => absurd c (by decide)) (fun _ => ?_)
  refine lv_aload_n hx hb dX9_init_87 rfl (lv_at hl 1 rfl) ?_
  refine a_getR (r := 109) C S KX9 (⟨by decide, by decide, by decide⟩ : Ok 135 108 9) 0 (by decide) rfl rfl fl_RX9_11 (by decide +kernel) (by decide) dX9_init_88 ?_
  refine lv_iload_n hx hb dX9_init_91 rfl (lv_at hl 0 rfl) ?_
  refine a_new C S (by decide) zr_zs108_36 KX4 df_X4 rfl ⟨cl_RX9_9, iz_RX4, ni_RX4⟩ (Nat.le_of_ble_eq_true rfl) (Nat.le_of_ble_eq_true rfl) dX9_init_92 (fun H S hz => ?_)
  have S : StL g 136 s zs108_37 H locs := S
  refine lv_dup hx hb dX9_init_95 rfl ?_
  refine v_callIN C S (ci_X4 zr_zs108_37 (by decide) (by decide) rfl rfl rfl) ⟨cd_X4_init, ni_RX4, mn_RX9_48, in_X4_init⟩ rfl ⟨by decide, by decide⟩ rfl ⟨by decide, by decide⟩ hl.1 rfl (Nat.le_of_ble_eq_true rfl) ⟨Nat.le_of_ble_eq_true rfl, Nat.le_of_ble_eq_true rfl⟩ dX9_init_96 (fun v σ' H locs hp S => ?_)
  obtain ⟨rfl, rfl⟩ := hp
  have S : StL g 138 s zs108_38 H locs := S
  refine a_aast (len := 8) (t := 5) C S (by decide) (by decide) KX4 rfl (⟨by decide, by decide, by decide⟩ : Ok 138 109 60008) (⟨by decide, by decide, by decide⟩ : Ok 138 136 4) (i := (6 : Int32)) (vp_in_iff.mpr ⟨by decide, by decide⟩) dX9_init_99 (fun H locs S => ?_)
  have S : StL g 138 s zs108_39 H locs := S
  refine lv_iinc (v := (7 : Int32)) (lv' := [(1, .int (7 : Int32)), (0, .ref (ga g (108)))]) hx hb dX9_init_100 hl (k := 0) rfl (by decide) (by decide) rfl (fun ls hl => ?_)
  refine lv_goto (tgt := 81) hx hb dX9_init_103 (by decide) ?_
  refine lv_iload_n hx hb dX9_init_81 rfl (lv_at hl 0 rfl) ?_
  refine lv_bipush (v := (8 : Int32)) hx hb dX9_init_82 (by decide) ?_
  refine lv_icmp_ge (tgt := 106) hx hb dX9_init_84 (by decide) (fun c => absurd c (by decide)) (fun _ => ?_)
  refine lv_aload_n hx hb dX9_init_87 rfl (lv_at hl 1 rfl) ?_
  refine a_getR (r := 109) C S KX9 (⟨by decide, by decide, by decide⟩ : Ok 138 108 9) 0 (by decide) rfl rfl fl_RX9_11 (by decide +kernel) (by decide) dX9_init_88 ?_
  refine lv_iload_n hx hb dX9_init_91 rfl (lv_at hl 0 rfl) ?_
  refine a_new C S (by decide) zr_zs108_39 KX4 df_X4 rfl ⟨cl_RX9_9, iz_RX4, ni_RX4⟩ (Nat.le_of_ble_eq_true rfl) (Nat.le_of_ble_eq_true rfl) dX9_init_92 (fun H S hz => ?_)
  have S : StL g 139 s zs108_40 H locs := S
  refine lv_dup hx hb dX9_init_95 rfl ?_
  refine v_callIN C S (ci_X4 zr_zs108_40 (by decide) (by decide) rfl rfl rfl) ⟨cd_X4_init, ni_RX4, mn_RX9_48, in_X4_init⟩ rfl ⟨by decide, by decide⟩ rfl ⟨by decide, by decide⟩ hl.1 rfl (Nat.le_of_ble_eq_true rfl) ⟨Nat.le_of_ble_eq_true rfl, Nat.le_of_ble_eq_true rfl⟩ dX9_init_96 (fun v σ' H locs hp S => ?_)
  obtain ⟨rfl, rfl⟩ := hp
  have S : StL g 141 s zs108_41 H locs := S
  refine a_aast (len := 8) (t := 5) C S (by decide) (by decide) KX4 rfl (⟨by decide, by decide, by decide⟩ : Ok 141 109 60008) (⟨by decide, by decide, by decide⟩ : Ok 141 139 4) (i := (7 : Int32)) (vp_in_iff.mpr ⟨by decide, by decide⟩) dX9_init_99 (fun H locs S => ?_)
  have S : StL g 141 s zs108_42 H locs := S
  refine lv_iinc (v := (8 : Int32)) (lv' := [(1, .int (8 : Int32)), (0, .ref (ga g (108)))]) hx hb dX9_init_100 hl (k := 0) rfl (by decide) (by decide) rfl (fun ls hl => ?_)
  refine lv_goto (tgt := 81) hx hb dX9_init_103 (by decide) ?_
  refine lv_iload_n hx hb dX9_init_81 rfl (lv_at hl 0 rfl) ?_
  refine lv_bipush (v := (8 : Int32)) hx hb dX9_init_82 (by decide) ?_
  refine lv_icmp_ge (tgt := 106) hx hb dX9_init_84 (by decide) (fun _ => ?_) (fun c => absurd (by decide) c)
  refine lv_iconst (v := (0 : Int32)) hx hb dX9_init_106 (by decide) ?_
  refine lv_istore_n (lv' := [(1, .int (0 : Int32)), (0, .ref (ga g (108)))]) hx hb dX9_init_107 rfl hl (by decide) rfl (fun ls hl => ?_)
  refine lv_iload_n hx hb dX9_init_108 rfl (lv_at hl 0 rfl) ?_
  refine lv_bipush (v := (6 : Int32)) hx hb dX9_init_109 (by decide) ?_
  refine lv_icmp_ge (tgt := 133) hx hb dX9_init_111 (by decide) (fun c => absurd c (by decide)) (fun _ => ?_)
  refine lv_aload_n hx hb dX9_init_114 rfl (lv_at hl 1 rfl) ?_
  refine a_getR (r := 110) C S KX9 (⟨by decide, by decide, by decide⟩ : Ok 141 108 9) 1 (by decide) rfl rfl fl_RX9_19 (by decide +kernel) (by decide) dX9_init_115 ?_
  refine lv_iload_n hx hb dX9_init_118 rfl (lv_at hl 0 rfl) ?_
  refine a_new C S (by decide) zr_zs108_42 KX7 df_X7 rfl ⟨cl_RX9_17, iz_RX7, ni_RX7⟩ (Nat.le_of_ble_eq_true rfl) (Nat.le_of_ble_eq_true rfl) dX9_init_119 (fun H S hz => ?_)
  have S : StL g 142 s zs108_43 H locs := S
  refine lv_dup hx hb dX9_init_122 rfl ?_
  refine v_callIN C S (ci_X7 zr_zs108_43 (by decide) (by decide) rfl) ⟨cd_X7_init, ni_RX7, mn_RX9_49, in_X7_init⟩ rfl ⟨by decide, by decide⟩ rfl ⟨by decide, by decide⟩ hl.1 rfl (Nat.le_of_ble_eq_true rfl) ⟨Nat.le_of_ble_eq_true rfl, Nat.le_of_ble_eq_true rfl⟩ dX9_init_123 (fun v σ' H locs hp S => ?_)
  obtain ⟨rfl, rfl⟩ := hp
  have S : StL g 142 s zs108_44 H locs := S
  refine a_aast (len := 6) (t := 6) C S (by decide) (by decide) KX7 rfl (⟨by decide, by decide, by decide⟩ : Ok 142 110 70006) (⟨by decide, by decide, by decide⟩ : Ok 142 142 7) (i := (0 : Int32)) (vp_in_iff.mpr ⟨by decide, by decide⟩) dX9_init_126 (fun H locs S => ?_)
  have S : StL g 142 s zs108_45 H locs := S
  refine lv_iinc (v := (1 : Int32)) (lv' := [(1, .int (1 : Int32)), (0, .ref (ga g (108)))]) hx hb dX9_init_127 hl (k := 0) rfl (by decide) (by decide) rfl (fun ls hl => ?_)
  refine lv_goto (tgt := 108) hx hb dX9_init_130 (by decide) ?_
  refine lv_iload_n hx hb dX9_init_108 rfl (lv_at hl 0 rfl) ?_
  refine lv_bipush (v := (6 : Int32)) hx hb dX9_init_109 (by decide) ?_
  refine lv_icmp_ge (tgt := 133) hx hb dX9_init_111 (by decide) (fun c => absurd c (by decide)) (fun _ => ?_)
  refine lv_aload_n hx hb dX9_init_114 rfl (lv_at hl 1 rfl) ?_
  refine a_getR (r := 110) C S KX9 (⟨by decide, by decide, by decide⟩ : Ok 142 108 9) 1 (by decide) rfl rfl fl_RX9_19 (by decide +kernel) (by decide) dX9_init_115 ?_
  refine lv_iload_n hx hb dX9_init_118 rfl (lv_at hl 0 rfl) ?_
  refine a_new C S (by decide) zr_zs108_45 KX7 df_X7 rfl ⟨cl_RX9_17, iz_RX7, ni_RX7⟩ (Nat.le_of_ble_eq_true rfl) (Nat.le_of_ble_eq_true rfl) dX9_init_119 (fun H S hz => ?_)
  have S : StL g 143 s zs108_46 H locs := S
  refine lv_dup hx hb dX9_init_122 rfl ?_
  refine v_callIN C S (ci_X7 zr_zs108_46 (by decide) (by decide) rfl) ⟨cd_X7_init, ni_RX7, mn_RX9_49, in_X7_init⟩ rfl ⟨by decide, by decide⟩ rfl ⟨by decide, by decide⟩ hl.1 rfl (Nat.le_of_ble_eq_true rfl) ⟨Nat.le_of_ble_eq_true rfl, Nat.le_of_ble_eq_true rfl⟩ dX9_init_123 (fun v σ' H locs hp S => ?_)
  obtain ⟨rfl, rfl⟩ := hp
  have S : StL g 143 s zs108_47 H locs := S
  refine a_aast (len := 6) (t := 6) C S (by decide) (by decide) KX7 rfl (⟨by decide, by decide, by decide⟩ : Ok 143 110 70006) (⟨by decide, by decide, by decide⟩ : Ok 143 143 7) (i := (1 : Int32)) (vp_in_iff.mpr ⟨by decide, by decide⟩) dX9_init_126 (fun H locs S => ?_)
  have S : StL g 143 s zs108_48 H locs := S
  refine lv_iinc (v := (2 : Int32)) (lv' := [(1, .int (2 : Int32)), (0, .ref (ga g (108)))]) hx hb dX9_init_127 hl (k := 0) rfl (by decide) (by decide) rfl (fun ls hl => ?_)
  refine lv_goto (tgt := 108) hx hb dX9_init_130 (by decide) ?_
  refine lv_iload_n hx hb dX9_init_108 rfl (lv_at hl 0 rfl) ?_
  refine lv_bipush (v := (6 : Int32)) hx hb dX9_init_109 (by decide) ?_
  refine lv_icmp_ge (tgt := 133) hx hb dX9_init_111 (by decide) (fun c => absurd c (by decide)) (fun _ => ?_)
  refine lv_aload_n hx hb dX9_init_114 rfl (lv_at hl 1 rfl) ?_
  refine a_getR (r := 110) C S KX9 (⟨by decide, by decide, by decide⟩ : Ok 143 108 9) 1 (by decide) rfl rfl fl_RX9_19 (by decide +kernel) (by decide) dX9_init_115 ?_
  refine lv_iload_n hx hb dX9_init_118 rfl (lv_at hl 0 rfl) ?_
  refine a_new C S (by decide) zr_zs108_48 KX7 df_X7 rfl ⟨cl_RX9_17, iz_RX7, ni_RX7⟩ (Nat.le_of_ble_eq_true rfl) (Nat.le_of_ble_eq_true rfl) dX9_init_119 (fun H S hz => ?_)
  have S : StL g 144 s zs108_49 H locs := S
  refine lv_dup hx hb dX9_init_122 rfl ?_
  refine v_callIN C S (ci_X7 zr_zs108_49 (by decide) (by decide) rfl) ⟨cd_X7_init, ni_RX7, mn_RX9_49, in_X7_init⟩ rfl ⟨by decide, by decide⟩ rfl ⟨by decide, by decide⟩ hl.1 rfl (Nat.le_of_ble_eq_true rfl) ⟨Nat.le_of_ble_eq_true rfl, Nat.le_of_ble_eq_true rfl⟩ dX9_init_123 (fun v σ' H locs hp S => ?_)
  obtain ⟨rfl, rfl⟩ := hp
  have S : StL g 144 s zs108_50 H locs := S
  refine a_aast (len := 6) (t := 6) C S (by decide) (by decide) KX7 rfl (⟨by decide, by decide, by decide⟩ : Ok 144 110 70006) (⟨by decide, by decide, by decide⟩ : Ok 144 144 7) (i := (2 : Int32)) (vp_in_iff.mpr ⟨by decide, by decide⟩) dX9_init_126 (fun H locs S => ?_)
  have S : StL g 144 s zs108_51 H locs := S
  refine lv_iinc (v := (3 : Int32)) (lv' := [(1, .int (3 : Int32)), (0, .ref (ga g (108)))]) hx hb dX9_init_127 hl (k := 0) rfl (by decide) (by decide) rfl (fun ls hl => ?_)
  refine lv_goto (tgt := 108) hx hb dX9_init_130 (by decide) ?_
  refine lv_iload_n hx hb dX9_init_108 rfl (lv_at hl 0 rfl) ?_
  refine lv_bipush (v := (6 : Int32)) hx hb dX9_init_109 (by decide) ?_
  refine lv_icmp_ge (tgt := 133) hx hb dX9_init_111 (by decide) (fun c => absurd c (by decide)) (fun _ => ?_)
  refine lv_aload_n hx hb dX9_init_114 rfl (lv_at hl 1 rfl) ?_
  refine a_getR (r := 110) C S KX9 (⟨by decide, by decide, by decide⟩ : Ok 144 108 9) 1 (by decide) rfl rfl fl_RX9_19 (by decide +kernel) (by decide) dX9_init_115 ?_
  refine lv_iload_n hx hb dX9_init_118 rfl (lv_at hl 0 rfl) ?_
  refine a_new C S (by decide) zr_zs108_51 KX7 df_X7 rfl ⟨cl_RX9_17, iz_RX7, ni_RX7⟩ (Nat.le_of_ble_eq_true rfl) (Nat.le_of_ble_eq_true rfl) dX9_init_119 (fun H S hz => ?_)
  have S : StL g 145 s zs108_52 H locs := S
  refine lv_dup hx hb dX9_init_122 rfl ?_
  refine v_callIN C S (ci_X7 zr_zs108_52 (by decide) (by decide) rfl) ⟨cd_X7_init, ni_RX7, mn_RX9_49, in_X7_init⟩ rfl ⟨by decide, by decide⟩ rfl ⟨by decide, by decide⟩ hl.1 rfl (Nat.le_of_ble_eq_true rfl) ⟨Nat.le_of_ble_eq_true rfl, Nat.le_of_ble_eq_true rfl⟩ dX9_init_123 (fun v σ' H locs hp S => ?_)
  obtain ⟨rfl, rfl⟩ := hp
  have S : StL g 145 s zs108_53 H locs := S
  refine a_aast (len := 6) (t := 6) C S (by decide) (by decide) KX7 rfl (⟨by decide, by decide, by decide⟩ : Ok 145 110 70006) (⟨by decide, by decide, by decide⟩ : Ok 145 145 7) (i := (3 : Int32)) (vp_in_iff.mpr ⟨by decide, by decide⟩) dX9_init_126 (fun H locs S => ?_)
  have S : StL g 145 s zs108_54 H locs := S
  refine lv_iinc (v := (4 : Int32)) (lv' := [(1, .int (4 : Int32)), (0, .ref (ga g (108)))]) hx hb dX9_init_127 hl (k := 0) rfl (by decide) (by decide) rfl (fun ls hl => ?_)
  refine lv_goto (tgt := 108) hx hb dX9_init_130 (by decide) ?_
  refine lv_iload_n hx hb dX9_init_108 rfl (lv_at hl 0 rfl) ?_
  refine lv_bipush (v := (6 : Int32)) hx hb dX9_init_109 (by decide) ?_
  refine lv_icmp_ge (tgt := 133) hx hb dX9_init_111 (by decide) (fun c => absurd c (by decide)) (fun _ => ?_)
  refine lv_aload_n hx hb dX9_init_114 rfl (lv_at hl 1 rfl) ?_
  refine a_getR (r := 110) C S KX9 (⟨by decide, by decide, by decide⟩ : Ok 145 108 9) 1 (by decide) rfl rfl fl_RX9_19 (by decide +kernel) (by decide) dX9_init_115 ?_
  refine lv_iload_n hx hb dX9_init_118 rfl (lv_at hl 0 rfl) ?_
  refine a_new C S (by decide) zr_zs108_54 KX7 df_X7 rfl ⟨cl_RX9_17, iz_RX7, ni_RX7⟩ (Nat.le_of_ble_eq_true rfl) (Nat.le_of_ble_eq_true rfl) dX9_init_119 (fun H S hz => ?_)
  have S : StL g 146 s zs108_55 H locs := S
  refine lv_dup hx hb dX9_init_122 rfl ?_
  refine v_callIN C S (ci_X7 zr_zs108_55 (by decide) (by decide) rfl) ⟨cd_X7_init, ni_RX7, mn_RX9_49, in_X7_init⟩ rfl ⟨by decide, by decide⟩ rfl ⟨by decide, by decide⟩ hl.1 rfl (Nat.le_of_ble_eq_true rfl) ⟨Nat.le_of_ble_eq_true rfl, Nat.le_of_ble_eq_true rfl⟩ dX9_init_123 (fun v σ' H locs hp S => ?_)
  obtain ⟨rfl, rfl⟩ := hp
  have S : StL g 146 s zs108_56 H locs := S
  refine a_aast (len := 6) (t := 6) C S (by decide) (by decide) KX7 rfl (⟨by decide, by decide, by decide⟩ : Ok 146 110 70006) (⟨by decide, by decide, by decide⟩ : Ok 146 146 7) (i := (4 : Int32)) (vp_in_iff.mpr ⟨by decide, by decide⟩) dX9_init_126 (fun H locs S => ?_)
  have S : StL g 146 s zs108_57 H locs := S
  refine lv_iinc (v := (5 : Int32)) (lv' := [(1, .int (5 : Int32)), (0, .ref (ga g (108)))]) hx hb dX9_init_127 hl (k := 0) rfl (by decide) (by decide) rfl (fun ls hl => ?_)
  refine lv_goto (tgt := 108) hx hb dX9_init_130 (by decide) ?_
  refine lv_iload_n hx hb dX9_init_108 rfl (lv_at hl 0 rfl) ?_
  refine lv_bipush (v := (6 : Int32)) hx hb dX9_init_109 (by decide) ?_
  refine lv_icmp_ge (tgt := 133) hx hb dX9_init_111 (by decide) (fun c => absurd c (by decide)) (fun _ => ?_)
  refine lv_aload_n hx hb dX9_init_114 rfl (lv_at hl 1 rfl) ?_
  refine a_getR (r := 110) C S KX9 (⟨by decide, by decide, by decide⟩ : Ok 146 108 9) 1 (by decide) rfl rfl fl_RX9_19 (by decide +kernel) (by decide) dX9_init_115 ?_
  refine lv_iload_n hx hb dX9_init_118 rfl (lv_at hl 0 rfl) ?_
  refine a_new C S (by decide) zr_zs108_57 KX7 df_X7 rfl ⟨cl_RX9_17, iz_RX7, ni_RX7⟩ (Nat.le_of_ble_eq_true rfl) (Nat.le_of_ble_eq_true rfl) dX9_init_119 (fun H S hz => ?_)
  have S : StL g 147 s zs108_58 H locs := S
  refine lv_dup hx hb dX9_init_122 rfl ?_
  refine v_callIN C S (ci_X7 zr_zs108_58 (by decide) (by decide) rfl) ⟨cd_X7_init, ni_RX7, mn_RX9_49, in_X7_init⟩ rfl ⟨by decide, by decide⟩ rfl ⟨by decide, by decide⟩ hl.1 rfl (Nat.le_of_ble_eq_true rfl) ⟨Nat.le_of_ble_eq_true rfl, Nat.le_of_ble_eq_true rfl⟩ dX9_init_123 (fun v σ' H locs hp S => ?_)
  obtain ⟨rfl, rfl⟩ := hp
  have S : StL g 147 s zs108_59 H locs := S
  refine a_aast (len := 6) (t := 6) C S (by decide) (by decide) KX7 rfl (⟨by decide, by decide, by decide⟩ : Ok 147 110 70006) (⟨by decide, by decide, by decide⟩ : Ok 147 147 7) (i := (5 : Int32)) (vp_in_iff.mpr ⟨by decide, by decide⟩) dX9_init_126 (fun H locs S => ?_)
  have S : StL g 147 s zs108_60 H locs := S
  refine lv_iinc (v := (6 : Int32)) (lv' := [(1, .int (6 : Int32)), (0, .ref (ga g (108)))]) hx hb dX9_init_127 hl (k := 0) rfl (by decide) (by decide) rfl (fun ls hl => ?_)
  refine lv_goto (tgt := 108) hx hb dX9_init_130 (by decide) ?_
  refine lv_iload_n hx hb dX9_init_108 rfl (lv_at hl 0 rfl) ?_
  refine lv_bipush (v := (6 : Int32)) hx hb dX9_init_109 (by decide) ?_
  refine lv_icmp_ge (tgt := 133) hx hb dX9_init_111 (by decide) (fun _ => ?_) (fun c => absurd (by decide) c)
  refine lv_iconst (v := (0 : Int32)) hx hb dX9_init_133 (by decide) ?_
  refine lv_istore_n (lv' := [(1, .int (0 : Int32)), (0, .ref (ga g (108)))]) hx hb dX9_init_134 rfl hl (by decide) rfl (fun ls hl => ?_)
  refine lv_iload_n hx hb dX9_init_135 rfl (lv_at hl 0 rfl) ?_
  refine lv_bipush (v := (6 : Int32)) hx hb dX9_init_136 (by decide) ?_
  refine lv_icmp_ge (tgt := 160) hx hb dX9_init_138 (by decide) (fun c => absurd c (by decide)) (fun _ => ?_)
  refine lv_aload_n hx hb dX9_init_141 rfl (lv_at hl 1 rfl) ?_
  refine a_getR (r := 111) C S KX9 (⟨by decide, by decide, by decide⟩ : Ok 147 108 9) 2 (by decide) rfl rfl fl_RX9_25 (by decide +kernel) (by decide) dX9_init_142 ?_
  refine lv_iload_n hx hb dX9_init_145 rfl (lv_at hl 0 rfl) ?_
  refine a_new C S (by decide) zr_zs108_60 KX0 df_X0 rfl ⟨cl_RX9_23, iz_RX0, ni_RX0⟩ (Nat.le_of_ble_eq_true rfl) (Nat.le_of_ble_eq_true rfl) dX9_init_146 (fun H S hz => ?_)
  have S : StL g 148 s zs108_61 H locs := S
  refine lv_dup hx hb dX9_init_149 rfl ?_
  refine v_callIN C S (ci_X0 zr_zs108_61 (by decide) (by decide) rfl rfl rfl rfl rfl) ⟨cd_X0_init, ni_RX0, mn_RX9_50, in_X0_init⟩ rfl ⟨by decide, by decide⟩ rfl ⟨by decide, by decide⟩ hl.1 rfl (Nat.le_of_ble_eq_true rfl) ⟨Nat.le_of_ble_eq_true rfl, Nat.le_of_ble_eq_true rfl⟩ dX9_init_150 (fun v σ' H locs hp S => ?_)
  obtain ⟨rfl, rfl⟩ := hp
  have S : StL g 152 s zs108_62 H locs := S
  refine a_aast (len := 6) (t := 4) C S (by decide) (by decide) KX0 rfl (⟨by decide, by decide, by decide⟩ : Ok 152 111 50006) (⟨by decide, by decide, by decide⟩ : Ok 152 148 0) (i := (0 : Int32)) (vp_in_iff.mpr ⟨by decide, by decide⟩) dX9_init_153 (fun H locs S => ?_)
  have S : StL g 152 s zs108_63 H locs := S
  refine lv_iinc (v := (1 : Int32)) (lv' := [(1, .int (1 : Int32)), (0, .ref (ga g (108)))]) hx hb dX9_init_154 hl (k := 0) rfl (by decide) (by decide) rfl (fun ls hl => ?_)
  refine lv_goto (tgt := 135) hx hb dX9_init_157 (by decide) ?_
  refine lv_iload_n hx hb dX9_init_135 rfl (lv_at hl 0 rfl) ?_
  refine lv_bipush (v := (6 : Int32)) hx hb dX9_init_136 (by decide) ?_
  refine lv_icmp_ge (tgt := 160) hx hb dX9_init_138 (by decide) (fun c => absurd c (by decide)) (fun _ => ?_)
  refine lv_aload_n hx hb dX9_init_141 rfl (lv_at hl 1 rfl) ?_
  refine a_getR (r := 111) C S KX9 (⟨by decide, by decide, by decide⟩ : Ok 152 108 9) 2 (by decide) rfl rfl fl_RX9_25 (by decide +kernel) (by decide) dX9_init_142 ?_
  refine lv_iload_n hx hb dX9_init_145 rfl (lv_at hl 0 rfl) ?_
  refine a_new C S (by decide) zr_zs108_63 KX0 df_X0 rfl ⟨cl_RX9_23, iz_RX0, ni_RX0⟩ (Nat.le_of_ble_eq_true rfl) (Nat.le_of_ble_eq_true rfl) dX9_init_146 (fun H S hz => ?_)
  have S : StL g 153 s zs108_64 H locs := S
  refine lv_dup hx hb dX9_init_149 rfl ?_
  refine v_callIN C S (ci_X0 zr_zs108_64 (by decide) (by decide) rfl rfl rfl rfl rfl) ⟨cd_X0_init, ni_RX0, mn_RX9_50, in_X0_init⟩ rfl ⟨by decide, by decide⟩ rfl ⟨by decide, by decide⟩ hl.1 rfl (Nat.le_of_ble_eq_true rfl) ⟨Nat.le_of_ble_eq_true rfl, Nat.le_of_ble_eq_true rfl⟩ dX9_init_150 (fun v σ' H locs hp S => ?_)
  obtain ⟨rfl, rfl⟩ := hp
  have S : StL g 157 s zs108_65 H locs := S
  refine a_aast (len := 6) (t := 4) C S (by decide) (by decide) KX0 rfl (⟨by decide, by decide, by decide⟩ : Ok 157 111 50006) (⟨by decide, by decide, by decide⟩ : Ok 157 153 0) (i := (1 : Int32)) (vp_in_iff.mpr ⟨by decide, by decide⟩) dX9_init_153 (fun H locs S => ?_)
  have S : StL g 157 s zs108_66 H locs := S
  refine lv_iinc (v := (2 : Int32)) (lv' := [(1, .int (2 : Int32)), (0, .ref (ga g (108)))]) hx hb dX9_init_154 hl (k := 0) rfl (by decide) (by decide) rfl (fun ls hl => ?_)
  refine lv_goto (tgt := 135) hx hb dX9_init_157 (by decide) ?_
  refine lv_iload_n hx hb dX9_init_135 rfl (lv_at hl 0 rfl) ?_
  refine lv_bipush (v := (6 : Int32)) hx hb dX9_init_136 (by decide) ?_
  refine lv_icmp_ge (tgt := 160) hx hb dX9_init_138 (by decide) (fun c => absurd c (by decide)) (fun _ => ?_)
  refine lv_aload_n hx hb dX9_init_141 rfl (lv_at hl 1 rfl) ?_
  refine a_getR (r := 111) C S KX9 (⟨by decide, by decide, by decide⟩ : Ok 157 108 9) 2 (by decide) rfl rfl fl_RX9_25 (by decide +kernel) (by decide) dX9_init_142 ?_
  refine lv_iload_n hx hb dX9_init_145 rfl (lv_at hl 0 rfl) ?_
  refine a_new C S (by decide) zr_zs108_66 KX0 df_X0 rfl ⟨cl_RX9_23, iz_RX0, ni_RX0⟩ (Nat.le_of_ble_eq_true rfl) (Nat.le_of_ble_eq_true rfl) dX9_init_146 (fun H S hz => ?_)
  have S : StL g 158 s zs108_67 H locs := S
  refine lv_dup hx hb dX9_init_149 rfl ?_
  refine v_callIN C S (ci_X0 zr_zs108_67 (by decide) (by decide) rfl rfl rfl rfl rfl) ⟨cd_X0_init, ni_RX0, mn_RX9_50, in_X0_init⟩ rfl ⟨by decide, by decide⟩ rfl ⟨by decide, by decide⟩ hl.1 rfl (Nat.le_of_ble_eq_true rfl) ⟨Nat.le_of_ble_eq_true rfl, Nat.le_of_ble_eq_true rfl⟩ dX9_init_150 (fun v σ' H locs hp S => ?_)
  obtain ⟨rfl, rfl⟩ := hp
  have S : StL g 162 s zs108_68 H locs := S
  refine a_aast (len := 6) (t := 4) C S (by decide) (by decide) KX0 rfl (⟨by decide, by decide, by decide⟩ : Ok 162 111 50006) (⟨by decide, by decide, by decide⟩ : Ok 162 158 0) (i := (2 : Int32)) (vp_in_iff.mpr ⟨by decide, by decide⟩) dX9_init_153 (fun H locs S => ?_)
  have S : StL g 162 s zs108_69 H locs := S
  refine lv_iinc (v := (3 : Int32)) (lv' := [(1, .int (3 : Int32)), (0, .ref (ga g (108)))]) hx hb dX9_init_154 hl (k := 0) rfl (by decide) (by decide) rfl (fun ls hl => ?_)
  refine lv_goto (tgt := 135) hx hb dX9_init_157 (by decide) ?_
  refine lv_iload_n hx hb dX9_init_135 rfl (lv_at hl 0 rfl) ?_
  refine lv_bipush (v := (6 : Int32)) hx hb dX9_init_136 (by decide) ?_
  refine lv_icmp_ge (tgt := 160) hx hb dX9_init_138 (by decide) (fun c => absurd c (by decide)) (fun _ => ?_)
  refine lv_aload_n hx hb dX9_init_141 rfl (lv_at hl 1 rfl) ?_
  refine a_getR (r := 111) C S KX9 (⟨by decide, by decide, by decide⟩ : Ok 162 108 9) 2 (by decide) rfl rfl fl_RX9_25 (by decide +kernel) (by decide) dX9_init_142 ?_
  refine lv_iload_n hx hb dX9_init_145 rfl (lv_at hl 0 rfl) ?_
  refine a_new C S (by decide) zr_zs108_69 KX0 df_X0 rfl ⟨cl_RX9_23, iz_RX0, ni_RX0⟩ (Nat.le_of_ble_eq_true rfl) (Nat.le_of_ble_eq_true rfl) dX9_init_146 (fun H S hz => ?_)
  have S : StL g 163 s zs108_70 H locs := S
  refine lv_dup hx hb dX9_init_149 rfl ?_
  refine v_callIN C S (ci_X0 zr_zs108_70 (by decide) (by decide) rfl rfl rfl rfl rfl) ⟨cd_X0_init, ni_RX0, mn_RX9_50, in_X0_init⟩ rfl ⟨by decide, by decide⟩ rfl ⟨by decide, by decide⟩ hl.1 rfl (Nat.le_of_ble_eq_true rfl) ⟨Nat.le_of_ble_eq_true rfl, Nat.le_of_ble_eq_true rfl⟩ dX9_init_150 (fun v σ' H locs hp S => ?_)
  obtain ⟨rfl, rfl⟩ := hp
  have S : StL g 167 s zs108_71 H locs := S
  refine a_aast (len := 6) (t := 4) C S (by decide) (by decide) KX0 rfl (⟨by decide, by decide, by decide⟩ : Ok 167 111 50006) (⟨by decide, by decide, by decide⟩ : Ok 167 163 0) (i := (3 : Int32)) (vp_in_iff.mpr ⟨by decide, by decide⟩) dX9_init_153 (fun H locs S => ?_)
  have S : StL g 167 s zs108_72 H locs := S
  refine lv_iinc (v := (4 : Int32)) (lv' := [(1, .int (4 : Int32)), (0, .ref (ga g (108)))]) hx hb dX9_init_154 hl (k := 0) rfl (by decide) (by decide) rfl (fun ls hl => ?_)
  refine lv_goto (tgt := 135) hx hb dX9_init_157 (by decide) ?_
  refine lv_iload_n hx hb dX9_init_135 rfl (lv_at hl 0 rfl) ?_
  refine lv_bipush (v := (6 : Int32)) hx hb dX9_init_136 (by decide) ?_
  refine lv_icmp_ge (tgt := 160) hx hb dX9_init_138 (by decide) (fun c => absurd c (by decide)) (fun _ => ?_)
  refine lv_aload_n hx hb dX9_init_141 rfl (lv_at hl 1 rfl) ?_
  refine a_getR (r := 111) C S KX9 (⟨by decide, by decide, by decide⟩ : Ok 167 108 9) 2 (by decide) rfl rfl fl_RX9_25 (by decide +kernel) (by decide) dX9_init_142 ?_
  refine lv_iload_n hx hb dX9_init_145 rfl (lv_at hl 0 rfl) ?_
  refine a_new C S (by decide) zr_zs108_72 KX0 df_X0 rfl ⟨cl_RX9_23, iz_RX0, ni_RX0⟩ (Nat.le_of_ble_eq_true rfl) (Nat.le_of_ble_eq_true rfl) dX9_init_146 (fun H S hz => ?_)
  have S : StL g 168 s zs108_73 H locs := S
  refine lv_dup hx hb dX9_init_149 rfl ?_
  refine v_callIN C S (ci_X0 zr_zs108_73 (by decide) (by decide) rfl rfl rfl rfl rfl) ⟨cd_X0_init, ni_RX0, mn_RX9_50, in_X0_init⟩ rfl ⟨by decide, by decide⟩ rfl ⟨by decide, by decide⟩ hl.1 rfl (Nat.le_of_ble_eq_true rfl) ⟨Nat.le_of_ble_eq_true rfl, Nat.le_of_ble_eq_true rfl⟩ dX9_init_150 (fun v σ' H locs hp S => ?_)
  obtain ⟨rfl, rfl⟩ := hp
  have S : StL g 172 s zs108_74 H locs := S
  refine a_aast (len := 6) (t := 4) C S (by decide) (by decide) KX0 rfl (⟨by decide, by decide, by decide⟩ : Ok 172 111 50006) (⟨by decide, by decide, by decide⟩ : Ok 172 168 0) (i := (4 : Int32)) (vp_in_iff.mpr ⟨by decide, by decide⟩) dX9_init_153 (fun H locs S => ?_)
  have S : StL g 172 s zs108_75 H locs := S
  refine lv_iinc (v := (5 : Int32)) (lv' := [(1, .int (5 : Int32)), (0, .ref (ga g (108)))]) hx hb dX9_init_154 hl (k := 0) rfl (by decide) (by decide) rfl (fun ls hl => ?_)
  refine lv_goto (tgt := 135) hx hb dX9_init_157 (by decide) ?_
  refine lv_iload_n hx hb dX9_init_135 rfl (lv_at hl 0 rfl) ?_
  refine lv_bipush (v := (6 : Int32)) hx hb dX9_init_136 (by decide) ?_
  refine lv_icmp_ge (tgt := 160) hx hb dX9_init_138 (by decide) (fun c => absurd c (by decide)) (fun _ => ?_)
  refine lv_aload_n hx hb dX9_init_141 rfl (lv_at hl 1 rfl) ?_
  refine a_getR (r := 111) C S KX9 (⟨by decide, by decide, by decide⟩ : Ok 172 108 9) 2 (by decide) rfl rfl fl_RX9_25 (by decide +kernel) (by decide) dX9_init_142 ?_
  refine lv_iload_n hx hb dX9_init_145 rfl (lv_at hl 0 rfl) ?_
  refine a_new C S (by decide) zr_zs108_75 KX0 df_X0 rfl ⟨cl_RX9_23, iz_RX0, ni_RX0⟩ (Nat.le_of_ble_eq_true rfl) (Nat.le_of_ble_eq_true rfl) dX9_init_146 (fun H S hz => ?_)
  have S : StL g 173 s zs108_76 H locs := S
  refine lv_dup hx hb dX9_init_149 rfl ?_
  refine v_callIN C S (ci_X0 zr_zs108_76 (by decide) (by decide) rfl rfl rfl rfl rfl) ⟨cd_X0_init, ni_RX0, mn_RX9_50, in_X0_init⟩ rfl ⟨by decide, by decide⟩ rfl ⟨by decide, by decide⟩ hl.1 rfl (Nat.le_of_ble_eq_true rfl) ⟨Nat.le_of_ble_eq_true rfl, Nat.le_of_ble_eq_true rfl⟩ dX9_init_150 (fun v σ' H locs hp S => ?_)
  obtain ⟨rfl, rfl⟩ := hp
  have S : StL g 177 s zs108_77 H locs := S
  refine a_aast (len := 6) (t := 4) C S (by decide) (by decide) KX0 rfl (⟨by decide, by decide, by decide⟩ : Ok 177 111 50006) (⟨by decide, by decide, by decide⟩ : Ok 177 173 0) (i := (5 : Int32)) (vp_in_iff.mpr ⟨by decide, by decide⟩) dX9_init_153 (fun H locs S => ?_)
  have S : StL g 177 s zs108_78 H locs := S
  refine lv_iinc (v := (6 : Int32)) (lv' := [(1, .int (6 : Int32)), (0, .ref (ga g (108)))]) hx hb dX9_init_154 hl (k := 0) rfl (by decide) (by decide) rfl (fun ls hl => ?_)
  refine lv_goto (tgt := 135) hx hb dX9_init_157 (by decide) ?_
  refine lv_iload_n hx hb dX9_init_135 rfl (lv_at hl 0 rfl) ?_
  refine lv_bipush (v := (6 : Int32)) hx hb dX9_init_136 (by decide) ?_
  refine lv_icmp_ge (tgt := 160) hx hb dX9_init_138 (by decide) (fun _ => ?_) (fun c => absurd (by decide) c)
  refine lv_aload_n hx hb dX9_init_160 rfl (lv_at hl 1 rfl) ?_
  have S : SN 177 g s zs108_78.1 zs108_78.2.1 zs108_78.2.2.1 H locs := SN.of (by decide +kernel) S
  refine v_callV C S (⟨by decide, by decide, by decide⟩ : Ok 177 108 9) KX9.1 KX9.2.2.2.2 (okn_X9_reset (z := 108) (reset_eq zs108_78.2.1 zs108_78.1 108) hsh_zs108_ ⟨(⟨by decide, by decide, by decide⟩ : Ok 177 108 9), rfl⟩) ⟨cd_X9_reset, ni_RX9, ml_RX9_51, in_X9_reset, sl_X9_reset⟩ ⟨by decide, by decide⟩ rfl ⟨by decide, by decide⟩ hl.1 rfl (Nat.le_of_ble_eq_true rfl) ⟨Nat.le_of_ble_eq_true rfl, Nat.le_of_ble_eq_true rfl⟩ dX9_init_161 (fun v σ' H locs hp S => ?_)
  obtain ⟨rfl, rfl⟩ := hp
  have S : StL g 177 s zs108_79 H locs := S
  exact v_vret C S hr ⟨rfl, rfl⟩ dX9_init_164
def zb_27 : Sg := uR (zs108_79) 1 9 (108)
theorem zr_zb_27 : Zr 177 zb_27 := Zr.uR zr_zs108_79 (by decide)
set_option maxHeartbeats 4000000 in
set_option maxRecDepth 100000 in
theorem ci_zb {l : Launch} {g : GL} : Ct l g 3 yX11_init cX11_init 1 none 1 177 176 3651 [.ref (ga g 1)] zb_0 (fun v σ' => v = none ∧ σ' = zb_27) := by
  refine Met.ofW (cc := cX11_init) (maxL := 1) (ret := none) (by decide) rfl ?_
  intro p e s m args below meth c s₁ B hml hv
  obtain ⟨rfl, hE, hLo, hWd⟩ := hv
  have hr : meth.sig.returnType = none := B.returns
  have hnm : meth.name = "<init>" := (name_of_methodNamed B.named B.method).1
  have C : Cx l g p s m meth c cX11_init 1 RX11 := ⟨B.exec, B.bytes, hml, findClass_of_methodNamed B.named, hE, hLo, B.notSynchronized⟩
  have S : StL g 1 s zb_0 s.heap [] := ⟨hWd, va_S.rf⟩
  have hx := C.1
  have hb := C.2.1
  have hl := lv_entry ([.ref (ga g (1))]) (n := 1) (Nat.le_of_ble_eq_true rfl)
  rw [lg_entry_eq]
  generalize (lg_sl ([.ref (ga g (1))]) ++ List.replicate (1 - (lg_sl ([.ref (ga g (1))])).length) Slot.unset).toArray = ls at hl ⊢
  have hl : lv_has ls 1 [(0, .ref (ga g (1)))] := hl
  generalize hH : s.heap = H at S ⊢
  generalize hlc : ([] : List Loc) = locs at S ⊢
  refine lv_aload_n hx hb dX11_init_0 rfl (lv_at hl 0 rfl) ?_
  refine a_obj C ol_RX11 in_obj cd_obj hl.1 dX11_init_1 (Nat.le_of_ble_eq_true rfl) (Nat.le_of_ble_eq_true rfl) ?_
  refine lv_aload_n hx hb dX11_init_4 rfl (lv_at hl 0 rfl) ?_
  refine a_new C S (by decide) zr_zb_0 KX5 df_X5 rfl ⟨cl_RX11_7, iz_RX5, ni_RX5⟩ (Nat.le_of_ble_eq_true rfl) (Nat.le_of_ble_eq_true rfl) dX11_init_5 (fun H S hz => ?_)
  have S : StL g 2 s zb_1 H locs := S
  refine lv_dup hx hb dX11_init_8 rfl ?_
  refine v_callIN C S (ci_X5 zr_zb_1 (by decide) (by decide) rfl rfl rfl) ⟨cd_X5_init, ni_RX5, mn_RX11_9, in_X5_init⟩ rfl ⟨by decide, by decide⟩ rfl ⟨by decide, by decide⟩ hl.1 rfl (Nat.le_of_ble_eq_true rfl) ⟨Nat.le_of_ble_eq_true rfl, Nat.le_of_ble_eq_true rfl⟩ dX11_init_9 (fun v σ' H locs hp S => ?_)
  obtain ⟨rfl, rfl⟩ := hp
  have S : StL g 4 s zb_2 H locs := S
  refine a_putF C S KX11 (⟨by decide, by decide, by decide⟩ : Ok 4 1 11) 0 (by decide) rfl rfl hnm (by omega) (fun _ => rfl) (fun _ => rfl) rfl fl_RX11_10 dX11_init_12 (fun H locs S => ?_)
  have S : StL g 4 s zb_3 H locs := S
  refine lv_aload_n hx hb dX11_init_15 rfl (lv_at hl 0 rfl) ?_
  refine a_new C S (by decide) zr_zb_3 KX2 df_X2 rfl ⟨cl_RX11_16, iz_RX2, ni_RX2⟩ (Nat.le_of_ble_eq_true rfl) (Nat.le_of_ble_eq_true rfl) dX11_init_16 (fun H S hz => ?_)
  have S : StL g 5 s zb_4 H locs := S
  refine lv_dup hx hb dX11_init_19 rfl ?_
  refine v_callIN C S (ci_X2 zr_zb_4 (by decide) (by decide) rfl rfl (by decide)) ⟨cd_X2_init, ni_RX2, mn_RX11_18, in_X2_init⟩ rfl ⟨by decide, by decide⟩ rfl ⟨by decide, by decide⟩ hl.1 rfl (Nat.le_of_ble_eq_true rfl) ⟨Nat.le_of_ble_eq_true rfl, Nat.le_of_ble_eq_true rfl⟩ dX11_init_20 (fun v σ' H locs hp S => ?_)
  obtain ⟨rfl, rfl⟩ := hp
  have S : StL g 22 s zb_5 H locs := S
  refine a_putF C S KX11 (⟨by decide, by decide, by decide⟩ : Ok 22 1 11) 1 (by decide) rfl rfl hnm (by omega) (fun _ => rfl) (fun _ => rfl) rfl fl_RX11_19 dX11_init_23 (fun H locs S => ?_)
  have S : StL g 22 s zb_6 H locs := S
  refine lv_aload_n hx hb dX11_init_26 rfl (lv_at hl 0 rfl) ?_
  refine a_new C S (by decide) zr_zb_6 KX6 df_X6 rfl ⟨cl_RX11_23, iz_RX6, ni_RX6⟩ (Nat.le_of_ble_eq_true rfl) (Nat.le_of_ble_eq_true rfl) dX11_init_27 (fun H S hz => ?_)
  have S : StL g 23 s zb_7 H locs := S
  refine lv_dup hx hb dX11_init_30 rfl ?_
  refine v_callIN C S (ci_X6 zr_zb_7 (by decide) (by decide) rfl rfl rfl rfl) ⟨cd_X6_init, ni_RX6, mn_RX11_25, in_X6_init⟩ rfl ⟨by decide, by decide⟩ rfl ⟨by decide, by decide⟩ hl.1 rfl (Nat.le_of_ble_eq_true rfl) ⟨Nat.le_of_ble_eq_true rfl, Nat.le_of_ble_eq_true rfl⟩ dX11_init_31 (fun v σ' H locs hp S => ?_)
  obtain ⟨rfl, rfl⟩ := hp
  have S : StL g 26 s zb_8 H locs := S
  refine a_putF C S KX11 (⟨by decide, by decide, by decide⟩ : Ok 26 1 11) 2 (by decide) rfl rfl hnm (by omega) (fun _ => rfl) (fun _ => rfl) rfl fl_RX11_26 dX11_init_34 (fun H locs S => ?_)
  have S : StL g 26 s zb_9 H locs := S
  refine lv_aload_n hx hb dX11_init_37 rfl (lv_at hl 0 rfl) ?_
  refine a_new C S (by decide) zr_zb_9 KX8 df_X8 rfl ⟨cl_RX11_30, iz_RX8, ni_RX8⟩ (Nat.le_of_ble_eq_true rfl) (Nat.le_of_ble_eq_true rfl) dX11_init_38 (fun H S hz => ?_)
  have S : StL g 27 s zb_10 H locs := S
  refine lv_dup hx hb dX11_init_41 rfl ?_
  refine v_callIN C S (ci_X8 zr_zb_10 (by decide) (by decide) rfl rfl) ⟨cd_X8_init, ni_RX8, mn_RX11_32, in_X8_init⟩ rfl ⟨by decide, by decide⟩ rfl ⟨by decide, by decide⟩ hl.1 rfl (Nat.le_of_ble_eq_true rfl) ⟨Nat.le_of_ble_eq_true rfl, Nat.le_of_ble_eq_true rfl⟩ dX11_init_42 (fun v σ' H locs hp S => ?_)
  obtain ⟨rfl, rfl⟩ := hp
  have S : StL g 28 s zb_11 H locs := S
  refine a_putF C S KX11 (⟨by decide, by decide, by decide⟩ : Ok 28 1 11) 3 (by decide) rfl rfl hnm (by omega) (fun _ => rfl) (fun _ => rfl) rfl fl_RX11_33 dX11_init_45 (fun H locs S => ?_)
  have S : StL g 28 s zb_12 H locs := S
  refine lv_aload_n hx hb dX11_init_48 rfl (lv_at hl 0 rfl) ?_
  refine a_new C S (by decide) zr_zb_12 KX1 df_X1 rfl ⟨cl_RX11_37, iz_RX1, ni_RX1⟩ (Nat.le_of_ble_eq_true rfl) (Nat.le_of_ble_eq_true rfl) dX11_init_49 (fun H S hz => ?_)
  have S : StL g 29 s zb_13 H locs := S
  refine lv_dup hx hb dX11_init_52 rfl ?_
  refine v_callIN C S (ci_X1 zr_zb_13 (by decide) (by decide) rfl rfl) ⟨cd_X1_init, ni_RX1, mn_RX11_39, in_X1_init⟩ rfl ⟨by decide, by decide⟩ rfl ⟨by decide, by decide⟩ hl.1 rfl (Nat.le_of_ble_eq_true rfl) ⟨Nat.le_of_ble_eq_true rfl, Nat.le_of_ble_eq_true rfl⟩ dX11_init_53 (fun v σ' H locs hp S => ?_)
  obtain ⟨rfl, rfl⟩ := hp
  have S : StL g 30 s zb_14 H locs := S
  refine a_putF C S KX11 (⟨by decide, by decide, by decide⟩ : Ok 30 1 11) 4 (by decide) rfl rfl hnm (by omega) (fun _ => rfl) (fun _ => rfl) rfl fl_RX11_40 dX11_init_56 (fun H locs S => ?_)
  have S : StL g 30 s zb_15 H locs := S
  refine lv_aload_n hx hb dX11_init_59 rfl (lv_at hl 0 rfl) ?_
  refine a_new C S (by decide) zr_zb_15 KX3 df_X3 rfl ⟨cl_RX11_44, iz_RX3, ni_RX3⟩ (Nat.le_of_ble_eq_true rfl) (Nat.le_of_ble_eq_true rfl) dX11_init_60 (fun H S hz => ?_)
  have S : StL g 31 s zb_16 H locs := S
  refine lv_dup hx hb dX11_init_63 rfl ?_
  refine v_callIN C S (ci_X3 zr_zb_16 (by decide) (by decide) rfl rfl rfl) ⟨cd_X3_init, ni_RX3, mn_RX11_46, in_X3_init⟩ rfl ⟨by decide, by decide⟩ rfl ⟨by decide, by decide⟩ hl.1 rfl (Nat.le_of_ble_eq_true rfl) ⟨Nat.le_of_ble_eq_true rfl, Nat.le_of_ble_eq_true rfl⟩ dX11_init_64 (fun v σ' H locs hp S => ?_)
  obtain ⟨rfl, rfl⟩ := hp
  have S : StL g 33 s zb_17 H locs := S
  refine a_putF C S KX11 (⟨by decide, by decide, by decide⟩ : Ok 33 1 11) 5 (by decide) rfl rfl hnm (by omega) (fun _ => rfl) (fun _ => rfl) rfl fl_RX11_47 dX11_init_67 (fun H locs S => ?_)
  have S : StL g 33 s zb_18 H locs := S
  refine lv_aload_n hx hb dX11_init_70 rfl (lv_at hl 0 rfl) ?_
  refine a_new C S (by decide) zr_zb_18 KX3 df_X3 rfl ⟨cl_RX11_44, iz_RX3, ni_RX3⟩ (Nat.le_of_ble_eq_true rfl) (Nat.le_of_ble_eq_true rfl) dX11_init_71 (fun H S hz => ?_)
  have S : StL g 34 s zb_19 H locs := S
  refine lv_dup hx hb dX11_init_74 rfl ?_
  refine v_callIN C S (ci_X3 zr_zb_19 (by decide) (by decide) rfl rfl rfl) ⟨cd_X3_init, ni_RX3, mn_RX11_46, in_X3_init⟩ rfl ⟨by decide, by decide⟩ rfl ⟨by decide, by decide⟩ hl.1 rfl (Nat.le_of_ble_eq_true rfl) ⟨Nat.le_of_ble_eq_true rfl, Nat.le_of_ble_eq_true rfl⟩ dX11_init_75 (fun v σ' H locs hp S => ?_)
  obtain ⟨rfl, rfl⟩ := hp
  have S : StL g 36 s zb_20 H locs := S
  refine a_putF C S KX11 (⟨by decide, by decide, by decide⟩ : Ok 36 1 11) 6 (by decide) rfl rfl hnm (by omega) (fun _ => rfl) (fun _ => rfl) rfl fl_RX11_51 dX11_init_78 (fun H locs S => ?_)
  have S : StL g 36 s zb_21 H locs := S
  refine lv_aload_n hx hb dX11_init_81 rfl (lv_at hl 0 rfl) ?_
  refine lv_bipush (v := (24 : Int32)) hx hb dX11_init_82 (by decide) ?_
  refine a_newI C S (by decide) zr_zb_21 ac_int (len := 24) (by decide) rfl (by decide) (by decide) (Nat.le_of_ble_eq_true rfl) (Nat.le_of_ble_eq_true rfl) dX11_init_84 (fun H S hz => ?_)
  have S : StL g 37 s zb_22 H locs := S
  refine a_putF C S KX11 (⟨by decide, by decide, by decide⟩ : Ok 37 1 11) 7 (by decide) rfl rfl hnm (by omega) (fun _ => rfl) (fun _ => rfl) rfl fl_RX11_54 dX11_init_86 (fun H locs S => ?_)
  have S : StL g 37 s zb_23 H locs := S
  refine lv_aload_n hx hb dX11_init_89 rfl (lv_at hl 0 rfl) ?_
  refine a_new C S (by decide) zr_zb_23 KX9 df_X9 rfl ⟨cl_RX11_58, iz_RX9, ni_RX9⟩ (Nat.le_of_ble_eq_true rfl) (Nat.le_of_ble_eq_true rfl) dX11_init_90 (fun H S hz => ?_)
  have S : StL g 38 s zb_24 H locs := S
  refine lv_dup hx hb dX11_init_93 rfl ?_
  refine v_callI C S (ci_zs38_) ⟨cd_X9_init, ni_RX9, ml_RX11_60, in_X9_init⟩ rfl ⟨by decide, by decide⟩ rfl ⟨by decide, by decide⟩ hl.1 rfl (Nat.le_of_ble_eq_true rfl) ⟨Nat.le_of_ble_eq_true rfl, Nat.le_of_ble_eq_true rfl⟩ dX11_init_94 (fun v σ' H locs hp S => ?_)
  obtain ⟨rfl, rfl⟩ := hp
  have S : StL g 107 s zs38_79 H locs := S
  refine a_putR C S KX11 (⟨by decide, by decide, by decide⟩ : Ok 107 1 11) 8 (by decide) rfl rfl (by omega) (fun _ => rfl) (fun _ => rfl) rfl fl_RX11_61 dX11_init_97 (fun H locs S => ?_)
  have S : StL g 107 s zb_25 H locs := S
  refine lv_aload_n hx hb dX11_init_100 rfl (lv_at hl 0 rfl) ?_
  refine a_new C S (by decide) zr_zb_25 KX9 df_X9 rfl ⟨cl_RX11_58, iz_RX9, ni_RX9⟩ (Nat.le_of_ble_eq_true rfl) (Nat.le_of_ble_eq_true rfl) dX11_init_101 (fun H S hz => ?_)
  have S : StL g 108 s zb_26 H locs := S
  refine lv_dup hx hb dX11_init_104 rfl ?_
  refine v_callI C S (ci_zs108_) ⟨cd_X9_init, ni_RX9, ml_RX11_60, in_X9_init⟩ rfl ⟨by decide, by decide⟩ rfl ⟨by decide, by decide⟩ hl.1 rfl (Nat.le_of_ble_eq_true rfl) ⟨Nat.le_of_ble_eq_true rfl, Nat.le_of_ble_eq_true rfl⟩ dX11_init_105 (fun v σ' H locs hp S => ?_)
  obtain ⟨rfl, rfl⟩ := hp
  have S : StL g 177 s zs108_79 H locs := S
  refine a_putR C S KX11 (⟨by decide, by decide, by decide⟩ : Ok 177 1 11) 9 (by decide) rfl rfl (by omega) (fun _ => rfl) (fun _ => rfl) rfl fl_RX11_65 dX11_init_108 (fun H locs S => ?_)
  have S : StL g 177 s zb_27 H locs := S
  exact v_vret C S hr ⟨rfl, rfl⟩ dX11_init_111
def zP : Sg := zb_27
theorem zr_zP : Zr 177 zP := zr_zb_27
