/-! ===== the constructors: small ones, for any place ===== -/
set_option maxRecDepth 100000 in
theorem ac_int : Cond.arrayClass .int ∈ BW := bw_in (List.mem_of_getElem? (i := 132) (by rfl)) (by rfl)
set_option maxRecDepth 100000 in
theorem ac_byte : Cond.arrayClass .byte ∈ BW := bw_in (List.mem_of_getElem? (i := 108) (by rfl)) (by rfl)
set_option maxRecDepth 100000 in
theorem ao_int : Cond.arrayOver (.array .int) ∈ BW := bw_in (List.mem_of_getElem? (i := 121) (by rfl)) (by rfl)
set_option maxRecDepth 100000 in
theorem in_obj : Cond.instanceMethod Lib.objectInit ∈ BW := bw_in (List.mem_of_getElem? (i := 75) (by rfl)) (by rfl)
set_option maxRecDepth 100000 in
theorem cd_obj : Cond.code Lib.objectInit ⟨#[0xb1]⟩ 1 none ∈ BW := bw_in (List.mem_of_getElem? (i := 76) (by rfl)) (by rfl)
set_option maxRecDepth 100000 in
theorem ol_RX7 : Cond.methodLink RX7 1 Lib.objectInit ∈ BW := bw_in (List.mem_of_getElem? (i := 252) (by rfl)) (by rfl)
set_option maxRecDepth 100000 in
theorem ol_RX4 : Cond.methodLink RX4 3 Lib.objectInit ∈ BW := bw_in (List.mem_of_getElem? (i := 223) (by rfl)) (by rfl)
set_option maxRecDepth 100000 in
theorem ol_RX0 : Cond.methodLink RX0 3 Lib.objectInit ∈ BW := bw_in (List.mem_of_getElem? (i := 274) (by rfl)) (by rfl)
set_option maxRecDepth 100000 in
theorem fl_RX0_21 : Cond.fieldLink RX0 21 "BlastPlanner$Blast" "dusty" "[I" ∈ BW := bw_in (List.mem_of_getElem? (i := 280) (by rfl)) (by rfl)
set_option maxRecDepth 100000 in
theorem ol_RX3 : Cond.methodLink RX3 3 Lib.objectInit ∈ BW := bw_in (List.mem_of_getElem? (i := 193) (by rfl)) (by rfl)
set_option maxRecDepth 100000 in
theorem fl_RX3_11 : Cond.fieldLink RX3 11 "BlastPlanner$MinuteSet" "firsts" "[I" ∈ BW := bw_in (List.mem_of_getElem? (i := 194) (by rfl)) (by rfl)
set_option maxRecDepth 100000 in
theorem fl_RX3_15 : Cond.fieldLink RX3 15 "BlastPlanner$MinuteSet" "ends" "[I" ∈ BW := bw_in (List.mem_of_getElem? (i := 196) (by rfl)) (by rfl)
set_option maxRecDepth 100000 in
theorem ol_RX8 : Cond.methodLink RX8 3 Lib.objectInit ∈ BW := bw_in (List.mem_of_getElem? (i := 166) (by rfl)) (by rfl)
set_option maxRecDepth 100000 in
theorem fl_RX8_9 : Cond.fieldLink RX8 9 "BlastPlanner$SirenList" "keys" "[I" ∈ BW := bw_in (List.mem_of_getElem? (i := 167) (by rfl)) (by rfl)
set_option maxRecDepth 100000 in
theorem ol_RX6 : Cond.methodLink RX6 3 Lib.objectInit ∈ BW := bw_in (List.mem_of_getElem? (i := 138) (by rfl)) (by rfl)
set_option maxRecDepth 100000 in
theorem fl_RX6_9 : Cond.fieldLink RX6 9 "BlastPlanner$PlanSearch" "open" "[I" ∈ BW := bw_in (List.mem_of_getElem? (i := 139) (by rfl)) (by rfl)
set_option maxRecDepth 100000 in
theorem fl_RX6_15 : Cond.fieldLink RX6 15 "BlastPlanner$PlanSearch" "trial" "[I" ∈ BW := bw_in (List.mem_of_getElem? (i := 140) (by rfl)) (by rfl)
set_option maxRecDepth 100000 in
theorem fl_RX6_18 : Cond.fieldLink RX6 18 "BlastPlanner$PlanSearch" "bestTimes" "[I" ∈ BW := bw_in (List.mem_of_getElem? (i := 141) (by rfl)) (by rfl)
set_option maxRecDepth 100000 in
theorem ol_RX1 : Cond.methodLink RX1 3 Lib.objectInit ∈ BW := bw_in (List.mem_of_getElem? (i := 181) (by rfl)) (by rfl)
set_option maxRecDepth 100000 in
theorem fl_RX1_9 : Cond.fieldLink RX1 9 "BlastPlanner$FormattedText" "bytes" "[B" ∈ BW := bw_in (List.mem_of_getElem? (i := 182) (by rfl)) (by rfl)
set_option maxRecDepth 100000 in
theorem ol_RX10 : Cond.methodLink RX10 3 Lib.objectInit ∈ BW := bw_in (List.mem_of_getElem? (i := 88) (by rfl)) (by rfl)
set_option maxRecDepth 100000 in
theorem ol_RX5 : Cond.methodLink RX5 3 Lib.objectInit ∈ BW := bw_in (List.mem_of_getElem? (i := 82) (by rfl)) (by rfl)
set_option maxRecDepth 100000 in
theorem cl_RX5_9 : Cond.classLink RX5 9 RX10 ∈ BW := bw_in (List.mem_of_getElem? (i := 83) (by rfl)) (by rfl)
set_option maxRecDepth 100000 in
theorem iz_RX10 : Cond.instantiable RX10 5 ∈ BW := bw_in (List.mem_of_getElem? (i := 84) (by rfl)) (by rfl)
set_option maxRecDepth 100000 in
theorem mn_RX5_11 : Cond.methodLinkNest RX5 11 yX10_init "BlastPlanner" ∈ BW := bw_in (List.mem_of_getElem? (i := 85) (by rfl)) (by rfl)
set_option maxRecDepth 100000 in
theorem cd_X10_init : Cond.code yX10_init cX10_init 1 none ∈ BW := bw_in (List.mem_of_getElem? (i := 87) (by rfl)) (by rfl)
set_option maxRecDepth 100000 in
theorem in_X10_init : Cond.instanceMethod yX10_init ∈ BW := bw_in (List.mem_of_getElem? (i := 86) (by rfl)) (by rfl)
set_option maxRecDepth 100000 in
theorem ol_RX2 : Cond.methodLink RX2 3 Lib.objectInit ∈ BW := bw_in (List.mem_of_getElem? (i := 119) (by rfl)) (by rfl)
set_option maxRecDepth 100000 in
theorem cl_RX2_11 : Cond.classLink RX2 11 "[[I" ∈ BW := bw_in (List.mem_of_getElem? (i := 120) (by rfl)) (by rfl)
set_option maxRecDepth 100000 in
theorem fl_RX2_13 : Cond.fieldLink RX2 13 "BlastPlanner$History" "rows" "[[I" ∈ BW := bw_in (List.mem_of_getElem? (i := 122) (by rfl)) (by rfl)
set_option maxRecDepth 100000 in
theorem ol_RX11 : Cond.methodLink RX11 1 Lib.objectInit ∈ BW := bw_in (List.mem_of_getElem? (i := 74) (by rfl)) (by rfl)
set_option maxRecDepth 100000 in
theorem cl_RX11_7 : Cond.classLink RX11 7 RX5 ∈ BW := bw_in (List.mem_of_getElem? (i := 77) (by rfl)) (by rfl)
set_option maxRecDepth 100000 in
theorem iz_RX5 : Cond.instantiable RX5 1 ∈ BW := bw_in (List.mem_of_getElem? (i := 78) (by rfl)) (by rfl)
set_option maxRecDepth 100000 in
theorem mn_RX11_9 : Cond.methodLinkNest RX11 9 yX5_init "BlastPlanner" ∈ BW := bw_in (List.mem_of_getElem? (i := 79) (by rfl)) (by rfl)
set_option maxRecDepth 100000 in
theorem cd_X5_init : Cond.code yX5_init cX5_init 1 none ∈ BW := bw_in (List.mem_of_getElem? (i := 81) (by rfl)) (by rfl)
set_option maxRecDepth 100000 in
theorem in_X5_init : Cond.instanceMethod yX5_init ∈ BW := bw_in (List.mem_of_getElem? (i := 80) (by rfl)) (by rfl)
set_option maxRecDepth 100000 in
theorem cl_RX11_16 : Cond.classLink RX11 16 RX2 ∈ BW := bw_in (List.mem_of_getElem? (i := 114) (by rfl)) (by rfl)
set_option maxRecDepth 100000 in
theorem iz_RX2 : Cond.instantiable RX2 3 ∈ BW := bw_in (List.mem_of_getElem? (i := 115) (by rfl)) (by rfl)
set_option maxRecDepth 100000 in
theorem ni_RX2 : Cond.initialized RX2 ∈ BW := bw_in (List.mem_of_getElem? (i := 41) (by rfl)) (by rfl)
set_option maxRecDepth 100000 in
theorem mn_RX11_18 : Cond.methodLinkNest RX11 18 yX2_init "BlastPlanner" ∈ BW := bw_in (List.mem_of_getElem? (i := 116) (by rfl)) (by rfl)
set_option maxRecDepth 100000 in
theorem cd_X2_init : Cond.code yX2_init cX2_init 1 none ∈ BW := bw_in (List.mem_of_getElem? (i := 118) (by rfl)) (by rfl)
set_option maxRecDepth 100000 in
theorem in_X2_init : Cond.instanceMethod yX2_init ∈ BW := bw_in (List.mem_of_getElem? (i := 117) (by rfl)) (by rfl)
set_option maxRecDepth 100000 in
theorem fl_RX11_19 : Cond.fieldLink RX11 19 "BlastPlanner" "history" "LBlastPlanner$History;" ∈ BW := bw_in (List.mem_of_getElem? (i := 429) (by rfl)) (by rfl)
set_option maxRecDepth 100000 in
theorem cl_RX11_23 : Cond.classLink RX11 23 RX6 ∈ BW := bw_in (List.mem_of_getElem? (i := 133) (by rfl)) (by rfl)
set_option maxRecDepth 100000 in
theorem iz_RX6 : Cond.instantiable RX6 6 ∈ BW := bw_in (List.mem_of_getElem? (i := 134) (by rfl)) (by rfl)
set_option maxRecDepth 100000 in
theorem ni_RX6 : Cond.initialized RX6 ∈ BW := bw_in (List.mem_of_getElem? (i := 42) (by rfl)) (by rfl)
set_option maxRecDepth 100000 in
theorem mn_RX11_25 : Cond.methodLinkNest RX11 25 yX6_init "BlastPlanner" ∈ BW := bw_in (List.mem_of_getElem? (i := 135) (by rfl)) (by rfl)
set_option maxRecDepth 100000 in
theorem cd_X6_init : Cond.code yX6_init cX6_init 1 none ∈ BW := bw_in (List.mem_of_getElem? (i := 137) (by rfl)) (by rfl)
set_option maxRecDepth 100000 in
theorem in_X6_init : Cond.instanceMethod yX6_init ∈ BW := bw_in (List.mem_of_getElem? (i := 136) (by rfl)) (by rfl)
set_option maxRecDepth 100000 in
theorem fl_RX11_26 : Cond.fieldLink RX11 26 "BlastPlanner" "plan" "LBlastPlanner$PlanSearch;" ∈ BW := bw_in (List.mem_of_getElem? (i := 430) (by rfl)) (by rfl)
set_option maxRecDepth 100000 in
theorem cl_RX11_30 : Cond.classLink RX11 30 RX8 ∈ BW := bw_in (List.mem_of_getElem? (i := 161) (by rfl)) (by rfl)
set_option maxRecDepth 100000 in
theorem iz_RX8 : Cond.instantiable RX8 2 ∈ BW := bw_in (List.mem_of_getElem? (i := 162) (by rfl)) (by rfl)
set_option maxRecDepth 100000 in
theorem ni_RX8 : Cond.initialized RX8 ∈ BW := bw_in (List.mem_of_getElem? (i := 43) (by rfl)) (by rfl)
set_option maxRecDepth 100000 in
theorem mn_RX11_32 : Cond.methodLinkNest RX11 32 yX8_init "BlastPlanner" ∈ BW := bw_in (List.mem_of_getElem? (i := 163) (by rfl)) (by rfl)
set_option maxRecDepth 100000 in
theorem cd_X8_init : Cond.code yX8_init cX8_init 1 none ∈ BW := bw_in (List.mem_of_getElem? (i := 165) (by rfl)) (by rfl)
set_option maxRecDepth 100000 in
theorem in_X8_init : Cond.instanceMethod yX8_init ∈ BW := bw_in (List.mem_of_getElem? (i := 164) (by rfl)) (by rfl)
set_option maxRecDepth 100000 in
theorem fl_RX11_33 : Cond.fieldLink RX11 33 "BlastPlanner" "sirens" "LBlastPlanner$SirenList;" ∈ BW := bw_in (List.mem_of_getElem? (i := 431) (by rfl)) (by rfl)
set_option maxRecDepth 100000 in
theorem cl_RX11_37 : Cond.classLink RX11 37 RX1 ∈ BW := bw_in (List.mem_of_getElem? (i := 176) (by rfl)) (by rfl)
set_option maxRecDepth 100000 in
theorem iz_RX1 : Cond.instantiable RX1 2 ∈ BW := bw_in (List.mem_of_getElem? (i := 177) (by rfl)) (by rfl)
set_option maxRecDepth 100000 in
theorem ni_RX1 : Cond.initialized RX1 ∈ BW := bw_in (List.mem_of_getElem? (i := 44) (by rfl)) (by rfl)
set_option maxRecDepth 100000 in
theorem mn_RX11_39 : Cond.methodLinkNest RX11 39 yX1_init "BlastPlanner" ∈ BW := bw_in (List.mem_of_getElem? (i := 178) (by rfl)) (by rfl)
set_option maxRecDepth 100000 in
theorem cd_X1_init : Cond.code yX1_init cX1_init 1 none ∈ BW := bw_in (List.mem_of_getElem? (i := 180) (by rfl)) (by rfl)
set_option maxRecDepth 100000 in
theorem in_X1_init : Cond.instanceMethod yX1_init ∈ BW := bw_in (List.mem_of_getElem? (i := 179) (by rfl)) (by rfl)
set_option maxRecDepth 100000 in
theorem fl_RX11_40 : Cond.fieldLink RX11 40 "BlastPlanner" "formatted" "LBlastPlanner$FormattedText;" ∈ BW := bw_in (List.mem_of_getElem? (i := 432) (by rfl)) (by rfl)
set_option maxRecDepth 100000 in
theorem cl_RX11_44 : Cond.classLink RX11 44 RX3 ∈ BW := bw_in (List.mem_of_getElem? (i := 188) (by rfl)) (by rfl)
set_option maxRecDepth 100000 in
theorem iz_RX3 : Cond.instantiable RX3 3 ∈ BW := bw_in (List.mem_of_getElem? (i := 189) (by rfl)) (by rfl)
set_option maxRecDepth 100000 in
theorem ni_RX3 : Cond.initialized RX3 ∈ BW := bw_in (List.mem_of_getElem? (i := 45) (by rfl)) (by rfl)
set_option maxRecDepth 100000 in
theorem mn_RX11_46 : Cond.methodLinkNest RX11 46 yX3_init "BlastPlanner" ∈ BW := bw_in (List.mem_of_getElem? (i := 190) (by rfl)) (by rfl)
set_option maxRecDepth 100000 in
theorem cd_X3_init : Cond.code yX3_init cX3_init 1 none ∈ BW := bw_in (List.mem_of_getElem? (i := 192) (by rfl)) (by rfl)
set_option maxRecDepth 100000 in
theorem in_X3_init : Cond.instanceMethod yX3_init ∈ BW := bw_in (List.mem_of_getElem? (i := 191) (by rfl)) (by rfl)
set_option maxRecDepth 100000 in
theorem fl_RX11_47 : Cond.fieldLink RX11 47 "BlastPlanner" "minutes" "LBlastPlanner$MinuteSet;" ∈ BW := bw_in (List.mem_of_getElem? (i := 433) (by rfl)) (by rfl)
set_option maxRecDepth 100000 in
theorem fl_RX11_51 : Cond.fieldLink RX11 51 "BlastPlanner" "otherMinutes" "LBlastPlanner$MinuteSet;" ∈ BW := bw_in (List.mem_of_getElem? (i := 434) (by rfl)) (by rfl)
set_option maxRecDepth 100000 in
theorem fl_RX11_54 : Cond.fieldLink RX11 54 "BlastPlanner" "hourSums" "[I" ∈ BW := bw_in (List.mem_of_getElem? (i := 435) (by rfl)) (by rfl)
set_option maxRecDepth 100000 in
theorem cl_RX11_58 : Cond.classLink RX11 58 RX9 ∈ BW := bw_in (List.mem_of_getElem? (i := 207) (by rfl)) (by rfl)
set_option maxRecDepth 100000 in
theorem iz_RX9 : Cond.instantiable RX9 18 ∈ BW := bw_in (List.mem_of_getElem? (i := 208) (by rfl)) (by rfl)
set_option maxRecDepth 100000 in
theorem ml_RX11_60 : Cond.methodLink RX11 60 yX9_init ∈ BW := bw_in (List.mem_of_getElem? (i := 209) (by rfl)) (by rfl)
set_option maxRecDepth 100000 in
theorem ol_RX9 : Cond.methodLink RX9 3 Lib.objectInit ∈ BW := bw_in (List.mem_of_getElem? (i := 212) (by rfl)) (by rfl)
set_option maxRecDepth 100000 in
theorem cl_RX9_9 : Cond.classLink RX9 9 RX4 ∈ BW := bw_in (List.mem_of_getElem? (i := 213) (by rfl)) (by rfl)
set_option maxRecDepth 100000 in
theorem ao_RX4 : Cond.arrayOver (.object RX4) ∈ BW := bw_in (List.mem_of_getElem? (i := 214) (by rfl)) (by rfl)
set_option maxRecDepth 100000 in
theorem cl_RX9_17 : Cond.classLink RX9 17 RX7 ∈ BW := bw_in (List.mem_of_getElem? (i := 215) (by rfl)) (by rfl)
set_option maxRecDepth 100000 in
theorem ao_RX7 : Cond.arrayOver (.object RX7) ∈ BW := bw_in (List.mem_of_getElem? (i := 216) (by rfl)) (by rfl)
set_option maxRecDepth 100000 in
theorem cl_RX9_23 : Cond.classLink RX9 23 RX0 ∈ BW := bw_in (List.mem_of_getElem? (i := 217) (by rfl)) (by rfl)
set_option maxRecDepth 100000 in
theorem ao_RX0 : Cond.arrayOver (.object RX0) ∈ BW := bw_in (List.mem_of_getElem? (i := 218) (by rfl)) (by rfl)
set_option maxRecDepth 100000 in
theorem fl_RX9_29 : Cond.fieldLink RX9 29 "BlastPlanner$Site" "neighbourNames" "[I" ∈ BW := bw_in (List.mem_of_getElem? (i := 350) (by rfl)) (by rfl)
set_option maxRecDepth 100000 in
theorem fl_RX9_33 : Cond.fieldLink RX9 33 "BlastPlanner$Site" "roadNames" "[I" ∈ BW := bw_in (List.mem_of_getElem? (i := 352) (by rfl)) (by rfl)
set_option maxRecDepth 100000 in
theorem fl_RX9_36 : Cond.fieldLink RX9 36 "BlastPlanner$Site" "blastNames" "[I" ∈ BW := bw_in (List.mem_of_getElem? (i := 354) (by rfl)) (by rfl)
set_option maxRecDepth 100000 in
theorem iz_RX4 : Cond.instantiable RX4 6 ∈ BW := bw_in (List.mem_of_getElem? (i := 219) (by rfl)) (by rfl)
set_option maxRecDepth 100000 in
theorem mn_RX9_48 : Cond.methodLinkNest RX9 48 yX4_init "BlastPlanner" ∈ BW := bw_in (List.mem_of_getElem? (i := 220) (by rfl)) (by rfl)
set_option maxRecDepth 100000 in
theorem cd_X4_init : Cond.code yX4_init cX4_init 1 none ∈ BW := bw_in (List.mem_of_getElem? (i := 222) (by rfl)) (by rfl)
set_option maxRecDepth 100000 in
theorem in_X4_init : Cond.instanceMethod yX4_init ∈ BW := bw_in (List.mem_of_getElem? (i := 221) (by rfl)) (by rfl)
set_option maxRecDepth 100000 in
theorem iz_RX7 : Cond.instantiable RX7 4 ∈ BW := bw_in (List.mem_of_getElem? (i := 248) (by rfl)) (by rfl)
set_option maxRecDepth 100000 in
theorem mn_RX9_49 : Cond.methodLinkNest RX9 49 yX7_init "BlastPlanner" ∈ BW := bw_in (List.mem_of_getElem? (i := 249) (by rfl)) (by rfl)
set_option maxRecDepth 100000 in
theorem cd_X7_init : Cond.code yX7_init cX7_init 1 none ∈ BW := bw_in (List.mem_of_getElem? (i := 251) (by rfl)) (by rfl)
set_option maxRecDepth 100000 in
theorem in_X7_init : Cond.instanceMethod yX7_init ∈ BW := bw_in (List.mem_of_getElem? (i := 250) (by rfl)) (by rfl)
set_option maxRecDepth 100000 in
theorem iz_RX0 : Cond.instantiable RX0 14 ∈ BW := bw_in (List.mem_of_getElem? (i := 270) (by rfl)) (by rfl)
set_option maxRecDepth 100000 in
theorem mn_RX9_50 : Cond.methodLinkNest RX9 50 yX0_init "BlastPlanner" ∈ BW := bw_in (List.mem_of_getElem? (i := 271) (by rfl)) (by rfl)
set_option maxRecDepth 100000 in
theorem cd_X0_init : Cond.code yX0_init cX0_init 1 none ∈ BW := bw_in (List.mem_of_getElem? (i := 273) (by rfl)) (by rfl)
set_option maxRecDepth 100000 in
theorem in_X0_init : Cond.instanceMethod yX0_init ∈ BW := bw_in (List.mem_of_getElem? (i := 272) (by rfl)) (by rfl)
set_option maxRecDepth 100000 in
theorem ml_RX9_51 : Cond.methodLink RX9 51 yX9_reset ∈ BW := bw_in (List.mem_of_getElem? (i := 335) (by rfl)) (by rfl)
set_option maxRecDepth 100000 in
theorem cd_X9_init : Cond.code yX9_init cX9_init 2 none ∈ BW := bw_in (List.mem_of_getElem? (i := 211) (by rfl)) (by rfl)
set_option maxRecDepth 100000 in
theorem in_X9_init : Cond.instanceMethod yX9_init ∈ BW := bw_in (List.mem_of_getElem? (i := 210) (by rfl)) (by rfl)
set_option maxRecDepth 100000 in
theorem fl_RX11_65 : Cond.fieldLink RX11 65 "BlastPlanner" "draft" "LBlastPlanner$Site;" ∈ BW := bw_in (List.mem_of_getElem? (i := 437) (by rfl)) (by rfl)
set_option maxRecDepth 100000 in
theorem iz_RX11 : Cond.instantiable RX11 10 ∈ BW := bw_in (List.mem_of_getElem? (i := 70) (by rfl)) (by rfl)
set_option maxRecDepth 100000 in
theorem cd_X11_init : Cond.code yX11_init cX11_init 1 none ∈ BW := bw_in (List.mem_of_getElem? (i := 73) (by rfl)) (by rfl)
set_option maxRecDepth 100000 in
theorem in_X11_init : Cond.instanceMethod yX11_init ∈ BW := bw_in (List.mem_of_getElem? (i := 72) (by rfl)) (by rfl)
theorem dX7_init_0 : decode cX7_init 0 = .ok (.aload_n 0, 1) := by decide +kernel
theorem dX7_init_1 : decode cX7_init 1 = .ok (.invokespecial 1, 3) := by decide +kernel
theorem dX7_init_4 : decode cX7_init 4 = .ok (.return_, 1) := by decide +kernel
theorem dX4_init_0 : decode cX4_init 0 = .ok (.aload_n 0, 1) := by decide +kernel
theorem dX4_init_1 : decode cX4_init 1 = .ok (.invokespecial 3, 3) := by decide +kernel
theorem dX4_init_4 : decode cX4_init 4 = .ok (.aload_n 0, 1) := by decide +kernel
theorem dX4_init_5 : decode cX4_init 5 = .ok (.iconst 4, 1) := by decide +kernel
theorem dX4_init_6 : decode cX4_init 6 = .ok (.newarray .int, 2) := by decide +kernel
theorem dX4_init_8 : decode cX4_init 8 = .ok (.putfield 9, 3) := by decide +kernel
theorem dX4_init_11 : decode cX4_init 11 = .ok (.aload_n 0, 1) := by decide +kernel
theorem dX4_init_12 : decode cX4_init 12 = .ok (.iconst 4, 1) := by decide +kernel
theorem dX4_init_13 : decode cX4_init 13 = .ok (.newarray .int, 2) := by decide +kernel
theorem dX4_init_15 : decode cX4_init 15 = .ok (.putfield 15, 3) := by decide +kernel
theorem dX4_init_18 : decode cX4_init 18 = .ok (.return_, 1) := by decide +kernel
theorem dX0_init_0 : decode cX0_init 0 = .ok (.aload_n 0, 1) := by decide +kernel
theorem dX0_init_1 : decode cX0_init 1 = .ok (.invokespecial 3, 3) := by decide +kernel
theorem dX0_init_4 : decode cX0_init 4 = .ok (.aload_n 0, 1) := by decide +kernel
theorem dX0_init_5 : decode cX0_init 5 = .ok (.bipush 12, 2) := by decide +kernel
theorem dX0_init_7 : decode cX0_init 7 = .ok (.newarray .int, 2) := by decide +kernel
theorem dX0_init_9 : decode cX0_init 9 = .ok (.putfield 9, 3) := by decide +kernel
theorem dX0_init_12 : decode cX0_init 12 = .ok (.aload_n 0, 1) := by decide +kernel
theorem dX0_init_13 : decode cX0_init 13 = .ok (.bipush 12, 2) := by decide +kernel
theorem dX0_init_15 : decode cX0_init 15 = .ok (.newarray .int, 2) := by decide +kernel
theorem dX0_init_17 : decode cX0_init 17 = .ok (.putfield 15, 3) := by decide +kernel
theorem dX0_init_20 : decode cX0_init 20 = .ok (.aload_n 0, 1) := by decide +kernel
theorem dX0_init_21 : decode cX0_init 21 = .ok (.bipush 8, 2) := by decide +kernel
theorem dX0_init_23 : decode cX0_init 23 = .ok (.newarray .int, 2) := by decide +kernel
theorem dX0_init_25 : decode cX0_init 25 = .ok (.putfield 18, 3) := by decide +kernel
theorem dX0_init_28 : decode cX0_init 28 = .ok (.aload_n 0, 1) := by decide +kernel
theorem dX0_init_29 : decode cX0_init 29 = .ok (.bipush 24, 2) := by decide +kernel
theorem dX0_init_31 : decode cX0_init 31 = .ok (.newarray .int, 2) := by decide +kernel
theorem dX0_init_33 : decode cX0_init 33 = .ok (.putfield 21, 3) := by decide +kernel
theorem dX0_init_36 : decode cX0_init 36 = .ok (.return_, 1) := by decide +kernel
theorem dX3_init_0 : decode cX3_init 0 = .ok (.aload_n 0, 1) := by decide +kernel
theorem dX3_init_1 : decode cX3_init 1 = .ok (.invokespecial 3, 3) := by decide +kernel
theorem dX3_init_4 : decode cX3_init 4 = .ok (.aload_n 0, 1) := by decide +kernel
theorem dX3_init_5 : decode cX3_init 5 = .ok (.bipush 8, 2) := by decide +kernel
theorem dX3_init_7 : decode cX3_init 7 = .ok (.newarray .int, 2) := by decide +kernel
theorem dX3_init_9 : decode cX3_init 9 = .ok (.putfield 11, 3) := by decide +kernel
theorem dX3_init_12 : decode cX3_init 12 = .ok (.aload_n 0, 1) := by decide +kernel
theorem dX3_init_13 : decode cX3_init 13 = .ok (.bipush 8, 2) := by decide +kernel
theorem dX3_init_15 : decode cX3_init 15 = .ok (.newarray .int, 2) := by decide +kernel
theorem dX3_init_17 : decode cX3_init 17 = .ok (.putfield 15, 3) := by decide +kernel
theorem dX3_init_20 : decode cX3_init 20 = .ok (.return_, 1) := by decide +kernel
theorem dX8_init_0 : decode cX8_init 0 = .ok (.aload_n 0, 1) := by decide +kernel
theorem dX8_init_1 : decode cX8_init 1 = .ok (.invokespecial 3, 3) := by decide +kernel
theorem dX8_init_4 : decode cX8_init 4 = .ok (.aload_n 0, 1) := by decide +kernel
theorem dX8_init_5 : decode cX8_init 5 = .ok (.bipush 18, 2) := by decide +kernel
theorem dX8_init_7 : decode cX8_init 7 = .ok (.newarray .int, 2) := by decide +kernel
theorem dX8_init_9 : decode cX8_init 9 = .ok (.putfield 9, 3) := by decide +kernel
theorem dX8_init_12 : decode cX8_init 12 = .ok (.return_, 1) := by decide +kernel
theorem dX6_init_0 : decode cX6_init 0 = .ok (.aload_n 0, 1) := by decide +kernel
theorem dX6_init_1 : decode cX6_init 1 = .ok (.invokespecial 3, 3) := by decide +kernel
theorem dX6_init_4 : decode cX6_init 4 = .ok (.aload_n 0, 1) := by decide +kernel
theorem dX6_init_5 : decode cX6_init 5 = .ok (.iconst 4, 1) := by decide +kernel
theorem dX6_init_6 : decode cX6_init 6 = .ok (.newarray .int, 2) := by decide +kernel
theorem dX6_init_8 : decode cX6_init 8 = .ok (.putfield 9, 3) := by decide +kernel
theorem dX6_init_11 : decode cX6_init 11 = .ok (.aload_n 0, 1) := by decide +kernel
theorem dX6_init_12 : decode cX6_init 12 = .ok (.bipush 6, 2) := by decide +kernel
theorem dX6_init_14 : decode cX6_init 14 = .ok (.newarray .int, 2) := by decide +kernel
theorem dX6_init_16 : decode cX6_init 16 = .ok (.putfield 15, 3) := by decide +kernel
theorem dX6_init_19 : decode cX6_init 19 = .ok (.aload_n 0, 1) := by decide +kernel
theorem dX6_init_20 : decode cX6_init 20 = .ok (.bipush 6, 2) := by decide +kernel
theorem dX6_init_22 : decode cX6_init 22 = .ok (.newarray .int, 2) := by decide +kernel
theorem dX6_init_24 : decode cX6_init 24 = .ok (.putfield 18, 3) := by decide +kernel
theorem dX6_init_27 : decode cX6_init 27 = .ok (.return_, 1) := by decide +kernel
theorem dX1_init_0 : decode cX1_init 0 = .ok (.aload_n 0, 1) := by decide +kernel
theorem dX1_init_1 : decode cX1_init 1 = .ok (.invokespecial 3, 3) := by decide +kernel
theorem dX1_init_4 : decode cX1_init 4 = .ok (.aload_n 0, 1) := by decide +kernel
theorem dX1_init_5 : decode cX1_init 5 = .ok (.bipush 40, 2) := by decide +kernel
theorem dX1_init_7 : decode cX1_init 7 = .ok (.newarray .byte, 2) := by decide +kernel
theorem dX1_init_9 : decode cX1_init 9 = .ok (.putfield 9, 3) := by decide +kernel
theorem dX1_init_12 : decode cX1_init 12 = .ok (.return_, 1) := by decide +kernel
theorem dX10_init_0 : decode cX10_init 0 = .ok (.aload_n 0, 1) := by decide +kernel
theorem dX10_init_1 : decode cX10_init 1 = .ok (.invokespecial 3, 3) := by decide +kernel
theorem dX10_init_4 : decode cX10_init 4 = .ok (.aload_n 0, 1) := by decide +kernel
theorem dX10_init_5 : decode cX10_init 5 = .ok (.sipush 800, 3) := by decide +kernel
theorem dX10_init_8 : decode cX10_init 8 = .ok (.newarray .byte, 2) := by decide +kernel
theorem dX10_init_10 : decode cX10_init 10 = .ok (.putfield 9, 3) := by decide +kernel
theorem dX10_init_13 : decode cX10_init 13 = .ok (.aload_n 0, 1) := by decide +kernel
theorem dX10_init_14 : decode cX10_init 14 = .ok (.iconst (-1), 1) := by decide +kernel
theorem dX10_init_15 : decode cX10_init 15 = .ok (.putfield 15, 3) := by decide +kernel
theorem dX10_init_18 : decode cX10_init 18 = .ok (.return_, 1) := by decide +kernel
theorem dX5_init_0 : decode cX5_init 0 = .ok (.aload_n 0, 1) := by decide +kernel
theorem dX5_init_1 : decode cX5_init 1 = .ok (.invokespecial 3, 3) := by decide +kernel
theorem dX5_init_4 : decode cX5_init 4 = .ok (.aload_n 0, 1) := by decide +kernel
theorem dX5_init_5 : decode cX5_init 5 = .ok (.new 9, 3) := by decide +kernel
theorem dX5_init_8 : decode cX5_init 8 = .ok (.dup, 1) := by decide +kernel
theorem dX5_init_9 : decode cX5_init 9 = .ok (.invokespecial 11, 3) := by decide +kernel
theorem dX5_init_12 : decode cX5_init 12 = .ok (.putfield 12, 3) := by decide +kernel
theorem dX5_init_15 : decode cX5_init 15 = .ok (.return_, 1) := by decide +kernel
theorem dX2_init_0 : decode cX2_init 0 = .ok (.aload_n 0, 1) := by decide +kernel
theorem dX2_init_1 : decode cX2_init 1 = .ok (.invokespecial 3, 3) := by decide +kernel
theorem dX2_init_4 : decode cX2_init 4 = .ok (.aload_n 0, 1) := by decide +kernel
theorem dX2_init_5 : decode cX2_init 5 = .ok (.bipush 16, 2) := by decide +kernel
theorem dX2_init_7 : decode cX2_init 7 = .ok (.bipush 84, 2) := by decide +kernel
theorem dX2_init_9 : decode cX2_init 9 = .ok (.multianewarray 11 2, 4) := by decide +kernel
theorem dX2_init_13 : decode cX2_init 13 = .ok (.putfield 13, 3) := by decide +kernel
theorem dX2_init_16 : decode cX2_init 16 = .ok (.return_, 1) := by decide +kernel
theorem dX11_init_0 : decode cX11_init 0 = .ok (.aload_n 0, 1) := by decide +kernel
theorem dX11_init_1 : decode cX11_init 1 = .ok (.invokespecial 1, 3) := by decide +kernel
theorem dX11_init_4 : decode cX11_init 4 = .ok (.aload_n 0, 1) := by decide +kernel
theorem dX11_init_5 : decode cX11_init 5 = .ok (.new 7, 3) := by decide +kernel
theorem dX11_init_8 : decode cX11_init 8 = .ok (.dup, 1) := by decide +kernel
theorem dX11_init_9 : decode cX11_init 9 = .ok (.invokespecial 9, 3) := by decide +kernel
theorem dX11_init_12 : decode cX11_init 12 = .ok (.putfield 10, 3) := by decide +kernel
theorem dX11_init_15 : decode cX11_init 15 = .ok (.aload_n 0, 1) := by decide +kernel
theorem dX11_init_16 : decode cX11_init 16 = .ok (.new 16, 3) := by decide +kernel
theorem dX11_init_19 : decode cX11_init 19 = .ok (.dup, 1) := by decide +kernel
theorem dX11_init_20 : decode cX11_init 20 = .ok (.invokespecial 18, 3) := by decide +kernel
theorem dX11_init_23 : decode cX11_init 23 = .ok (.putfield 19, 3) := by decide +kernel
theorem dX11_init_26 : decode cX11_init 26 = .ok (.aload_n 0, 1) := by decide +kernel
theorem dX11_init_27 : decode cX11_init 27 = .ok (.new 23, 3) := by decide +kernel
theorem dX11_init_30 : decode cX11_init 30 = .ok (.dup, 1) := by decide +kernel
theorem dX11_init_31 : decode cX11_init 31 = .ok (.invokespecial 25, 3) := by decide +kernel
theorem dX11_init_34 : decode cX11_init 34 = .ok (.putfield 26, 3) := by decide +kernel
theorem dX11_init_37 : decode cX11_init 37 = .ok (.aload_n 0, 1) := by decide +kernel
theorem dX11_init_38 : decode cX11_init 38 = .ok (.new 30, 3) := by decide +kernel
theorem dX11_init_41 : decode cX11_init 41 = .ok (.dup, 1) := by decide +kernel
theorem dX11_init_42 : decode cX11_init 42 = .ok (.invokespecial 32, 3) := by decide +kernel
theorem dX11_init_45 : decode cX11_init 45 = .ok (.putfield 33, 3) := by decide +kernel
theorem dX11_init_48 : decode cX11_init 48 = .ok (.aload_n 0, 1) := by decide +kernel
theorem dX11_init_49 : decode cX11_init 49 = .ok (.new 37, 3) := by decide +kernel
theorem dX11_init_52 : decode cX11_init 52 = .ok (.dup, 1) := by decide +kernel
theorem dX11_init_53 : decode cX11_init 53 = .ok (.invokespecial 39, 3) := by decide +kernel
theorem dX11_init_56 : decode cX11_init 56 = .ok (.putfield 40, 3) := by decide +kernel
theorem dX11_init_59 : decode cX11_init 59 = .ok (.aload_n 0, 1) := by decide +kernel
theorem dX11_init_60 : decode cX11_init 60 = .ok (.new 44, 3) := by decide +kernel
theorem dX11_init_63 : decode cX11_init 63 = .ok (.dup, 1) := by decide +kernel
theorem dX11_init_64 : decode cX11_init 64 = .ok (.invokespecial 46, 3) := by decide +kernel
theorem dX11_init_67 : decode cX11_init 67 = .ok (.putfield 47, 3) := by decide +kernel
theorem dX11_init_70 : decode cX11_init 70 = .ok (.aload_n 0, 1) := by decide +kernel
theorem dX11_init_71 : decode cX11_init 71 = .ok (.new 44, 3) := by decide +kernel
theorem dX11_init_74 : decode cX11_init 74 = .ok (.dup, 1) := by decide +kernel
theorem dX11_init_75 : decode cX11_init 75 = .ok (.invokespecial 46, 3) := by decide +kernel
theorem dX11_init_78 : decode cX11_init 78 = .ok (.putfield 51, 3) := by decide +kernel
theorem dX11_init_81 : decode cX11_init 81 = .ok (.aload_n 0, 1) := by decide +kernel
theorem dX11_init_82 : decode cX11_init 82 = .ok (.bipush 24, 2) := by decide +kernel
theorem dX11_init_84 : decode cX11_init 84 = .ok (.newarray .int, 2) := by decide +kernel
theorem dX11_init_86 : decode cX11_init 86 = .ok (.putfield 54, 3) := by decide +kernel
theorem dX11_init_89 : decode cX11_init 89 = .ok (.aload_n 0, 1) := by decide +kernel
theorem dX11_init_90 : decode cX11_init 90 = .ok (.new 58, 3) := by decide +kernel
theorem dX11_init_93 : decode cX11_init 93 = .ok (.dup, 1) := by decide +kernel
theorem dX11_init_94 : decode cX11_init 94 = .ok (.invokespecial 60, 3) := by decide +kernel
theorem dX9_init_0 : decode cX9_init 0 = .ok (.aload_n 0, 1) := by decide +kernel
theorem dX9_init_1 : decode cX9_init 1 = .ok (.invokespecial 3, 3) := by decide +kernel
theorem dX9_init_4 : decode cX9_init 4 = .ok (.aload_n 0, 1) := by decide +kernel
theorem dX9_init_5 : decode cX9_init 5 = .ok (.bipush 8, 2) := by decide +kernel
theorem dX9_init_7 : decode cX9_init 7 = .ok (.anewarray 9, 3) := by decide +kernel
theorem dX9_init_10 : decode cX9_init 10 = .ok (.putfield 11, 3) := by decide +kernel
theorem dX9_init_13 : decode cX9_init 13 = .ok (.aload_n 0, 1) := by decide +kernel
theorem dX9_init_14 : decode cX9_init 14 = .ok (.bipush 6, 2) := by decide +kernel
theorem dX9_init_16 : decode cX9_init 16 = .ok (.anewarray 17, 3) := by decide +kernel
theorem dX9_init_19 : decode cX9_init 19 = .ok (.putfield 19, 3) := by decide +kernel
theorem dX9_init_22 : decode cX9_init 22 = .ok (.aload_n 0, 1) := by decide +kernel
theorem dX9_init_23 : decode cX9_init 23 = .ok (.bipush 6, 2) := by decide +kernel
theorem dX9_init_25 : decode cX9_init 25 = .ok (.anewarray 23, 3) := by decide +kernel
theorem dX9_init_28 : decode cX9_init 28 = .ok (.putfield 25, 3) := by decide +kernel
theorem dX9_init_31 : decode cX9_init 31 = .ok (.aload_n 0, 1) := by decide +kernel
theorem dX9_init_32 : decode cX9_init 32 = .ok (.bipush 8, 2) := by decide +kernel
theorem dX9_init_34 : decode cX9_init 34 = .ok (.newarray .int, 2) := by decide +kernel
theorem dX9_init_36 : decode cX9_init 36 = .ok (.putfield 29, 3) := by decide +kernel
theorem dX9_init_39 : decode cX9_init 39 = .ok (.aload_n 0, 1) := by decide +kernel
theorem dX9_init_40 : decode cX9_init 40 = .ok (.bipush 6, 2) := by decide +kernel
theorem dX9_init_42 : decode cX9_init 42 = .ok (.newarray .int, 2) := by decide +kernel
theorem dX9_init_44 : decode cX9_init 44 = .ok (.putfield 33, 3) := by decide +kernel
theorem dX9_init_47 : decode cX9_init 47 = .ok (.aload_n 0, 1) := by decide +kernel
theorem dX9_init_48 : decode cX9_init 48 = .ok (.bipush 6, 2) := by decide +kernel
theorem dX9_init_50 : decode cX9_init 50 = .ok (.newarray .int, 2) := by decide +kernel
theorem dX9_init_52 : decode cX9_init 52 = .ok (.putfield 36, 3) := by decide +kernel
theorem dX9_init_55 : decode cX9_init 55 = .ok (.aload_n 0, 1) := by decide +kernel
theorem dX9_init_56 : decode cX9_init 56 = .ok (.bipush 6, 2) := by decide +kernel
theorem dX9_init_58 : decode cX9_init 58 = .ok (.newarray .int, 2) := by decide +kernel
theorem dX9_init_60 : decode cX9_init 60 = .ok (.putfield 39, 3) := by decide +kernel
theorem dX9_init_63 : decode cX9_init 63 = .ok (.aload_n 0, 1) := by decide +kernel
theorem dX9_init_64 : decode cX9_init 64 = .ok (.bipush 24, 2) := by decide +kernel
theorem dX9_init_66 : decode cX9_init 66 = .ok (.newarray .int, 2) := by decide +kernel
theorem dX9_init_68 : decode cX9_init 68 = .ok (.putfield 42, 3) := by decide +kernel
theorem dX9_init_71 : decode cX9_init 71 = .ok (.aload_n 0, 1) := by decide +kernel
theorem dX9_init_72 : decode cX9_init 72 = .ok (.bipush 24, 2) := by decide +kernel
theorem dX9_init_74 : decode cX9_init 74 = .ok (.newarray .int, 2) := by decide +kernel
theorem dX9_init_76 : decode cX9_init 76 = .ok (.putfield 45, 3) := by decide +kernel
theorem dX9_init_79 : decode cX9_init 79 = .ok (.iconst 0, 1) := by decide +kernel
theorem dX9_init_80 : decode cX9_init 80 = .ok (.istore_n 1, 1) := by decide +kernel
theorem dX9_init_81 : decode cX9_init 81 = .ok (.iload_n 1, 1) := by decide +kernel
theorem dX9_init_82 : decode cX9_init 82 = .ok (.bipush 8, 2) := by decide +kernel
theorem dX9_init_84 : decode cX9_init 84 = .ok (.if_icmp .ge 22, 3) := by decide +kernel
theorem dX9_init_87 : decode cX9_init 87 = .ok (.aload_n 0, 1) := by decide +kernel
theorem dX9_init_88 : decode cX9_init 88 = .ok (.getfield 11, 3) := by decide +kernel
theorem dX9_init_91 : decode cX9_init 91 = .ok (.iload_n 1, 1) := by decide +kernel
theorem dX9_init_92 : decode cX9_init 92 = .ok (.new 9, 3) := by decide +kernel
theorem dX9_init_95 : decode cX9_init 95 = .ok (.dup, 1) := by decide +kernel
theorem dX9_init_96 : decode cX9_init 96 = .ok (.invokespecial 48, 3) := by decide +kernel
theorem dX9_init_99 : decode cX9_init 99 = .ok (.aastore, 1) := by decide +kernel
theorem dX9_init_100 : decode cX9_init 100 = .ok (.iinc 1 1, 3) := by decide +kernel
theorem dX9_init_103 : decode cX9_init 103 = .ok (.goto (-22), 3) := by decide +kernel
theorem dX9_init_106 : decode cX9_init 106 = .ok (.iconst 0, 1) := by decide +kernel
theorem dX9_init_107 : decode cX9_init 107 = .ok (.istore_n 1, 1) := by decide +kernel
theorem dX9_init_108 : decode cX9_init 108 = .ok (.iload_n 1, 1) := by decide +kernel
theorem dX9_init_109 : decode cX9_init 109 = .ok (.bipush 6, 2) := by decide +kernel
theorem dX9_init_111 : decode cX9_init 111 = .ok (.if_icmp .ge 22, 3) := by decide +kernel
theorem dX9_init_114 : decode cX9_init 114 = .ok (.aload_n 0, 1) := by decide +kernel
theorem dX9_init_115 : decode cX9_init 115 = .ok (.getfield 19, 3) := by decide +kernel
theorem dX9_init_118 : decode cX9_init 118 = .ok (.iload_n 1, 1) := by decide +kernel
theorem dX9_init_119 : decode cX9_init 119 = .ok (.new 17, 3) := by decide +kernel
theorem dX9_init_122 : decode cX9_init 122 = .ok (.dup, 1) := by decide +kernel
theorem dX9_init_123 : decode cX9_init 123 = .ok (.invokespecial 49, 3) := by decide +kernel
theorem dX9_init_126 : decode cX9_init 126 = .ok (.aastore, 1) := by decide +kernel
theorem dX9_init_127 : decode cX9_init 127 = .ok (.iinc 1 1, 3) := by decide +kernel
theorem dX9_init_130 : decode cX9_init 130 = .ok (.goto (-22), 3) := by decide +kernel
theorem dX9_init_133 : decode cX9_init 133 = .ok (.iconst 0, 1) := by decide +kernel
theorem dX9_init_134 : decode cX9_init 134 = .ok (.istore_n 1, 1) := by decide +kernel
theorem dX9_init_135 : decode cX9_init 135 = .ok (.iload_n 1, 1) := by decide +kernel
theorem dX9_init_136 : decode cX9_init 136 = .ok (.bipush 6, 2) := by decide +kernel
theorem dX9_init_138 : decode cX9_init 138 = .ok (.if_icmp .ge 22, 3) := by decide +kernel
theorem dX9_init_141 : decode cX9_init 141 = .ok (.aload_n 0, 1) := by decide +kernel
theorem dX9_init_142 : decode cX9_init 142 = .ok (.getfield 25, 3) := by decide +kernel
theorem dX9_init_145 : decode cX9_init 145 = .ok (.iload_n 1, 1) := by decide +kernel
theorem dX9_init_146 : decode cX9_init 146 = .ok (.new 23, 3) := by decide +kernel
theorem dX9_init_149 : decode cX9_init 149 = .ok (.dup, 1) := by decide +kernel
theorem dX9_init_150 : decode cX9_init 150 = .ok (.invokespecial 50, 3) := by decide +kernel
theorem dX9_init_153 : decode cX9_init 153 = .ok (.aastore, 1) := by decide +kernel
theorem dX9_init_154 : decode cX9_init 154 = .ok (.iinc 1 1, 3) := by decide +kernel
theorem dX9_init_157 : decode cX9_init 157 = .ok (.goto (-22), 3) := by decide +kernel
theorem dX9_init_160 : decode cX9_init 160 = .ok (.aload_n 0, 1) := by decide +kernel
theorem dX9_init_161 : decode cX9_init 161 = .ok (.invokevirtual 51, 3) := by decide +kernel
theorem dX9_init_164 : decode cX9_init 164 = .ok (.return_, 1) := by decide +kernel
theorem dX11_init_97 : decode cX11_init 97 = .ok (.putfield 61, 3) := by decide +kernel
theorem dX11_init_100 : decode cX11_init 100 = .ok (.aload_n 0, 1) := by decide +kernel
theorem dX11_init_101 : decode cX11_init 101 = .ok (.new 58, 3) := by decide +kernel
theorem dX11_init_104 : decode cX11_init 104 = .ok (.dup, 1) := by decide +kernel
theorem dX11_init_105 : decode cX11_init 105 = .ok (.invokespecial 60, 3) := by decide +kernel
theorem dX11_init_108 : decode cX11_init 108 = .ok (.putfield 65, 3) := by decide +kernel
theorem dX11_init_111 : decode cX11_init 111 = .ok (.return_, 1) := by decide +kernel
def F_X7 (n : Nat) (σ : Sg) : Sg := σ
theorem zr_X7 {n : Nat} {σ : Sg} (hz : Zr n σ) : Zr (n) (F_X7 n σ) := hz
set_option maxHeartbeats 4000000 in
set_option maxRecDepth 100000 in
theorem ci_X7 {l : Launch} {g : GL} {n : Nat} {σ : Sg} (hz : Zr n σ) (h0 : 0 < n) (hn : n ≤ 201) (hk0 : kd (n) = 7) : Ct l g 1 yX7_init cX7_init 1 none n (n) 0 0 [.ref (ga g n)] σ (fun v σ' => v = none ∧ σ' = F_X7 n σ) := by
  refine Met.ofW (cc := cX7_init) (maxL := 1) (ret := none) (by decide) rfl ?_
  intro p e s m args below meth c s₁ B hml hv
  obtain ⟨rfl, hE, hLo, hWd⟩ := hv
  have hr : meth.sig.returnType = none := B.returns
  have hnm : meth.name = "<init>" := (name_of_methodNamed B.named B.method).1
  have C : Cx l g p s m meth c cX7_init 1 RX7 := ⟨B.exec, B.bytes, hml, findClass_of_methodNamed B.named, hE, hLo, B.notSynchronized⟩
  have S : StL g n s σ s.heap [] := ⟨hWd, va_S.rf⟩
  have hx := C.1
  have hb := C.2.1
  have hl := lv_entry ([.ref (ga g (n))]) (n := 1) (Nat.le_of_ble_eq_true rfl)
  rw [lg_entry_eq]
  generalize (lg_sl ([.ref (ga g (n))]) ++ List.replicate (1 - (lg_sl ([.ref (ga g (n))])).length) Slot.unset).toArray = ls at hl ⊢
  have hl : lv_has ls 1 [(0, .ref (ga g (n)))] := hl
  generalize hH : s.heap = H at S ⊢
  generalize hlc : ([] : List Loc) = locs at S ⊢
  refine lv_aload_n hx hb dX7_init_0 rfl (lv_at hl 0 rfl) ?_
  refine a_obj C ol_RX7 in_obj cd_obj hl.1 dX7_init_1 (Nat.le_of_ble_eq_true rfl) (Nat.le_of_ble_eq_true rfl) ?_
  exact v_vret C S hr ⟨rfl, rfl⟩ dX7_init_4
def F_X4 (n : Nat) (σ : Sg) : Sg := uR (alk 1 (uR (alk 1 (σ)) n 0 (n + 1))) n 1 (n + 1 + 1)
theorem zr_X4 {n : Nat} {σ : Sg} (hz : Zr n σ) : Zr (n + 1 + 1) (F_X4 n σ) := (Zr.uR (Zr.alk (Zr.uR (Zr.alk hz) (by omega))) (by omega))
set_option maxHeartbeats 4000000 in
set_option maxRecDepth 100000 in
theorem ci_X4 {l : Launch} {g : GL} {n : Nat} {σ : Sg} (hz : Zr n σ) (h0 : 0 < n) (hn : n + 1 + 1 ≤ 201) (hk0 : kd (n) = 4) (hk1 : kd (n + 1) = 10004) (hk2 : kd (n + 1 + 1) = 10004) : Ct l g 1 yX4_init cX4_init 1 none n (n + 1 + 1) 2 8 [.ref (ga g n)] σ (fun v σ' => v = none ∧ σ' = F_X4 n σ) := by
  refine Met.ofW (cc := cX4_init) (maxL := 1) (ret := none) (by decide) rfl ?_
  intro p e s m args below meth c s₁ B hml hv
  obtain ⟨rfl, hE, hLo, hWd⟩ := hv
  have hr : meth.sig.returnType = none := B.returns
  have hnm : meth.name = "<init>" := (name_of_methodNamed B.named B.method).1
  have C : Cx l g p s m meth c cX4_init 1 RX4 := ⟨B.exec, B.bytes, hml, findClass_of_methodNamed B.named, hE, hLo, B.notSynchronized⟩
  have S : StL g n s σ s.heap [] := ⟨hWd, va_S.rf⟩
  have hx := C.1
  have hb := C.2.1
  have hl := lv_entry ([.ref (ga g (n))]) (n := 1) (Nat.le_of_ble_eq_true rfl)
  rw [lg_entry_eq]
  generalize (lg_sl ([.ref (ga g (n))]) ++ List.replicate (1 - (lg_sl ([.ref (ga g (n))])).length) Slot.unset).toArray = ls at hl ⊢
  have hl : lv_has ls 1 [(0, .ref (ga g (n)))] := hl
  generalize hH : s.heap = H at S ⊢
  generalize hlc : ([] : List Loc) = locs at S ⊢
  refine lv_aload_n hx hb dX4_init_0 rfl (lv_at hl 0 rfl) ?_
  refine a_obj C ol_RX4 in_obj cd_obj hl.1 dX4_init_1 (Nat.le_of_ble_eq_true rfl) (Nat.le_of_ble_eq_true rfl) ?_
  refine lv_aload_n hx hb dX4_init_4 rfl (lv_at hl 0 rfl) ?_
  refine lv_iconst (v := (4 : Int32)) hx hb dX4_init_5 (by decide) ?_
  refine a_newI C S (by omega) hz ac_int (len := 4) (by decide) hk1 (by decide) (by decide) (Nat.le_of_ble_eq_true rfl) (Nat.le_of_ble_eq_true rfl) dX4_init_6 (fun H S hz => ?_)
  refine a_putF C S KX4 (⟨hk0, by omega, by omega⟩ : Ok (n + 1) (n) 4) 0 (by decide) rfl rfl hnm (by omega) (fun _ => rfl) (fun _ => rfl) rfl fl_RX4_9 dX4_init_8 (fun H locs S => ?_)
  have hz := hz.uR (o := n) (k := 0) (v := n + 1) (by omega)
  refine lv_aload_n hx hb dX4_init_11 rfl (lv_at hl 0 rfl) ?_
  refine lv_iconst (v := (4 : Int32)) hx hb dX4_init_12 (by decide) ?_
  refine a_newI C S (by omega) hz ac_int (len := 4) (by decide) hk2 (by decide) (by decide) (Nat.le_of_ble_eq_true rfl) (Nat.le_of_ble_eq_true rfl) dX4_init_13 (fun H S hz => ?_)
  refine a_putF C S KX4 (⟨hk0, by omega, by omega⟩ : Ok (n + 1 + 1) (n) 4) 1 (by decide) rfl rfl hnm (by omega) (fun _ => rfl) (fun _ => rfl) rfl fl_RX4_15 dX4_init_15 (fun H locs S => ?_)
  have hz := hz.uR (o := n) (k := 1) (v := n + 1 + 1) (by omega)
  exact v_vret C S hr ⟨rfl, rfl⟩ dX4_init_18
def F_X0 (n : Nat) (σ : Sg) : Sg := uR (alk 1 (uR (alk 1 (uR (alk 1 (uR (alk 1 (σ)) n 0 (n + 1))) n 1 (n + 1 + 1))) n 2 (n + 1 + 1 + 1))) n 3 (n + 1 + 1 + 1 + 1)
theorem zr_X0 {n : Nat} {σ : Sg} (hz : Zr n σ) : Zr (n + 1 + 1 + 1 + 1) (F_X0 n σ) := (Zr.uR (Zr.alk (Zr.uR (Zr.alk (Zr.uR (Zr.alk (Zr.uR (Zr.alk hz) (by omega))) (by omega))) (by omega))) (by omega))
set_option maxHeartbeats 4000000 in
set_option maxRecDepth 100000 in
theorem ci_X0 {l : Launch} {g : GL} {n : Nat} {σ : Sg} (hz : Zr n σ) (h0 : 0 < n) (hn : n + 1 + 1 + 1 + 1 ≤ 201) (hk0 : kd (n) = 0) (hk1 : kd (n + 1) = 10012) (hk2 : kd (n + 1 + 1) = 10012) (hk3 : kd (n + 1 + 1 + 1) = 10008) (hk4 : kd (n + 1 + 1 + 1 + 1) = 10024) : Ct l g 1 yX0_init cX0_init 1 none n (n + 1 + 1 + 1 + 1) 4 56 [.ref (ga g n)] σ (fun v σ' => v = none ∧ σ' = F_X0 n σ) := by
  refine Met.ofW (cc := cX0_init) (maxL := 1) (ret := none) (by decide) rfl ?_
  intro p e s m args below meth c s₁ B hml hv
  obtain ⟨rfl, hE, hLo, hWd⟩ := hv
  have hr : meth.sig.returnType = none := B.returns
  have hnm : meth.name = "<init>" := (name_of_methodNamed B.named B.method).1
  have C : Cx l g p s m meth c cX0_init 1 RX0 := ⟨B.exec, B.bytes, hml, findClass_of_methodNamed B.named, hE, hLo, B.notSynchronized⟩
  have S : StL g n s σ s.heap [] := ⟨hWd, va_S.rf⟩
  have hx := C.1
  have hb := C.2.1
  have hl := lv_entry ([.ref (ga g (n))]) (n := 1) (Nat.le_of_ble_eq_true rfl)
  rw [lg_entry_eq]
  generalize (lg_sl ([.ref (ga g (n))]) ++ List.replicate (1 - (lg_sl ([.ref (ga g (n))])).length) Slot.unset).toArray = ls at hl ⊢
  have hl : lv_has ls 1 [(0, .ref (ga g (n)))] := hl
  generalize hH : s.heap = H at S ⊢
  generalize hlc : ([] : List Loc) = locs at S ⊢
  refine lv_aload_n hx hb dX0_init_0 rfl (lv_at hl 0 rfl) ?_
  refine a_obj C ol_RX0 in_obj cd_obj hl.1 dX0_init_1 (Nat.le_of_ble_eq_true rfl) (Nat.le_of_ble_eq_true rfl) ?_
  refine lv_aload_n hx hb dX0_init_4 rfl (lv_at hl 0 rfl) ?_
  refine lv_bipush (v := (12 : Int32)) hx hb dX0_init_5 (by decide) ?_
  refine a_newI C S (by omega) hz ac_int (len := 12) (by decide) hk1 (by decide) (by decide) (Nat.le_of_ble_eq_true rfl) (Nat.le_of_ble_eq_true rfl) dX0_init_7 (fun H S hz => ?_)
  refine a_putF C S KX0 (⟨hk0, by omega, by omega⟩ : Ok (n + 1) (n) 0) 0 (by decide) rfl rfl hnm (by omega) (fun _ => rfl) (fun _ => rfl) rfl fl_RX0_9 dX0_init_9 (fun H locs S => ?_)
  have hz := hz.uR (o := n) (k := 0) (v := n + 1) (by omega)
  refine lv_aload_n hx hb dX0_init_12 rfl (lv_at hl 0 rfl) ?_
  refine lv_bipush (v := (12 : Int32)) hx hb dX0_init_13 (by decide) ?_
  refine a_newI C S (by omega) hz ac_int (len := 12) (by decide) hk2 (by decide) (by decide) (Nat.le_of_ble_eq_true rfl) (Nat.le_of_ble_eq_true rfl) dX0_init_15 (fun H S hz => ?_)
  refine a_putF C S KX0 (⟨hk0, by omega, by omega⟩ : Ok (n + 1 + 1) (n) 0) 1 (by decide) rfl rfl hnm (by omega) (fun _ => rfl) (fun _ => rfl) rfl fl_RX0_15 dX0_init_17 (fun H locs S => ?_)
  have hz := hz.uR (o := n) (k := 1) (v := n + 1 + 1) (by omega)
  refine lv_aload_n hx hb dX0_init_20 rfl (lv_at hl 0 rfl) ?_
  refine lv_bipush (v := (8 : Int32)) hx hb dX0_init_21 (by decide) ?_
  refine a_newI C S (by omega) hz ac_int (len := 8) (by decide) hk3 (by decide) (by decide) (Nat.le_of_ble_eq_true rfl) (Nat.le_of_ble_eq_true rfl) dX0_init_23 (fun H S hz => ?_)
  refine a_putF C S KX0 (⟨hk0, by omega, by omega⟩ : Ok (n + 1 + 1 + 1) (n) 0) 2 (by decide) rfl rfl hnm (by omega) (fun _ => rfl) (fun _ => rfl) rfl fl_RX0_18 dX0_init_25 (fun H locs S => ?_)
  have hz := hz.uR (o := n) (k := 2) (v := n + 1 + 1 + 1) (by omega)
  refine lv_aload_n hx hb dX0_init_28 rfl (lv_at hl 0 rfl) ?_
  refine lv_bipush (v := (24 : Int32)) hx hb dX0_init_29 (by decide) ?_
  refine a_newI C S (by omega) hz ac_int (len := 24) (by decide) hk4 (by decide) (by decide) (Nat.le_of_ble_eq_true rfl) (Nat.le_of_ble_eq_true rfl) dX0_init_31 (fun H S hz => ?_)
  refine a_putF C S KX0 (⟨hk0, by omega, by omega⟩ : Ok (n + 1 + 1 + 1 + 1) (n) 0) 3 (by decide) rfl rfl hnm (by omega) (fun _ => rfl) (fun _ => rfl) rfl fl_RX0_21 dX0_init_33 (fun H locs S => ?_)
  have hz := hz.uR (o := n) (k := 3) (v := n + 1 + 1 + 1 + 1) (by omega)
  exact v_vret C S hr ⟨rfl, rfl⟩ dX0_init_36
def F_X3 (n : Nat) (σ : Sg) : Sg := uR (alk 1 (uR (alk 1 (σ)) n 0 (n + 1))) n 1 (n + 1 + 1)
theorem zr_X3 {n : Nat} {σ : Sg} (hz : Zr n σ) : Zr (n + 1 + 1) (F_X3 n σ) := (Zr.uR (Zr.alk (Zr.uR (Zr.alk hz) (by omega))) (by omega))
set_option maxHeartbeats 4000000 in
set_option maxRecDepth 100000 in
theorem ci_X3 {l : Launch} {g : GL} {n : Nat} {σ : Sg} (hz : Zr n σ) (h0 : 0 < n) (hn : n + 1 + 1 ≤ 201) (hk0 : kd (n) = 3) (hk1 : kd (n + 1) = 10008) (hk2 : kd (n + 1 + 1) = 10008) : Ct l g 1 yX3_init cX3_init 1 none n (n + 1 + 1) 2 16 [.ref (ga g n)] σ (fun v σ' => v = none ∧ σ' = F_X3 n σ) := by
  refine Met.ofW (cc := cX3_init) (maxL := 1) (ret := none) (by decide) rfl ?_
  intro p e s m args below meth c s₁ B hml hv
  obtain ⟨rfl, hE, hLo, hWd⟩ := hv
  have hr : meth.sig.returnType = none := B.returns
  have hnm : meth.name = "<init>" := (name_of_methodNamed B.named B.method).1
  have C : Cx l g p s m meth c cX3_init 1 RX3 := ⟨B.exec, B.bytes, hml, findClass_of_methodNamed B.named, hE, hLo, B.notSynchronized⟩
  have S : StL g n s σ s.heap [] := ⟨hWd, va_S.rf⟩
  have hx := C.1
  have hb := C.2.1
  have hl := lv_entry ([.ref (ga g (n))]) (n := 1) (Nat.le_of_ble_eq_true rfl)
  rw [lg_entry_eq]
  generalize (lg_sl ([.ref (ga g (n))]) ++ List.replicate (1 - (lg_sl ([.ref (ga g (n))])).length) Slot.unset).toArray = ls at hl ⊢
  have hl : lv_has ls 1 [(0, .ref (ga g (n)))] := hl
  generalize hH : s.heap = H at S ⊢
  generalize hlc : ([] : List Loc) = locs at S ⊢
  refine lv_aload_n hx hb dX3_init_0 rfl (lv_at hl 0 rfl) ?_
  refine a_obj C ol_RX3 in_obj cd_obj hl.1 dX3_init_1 (Nat.le_of_ble_eq_true rfl) (Nat.le_of_ble_eq_true rfl) ?_
  refine lv_aload_n hx hb dX3_init_4 rfl (lv_at hl 0 rfl) ?_
  refine lv_bipush (v := (8 : Int32)) hx hb dX3_init_5 (by decide) ?_
  refine a_newI C S (by omega) hz ac_int (len := 8) (by decide) hk1 (by decide) (by decide) (Nat.le_of_ble_eq_true rfl) (Nat.le_of_ble_eq_true rfl) dX3_init_7 (fun H S hz => ?_)
  refine a_putF C S KX3 (⟨hk0, by omega, by omega⟩ : Ok (n + 1) (n) 3) 0 (by decide) rfl rfl hnm (by omega) (fun _ => rfl) (fun _ => rfl) rfl fl_RX3_11 dX3_init_9 (fun H locs S => ?_)
  have hz := hz.uR (o := n) (k := 0) (v := n + 1) (by omega)
  refine lv_aload_n hx hb dX3_init_12 rfl (lv_at hl 0 rfl) ?_
  refine lv_bipush (v := (8 : Int32)) hx hb dX3_init_13 (by decide) ?_
  refine a_newI C S (by omega) hz ac_int (len := 8) (by decide) hk2 (by decide) (by decide) (Nat.le_of_ble_eq_true rfl) (Nat.le_of_ble_eq_true rfl) dX3_init_15 (fun H S hz => ?_)
  refine a_putF C S KX3 (⟨hk0, by omega, by omega⟩ : Ok (n + 1 + 1) (n) 3) 1 (by decide) rfl rfl hnm (by omega) (fun _ => rfl) (fun _ => rfl) rfl fl_RX3_15 dX3_init_17 (fun H locs S => ?_)
  have hz := hz.uR (o := n) (k := 1) (v := n + 1 + 1) (by omega)
  exact v_vret C S hr ⟨rfl, rfl⟩ dX3_init_20
def F_X8 (n : Nat) (σ : Sg) : Sg := uR (alk 1 (σ)) n 0 (n + 1)
theorem zr_X8 {n : Nat} {σ : Sg} (hz : Zr n σ) : Zr (n + 1) (F_X8 n σ) := (Zr.uR (Zr.alk hz) (by omega))
set_option maxHeartbeats 4000000 in
set_option maxRecDepth 100000 in
theorem ci_X8 {l : Launch} {g : GL} {n : Nat} {σ : Sg} (hz : Zr n σ) (h0 : 0 < n) (hn : n + 1 ≤ 201) (hk0 : kd (n) = 8) (hk1 : kd (n + 1) = 10018) : Ct l g 1 yX8_init cX8_init 1 none n (n + 1) 1 18 [.ref (ga g n)] σ (fun v σ' => v = none ∧ σ' = F_X8 n σ) := by
  refine Met.ofW (cc := cX8_init) (maxL := 1) (ret := none) (by decide) rfl ?_
  intro p e s m args below meth c s₁ B hml hv
  obtain ⟨rfl, hE, hLo, hWd⟩ := hv
  have hr : meth.sig.returnType = none := B.returns
  have hnm : meth.name = "<init>" := (name_of_methodNamed B.named B.method).1
  have C : Cx l g p s m meth c cX8_init 1 RX8 := ⟨B.exec, B.bytes, hml, findClass_of_methodNamed B.named, hE, hLo, B.notSynchronized⟩
  have S : StL g n s σ s.heap [] := ⟨hWd, va_S.rf⟩
  have hx := C.1
  have hb := C.2.1
  have hl := lv_entry ([.ref (ga g (n))]) (n := 1) (Nat.le_of_ble_eq_true rfl)
  rw [lg_entry_eq]
  generalize (lg_sl ([.ref (ga g (n))]) ++ List.replicate (1 - (lg_sl ([.ref (ga g (n))])).length) Slot.unset).toArray = ls at hl ⊢
  have hl : lv_has ls 1 [(0, .ref (ga g (n)))] := hl
  generalize hH : s.heap = H at S ⊢
  generalize hlc : ([] : List Loc) = locs at S ⊢
  refine lv_aload_n hx hb dX8_init_0 rfl (lv_at hl 0 rfl) ?_
  refine a_obj C ol_RX8 in_obj cd_obj hl.1 dX8_init_1 (Nat.le_of_ble_eq_true rfl) (Nat.le_of_ble_eq_true rfl) ?_
  refine lv_aload_n hx hb dX8_init_4 rfl (lv_at hl 0 rfl) ?_
  refine lv_bipush (v := (18 : Int32)) hx hb dX8_init_5 (by decide) ?_
  refine a_newI C S (by omega) hz ac_int (len := 18) (by decide) hk1 (by decide) (by decide) (Nat.le_of_ble_eq_true rfl) (Nat.le_of_ble_eq_true rfl) dX8_init_7 (fun H S hz => ?_)
  refine a_putF C S KX8 (⟨hk0, by omega, by omega⟩ : Ok (n + 1) (n) 8) 0 (by decide) rfl rfl hnm (by omega) (fun _ => rfl) (fun _ => rfl) rfl fl_RX8_9 dX8_init_9 (fun H locs S => ?_)
  have hz := hz.uR (o := n) (k := 0) (v := n + 1) (by omega)
  exact v_vret C S hr ⟨rfl, rfl⟩ dX8_init_12
def F_X6 (n : Nat) (σ : Sg) : Sg := uR (alk 1 (uR (alk 1 (uR (alk 1 (σ)) n 0 (n + 1))) n 1 (n + 1 + 1))) n 2 (n + 1 + 1 + 1)
theorem zr_X6 {n : Nat} {σ : Sg} (hz : Zr n σ) : Zr (n + 1 + 1 + 1) (F_X6 n σ) := (Zr.uR (Zr.alk (Zr.uR (Zr.alk (Zr.uR (Zr.alk hz) (by omega))) (by omega))) (by omega))
set_option maxHeartbeats 4000000 in
set_option maxRecDepth 100000 in
theorem ci_X6 {l : Launch} {g : GL} {n : Nat} {σ : Sg} (hz : Zr n σ) (h0 : 0 < n) (hn : n + 1 + 1 + 1 ≤ 201) (hk0 : kd (n) = 6) (hk1 : kd (n + 1) = 10004) (hk2 : kd (n + 1 + 1) = 10006) (hk3 : kd (n + 1 + 1 + 1) = 10006) : Ct l g 1 yX6_init cX6_init 1 none n (n + 1 + 1 + 1) 3 16 [.ref (ga g n)] σ (fun v σ' => v = none ∧ σ' = F_X6 n σ) := by
  refine Met.ofW (cc := cX6_init) (maxL := 1) (ret := none) (by decide) rfl ?_
  intro p e s m args below meth c s₁ B hml hv
  obtain ⟨rfl, hE, hLo, hWd⟩ := hv
  have hr : meth.sig.returnType = none := B.returns
  have hnm : meth.name = "<init>" := (name_of_methodNamed B.named B.method).1
  have C : Cx l g p s m meth c cX6_init 1 RX6 := ⟨B.exec, B.bytes, hml, findClass_of_methodNamed B.named, hE, hLo, B.notSynchronized⟩
  have S : StL g n s σ s.heap [] := ⟨hWd, va_S.rf⟩
  have hx := C.1
  have hb := C.2.1
  have hl := lv_entry ([.ref (ga g (n))]) (n := 1) (Nat.le_of_ble_eq_true rfl)
  rw [lg_entry_eq]
  generalize (lg_sl ([.ref (ga g (n))]) ++ List.replicate (1 - (lg_sl ([.ref (ga g (n))])).length) Slot.unset).toArray = ls at hl ⊢
  have hl : lv_has ls 1 [(0, .ref (ga g (n)))] := hl
  generalize hH : s.heap = H at S ⊢
  generalize hlc : ([] : List Loc) = locs at S ⊢
  refine lv_aload_n hx hb dX6_init_0 rfl (lv_at hl 0 rfl) ?_
  refine a_obj C ol_RX6 in_obj cd_obj hl.1 dX6_init_1 (Nat.le_of_ble_eq_true rfl) (Nat.le_of_ble_eq_true rfl) ?_
  refine lv_aload_n hx hb dX6_init_4 rfl (lv_at hl 0 rfl) ?_
  refine lv_iconst (v := (4 : Int32)) hx hb dX6_init_5 (by decide) ?_
  refine a_newI C S (by omega) hz ac_int (len := 4) (by decide) hk1 (by decide) (by decide) (Nat.le_of_ble_eq_true rfl) (Nat.le_of_ble_eq_true rfl) dX6_init_6 (fun H S hz => ?_)
  refine a_putF C S KX6 (⟨hk0, by omega, by omega⟩ : Ok (n + 1) (n) 6) 0 (by decide) rfl rfl hnm (by omega) (fun _ => rfl) (fun _ => rfl) rfl fl_RX6_9 dX6_init_8 (fun H locs S => ?_)
  have hz := hz.uR (o := n) (k := 0) (v := n + 1) (by omega)
  refine lv_aload_n hx hb dX6_init_11 rfl (lv_at hl 0 rfl) ?_
  refine lv_bipush (v := (6 : Int32)) hx hb dX6_init_12 (by decide) ?_
  refine a_newI C S (by omega) hz ac_int (len := 6) (by decide) hk2 (by decide) (by decide) (Nat.le_of_ble_eq_true rfl) (Nat.le_of_ble_eq_true rfl) dX6_init_14 (fun H S hz => ?_)
  refine a_putF C S KX6 (⟨hk0, by omega, by omega⟩ : Ok (n + 1 + 1) (n) 6) 1 (by decide) rfl rfl hnm (by omega) (fun _ => rfl) (fun _ => rfl) rfl fl_RX6_15 dX6_init_16 (fun H locs S => ?_)
  have hz := hz.uR (o := n) (k := 1) (v := n + 1 + 1) (by omega)
  refine lv_aload_n hx hb dX6_init_19 rfl (lv_at hl 0 rfl) ?_
  refine lv_bipush (v := (6 : Int32)) hx hb dX6_init_20 (by decide) ?_
  refine a_newI C S (by omega) hz ac_int (len := 6) (by decide) hk3 (by decide) (by decide) (Nat.le_of_ble_eq_true rfl) (Nat.le_of_ble_eq_true rfl) dX6_init_22 (fun H S hz => ?_)
  refine a_putF C S KX6 (⟨hk0, by omega, by omega⟩ : Ok (n + 1 + 1 + 1) (n) 6) 2 (by decide) rfl rfl hnm (by omega) (fun _ => rfl) (fun _ => rfl) rfl fl_RX6_18 dX6_init_24 (fun H locs S => ?_)
  have hz := hz.uR (o := n) (k := 2) (v := n + 1 + 1 + 1) (by omega)
  exact v_vret C S hr ⟨rfl, rfl⟩ dX6_init_27
def F_X1 (n : Nat) (σ : Sg) : Sg := uR (alk 1 (σ)) n 0 (n + 1)
theorem zr_X1 {n : Nat} {σ : Sg} (hz : Zr n σ) : Zr (n + 1) (F_X1 n σ) := (Zr.uR (Zr.alk hz) (by omega))
set_option maxHeartbeats 4000000 in
set_option maxRecDepth 100000 in
theorem ci_X1 {l : Launch} {g : GL} {n : Nat} {σ : Sg} (hz : Zr n σ) (h0 : 0 < n) (hn : n + 1 ≤ 201) (hk0 : kd (n) = 1) (hk1 : kd (n + 1) = 20040) : Ct l g 1 yX1_init cX1_init 1 none n (n + 1) 1 40 [.ref (ga g n)] σ (fun v σ' => v = none ∧ σ' = F_X1 n σ) := by
  refine Met.ofW (cc := cX1_init) (maxL := 1) (ret := none) (by decide) rfl ?_
  intro p e s m args below meth c s₁ B hml hv
  obtain ⟨rfl, hE, hLo, hWd⟩ := hv
  have hr : meth.sig.returnType = none := B.returns
  have hnm : meth.name = "<init>" := (name_of_methodNamed B.named B.method).1
  have C : Cx l g p s m meth c cX1_init 1 RX1 := ⟨B.exec, B.bytes, hml, findClass_of_methodNamed B.named, hE, hLo, B.notSynchronized⟩
  have S : StL g n s σ s.heap [] := ⟨hWd, va_S.rf⟩
  have hx := C.1
  have hb := C.2.1
  have hl := lv_entry ([.ref (ga g (n))]) (n := 1) (Nat.le_of_ble_eq_true rfl)
  rw [lg_entry_eq]
  generalize (lg_sl ([.ref (ga g (n))]) ++ List.replicate (1 - (lg_sl ([.ref (ga g (n))])).length) Slot.unset).toArray = ls at hl ⊢
  have hl : lv_has ls 1 [(0, .ref (ga g (n)))] := hl
  generalize hH : s.heap = H at S ⊢
  generalize hlc : ([] : List Loc) = locs at S ⊢
  refine lv_aload_n hx hb dX1_init_0 rfl (lv_at hl 0 rfl) ?_
  refine a_obj C ol_RX1 in_obj cd_obj hl.1 dX1_init_1 (Nat.le_of_ble_eq_true rfl) (Nat.le_of_ble_eq_true rfl) ?_
  refine lv_aload_n hx hb dX1_init_4 rfl (lv_at hl 0 rfl) ?_
  refine lv_bipush (v := (40 : Int32)) hx hb dX1_init_5 (by decide) ?_
  refine a_newB C S (by omega) hz ac_byte (len := 40) (by decide) hk1 (by decide) (by decide) (Nat.le_of_ble_eq_true rfl) (Nat.le_of_ble_eq_true rfl) dX1_init_7 (fun H S hz => ?_)
  refine a_putF C S KX1 (⟨hk0, by omega, by omega⟩ : Ok (n + 1) (n) 1) 0 (by decide) rfl rfl hnm (by omega) (fun _ => rfl) (fun _ => rfl) rfl fl_RX1_9 dX1_init_9 (fun H locs S => ?_)
  have hz := hz.uR (o := n) (k := 0) (v := n + 1) (by omega)
  exact v_vret C S hr ⟨rfl, rfl⟩ dX1_init_12
def F_X10 (n : Nat) (σ : Sg) : Sg := uI (uR (alk 1 (σ)) n 0 (n + 1)) n 3 (-1 : Int32)
theorem zr_X10 {n : Nat} {σ : Sg} (hz : Zr n σ) : Zr (n + 1) (F_X10 n σ) := (Zr.uI (Zr.uR (Zr.alk hz) (by omega)) (by omega))
set_option maxHeartbeats 4000000 in
set_option maxRecDepth 100000 in
theorem ci_X10 {l : Launch} {g : GL} {n : Nat} {σ : Sg} (hz : Zr n σ) (h0 : 0 < n) (hn : n + 1 ≤ 201) (hk0 : kd (n) = 10) (hk1 : kd (n + 1) = 20800) : Ct l g 1 yX10_init cX10_init 1 none n (n + 1) 1 800 [.ref (ga g n)] σ (fun v σ' => v = none ∧ σ' = F_X10 n σ) := by
  refine Met.ofW (cc := cX10_init) (maxL := 1) (ret := none) (by decide) rfl ?_
  intro p e s m args below meth c s₁ B hml hv
  obtain ⟨rfl, hE, hLo, hWd⟩ := hv
  have hr : meth.sig.returnType = none := B.returns
  have hnm : meth.name = "<init>" := (name_of_methodNamed B.named B.method).1
  have C : Cx l g p s m meth c cX10_init 1 RX10 := ⟨B.exec, B.bytes, hml, findClass_of_methodNamed B.named, hE, hLo, B.notSynchronized⟩
  have S : StL g n s σ s.heap [] := ⟨hWd, va_S.rf⟩
  have hx := C.1
  have hb := C.2.1
  have hl := lv_entry ([.ref (ga g (n))]) (n := 1) (Nat.le_of_ble_eq_true rfl)
  rw [lg_entry_eq]
  generalize (lg_sl ([.ref (ga g (n))]) ++ List.replicate (1 - (lg_sl ([.ref (ga g (n))])).length) Slot.unset).toArray = ls at hl ⊢
  have hl : lv_has ls 1 [(0, .ref (ga g (n)))] := hl
  generalize hH : s.heap = H at S ⊢
  generalize hlc : ([] : List Loc) = locs at S ⊢
  refine lv_aload_n hx hb dX10_init_0 rfl (lv_at hl 0 rfl) ?_
  refine a_obj C ol_RX10 in_obj cd_obj hl.1 dX10_init_1 (Nat.le_of_ble_eq_true rfl) (Nat.le_of_ble_eq_true rfl) ?_
  refine lv_aload_n hx hb dX10_init_4 rfl (lv_at hl 0 rfl) ?_
  refine lv_sipush (v := (800 : Int32)) hx hb dX10_init_5 (by decide) ?_
  refine a_newB C S (by omega) hz ac_byte (len := 800) (by decide) hk1 (by decide) (by decide) (Nat.le_of_ble_eq_true rfl) (Nat.le_of_ble_eq_true rfl) dX10_init_8 (fun H S hz => ?_)
  refine a_putF C S KX10 (⟨hk0, by omega, by omega⟩ : Ok (n + 1) (n) 10) 0 (by decide) rfl rfl hnm (by omega) (fun _ => rfl) (fun _ => rfl) rfl fl_RX10_9 dX10_init_10 (fun H locs S => ?_)
  have hz := hz.uR (o := n) (k := 0) (v := n + 1) (by omega)
  refine lv_aload_n hx hb dX10_init_13 rfl (lv_at hl 0 rfl) ?_
  refine lv_iconst (v := (-1 : Int32)) hx hb dX10_init_14 (by decide) ?_
  refine v_putI C S (⟨hk0, by omega, by omega⟩ : Ok (n + 1) (n) 10) KX10.1 KX10.2.1 _ KX10.2.2.1 KX10.2.2.2.1 KX10.2.2.2.2 3 (by decide) rfl rfl rfl rfl rfl fl_RX10_15 dX10_init_15 (fun H locs S => ?_)
  have hz := hz.uI (o := n) (k := 3) (v := (-1 : Int32)) (by omega)
  exact v_vret C S hr ⟨rfl, rfl⟩ dX10_init_18
def F_X5 (n : Nat) (σ : Sg) : Sg := uR (F_X10 (n + 1) (alk 1 (σ))) n 0 (n + 1)
theorem zr_X5 {n : Nat} {σ : Sg} (hz : Zr n σ) : Zr (n + 1 + 1) (F_X5 n σ) := (Zr.uR (zr_X10 (Zr.alk hz)) (by omega))
set_option maxHeartbeats 4000000 in
set_option maxRecDepth 100000 in
theorem ci_X5 {l : Launch} {g : GL} {n : Nat} {σ : Sg} (hz : Zr n σ) (h0 : 0 < n) (hn : n + 1 + 1 ≤ 201) (hk0 : kd (n) = 5) (hk1 : kd (n + 1) = 10) (hk2 : kd (n + 1 + 1) = 20800) : Ct l g 2 yX5_init cX5_init 1 none n (n + 1 + 1) 2 805 [.ref (ga g n)] σ (fun v σ' => v = none ∧ σ' = F_X5 n σ) := by
  refine Met.ofW (cc := cX5_init) (maxL := 1) (ret := none) (by decide) rfl ?_
  intro p e s m args below meth c s₁ B hml hv
  obtain ⟨rfl, hE, hLo, hWd⟩ := hv
  have hr : meth.sig.returnType = none := B.returns
  have hnm : meth.name = "<init>" := (name_of_methodNamed B.named B.method).1
  have C : Cx l g p s m meth c cX5_init 1 RX5 := ⟨B.exec, B.bytes, hml, findClass_of_methodNamed B.named, hE, hLo, B.notSynchronized⟩
  have S : StL g n s σ s.heap [] := ⟨hWd, va_S.rf⟩
  have hx := C.1
  have hb := C.2.1
  have hl := lv_entry ([.ref (ga g (n))]) (n := 1) (Nat.le_of_ble_eq_true rfl)
  rw [lg_entry_eq]
  generalize (lg_sl ([.ref (ga g (n))]) ++ List.replicate (1 - (lg_sl ([.ref (ga g (n))])).length) Slot.unset).toArray = ls at hl ⊢
  have hl : lv_has ls 1 [(0, .ref (ga g (n)))] := hl
  generalize hH : s.heap = H at S ⊢
  generalize hlc : ([] : List Loc) = locs at S ⊢
  refine lv_aload_n hx hb dX5_init_0 rfl (lv_at hl 0 rfl) ?_
  refine a_obj C ol_RX5 in_obj cd_obj hl.1 dX5_init_1 (Nat.le_of_ble_eq_true rfl) (Nat.le_of_ble_eq_true rfl) ?_
  refine lv_aload_n hx hb dX5_init_4 rfl (lv_at hl 0 rfl) ?_
  refine a_new C S (by omega) hz KX10 df_X10 hk1 ⟨cl_RX5_9, iz_RX10, ni_RX10⟩ (Nat.le_of_ble_eq_true rfl) (Nat.le_of_ble_eq_true rfl) dX5_init_5 (fun H S hz => ?_)
  refine lv_dup hx hb dX5_init_8 rfl ?_
  refine v_callIN C S (ci_X10 hz (by omega) (by omega) hk1 hk2) ⟨cd_X10_init, ni_RX10, mn_RX5_11, in_X10_init⟩ rfl ⟨by decide, by decide⟩ rfl ⟨by decide, by decide⟩ hl.1 rfl (Nat.le_of_ble_eq_true rfl) ⟨Nat.le_of_ble_eq_true rfl, Nat.le_of_ble_eq_true rfl⟩ dX5_init_9 (fun v σ' H locs hp S => ?_)
  obtain ⟨rfl, rfl⟩ := hp
  have hz := zr_X10 hz
  refine a_putF C S KX5 (⟨hk0, by omega, by omega⟩ : Ok (n + 1 + 1) (n) 5) 0 (by decide) rfl rfl hnm (by omega) (fun _ => rfl) (fun _ => rfl) rfl fl_RX5_12 dX5_init_12 (fun H locs S => ?_)
  have hz := hz.uR (o := n) (k := 0) (v := n + 1) (by omega)
  exact v_vret C S hr ⟨rfl, rfl⟩ dX5_init_15
def F_X2 (n : Nat) (σ : Sg) : Sg := uR (alk (1 + 16) (mnS n 16 (σ))) n 0 (n + 1)
theorem zr_X2 {n : Nat} {σ : Sg} (hz : Zr n σ) : Zr (n + (1 + 16)) (F_X2 n σ) := (Zr.uR (zr_mna hz) (by omega))
set_option maxHeartbeats 4000000 in
set_option maxRecDepth 100000 in
theorem ci_X2 {l : Launch} {g : GL} {n : Nat} {σ : Sg} (hz : Zr n σ) (h0 : 0 < n) (hn : n + (1 + 16) ≤ 201) (hk0 : kd (n) = 2) (hk1 : kd (n + 1) = 80016) (hkr : ∀ j, j < 16 → kd (n + 2 + j) = 10084) : Ct l g 1 yX2_init cX2_init 1 none n (n + (1 + 16)) 17 1360 [.ref (ga g n)] σ (fun v σ' => v = none ∧ σ' = F_X2 n σ) := by
  refine Met.ofW (cc := cX2_init) (maxL := 1) (ret := none) (by decide) rfl ?_
  intro p e s m args below meth c s₁ B hml hv
  obtain ⟨rfl, hE, hLo, hWd⟩ := hv
  have hr : meth.sig.returnType = none := B.returns
  have hnm : meth.name = "<init>" := (name_of_methodNamed B.named B.method).1
  have C : Cx l g p s m meth c cX2_init 1 RX2 := ⟨B.exec, B.bytes, hml, findClass_of_methodNamed B.named, hE, hLo, B.notSynchronized⟩
  have S : StL g n s σ s.heap [] := ⟨hWd, va_S.rf⟩
  have hx := C.1
  have hb := C.2.1
  have hl := lv_entry ([.ref (ga g (n))]) (n := 1) (Nat.le_of_ble_eq_true rfl)
  rw [lg_entry_eq]
  generalize (lg_sl ([.ref (ga g (n))]) ++ List.replicate (1 - (lg_sl ([.ref (ga g (n))])).length) Slot.unset).toArray = ls at hl ⊢
  have hl : lv_has ls 1 [(0, .ref (ga g (n)))] := hl
  generalize hH : s.heap = H at S ⊢
  generalize hlc : ([] : List Loc) = locs at S ⊢
  refine lv_aload_n hx hb dX2_init_0 rfl (lv_at hl 0 rfl) ?_
  refine a_obj C ol_RX2 in_obj cd_obj hl.1 dX2_init_1 (Nat.le_of_ble_eq_true rfl) (Nat.le_of_ble_eq_true rfl) ?_
  refine lv_aload_n hx hb dX2_init_4 rfl (lv_at hl 0 rfl) ?_
  refine lv_bipush (v := (16 : Int32)) hx hb dX2_init_5 (by decide) ?_
  refine lv_bipush (v := (84 : Int32)) hx hb dX2_init_7 (by decide) ?_
  refine a_mna C S (N' := 16) (K' := 84) (by omega) hz ⟨cl_RX2_11, ao_int, ac_int⟩ (by decide) (by decide) (by decide) (by decide) (by decide) (by decide) hk1 hkr (Nat.le_of_ble_eq_true rfl) (Nat.le_of_ble_eq_true rfl) dX2_init_9 (fun H S => ?_)
  refine a_putF C S KX2 (⟨hk0, by omega, by omega⟩ : Ok (n + (1 + 16)) (n) 2) 0 (by decide) rfl rfl hnm (by omega) (fun _ => rfl) (fun _ => rfl) rfl fl_RX2_13 dX2_init_13 (fun H locs S => ?_)
  exact v_vret C S hr ⟨rfl, rfl⟩ dX2_init_16
