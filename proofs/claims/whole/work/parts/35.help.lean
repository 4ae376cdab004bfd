set_option maxRecDepth 100000 in
theorem ca_0 : Cond.castable "java/lang/IndexOutOfBoundsException" "java/lang/IndexOutOfBoundsException" ∈ BW := bw_in (List.mem_of_getElem? (i := 1002) (by rfl)) (by rfl)
set_option maxRecDepth 100000 in
theorem ca_1 : Cond.castable "java/lang/IllegalArgumentException" "java/lang/IllegalArgumentException" ∈ BW := bw_in (List.mem_of_getElem? (i := 883) (by rfl)) (by rfl)
set_option maxRecDepth 100000 in
theorem ca_2 : Cond.castable "java/lang/IllegalStateException" "java/lang/IllegalStateException" ∈ BW := bw_in (List.mem_of_getElem? (i := 1278) (by rfl)) (by rfl)
set_option maxRecDepth 100000 in
theorem cd_L_load : Cond.codeWith yL_load cL_load 3 (some .int) [(0, 8, 11, 13)] ∈ BW := bw_in (List.mem_of_getElem? (i := 713) (by rfl)) (by rfl)
set_option maxRecDepth 100000 in
theorem cl_RL_13 : Cond.classLink RL 13 "java/lang/IllegalArgumentException" ∈ BW := bw_in (List.mem_of_getElem? (i := 714) (by rfl)) (by rfl)
set_option maxRecDepth 100000 in
theorem ml_RL_7 : Cond.methodLink RL 7 yX11_load ∈ BW := bw_in (List.mem_of_getElem? (i := 715) (by rfl)) (by rfl)
set_option maxRecDepth 100000 in
theorem in_X11_load : Cond.instanceMethod yX11_load ∈ BW := bw_in (List.mem_of_getElem? (i := 716) (by rfl)) (by rfl)
set_option maxRecDepth 100000 in
theorem sl_X11_load : Cond.selects RX11 yX11_load yX11_load ∈ BW := bw_in (List.mem_of_getElem? (i := 717) (by rfl)) (by rfl)
set_option maxRecDepth 100000 in
theorem cd_L_chargeCount : Cond.codeWith yL_chargeCount cL_chargeCount 4 (some .int) [(0, 9, 12, 19)] ∈ BW := bw_in (List.mem_of_getElem? (i := 986) (by rfl)) (by rfl)
set_option maxRecDepth 100000 in
theorem cl_RL_19 : Cond.classLink RL 19 "java/lang/IndexOutOfBoundsException" ∈ BW := bw_in (List.mem_of_getElem? (i := 987) (by rfl)) (by rfl)
set_option maxRecDepth 100000 in
theorem cd_X11_chargeCount : Cond.code yX11_chargeCount cX11_chargeCount 2 (some .int) ∈ BW := bw_in (List.mem_of_getElem? (i := 991) (by rfl)) (by rfl)
set_option maxRecDepth 100000 in
theorem ml_RL_15 : Cond.methodLink RL 15 yX11_chargeCount ∈ BW := bw_in (List.mem_of_getElem? (i := 988) (by rfl)) (by rfl)
set_option maxRecDepth 100000 in
theorem in_X11_chargeCount : Cond.instanceMethod yX11_chargeCount ∈ BW := bw_in (List.mem_of_getElem? (i := 989) (by rfl)) (by rfl)
set_option maxRecDepth 100000 in
theorem sl_X11_chargeCount : Cond.selects RX11 yX11_chargeCount yX11_chargeCount ∈ BW := bw_in (List.mem_of_getElem? (i := 990) (by rfl)) (by rfl)
set_option maxRecDepth 100000 in
theorem cd_L_chargeSize : Cond.codeWith yL_chargeSize cL_chargeSize 5 (some .int) [(0, 10, 13, 19)] ∈ BW := bw_in (List.mem_of_getElem? (i := 1018) (by rfl)) (by rfl)
set_option maxRecDepth 100000 in
theorem cd_X11_chargeSize : Cond.code yX11_chargeSize cX11_chargeSize 4 (some .int) ∈ BW := bw_in (List.mem_of_getElem? (i := 1022) (by rfl)) (by rfl)
set_option maxRecDepth 100000 in
theorem ml_RL_21 : Cond.methodLink RL 21 yX11_chargeSize ∈ BW := bw_in (List.mem_of_getElem? (i := 1019) (by rfl)) (by rfl)
set_option maxRecDepth 100000 in
theorem in_X11_chargeSize : Cond.instanceMethod yX11_chargeSize ∈ BW := bw_in (List.mem_of_getElem? (i := 1020) (by rfl)) (by rfl)
set_option maxRecDepth 100000 in
theorem sl_X11_chargeSize : Cond.selects RX11 yX11_chargeSize yX11_chargeSize ∈ BW := bw_in (List.mem_of_getElem? (i := 1021) (by rfl)) (by rfl)
set_option maxRecDepth 100000 in
theorem cd_L_delay : Cond.codeWith yL_delay cL_delay 5 (some .int) [(0, 10, 13, 19)] ∈ BW := bw_in (List.mem_of_getElem? (i := 1030) (by rfl)) (by rfl)
set_option maxRecDepth 100000 in
theorem cd_X11_delay : Cond.code yX11_delay cX11_delay 4 (some .int) ∈ BW := bw_in (List.mem_of_getElem? (i := 1034) (by rfl)) (by rfl)
set_option maxRecDepth 100000 in
theorem ml_RL_25 : Cond.methodLink RL 25 yX11_delay ∈ BW := bw_in (List.mem_of_getElem? (i := 1031) (by rfl)) (by rfl)
set_option maxRecDepth 100000 in
theorem in_X11_delay : Cond.instanceMethod yX11_delay ∈ BW := bw_in (List.mem_of_getElem? (i := 1032) (by rfl)) (by rfl)
set_option maxRecDepth 100000 in
theorem sl_X11_delay : Cond.selects RX11 yX11_delay yX11_delay ∈ BW := bw_in (List.mem_of_getElem? (i := 1033) (by rfl)) (by rfl)
set_option maxRecDepth 100000 in
theorem cd_L_totalSize : Cond.codeWith yL_totalSize cL_totalSize 4 (some .int) [(0, 9, 12, 19)] ∈ BW := bw_in (List.mem_of_getElem? (i := 1037) (by rfl)) (by rfl)
set_option maxRecDepth 100000 in
theorem cd_X11_totalSize : Cond.code yX11_totalSize cX11_totalSize 2 (some .int) ∈ BW := bw_in (List.mem_of_getElem? (i := 1041) (by rfl)) (by rfl)
set_option maxRecDepth 100000 in
theorem ml_RL_28 : Cond.methodLink RL 28 yX11_totalSize ∈ BW := bw_in (List.mem_of_getElem? (i := 1038) (by rfl)) (by rfl)
set_option maxRecDepth 100000 in
theorem in_X11_totalSize : Cond.instanceMethod yX11_totalSize ∈ BW := bw_in (List.mem_of_getElem? (i := 1039) (by rfl)) (by rfl)
set_option maxRecDepth 100000 in
theorem sl_X11_totalSize : Cond.selects RX11 yX11_totalSize yX11_totalSize ∈ BW := bw_in (List.mem_of_getElem? (i := 1040) (by rfl)) (by rfl)
set_option maxRecDepth 100000 in
theorem cd_L_delaySpan : Cond.codeWith yL_delaySpan cL_delaySpan 4 (some .int) [(0, 9, 12, 19)] ∈ BW := bw_in (List.mem_of_getElem? (i := 1048) (by rfl)) (by rfl)
set_option maxRecDepth 100000 in
theorem cd_X11_delaySpan : Cond.code yX11_delaySpan cX11_delaySpan 2 (some .int) ∈ BW := bw_in (List.mem_of_getElem? (i := 1052) (by rfl)) (by rfl)
set_option maxRecDepth 100000 in
theorem ml_RL_31 : Cond.methodLink RL 31 yX11_delaySpan ∈ BW := bw_in (List.mem_of_getElem? (i := 1049) (by rfl)) (by rfl)
set_option maxRecDepth 100000 in
theorem in_X11_delaySpan : Cond.instanceMethod yX11_delaySpan ∈ BW := bw_in (List.mem_of_getElem? (i := 1050) (by rfl)) (by rfl)
set_option maxRecDepth 100000 in
theorem sl_X11_delaySpan : Cond.selects RX11 yX11_delaySpan yX11_delaySpan ∈ BW := bw_in (List.mem_of_getElem? (i := 1051) (by rfl)) (by rfl)
set_option maxRecDepth 100000 in
theorem cd_L_windowSize : Cond.codeWith yL_windowSize cL_windowSize 4 (some .int) [(0, 9, 12, 19)] ∈ BW := bw_in (List.mem_of_getElem? (i := 1061) (by rfl)) (by rfl)
set_option maxRecDepth 100000 in
theorem cd_X11_windowSize : Cond.code yX11_windowSize cX11_windowSize 2 (some .int) ∈ BW := bw_in (List.mem_of_getElem? (i := 1065) (by rfl)) (by rfl)
set_option maxRecDepth 100000 in
theorem ml_RL_34 : Cond.methodLink RL 34 yX11_windowSize ∈ BW := bw_in (List.mem_of_getElem? (i := 1062) (by rfl)) (by rfl)
set_option maxRecDepth 100000 in
theorem in_X11_windowSize : Cond.instanceMethod yX11_windowSize ∈ BW := bw_in (List.mem_of_getElem? (i := 1063) (by rfl)) (by rfl)
set_option maxRecDepth 100000 in
theorem sl_X11_windowSize : Cond.selects RX11 yX11_windowSize yX11_windowSize ∈ BW := bw_in (List.mem_of_getElem? (i := 1064) (by rfl)) (by rfl)
set_option maxRecDepth 100000 in
theorem cd_L_windowStart : Cond.codeWith yL_windowStart cL_windowStart 4 (some .int) [(0, 9, 12, 19)] ∈ BW := bw_in (List.mem_of_getElem? (i := 1068) (by rfl)) (by rfl)
set_option maxRecDepth 100000 in
theorem cd_X11_windowStart : Cond.code yX11_windowStart cX11_windowStart 2 (some .int) ∈ BW := bw_in (List.mem_of_getElem? (i := 1072) (by rfl)) (by rfl)
set_option maxRecDepth 100000 in
theorem ml_RL_37 : Cond.methodLink RL 37 yX11_windowStart ∈ BW := bw_in (List.mem_of_getElem? (i := 1069) (by rfl)) (by rfl)
set_option maxRecDepth 100000 in
theorem in_X11_windowStart : Cond.instanceMethod yX11_windowStart ∈ BW := bw_in (List.mem_of_getElem? (i := 1070) (by rfl)) (by rfl)
set_option maxRecDepth 100000 in
theorem sl_X11_windowStart : Cond.selects RX11 yX11_windowStart yX11_windowStart ∈ BW := bw_in (List.mem_of_getElem? (i := 1071) (by rfl)) (by rfl)
set_option maxRecDepth 100000 in
theorem cd_L_vibration : Cond.codeWith yL_vibration cL_vibration 5 (some .int) [(0, 10, 13, 19)] ∈ BW := bw_in (List.mem_of_getElem? (i := 1075) (by rfl)) (by rfl)
set_option maxRecDepth 100000 in
theorem cd_X11_vibration : Cond.code yX11_vibration cX11_vibration 4 (some .int) ∈ BW := bw_in (List.mem_of_getElem? (i := 1079) (by rfl)) (by rfl)
set_option maxRecDepth 100000 in
theorem ml_RL_40 : Cond.methodLink RL 40 yX11_vibration ∈ BW := bw_in (List.mem_of_getElem? (i := 1076) (by rfl)) (by rfl)
set_option maxRecDepth 100000 in
theorem in_X11_vibration : Cond.instanceMethod yX11_vibration ∈ BW := bw_in (List.mem_of_getElem? (i := 1077) (by rfl)) (by rfl)
set_option maxRecDepth 100000 in
theorem sl_X11_vibration : Cond.selects RX11 yX11_vibration yX11_vibration ∈ BW := bw_in (List.mem_of_getElem? (i := 1078) (by rfl)) (by rfl)
set_option maxRecDepth 100000 in
theorem cd_L_mostShaken : Cond.codeWith yL_mostShaken cL_mostShaken 4 (some .int) [(0, 9, 12, 19)] ∈ BW := bw_in (List.mem_of_getElem? (i := 1088) (by rfl)) (by rfl)
set_option maxRecDepth 100000 in
theorem cd_X11_mostShaken : Cond.code yX11_mostShaken cX11_mostShaken 7 (some .int) ∈ BW := bw_in (List.mem_of_getElem? (i := 1092) (by rfl)) (by rfl)
set_option maxRecDepth 100000 in
theorem ml_RL_43 : Cond.methodLink RL 43 yX11_mostShaken ∈ BW := bw_in (List.mem_of_getElem? (i := 1089) (by rfl)) (by rfl)
set_option maxRecDepth 100000 in
theorem in_X11_mostShaken : Cond.instanceMethod yX11_mostShaken ∈ BW := bw_in (List.mem_of_getElem? (i := 1090) (by rfl)) (by rfl)
set_option maxRecDepth 100000 in
theorem sl_X11_mostShaken : Cond.selects RX11 yX11_mostShaken yX11_mostShaken ∈ BW := bw_in (List.mem_of_getElem? (i := 1091) (by rfl)) (by rfl)
set_option maxRecDepth 100000 in
theorem cd_L_tooStrongAt : Cond.codeWith yL_tooStrongAt cL_tooStrongAt 4 (some .int) [(0, 9, 12, 19)] ∈ BW := bw_in (List.mem_of_getElem? (i := 1095) (by rfl)) (by rfl)
set_option maxRecDepth 100000 in
theorem cd_X11_tooStrongAt : Cond.code yX11_tooStrongAt cX11_tooStrongAt 2 (some .int) ∈ BW := bw_in (List.mem_of_getElem? (i := 1099) (by rfl)) (by rfl)
set_option maxRecDepth 100000 in
theorem ml_RL_46 : Cond.methodLink RL 46 yX11_tooStrongAt ∈ BW := bw_in (List.mem_of_getElem? (i := 1096) (by rfl)) (by rfl)
set_option maxRecDepth 100000 in
theorem in_X11_tooStrongAt : Cond.instanceMethod yX11_tooStrongAt ∈ BW := bw_in (List.mem_of_getElem? (i := 1097) (by rfl)) (by rfl)
set_option maxRecDepth 100000 in
theorem sl_X11_tooStrongAt : Cond.selects RX11 yX11_tooStrongAt yX11_tooStrongAt ∈ BW := bw_in (List.mem_of_getElem? (i := 1098) (by rfl)) (by rfl)
set_option maxRecDepth 100000 in
theorem cd_L_neededGap : Cond.codeWith yL_neededGap cL_neededGap 5 (some .int) [(0, 10, 13, 19)] ∈ BW := bw_in (List.mem_of_getElem? (i := 1102) (by rfl)) (by rfl)
set_option maxRecDepth 100000 in
theorem cd_X11_neededGap : Cond.code yX11_neededGap cX11_neededGap 6 (some .int) ∈ BW := bw_in (List.mem_of_getElem? (i := 1106) (by rfl)) (by rfl)
set_option maxRecDepth 100000 in
theorem ml_RL_49 : Cond.methodLink RL 49 yX11_neededGap ∈ BW := bw_in (List.mem_of_getElem? (i := 1103) (by rfl)) (by rfl)
set_option maxRecDepth 100000 in
theorem in_X11_neededGap : Cond.instanceMethod yX11_neededGap ∈ BW := bw_in (List.mem_of_getElem? (i := 1104) (by rfl)) (by rfl)
set_option maxRecDepth 100000 in
theorem sl_X11_neededGap : Cond.selects RX11 yX11_neededGap yX11_neededGap ∈ BW := bw_in (List.mem_of_getElem? (i := 1105) (by rfl)) (by rfl)
set_option maxRecDepth 100000 in
theorem cd_L_vibrationIfGap : Cond.codeWith yL_vibrationIfGap cL_vibrationIfGap 6 (some .int) [(0, 12, 15, 19), (0, 12, 19, 13)] ∈ BW := bw_in (List.mem_of_getElem? (i := 1113) (by rfl)) (by rfl)
set_option maxRecDepth 100000 in
theorem cd_X11_vibrationIfGap : Cond.code yX11_vibrationIfGap cX11_vibrationIfGap 5 (some .int) ∈ BW := bw_in (List.mem_of_getElem? (i := 1117) (by rfl)) (by rfl)
set_option maxRecDepth 100000 in
theorem ml_RL_52 : Cond.methodLink RL 52 yX11_vibrationIfGap ∈ BW := bw_in (List.mem_of_getElem? (i := 1114) (by rfl)) (by rfl)
set_option maxRecDepth 100000 in
theorem in_X11_vibrationIfGap : Cond.instanceMethod yX11_vibrationIfGap ∈ BW := bw_in (List.mem_of_getElem? (i := 1115) (by rfl)) (by rfl)
set_option maxRecDepth 100000 in
theorem sl_X11_vibrationIfGap : Cond.selects RX11 yX11_vibrationIfGap yX11_vibrationIfGap ∈ BW := bw_in (List.mem_of_getElem? (i := 1116) (by rfl)) (by rfl)
set_option maxRecDepth 100000 in
theorem cd_L_closes : Cond.codeWith yL_closes cL_closes 5 (some .int) [(0, 17, 20, 19)] ∈ BW := bw_in (List.mem_of_getElem? (i := 1125) (by rfl)) (by rfl)
set_option maxRecDepth 100000 in
theorem cd_X11_closes : Cond.code yX11_closes cX11_closes 4 (some .boolean) ∈ BW := bw_in (List.mem_of_getElem? (i := 1129) (by rfl)) (by rfl)
set_option maxRecDepth 100000 in
theorem ml_RL_56 : Cond.methodLink RL 56 yX11_closes ∈ BW := bw_in (List.mem_of_getElem? (i := 1126) (by rfl)) (by rfl)
set_option maxRecDepth 100000 in
theorem in_X11_closes : Cond.instanceMethod yX11_closes ∈ BW := bw_in (List.mem_of_getElem? (i := 1127) (by rfl)) (by rfl)
set_option maxRecDepth 100000 in
theorem sl_X11_closes : Cond.selects RX11 yX11_closes yX11_closes ∈ BW := bw_in (List.mem_of_getElem? (i := 1128) (by rfl)) (by rfl)
set_option maxRecDepth 100000 in
theorem cd_L_closedBy : Cond.codeWith yL_closedBy cL_closedBy 4 (some .int) [(0, 9, 12, 19)] ∈ BW := bw_in (List.mem_of_getElem? (i := 1138) (by rfl)) (by rfl)
set_option maxRecDepth 100000 in
theorem cd_X11_closedBy : Cond.code yX11_closedBy cX11_closedBy 2 (some .int) ∈ BW := bw_in (List.mem_of_getElem? (i := 1142) (by rfl)) (by rfl)
set_option maxRecDepth 100000 in
theorem ml_RL_60 : Cond.methodLink RL 60 yX11_closedBy ∈ BW := bw_in (List.mem_of_getElem? (i := 1139) (by rfl)) (by rfl)
set_option maxRecDepth 100000 in
theorem in_X11_closedBy : Cond.instanceMethod yX11_closedBy ∈ BW := bw_in (List.mem_of_getElem? (i := 1140) (by rfl)) (by rfl)
set_option maxRecDepth 100000 in
theorem sl_X11_closedBy : Cond.selects RX11 yX11_closedBy yX11_closedBy ∈ BW := bw_in (List.mem_of_getElem? (i := 1141) (by rfl)) (by rfl)
set_option maxRecDepth 100000 in
theorem cd_L_isQuiet : Cond.codeWith yL_isQuiet cL_isQuiet 5 (some .int) [(0, 17, 20, 19)] ∈ BW := bw_in (List.mem_of_getElem? (i := 1145) (by rfl)) (by rfl)
set_option maxRecDepth 100000 in
theorem cd_X11_isQuiet : Cond.code yX11_isQuiet cX11_isQuiet 3 (some .boolean) ∈ BW := bw_in (List.mem_of_getElem? (i := 1149) (by rfl)) (by rfl)
set_option maxRecDepth 100000 in
theorem ml_RL_63 : Cond.methodLink RL 63 yX11_isQuiet ∈ BW := bw_in (List.mem_of_getElem? (i := 1146) (by rfl)) (by rfl)
set_option maxRecDepth 100000 in
theorem in_X11_isQuiet : Cond.instanceMethod yX11_isQuiet ∈ BW := bw_in (List.mem_of_getElem? (i := 1147) (by rfl)) (by rfl)
set_option maxRecDepth 100000 in
theorem sl_X11_isQuiet : Cond.selects RX11 yX11_isQuiet yX11_isQuiet ∈ BW := bw_in (List.mem_of_getElem? (i := 1148) (by rfl)) (by rfl)
set_option maxRecDepth 100000 in
theorem cd_L_dustAt : Cond.codeWith yL_dustAt cL_dustAt 5 (some .int) [(0, 10, 13, 19), (0, 10, 17, 13)] ∈ BW := bw_in (List.mem_of_getElem? (i := 1156) (by rfl)) (by rfl)
set_option maxRecDepth 100000 in
theorem cd_X11_dustAt : Cond.code yX11_dustAt cX11_dustAt 4 (some .int) ∈ BW := bw_in (List.mem_of_getElem? (i := 1160) (by rfl)) (by rfl)
set_option maxRecDepth 100000 in
theorem ml_RL_66 : Cond.methodLink RL 66 yX11_dustAt ∈ BW := bw_in (List.mem_of_getElem? (i := 1157) (by rfl)) (by rfl)
set_option maxRecDepth 100000 in
theorem in_X11_dustAt : Cond.instanceMethod yX11_dustAt ∈ BW := bw_in (List.mem_of_getElem? (i := 1158) (by rfl)) (by rfl)
set_option maxRecDepth 100000 in
theorem sl_X11_dustAt : Cond.selects RX11 yX11_dustAt yX11_dustAt ∈ BW := bw_in (List.mem_of_getElem? (i := 1159) (by rfl)) (by rfl)
set_option maxRecDepth 100000 in
theorem cd_L_neededRadius : Cond.codeWith yL_neededRadius cL_neededRadius 5 (some .int) [(0, 10, 13, 19)] ∈ BW := bw_in (List.mem_of_getElem? (i := 1163) (by rfl)) (by rfl)
set_option maxRecDepth 100000 in
theorem cd_X11_neededRadius : Cond.code yX11_neededRadius cX11_neededRadius 9 (some .int) ∈ BW := bw_in (List.mem_of_getElem? (i := 1167) (by rfl)) (by rfl)
set_option maxRecDepth 100000 in
theorem ml_RL_69 : Cond.methodLink RL 69 yX11_neededRadius ∈ BW := bw_in (List.mem_of_getElem? (i := 1164) (by rfl)) (by rfl)
set_option maxRecDepth 100000 in
theorem in_X11_neededRadius : Cond.instanceMethod yX11_neededRadius ∈ BW := bw_in (List.mem_of_getElem? (i := 1165) (by rfl)) (by rfl)
set_option maxRecDepth 100000 in
theorem sl_X11_neededRadius : Cond.selects RX11 yX11_neededRadius yX11_neededRadius ∈ BW := bw_in (List.mem_of_getElem? (i := 1166) (by rfl)) (by rfl)
set_option maxRecDepth 100000 in
theorem cd_L_quietMinutes : Cond.codeWith yL_quietMinutes cL_quietMinutes 4 (some .int) [(0, 9, 12, 19)] ∈ BW := bw_in (List.mem_of_getElem? (i := 1171) (by rfl)) (by rfl)
set_option maxRecDepth 100000 in
theorem cd_X11_quietMinutes : Cond.code yX11_quietMinutes cX11_quietMinutes 4 (some .int) ∈ BW := bw_in (List.mem_of_getElem? (i := 1175) (by rfl)) (by rfl)
set_option maxRecDepth 100000 in
theorem ml_RL_72 : Cond.methodLink RL 72 yX11_quietMinutes ∈ BW := bw_in (List.mem_of_getElem? (i := 1172) (by rfl)) (by rfl)
set_option maxRecDepth 100000 in
theorem in_X11_quietMinutes : Cond.instanceMethod yX11_quietMinutes ∈ BW := bw_in (List.mem_of_getElem? (i := 1173) (by rfl)) (by rfl)
set_option maxRecDepth 100000 in
theorem sl_X11_quietMinutes : Cond.selects RX11 yX11_quietMinutes yX11_quietMinutes ∈ BW := bw_in (List.mem_of_getElem? (i := 1174) (by rfl)) (by rfl)
set_option maxRecDepth 100000 in
theorem cd_L_dustHours : Cond.codeWith yL_dustHours cL_dustHours 4 (some .int) [(0, 9, 12, 19)] ∈ BW := bw_in (List.mem_of_getElem? (i := 1181) (by rfl)) (by rfl)
set_option maxRecDepth 100000 in
theorem cd_X11_dustHours : Cond.code yX11_dustHours cX11_dustHours 5 (some .int) ∈ BW := bw_in (List.mem_of_getElem? (i := 1185) (by rfl)) (by rfl)
set_option maxRecDepth 100000 in
theorem ml_RL_75 : Cond.methodLink RL 75 yX11_dustHours ∈ BW := bw_in (List.mem_of_getElem? (i := 1182) (by rfl)) (by rfl)
set_option maxRecDepth 100000 in
theorem in_X11_dustHours : Cond.instanceMethod yX11_dustHours ∈ BW := bw_in (List.mem_of_getElem? (i := 1183) (by rfl)) (by rfl)
set_option maxRecDepth 100000 in
theorem sl_X11_dustHours : Cond.selects RX11 yX11_dustHours yX11_dustHours ∈ BW := bw_in (List.mem_of_getElem? (i := 1184) (by rfl)) (by rfl)
set_option maxRecDepth 100000 in
theorem cd_L_timeOf : Cond.codeWith yL_timeOf cL_timeOf 4 (some .int) [(0, 9, 12, 19)] ∈ BW := bw_in (List.mem_of_getElem? (i := 1188) (by rfl)) (by rfl)
set_option maxRecDepth 100000 in
theorem cd_X11_timeOf : Cond.code yX11_timeOf cX11_timeOf 2 (some .int) ∈ BW := bw_in (List.mem_of_getElem? (i := 1192) (by rfl)) (by rfl)
set_option maxRecDepth 100000 in
theorem ml_RL_78 : Cond.methodLink RL 78 yX11_timeOf ∈ BW := bw_in (List.mem_of_getElem? (i := 1189) (by rfl)) (by rfl)
set_option maxRecDepth 100000 in
theorem in_X11_timeOf : Cond.instanceMethod yX11_timeOf ∈ BW := bw_in (List.mem_of_getElem? (i := 1190) (by rfl)) (by rfl)
set_option maxRecDepth 100000 in
theorem sl_X11_timeOf : Cond.selects RX11 yX11_timeOf yX11_timeOf ∈ BW := bw_in (List.mem_of_getElem? (i := 1191) (by rfl)) (by rfl)
set_option maxRecDepth 100000 in
theorem cd_L_isFired : Cond.codeWith yL_isFired cL_isFired 4 (some .int) [(0, 16, 19, 19)] ∈ BW := bw_in (List.mem_of_getElem? (i := 1195) (by rfl)) (by rfl)
set_option maxRecDepth 100000 in
theorem cd_X11_isFired : Cond.code yX11_isFired cX11_isFired 2 (some .boolean) ∈ BW := bw_in (List.mem_of_getElem? (i := 1199) (by rfl)) (by rfl)
set_option maxRecDepth 100000 in
theorem ml_RL_81 : Cond.methodLink RL 81 yX11_isFired ∈ BW := bw_in (List.mem_of_getElem? (i := 1196) (by rfl)) (by rfl)
set_option maxRecDepth 100000 in
theorem in_X11_isFired : Cond.instanceMethod yX11_isFired ∈ BW := bw_in (List.mem_of_getElem? (i := 1197) (by rfl)) (by rfl)
set_option maxRecDepth 100000 in
theorem sl_X11_isFired : Cond.selects RX11 yX11_isFired yX11_isFired ∈ BW := bw_in (List.mem_of_getElem? (i := 1198) (by rfl)) (by rfl)
set_option maxRecDepth 100000 in
theorem cd_L_reason : Cond.codeWith yL_reason cL_reason 5 (some .int) [(0, 10, 13, 19), (0, 10, 17, 13)] ∈ BW := bw_in (List.mem_of_getElem? (i := 1202) (by rfl)) (by rfl)
set_option maxRecDepth 100000 in
theorem cd_X11_reason : Cond.code yX11_reason cX11_reason 3 (some .int) ∈ BW := bw_in (List.mem_of_getElem? (i := 1206) (by rfl)) (by rfl)
set_option maxRecDepth 100000 in
theorem ml_RL_85 : Cond.methodLink RL 85 yX11_reason ∈ BW := bw_in (List.mem_of_getElem? (i := 1203) (by rfl)) (by rfl)
set_option maxRecDepth 100000 in
theorem in_X11_reason : Cond.instanceMethod yX11_reason ∈ BW := bw_in (List.mem_of_getElem? (i := 1204) (by rfl)) (by rfl)
set_option maxRecDepth 100000 in
theorem sl_X11_reason : Cond.selects RX11 yX11_reason yX11_reason ∈ BW := bw_in (List.mem_of_getElem? (i := 1205) (by rfl)) (by rfl)
set_option maxRecDepth 100000 in
theorem cd_L_earliest : Cond.codeWith yL_earliest cL_earliest 5 (some .int) [(0, 10, 13, 19), (0, 10, 17, 13)] ∈ BW := bw_in (List.mem_of_getElem? (i := 1222) (by rfl)) (by rfl)
set_option maxRecDepth 100000 in
theorem cd_X11_earliest : Cond.code yX11_earliest cX11_earliest 6 (some .int) ∈ BW := bw_in (List.mem_of_getElem? (i := 1226) (by rfl)) (by rfl)
set_option maxRecDepth 100000 in
theorem ml_RL_88 : Cond.methodLink RL 88 yX11_earliest ∈ BW := bw_in (List.mem_of_getElem? (i := 1223) (by rfl)) (by rfl)
set_option maxRecDepth 100000 in
theorem in_X11_earliest : Cond.instanceMethod yX11_earliest ∈ BW := bw_in (List.mem_of_getElem? (i := 1224) (by rfl)) (by rfl)
set_option maxRecDepth 100000 in
theorem sl_X11_earliest : Cond.selects RX11 yX11_earliest yX11_earliest ∈ BW := bw_in (List.mem_of_getElem? (i := 1225) (by rfl)) (by rfl)
set_option maxRecDepth 100000 in
theorem cd_L_latest : Cond.codeWith yL_latest cL_latest 5 (some .int) [(0, 10, 13, 19), (0, 10, 17, 13)] ∈ BW := bw_in (List.mem_of_getElem? (i := 1237) (by rfl)) (by rfl)
set_option maxRecDepth 100000 in
theorem cd_X11_latest : Cond.code yX11_latest cX11_latest 5 (some .int) ∈ BW := bw_in (List.mem_of_getElem? (i := 1241) (by rfl)) (by rfl)
set_option maxRecDepth 100000 in
theorem ml_RL_91 : Cond.methodLink RL 91 yX11_latest ∈ BW := bw_in (List.mem_of_getElem? (i := 1238) (by rfl)) (by rfl)
set_option maxRecDepth 100000 in
theorem in_X11_latest : Cond.instanceMethod yX11_latest ∈ BW := bw_in (List.mem_of_getElem? (i := 1239) (by rfl)) (by rfl)
set_option maxRecDepth 100000 in
theorem sl_X11_latest : Cond.selects RX11 yX11_latest yX11_latest ∈ BW := bw_in (List.mem_of_getElem? (i := 1240) (by rfl)) (by rfl)
set_option maxRecDepth 100000 in
theorem cd_L_reasonCount : Cond.codeWith yL_reasonCount cL_reasonCount 5 (some .int) [(0, 10, 13, 19), (0, 10, 17, 13)] ∈ BW := bw_in (List.mem_of_getElem? (i := 1244) (by rfl)) (by rfl)
set_option maxRecDepth 100000 in
theorem cd_X11_reasonCount : Cond.code yX11_reasonCount cX11_reasonCount 3 (some .int) ∈ BW := bw_in (List.mem_of_getElem? (i := 1248) (by rfl)) (by rfl)
set_option maxRecDepth 100000 in
theorem ml_RL_94 : Cond.methodLink RL 94 yX11_reasonCount ∈ BW := bw_in (List.mem_of_getElem? (i := 1245) (by rfl)) (by rfl)
set_option maxRecDepth 100000 in
theorem in_X11_reasonCount : Cond.instanceMethod yX11_reasonCount ∈ BW := bw_in (List.mem_of_getElem? (i := 1246) (by rfl)) (by rfl)
set_option maxRecDepth 100000 in
theorem sl_X11_reasonCount : Cond.selects RX11 yX11_reasonCount yX11_reasonCount ∈ BW := bw_in (List.mem_of_getElem? (i := 1247) (by rfl)) (by rfl)
set_option maxRecDepth 100000 in
theorem cd_L_longestAllowed : Cond.codeWith yL_longestAllowed cL_longestAllowed 4 (some .int) [(0, 9, 12, 19)] ∈ BW := bw_in (List.mem_of_getElem? (i := 1255) (by rfl)) (by rfl)
set_option maxRecDepth 100000 in
theorem cd_X11_longestAllowed : Cond.code yX11_longestAllowed cX11_longestAllowed 6 (some .int) ∈ BW := bw_in (List.mem_of_getElem? (i := 1259) (by rfl)) (by rfl)
set_option maxRecDepth 100000 in
theorem ml_RL_97 : Cond.methodLink RL 97 yX11_longestAllowed ∈ BW := bw_in (List.mem_of_getElem? (i := 1256) (by rfl)) (by rfl)
set_option maxRecDepth 100000 in
theorem in_X11_longestAllowed : Cond.instanceMethod yX11_longestAllowed ∈ BW := bw_in (List.mem_of_getElem? (i := 1257) (by rfl)) (by rfl)
set_option maxRecDepth 100000 in
theorem sl_X11_longestAllowed : Cond.selects RX11 yX11_longestAllowed yX11_longestAllowed ∈ BW := bw_in (List.mem_of_getElem? (i := 1258) (by rfl)) (by rfl)
set_option maxRecDepth 100000 in
theorem cd_L_allowedCount : Cond.codeWith yL_allowedCount cL_allowedCount 4 (some .int) [(0, 9, 12, 19)] ∈ BW := bw_in (List.mem_of_getElem? (i := 1263) (by rfl)) (by rfl)
set_option maxRecDepth 100000 in
theorem cd_X11_allowedCount : Cond.code yX11_allowedCount cX11_allowedCount 2 (some .int) ∈ BW := bw_in (List.mem_of_getElem? (i := 1267) (by rfl)) (by rfl)
set_option maxRecDepth 100000 in
theorem ml_RL_100 : Cond.methodLink RL 100 yX11_allowedCount ∈ BW := bw_in (List.mem_of_getElem? (i := 1264) (by rfl)) (by rfl)
set_option maxRecDepth 100000 in
theorem in_X11_allowedCount : Cond.instanceMethod yX11_allowedCount ∈ BW := bw_in (List.mem_of_getElem? (i := 1265) (by rfl)) (by rfl)
set_option maxRecDepth 100000 in
theorem sl_X11_allowedCount : Cond.selects RX11 yX11_allowedCount yX11_allowedCount ∈ BW := bw_in (List.mem_of_getElem? (i := 1266) (by rfl)) (by rfl)
set_option maxRecDepth 100000 in
theorem cd_L_schedule : Cond.codeWith yL_schedule cL_schedule 5 (some .int) [(0, 10, 13, 19), (0, 10, 17, 13), (0, 10, 21, 106)] ∈ BW := bw_in (List.mem_of_getElem? (i := 1270) (by rfl)) (by rfl)
set_option maxRecDepth 100000 in
theorem cl_RL_106 : Cond.classLink RL 106 "java/lang/IllegalStateException" ∈ BW := bw_in (List.mem_of_getElem? (i := 1271) (by rfl)) (by rfl)
set_option maxRecDepth 100000 in
theorem cd_X11_schedule : Cond.code yX11_schedule cX11_schedule 5 (some .int) ∈ BW := bw_in (List.mem_of_getElem? (i := 1275) (by rfl)) (by rfl)
set_option maxRecDepth 100000 in
theorem ml_RL_103 : Cond.methodLink RL 103 yX11_schedule ∈ BW := bw_in (List.mem_of_getElem? (i := 1272) (by rfl)) (by rfl)
set_option maxRecDepth 100000 in
theorem in_X11_schedule : Cond.instanceMethod yX11_schedule ∈ BW := bw_in (List.mem_of_getElem? (i := 1273) (by rfl)) (by rfl)
set_option maxRecDepth 100000 in
theorem sl_X11_schedule : Cond.selects RX11 yX11_schedule yX11_schedule ∈ BW := bw_in (List.mem_of_getElem? (i := 1274) (by rfl)) (by rfl)
set_option maxRecDepth 100000 in
theorem cd_L_cancel : Cond.codeWith yL_cancel cL_cancel 4 (some .int) [(0, 9, 12, 19), (0, 9, 15, 106)] ∈ BW := bw_in (List.mem_of_getElem? (i := 1303) (by rfl)) (by rfl)
set_option maxRecDepth 100000 in
theorem cd_X11_cancel : Cond.code yX11_cancel cX11_cancel 3 (some .int) ∈ BW := bw_in (List.mem_of_getElem? (i := 1307) (by rfl)) (by rfl)
set_option maxRecDepth 100000 in
theorem ml_RL_108 : Cond.methodLink RL 108 yX11_cancel ∈ BW := bw_in (List.mem_of_getElem? (i := 1304) (by rfl)) (by rfl)
set_option maxRecDepth 100000 in
theorem in_X11_cancel : Cond.instanceMethod yX11_cancel ∈ BW := bw_in (List.mem_of_getElem? (i := 1305) (by rfl)) (by rfl)
set_option maxRecDepth 100000 in
theorem sl_X11_cancel : Cond.selects RX11 yX11_cancel yX11_cancel ∈ BW := bw_in (List.mem_of_getElem? (i := 1306) (by rfl)) (by rfl)
set_option maxRecDepth 100000 in
theorem cd_L_fire : Cond.codeWith yL_fire cL_fire 4 (some .int) [(0, 9, 12, 19), (0, 9, 15, 106)] ∈ BW := bw_in (List.mem_of_getElem? (i := 1315) (by rfl)) (by rfl)
set_option maxRecDepth 100000 in
theorem cd_X11_fire : Cond.code yX11_fire cX11_fire 3 (some .int) ∈ BW := bw_in (List.mem_of_getElem? (i := 1319) (by rfl)) (by rfl)
set_option maxRecDepth 100000 in
theorem ml_RL_111 : Cond.methodLink RL 111 yX11_fire ∈ BW := bw_in (List.mem_of_getElem? (i := 1316) (by rfl)) (by rfl)
set_option maxRecDepth 100000 in
theorem in_X11_fire : Cond.instanceMethod yX11_fire ∈ BW := bw_in (List.mem_of_getElem? (i := 1317) (by rfl)) (by rfl)
set_option maxRecDepth 100000 in
theorem sl_X11_fire : Cond.selects RX11 yX11_fire yX11_fire ∈ BW := bw_in (List.mem_of_getElem? (i := 1318) (by rfl)) (by rfl)
set_option maxRecDepth 100000 in
theorem cd_L_retime : Cond.codeWith yL_retime cL_retime 5 (some .int) [(0, 10, 13, 19), (0, 10, 17, 13), (0, 10, 21, 106)] ∈ BW := bw_in (List.mem_of_getElem? (i := 1323) (by rfl)) (by rfl)
set_option maxRecDepth 100000 in
theorem cd_X11_retime : Cond.code yX11_retime cX11_retime 4 (some .int) ∈ BW := bw_in (List.mem_of_getElem? (i := 1327) (by rfl)) (by rfl)
set_option maxRecDepth 100000 in
theorem ml_RL_114 : Cond.methodLink RL 114 yX11_retime ∈ BW := bw_in (List.mem_of_getElem? (i := 1324) (by rfl)) (by rfl)
set_option maxRecDepth 100000 in
theorem in_X11_retime : Cond.instanceMethod yX11_retime ∈ BW := bw_in (List.mem_of_getElem? (i := 1325) (by rfl)) (by rfl)
set_option maxRecDepth 100000 in
theorem sl_X11_retime : Cond.selects RX11 yX11_retime yX11_retime ∈ BW := bw_in (List.mem_of_getElem? (i := 1326) (by rfl)) (by rfl)
set_option maxRecDepth 100000 in
theorem cd_L_closedMinutes : Cond.codeWith yL_closedMinutes cL_closedMinutes 4 (some .int) [(0, 9, 12, 19)] ∈ BW := bw_in (List.mem_of_getElem? (i := 1336) (by rfl)) (by rfl)
set_option maxRecDepth 100000 in
theorem cd_X11_closedMinutes : Cond.code yX11_closedMinutes cX11_closedMinutes 2 (some .int) ∈ BW := bw_in (List.mem_of_getElem? (i := 1340) (by rfl)) (by rfl)
set_option maxRecDepth 100000 in
theorem ml_RL_117 : Cond.methodLink RL 117 yX11_closedMinutes ∈ BW := bw_in (List.mem_of_getElem? (i := 1337) (by rfl)) (by rfl)
set_option maxRecDepth 100000 in
theorem in_X11_closedMinutes : Cond.instanceMethod yX11_closedMinutes ∈ BW := bw_in (List.mem_of_getElem? (i := 1338) (by rfl)) (by rfl)
set_option maxRecDepth 100000 in
theorem sl_X11_closedMinutes : Cond.selects RX11 yX11_closedMinutes yX11_closedMinutes ∈ BW := bw_in (List.mem_of_getElem? (i := 1339) (by rfl)) (by rfl)
set_option maxRecDepth 100000 in
theorem cd_L_isClosed : Cond.codeWith yL_isClosed cL_isClosed 5 (some .int) [(0, 17, 20, 19)] ∈ BW := bw_in (List.mem_of_getElem? (i := 1343) (by rfl)) (by rfl)
set_option maxRecDepth 100000 in
theorem cd_X11_isClosed : Cond.code yX11_isClosed cX11_isClosed 3 (some .boolean) ∈ BW := bw_in (List.mem_of_getElem? (i := 1347) (by rfl)) (by rfl)
set_option maxRecDepth 100000 in
theorem ml_RL_120 : Cond.methodLink RL 120 yX11_isClosed ∈ BW := bw_in (List.mem_of_getElem? (i := 1344) (by rfl)) (by rfl)
set_option maxRecDepth 100000 in
theorem in_X11_isClosed : Cond.instanceMethod yX11_isClosed ∈ BW := bw_in (List.mem_of_getElem? (i := 1345) (by rfl)) (by rfl)
set_option maxRecDepth 100000 in
theorem sl_X11_isClosed : Cond.selects RX11 yX11_isClosed yX11_isClosed ∈ BW := bw_in (List.mem_of_getElem? (i := 1346) (by rfl)) (by rfl)
set_option maxRecDepth 100000 in
theorem cd_L_closures : Cond.codeWith yL_closures cL_closures 4 (some .int) [(0, 9, 12, 19)] ∈ BW := bw_in (List.mem_of_getElem? (i := 1354) (by rfl)) (by rfl)
set_option maxRecDepth 100000 in
theorem cd_X11_closures : Cond.code yX11_closures cX11_closures 2 (some .int) ∈ BW := bw_in (List.mem_of_getElem? (i := 1358) (by rfl)) (by rfl)
set_option maxRecDepth 100000 in
theorem ml_RL_123 : Cond.methodLink RL 123 yX11_closures ∈ BW := bw_in (List.mem_of_getElem? (i := 1355) (by rfl)) (by rfl)
set_option maxRecDepth 100000 in
theorem in_X11_closures : Cond.instanceMethod yX11_closures ∈ BW := bw_in (List.mem_of_getElem? (i := 1356) (by rfl)) (by rfl)
set_option maxRecDepth 100000 in
theorem sl_X11_closures : Cond.selects RX11 yX11_closures yX11_closures ∈ BW := bw_in (List.mem_of_getElem? (i := 1357) (by rfl)) (by rfl)
set_option maxRecDepth 100000 in
theorem cd_L_closureStart : Cond.codeWith yL_closureStart cL_closureStart 5 (some .int) [(0, 10, 13, 19)] ∈ BW := bw_in (List.mem_of_getElem? (i := 1361) (by rfl)) (by rfl)
set_option maxRecDepth 100000 in
theorem cd_X11_closureStart : Cond.code yX11_closureStart cX11_closureStart 3 (some .int) ∈ BW := bw_in (List.mem_of_getElem? (i := 1365) (by rfl)) (by rfl)
set_option maxRecDepth 100000 in
theorem ml_RL_126 : Cond.methodLink RL 126 yX11_closureStart ∈ BW := bw_in (List.mem_of_getElem? (i := 1362) (by rfl)) (by rfl)
set_option maxRecDepth 100000 in
theorem in_X11_closureStart : Cond.instanceMethod yX11_closureStart ∈ BW := bw_in (List.mem_of_getElem? (i := 1363) (by rfl)) (by rfl)
set_option maxRecDepth 100000 in
theorem sl_X11_closureStart : Cond.selects RX11 yX11_closureStart yX11_closureStart ∈ BW := bw_in (List.mem_of_getElem? (i := 1364) (by rfl)) (by rfl)
set_option maxRecDepth 100000 in
theorem cd_L_closureLength : Cond.codeWith yL_closureLength cL_closureLength 5 (some .int) [(0, 10, 13, 19)] ∈ BW := bw_in (List.mem_of_getElem? (i := 1368) (by rfl)) (by rfl)
set_option maxRecDepth 100000 in
theorem cd_X11_closureLength : Cond.code yX11_closureLength cX11_closureLength 3 (some .int) ∈ BW := bw_in (List.mem_of_getElem? (i := 1372) (by rfl)) (by rfl)
set_option maxRecDepth 100000 in
theorem ml_RL_129 : Cond.methodLink RL 129 yX11_closureLength ∈ BW := bw_in (List.mem_of_getElem? (i := 1369) (by rfl)) (by rfl)
set_option maxRecDepth 100000 in
theorem in_X11_closureLength : Cond.instanceMethod yX11_closureLength ∈ BW := bw_in (List.mem_of_getElem? (i := 1370) (by rfl)) (by rfl)
set_option maxRecDepth 100000 in
theorem sl_X11_closureLength : Cond.selects RX11 yX11_closureLength yX11_closureLength ∈ BW := bw_in (List.mem_of_getElem? (i := 1371) (by rfl)) (by rfl)
set_option maxRecDepth 100000 in
theorem cd_L_openMinutes : Cond.codeWith yL_openMinutes cL_openMinutes 6 (some .int) [(0, 12, 15, 19), (0, 12, 19, 13)] ∈ BW := bw_in (List.mem_of_getElem? (i := 1375) (by rfl)) (by rfl)
set_option maxRecDepth 100000 in
theorem cd_X11_openMinutes : Cond.code yX11_openMinutes cX11_openMinutes 4 (some .int) ∈ BW := bw_in (List.mem_of_getElem? (i := 1379) (by rfl)) (by rfl)
set_option maxRecDepth 100000 in
theorem ml_RL_132 : Cond.methodLink RL 132 yX11_openMinutes ∈ BW := bw_in (List.mem_of_getElem? (i := 1376) (by rfl)) (by rfl)
set_option maxRecDepth 100000 in
theorem in_X11_openMinutes : Cond.instanceMethod yX11_openMinutes ∈ BW := bw_in (List.mem_of_getElem? (i := 1377) (by rfl)) (by rfl)
set_option maxRecDepth 100000 in
theorem sl_X11_openMinutes : Cond.selects RX11 yX11_openMinutes yX11_openMinutes ∈ BW := bw_in (List.mem_of_getElem? (i := 1378) (by rfl)) (by rfl)
set_option maxRecDepth 100000 in
theorem cd_L_sharedMinutes : Cond.codeWith yL_sharedMinutes cL_sharedMinutes 5 (some .int) [(0, 10, 13, 19)] ∈ BW := bw_in (List.mem_of_getElem? (i := 1382) (by rfl)) (by rfl)
set_option maxRecDepth 100000 in
theorem cd_X11_sharedMinutes : Cond.code yX11_sharedMinutes cX11_sharedMinutes 5 (some .int) ∈ BW := bw_in (List.mem_of_getElem? (i := 1386) (by rfl)) (by rfl)
set_option maxRecDepth 100000 in
theorem ml_RL_135 : Cond.methodLink RL 135 yX11_sharedMinutes ∈ BW := bw_in (List.mem_of_getElem? (i := 1383) (by rfl)) (by rfl)
set_option maxRecDepth 100000 in
theorem in_X11_sharedMinutes : Cond.instanceMethod yX11_sharedMinutes ∈ BW := bw_in (List.mem_of_getElem? (i := 1384) (by rfl)) (by rfl)
set_option maxRecDepth 100000 in
theorem sl_X11_sharedMinutes : Cond.selects RX11 yX11_sharedMinutes yX11_sharedMinutes ∈ BW := bw_in (List.mem_of_getElem? (i := 1385) (by rfl)) (by rfl)
set_option maxRecDepth 100000 in
theorem cd_L_sirenMinute : Cond.codeWith yL_sirenMinute cL_sirenMinute 4 (some .int) [(0, 9, 12, 13)] ∈ BW := bw_in (List.mem_of_getElem? (i := 1389) (by rfl)) (by rfl)
set_option maxRecDepth 100000 in
theorem cd_X11_sirenMinute : Cond.code yX11_sirenMinute cX11_sirenMinute 2 (some .int) ∈ BW := bw_in (List.mem_of_getElem? (i := 1393) (by rfl)) (by rfl)
set_option maxRecDepth 100000 in
theorem ml_RL_138 : Cond.methodLink RL 138 yX11_sirenMinute ∈ BW := bw_in (List.mem_of_getElem? (i := 1390) (by rfl)) (by rfl)
set_option maxRecDepth 100000 in
theorem in_X11_sirenMinute : Cond.instanceMethod yX11_sirenMinute ∈ BW := bw_in (List.mem_of_getElem? (i := 1391) (by rfl)) (by rfl)
set_option maxRecDepth 100000 in
theorem sl_X11_sirenMinute : Cond.selects RX11 yX11_sirenMinute yX11_sirenMinute ∈ BW := bw_in (List.mem_of_getElem? (i := 1392) (by rfl)) (by rfl)
set_option maxRecDepth 100000 in
theorem cd_L_sirenKind : Cond.codeWith yL_sirenKind cL_sirenKind 4 (some .int) [(0, 9, 12, 13)] ∈ BW := bw_in (List.mem_of_getElem? (i := 1404) (by rfl)) (by rfl)
set_option maxRecDepth 100000 in
theorem cd_X11_sirenKind : Cond.code yX11_sirenKind cX11_sirenKind 2 (some .int) ∈ BW := bw_in (List.mem_of_getElem? (i := 1408) (by rfl)) (by rfl)
set_option maxRecDepth 100000 in
theorem ml_RL_141 : Cond.methodLink RL 141 yX11_sirenKind ∈ BW := bw_in (List.mem_of_getElem? (i := 1405) (by rfl)) (by rfl)
set_option maxRecDepth 100000 in
theorem in_X11_sirenKind : Cond.instanceMethod yX11_sirenKind ∈ BW := bw_in (List.mem_of_getElem? (i := 1406) (by rfl)) (by rfl)
set_option maxRecDepth 100000 in
theorem sl_X11_sirenKind : Cond.selects RX11 yX11_sirenKind yX11_sirenKind ∈ BW := bw_in (List.mem_of_getElem? (i := 1407) (by rfl)) (by rfl)
set_option maxRecDepth 100000 in
theorem cd_L_sirenBlast : Cond.codeWith yL_sirenBlast cL_sirenBlast 4 (some .int) [(0, 9, 12, 13)] ∈ BW := bw_in (List.mem_of_getElem? (i := 1414) (by rfl)) (by rfl)
set_option maxRecDepth 100000 in
theorem cd_X11_sirenBlast : Cond.code yX11_sirenBlast cX11_sirenBlast 2 (some .int) ∈ BW := bw_in (List.mem_of_getElem? (i := 1418) (by rfl)) (by rfl)
set_option maxRecDepth 100000 in
theorem ml_RL_144 : Cond.methodLink RL 144 yX11_sirenBlast ∈ BW := bw_in (List.mem_of_getElem? (i := 1415) (by rfl)) (by rfl)
set_option maxRecDepth 100000 in
theorem in_X11_sirenBlast : Cond.instanceMethod yX11_sirenBlast ∈ BW := bw_in (List.mem_of_getElem? (i := 1416) (by rfl)) (by rfl)
set_option maxRecDepth 100000 in
theorem sl_X11_sirenBlast : Cond.selects RX11 yX11_sirenBlast yX11_sirenBlast ∈ BW := bw_in (List.mem_of_getElem? (i := 1417) (by rfl)) (by rfl)
set_option maxRecDepth 100000 in
theorem cd_L_planLength : Cond.codeWith yL_planLength cL_planLength 3 (some .int) [(0, 8, 11, 106)] ∈ BW := bw_in (List.mem_of_getElem? (i := 1424) (by rfl)) (by rfl)
set_option maxRecDepth 100000 in
theorem cd_X11_planLength : Cond.code yX11_planLength cX11_planLength 1 (some .int) ∈ BW := bw_in (List.mem_of_getElem? (i := 1428) (by rfl)) (by rfl)
set_option maxRecDepth 100000 in
theorem ml_RL_147 : Cond.methodLink RL 147 yX11_planLength ∈ BW := bw_in (List.mem_of_getElem? (i := 1425) (by rfl)) (by rfl)
set_option maxRecDepth 100000 in
theorem in_X11_planLength : Cond.instanceMethod yX11_planLength ∈ BW := bw_in (List.mem_of_getElem? (i := 1426) (by rfl)) (by rfl)
set_option maxRecDepth 100000 in
theorem sl_X11_planLength : Cond.selects RX11 yX11_planLength yX11_planLength ∈ BW := bw_in (List.mem_of_getElem? (i := 1427) (by rfl)) (by rfl)
set_option maxRecDepth 100000 in
theorem cd_L_planTime : Cond.codeWith yL_planTime cL_planTime 4 (some .int) [(0, 9, 12, 19), (0, 9, 15, 106)] ∈ BW := bw_in (List.mem_of_getElem? (i := 1467) (by rfl)) (by rfl)
set_option maxRecDepth 100000 in
theorem cd_X11_planTime : Cond.code yX11_planTime cX11_planTime 2 (some .int) ∈ BW := bw_in (List.mem_of_getElem? (i := 1471) (by rfl)) (by rfl)
set_option maxRecDepth 100000 in
theorem ml_RL_150 : Cond.methodLink RL 150 yX11_planTime ∈ BW := bw_in (List.mem_of_getElem? (i := 1468) (by rfl)) (by rfl)
set_option maxRecDepth 100000 in
theorem in_X11_planTime : Cond.instanceMethod yX11_planTime ∈ BW := bw_in (List.mem_of_getElem? (i := 1469) (by rfl)) (by rfl)
set_option maxRecDepth 100000 in
theorem sl_X11_planTime : Cond.selects RX11 yX11_planTime yX11_planTime ∈ BW := bw_in (List.mem_of_getElem? (i := 1470) (by rfl)) (by rfl)
set_option maxRecDepth 100000 in
theorem cd_L_applyPlan : Cond.codeWith yL_applyPlan cL_applyPlan 3 (some .int) [(0, 8, 11, 106)] ∈ BW := bw_in (List.mem_of_getElem? (i := 1474) (by rfl)) (by rfl)
set_option maxRecDepth 100000 in
theorem cd_X11_applyPlan : Cond.code yX11_applyPlan cX11_applyPlan 3 (some .int) ∈ BW := bw_in (List.mem_of_getElem? (i := 1478) (by rfl)) (by rfl)
set_option maxRecDepth 100000 in
theorem ml_RL_153 : Cond.methodLink RL 153 yX11_applyPlan ∈ BW := bw_in (List.mem_of_getElem? (i := 1475) (by rfl)) (by rfl)
set_option maxRecDepth 100000 in
theorem in_X11_applyPlan : Cond.instanceMethod yX11_applyPlan ∈ BW := bw_in (List.mem_of_getElem? (i := 1476) (by rfl)) (by rfl)
set_option maxRecDepth 100000 in
theorem sl_X11_applyPlan : Cond.selects RX11 yX11_applyPlan yX11_applyPlan ∈ BW := bw_in (List.mem_of_getElem? (i := 1477) (by rfl)) (by rfl)
set_option maxRecDepth 100000 in
theorem cd_L_format : Cond.codeWith yL_format cL_format 4 (some .int) [(0, 9, 12, 19)] ∈ BW := bw_in (List.mem_of_getElem? (i := 1482) (by rfl)) (by rfl)
set_option maxRecDepth 100000 in
theorem cd_X11_format : Cond.code yX11_format cX11_format 3 (some .int) ∈ BW := bw_in (List.mem_of_getElem? (i := 1486) (by rfl)) (by rfl)
set_option maxRecDepth 100000 in
theorem ml_RL_156 : Cond.methodLink RL 156 yX11_format ∈ BW := bw_in (List.mem_of_getElem? (i := 1483) (by rfl)) (by rfl)
set_option maxRecDepth 100000 in
theorem in_X11_format : Cond.instanceMethod yX11_format ∈ BW := bw_in (List.mem_of_getElem? (i := 1484) (by rfl)) (by rfl)
set_option maxRecDepth 100000 in
theorem sl_X11_format : Cond.selects RX11 yX11_format yX11_format ∈ BW := bw_in (List.mem_of_getElem? (i := 1485) (by rfl)) (by rfl)
theorem dL_load_0 : decode cL_load 0 = .ok (.aload_n 1, 1) := by decide +kernel
theorem dL_load_1 : decode cL_load 1 = .ok (.iconst 0, 1) := by decide +kernel
theorem dL_load_2 : decode cL_load 2 = .ok (.aload_n 0, 1) := by decide +kernel
theorem dL_load_3 : decode cL_load 3 = .ok (.invokevirtual 7, 3) := by decide +kernel
theorem dL_load_6 : decode cL_load 6 = .ok (.i2l, 1) := by decide +kernel
theorem dL_load_7 : decode cL_load 7 = .ok (.lastore, 1) := by decide +kernel
theorem dL_load_8 : decode cL_load 8 = .ok (.goto 6, 3) := by decide +kernel
theorem dL_load_11 : decode cL_load 11 = .ok (.astore_n 2, 1) := by decide +kernel
theorem dL_load_12 : decode cL_load 12 = .ok (.iconst 1, 1) := by decide +kernel
theorem dL_load_13 : decode cL_load 13 = .ok (.ireturn, 1) := by decide +kernel
theorem dL_load_14 : decode cL_load 14 = .ok (.iconst 0, 1) := by decide +kernel
theorem dL_load_15 : decode cL_load 15 = .ok (.ireturn, 1) := by decide +kernel
theorem dL_chargeCount_0 : decode cL_chargeCount 0 = .ok (.aload_n 2, 1) := by decide +kernel
theorem dL_chargeCount_1 : decode cL_chargeCount 1 = .ok (.iconst 0, 1) := by decide +kernel
theorem dL_chargeCount_2 : decode cL_chargeCount 2 = .ok (.aload_n 0, 1) := by decide +kernel
theorem dL_chargeCount_3 : decode cL_chargeCount 3 = .ok (.iload_n 1, 1) := by decide +kernel
theorem dL_chargeCount_4 : decode cL_chargeCount 4 = .ok (.invokevirtual 15, 3) := by decide +kernel
theorem dL_chargeCount_7 : decode cL_chargeCount 7 = .ok (.i2l, 1) := by decide +kernel
theorem dL_chargeCount_8 : decode cL_chargeCount 8 = .ok (.lastore, 1) := by decide +kernel
theorem dL_chargeCount_9 : decode cL_chargeCount 9 = .ok (.goto 6, 3) := by decide +kernel
theorem dL_chargeCount_12 : decode cL_chargeCount 12 = .ok (.astore_n 3, 1) := by decide +kernel
theorem dL_chargeCount_13 : decode cL_chargeCount 13 = .ok (.iconst 1, 1) := by decide +kernel
theorem dL_chargeCount_14 : decode cL_chargeCount 14 = .ok (.ireturn, 1) := by decide +kernel
theorem dL_chargeCount_15 : decode cL_chargeCount 15 = .ok (.iconst 0, 1) := by decide +kernel
theorem dL_chargeCount_16 : decode cL_chargeCount 16 = .ok (.ireturn, 1) := by decide +kernel
theorem dL_chargeSize_0 : decode cL_chargeSize 0 = .ok (.aload_n 3, 1) := by decide +kernel
theorem dL_chargeSize_1 : decode cL_chargeSize 1 = .ok (.iconst 0, 1) := by decide +kernel
theorem dL_chargeSize_2 : decode cL_chargeSize 2 = .ok (.aload_n 0, 1) := by decide +kernel
theorem dL_chargeSize_3 : decode cL_chargeSize 3 = .ok (.iload_n 1, 1) := by decide +kernel
theorem dL_chargeSize_4 : decode cL_chargeSize 4 = .ok (.iload_n 2, 1) := by decide +kernel
theorem dL_chargeSize_5 : decode cL_chargeSize 5 = .ok (.invokevirtual 21, 3) := by decide +kernel
theorem dL_chargeSize_8 : decode cL_chargeSize 8 = .ok (.i2l, 1) := by decide +kernel
theorem dL_chargeSize_9 : decode cL_chargeSize 9 = .ok (.lastore, 1) := by decide +kernel
theorem dL_chargeSize_10 : decode cL_chargeSize 10 = .ok (.goto 7, 3) := by decide +kernel
theorem dL_chargeSize_13 : decode cL_chargeSize 13 = .ok (.astore 4, 2) := by decide +kernel
theorem dL_chargeSize_15 : decode cL_chargeSize 15 = .ok (.iconst 1, 1) := by decide +kernel
theorem dL_chargeSize_16 : decode cL_chargeSize 16 = .ok (.ireturn, 1) := by decide +kernel
theorem dL_chargeSize_17 : decode cL_chargeSize 17 = .ok (.iconst 0, 1) := by decide +kernel
theorem dL_chargeSize_18 : decode cL_chargeSize 18 = .ok (.ireturn, 1) := by decide +kernel
theorem dL_delay_0 : decode cL_delay 0 = .ok (.aload_n 3, 1) := by decide +kernel
theorem dL_delay_1 : decode cL_delay 1 = .ok (.iconst 0, 1) := by decide +kernel
theorem dL_delay_2 : decode cL_delay 2 = .ok (.aload_n 0, 1) := by decide +kernel
theorem dL_delay_3 : decode cL_delay 3 = .ok (.iload_n 1, 1) := by decide +kernel
theorem dL_delay_4 : decode cL_delay 4 = .ok (.iload_n 2, 1) := by decide +kernel
theorem dL_delay_5 : decode cL_delay 5 = .ok (.invokevirtual 25, 3) := by decide +kernel
theorem dL_delay_8 : decode cL_delay 8 = .ok (.i2l, 1) := by decide +kernel
theorem dL_delay_9 : decode cL_delay 9 = .ok (.lastore, 1) := by decide +kernel
theorem dL_delay_10 : decode cL_delay 10 = .ok (.goto 7, 3) := by decide +kernel
theorem dL_delay_13 : decode cL_delay 13 = .ok (.astore 4, 2) := by decide +kernel
theorem dL_delay_15 : decode cL_delay 15 = .ok (.iconst 1, 1) := by decide +kernel
theorem dL_delay_16 : decode cL_delay 16 = .ok (.ireturn, 1) := by decide +kernel
theorem dL_delay_17 : decode cL_delay 17 = .ok (.iconst 0, 1) := by decide +kernel
theorem dL_delay_18 : decode cL_delay 18 = .ok (.ireturn, 1) := by decide +kernel
theorem dL_totalSize_0 : decode cL_totalSize 0 = .ok (.aload_n 2, 1) := by decide +kernel
theorem dL_totalSize_1 : decode cL_totalSize 1 = .ok (.iconst 0, 1) := by decide +kernel
theorem dL_totalSize_2 : decode cL_totalSize 2 = .ok (.aload_n 0, 1) := by decide +kernel
theorem dL_totalSize_3 : decode cL_totalSize 3 = .ok (.iload_n 1, 1) := by decide +kernel
theorem dL_totalSize_4 : decode cL_totalSize 4 = .ok (.invokevirtual 28, 3) := by decide +kernel
theorem dL_totalSize_7 : decode cL_totalSize 7 = .ok (.i2l, 1) := by decide +kernel
theorem dL_totalSize_8 : decode cL_totalSize 8 = .ok (.lastore, 1) := by decide +kernel
theorem dL_totalSize_9 : decode cL_totalSize 9 = .ok (.goto 6, 3) := by decide +kernel
theorem dL_totalSize_12 : decode cL_totalSize 12 = .ok (.astore_n 3, 1) := by decide +kernel
theorem dL_totalSize_13 : decode cL_totalSize 13 = .ok (.iconst 1, 1) := by decide +kernel
theorem dL_totalSize_14 : decode cL_totalSize 14 = .ok (.ireturn, 1) := by decide +kernel
theorem dL_totalSize_15 : decode cL_totalSize 15 = .ok (.iconst 0, 1) := by decide +kernel
theorem dL_totalSize_16 : decode cL_totalSize 16 = .ok (.ireturn, 1) := by decide +kernel
theorem dL_delaySpan_0 : decode cL_delaySpan 0 = .ok (.aload_n 2, 1) := by decide +kernel
theorem dL_delaySpan_1 : decode cL_delaySpan 1 = .ok (.iconst 0, 1) := by decide +kernel
theorem dL_delaySpan_2 : decode cL_delaySpan 2 = .ok (.aload_n 0, 1) := by decide +kernel
theorem dL_delaySpan_3 : decode cL_delaySpan 3 = .ok (.iload_n 1, 1) := by decide +kernel
theorem dL_delaySpan_4 : decode cL_delaySpan 4 = .ok (.invokevirtual 31, 3) := by decide +kernel
theorem dL_delaySpan_7 : decode cL_delaySpan 7 = .ok (.i2l, 1) := by decide +kernel
theorem dL_delaySpan_8 : decode cL_delaySpan 8 = .ok (.lastore, 1) := by decide +kernel
theorem dL_delaySpan_9 : decode cL_delaySpan 9 = .ok (.goto 6, 3) := by decide +kernel
theorem dL_delaySpan_12 : decode cL_delaySpan 12 = .ok (.astore_n 3, 1) := by decide +kernel
theorem dL_delaySpan_13 : decode cL_delaySpan 13 = .ok (.iconst 1, 1) := by decide +kernel
theorem dL_delaySpan_14 : decode cL_delaySpan 14 = .ok (.ireturn, 1) := by decide +kernel
theorem dL_delaySpan_15 : decode cL_delaySpan 15 = .ok (.iconst 0, 1) := by decide +kernel
theorem dL_delaySpan_16 : decode cL_delaySpan 16 = .ok (.ireturn, 1) := by decide +kernel
theorem dL_windowSize_0 : decode cL_windowSize 0 = .ok (.aload_n 2, 1) := by decide +kernel
theorem dL_windowSize_1 : decode cL_windowSize 1 = .ok (.iconst 0, 1) := by decide +kernel
theorem dL_windowSize_2 : decode cL_windowSize 2 = .ok (.aload_n 0, 1) := by decide +kernel
theorem dL_windowSize_3 : decode cL_windowSize 3 = .ok (.iload_n 1, 1) := by decide +kernel
theorem dL_windowSize_4 : decode cL_windowSize 4 = .ok (.invokevirtual 34, 3) := by decide +kernel
theorem dL_windowSize_7 : decode cL_windowSize 7 = .ok (.i2l, 1) := by decide +kernel
theorem dL_windowSize_8 : decode cL_windowSize 8 = .ok (.lastore, 1) := by decide +kernel
theorem dL_windowSize_9 : decode cL_windowSize 9 = .ok (.goto 6, 3) := by decide +kernel
theorem dL_windowSize_12 : decode cL_windowSize 12 = .ok (.astore_n 3, 1) := by decide +kernel
theorem dL_windowSize_13 : decode cL_windowSize 13 = .ok (.iconst 1, 1) := by decide +kernel
theorem dL_windowSize_14 : decode cL_windowSize 14 = .ok (.ireturn, 1) := by decide +kernel
theorem dL_windowSize_15 : decode cL_windowSize 15 = .ok (.iconst 0, 1) := by decide +kernel
theorem dL_windowSize_16 : decode cL_windowSize 16 = .ok (.ireturn, 1) := by decide +kernel
theorem dL_windowStart_0 : decode cL_windowStart 0 = .ok (.aload_n 2, 1) := by decide +kernel
theorem dL_windowStart_1 : decode cL_windowStart 1 = .ok (.iconst 0, 1) := by decide +kernel
theorem dL_windowStart_2 : decode cL_windowStart 2 = .ok (.aload_n 0, 1) := by decide +kernel
theorem dL_windowStart_3 : decode cL_windowStart 3 = .ok (.iload_n 1, 1) := by decide +kernel
theorem dL_windowStart_4 : decode cL_windowStart 4 = .ok (.invokevirtual 37, 3) := by decide +kernel
theorem dL_windowStart_7 : decode cL_windowStart 7 = .ok (.i2l, 1) := by decide +kernel
theorem dL_windowStart_8 : decode cL_windowStart 8 = .ok (.lastore, 1) := by decide +kernel
theorem dL_windowStart_9 : decode cL_windowStart 9 = .ok (.goto 6, 3) := by decide +kernel
theorem dL_windowStart_12 : decode cL_windowStart 12 = .ok (.astore_n 3, 1) := by decide +kernel
theorem dL_windowStart_13 : decode cL_windowStart 13 = .ok (.iconst 1, 1) := by decide +kernel
theorem dL_windowStart_14 : decode cL_windowStart 14 = .ok (.ireturn, 1) := by decide +kernel
theorem dL_windowStart_15 : decode cL_windowStart 15 = .ok (.iconst 0, 1) := by decide +kernel
theorem dL_windowStart_16 : decode cL_windowStart 16 = .ok (.ireturn, 1) := by decide +kernel
theorem dL_vibration_0 : decode cL_vibration 0 = .ok (.aload_n 3, 1) := by decide +kernel
theorem dL_vibration_1 : decode cL_vibration 1 = .ok (.iconst 0, 1) := by decide +kernel
theorem dL_vibration_2 : decode cL_vibration 2 = .ok (.aload_n 0, 1) := by decide +kernel
theorem dL_vibration_3 : decode cL_vibration 3 = .ok (.iload_n 1, 1) := by decide +kernel
theorem dL_vibration_4 : decode cL_vibration 4 = .ok (.iload_n 2, 1) := by decide +kernel
theorem dL_vibration_5 : decode cL_vibration 5 = .ok (.invokevirtual 40, 3) := by decide +kernel
theorem dL_vibration_8 : decode cL_vibration 8 = .ok (.i2l, 1) := by decide +kernel
theorem dL_vibration_9 : decode cL_vibration 9 = .ok (.lastore, 1) := by decide +kernel
theorem dL_vibration_10 : decode cL_vibration 10 = .ok (.goto 7, 3) := by decide +kernel
theorem dL_vibration_13 : decode cL_vibration 13 = .ok (.astore 4, 2) := by decide +kernel
theorem dL_vibration_15 : decode cL_vibration 15 = .ok (.iconst 1, 1) := by decide +kernel
theorem dL_vibration_16 : decode cL_vibration 16 = .ok (.ireturn, 1) := by decide +kernel
theorem dL_vibration_17 : decode cL_vibration 17 = .ok (.iconst 0, 1) := by decide +kernel
theorem dL_vibration_18 : decode cL_vibration 18 = .ok (.ireturn, 1) := by decide +kernel
theorem dL_mostShaken_0 : decode cL_mostShaken 0 = .ok (.aload_n 2, 1) := by decide +kernel
theorem dL_mostShaken_1 : decode cL_mostShaken 1 = .ok (.iconst 0, 1) := by decide +kernel
theorem dL_mostShaken_2 : decode cL_mostShaken 2 = .ok (.aload_n 0, 1) := by decide +kernel
theorem dL_mostShaken_3 : decode cL_mostShaken 3 = .ok (.iload_n 1, 1) := by decide +kernel
theorem dL_mostShaken_4 : decode cL_mostShaken 4 = .ok (.invokevirtual 43, 3) := by decide +kernel
theorem dL_mostShaken_7 : decode cL_mostShaken 7 = .ok (.i2l, 1) := by decide +kernel
theorem dL_mostShaken_8 : decode cL_mostShaken 8 = .ok (.lastore, 1) := by decide +kernel
theorem dL_mostShaken_9 : decode cL_mostShaken 9 = .ok (.goto 6, 3) := by decide +kernel
theorem dL_mostShaken_12 : decode cL_mostShaken 12 = .ok (.astore_n 3, 1) := by decide +kernel
theorem dL_mostShaken_13 : decode cL_mostShaken 13 = .ok (.iconst 1, 1) := by decide +kernel
theorem dL_mostShaken_14 : decode cL_mostShaken 14 = .ok (.ireturn, 1) := by decide +kernel
theorem dL_mostShaken_15 : decode cL_mostShaken 15 = .ok (.iconst 0, 1) := by decide +kernel
theorem dL_mostShaken_16 : decode cL_mostShaken 16 = .ok (.ireturn, 1) := by decide +kernel
theorem dL_tooStrongAt_0 : decode cL_tooStrongAt 0 = .ok (.aload_n 2, 1) := by decide +kernel
theorem dL_tooStrongAt_1 : decode cL_tooStrongAt 1 = .ok (.iconst 0, 1) := by decide +kernel
theorem dL_tooStrongAt_2 : decode cL_tooStrongAt 2 = .ok (.aload_n 0, 1) := by decide +kernel
theorem dL_tooStrongAt_3 : decode cL_tooStrongAt 3 = .ok (.iload_n 1, 1) := by decide +kernel
theorem dL_tooStrongAt_4 : decode cL_tooStrongAt 4 = .ok (.invokevirtual 46, 3) := by decide +kernel
theorem dL_tooStrongAt_7 : decode cL_tooStrongAt 7 = .ok (.i2l, 1) := by decide +kernel
theorem dL_tooStrongAt_8 : decode cL_tooStrongAt 8 = .ok (.lastore, 1) := by decide +kernel
theorem dL_tooStrongAt_9 : decode cL_tooStrongAt 9 = .ok (.goto 6, 3) := by decide +kernel
theorem dL_tooStrongAt_12 : decode cL_tooStrongAt 12 = .ok (.astore_n 3, 1) := by decide +kernel
theorem dL_tooStrongAt_13 : decode cL_tooStrongAt 13 = .ok (.iconst 1, 1) := by decide +kernel
theorem dL_tooStrongAt_14 : decode cL_tooStrongAt 14 = .ok (.ireturn, 1) := by decide +kernel
theorem dL_tooStrongAt_15 : decode cL_tooStrongAt 15 = .ok (.iconst 0, 1) := by decide +kernel
theorem dL_tooStrongAt_16 : decode cL_tooStrongAt 16 = .ok (.ireturn, 1) := by decide +kernel
theorem dL_neededGap_0 : decode cL_neededGap 0 = .ok (.aload_n 3, 1) := by decide +kernel
theorem dL_neededGap_1 : decode cL_neededGap 1 = .ok (.iconst 0, 1) := by decide +kernel
theorem dL_neededGap_2 : decode cL_neededGap 2 = .ok (.aload_n 0, 1) := by decide +kernel
theorem dL_neededGap_3 : decode cL_neededGap 3 = .ok (.iload_n 1, 1) := by decide +kernel
theorem dL_neededGap_4 : decode cL_neededGap 4 = .ok (.iload_n 2, 1) := by decide +kernel
theorem dL_neededGap_5 : decode cL_neededGap 5 = .ok (.invokevirtual 49, 3) := by decide +kernel
theorem dL_neededGap_8 : decode cL_neededGap 8 = .ok (.i2l, 1) := by decide +kernel
theorem dL_neededGap_9 : decode cL_neededGap 9 = .ok (.lastore, 1) := by decide +kernel
theorem dL_neededGap_10 : decode cL_neededGap 10 = .ok (.goto 7, 3) := by decide +kernel
theorem dL_neededGap_13 : decode cL_neededGap 13 = .ok (.astore 4, 2) := by decide +kernel
theorem dL_neededGap_15 : decode cL_neededGap 15 = .ok (.iconst 1, 1) := by decide +kernel
theorem dL_neededGap_16 : decode cL_neededGap 16 = .ok (.ireturn, 1) := by decide +kernel
theorem dL_neededGap_17 : decode cL_neededGap 17 = .ok (.iconst 0, 1) := by decide +kernel
theorem dL_neededGap_18 : decode cL_neededGap 18 = .ok (.ireturn, 1) := by decide +kernel
theorem dL_vibrationIfGap_0 : decode cL_vibrationIfGap 0 = .ok (.aload 4, 2) := by decide +kernel
theorem dL_vibrationIfGap_2 : decode cL_vibrationIfGap 2 = .ok (.iconst 0, 1) := by decide +kernel
theorem dL_vibrationIfGap_3 : decode cL_vibrationIfGap 3 = .ok (.aload_n 0, 1) := by decide +kernel
theorem dL_vibrationIfGap_4 : decode cL_vibrationIfGap 4 = .ok (.iload_n 1, 1) := by decide +kernel
theorem dL_vibrationIfGap_5 : decode cL_vibrationIfGap 5 = .ok (.iload_n 2, 1) := by decide +kernel
theorem dL_vibrationIfGap_6 : decode cL_vibrationIfGap 6 = .ok (.iload_n 3, 1) := by decide +kernel
theorem dL_vibrationIfGap_7 : decode cL_vibrationIfGap 7 = .ok (.invokevirtual 52, 3) := by decide +kernel
theorem dL_vibrationIfGap_10 : decode cL_vibrationIfGap 10 = .ok (.i2l, 1) := by decide +kernel
theorem dL_vibrationIfGap_11 : decode cL_vibrationIfGap 11 = .ok (.lastore, 1) := by decide +kernel
theorem dL_vibrationIfGap_12 : decode cL_vibrationIfGap 12 = .ok (.goto 11, 3) := by decide +kernel
theorem dL_vibrationIfGap_15 : decode cL_vibrationIfGap 15 = .ok (.astore 5, 2) := by decide +kernel
theorem dL_vibrationIfGap_17 : decode cL_vibrationIfGap 17 = .ok (.iconst 1, 1) := by decide +kernel
theorem dL_vibrationIfGap_18 : decode cL_vibrationIfGap 18 = .ok (.ireturn, 1) := by decide +kernel
theorem dL_vibrationIfGap_19 : decode cL_vibrationIfGap 19 = .ok (.astore 5, 2) := by decide +kernel
theorem dL_vibrationIfGap_21 : decode cL_vibrationIfGap 21 = .ok (.iconst 2, 1) := by decide +kernel
theorem dL_vibrationIfGap_22 : decode cL_vibrationIfGap 22 = .ok (.ireturn, 1) := by decide +kernel
theorem dL_vibrationIfGap_23 : decode cL_vibrationIfGap 23 = .ok (.iconst 0, 1) := by decide +kernel
theorem dL_vibrationIfGap_24 : decode cL_vibrationIfGap 24 = .ok (.ireturn, 1) := by decide +kernel
theorem dL_closes_0 : decode cL_closes 0 = .ok (.aload_n 3, 1) := by decide +kernel
theorem dL_closes_1 : decode cL_closes 1 = .ok (.iconst 0, 1) := by decide +kernel
theorem dL_closes_2 : decode cL_closes 2 = .ok (.aload_n 0, 1) := by decide +kernel
theorem dL_closes_3 : decode cL_closes 3 = .ok (.iload_n 1, 1) := by decide +kernel
theorem dL_closes_4 : decode cL_closes 4 = .ok (.iload_n 2, 1) := by decide +kernel
theorem dL_closes_5 : decode cL_closes 5 = .ok (.invokevirtual 56, 3) := by decide +kernel
theorem dL_closes_8 : decode cL_closes 8 = .ok (.ifCond .eq 7, 3) := by decide +kernel
theorem dL_closes_11 : decode cL_closes 11 = .ok (.lconst 1, 1) := by decide +kernel
theorem dL_closes_12 : decode cL_closes 12 = .ok (.goto 4, 3) := by decide +kernel
theorem dL_closes_15 : decode cL_closes 15 = .ok (.lconst 0, 1) := by decide +kernel
theorem dL_closes_16 : decode cL_closes 16 = .ok (.lastore, 1) := by decide +kernel
theorem dL_closes_17 : decode cL_closes 17 = .ok (.goto 7, 3) := by decide +kernel
theorem dL_closes_20 : decode cL_closes 20 = .ok (.astore 4, 2) := by decide +kernel
theorem dL_closes_22 : decode cL_closes 22 = .ok (.iconst 1, 1) := by decide +kernel
theorem dL_closes_23 : decode cL_closes 23 = .ok (.ireturn, 1) := by decide +kernel
theorem dL_closes_24 : decode cL_closes 24 = .ok (.iconst 0, 1) := by decide +kernel
theorem dL_closes_25 : decode cL_closes 25 = .ok (.ireturn, 1) := by decide +kernel
theorem dL_closedBy_0 : decode cL_closedBy 0 = .ok (.aload_n 2, 1) := by decide +kernel
theorem dL_closedBy_1 : decode cL_closedBy 1 = .ok (.iconst 0, 1) := by decide +kernel
theorem dL_closedBy_2 : decode cL_closedBy 2 = .ok (.aload_n 0, 1) := by decide +kernel
theorem dL_closedBy_3 : decode cL_closedBy 3 = .ok (.iload_n 1, 1) := by decide +kernel
theorem dL_closedBy_4 : decode cL_closedBy 4 = .ok (.invokevirtual 60, 3) := by decide +kernel
theorem dL_closedBy_7 : decode cL_closedBy 7 = .ok (.i2l, 1) := by decide +kernel
theorem dL_closedBy_8 : decode cL_closedBy 8 = .ok (.lastore, 1) := by decide +kernel
theorem dL_closedBy_9 : decode cL_closedBy 9 = .ok (.goto 6, 3) := by decide +kernel
theorem dL_closedBy_12 : decode cL_closedBy 12 = .ok (.astore_n 3, 1) := by decide +kernel
theorem dL_closedBy_13 : decode cL_closedBy 13 = .ok (.iconst 1, 1) := by decide +kernel
theorem dL_closedBy_14 : decode cL_closedBy 14 = .ok (.ireturn, 1) := by decide +kernel
theorem dL_closedBy_15 : decode cL_closedBy 15 = .ok (.iconst 0, 1) := by decide +kernel
theorem dL_closedBy_16 : decode cL_closedBy 16 = .ok (.ireturn, 1) := by decide +kernel
theorem dL_isQuiet_0 : decode cL_isQuiet 0 = .ok (.aload_n 3, 1) := by decide +kernel
theorem dL_isQuiet_1 : decode cL_isQuiet 1 = .ok (.iconst 0, 1) := by decide +kernel
theorem dL_isQuiet_2 : decode cL_isQuiet 2 = .ok (.aload_n 0, 1) := by decide +kernel
theorem dL_isQuiet_3 : decode cL_isQuiet 3 = .ok (.iload_n 1, 1) := by decide +kernel
theorem dL_isQuiet_4 : decode cL_isQuiet 4 = .ok (.iload_n 2, 1) := by decide +kernel
theorem dL_isQuiet_5 : decode cL_isQuiet 5 = .ok (.invokevirtual 63, 3) := by decide +kernel
theorem dL_isQuiet_8 : decode cL_isQuiet 8 = .ok (.ifCond .eq 7, 3) := by decide +kernel
theorem dL_isQuiet_11 : decode cL_isQuiet 11 = .ok (.lconst 1, 1) := by decide +kernel
theorem dL_isQuiet_12 : decode cL_isQuiet 12 = .ok (.goto 4, 3) := by decide +kernel
theorem dL_isQuiet_15 : decode cL_isQuiet 15 = .ok (.lconst 0, 1) := by decide +kernel
theorem dL_isQuiet_16 : decode cL_isQuiet 16 = .ok (.lastore, 1) := by decide +kernel
theorem dL_isQuiet_17 : decode cL_isQuiet 17 = .ok (.goto 7, 3) := by decide +kernel
theorem dL_isQuiet_20 : decode cL_isQuiet 20 = .ok (.astore 4, 2) := by decide +kernel
theorem dL_isQuiet_22 : decode cL_isQuiet 22 = .ok (.iconst 1, 1) := by decide +kernel
theorem dL_isQuiet_23 : decode cL_isQuiet 23 = .ok (.ireturn, 1) := by decide +kernel
theorem dL_isQuiet_24 : decode cL_isQuiet 24 = .ok (.iconst 0, 1) := by decide +kernel
theorem dL_isQuiet_25 : decode cL_isQuiet 25 = .ok (.ireturn, 1) := by decide +kernel
theorem dL_dustAt_0 : decode cL_dustAt 0 = .ok (.aload_n 3, 1) := by decide +kernel
theorem dL_dustAt_1 : decode cL_dustAt 1 = .ok (.iconst 0, 1) := by decide +kernel
theorem dL_dustAt_2 : decode cL_dustAt 2 = .ok (.aload_n 0, 1) := by decide +kernel
theorem dL_dustAt_3 : decode cL_dustAt 3 = .ok (.iload_n 1, 1) := by decide +kernel
theorem dL_dustAt_4 : decode cL_dustAt 4 = .ok (.iload_n 2, 1) := by decide +kernel
theorem dL_dustAt_5 : decode cL_dustAt 5 = .ok (.invokevirtual 66, 3) := by decide +kernel
theorem dL_dustAt_8 : decode cL_dustAt 8 = .ok (.i2l, 1) := by decide +kernel
theorem dL_dustAt_9 : decode cL_dustAt 9 = .ok (.lastore, 1) := by decide +kernel
theorem dL_dustAt_10 : decode cL_dustAt 10 = .ok (.goto 11, 3) := by decide +kernel
theorem dL_dustAt_13 : decode cL_dustAt 13 = .ok (.astore 4, 2) := by decide +kernel
theorem dL_dustAt_15 : decode cL_dustAt 15 = .ok (.iconst 1, 1) := by decide +kernel
theorem dL_dustAt_16 : decode cL_dustAt 16 = .ok (.ireturn, 1) := by decide +kernel
theorem dL_dustAt_17 : decode cL_dustAt 17 = .ok (.astore 4, 2) := by decide +kernel
theorem dL_dustAt_19 : decode cL_dustAt 19 = .ok (.iconst 2, 1) := by decide +kernel
theorem dL_dustAt_20 : decode cL_dustAt 20 = .ok (.ireturn, 1) := by decide +kernel
theorem dL_dustAt_21 : decode cL_dustAt 21 = .ok (.iconst 0, 1) := by decide +kernel
theorem dL_dustAt_22 : decode cL_dustAt 22 = .ok (.ireturn, 1) := by decide +kernel
theorem dL_neededRadius_0 : decode cL_neededRadius 0 = .ok (.aload_n 3, 1) := by decide +kernel
theorem dL_neededRadius_1 : decode cL_neededRadius 1 = .ok (.iconst 0, 1) := by decide +kernel
theorem dL_neededRadius_2 : decode cL_neededRadius 2 = .ok (.aload_n 0, 1) := by decide +kernel
theorem dL_neededRadius_3 : decode cL_neededRadius 3 = .ok (.iload_n 1, 1) := by decide +kernel
theorem dL_neededRadius_4 : decode cL_neededRadius 4 = .ok (.iload_n 2, 1) := by decide +kernel
theorem dL_neededRadius_5 : decode cL_neededRadius 5 = .ok (.invokevirtual 69, 3) := by decide +kernel
theorem dL_neededRadius_8 : decode cL_neededRadius 8 = .ok (.i2l, 1) := by decide +kernel
theorem dL_neededRadius_9 : decode cL_neededRadius 9 = .ok (.lastore, 1) := by decide +kernel
theorem dL_neededRadius_10 : decode cL_neededRadius 10 = .ok (.goto 7, 3) := by decide +kernel
theorem dL_neededRadius_13 : decode cL_neededRadius 13 = .ok (.astore 4, 2) := by decide +kernel
theorem dL_neededRadius_15 : decode cL_neededRadius 15 = .ok (.iconst 1, 1) := by decide +kernel
theorem dL_neededRadius_16 : decode cL_neededRadius 16 = .ok (.ireturn, 1) := by decide +kernel
theorem dL_neededRadius_17 : decode cL_neededRadius 17 = .ok (.iconst 0, 1) := by decide +kernel
theorem dL_neededRadius_18 : decode cL_neededRadius 18 = .ok (.ireturn, 1) := by decide +kernel
theorem dL_quietMinutes_0 : decode cL_quietMinutes 0 = .ok (.aload_n 2, 1) := by decide +kernel
theorem dL_quietMinutes_1 : decode cL_quietMinutes 1 = .ok (.iconst 0, 1) := by decide +kernel
theorem dL_quietMinutes_2 : decode cL_quietMinutes 2 = .ok (.aload_n 0, 1) := by decide +kernel
theorem dL_quietMinutes_3 : decode cL_quietMinutes 3 = .ok (.iload_n 1, 1) := by decide +kernel
theorem dL_quietMinutes_4 : decode cL_quietMinutes 4 = .ok (.invokevirtual 72, 3) := by decide +kernel
theorem dL_quietMinutes_7 : decode cL_quietMinutes 7 = .ok (.i2l, 1) := by decide +kernel
theorem dL_quietMinutes_8 : decode cL_quietMinutes 8 = .ok (.lastore, 1) := by decide +kernel
theorem dL_quietMinutes_9 : decode cL_quietMinutes 9 = .ok (.goto 6, 3) := by decide +kernel
theorem dL_quietMinutes_12 : decode cL_quietMinutes 12 = .ok (.astore_n 3, 1) := by decide +kernel
theorem dL_quietMinutes_13 : decode cL_quietMinutes 13 = .ok (.iconst 1, 1) := by decide +kernel
theorem dL_quietMinutes_14 : decode cL_quietMinutes 14 = .ok (.ireturn, 1) := by decide +kernel
theorem dL_quietMinutes_15 : decode cL_quietMinutes 15 = .ok (.iconst 0, 1) := by decide +kernel
theorem dL_quietMinutes_16 : decode cL_quietMinutes 16 = .ok (.ireturn, 1) := by decide +kernel
theorem dL_dustHours_0 : decode cL_dustHours 0 = .ok (.aload_n 2, 1) := by decide +kernel
theorem dL_dustHours_1 : decode cL_dustHours 1 = .ok (.iconst 0, 1) := by decide +kernel
theorem dL_dustHours_2 : decode cL_dustHours 2 = .ok (.aload_n 0, 1) := by decide +kernel
theorem dL_dustHours_3 : decode cL_dustHours 3 = .ok (.iload_n 1, 1) := by decide +kernel
theorem dL_dustHours_4 : decode cL_dustHours 4 = .ok (.invokevirtual 75, 3) := by decide +kernel
theorem dL_dustHours_7 : decode cL_dustHours 7 = .ok (.i2l, 1) := by decide +kernel
theorem dL_dustHours_8 : decode cL_dustHours 8 = .ok (.lastore, 1) := by decide +kernel
theorem dL_dustHours_9 : decode cL_dustHours 9 = .ok (.goto 6, 3) := by decide +kernel
theorem dL_dustHours_12 : decode cL_dustHours 12 = .ok (.astore_n 3, 1) := by decide +kernel
theorem dL_dustHours_13 : decode cL_dustHours 13 = .ok (.iconst 1, 1) := by decide +kernel
theorem dL_dustHours_14 : decode cL_dustHours 14 = .ok (.ireturn, 1) := by decide +kernel
theorem dL_dustHours_15 : decode cL_dustHours 15 = .ok (.iconst 0, 1) := by decide +kernel
theorem dL_dustHours_16 : decode cL_dustHours 16 = .ok (.ireturn, 1) := by decide +kernel
theorem dL_timeOf_0 : decode cL_timeOf 0 = .ok (.aload_n 2, 1) := by decide +kernel
theorem dL_timeOf_1 : decode cL_timeOf 1 = .ok (.iconst 0, 1) := by decide +kernel
theorem dL_timeOf_2 : decode cL_timeOf 2 = .ok (.aload_n 0, 1) := by decide +kernel
theorem dL_timeOf_3 : decode cL_timeOf 3 = .ok (.iload_n 1, 1) := by decide +kernel
theorem dL_timeOf_4 : decode cL_timeOf 4 = .ok (.invokevirtual 78, 3) := by decide +kernel
theorem dL_timeOf_7 : decode cL_timeOf 7 = .ok (.i2l, 1) := by decide +kernel
theorem dL_timeOf_8 : decode cL_timeOf 8 = .ok (.lastore, 1) := by decide +kernel
theorem dL_timeOf_9 : decode cL_timeOf 9 = .ok (.goto 6, 3) := by decide +kernel
theorem dL_timeOf_12 : decode cL_timeOf 12 = .ok (.astore_n 3, 1) := by decide +kernel
theorem dL_timeOf_13 : decode cL_timeOf 13 = .ok (.iconst 1, 1) := by decide +kernel
theorem dL_timeOf_14 : decode cL_timeOf 14 = .ok (.ireturn, 1) := by decide +kernel
theorem dL_timeOf_15 : decode cL_timeOf 15 = .ok (.iconst 0, 1) := by decide +kernel
theorem dL_timeOf_16 : decode cL_timeOf 16 = .ok (.ireturn, 1) := by decide +kernel
theorem dL_isFired_0 : decode cL_isFired 0 = .ok (.aload_n 2, 1) := by decide +kernel
theorem dL_isFired_1 : decode cL_isFired 1 = .ok (.iconst 0, 1) := by decide +kernel
theorem dL_isFired_2 : decode cL_isFired 2 = .ok (.aload_n 0, 1) := by decide +kernel
theorem dL_isFired_3 : decode cL_isFired 3 = .ok (.iload_n 1, 1) := by decide +kernel
theorem dL_isFired_4 : decode cL_isFired 4 = .ok (.invokevirtual 81, 3) := by decide +kernel
theorem dL_isFired_7 : decode cL_isFired 7 = .ok (.ifCond .eq 7, 3) := by decide +kernel
theorem dL_isFired_10 : decode cL_isFired 10 = .ok (.lconst 1, 1) := by decide +kernel
theorem dL_isFired_11 : decode cL_isFired 11 = .ok (.goto 4, 3) := by decide +kernel
theorem dL_isFired_14 : decode cL_isFired 14 = .ok (.lconst 0, 1) := by decide +kernel
theorem dL_isFired_15 : decode cL_isFired 15 = .ok (.lastore, 1) := by decide +kernel
theorem dL_isFired_16 : decode cL_isFired 16 = .ok (.goto 6, 3) := by decide +kernel
theorem dL_isFired_19 : decode cL_isFired 19 = .ok (.astore_n 3, 1) := by decide +kernel
theorem dL_isFired_20 : decode cL_isFired 20 = .ok (.iconst 1, 1) := by decide +kernel
theorem dL_isFired_21 : decode cL_isFired 21 = .ok (.ireturn, 1) := by decide +kernel
theorem dL_isFired_22 : decode cL_isFired 22 = .ok (.iconst 0, 1) := by decide +kernel
theorem dL_isFired_23 : decode cL_isFired 23 = .ok (.ireturn, 1) := by decide +kernel
theorem dL_reason_0 : decode cL_reason 0 = .ok (.aload_n 3, 1) := by decide +kernel
theorem dL_reason_1 : decode cL_reason 1 = .ok (.iconst 0, 1) := by decide +kernel
theorem dL_reason_2 : decode cL_reason 2 = .ok (.aload_n 0, 1) := by decide +kernel
theorem dL_reason_3 : decode cL_reason 3 = .ok (.iload_n 1, 1) := by decide +kernel
theorem dL_reason_4 : decode cL_reason 4 = .ok (.iload_n 2, 1) := by decide +kernel
theorem dL_reason_5 : decode cL_reason 5 = .ok (.invokevirtual 85, 3) := by decide +kernel
theorem dL_reason_8 : decode cL_reason 8 = .ok (.i2l, 1) := by decide +kernel
theorem dL_reason_9 : decode cL_reason 9 = .ok (.lastore, 1) := by decide +kernel
theorem dL_reason_10 : decode cL_reason 10 = .ok (.goto 11, 3) := by decide +kernel
theorem dL_reason_13 : decode cL_reason 13 = .ok (.astore 4, 2) := by decide +kernel
theorem dL_reason_15 : decode cL_reason 15 = .ok (.iconst 1, 1) := by decide +kernel
theorem dL_reason_16 : decode cL_reason 16 = .ok (.ireturn, 1) := by decide +kernel
theorem dL_reason_17 : decode cL_reason 17 = .ok (.astore 4, 2) := by decide +kernel
theorem dL_reason_19 : decode cL_reason 19 = .ok (.iconst 2, 1) := by decide +kernel
theorem dL_reason_20 : decode cL_reason 20 = .ok (.ireturn, 1) := by decide +kernel
theorem dL_reason_21 : decode cL_reason 21 = .ok (.iconst 0, 1) := by decide +kernel
theorem dL_reason_22 : decode cL_reason 22 = .ok (.ireturn, 1) := by decide +kernel
theorem dL_earliest_0 : decode cL_earliest 0 = .ok (.aload_n 3, 1) := by decide +kernel
theorem dL_earliest_1 : decode cL_earliest 1 = .ok (.iconst 0, 1) := by decide +kernel
theorem dL_earliest_2 : decode cL_earliest 2 = .ok (.aload_n 0, 1) := by decide +kernel
theorem dL_earliest_3 : decode cL_earliest 3 = .ok (.iload_n 1, 1) := by decide +kernel
theorem dL_earliest_4 : decode cL_earliest 4 = .ok (.iload_n 2, 1) := by decide +kernel
theorem dL_earliest_5 : decode cL_earliest 5 = .ok (.invokevirtual 88, 3) := by decide +kernel
theorem dL_earliest_8 : decode cL_earliest 8 = .ok (.i2l, 1) := by decide +kernel
theorem dL_earliest_9 : decode cL_earliest 9 = .ok (.lastore, 1) := by decide +kernel
theorem dL_earliest_10 : decode cL_earliest 10 = .ok (.goto 11, 3) := by decide +kernel
theorem dL_earliest_13 : decode cL_earliest 13 = .ok (.astore 4, 2) := by decide +kernel
theorem dL_earliest_15 : decode cL_earliest 15 = .ok (.iconst 1, 1) := by decide +kernel
theorem dL_earliest_16 : decode cL_earliest 16 = .ok (.ireturn, 1) := by decide +kernel
theorem dL_earliest_17 : decode cL_earliest 17 = .ok (.astore 4, 2) := by decide +kernel
theorem dL_earliest_19 : decode cL_earliest 19 = .ok (.iconst 2, 1) := by decide +kernel
theorem dL_earliest_20 : decode cL_earliest 20 = .ok (.ireturn, 1) := by decide +kernel
theorem dL_earliest_21 : decode cL_earliest 21 = .ok (.iconst 0, 1) := by decide +kernel
theorem dL_earliest_22 : decode cL_earliest 22 = .ok (.ireturn, 1) := by decide +kernel
theorem dL_latest_0 : decode cL_latest 0 = .ok (.aload_n 3, 1) := by decide +kernel
theorem dL_latest_1 : decode cL_latest 1 = .ok (.iconst 0, 1) := by decide +kernel
theorem dL_latest_2 : decode cL_latest 2 = .ok (.aload_n 0, 1) := by decide +kernel
theorem dL_latest_3 : decode cL_latest 3 = .ok (.iload_n 1, 1) := by decide +kernel
theorem dL_latest_4 : decode cL_latest 4 = .ok (.iload_n 2, 1) := by decide +kernel
theorem dL_latest_5 : decode cL_latest 5 = .ok (.invokevirtual 91, 3) := by decide +kernel
theorem dL_latest_8 : decode cL_latest 8 = .ok (.i2l, 1) := by decide +kernel
theorem dL_latest_9 : decode cL_latest 9 = .ok (.lastore, 1) := by decide +kernel
theorem dL_latest_10 : decode cL_latest 10 = .ok (.goto 11, 3) := by decide +kernel
theorem dL_latest_13 : decode cL_latest 13 = .ok (.astore 4, 2) := by decide +kernel
theorem dL_latest_15 : decode cL_latest 15 = .ok (.iconst 1, 1) := by decide +kernel
theorem dL_latest_16 : decode cL_latest 16 = .ok (.ireturn, 1) := by decide +kernel
theorem dL_latest_17 : decode cL_latest 17 = .ok (.astore 4, 2) := by decide +kernel
theorem dL_latest_19 : decode cL_latest 19 = .ok (.iconst 2, 1) := by decide +kernel
theorem dL_latest_20 : decode cL_latest 20 = .ok (.ireturn, 1) := by decide +kernel
theorem dL_latest_21 : decode cL_latest 21 = .ok (.iconst 0, 1) := by decide +kernel
theorem dL_latest_22 : decode cL_latest 22 = .ok (.ireturn, 1) := by decide +kernel
theorem dL_reasonCount_0 : decode cL_reasonCount 0 = .ok (.aload_n 3, 1) := by decide +kernel
theorem dL_reasonCount_1 : decode cL_reasonCount 1 = .ok (.iconst 0, 1) := by decide +kernel
theorem dL_reasonCount_2 : decode cL_reasonCount 2 = .ok (.aload_n 0, 1) := by decide +kernel
theorem dL_reasonCount_3 : decode cL_reasonCount 3 = .ok (.iload_n 1, 1) := by decide +kernel
theorem dL_reasonCount_4 : decode cL_reasonCount 4 = .ok (.iload_n 2, 1) := by decide +kernel
theorem dL_reasonCount_5 : decode cL_reasonCount 5 = .ok (.invokevirtual 94, 3) := by decide +kernel
theorem dL_reasonCount_8 : decode cL_reasonCount 8 = .ok (.i2l, 1) := by decide +kernel
theorem dL_reasonCount_9 : decode cL_reasonCount 9 = .ok (.lastore, 1) := by decide +kernel
theorem dL_reasonCount_10 : decode cL_reasonCount 10 = .ok (.goto 11, 3) := by decide +kernel
theorem dL_reasonCount_13 : decode cL_reasonCount 13 = .ok (.astore 4, 2) := by decide +kernel
theorem dL_reasonCount_15 : decode cL_reasonCount 15 = .ok (.iconst 1, 1) := by decide +kernel
theorem dL_reasonCount_16 : decode cL_reasonCount 16 = .ok (.ireturn, 1) := by decide +kernel
theorem dL_reasonCount_17 : decode cL_reasonCount 17 = .ok (.astore 4, 2) := by decide +kernel
theorem dL_reasonCount_19 : decode cL_reasonCount 19 = .ok (.iconst 2, 1) := by decide +kernel
theorem dL_reasonCount_20 : decode cL_reasonCount 20 = .ok (.ireturn, 1) := by decide +kernel
theorem dL_reasonCount_21 : decode cL_reasonCount 21 = .ok (.iconst 0, 1) := by decide +kernel
theorem dL_reasonCount_22 : decode cL_reasonCount 22 = .ok (.ireturn, 1) := by decide +kernel
theorem dL_longestAllowed_0 : decode cL_longestAllowed 0 = .ok (.aload_n 2, 1) := by decide +kernel
theorem dL_longestAllowed_1 : decode cL_longestAllowed 1 = .ok (.iconst 0, 1) := by decide +kernel
theorem dL_longestAllowed_2 : decode cL_longestAllowed 2 = .ok (.aload_n 0, 1) := by decide +kernel
theorem dL_longestAllowed_3 : decode cL_longestAllowed 3 = .ok (.iload_n 1, 1) := by decide +kernel
theorem dL_longestAllowed_4 : decode cL_longestAllowed 4 = .ok (.invokevirtual 97, 3) := by decide +kernel
theorem dL_longestAllowed_7 : decode cL_longestAllowed 7 = .ok (.i2l, 1) := by decide +kernel
theorem dL_longestAllowed_8 : decode cL_longestAllowed 8 = .ok (.lastore, 1) := by decide +kernel
theorem dL_longestAllowed_9 : decode cL_longestAllowed 9 = .ok (.goto 6, 3) := by decide +kernel
theorem dL_longestAllowed_12 : decode cL_longestAllowed 12 = .ok (.astore_n 3, 1) := by decide +kernel
theorem dL_longestAllowed_13 : decode cL_longestAllowed 13 = .ok (.iconst 1, 1) := by decide +kernel
theorem dL_longestAllowed_14 : decode cL_longestAllowed 14 = .ok (.ireturn, 1) := by decide +kernel
theorem dL_longestAllowed_15 : decode cL_longestAllowed 15 = .ok (.iconst 0, 1) := by decide +kernel
theorem dL_longestAllowed_16 : decode cL_longestAllowed 16 = .ok (.ireturn, 1) := by decide +kernel
theorem dL_allowedCount_0 : decode cL_allowedCount 0 = .ok (.aload_n 2, 1) := by decide +kernel
theorem dL_allowedCount_1 : decode cL_allowedCount 1 = .ok (.iconst 0, 1) := by decide +kernel
theorem dL_allowedCount_2 : decode cL_allowedCount 2 = .ok (.aload_n 0, 1) := by decide +kernel
theorem dL_allowedCount_3 : decode cL_allowedCount 3 = .ok (.iload_n 1, 1) := by decide +kernel
theorem dL_allowedCount_4 : decode cL_allowedCount 4 = .ok (.invokevirtual 100, 3) := by decide +kernel
theorem dL_allowedCount_7 : decode cL_allowedCount 7 = .ok (.i2l, 1) := by decide +kernel
theorem dL_allowedCount_8 : decode cL_allowedCount 8 = .ok (.lastore, 1) := by decide +kernel
theorem dL_allowedCount_9 : decode cL_allowedCount 9 = .ok (.goto 6, 3) := by decide +kernel
theorem dL_allowedCount_12 : decode cL_allowedCount 12 = .ok (.astore_n 3, 1) := by decide +kernel
theorem dL_allowedCount_13 : decode cL_allowedCount 13 = .ok (.iconst 1, 1) := by decide +kernel
theorem dL_allowedCount_14 : decode cL_allowedCount 14 = .ok (.ireturn, 1) := by decide +kernel
theorem dL_allowedCount_15 : decode cL_allowedCount 15 = .ok (.iconst 0, 1) := by decide +kernel
theorem dL_allowedCount_16 : decode cL_allowedCount 16 = .ok (.ireturn, 1) := by decide +kernel
theorem dL_schedule_0 : decode cL_schedule 0 = .ok (.aload_n 3, 1) := by decide +kernel
theorem dL_schedule_1 : decode cL_schedule 1 = .ok (.iconst 0, 1) := by decide +kernel
theorem dL_schedule_2 : decode cL_schedule 2 = .ok (.aload_n 0, 1) := by decide +kernel
theorem dL_schedule_3 : decode cL_schedule 3 = .ok (.iload_n 1, 1) := by decide +kernel
theorem dL_schedule_4 : decode cL_schedule 4 = .ok (.iload_n 2, 1) := by decide +kernel
theorem dL_schedule_5 : decode cL_schedule 5 = .ok (.invokevirtual 103, 3) := by decide +kernel
theorem dL_schedule_8 : decode cL_schedule 8 = .ok (.i2l, 1) := by decide +kernel
theorem dL_schedule_9 : decode cL_schedule 9 = .ok (.lastore, 1) := by decide +kernel
theorem dL_schedule_10 : decode cL_schedule 10 = .ok (.goto 15, 3) := by decide +kernel
theorem dL_schedule_13 : decode cL_schedule 13 = .ok (.astore 4, 2) := by decide +kernel
theorem dL_schedule_15 : decode cL_schedule 15 = .ok (.iconst 1, 1) := by decide +kernel
theorem dL_schedule_16 : decode cL_schedule 16 = .ok (.ireturn, 1) := by decide +kernel
theorem dL_schedule_17 : decode cL_schedule 17 = .ok (.astore 4, 2) := by decide +kernel
theorem dL_schedule_19 : decode cL_schedule 19 = .ok (.iconst 2, 1) := by decide +kernel
theorem dL_schedule_20 : decode cL_schedule 20 = .ok (.ireturn, 1) := by decide +kernel
theorem dL_schedule_21 : decode cL_schedule 21 = .ok (.astore 4, 2) := by decide +kernel
theorem dL_schedule_23 : decode cL_schedule 23 = .ok (.iconst 3, 1) := by decide +kernel
theorem dL_schedule_24 : decode cL_schedule 24 = .ok (.ireturn, 1) := by decide +kernel
theorem dL_schedule_25 : decode cL_schedule 25 = .ok (.iconst 0, 1) := by decide +kernel
theorem dL_schedule_26 : decode cL_schedule 26 = .ok (.ireturn, 1) := by decide +kernel
theorem dL_cancel_0 : decode cL_cancel 0 = .ok (.aload_n 2, 1) := by decide +kernel
theorem dL_cancel_1 : decode cL_cancel 1 = .ok (.iconst 0, 1) := by decide +kernel
theorem dL_cancel_2 : decode cL_cancel 2 = .ok (.aload_n 0, 1) := by decide +kernel
theorem dL_cancel_3 : decode cL_cancel 3 = .ok (.iload_n 1, 1) := by decide +kernel
theorem dL_cancel_4 : decode cL_cancel 4 = .ok (.invokevirtual 108, 3) := by decide +kernel
theorem dL_cancel_7 : decode cL_cancel 7 = .ok (.i2l, 1) := by decide +kernel
theorem dL_cancel_8 : decode cL_cancel 8 = .ok (.lastore, 1) := by decide +kernel
theorem dL_cancel_9 : decode cL_cancel 9 = .ok (.goto 9, 3) := by decide +kernel
theorem dL_cancel_12 : decode cL_cancel 12 = .ok (.astore_n 3, 1) := by decide +kernel
theorem dL_cancel_13 : decode cL_cancel 13 = .ok (.iconst 1, 1) := by decide +kernel
theorem dL_cancel_14 : decode cL_cancel 14 = .ok (.ireturn, 1) := by decide +kernel
theorem dL_cancel_15 : decode cL_cancel 15 = .ok (.astore_n 3, 1) := by decide +kernel
theorem dL_cancel_16 : decode cL_cancel 16 = .ok (.iconst 2, 1) := by decide +kernel
theorem dL_cancel_17 : decode cL_cancel 17 = .ok (.ireturn, 1) := by decide +kernel
theorem dL_cancel_18 : decode cL_cancel 18 = .ok (.iconst 0, 1) := by decide +kernel
theorem dL_cancel_19 : decode cL_cancel 19 = .ok (.ireturn, 1) := by decide +kernel
theorem dL_fire_0 : decode cL_fire 0 = .ok (.aload_n 2, 1) := by decide +kernel
theorem dL_fire_1 : decode cL_fire 1 = .ok (.iconst 0, 1) := by decide +kernel
theorem dL_fire_2 : decode cL_fire 2 = .ok (.aload_n 0, 1) := by decide +kernel
theorem dL_fire_3 : decode cL_fire 3 = .ok (.iload_n 1, 1) := by decide +kernel
theorem dL_fire_4 : decode cL_fire 4 = .ok (.invokevirtual 111, 3) := by decide +kernel
theorem dL_fire_7 : decode cL_fire 7 = .ok (.i2l, 1) := by decide +kernel
theorem dL_fire_8 : decode cL_fire 8 = .ok (.lastore, 1) := by decide +kernel
theorem dL_fire_9 : decode cL_fire 9 = .ok (.goto 9, 3) := by decide +kernel
theorem dL_fire_12 : decode cL_fire 12 = .ok (.astore_n 3, 1) := by decide +kernel
theorem dL_fire_13 : decode cL_fire 13 = .ok (.iconst 1, 1) := by decide +kernel
theorem dL_fire_14 : decode cL_fire 14 = .ok (.ireturn, 1) := by decide +kernel
theorem dL_fire_15 : decode cL_fire 15 = .ok (.astore_n 3, 1) := by decide +kernel
theorem dL_fire_16 : decode cL_fire 16 = .ok (.iconst 2, 1) := by decide +kernel
theorem dL_fire_17 : decode cL_fire 17 = .ok (.ireturn, 1) := by decide +kernel
theorem dL_fire_18 : decode cL_fire 18 = .ok (.iconst 0, 1) := by decide +kernel
theorem dL_fire_19 : decode cL_fire 19 = .ok (.ireturn, 1) := by decide +kernel
theorem dL_retime_0 : decode cL_retime 0 = .ok (.aload_n 3, 1) := by decide +kernel
theorem dL_retime_1 : decode cL_retime 1 = .ok (.iconst 0, 1) := by decide +kernel
theorem dL_retime_2 : decode cL_retime 2 = .ok (.aload_n 0, 1) := by decide +kernel
theorem dL_retime_3 : decode cL_retime 3 = .ok (.iload_n 1, 1) := by decide +kernel
theorem dL_retime_4 : decode cL_retime 4 = .ok (.iload_n 2, 1) := by decide +kernel
theorem dL_retime_5 : decode cL_retime 5 = .ok (.invokevirtual 114, 3) := by decide +kernel
theorem dL_retime_8 : decode cL_retime 8 = .ok (.i2l, 1) := by decide +kernel
theorem dL_retime_9 : decode cL_retime 9 = .ok (.lastore, 1) := by decide +kernel
theorem dL_retime_10 : decode cL_retime 10 = .ok (.goto 15, 3) := by decide +kernel
theorem dL_retime_13 : decode cL_retime 13 = .ok (.astore 4, 2) := by decide +kernel
theorem dL_retime_15 : decode cL_retime 15 = .ok (.iconst 1, 1) := by decide +kernel
theorem dL_retime_16 : decode cL_retime 16 = .ok (.ireturn, 1) := by decide +kernel
theorem dL_retime_17 : decode cL_retime 17 = .ok (.astore 4, 2) := by decide +kernel
theorem dL_retime_19 : decode cL_retime 19 = .ok (.iconst 2, 1) := by decide +kernel
theorem dL_retime_20 : decode cL_retime 20 = .ok (.ireturn, 1) := by decide +kernel
theorem dL_retime_21 : decode cL_retime 21 = .ok (.astore 4, 2) := by decide +kernel
theorem dL_retime_23 : decode cL_retime 23 = .ok (.iconst 3, 1) := by decide +kernel
theorem dL_retime_24 : decode cL_retime 24 = .ok (.ireturn, 1) := by decide +kernel
theorem dL_retime_25 : decode cL_retime 25 = .ok (.iconst 0, 1) := by decide +kernel
theorem dL_retime_26 : decode cL_retime 26 = .ok (.ireturn, 1) := by decide +kernel
theorem dL_closedMinutes_0 : decode cL_closedMinutes 0 = .ok (.aload_n 2, 1) := by decide +kernel
theorem dL_closedMinutes_1 : decode cL_closedMinutes 1 = .ok (.iconst 0, 1) := by decide +kernel
theorem dL_closedMinutes_2 : decode cL_closedMinutes 2 = .ok (.aload_n 0, 1) := by decide +kernel
theorem dL_closedMinutes_3 : decode cL_closedMinutes 3 = .ok (.iload_n 1, 1) := by decide +kernel
theorem dL_closedMinutes_4 : decode cL_closedMinutes 4 = .ok (.invokevirtual 117, 3) := by decide +kernel
theorem dL_closedMinutes_7 : decode cL_closedMinutes 7 = .ok (.i2l, 1) := by decide +kernel
theorem dL_closedMinutes_8 : decode cL_closedMinutes 8 = .ok (.lastore, 1) := by decide +kernel
theorem dL_closedMinutes_9 : decode cL_closedMinutes 9 = .ok (.goto 6, 3) := by decide +kernel
theorem dL_closedMinutes_12 : decode cL_closedMinutes 12 = .ok (.astore_n 3, 1) := by decide +kernel
theorem dL_closedMinutes_13 : decode cL_closedMinutes 13 = .ok (.iconst 1, 1) := by decide +kernel
theorem dL_closedMinutes_14 : decode cL_closedMinutes 14 = .ok (.ireturn, 1) := by decide +kernel
theorem dL_closedMinutes_15 : decode cL_closedMinutes 15 = .ok (.iconst 0, 1) := by decide +kernel
theorem dL_closedMinutes_16 : decode cL_closedMinutes 16 = .ok (.ireturn, 1) := by decide +kernel
theorem dL_isClosed_0 : decode cL_isClosed 0 = .ok (.aload_n 3, 1) := by decide +kernel
theorem dL_isClosed_1 : decode cL_isClosed 1 = .ok (.iconst 0, 1) := by decide +kernel
theorem dL_isClosed_2 : decode cL_isClosed 2 = .ok (.aload_n 0, 1) := by decide +kernel
theorem dL_isClosed_3 : decode cL_isClosed 3 = .ok (.iload_n 1, 1) := by decide +kernel
theorem dL_isClosed_4 : decode cL_isClosed 4 = .ok (.iload_n 2, 1) := by decide +kernel
theorem dL_isClosed_5 : decode cL_isClosed 5 = .ok (.invokevirtual 120, 3) := by decide +kernel
theorem dL_isClosed_8 : decode cL_isClosed 8 = .ok (.ifCond .eq 7, 3) := by decide +kernel
theorem dL_isClosed_11 : decode cL_isClosed 11 = .ok (.lconst 1, 1) := by decide +kernel
theorem dL_isClosed_12 : decode cL_isClosed 12 = .ok (.goto 4, 3) := by decide +kernel
theorem dL_isClosed_15 : decode cL_isClosed 15 = .ok (.lconst 0, 1) := by decide +kernel
theorem dL_isClosed_16 : decode cL_isClosed 16 = .ok (.lastore, 1) := by decide +kernel
theorem dL_isClosed_17 : decode cL_isClosed 17 = .ok (.goto 7, 3) := by decide +kernel
theorem dL_isClosed_20 : decode cL_isClosed 20 = .ok (.astore 4, 2) := by decide +kernel
theorem dL_isClosed_22 : decode cL_isClosed 22 = .ok (.iconst 1, 1) := by decide +kernel
theorem dL_isClosed_23 : decode cL_isClosed 23 = .ok (.ireturn, 1) := by decide +kernel
theorem dL_isClosed_24 : decode cL_isClosed 24 = .ok (.iconst 0, 1) := by decide +kernel
theorem dL_isClosed_25 : decode cL_isClosed 25 = .ok (.ireturn, 1) := by decide +kernel
theorem dL_closures_0 : decode cL_closures 0 = .ok (.aload_n 2, 1) := by decide +kernel
theorem dL_closures_1 : decode cL_closures 1 = .ok (.iconst 0, 1) := by decide +kernel
theorem dL_closures_2 : decode cL_closures 2 = .ok (.aload_n 0, 1) := by decide +kernel
theorem dL_closures_3 : decode cL_closures 3 = .ok (.iload_n 1, 1) := by decide +kernel
theorem dL_closures_4 : decode cL_closures 4 = .ok (.invokevirtual 123, 3) := by decide +kernel
theorem dL_closures_7 : decode cL_closures 7 = .ok (.i2l, 1) := by decide +kernel
theorem dL_closures_8 : decode cL_closures 8 = .ok (.lastore, 1) := by decide +kernel
theorem dL_closures_9 : decode cL_closures 9 = .ok (.goto 6, 3) := by decide +kernel
theorem dL_closures_12 : decode cL_closures 12 = .ok (.astore_n 3, 1) := by decide +kernel
theorem dL_closures_13 : decode cL_closures 13 = .ok (.iconst 1, 1) := by decide +kernel
theorem dL_closures_14 : decode cL_closures 14 = .ok (.ireturn, 1) := by decide +kernel
theorem dL_closures_15 : decode cL_closures 15 = .ok (.iconst 0, 1) := by decide +kernel
theorem dL_closures_16 : decode cL_closures 16 = .ok (.ireturn, 1) := by decide +kernel
theorem dL_closureStart_0 : decode cL_closureStart 0 = .ok (.aload_n 3, 1) := by decide +kernel
theorem dL_closureStart_1 : decode cL_closureStart 1 = .ok (.iconst 0, 1) := by decide +kernel
theorem dL_closureStart_2 : decode cL_closureStart 2 = .ok (.aload_n 0, 1) := by decide +kernel
theorem dL_closureStart_3 : decode cL_closureStart 3 = .ok (.iload_n 1, 1) := by decide +kernel
theorem dL_closureStart_4 : decode cL_closureStart 4 = .ok (.iload_n 2, 1) := by decide +kernel
theorem dL_closureStart_5 : decode cL_closureStart 5 = .ok (.invokevirtual 126, 3) := by decide +kernel
theorem dL_closureStart_8 : decode cL_closureStart 8 = .ok (.i2l, 1) := by decide +kernel
theorem dL_closureStart_9 : decode cL_closureStart 9 = .ok (.lastore, 1) := by decide +kernel
theorem dL_closureStart_10 : decode cL_closureStart 10 = .ok (.goto 7, 3) := by decide +kernel
theorem dL_closureStart_13 : decode cL_closureStart 13 = .ok (.astore 4, 2) := by decide +kernel
theorem dL_closureStart_15 : decode cL_closureStart 15 = .ok (.iconst 1, 1) := by decide +kernel
theorem dL_closureStart_16 : decode cL_closureStart 16 = .ok (.ireturn, 1) := by decide +kernel
theorem dL_closureStart_17 : decode cL_closureStart 17 = .ok (.iconst 0, 1) := by decide +kernel
theorem dL_closureStart_18 : decode cL_closureStart 18 = .ok (.ireturn, 1) := by decide +kernel
theorem dL_closureLength_0 : decode cL_closureLength 0 = .ok (.aload_n 3, 1) := by decide +kernel
theorem dL_closureLength_1 : decode cL_closureLength 1 = .ok (.iconst 0, 1) := by decide +kernel
theorem dL_closureLength_2 : decode cL_closureLength 2 = .ok (.aload_n 0, 1) := by decide +kernel
theorem dL_closureLength_3 : decode cL_closureLength 3 = .ok (.iload_n 1, 1) := by decide +kernel
theorem dL_closureLength_4 : decode cL_closureLength 4 = .ok (.iload_n 2, 1) := by decide +kernel
theorem dL_closureLength_5 : decode cL_closureLength 5 = .ok (.invokevirtual 129, 3) := by decide +kernel
theorem dL_closureLength_8 : decode cL_closureLength 8 = .ok (.i2l, 1) := by decide +kernel
theorem dL_closureLength_9 : decode cL_closureLength 9 = .ok (.lastore, 1) := by decide +kernel
theorem dL_closureLength_10 : decode cL_closureLength 10 = .ok (.goto 7, 3) := by decide +kernel
theorem dL_closureLength_13 : decode cL_closureLength 13 = .ok (.astore 4, 2) := by decide +kernel
theorem dL_closureLength_15 : decode cL_closureLength 15 = .ok (.iconst 1, 1) := by decide +kernel
theorem dL_closureLength_16 : decode cL_closureLength 16 = .ok (.ireturn, 1) := by decide +kernel
theorem dL_closureLength_17 : decode cL_closureLength 17 = .ok (.iconst 0, 1) := by decide +kernel
theorem dL_closureLength_18 : decode cL_closureLength 18 = .ok (.ireturn, 1) := by decide +kernel
theorem dL_openMinutes_0 : decode cL_openMinutes 0 = .ok (.aload 4, 2) := by decide +kernel
theorem dL_openMinutes_2 : decode cL_openMinutes 2 = .ok (.iconst 0, 1) := by decide +kernel
theorem dL_openMinutes_3 : decode cL_openMinutes 3 = .ok (.aload_n 0, 1) := by decide +kernel
theorem dL_openMinutes_4 : decode cL_openMinutes 4 = .ok (.iload_n 1, 1) := by decide +kernel
theorem dL_openMinutes_5 : decode cL_openMinutes 5 = .ok (.iload_n 2, 1) := by decide +kernel
theorem dL_openMinutes_6 : decode cL_openMinutes 6 = .ok (.iload_n 3, 1) := by decide +kernel
theorem dL_openMinutes_7 : decode cL_openMinutes 7 = .ok (.invokevirtual 132, 3) := by decide +kernel
theorem dL_openMinutes_10 : decode cL_openMinutes 10 = .ok (.i2l, 1) := by decide +kernel
theorem dL_openMinutes_11 : decode cL_openMinutes 11 = .ok (.lastore, 1) := by decide +kernel
theorem dL_openMinutes_12 : decode cL_openMinutes 12 = .ok (.goto 11, 3) := by decide +kernel
theorem dL_openMinutes_15 : decode cL_openMinutes 15 = .ok (.astore 5, 2) := by decide +kernel
theorem dL_openMinutes_17 : decode cL_openMinutes 17 = .ok (.iconst 1, 1) := by decide +kernel
theorem dL_openMinutes_18 : decode cL_openMinutes 18 = .ok (.ireturn, 1) := by decide +kernel
theorem dL_openMinutes_19 : decode cL_openMinutes 19 = .ok (.astore 5, 2) := by decide +kernel
theorem dL_openMinutes_21 : decode cL_openMinutes 21 = .ok (.iconst 2, 1) := by decide +kernel
theorem dL_openMinutes_22 : decode cL_openMinutes 22 = .ok (.ireturn, 1) := by decide +kernel
theorem dL_openMinutes_23 : decode cL_openMinutes 23 = .ok (.iconst 0, 1) := by decide +kernel
theorem dL_openMinutes_24 : decode cL_openMinutes 24 = .ok (.ireturn, 1) := by decide +kernel
theorem dL_sharedMinutes_0 : decode cL_sharedMinutes 0 = .ok (.aload_n 3, 1) := by decide +kernel
theorem dL_sharedMinutes_1 : decode cL_sharedMinutes 1 = .ok (.iconst 0, 1) := by decide +kernel
theorem dL_sharedMinutes_2 : decode cL_sharedMinutes 2 = .ok (.aload_n 0, 1) := by decide +kernel
theorem dL_sharedMinutes_3 : decode cL_sharedMinutes 3 = .ok (.iload_n 1, 1) := by decide +kernel
theorem dL_sharedMinutes_4 : decode cL_sharedMinutes 4 = .ok (.iload_n 2, 1) := by decide +kernel
theorem dL_sharedMinutes_5 : decode cL_sharedMinutes 5 = .ok (.invokevirtual 135, 3) := by decide +kernel
theorem dL_sharedMinutes_8 : decode cL_sharedMinutes 8 = .ok (.i2l, 1) := by decide +kernel
theorem dL_sharedMinutes_9 : decode cL_sharedMinutes 9 = .ok (.lastore, 1) := by decide +kernel
theorem dL_sharedMinutes_10 : decode cL_sharedMinutes 10 = .ok (.goto 7, 3) := by decide +kernel
theorem dL_sharedMinutes_13 : decode cL_sharedMinutes 13 = .ok (.astore 4, 2) := by decide +kernel
theorem dL_sharedMinutes_15 : decode cL_sharedMinutes 15 = .ok (.iconst 1, 1) := by decide +kernel
theorem dL_sharedMinutes_16 : decode cL_sharedMinutes 16 = .ok (.ireturn, 1) := by decide +kernel
theorem dL_sharedMinutes_17 : decode cL_sharedMinutes 17 = .ok (.iconst 0, 1) := by decide +kernel
theorem dL_sharedMinutes_18 : decode cL_sharedMinutes 18 = .ok (.ireturn, 1) := by decide +kernel
theorem dL_sirenMinute_0 : decode cL_sirenMinute 0 = .ok (.aload_n 2, 1) := by decide +kernel
theorem dL_sirenMinute_1 : decode cL_sirenMinute 1 = .ok (.iconst 0, 1) := by decide +kernel
theorem dL_sirenMinute_2 : decode cL_sirenMinute 2 = .ok (.aload_n 0, 1) := by decide +kernel
theorem dL_sirenMinute_3 : decode cL_sirenMinute 3 = .ok (.iload_n 1, 1) := by decide +kernel
theorem dL_sirenMinute_4 : decode cL_sirenMinute 4 = .ok (.invokevirtual 138, 3) := by decide +kernel
theorem dL_sirenMinute_7 : decode cL_sirenMinute 7 = .ok (.i2l, 1) := by decide +kernel
theorem dL_sirenMinute_8 : decode cL_sirenMinute 8 = .ok (.lastore, 1) := by decide +kernel
theorem dL_sirenMinute_9 : decode cL_sirenMinute 9 = .ok (.goto 6, 3) := by decide +kernel
theorem dL_sirenMinute_12 : decode cL_sirenMinute 12 = .ok (.astore_n 3, 1) := by decide +kernel
theorem dL_sirenMinute_13 : decode cL_sirenMinute 13 = .ok (.iconst 1, 1) := by decide +kernel
theorem dL_sirenMinute_14 : decode cL_sirenMinute 14 = .ok (.ireturn, 1) := by decide +kernel
theorem dL_sirenMinute_15 : decode cL_sirenMinute 15 = .ok (.iconst 0, 1) := by decide +kernel
theorem dL_sirenMinute_16 : decode cL_sirenMinute 16 = .ok (.ireturn, 1) := by decide +kernel
theorem dL_sirenKind_0 : decode cL_sirenKind 0 = .ok (.aload_n 2, 1) := by decide +kernel
theorem dL_sirenKind_1 : decode cL_sirenKind 1 = .ok (.iconst 0, 1) := by decide +kernel
theorem dL_sirenKind_2 : decode cL_sirenKind 2 = .ok (.aload_n 0, 1) := by decide +kernel
theorem dL_sirenKind_3 : decode cL_sirenKind 3 = .ok (.iload_n 1, 1) := by decide +kernel
theorem dL_sirenKind_4 : decode cL_sirenKind 4 = .ok (.invokevirtual 141, 3) := by decide +kernel
theorem dL_sirenKind_7 : decode cL_sirenKind 7 = .ok (.i2l, 1) := by decide +kernel
theorem dL_sirenKind_8 : decode cL_sirenKind 8 = .ok (.lastore, 1) := by decide +kernel
theorem dL_sirenKind_9 : decode cL_sirenKind 9 = .ok (.goto 6, 3) := by decide +kernel
theorem dL_sirenKind_12 : decode cL_sirenKind 12 = .ok (.astore_n 3, 1) := by decide +kernel
theorem dL_sirenKind_13 : decode cL_sirenKind 13 = .ok (.iconst 1, 1) := by decide +kernel
theorem dL_sirenKind_14 : decode cL_sirenKind 14 = .ok (.ireturn, 1) := by decide +kernel
theorem dL_sirenKind_15 : decode cL_sirenKind 15 = .ok (.iconst 0, 1) := by decide +kernel
theorem dL_sirenKind_16 : decode cL_sirenKind 16 = .ok (.ireturn, 1) := by decide +kernel
theorem dL_sirenBlast_0 : decode cL_sirenBlast 0 = .ok (.aload_n 2, 1) := by decide +kernel
theorem dL_sirenBlast_1 : decode cL_sirenBlast 1 = .ok (.iconst 0, 1) := by decide +kernel
theorem dL_sirenBlast_2 : decode cL_sirenBlast 2 = .ok (.aload_n 0, 1) := by decide +kernel
theorem dL_sirenBlast_3 : decode cL_sirenBlast 3 = .ok (.iload_n 1, 1) := by decide +kernel
theorem dL_sirenBlast_4 : decode cL_sirenBlast 4 = .ok (.invokevirtual 144, 3) := by decide +kernel
theorem dL_sirenBlast_7 : decode cL_sirenBlast 7 = .ok (.i2l, 1) := by decide +kernel
theorem dL_sirenBlast_8 : decode cL_sirenBlast 8 = .ok (.lastore, 1) := by decide +kernel
theorem dL_sirenBlast_9 : decode cL_sirenBlast 9 = .ok (.goto 6, 3) := by decide +kernel
theorem dL_sirenBlast_12 : decode cL_sirenBlast 12 = .ok (.astore_n 3, 1) := by decide +kernel
theorem dL_sirenBlast_13 : decode cL_sirenBlast 13 = .ok (.iconst 1, 1) := by decide +kernel
theorem dL_sirenBlast_14 : decode cL_sirenBlast 14 = .ok (.ireturn, 1) := by decide +kernel
theorem dL_sirenBlast_15 : decode cL_sirenBlast 15 = .ok (.iconst 0, 1) := by decide +kernel
theorem dL_sirenBlast_16 : decode cL_sirenBlast 16 = .ok (.ireturn, 1) := by decide +kernel
theorem dL_planLength_0 : decode cL_planLength 0 = .ok (.aload_n 1, 1) := by decide +kernel
theorem dL_planLength_1 : decode cL_planLength 1 = .ok (.iconst 0, 1) := by decide +kernel
theorem dL_planLength_2 : decode cL_planLength 2 = .ok (.aload_n 0, 1) := by decide +kernel
theorem dL_planLength_3 : decode cL_planLength 3 = .ok (.invokevirtual 147, 3) := by decide +kernel
theorem dL_planLength_6 : decode cL_planLength 6 = .ok (.i2l, 1) := by decide +kernel
theorem dL_planLength_7 : decode cL_planLength 7 = .ok (.lastore, 1) := by decide +kernel
theorem dL_planLength_8 : decode cL_planLength 8 = .ok (.goto 6, 3) := by decide +kernel
theorem dL_planLength_11 : decode cL_planLength 11 = .ok (.astore_n 2, 1) := by decide +kernel
theorem dL_planLength_12 : decode cL_planLength 12 = .ok (.iconst 1, 1) := by decide +kernel
theorem dL_planLength_13 : decode cL_planLength 13 = .ok (.ireturn, 1) := by decide +kernel
theorem dL_planLength_14 : decode cL_planLength 14 = .ok (.iconst 0, 1) := by decide +kernel
theorem dL_planLength_15 : decode cL_planLength 15 = .ok (.ireturn, 1) := by decide +kernel
theorem dL_planTime_0 : decode cL_planTime 0 = .ok (.aload_n 2, 1) := by decide +kernel
theorem dL_planTime_1 : decode cL_planTime 1 = .ok (.iconst 0, 1) := by decide +kernel
theorem dL_planTime_2 : decode cL_planTime 2 = .ok (.aload_n 0, 1) := by decide +kernel
theorem dL_planTime_3 : decode cL_planTime 3 = .ok (.iload_n 1, 1) := by decide +kernel
theorem dL_planTime_4 : decode cL_planTime 4 = .ok (.invokevirtual 150, 3) := by decide +kernel
theorem dL_planTime_7 : decode cL_planTime 7 = .ok (.i2l, 1) := by decide +kernel
theorem dL_planTime_8 : decode cL_planTime 8 = .ok (.lastore, 1) := by decide +kernel
theorem dL_planTime_9 : decode cL_planTime 9 = .ok (.goto 9, 3) := by decide +kernel
theorem dL_planTime_12 : decode cL_planTime 12 = .ok (.astore_n 3, 1) := by decide +kernel
theorem dL_planTime_13 : decode cL_planTime 13 = .ok (.iconst 1, 1) := by decide +kernel
theorem dL_planTime_14 : decode cL_planTime 14 = .ok (.ireturn, 1) := by decide +kernel
theorem dL_planTime_15 : decode cL_planTime 15 = .ok (.astore_n 3, 1) := by decide +kernel
theorem dL_planTime_16 : decode cL_planTime 16 = .ok (.iconst 2, 1) := by decide +kernel
theorem dL_planTime_17 : decode cL_planTime 17 = .ok (.ireturn, 1) := by decide +kernel
theorem dL_planTime_18 : decode cL_planTime 18 = .ok (.iconst 0, 1) := by decide +kernel
theorem dL_planTime_19 : decode cL_planTime 19 = .ok (.ireturn, 1) := by decide +kernel
theorem dL_applyPlan_0 : decode cL_applyPlan 0 = .ok (.aload_n 1, 1) := by decide +kernel
theorem dL_applyPlan_1 : decode cL_applyPlan 1 = .ok (.iconst 0, 1) := by decide +kernel
theorem dL_applyPlan_2 : decode cL_applyPlan 2 = .ok (.aload_n 0, 1) := by decide +kernel
theorem dL_applyPlan_3 : decode cL_applyPlan 3 = .ok (.invokevirtual 153, 3) := by decide +kernel
theorem dL_applyPlan_6 : decode cL_applyPlan 6 = .ok (.i2l, 1) := by decide +kernel
theorem dL_applyPlan_7 : decode cL_applyPlan 7 = .ok (.lastore, 1) := by decide +kernel
theorem dL_applyPlan_8 : decode cL_applyPlan 8 = .ok (.goto 6, 3) := by decide +kernel
theorem dL_applyPlan_11 : decode cL_applyPlan 11 = .ok (.astore_n 2, 1) := by decide +kernel
theorem dL_applyPlan_12 : decode cL_applyPlan 12 = .ok (.iconst 1, 1) := by decide +kernel
theorem dL_applyPlan_13 : decode cL_applyPlan 13 = .ok (.ireturn, 1) := by decide +kernel
theorem dL_applyPlan_14 : decode cL_applyPlan 14 = .ok (.iconst 0, 1) := by decide +kernel
theorem dL_applyPlan_15 : decode cL_applyPlan 15 = .ok (.ireturn, 1) := by decide +kernel
theorem dL_format_0 : decode cL_format 0 = .ok (.aload_n 2, 1) := by decide +kernel
theorem dL_format_1 : decode cL_format 1 = .ok (.iconst 0, 1) := by decide +kernel
theorem dL_format_2 : decode cL_format 2 = .ok (.aload_n 0, 1) := by decide +kernel
theorem dL_format_3 : decode cL_format 3 = .ok (.iload_n 1, 1) := by decide +kernel
theorem dL_format_4 : decode cL_format 4 = .ok (.invokevirtual 156, 3) := by decide +kernel
theorem dL_format_7 : decode cL_format 7 = .ok (.i2l, 1) := by decide +kernel
theorem dL_format_8 : decode cL_format 8 = .ok (.lastore, 1) := by decide +kernel
theorem dL_format_9 : decode cL_format 9 = .ok (.goto 6, 3) := by decide +kernel
theorem dL_format_12 : decode cL_format 12 = .ok (.astore_n 3, 1) := by decide +kernel
theorem dL_format_13 : decode cL_format 13 = .ok (.iconst 1, 1) := by decide +kernel
theorem dL_format_14 : decode cL_format 14 = .ok (.ireturn, 1) := by decide +kernel
theorem dL_format_15 : decode cL_format 15 = .ok (.iconst 0, 1) := by decide +kernel
theorem dL_format_16 : decode cL_format 16 = .ok (.ireturn, 1) := by decide +kernel
set_option maxHeartbeats 4000000 in
set_option maxRecDepth 100000 in
theorem h_load_ret {l : Launch} {g : GL} {R R1 : Nat → Nat → Nat} {L : Nat → Nat → Int64} {N : Nat} {σ σ1 : SI} {x0 o : Nat} {v : Int32} (hm : f_X11_load N R σ x0 = some ((.inl v, σ1), R1)) (hSh : ShR R) (hx0 : Ok 194 x0 11) (ho : Ok 194 o 40001) : CtW l g 11 yL_load cL_load 3 (some .int) [(0, 8, 11, 13)] 1 6 [.ref (gb g + x0), .ref (gb g + o)] (mkS σ R L) (fun w σ' => w = some (.int 0) ∧ σ' = uL (mkS σ1 R1 L) o 0 v.toInt64) := by
  refine met_ofWH (cc := cL_load) (maxL := 3) (ret := (some .int)) (hh := [(0, 8, 11, 13)]) (by decide) rfl ?_
  intro p e s m args below meth c s₁ B hml hT hv
  obtain ⟨rfl, hE, hLo, hWd⟩ := hv
  have hr : meth.sig.returnType = (some .int) := B.returns
  have C : Cx l g p s m meth c cL_load 3 RL := ⟨B.exec, B.bytes, hml, findClass_of_methodNamed B.named, hE, hLo, B.notSynchronized⟩
  have S : S2 g s σ R L s.heap [] := ⟨hWd, va_S.rf⟩
  have hx := C.1
  have hb := C.2.1
  have hl := lv_entry ([.ref (gb g + x0), .ref (gb g + o)]) (n := 3) (Nat.le_of_ble_eq_true rfl)
  rw [lg_entry_eq]
  generalize (lg_sl ([.ref (gb g + x0), .ref (gb g + o)]) ++ List.replicate (3 - (lg_sl ([.ref (gb g + x0), .ref (gb g + o)])).length) Slot.unset).toArray = ls at hl ⊢
  have hl : lv_has ls 3 [(0, .ref (gb g + x0)), (1, .ref (gb g + o))] := hl
  generalize hH : s.heap = H at S ⊢
  generalize hlc : ([] : List Loc) = locs at S ⊢
  refine lv_aload_n hx hb dL_load_0 rfl (lv_at hl 1 rfl) ?_
  refine lv_iconst (v := (0 : Int32)) hx hb dL_load_1 (by decide) ?_
  refine lv_aload_n hx hb dL_load_2 rfl (lv_at hl 0 rfl) ?_
  refine v_callVC C S KX11 hx0 (ok_X11_load (L := L) hm hSh hx0) ⟨cd_X11_load, ni_RX11, ml_RL_7, in_X11_load, sl_X11_load⟩ ⟨by decide, by decide⟩ rfl (rm_ok (by decide) (by decide)) hl.1 rfl (Nat.le_of_ble_eq_true rfl) ⟨by decide, by decide⟩ dL_load_3 (fun v σ' H locs hp S => ?_) (fun E σ' H locs q ce hp S hcell hcv hcl => ?_)
  · obtain ⟨_, hk, rfl, rfl⟩ := hp
    cases hk
    have S : S2 g s σ1 R1 L H locs := S
    refine lv_i2l hx hb dL_load_6 rfl ?_
    refine x_last C S ho dL_load_7 (fun H locs S => ?_)
    refine lv_goto (tgt := 14) hx hb dL_load_8 (by decide) ?_
    refine lv_iconst (v := (0 : Int32)) hx hb dL_load_14 (by decide) ?_
    exact v_iret C S hr ⟨rfl, rfl⟩ dL_load_15
  · obtain ⟨k, hk, -⟩ := hp
    cases hk
set_option maxHeartbeats 4000000 in
set_option maxRecDepth 100000 in
theorem h_load_x1 {l : Launch} {g : GL} {R R1 : Nat → Nat → Nat} {L : Nat → Nat → Int64} {N : Nat} {σ σ1 : SI} {x0 o : Nat} (hm : f_X11_load N R σ x0 = some ((.inr 1, σ1), R1)) (hSh : ShR R) (hx0 : Ok 194 x0 11) (ho : Ok 194 o 40001) : CtW l g 11 yL_load cL_load 3 (some .int) [(0, 8, 11, 13)] 1 6 [.ref (gb g + x0), .ref (gb g + o)] (mkS σ R L) (fun w σ' => w = some (.int 1) ∧ σ' = mkS σ1 R1 L) := by
  refine met_ofWH (cc := cL_load) (maxL := 3) (ret := (some .int)) (hh := [(0, 8, 11, 13)]) (by decide) rfl ?_
  intro p e s m args below meth c s₁ B hml hT hv
  obtain ⟨rfl, hE, hLo, hWd⟩ := hv
  have hr : meth.sig.returnType = (some .int) := B.returns
  have C : Cx l g p s m meth c cL_load 3 RL := ⟨B.exec, B.bytes, hml, findClass_of_methodNamed B.named, hE, hLo, B.notSynchronized⟩
  have S : S2 g s σ R L s.heap [] := ⟨hWd, va_S.rf⟩
  have hx := C.1
  have hb := C.2.1
  have hl := lv_entry ([.ref (gb g + x0), .ref (gb g + o)]) (n := 3) (Nat.le_of_ble_eq_true rfl)
  rw [lg_entry_eq]
  generalize (lg_sl ([.ref (gb g + x0), .ref (gb g + o)]) ++ List.replicate (3 - (lg_sl ([.ref (gb g + x0), .ref (gb g + o)])).length) Slot.unset).toArray = ls at hl ⊢
  have hl : lv_has ls 3 [(0, .ref (gb g + x0)), (1, .ref (gb g + o))] := hl
  generalize hH : s.heap = H at S ⊢
  generalize hlc : ([] : List Loc) = locs at S ⊢
  refine lv_aload_n hx hb dL_load_0 rfl (lv_at hl 1 rfl) ?_
  refine lv_iconst (v := (0 : Int32)) hx hb dL_load_1 (by decide) ?_
  refine lv_aload_n hx hb dL_load_2 rfl (lv_at hl 0 rfl) ?_
  refine v_callVC C S KX11 hx0 (ok_X11_load (L := L) hm hSh hx0) ⟨cd_X11_load, ni_RX11, ml_RL_7, in_X11_load, sl_X11_load⟩ ⟨by decide, by decide⟩ rfl (rm_ok (by decide) (by decide)) hl.1 rfl (Nat.le_of_ble_eq_true rfl) ⟨by decide, by decide⟩ dL_load_3 (fun v σ' H locs hp S => ?_) (fun E σ' H locs q ce hp S hcell hcv hcl => ?_)
  · obtain ⟨k, hk, -⟩ := hp
    cases hk
  · obtain ⟨k, hk, rfl, rfl⟩ := hp
    cases hk
    have S : S2 g s σ1 R1 L H locs := S
    refine x_catch (E := "java/lang/IllegalArgumentException") C [] ⟨0, 8, 11, 13⟩ [] (hT.trans rfl) (fun z hz => by cases hz) (by decide) (by decide) cl_RL_13 ca_1 hcell hcv hcl ?_
    refine lv_astore_n (lv' := [(2, .ref q), (0, .ref (gb g + x0)), (1, .ref (gb g + o))]) hx hb dL_load_11 rfl hl (by decide) rfl (fun ls hl => ?_)
    refine lv_iconst (v := (1 : Int32)) hx hb dL_load_12 (by decide) ?_
    exact v_iret C S hr ⟨rfl, rfl⟩ dL_load_13
set_option maxHeartbeats 4000000 in
set_option maxRecDepth 100000 in
theorem h_chargeCount_ret {l : Launch} {g : GL} {R : Nat → Nat → Nat} {L : Nat → Nat → Int64} {N : Nat} {σ σ1 : SI} {x0 o : Nat} {a1 : Int32} {v : Int32} (hm : f_X11_chargeCount N R σ x0 a1 = some (.inl v, σ1)) (hSh : ShR R) (hx0 : Ok 194 x0 11) (ho : Ok 194 o 40001) : CtW l g 9 yL_chargeCount cL_chargeCount 4 (some .int) [(0, 9, 12, 19)] 1 6 [.ref (gb g + x0), .int a1, .ref (gb g + o)] (mkS σ R L) (fun w σ' => w = some (.int 0) ∧ σ' = uL (mkS σ1 R L) o 0 v.toInt64) := by
  refine met_ofWH (cc := cL_chargeCount) (maxL := 4) (ret := (some .int)) (hh := [(0, 9, 12, 19)]) (by decide) rfl ?_
  intro p e s m args below meth c s₁ B hml hT hv
  obtain ⟨rfl, hE, hLo, hWd⟩ := hv
  have hr : meth.sig.returnType = (some .int) := B.returns
  have C : Cx l g p s m meth c cL_chargeCount 4 RL := ⟨B.exec, B.bytes, hml, findClass_of_methodNamed B.named, hE, hLo, B.notSynchronized⟩
  have S : S2 g s σ R L s.heap [] := ⟨hWd, va_S.rf⟩
  have hx := C.1
  have hb := C.2.1
  have hl := lv_entry ([.ref (gb g + x0), .int a1, .ref (gb g + o)]) (n := 4) (Nat.le_of_ble_eq_true rfl)
  rw [lg_entry_eq]
  generalize (lg_sl ([.ref (gb g + x0), .int a1, .ref (gb g + o)]) ++ List.replicate (4 - (lg_sl ([.ref (gb g + x0), .int a1, .ref (gb g + o)])).length) Slot.unset).toArray = ls at hl ⊢
  have hl : lv_has ls 4 [(0, .ref (gb g + x0)), (1, .int a1), (2, .ref (gb g + o))] := hl
  generalize hH : s.heap = H at S ⊢
  generalize hlc : ([] : List Loc) = locs at S ⊢
  refine lv_aload_n hx hb dL_chargeCount_0 rfl (lv_at hl 2 rfl) ?_
  refine lv_iconst (v := (0 : Int32)) hx hb dL_chargeCount_1 (by decide) ?_
  refine lv_aload_n hx hb dL_chargeCount_2 rfl (lv_at hl 0 rfl) ?_
  refine lv_iload_n hx hb dL_chargeCount_3 rfl (lv_at hl 1 rfl) ?_
  refine v_callVC C S KX11 hx0 (ok_X11_chargeCount (L := L) hm hSh hx0) ⟨cd_X11_chargeCount, ni_RX11, ml_RL_15, in_X11_chargeCount, sl_X11_chargeCount⟩ ⟨by decide, by decide⟩ rfl (rm_ok (by decide) (by decide)) hl.1 rfl (Nat.le_of_ble_eq_true rfl) ⟨by decide, by decide⟩ dL_chargeCount_4 (fun v σ' H locs hp S => ?_) (fun E σ' H locs q ce hp S hcell hcv hcl => ?_)
  · obtain ⟨_, hk, rfl, rfl⟩ := hp
    cases hk
    have S : S2 g s σ1 R L H locs := S
    refine lv_i2l hx hb dL_chargeCount_7 rfl ?_
    refine x_last C S ho dL_chargeCount_8 (fun H locs S => ?_)
    refine lv_goto (tgt := 15) hx hb dL_chargeCount_9 (by decide) ?_
    refine lv_iconst (v := (0 : Int32)) hx hb dL_chargeCount_15 (by decide) ?_
    exact v_iret C S hr ⟨rfl, rfl⟩ dL_chargeCount_16
  · obtain ⟨k, hk, -⟩ := hp
    cases hk
set_option maxHeartbeats 4000000 in
set_option maxRecDepth 100000 in
theorem h_chargeCount_x0 {l : Launch} {g : GL} {R : Nat → Nat → Nat} {L : Nat → Nat → Int64} {N : Nat} {σ σ1 : SI} {x0 o : Nat} {a1 : Int32} (hm : f_X11_chargeCount N R σ x0 a1 = some (.inr 0, σ1)) (hSh : ShR R) (hx0 : Ok 194 x0 11) (ho : Ok 194 o 40001) : CtW l g 9 yL_chargeCount cL_chargeCount 4 (some .int) [(0, 9, 12, 19)] 1 6 [.ref (gb g + x0), .int a1, .ref (gb g + o)] (mkS σ R L) (fun w σ' => w = some (.int 1) ∧ σ' = mkS σ1 R L) := by
  refine met_ofWH (cc := cL_chargeCount) (maxL := 4) (ret := (some .int)) (hh := [(0, 9, 12, 19)]) (by decide) rfl ?_
  intro p e s m args below meth c s₁ B hml hT hv
  obtain ⟨rfl, hE, hLo, hWd⟩ := hv
  have hr : meth.sig.returnType = (some .int) := B.returns
  have C : Cx l g p s m meth c cL_chargeCount 4 RL := ⟨B.exec, B.bytes, hml, findClass_of_methodNamed B.named, hE, hLo, B.notSynchronized⟩
  have S : S2 g s σ R L s.heap [] := ⟨hWd, va_S.rf⟩
  have hx := C.1
  have hb := C.2.1
  have hl := lv_entry ([.ref (gb g + x0), .int a1, .ref (gb g + o)]) (n := 4) (Nat.le_of_ble_eq_true rfl)
  rw [lg_entry_eq]
  generalize (lg_sl ([.ref (gb g + x0), .int a1, .ref (gb g + o)]) ++ List.replicate (4 - (lg_sl ([.ref (gb g + x0), .int a1, .ref (gb g + o)])).length) Slot.unset).toArray = ls at hl ⊢
  have hl : lv_has ls 4 [(0, .ref (gb g + x0)), (1, .int a1), (2, .ref (gb g + o))] := hl
  generalize hH : s.heap = H at S ⊢
  generalize hlc : ([] : List Loc) = locs at S ⊢
  refine lv_aload_n hx hb dL_chargeCount_0 rfl (lv_at hl 2 rfl) ?_
  refine lv_iconst (v := (0 : Int32)) hx hb dL_chargeCount_1 (by decide) ?_
  refine lv_aload_n hx hb dL_chargeCount_2 rfl (lv_at hl 0 rfl) ?_
  refine lv_iload_n hx hb dL_chargeCount_3 rfl (lv_at hl 1 rfl) ?_
  refine v_callVC C S KX11 hx0 (ok_X11_chargeCount (L := L) hm hSh hx0) ⟨cd_X11_chargeCount, ni_RX11, ml_RL_15, in_X11_chargeCount, sl_X11_chargeCount⟩ ⟨by decide, by decide⟩ rfl (rm_ok (by decide) (by decide)) hl.1 rfl (Nat.le_of_ble_eq_true rfl) ⟨by decide, by decide⟩ dL_chargeCount_4 (fun v σ' H locs hp S => ?_) (fun E σ' H locs q ce hp S hcell hcv hcl => ?_)
  · obtain ⟨k, hk, -⟩ := hp
    cases hk
  · obtain ⟨k, hk, rfl, rfl⟩ := hp
    cases hk
    have S : S2 g s σ1 R L H locs := S
    refine x_catch (E := "java/lang/IndexOutOfBoundsException") C [] ⟨0, 9, 12, 19⟩ [] (hT.trans rfl) (fun z hz => by cases hz) (by decide) (by decide) cl_RL_19 ca_0 hcell hcv hcl ?_
    refine lv_astore_n (lv' := [(3, .ref q), (0, .ref (gb g + x0)), (1, .int a1), (2, .ref (gb g + o))]) hx hb dL_chargeCount_12 rfl hl (by decide) rfl (fun ls hl => ?_)
    refine lv_iconst (v := (1 : Int32)) hx hb dL_chargeCount_13 (by decide) ?_
    exact v_iret C S hr ⟨rfl, rfl⟩ dL_chargeCount_14
set_option maxHeartbeats 4000000 in
set_option maxRecDepth 100000 in
theorem h_chargeSize_ret {l : Launch} {g : GL} {R : Nat → Nat → Nat} {L : Nat → Nat → Int64} {N : Nat} {σ σ1 : SI} {x0 o : Nat} {a1 : Int32} {a2 : Int32} {v : Int32} (hm : f_X11_chargeSize N R σ x0 a1 a2 = some (.inl v, σ1)) (hSh : ShR R) (hx0 : Ok 194 x0 11) (ho : Ok 194 o 40001) : CtW l g 9 yL_chargeSize cL_chargeSize 5 (some .int) [(0, 10, 13, 19)] 2 12 [.ref (gb g + x0), .int a1, .int a2, .ref (gb g + o)] (mkS σ R L) (fun w σ' => w = some (.int 0) ∧ σ' = uL (mkS σ1 R L) o 0 v.toInt64) := by
  refine met_ofWH (cc := cL_chargeSize) (maxL := 5) (ret := (some .int)) (hh := [(0, 10, 13, 19)]) (by decide) rfl ?_
  intro p e s m args below meth c s₁ B hml hT hv
  obtain ⟨rfl, hE, hLo, hWd⟩ := hv
  have hr : meth.sig.returnType = (some .int) := B.returns
  have C : Cx l g p s m meth c cL_chargeSize 5 RL := ⟨B.exec, B.bytes, hml, findClass_of_methodNamed B.named, hE, hLo, B.notSynchronized⟩
  have S : S2 g s σ R L s.heap [] := ⟨hWd, va_S.rf⟩
  have hx := C.1
  have hb := C.2.1
  have hl := lv_entry ([.ref (gb g + x0), .int a1, .int a2, .ref (gb g + o)]) (n := 5) (Nat.le_of_ble_eq_true rfl)
  rw [lg_entry_eq]
  generalize (lg_sl ([.ref (gb g + x0), .int a1, .int a2, .ref (gb g + o)]) ++ List.replicate (5 - (lg_sl ([.ref (gb g + x0), .int a1, .int a2, .ref (gb g + o)])).length) Slot.unset).toArray = ls at hl ⊢
  have hl : lv_has ls 5 [(0, .ref (gb g + x0)), (1, .int a1), (2, .int a2), (3, .ref (gb g + o))] := hl
  generalize hH : s.heap = H at S ⊢
  generalize hlc : ([] : List Loc) = locs at S ⊢
  refine lv_aload_n hx hb dL_chargeSize_0 rfl (lv_at hl 3 rfl) ?_
  refine lv_iconst (v := (0 : Int32)) hx hb dL_chargeSize_1 (by decide) ?_
  refine lv_aload_n hx hb dL_chargeSize_2 rfl (lv_at hl 0 rfl) ?_
  refine lv_iload_n hx hb dL_chargeSize_3 rfl (lv_at hl 1 rfl) ?_
  refine lv_iload_n hx hb dL_chargeSize_4 rfl (lv_at hl 2 rfl) ?_
  refine v_callVC C S KX11 hx0 (ok_X11_chargeSize (L := L) hm hSh hx0) ⟨cd_X11_chargeSize, ni_RX11, ml_RL_21, in_X11_chargeSize, sl_X11_chargeSize⟩ ⟨by decide, by decide⟩ rfl (rm_ok (by decide) (by decide)) hl.1 rfl (Nat.le_of_ble_eq_true rfl) ⟨by decide, by decide⟩ dL_chargeSize_5 (fun v σ' H locs hp S => ?_) (fun E σ' H locs q ce hp S hcell hcv hcl => ?_)
  · obtain ⟨_, hk, rfl, rfl⟩ := hp
    cases hk
    have S : S2 g s σ1 R L H locs := S
    refine lv_i2l hx hb dL_chargeSize_8 rfl ?_
    refine x_last C S ho dL_chargeSize_9 (fun H locs S => ?_)
    refine lv_goto (tgt := 17) hx hb dL_chargeSize_10 (by decide) ?_
    refine lv_iconst (v := (0 : Int32)) hx hb dL_chargeSize_17 (by decide) ?_
    exact v_iret C S hr ⟨rfl, rfl⟩ dL_chargeSize_18
  · obtain ⟨k, hk, -⟩ := hp
    cases hk
set_option maxHeartbeats 4000000 in
set_option maxRecDepth 100000 in
theorem h_chargeSize_x0 {l : Launch} {g : GL} {R : Nat → Nat → Nat} {L : Nat → Nat → Int64} {N : Nat} {σ σ1 : SI} {x0 o : Nat} {a1 : Int32} {a2 : Int32} (hm : f_X11_chargeSize N R σ x0 a1 a2 = some (.inr 0, σ1)) (hSh : ShR R) (hx0 : Ok 194 x0 11) (ho : Ok 194 o 40001) : CtW l g 9 yL_chargeSize cL_chargeSize 5 (some .int) [(0, 10, 13, 19)] 2 12 [.ref (gb g + x0), .int a1, .int a2, .ref (gb g + o)] (mkS σ R L) (fun w σ' => w = some (.int 1) ∧ σ' = mkS σ1 R L) := by
  refine met_ofWH (cc := cL_chargeSize) (maxL := 5) (ret := (some .int)) (hh := [(0, 10, 13, 19)]) (by decide) rfl ?_
  intro p e s m args below meth c s₁ B hml hT hv
  obtain ⟨rfl, hE, hLo, hWd⟩ := hv
  have hr : meth.sig.returnType = (some .int) := B.returns
  have C : Cx l g p s m meth c cL_chargeSize 5 RL := ⟨B.exec, B.bytes, hml, findClass_of_methodNamed B.named, hE, hLo, B.notSynchronized⟩
  have S : S2 g s σ R L s.heap [] := ⟨hWd, va_S.rf⟩
  have hx := C.1
  have hb := C.2.1
  have hl := lv_entry ([.ref (gb g + x0), .int a1, .int a2, .ref (gb g + o)]) (n := 5) (Nat.le_of_ble_eq_true rfl)
  rw [lg_entry_eq]
  generalize (lg_sl ([.ref (gb g + x0), .int a1, .int a2, .ref (gb g + o)]) ++ List.replicate (5 - (lg_sl ([.ref (gb g + x0), .int a1, .int a2, .ref (gb g + o)])).length) Slot.unset).toArray = ls at hl ⊢
  have hl : lv_has ls 5 [(0, .ref (gb g + x0)), (1, .int a1), (2, .int a2), (3, .ref (gb g + o))] := hl
  generalize hH : s.heap = H at S ⊢
  generalize hlc : ([] : List Loc) = locs at S ⊢
  refine lv_aload_n hx hb dL_chargeSize_0 rfl (lv_at hl 3 rfl) ?_
  refine lv_iconst (v := (0 : Int32)) hx hb dL_chargeSize_1 (by decide) ?_
  refine lv_aload_n hx hb dL_chargeSize_2 rfl (lv_at hl 0 rfl) ?_
  refine lv_iload_n hx hb dL_chargeSize_3 rfl (lv_at hl 1 rfl) ?_
  refine lv_iload_n hx hb dL_chargeSize_4 rfl (lv_at hl 2 rfl) ?_
  refine v_callVC C S KX11 hx0 (ok_X11_chargeSize (L := L) hm hSh hx0) ⟨cd_X11_chargeSize, ni_RX11, ml_RL_21, in_X11_chargeSize, sl_X11_chargeSize⟩ ⟨by decide, by decide⟩ rfl (rm_ok (by decide) (by decide)) hl.1 rfl (Nat.le_of_ble_eq_true rfl) ⟨by decide, by decide⟩ dL_chargeSize_5 (fun v σ' H locs hp S => ?_) (fun E σ' H locs q ce hp S hcell hcv hcl => ?_)
  · obtain ⟨k, hk, -⟩ := hp
    cases hk
  · obtain ⟨k, hk, rfl, rfl⟩ := hp
    cases hk
    have S : S2 g s σ1 R L H locs := S
    refine x_catch (E := "java/lang/IndexOutOfBoundsException") C [] ⟨0, 10, 13, 19⟩ [] (hT.trans rfl) (fun z hz => by cases hz) (by decide) (by decide) cl_RL_19 ca_0 hcell hcv hcl ?_
    refine lv_astore (lv' := [(4, .ref q), (0, .ref (gb g + x0)), (1, .int a1), (2, .int a2), (3, .ref (gb g + o))]) hx hb dL_chargeSize_13 hl (by decide) rfl (fun ls hl => ?_)
    refine lv_iconst (v := (1 : Int32)) hx hb dL_chargeSize_15 (by decide) ?_
    exact v_iret C S hr ⟨rfl, rfl⟩ dL_chargeSize_16
set_option maxHeartbeats 4000000 in
set_option maxRecDepth 100000 in
theorem h_delay_ret {l : Launch} {g : GL} {R : Nat → Nat → Nat} {L : Nat → Nat → Int64} {N : Nat} {σ σ1 : SI} {x0 o : Nat} {a1 : Int32} {a2 : Int32} {v : Int32} (hm : f_X11_delay N R σ x0 a1 a2 = some (.inl v, σ1)) (hSh : ShR R) (hx0 : Ok 194 x0 11) (ho : Ok 194 o 40001) : CtW l g 9 yL_delay cL_delay 5 (some .int) [(0, 10, 13, 19)] 2 12 [.ref (gb g + x0), .int a1, .int a2, .ref (gb g + o)] (mkS σ R L) (fun w σ' => w = some (.int 0) ∧ σ' = uL (mkS σ1 R L) o 0 v.toInt64) := by
  refine met_ofWH (cc := cL_delay) (maxL := 5) (ret := (some .int)) (hh := [(0, 10, 13, 19)]) (by decide) rfl ?_
  intro p e s m args below meth c s₁ B hml hT hv
  obtain ⟨rfl, hE, hLo, hWd⟩ := hv
  have hr : meth.sig.returnType = (some .int) := B.returns
  have C : Cx l g p s m meth c cL_delay 5 RL := ⟨B.exec, B.bytes, hml, findClass_of_methodNamed B.named, hE, hLo, B.notSynchronized⟩
  have S : S2 g s σ R L s.heap [] := ⟨hWd, va_S.rf⟩
  have hx := C.1
  have hb := C.2.1
  have hl := lv_entry ([.ref (gb g + x0), .int a1, .int a2, .ref (gb g + o)]) (n := 5) (Nat.le_of_ble_eq_true rfl)
  rw [lg_entry_eq]
  generalize (lg_sl ([.ref (gb g + x0), .int a1, .int a2, .ref (gb g + o)]) ++ List.replicate (5 - (lg_sl ([.ref (gb g + x0), .int a1, .int a2, .ref (gb g + o)])).length) Slot.unset).toArray = ls at hl ⊢
  have hl : lv_has ls 5 [(0, .ref (gb g + x0)), (1, .int a1), (2, .int a2), (3, .ref (gb g + o))] := hl
  generalize hH : s.heap = H at S ⊢
  generalize hlc : ([] : List Loc) = locs at S ⊢
  refine lv_aload_n hx hb dL_delay_0 rfl (lv_at hl 3 rfl) ?_
  refine lv_iconst (v := (0 : Int32)) hx hb dL_delay_1 (by decide) ?_
  refine lv_aload_n hx hb dL_delay_2 rfl (lv_at hl 0 rfl) ?_
  refine lv_iload_n hx hb dL_delay_3 rfl (lv_at hl 1 rfl) ?_
  refine lv_iload_n hx hb dL_delay_4 rfl (lv_at hl 2 rfl) ?_
  refine v_callVC C S KX11 hx0 (ok_X11_delay (L := L) hm hSh hx0) ⟨cd_X11_delay, ni_RX11, ml_RL_25, in_X11_delay, sl_X11_delay⟩ ⟨by decide, by decide⟩ rfl (rm_ok (by decide) (by decide)) hl.1 rfl (Nat.le_of_ble_eq_true rfl) ⟨by decide, by decide⟩ dL_delay_5 (fun v σ' H locs hp S => ?_) (fun E σ' H locs q ce hp S hcell hcv hcl => ?_)
  · obtain ⟨_, hk, rfl, rfl⟩ := hp
    cases hk
    have S : S2 g s σ1 R L H locs := S
    refine lv_i2l hx hb dL_delay_8 rfl ?_
    refine x_last C S ho dL_delay_9 (fun H locs S => ?_)
    refine lv_goto (tgt := 17) hx hb dL_delay_10 (by decide) ?_
    refine lv_iconst (v := (0 : Int32)) hx hb dL_delay_17 (by decide) ?_
    exact v_iret C S hr ⟨rfl, rfl⟩ dL_delay_18
  · obtain ⟨k, hk, -⟩ := hp
    cases hk
set_option maxHeartbeats 4000000 in
set_option maxRecDepth 100000 in
theorem h_delay_x0 {l : Launch} {g : GL} {R : Nat → Nat → Nat} {L : Nat → Nat → Int64} {N : Nat} {σ σ1 : SI} {x0 o : Nat} {a1 : Int32} {a2 : Int32} (hm : f_X11_delay N R σ x0 a1 a2 = some (.inr 0, σ1)) (hSh : ShR R) (hx0 : Ok 194 x0 11) (ho : Ok 194 o 40001) : CtW l g 9 yL_delay cL_delay 5 (some .int) [(0, 10, 13, 19)] 2 12 [.ref (gb g + x0), .int a1, .int a2, .ref (gb g + o)] (mkS σ R L) (fun w σ' => w = some (.int 1) ∧ σ' = mkS σ1 R L) := by
  refine met_ofWH (cc := cL_delay) (maxL := 5) (ret := (some .int)) (hh := [(0, 10, 13, 19)]) (by decide) rfl ?_
  intro p e s m args below meth c s₁ B hml hT hv
  obtain ⟨rfl, hE, hLo, hWd⟩ := hv
  have hr : meth.sig.returnType = (some .int) := B.returns
  have C : Cx l g p s m meth c cL_delay 5 RL := ⟨B.exec, B.bytes, hml, findClass_of_methodNamed B.named, hE, hLo, B.notSynchronized⟩
  have S : S2 g s σ R L s.heap [] := ⟨hWd, va_S.rf⟩
  have hx := C.1
  have hb := C.2.1
  have hl := lv_entry ([.ref (gb g + x0), .int a1, .int a2, .ref (gb g + o)]) (n := 5) (Nat.le_of_ble_eq_true rfl)
  rw [lg_entry_eq]
  generalize (lg_sl ([.ref (gb g + x0), .int a1, .int a2, .ref (gb g + o)]) ++ List.replicate (5 - (lg_sl ([.ref (gb g + x0), .int a1, .int a2, .ref (gb g + o)])).length) Slot.unset).toArray = ls at hl ⊢
  have hl : lv_has ls 5 [(0, .ref (gb g + x0)), (1, .int a1), (2, .int a2), (3, .ref (gb g + o))] := hl
  generalize hH : s.heap = H at S ⊢
  generalize hlc : ([] : List Loc) = locs at S ⊢
  refine lv_aload_n hx hb dL_delay_0 rfl (lv_at hl 3 rfl) ?_
  refine lv_iconst (v := (0 : Int32)) hx hb dL_delay_1 (by decide) ?_
  refine lv_aload_n hx hb dL_delay_2 rfl (lv_at hl 0 rfl) ?_
  refine lv_iload_n hx hb dL_delay_3 rfl (lv_at hl 1 rfl) ?_
  refine lv_iload_n hx hb dL_delay_4 rfl (lv_at hl 2 rfl) ?_
  refine v_callVC C S KX11 hx0 (ok_X11_delay (L := L) hm hSh hx0) ⟨cd_X11_delay, ni_RX11, ml_RL_25, in_X11_delay, sl_X11_delay⟩ ⟨by decide, by decide⟩ rfl (rm_ok (by decide) (by decide)) hl.1 rfl (Nat.le_of_ble_eq_true rfl) ⟨by decide, by decide⟩ dL_delay_5 (fun v σ' H locs hp S => ?_) (fun E σ' H locs q ce hp S hcell hcv hcl => ?_)
  · obtain ⟨k, hk, -⟩ := hp
    cases hk
  · obtain ⟨k, hk, rfl, rfl⟩ := hp
    cases hk
    have S : S2 g s σ1 R L H locs := S
    refine x_catch (E := "java/lang/IndexOutOfBoundsException") C [] ⟨0, 10, 13, 19⟩ [] (hT.trans rfl) (fun z hz => by cases hz) (by decide) (by decide) cl_RL_19 ca_0 hcell hcv hcl ?_
    refine lv_astore (lv' := [(4, .ref q), (0, .ref (gb g + x0)), (1, .int a1), (2, .int a2), (3, .ref (gb g + o))]) hx hb dL_delay_13 hl (by decide) rfl (fun ls hl => ?_)
    refine lv_iconst (v := (1 : Int32)) hx hb dL_delay_15 (by decide) ?_
    exact v_iret C S hr ⟨rfl, rfl⟩ dL_delay_16
set_option maxHeartbeats 4000000 in
set_option maxRecDepth 100000 in
theorem h_totalSize_ret {l : Launch} {g : GL} {R : Nat → Nat → Nat} {L : Nat → Nat → Int64} {N : Nat} {σ σ1 : SI} {x0 o : Nat} {a1 : Int32} {v : Int32} (hm : f_X11_totalSize N R σ x0 a1 = some (.inl v, σ1)) (hSh : ShR R) (hx0 : Ok 194 x0 11) (ho : Ok 194 o 40001) : CtW l g 9 yL_totalSize cL_totalSize 4 (some .int) [(0, 9, 12, 19)] 1 6 [.ref (gb g + x0), .int a1, .ref (gb g + o)] (mkS σ R L) (fun w σ' => w = some (.int 0) ∧ σ' = uL (mkS σ1 R L) o 0 v.toInt64) := by
  refine met_ofWH (cc := cL_totalSize) (maxL := 4) (ret := (some .int)) (hh := [(0, 9, 12, 19)]) (by decide) rfl ?_
  intro p e s m args below meth c s₁ B hml hT hv
  obtain ⟨rfl, hE, hLo, hWd⟩ := hv
  have hr : meth.sig.returnType = (some .int) := B.returns
  have C : Cx l g p s m meth c cL_totalSize 4 RL := ⟨B.exec, B.bytes, hml, findClass_of_methodNamed B.named, hE, hLo, B.notSynchronized⟩
  have S : S2 g s σ R L s.heap [] := ⟨hWd, va_S.rf⟩
  have hx := C.1
  have hb := C.2.1
  have hl := lv_entry ([.ref (gb g + x0), .int a1, .ref (gb g + o)]) (n := 4) (Nat.le_of_ble_eq_true rfl)
  rw [lg_entry_eq]
  generalize (lg_sl ([.ref (gb g + x0), .int a1, .ref (gb g + o)]) ++ List.replicate (4 - (lg_sl ([.ref (gb g + x0), .int a1, .ref (gb g + o)])).length) Slot.unset).toArray = ls at hl ⊢
  have hl : lv_has ls 4 [(0, .ref (gb g + x0)), (1, .int a1), (2, .ref (gb g + o))] := hl
  generalize hH : s.heap = H at S ⊢
  generalize hlc : ([] : List Loc) = locs at S ⊢
  refine lv_aload_n hx hb dL_totalSize_0 rfl (lv_at hl 2 rfl) ?_
  refine lv_iconst (v := (0 : Int32)) hx hb dL_totalSize_1 (by decide) ?_
  refine lv_aload_n hx hb dL_totalSize_2 rfl (lv_at hl 0 rfl) ?_
  refine lv_iload_n hx hb dL_totalSize_3 rfl (lv_at hl 1 rfl) ?_
  refine v_callVC C S KX11 hx0 (ok_X11_totalSize (L := L) hm hSh hx0) ⟨cd_X11_totalSize, ni_RX11, ml_RL_28, in_X11_totalSize, sl_X11_totalSize⟩ ⟨by decide, by decide⟩ rfl (rm_ok (by decide) (by decide)) hl.1 rfl (Nat.le_of_ble_eq_true rfl) ⟨by decide, by decide⟩ dL_totalSize_4 (fun v σ' H locs hp S => ?_) (fun E σ' H locs q ce hp S hcell hcv hcl => ?_)
  · obtain ⟨_, hk, rfl, rfl⟩ := hp
    cases hk
    have S : S2 g s σ1 R L H locs := S
    refine lv_i2l hx hb dL_totalSize_7 rfl ?_
    refine x_last C S ho dL_totalSize_8 (fun H locs S => ?_)
    refine lv_goto (tgt := 15) hx hb dL_totalSize_9 (by decide) ?_
    refine lv_iconst (v := (0 : Int32)) hx hb dL_totalSize_15 (by decide) ?_
    exact v_iret C S hr ⟨rfl, rfl⟩ dL_totalSize_16
  · obtain ⟨k, hk, -⟩ := hp
    cases hk
set_option maxHeartbeats 4000000 in
set_option maxRecDepth 100000 in
theorem h_totalSize_x0 {l : Launch} {g : GL} {R : Nat → Nat → Nat} {L : Nat → Nat → Int64} {N : Nat} {σ σ1 : SI} {x0 o : Nat} {a1 : Int32} (hm : f_X11_totalSize N R σ x0 a1 = some (.inr 0, σ1)) (hSh : ShR R) (hx0 : Ok 194 x0 11) (ho : Ok 194 o 40001) : CtW l g 9 yL_totalSize cL_totalSize 4 (some .int) [(0, 9, 12, 19)] 1 6 [.ref (gb g + x0), .int a1, .ref (gb g + o)] (mkS σ R L) (fun w σ' => w = some (.int 1) ∧ σ' = mkS σ1 R L) := by
  refine met_ofWH (cc := cL_totalSize) (maxL := 4) (ret := (some .int)) (hh := [(0, 9, 12, 19)]) (by decide) rfl ?_
  intro p e s m args below meth c s₁ B hml hT hv
  obtain ⟨rfl, hE, hLo, hWd⟩ := hv
  have hr : meth.sig.returnType = (some .int) := B.returns
  have C : Cx l g p s m meth c cL_totalSize 4 RL := ⟨B.exec, B.bytes, hml, findClass_of_methodNamed B.named, hE, hLo, B.notSynchronized⟩
  have S : S2 g s σ R L s.heap [] := ⟨hWd, va_S.rf⟩
  have hx := C.1
  have hb := C.2.1
  have hl := lv_entry ([.ref (gb g + x0), .int a1, .ref (gb g + o)]) (n := 4) (Nat.le_of_ble_eq_true rfl)
  rw [lg_entry_eq]
  generalize (lg_sl ([.ref (gb g + x0), .int a1, .ref (gb g + o)]) ++ List.replicate (4 - (lg_sl ([.ref (gb g + x0), .int a1, .ref (gb g + o)])).length) Slot.unset).toArray = ls at hl ⊢
  have hl : lv_has ls 4 [(0, .ref (gb g + x0)), (1, .int a1), (2, .ref (gb g + o))] := hl
  generalize hH : s.heap = H at S ⊢
  generalize hlc : ([] : List Loc) = locs at S ⊢
  refine lv_aload_n hx hb dL_totalSize_0 rfl (lv_at hl 2 rfl) ?_
  refine lv_iconst (v := (0 : Int32)) hx hb dL_totalSize_1 (by decide) ?_
  refine lv_aload_n hx hb dL_totalSize_2 rfl (lv_at hl 0 rfl) ?_
  refine lv_iload_n hx hb dL_totalSize_3 rfl (lv_at hl 1 rfl) ?_
  refine v_callVC C S KX11 hx0 (ok_X11_totalSize (L := L) hm hSh hx0) ⟨cd_X11_totalSize, ni_RX11, ml_RL_28, in_X11_totalSize, sl_X11_totalSize⟩ ⟨by decide, by decide⟩ rfl (rm_ok (by decide) (by decide)) hl.1 rfl (Nat.le_of_ble_eq_true rfl) ⟨by decide, by decide⟩ dL_totalSize_4 (fun v σ' H locs hp S => ?_) (fun E σ' H locs q ce hp S hcell hcv hcl => ?_)
  · obtain ⟨k, hk, -⟩ := hp
    cases hk
  · obtain ⟨k, hk, rfl, rfl⟩ := hp
    cases hk
    have S : S2 g s σ1 R L H locs := S
    refine x_catch (E := "java/lang/IndexOutOfBoundsException") C [] ⟨0, 9, 12, 19⟩ [] (hT.trans rfl) (fun z hz => by cases hz) (by decide) (by decide) cl_RL_19 ca_0 hcell hcv hcl ?_
    refine lv_astore_n (lv' := [(3, .ref q), (0, .ref (gb g + x0)), (1, .int a1), (2, .ref (gb g + o))]) hx hb dL_totalSize_12 rfl hl (by decide) rfl (fun ls hl => ?_)
    refine lv_iconst (v := (1 : Int32)) hx hb dL_totalSize_13 (by decide) ?_
    exact v_iret C S hr ⟨rfl, rfl⟩ dL_totalSize_14
set_option maxHeartbeats 4000000 in
set_option maxRecDepth 100000 in
theorem h_delaySpan_ret {l : Launch} {g : GL} {R : Nat → Nat → Nat} {L : Nat → Nat → Int64} {N : Nat} {σ σ1 : SI} {x0 o : Nat} {a1 : Int32} {v : Int32} (hm : f_X11_delaySpan N R σ x0 a1 = some (.inl v, σ1)) (hSh : ShR R) (hx0 : Ok 194 x0 11) (ho : Ok 194 o 40001) : CtW l g 9 yL_delaySpan cL_delaySpan 4 (some .int) [(0, 9, 12, 19)] 1 6 [.ref (gb g + x0), .int a1, .ref (gb g + o)] (mkS σ R L) (fun w σ' => w = some (.int 0) ∧ σ' = uL (mkS σ1 R L) o 0 v.toInt64) := by
  refine met_ofWH (cc := cL_delaySpan) (maxL := 4) (ret := (some .int)) (hh := [(0, 9, 12, 19)]) (by decide) rfl ?_
  intro p e s m args below meth c s₁ B hml hT hv
  obtain ⟨rfl, hE, hLo, hWd⟩ := hv
  have hr : meth.sig.returnType = (some .int) := B.returns
  have C : Cx l g p s m meth c cL_delaySpan 4 RL := ⟨B.exec, B.bytes, hml, findClass_of_methodNamed B.named, hE, hLo, B.notSynchronized⟩
  have S : S2 g s σ R L s.heap [] := ⟨hWd, va_S.rf⟩
  have hx := C.1
  have hb := C.2.1
  have hl := lv_entry ([.ref (gb g + x0), .int a1, .ref (gb g + o)]) (n := 4) (Nat.le_of_ble_eq_true rfl)
  rw [lg_entry_eq]
  generalize (lg_sl ([.ref (gb g + x0), .int a1, .ref (gb g + o)]) ++ List.replicate (4 - (lg_sl ([.ref (gb g + x0), .int a1, .ref (gb g + o)])).length) Slot.unset).toArray = ls at hl ⊢
  have hl : lv_has ls 4 [(0, .ref (gb g + x0)), (1, .int a1), (2, .ref (gb g + o))] := hl
  generalize hH : s.heap = H at S ⊢
  generalize hlc : ([] : List Loc) = locs at S ⊢
  refine lv_aload_n hx hb dL_delaySpan_0 rfl (lv_at hl 2 rfl) ?_
  refine lv_iconst (v := (0 : Int32)) hx hb dL_delaySpan_1 (by decide) ?_
  refine lv_aload_n hx hb dL_delaySpan_2 rfl (lv_at hl 0 rfl) ?_
  refine lv_iload_n hx hb dL_delaySpan_3 rfl (lv_at hl 1 rfl) ?_
  refine v_callVC C S KX11 hx0 (ok_X11_delaySpan (L := L) hm hSh hx0) ⟨cd_X11_delaySpan, ni_RX11, ml_RL_31, in_X11_delaySpan, sl_X11_delaySpan⟩ ⟨by decide, by decide⟩ rfl (rm_ok (by decide) (by decide)) hl.1 rfl (Nat.le_of_ble_eq_true rfl) ⟨by decide, by decide⟩ dL_delaySpan_4 (fun v σ' H locs hp S => ?_) (fun E σ' H locs q ce hp S hcell hcv hcl => ?_)
  · obtain ⟨_, hk, rfl, rfl⟩ := hp
    cases hk
    have S : S2 g s σ1 R L H locs := S
    refine lv_i2l hx hb dL_delaySpan_7 rfl ?_
    refine x_last C S ho dL_delaySpan_8 (fun H locs S => ?_)
    refine lv_goto (tgt := 15) hx hb dL_delaySpan_9 (by decide) ?_
    refine lv_iconst (v := (0 : Int32)) hx hb dL_delaySpan_15 (by decide) ?_
    exact v_iret C S hr ⟨rfl, rfl⟩ dL_delaySpan_16
  · obtain ⟨k, hk, -⟩ := hp
    cases hk
set_option maxHeartbeats 4000000 in
set_option maxRecDepth 100000 in
theorem h_delaySpan_x0 {l : Launch} {g : GL} {R : Nat → Nat → Nat} {L : Nat → Nat → Int64} {N : Nat} {σ σ1 : SI} {x0 o : Nat} {a1 : Int32} (hm : f_X11_delaySpan N R σ x0 a1 = some (.inr 0, σ1)) (hSh : ShR R) (hx0 : Ok 194 x0 11) (ho : Ok 194 o 40001) : CtW l g 9 yL_delaySpan cL_delaySpan 4 (some .int) [(0, 9, 12, 19)] 1 6 [.ref (gb g + x0), .int a1, .ref (gb g + o)] (mkS σ R L) (fun w σ' => w = some (.int 1) ∧ σ' = mkS σ1 R L) := by
  refine met_ofWH (cc := cL_delaySpan) (maxL := 4) (ret := (some .int)) (hh := [(0, 9, 12, 19)]) (by decide) rfl ?_
  intro p e s m args below meth c s₁ B hml hT hv
  obtain ⟨rfl, hE, hLo, hWd⟩ := hv
  have hr : meth.sig.returnType = (some .int) := B.returns
  have C : Cx l g p s m meth c cL_delaySpan 4 RL := ⟨B.exec, B.bytes, hml, findClass_of_methodNamed B.named, hE, hLo, B.notSynchronized⟩
  have S : S2 g s σ R L s.heap [] := ⟨hWd, va_S.rf⟩
  have hx := C.1
  have hb := C.2.1
  have hl := lv_entry ([.ref (gb g + x0), .int a1, .ref (gb g + o)]) (n := 4) (Nat.le_of_ble_eq_true rfl)
  rw [lg_entry_eq]
  generalize (lg_sl ([.ref (gb g + x0), .int a1, .ref (gb g + o)]) ++ List.replicate (4 - (lg_sl ([.ref (gb g + x0), .int a1, .ref (gb g + o)])).length) Slot.unset).toArray = ls at hl ⊢
  have hl : lv_has ls 4 [(0, .ref (gb g + x0)), (1, .int a1), (2, .ref (gb g + o))] := hl
  generalize hH : s.heap = H at S ⊢
  generalize hlc : ([] : List Loc) = locs at S ⊢
  refine lv_aload_n hx hb dL_delaySpan_0 rfl (lv_at hl 2 rfl) ?_
  refine lv_iconst (v := (0 : Int32)) hx hb dL_delaySpan_1 (by decide) ?_
  refine lv_aload_n hx hb dL_delaySpan_2 rfl (lv_at hl 0 rfl) ?_
  refine lv_iload_n hx hb dL_delaySpan_3 rfl (lv_at hl 1 rfl) ?_
  refine v_callVC C S KX11 hx0 (ok_X11_delaySpan (L := L) hm hSh hx0) ⟨cd_X11_delaySpan, ni_RX11, ml_RL_31, in_X11_delaySpan, sl_X11_delaySpan⟩ ⟨by decide, by decide⟩ rfl (rm_ok (by decide) (by decide)) hl.1 rfl (Nat.le_of_ble_eq_true rfl) ⟨by decide, by decide⟩ dL_delaySpan_4 (fun v σ' H locs hp S => ?_) (fun E σ' H locs q ce hp S hcell hcv hcl => ?_)
  · obtain ⟨k, hk, -⟩ := hp
    cases hk
  · obtain ⟨k, hk, rfl, rfl⟩ := hp
    cases hk
    have S : S2 g s σ1 R L H locs := S
    refine x_catch (E := "java/lang/IndexOutOfBoundsException") C [] ⟨0, 9, 12, 19⟩ [] (hT.trans rfl) (fun z hz => by cases hz) (by decide) (by decide) cl_RL_19 ca_0 hcell hcv hcl ?_
    refine lv_astore_n (lv' := [(3, .ref q), (0, .ref (gb g + x0)), (1, .int a1), (2, .ref (gb g + o))]) hx hb dL_delaySpan_12 rfl hl (by decide) rfl (fun ls hl => ?_)
    refine lv_iconst (v := (1 : Int32)) hx hb dL_delaySpan_13 (by decide) ?_
    exact v_iret C S hr ⟨rfl, rfl⟩ dL_delaySpan_14
set_option maxHeartbeats 4000000 in
set_option maxRecDepth 100000 in
theorem h_windowSize_ret {l : Launch} {g : GL} {R : Nat → Nat → Nat} {L : Nat → Nat → Int64} {N : Nat} {σ σ1 : SI} {x0 o : Nat} {a1 : Int32} {v : Int32} (hm : f_X11_windowSize N R σ x0 a1 = some (.inl v, σ1)) (hSh : ShR R) (hx0 : Ok 194 x0 11) (ho : Ok 194 o 40001) : CtW l g 9 yL_windowSize cL_windowSize 4 (some .int) [(0, 9, 12, 19)] 1 6 [.ref (gb g + x0), .int a1, .ref (gb g + o)] (mkS σ R L) (fun w σ' => w = some (.int 0) ∧ σ' = uL (mkS σ1 R L) o 0 v.toInt64) := by
  refine met_ofWH (cc := cL_windowSize) (maxL := 4) (ret := (some .int)) (hh := [(0, 9, 12, 19)]) (by decide) rfl ?_
  intro p e s m args below meth c s₁ B hml hT hv
  obtain ⟨rfl, hE, hLo, hWd⟩ := hv
  have hr : meth.sig.returnType = (some .int) := B.returns
  have C : Cx l g p s m meth c cL_windowSize 4 RL := ⟨B.exec, B.bytes, hml, findClass_of_methodNamed B.named, hE, hLo, B.notSynchronized⟩
  have S : S2 g s σ R L s.heap [] := ⟨hWd, va_S.rf⟩
  have hx := C.1
  have hb := C.2.1
  have hl := lv_entry ([.ref (gb g + x0), .int a1, .ref (gb g + o)]) (n := 4) (Nat.le_of_ble_eq_true rfl)
  rw [lg_entry_eq]
  generalize (lg_sl ([.ref (gb g + x0), .int a1, .ref (gb g + o)]) ++ List.replicate (4 - (lg_sl ([.ref (gb g + x0), .int a1, .ref (gb g + o)])).length) Slot.unset).toArray = ls at hl ⊢
  have hl : lv_has ls 4 [(0, .ref (gb g + x0)), (1, .int a1), (2, .ref (gb g + o))] := hl
  generalize hH : s.heap = H at S ⊢
  generalize hlc : ([] : List Loc) = locs at S ⊢
  refine lv_aload_n hx hb dL_windowSize_0 rfl (lv_at hl 2 rfl) ?_
  refine lv_iconst (v := (0 : Int32)) hx hb dL_windowSize_1 (by decide) ?_
  refine lv_aload_n hx hb dL_windowSize_2 rfl (lv_at hl 0 rfl) ?_
  refine lv_iload_n hx hb dL_windowSize_3 rfl (lv_at hl 1 rfl) ?_
  refine v_callVC C S KX11 hx0 (ok_X11_windowSize (L := L) hm hSh hx0) ⟨cd_X11_windowSize, ni_RX11, ml_RL_34, in_X11_windowSize, sl_X11_windowSize⟩ ⟨by decide, by decide⟩ rfl (rm_ok (by decide) (by decide)) hl.1 rfl (Nat.le_of_ble_eq_true rfl) ⟨by decide, by decide⟩ dL_windowSize_4 (fun v σ' H locs hp S => ?_) (fun E σ' H locs q ce hp S hcell hcv hcl => ?_)
  · obtain ⟨_, hk, rfl, rfl⟩ := hp
    cases hk
    have S : S2 g s σ1 R L H locs := S
    refine lv_i2l hx hb dL_windowSize_7 rfl ?_
    refine x_last C S ho dL_windowSize_8 (fun H locs S => ?_)
    refine lv_goto (tgt := 15) hx hb dL_windowSize_9 (by decide) ?_
    refine lv_iconst (v := (0 : Int32)) hx hb dL_windowSize_15 (by decide) ?_
    exact v_iret C S hr ⟨rfl, rfl⟩ dL_windowSize_16
  · obtain ⟨k, hk, -⟩ := hp
    cases hk
set_option maxHeartbeats 4000000 in
set_option maxRecDepth 100000 in
theorem h_windowSize_x0 {l : Launch} {g : GL} {R : Nat → Nat → Nat} {L : Nat → Nat → Int64} {N : Nat} {σ σ1 : SI} {x0 o : Nat} {a1 : Int32} (hm : f_X11_windowSize N R σ x0 a1 = some (.inr 0, σ1)) (hSh : ShR R) (hx0 : Ok 194 x0 11) (ho : Ok 194 o 40001) : CtW l g 9 yL_windowSize cL_windowSize 4 (some .int) [(0, 9, 12, 19)] 1 6 [.ref (gb g + x0), .int a1, .ref (gb g + o)] (mkS σ R L) (fun w σ' => w = some (.int 1) ∧ σ' = mkS σ1 R L) := by
  refine met_ofWH (cc := cL_windowSize) (maxL := 4) (ret := (some .int)) (hh := [(0, 9, 12, 19)]) (by decide) rfl ?_
  intro p e s m args below meth c s₁ B hml hT hv
  obtain ⟨rfl, hE, hLo, hWd⟩ := hv
  have hr : meth.sig.returnType = (some .int) := B.returns
  have C : Cx l g p s m meth c cL_windowSize 4 RL := ⟨B.exec, B.bytes, hml, findClass_of_methodNamed B.named, hE, hLo, B.notSynchronized⟩
  have S : S2 g s σ R L s.heap [] := ⟨hWd, va_S.rf⟩
  have hx := C.1
  have hb := C.2.1
  have hl := lv_entry ([.ref (gb g + x0), .int a1, .ref (gb g + o)]) (n := 4) (Nat.le_of_ble_eq_true rfl)
  rw [lg_entry_eq]
  generalize (lg_sl ([.ref (gb g + x0), .int a1, .ref (gb g + o)]) ++ List.replicate (4 - (lg_sl ([.ref (gb g + x0), .int a1, .ref (gb g + o)])).length) Slot.unset).toArray = ls at hl ⊢
  have hl : lv_has ls 4 [(0, .ref (gb g + x0)), (1, .int a1), (2, .ref (gb g + o))] := hl
  generalize hH : s.heap = H at S ⊢
  generalize hlc : ([] : List Loc) = locs at S ⊢
  refine lv_aload_n hx hb dL_windowSize_0 rfl (lv_at hl 2 rfl) ?_
  refine lv_iconst (v := (0 : Int32)) hx hb dL_windowSize_1 (by decide) ?_
  refine lv_aload_n hx hb dL_windowSize_2 rfl (lv_at hl 0 rfl) ?_
  refine lv_iload_n hx hb dL_windowSize_3 rfl (lv_at hl 1 rfl) ?_
  refine v_callVC C S KX11 hx0 (ok_X11_windowSize (L := L) hm hSh hx0) ⟨cd_X11_windowSize, ni_RX11, ml_RL_34, in_X11_windowSize, sl_X11_windowSize⟩ ⟨by decide, by decide⟩ rfl (rm_ok (by decide) (by decide)) hl.1 rfl (Nat.le_of_ble_eq_true rfl) ⟨by decide, by decide⟩ dL_windowSize_4 (fun v σ' H locs hp S => ?_) (fun E σ' H locs q ce hp S hcell hcv hcl => ?_)
  · obtain ⟨k, hk, -⟩ := hp
    cases hk
  · obtain ⟨k, hk, rfl, rfl⟩ := hp
    cases hk
    have S : S2 g s σ1 R L H locs := S
    refine x_catch (E := "java/lang/IndexOutOfBoundsException") C [] ⟨0, 9, 12, 19⟩ [] (hT.trans rfl) (fun z hz => by cases hz) (by decide) (by decide) cl_RL_19 ca_0 hcell hcv hcl ?_
    refine lv_astore_n (lv' := [(3, .ref q), (0, .ref (gb g + x0)), (1, .int a1), (2, .ref (gb g + o))]) hx hb dL_windowSize_12 rfl hl (by decide) rfl (fun ls hl => ?_)
    refine lv_iconst (v := (1 : Int32)) hx hb dL_windowSize_13 (by decide) ?_
    exact v_iret C S hr ⟨rfl, rfl⟩ dL_windowSize_14
set_option maxHeartbeats 4000000 in
set_option maxRecDepth 100000 in
theorem h_windowStart_ret {l : Launch} {g : GL} {R : Nat → Nat → Nat} {L : Nat → Nat → Int64} {N : Nat} {σ σ1 : SI} {x0 o : Nat} {a1 : Int32} {v : Int32} (hm : f_X11_windowStart N R σ x0 a1 = some (.inl v, σ1)) (hSh : ShR R) (hx0 : Ok 194 x0 11) (ho : Ok 194 o 40001) : CtW l g 9 yL_windowStart cL_windowStart 4 (some .int) [(0, 9, 12, 19)] 1 6 [.ref (gb g + x0), .int a1, .ref (gb g + o)] (mkS σ R L) (fun w σ' => w = some (.int 0) ∧ σ' = uL (mkS σ1 R L) o 0 v.toInt64) := by
  refine met_ofWH (cc := cL_windowStart) (maxL := 4) (ret := (some .int)) (hh := [(0, 9, 12, 19)]) (by decide) rfl ?_
  intro p e s m args below meth c s₁ B hml hT hv
  obtain ⟨rfl, hE, hLo, hWd⟩ := hv
  have hr : meth.sig.returnType = (some .int) := B.returns
  have C : Cx l g p s m meth c cL_windowStart 4 RL := ⟨B.exec, B.bytes, hml, findClass_of_methodNamed B.named, hE, hLo, B.notSynchronized⟩
  have S : S2 g s σ R L s.heap [] := ⟨hWd, va_S.rf⟩
  have hx := C.1
  have hb := C.2.1
  have hl := lv_entry ([.ref (gb g + x0), .int a1, .ref (gb g + o)]) (n := 4) (Nat.le_of_ble_eq_true rfl)
  rw [lg_entry_eq]
  generalize (lg_sl ([.ref (gb g + x0), .int a1, .ref (gb g + o)]) ++ List.replicate (4 - (lg_sl ([.ref (gb g + x0), .int a1, .ref (gb g + o)])).length) Slot.unset).toArray = ls at hl ⊢
  have hl : lv_has ls 4 [(0, .ref (gb g + x0)), (1, .int a1), (2, .ref (gb g + o))] := hl
  generalize hH : s.heap = H at S ⊢
  generalize hlc : ([] : List Loc) = locs at S ⊢
  refine lv_aload_n hx hb dL_windowStart_0 rfl (lv_at hl 2 rfl) ?_
  refine lv_iconst (v := (0 : Int32)) hx hb dL_windowStart_1 (by decide) ?_
  refine lv_aload_n hx hb dL_windowStart_2 rfl (lv_at hl 0 rfl) ?_
  refine lv_iload_n hx hb dL_windowStart_3 rfl (lv_at hl 1 rfl) ?_
  refine v_callVC C S KX11 hx0 (ok_X11_windowStart (L := L) hm hSh hx0) ⟨cd_X11_windowStart, ni_RX11, ml_RL_37, in_X11_windowStart, sl_X11_windowStart⟩ ⟨by decide, by decide⟩ rfl (rm_ok (by decide) (by decide)) hl.1 rfl (Nat.le_of_ble_eq_true rfl) ⟨by decide, by decide⟩ dL_windowStart_4 (fun v σ' H locs hp S => ?_) (fun E σ' H locs q ce hp S hcell hcv hcl => ?_)
  · obtain ⟨_, hk, rfl, rfl⟩ := hp
    cases hk
    have S : S2 g s σ1 R L H locs := S
    refine lv_i2l hx hb dL_windowStart_7 rfl ?_
    refine x_last C S ho dL_windowStart_8 (fun H locs S => ?_)
    refine lv_goto (tgt := 15) hx hb dL_windowStart_9 (by decide) ?_
    refine lv_iconst (v := (0 : Int32)) hx hb dL_windowStart_15 (by decide) ?_
    exact v_iret C S hr ⟨rfl, rfl⟩ dL_windowStart_16
  · obtain ⟨k, hk, -⟩ := hp
    cases hk
set_option maxHeartbeats 4000000 in
set_option maxRecDepth 100000 in
theorem h_windowStart_x0 {l : Launch} {g : GL} {R : Nat → Nat → Nat} {L : Nat → Nat → Int64} {N : Nat} {σ σ1 : SI} {x0 o : Nat} {a1 : Int32} (hm : f_X11_windowStart N R σ x0 a1 = some (.inr 0, σ1)) (hSh : ShR R) (hx0 : Ok 194 x0 11) (ho : Ok 194 o 40001) : CtW l g 9 yL_windowStart cL_windowStart 4 (some .int) [(0, 9, 12, 19)] 1 6 [.ref (gb g + x0), .int a1, .ref (gb g + o)] (mkS σ R L) (fun w σ' => w = some (.int 1) ∧ σ' = mkS σ1 R L) := by
  refine met_ofWH (cc := cL_windowStart) (maxL := 4) (ret := (some .int)) (hh := [(0, 9, 12, 19)]) (by decide) rfl ?_
  intro p e s m args below meth c s₁ B hml hT hv
  obtain ⟨rfl, hE, hLo, hWd⟩ := hv
  have hr : meth.sig.returnType = (some .int) := B.returns
  have C : Cx l g p s m meth c cL_windowStart 4 RL := ⟨B.exec, B.bytes, hml, findClass_of_methodNamed B.named, hE, hLo, B.notSynchronized⟩
  have S : S2 g s σ R L s.heap [] := ⟨hWd, va_S.rf⟩
  have hx := C.1
  have hb := C.2.1
  have hl := lv_entry ([.ref (gb g + x0), .int a1, .ref (gb g + o)]) (n := 4) (Nat.le_of_ble_eq_true rfl)
  rw [lg_entry_eq]
  generalize (lg_sl ([.ref (gb g + x0), .int a1, .ref (gb g + o)]) ++ List.replicate (4 - (lg_sl ([.ref (gb g + x0), .int a1, .ref (gb g + o)])).length) Slot.unset).toArray = ls at hl ⊢
  have hl : lv_has ls 4 [(0, .ref (gb g + x0)), (1, .int a1), (2, .ref (gb g + o))] := hl
  generalize hH : s.heap = H at S ⊢
  generalize hlc : ([] : List Loc) = locs at S ⊢
  refine lv_aload_n hx hb dL_windowStart_0 rfl (lv_at hl 2 rfl) ?_
  refine lv_iconst (v := (0 : Int32)) hx hb dL_windowStart_1 (by decide) ?_
  refine lv_aload_n hx hb dL_windowStart_2 rfl (lv_at hl 0 rfl) ?_
  refine lv_iload_n hx hb dL_windowStart_3 rfl (lv_at hl 1 rfl) ?_
  refine v_callVC C S KX11 hx0 (ok_X11_windowStart (L := L) hm hSh hx0) ⟨cd_X11_windowStart, ni_RX11, ml_RL_37, in_X11_windowStart, sl_X11_windowStart⟩ ⟨by decide, by decide⟩ rfl (rm_ok (by decide) (by decide)) hl.1 rfl (Nat.le_of_ble_eq_true rfl) ⟨by decide, by decide⟩ dL_windowStart_4 (fun v σ' H locs hp S => ?_) (fun E σ' H locs q ce hp S hcell hcv hcl => ?_)
  · obtain ⟨k, hk, -⟩ := hp
    cases hk
  · obtain ⟨k, hk, rfl, rfl⟩ := hp
    cases hk
    have S : S2 g s σ1 R L H locs := S
    refine x_catch (E := "java/lang/IndexOutOfBoundsException") C [] ⟨0, 9, 12, 19⟩ [] (hT.trans rfl) (fun z hz => by cases hz) (by decide) (by decide) cl_RL_19 ca_0 hcell hcv hcl ?_
    refine lv_astore_n (lv' := [(3, .ref q), (0, .ref (gb g + x0)), (1, .int a1), (2, .ref (gb g + o))]) hx hb dL_windowStart_12 rfl hl (by decide) rfl (fun ls hl => ?_)
    refine lv_iconst (v := (1 : Int32)) hx hb dL_windowStart_13 (by decide) ?_
    exact v_iret C S hr ⟨rfl, rfl⟩ dL_windowStart_14
set_option maxHeartbeats 4000000 in
set_option maxRecDepth 100000 in
theorem h_vibration_ret {l : Launch} {g : GL} {R : Nat → Nat → Nat} {L : Nat → Nat → Int64} {N : Nat} {σ σ1 : SI} {x0 o : Nat} {a1 : Int32} {a2 : Int32} {v : Int32} (hm : f_X11_vibration N R σ x0 a1 a2 = some (.inl v, σ1)) (hSh : ShR R) (hx0 : Ok 194 x0 11) (ho : Ok 194 o 40001) : CtW l g 9 yL_vibration cL_vibration 5 (some .int) [(0, 10, 13, 19)] 2 12 [.ref (gb g + x0), .int a1, .int a2, .ref (gb g + o)] (mkS σ R L) (fun w σ' => w = some (.int 0) ∧ σ' = uL (mkS σ1 R L) o 0 v.toInt64) := by
  refine met_ofWH (cc := cL_vibration) (maxL := 5) (ret := (some .int)) (hh := [(0, 10, 13, 19)]) (by decide) rfl ?_
  intro p e s m args below meth c s₁ B hml hT hv
  obtain ⟨rfl, hE, hLo, hWd⟩ := hv
  have hr : meth.sig.returnType = (some .int) := B.returns
  have C : Cx l g p s m meth c cL_vibration 5 RL := ⟨B.exec, B.bytes, hml, findClass_of_methodNamed B.named, hE, hLo, B.notSynchronized⟩
  have S : S2 g s σ R L s.heap [] := ⟨hWd, va_S.rf⟩
  have hx := C.1
  have hb := C.2.1
  have hl := lv_entry ([.ref (gb g + x0), .int a1, .int a2, .ref (gb g + o)]) (n := 5) (Nat.le_of_ble_eq_true rfl)
  rw [lg_entry_eq]
  generalize (lg_sl ([.ref (gb g + x0), .int a1, .int a2, .ref (gb g + o)]) ++ List.replicate (5 - (lg_sl ([.ref (gb g + x0), .int a1, .int a2, .ref (gb g + o)])).length) Slot.unset).toArray = ls at hl ⊢
  have hl : lv_has ls 5 [(0, .ref (gb g + x0)), (1, .int a1), (2, .int a2), (3, .ref (gb g + o))] := hl
  generalize hH : s.heap = H at S ⊢
  generalize hlc : ([] : List Loc) = locs at S ⊢
  refine lv_aload_n hx hb dL_vibration_0 rfl (lv_at hl 3 rfl) ?_
  refine lv_iconst (v := (0 : Int32)) hx hb dL_vibration_1 (by decide) ?_
  refine lv_aload_n hx hb dL_vibration_2 rfl (lv_at hl 0 rfl) ?_
  refine lv_iload_n hx hb dL_vibration_3 rfl (lv_at hl 1 rfl) ?_
  refine lv_iload_n hx hb dL_vibration_4 rfl (lv_at hl 2 rfl) ?_
  refine v_callVC C S KX11 hx0 (ok_X11_vibration (L := L) hm hSh hx0) ⟨cd_X11_vibration, ni_RX11, ml_RL_40, in_X11_vibration, sl_X11_vibration⟩ ⟨by decide, by decide⟩ rfl (rm_ok (by decide) (by decide)) hl.1 rfl (Nat.le_of_ble_eq_true rfl) ⟨by decide, by decide⟩ dL_vibration_5 (fun v σ' H locs hp S => ?_) (fun E σ' H locs q ce hp S hcell hcv hcl => ?_)
  · obtain ⟨_, hk, rfl, rfl⟩ := hp
    cases hk
    have S : S2 g s σ1 R L H locs := S
    refine lv_i2l hx hb dL_vibration_8 rfl ?_
    refine x_last C S ho dL_vibration_9 (fun H locs S => ?_)
    refine lv_goto (tgt := 17) hx hb dL_vibration_10 (by decide) ?_
    refine lv_iconst (v := (0 : Int32)) hx hb dL_vibration_17 (by decide) ?_
    exact v_iret C S hr ⟨rfl, rfl⟩ dL_vibration_18
  · obtain ⟨k, hk, -⟩ := hp
    cases hk
set_option maxHeartbeats 4000000 in
set_option maxRecDepth 100000 in
theorem h_vibration_x0 {l : Launch} {g : GL} {R : Nat → Nat → Nat} {L : Nat → Nat → Int64} {N : Nat} {σ σ1 : SI} {x0 o : Nat} {a1 : Int32} {a2 : Int32} (hm : f_X11_vibration N R σ x0 a1 a2 = some (.inr 0, σ1)) (hSh : ShR R) (hx0 : Ok 194 x0 11) (ho : Ok 194 o 40001) : CtW l g 9 yL_vibration cL_vibration 5 (some .int) [(0, 10, 13, 19)] 2 12 [.ref (gb g + x0), .int a1, .int a2, .ref (gb g + o)] (mkS σ R L) (fun w σ' => w = some (.int 1) ∧ σ' = mkS σ1 R L) := by
  refine met_ofWH (cc := cL_vibration) (maxL := 5) (ret := (some .int)) (hh := [(0, 10, 13, 19)]) (by decide) rfl ?_
  intro p e s m args below meth c s₁ B hml hT hv
  obtain ⟨rfl, hE, hLo, hWd⟩ := hv
  have hr : meth.sig.returnType = (some .int) := B.returns
  have C : Cx l g p s m meth c cL_vibration 5 RL := ⟨B.exec, B.bytes, hml, findClass_of_methodNamed B.named, hE, hLo, B.notSynchronized⟩
  have S : S2 g s σ R L s.heap [] := ⟨hWd, va_S.rf⟩
  have hx := C.1
  have hb := C.2.1
  have hl := lv_entry ([.ref (gb g + x0), .int a1, .int a2, .ref (gb g + o)]) (n := 5) (Nat.le_of_ble_eq_true rfl)
  rw [lg_entry_eq]
  generalize (lg_sl ([.ref (gb g + x0), .int a1, .int a2, .ref (gb g + o)]) ++ List.replicate (5 - (lg_sl ([.ref (gb g + x0), .int a1, .int a2, .ref (gb g + o)])).length) Slot.unset).toArray = ls at hl ⊢
  have hl : lv_has ls 5 [(0, .ref (gb g + x0)), (1, .int a1), (2, .int a2), (3, .ref (gb g + o))] := hl
  generalize hH : s.heap = H at S ⊢
  generalize hlc : ([] : List Loc) = locs at S ⊢
  refine lv_aload_n hx hb dL_vibration_0 rfl (lv_at hl 3 rfl) ?_
  refine lv_iconst (v := (0 : Int32)) hx hb dL_vibration_1 (by decide) ?_
  refine lv_aload_n hx hb dL_vibration_2 rfl (lv_at hl 0 rfl) ?_
  refine lv_iload_n hx hb dL_vibration_3 rfl (lv_at hl 1 rfl) ?_
  refine lv_iload_n hx hb dL_vibration_4 rfl (lv_at hl 2 rfl) ?_
  refine v_callVC C S KX11 hx0 (ok_X11_vibration (L := L) hm hSh hx0) ⟨cd_X11_vibration, ni_RX11, ml_RL_40, in_X11_vibration, sl_X11_vibration⟩ ⟨by decide, by decide⟩ rfl (rm_ok (by decide) (by decide)) hl.1 rfl (Nat.le_of_ble_eq_true rfl) ⟨by decide, by decide⟩ dL_vibration_5 (fun v σ' H locs hp S => ?_) (fun E σ' H locs q ce hp S hcell hcv hcl => ?_)
  · obtain ⟨k, hk, -⟩ := hp
    cases hk
  · obtain ⟨k, hk, rfl, rfl⟩ := hp
    cases hk
    have S : S2 g s σ1 R L H locs := S
    refine x_catch (E := "java/lang/IndexOutOfBoundsException") C [] ⟨0, 10, 13, 19⟩ [] (hT.trans rfl) (fun z hz => by cases hz) (by decide) (by decide) cl_RL_19 ca_0 hcell hcv hcl ?_
    refine lv_astore (lv' := [(4, .ref q), (0, .ref (gb g + x0)), (1, .int a1), (2, .int a2), (3, .ref (gb g + o))]) hx hb dL_vibration_13 hl (by decide) rfl (fun ls hl => ?_)
    refine lv_iconst (v := (1 : Int32)) hx hb dL_vibration_15 (by decide) ?_
    exact v_iret C S hr ⟨rfl, rfl⟩ dL_vibration_16
set_option maxHeartbeats 4000000 in
set_option maxRecDepth 100000 in
theorem h_mostShaken_ret {l : Launch} {g : GL} {R : Nat → Nat → Nat} {L : Nat → Nat → Int64} {N : Nat} {σ σ1 : SI} {x0 o : Nat} {a1 : Int32} {v : Int32} (hm : f_X11_mostShaken N R σ x0 a1 = some (.inl v, σ1)) (hSh : ShR R) (hx0 : Ok 194 x0 11) (ho : Ok 194 o 40001) : CtW l g 9 yL_mostShaken cL_mostShaken 4 (some .int) [(0, 9, 12, 19)] 1 6 [.ref (gb g + x0), .int a1, .ref (gb g + o)] (mkS σ R L) (fun w σ' => w = some (.int 0) ∧ σ' = uL (mkS σ1 R L) o 0 v.toInt64) := by
  refine met_ofWH (cc := cL_mostShaken) (maxL := 4) (ret := (some .int)) (hh := [(0, 9, 12, 19)]) (by decide) rfl ?_
  intro p e s m args below meth c s₁ B hml hT hv
  obtain ⟨rfl, hE, hLo, hWd⟩ := hv
  have hr : meth.sig.returnType = (some .int) := B.returns
  have C : Cx l g p s m meth c cL_mostShaken 4 RL := ⟨B.exec, B.bytes, hml, findClass_of_methodNamed B.named, hE, hLo, B.notSynchronized⟩
  have S : S2 g s σ R L s.heap [] := ⟨hWd, va_S.rf⟩
  have hx := C.1
  have hb := C.2.1
  have hl := lv_entry ([.ref (gb g + x0), .int a1, .ref (gb g + o)]) (n := 4) (Nat.le_of_ble_eq_true rfl)
  rw [lg_entry_eq]
  generalize (lg_sl ([.ref (gb g + x0), .int a1, .ref (gb g + o)]) ++ List.replicate (4 - (lg_sl ([.ref (gb g + x0), .int a1, .ref (gb g + o)])).length) Slot.unset).toArray = ls at hl ⊢
  have hl : lv_has ls 4 [(0, .ref (gb g + x0)), (1, .int a1), (2, .ref (gb g + o))] := hl
  generalize hH : s.heap = H at S ⊢
  generalize hlc : ([] : List Loc) = locs at S ⊢
  refine lv_aload_n hx hb dL_mostShaken_0 rfl (lv_at hl 2 rfl) ?_
  refine lv_iconst (v := (0 : Int32)) hx hb dL_mostShaken_1 (by decide) ?_
  refine lv_aload_n hx hb dL_mostShaken_2 rfl (lv_at hl 0 rfl) ?_
  refine lv_iload_n hx hb dL_mostShaken_3 rfl (lv_at hl 1 rfl) ?_
  refine v_callVC C S KX11 hx0 (ok_X11_mostShaken (L := L) hm hSh hx0) ⟨cd_X11_mostShaken, ni_RX11, ml_RL_43, in_X11_mostShaken, sl_X11_mostShaken⟩ ⟨by decide, by decide⟩ rfl (rm_ok (by decide) (by decide)) hl.1 rfl (Nat.le_of_ble_eq_true rfl) ⟨by decide, by decide⟩ dL_mostShaken_4 (fun v σ' H locs hp S => ?_) (fun E σ' H locs q ce hp S hcell hcv hcl => ?_)
  · obtain ⟨_, hk, rfl, rfl⟩ := hp
    cases hk
    have S : S2 g s σ1 R L H locs := S
    refine lv_i2l hx hb dL_mostShaken_7 rfl ?_
    refine x_last C S ho dL_mostShaken_8 (fun H locs S => ?_)
    refine lv_goto (tgt := 15) hx hb dL_mostShaken_9 (by decide) ?_
    refine lv_iconst (v := (0 : Int32)) hx hb dL_mostShaken_15 (by decide) ?_
    exact v_iret C S hr ⟨rfl, rfl⟩ dL_mostShaken_16
  · obtain ⟨k, hk, -⟩ := hp
    cases hk
set_option maxHeartbeats 4000000 in
set_option maxRecDepth 100000 in
theorem h_mostShaken_x0 {l : Launch} {g : GL} {R : Nat → Nat → Nat} {L : Nat → Nat → Int64} {N : Nat} {σ σ1 : SI} {x0 o : Nat} {a1 : Int32} (hm : f_X11_mostShaken N R σ x0 a1 = some (.inr 0, σ1)) (hSh : ShR R) (hx0 : Ok 194 x0 11) (ho : Ok 194 o 40001) : CtW l g 9 yL_mostShaken cL_mostShaken 4 (some .int) [(0, 9, 12, 19)] 1 6 [.ref (gb g + x0), .int a1, .ref (gb g + o)] (mkS σ R L) (fun w σ' => w = some (.int 1) ∧ σ' = mkS σ1 R L) := by
  refine met_ofWH (cc := cL_mostShaken) (maxL := 4) (ret := (some .int)) (hh := [(0, 9, 12, 19)]) (by decide) rfl ?_
  intro p e s m args below meth c s₁ B hml hT hv
  obtain ⟨rfl, hE, hLo, hWd⟩ := hv
  have hr : meth.sig.returnType = (some .int) := B.returns
  have C : Cx l g p s m meth c cL_mostShaken 4 RL := ⟨B.exec, B.bytes, hml, findClass_of_methodNamed B.named, hE, hLo, B.notSynchronized⟩
  have S : S2 g s σ R L s.heap [] := ⟨hWd, va_S.rf⟩
  have hx := C.1
  have hb := C.2.1
  have hl := lv_entry ([.ref (gb g + x0), .int a1, .ref (gb g + o)]) (n := 4) (Nat.le_of_ble_eq_true rfl)
  rw [lg_entry_eq]
  generalize (lg_sl ([.ref (gb g + x0), .int a1, .ref (gb g + o)]) ++ List.replicate (4 - (lg_sl ([.ref (gb g + x0), .int a1, .ref (gb g + o)])).length) Slot.unset).toArray = ls at hl ⊢
  have hl : lv_has ls 4 [(0, .ref (gb g + x0)), (1, .int a1), (2, .ref (gb g + o))] := hl
  generalize hH : s.heap = H at S ⊢
  generalize hlc : ([] : List Loc) = locs at S ⊢
  refine lv_aload_n hx hb dL_mostShaken_0 rfl (lv_at hl 2 rfl) ?_
  refine lv_iconst (v := (0 : Int32)) hx hb dL_mostShaken_1 (by decide) ?_
  refine lv_aload_n hx hb dL_mostShaken_2 rfl (lv_at hl 0 rfl) ?_
  refine lv_iload_n hx hb dL_mostShaken_3 rfl (lv_at hl 1 rfl) ?_
  refine v_callVC C S KX11 hx0 (ok_X11_mostShaken (L := L) hm hSh hx0) ⟨cd_X11_mostShaken, ni_RX11, ml_RL_43, in_X11_mostShaken, sl_X11_mostShaken⟩ ⟨by decide, by decide⟩ rfl (rm_ok (by decide) (by decide)) hl.1 rfl (Nat.le_of_ble_eq_true rfl) ⟨by decide, by decide⟩ dL_mostShaken_4 (fun v σ' H locs hp S => ?_) (fun E σ' H locs q ce hp S hcell hcv hcl => ?_)
  · obtain ⟨k, hk, -⟩ := hp
    cases hk
  · obtain ⟨k, hk, rfl, rfl⟩ := hp
    cases hk
    have S : S2 g s σ1 R L H locs := S
    refine x_catch (E := "java/lang/IndexOutOfBoundsException") C [] ⟨0, 9, 12, 19⟩ [] (hT.trans rfl) (fun z hz => by cases hz) (by decide) (by decide) cl_RL_19 ca_0 hcell hcv hcl ?_
    refine lv_astore_n (lv' := [(3, .ref q), (0, .ref (gb g + x0)), (1, .int a1), (2, .ref (gb g + o))]) hx hb dL_mostShaken_12 rfl hl (by decide) rfl (fun ls hl => ?_)
    refine lv_iconst (v := (1 : Int32)) hx hb dL_mostShaken_13 (by decide) ?_
    exact v_iret C S hr ⟨rfl, rfl⟩ dL_mostShaken_14
set_option maxHeartbeats 4000000 in
set_option maxRecDepth 100000 in
theorem h_tooStrongAt_ret {l : Launch} {g : GL} {R : Nat → Nat → Nat} {L : Nat → Nat → Int64} {N : Nat} {σ σ1 : SI} {x0 o : Nat} {a1 : Int32} {v : Int32} (hm : f_X11_tooStrongAt N R σ x0 a1 = some (.inl v, σ1)) (hSh : ShR R) (hx0 : Ok 194 x0 11) (ho : Ok 194 o 40001) : CtW l g 9 yL_tooStrongAt cL_tooStrongAt 4 (some .int) [(0, 9, 12, 19)] 1 6 [.ref (gb g + x0), .int a1, .ref (gb g + o)] (mkS σ R L) (fun w σ' => w = some (.int 0) ∧ σ' = uL (mkS σ1 R L) o 0 v.toInt64) := by
  refine met_ofWH (cc := cL_tooStrongAt) (maxL := 4) (ret := (some .int)) (hh := [(0, 9, 12, 19)]) (by decide) rfl ?_
  intro p e s m args below meth c s₁ B hml hT hv
  obtain ⟨rfl, hE, hLo, hWd⟩ := hv
  have hr : meth.sig.returnType = (some .int) := B.returns
  have C : Cx l g p s m meth c cL_tooStrongAt 4 RL := ⟨B.exec, B.bytes, hml, findClass_of_methodNamed B.named, hE, hLo, B.notSynchronized⟩
  have S : S2 g s σ R L s.heap [] := ⟨hWd, va_S.rf⟩
  have hx := C.1
  have hb := C.2.1
  have hl := lv_entry ([.ref (gb g + x0), .int a1, .ref (gb g + o)]) (n := 4) (Nat.le_of_ble_eq_true rfl)
  rw [lg_entry_eq]
  generalize (lg_sl ([.ref (gb g + x0), .int a1, .ref (gb g + o)]) ++ List.replicate (4 - (lg_sl ([.ref (gb g + x0), .int a1, .ref (gb g + o)])).length) Slot.unset).toArray = ls at hl ⊢
  have hl : lv_has ls 4 [(0, .ref (gb g + x0)), (1, .int a1), (2, .ref (gb g + o))] := hl
  generalize hH : s.heap = H at S ⊢
  generalize hlc : ([] : List Loc) = locs at S ⊢
  refine lv_aload_n hx hb dL_tooStrongAt_0 rfl (lv_at hl 2 rfl) ?_
  refine lv_iconst (v := (0 : Int32)) hx hb dL_tooStrongAt_1 (by decide) ?_
  refine lv_aload_n hx hb dL_tooStrongAt_2 rfl (lv_at hl 0 rfl) ?_
  refine lv_iload_n hx hb dL_tooStrongAt_3 rfl (lv_at hl 1 rfl) ?_
  refine v_callVC C S KX11 hx0 (ok_X11_tooStrongAt (L := L) hm hSh hx0) ⟨cd_X11_tooStrongAt, ni_RX11, ml_RL_46, in_X11_tooStrongAt, sl_X11_tooStrongAt⟩ ⟨by decide, by decide⟩ rfl (rm_ok (by decide) (by decide)) hl.1 rfl (Nat.le_of_ble_eq_true rfl) ⟨by decide, by decide⟩ dL_tooStrongAt_4 (fun v σ' H locs hp S => ?_) (fun E σ' H locs q ce hp S hcell hcv hcl => ?_)
  · obtain ⟨_, hk, rfl, rfl⟩ := hp
    cases hk
    have S : S2 g s σ1 R L H locs := S
    refine lv_i2l hx hb dL_tooStrongAt_7 rfl ?_
    refine x_last C S ho dL_tooStrongAt_8 (fun H locs S => ?_)
    refine lv_goto (tgt := 15) hx hb dL_tooStrongAt_9 (by decide) ?_
    refine lv_iconst (v := (0 : Int32)) hx hb dL_tooStrongAt_15 (by decide) ?_
    exact v_iret C S hr ⟨rfl, rfl⟩ dL_tooStrongAt_16
  · obtain ⟨k, hk, -⟩ := hp
    cases hk
set_option maxHeartbeats 4000000 in
set_option maxRecDepth 100000 in
theorem h_tooStrongAt_x0 {l : Launch} {g : GL} {R : Nat → Nat → Nat} {L : Nat → Nat → Int64} {N : Nat} {σ σ1 : SI} {x0 o : Nat} {a1 : Int32} (hm : f_X11_tooStrongAt N R σ x0 a1 = some (.inr 0, σ1)) (hSh : ShR R) (hx0 : Ok 194 x0 11) (ho : Ok 194 o 40001) : CtW l g 9 yL_tooStrongAt cL_tooStrongAt 4 (some .int) [(0, 9, 12, 19)] 1 6 [.ref (gb g + x0), .int a1, .ref (gb g + o)] (mkS σ R L) (fun w σ' => w = some (.int 1) ∧ σ' = mkS σ1 R L) := by
  refine met_ofWH (cc := cL_tooStrongAt) (maxL := 4) (ret := (some .int)) (hh := [(0, 9, 12, 19)]) (by decide) rfl ?_
  intro p e s m args below meth c s₁ B hml hT hv
  obtain ⟨rfl, hE, hLo, hWd⟩ := hv
  have hr : meth.sig.returnType = (some .int) := B.returns
  have C : Cx l g p s m meth c cL_tooStrongAt 4 RL := ⟨B.exec, B.bytes, hml, findClass_of_methodNamed B.named, hE, hLo, B.notSynchronized⟩
  have S : S2 g s σ R L s.heap [] := ⟨hWd, va_S.rf⟩
  have hx := C.1
  have hb := C.2.1
  have hl := lv_entry ([.ref (gb g + x0), .int a1, .ref (gb g + o)]) (n := 4) (Nat.le_of_ble_eq_true rfl)
  rw [lg_entry_eq]
  generalize (lg_sl ([.ref (gb g + x0), .int a1, .ref (gb g + o)]) ++ List.replicate (4 - (lg_sl ([.ref (gb g + x0), .int a1, .ref (gb g + o)])).length) Slot.unset).toArray = ls at hl ⊢
  have hl : lv_has ls 4 [(0, .ref (gb g + x0)), (1, .int a1), (2, .ref (gb g + o))] := hl
  generalize hH : s.heap = H at S ⊢
  generalize hlc : ([] : List Loc) = locs at S ⊢
  refine lv_aload_n hx hb dL_tooStrongAt_0 rfl (lv_at hl 2 rfl) ?_
  refine lv_iconst (v := (0 : Int32)) hx hb dL_tooStrongAt_1 (by decide) ?_
  refine lv_aload_n hx hb dL_tooStrongAt_2 rfl (lv_at hl 0 rfl) ?_
  refine lv_iload_n hx hb dL_tooStrongAt_3 rfl (lv_at hl 1 rfl) ?_
  refine v_callVC C S KX11 hx0 (ok_X11_tooStrongAt (L := L) hm hSh hx0) ⟨cd_X11_tooStrongAt, ni_RX11, ml_RL_46, in_X11_tooStrongAt, sl_X11_tooStrongAt⟩ ⟨by decide, by decide⟩ rfl (rm_ok (by decide) (by decide)) hl.1 rfl (Nat.le_of_ble_eq_true rfl) ⟨by decide, by decide⟩ dL_tooStrongAt_4 (fun v σ' H locs hp S => ?_) (fun E σ' H locs q ce hp S hcell hcv hcl => ?_)
  · obtain ⟨k, hk, -⟩ := hp
    cases hk
  · obtain ⟨k, hk, rfl, rfl⟩ := hp
    cases hk
    have S : S2 g s σ1 R L H locs := S
    refine x_catch (E := "java/lang/IndexOutOfBoundsException") C [] ⟨0, 9, 12, 19⟩ [] (hT.trans rfl) (fun z hz => by cases hz) (by decide) (by decide) cl_RL_19 ca_0 hcell hcv hcl ?_
    refine lv_astore_n (lv' := [(3, .ref q), (0, .ref (gb g + x0)), (1, .int a1), (2, .ref (gb g + o))]) hx hb dL_tooStrongAt_12 rfl hl (by decide) rfl (fun ls hl => ?_)
    refine lv_iconst (v := (1 : Int32)) hx hb dL_tooStrongAt_13 (by decide) ?_
    exact v_iret C S hr ⟨rfl, rfl⟩ dL_tooStrongAt_14
set_option maxHeartbeats 4000000 in
set_option maxRecDepth 100000 in
theorem h_neededGap_ret {l : Launch} {g : GL} {R : Nat → Nat → Nat} {L : Nat → Nat → Int64} {N : Nat} {σ σ1 : SI} {x0 o : Nat} {a1 : Int32} {a2 : Int32} {v : Int32} (hm : f_X11_neededGap N R σ x0 a1 a2 = some (.inl v, σ1)) (hSh : ShR R) (hx0 : Ok 194 x0 11) (ho : Ok 194 o 40001) : CtW l g 9 yL_neededGap cL_neededGap 5 (some .int) [(0, 10, 13, 19)] 2 12 [.ref (gb g + x0), .int a1, .int a2, .ref (gb g + o)] (mkS σ R L) (fun w σ' => w = some (.int 0) ∧ σ' = uL (mkS σ1 R L) o 0 v.toInt64) := by
  refine met_ofWH (cc := cL_neededGap) (maxL := 5) (ret := (some .int)) (hh := [(0, 10, 13, 19)]) (by decide) rfl ?_
  intro p e s m args below meth c s₁ B hml hT hv
  obtain ⟨rfl, hE, hLo, hWd⟩ := hv
  have hr : meth.sig.returnType = (some .int) := B.returns
  have C : Cx l g p s m meth c cL_neededGap 5 RL := ⟨B.exec, B.bytes, hml, findClass_of_methodNamed B.named, hE, hLo, B.notSynchronized⟩
  have S : S2 g s σ R L s.heap [] := ⟨hWd, va_S.rf⟩
  have hx := C.1
  have hb := C.2.1
  have hl := lv_entry ([.ref (gb g + x0), .int a1, .int a2, .ref (gb g + o)]) (n := 5) (Nat.le_of_ble_eq_true rfl)
  rw [lg_entry_eq]
  generalize (lg_sl ([.ref (gb g + x0), .int a1, .int a2, .ref (gb g + o)]) ++ List.replicate (5 - (lg_sl ([.ref (gb g + x0), .int a1, .int a2, .ref (gb g + o)])).length) Slot.unset).toArray = ls at hl ⊢
  have hl : lv_has ls 5 [(0, .ref (gb g + x0)), (1, .int a1), (2, .int a2), (3, .ref (gb g + o))] := hl
  generalize hH : s.heap = H at S ⊢
  generalize hlc : ([] : List Loc) = locs at S ⊢
  refine lv_aload_n hx hb dL_neededGap_0 rfl (lv_at hl 3 rfl) ?_
  refine lv_iconst (v := (0 : Int32)) hx hb dL_neededGap_1 (by decide) ?_
  refine lv_aload_n hx hb dL_neededGap_2 rfl (lv_at hl 0 rfl) ?_
  refine lv_iload_n hx hb dL_neededGap_3 rfl (lv_at hl 1 rfl) ?_
  refine lv_iload_n hx hb dL_neededGap_4 rfl (lv_at hl 2 rfl) ?_
  refine v_callVC C S KX11 hx0 (ok_X11_neededGap (L := L) hm hSh hx0) ⟨cd_X11_neededGap, ni_RX11, ml_RL_49, in_X11_neededGap, sl_X11_neededGap⟩ ⟨by decide, by decide⟩ rfl (rm_ok (by decide) (by decide)) hl.1 rfl (Nat.le_of_ble_eq_true rfl) ⟨by decide, by decide⟩ dL_neededGap_5 (fun v σ' H locs hp S => ?_) (fun E σ' H locs q ce hp S hcell hcv hcl => ?_)
  · obtain ⟨_, hk, rfl, rfl⟩ := hp
    cases hk
    have S : S2 g s σ1 R L H locs := S
    refine lv_i2l hx hb dL_neededGap_8 rfl ?_
    refine x_last C S ho dL_neededGap_9 (fun H locs S => ?_)
    refine lv_goto (tgt := 17) hx hb dL_neededGap_10 (by decide) ?_
    refine lv_iconst (v := (0 : Int32)) hx hb dL_neededGap_17 (by decide) ?_
    exact v_iret C S hr ⟨rfl, rfl⟩ dL_neededGap_18
  · obtain ⟨k, hk, -⟩ := hp
    cases hk
set_option maxHeartbeats 4000000 in
set_option maxRecDepth 100000 in
theorem h_neededGap_x0 {l : Launch} {g : GL} {R : Nat → Nat → Nat} {L : Nat → Nat → Int64} {N : Nat} {σ σ1 : SI} {x0 o : Nat} {a1 : Int32} {a2 : Int32} (hm : f_X11_neededGap N R σ x0 a1 a2 = some (.inr 0, σ1)) (hSh : ShR R) (hx0 : Ok 194 x0 11) (ho : Ok 194 o 40001) : CtW l g 9 yL_neededGap cL_neededGap 5 (some .int) [(0, 10, 13, 19)] 2 12 [.ref (gb g + x0), .int a1, .int a2, .ref (gb g + o)] (mkS σ R L) (fun w σ' => w = some (.int 1) ∧ σ' = mkS σ1 R L) := by
  refine met_ofWH (cc := cL_neededGap) (maxL := 5) (ret := (some .int)) (hh := [(0, 10, 13, 19)]) (by decide) rfl ?_
  intro p e s m args below meth c s₁ B hml hT hv
  obtain ⟨rfl, hE, hLo, hWd⟩ := hv
  have hr : meth.sig.returnType = (some .int) := B.returns
  have C : Cx l g p s m meth c cL_neededGap 5 RL := ⟨B.exec, B.bytes, hml, findClass_of_methodNamed B.named, hE, hLo, B.notSynchronized⟩
  have S : S2 g s σ R L s.heap [] := ⟨hWd, va_S.rf⟩
  have hx := C.1
  have hb := C.2.1
  have hl := lv_entry ([.ref (gb g + x0), .int a1, .int a2, .ref (gb g + o)]) (n := 5) (Nat.le_of_ble_eq_true rfl)
  rw [lg_entry_eq]
  generalize (lg_sl ([.ref (gb g + x0), .int a1, .int a2, .ref (gb g + o)]) ++ List.replicate (5 - (lg_sl ([.ref (gb g + x0), .int a1, .int a2, .ref (gb g + o)])).length) Slot.unset).toArray = ls at hl ⊢
  have hl : lv_has ls 5 [(0, .ref (gb g + x0)), (1, .int a1), (2, .int a2), (3, .ref (gb g + o))] := hl
  generalize hH : s.heap = H at S ⊢
  generalize hlc : ([] : List Loc) = locs at S ⊢
  refine lv_aload_n hx hb dL_neededGap_0 rfl (lv_at hl 3 rfl) ?_
  refine lv_iconst (v := (0 : Int32)) hx hb dL_neededGap_1 (by decide) ?_
  refine lv_aload_n hx hb dL_neededGap_2 rfl (lv_at hl 0 rfl) ?_
  refine lv_iload_n hx hb dL_neededGap_3 rfl (lv_at hl 1 rfl) ?_
  refine lv_iload_n hx hb dL_neededGap_4 rfl (lv_at hl 2 rfl) ?_
  refine v_callVC C S KX11 hx0 (ok_X11_neededGap (L := L) hm hSh hx0) ⟨cd_X11_neededGap, ni_RX11, ml_RL_49, in_X11_neededGap, sl_X11_neededGap⟩ ⟨by decide, by decide⟩ rfl (rm_ok (by decide) (by decide)) hl.1 rfl (Nat.le_of_ble_eq_true rfl) ⟨by decide, by decide⟩ dL_neededGap_5 (fun v σ' H locs hp S => ?_) (fun E σ' H locs q ce hp S hcell hcv hcl => ?_)
  · obtain ⟨k, hk, -⟩ := hp
    cases hk
  · obtain ⟨k, hk, rfl, rfl⟩ := hp
    cases hk
    have S : S2 g s σ1 R L H locs := S
    refine x_catch (E := "java/lang/IndexOutOfBoundsException") C [] ⟨0, 10, 13, 19⟩ [] (hT.trans rfl) (fun z hz => by cases hz) (by decide) (by decide) cl_RL_19 ca_0 hcell hcv hcl ?_
    refine lv_astore (lv' := [(4, .ref q), (0, .ref (gb g + x0)), (1, .int a1), (2, .int a2), (3, .ref (gb g + o))]) hx hb dL_neededGap_13 hl (by decide) rfl (fun ls hl => ?_)
    refine lv_iconst (v := (1 : Int32)) hx hb dL_neededGap_15 (by decide) ?_
    exact v_iret C S hr ⟨rfl, rfl⟩ dL_neededGap_16
set_option maxHeartbeats 4000000 in
set_option maxRecDepth 100000 in
theorem h_vibrationIfGap_ret {l : Launch} {g : GL} {R : Nat → Nat → Nat} {L : Nat → Nat → Int64} {N : Nat} {σ σ1 : SI} {x0 o : Nat} {a1 : Int32} {a2 : Int32} {a3 : Int32} {v : Int32} (hm : f_X11_vibrationIfGap N R σ x0 a1 a2 a3 = some (.inl v, σ1)) (hSh : ShR R) (hx0 : Ok 194 x0 11) (ho : Ok 194 o 40001) : CtW l g 9 yL_vibrationIfGap cL_vibrationIfGap 6 (some .int) [(0, 12, 15, 19), (0, 12, 19, 13)] 3 18 [.ref (gb g + x0), .int a1, .int a2, .int a3, .ref (gb g + o)] (mkS σ R L) (fun w σ' => w = some (.int 0) ∧ σ' = uL (mkS σ1 R L) o 0 v.toInt64) := by
  refine met_ofWH (cc := cL_vibrationIfGap) (maxL := 6) (ret := (some .int)) (hh := [(0, 12, 15, 19), (0, 12, 19, 13)]) (by decide) rfl ?_
  intro p e s m args below meth c s₁ B hml hT hv
  obtain ⟨rfl, hE, hLo, hWd⟩ := hv
  have hr : meth.sig.returnType = (some .int) := B.returns
  have C : Cx l g p s m meth c cL_vibrationIfGap 6 RL := ⟨B.exec, B.bytes, hml, findClass_of_methodNamed B.named, hE, hLo, B.notSynchronized⟩
  have S : S2 g s σ R L s.heap [] := ⟨hWd, va_S.rf⟩
  have hx := C.1
  have hb := C.2.1
  have hl := lv_entry ([.ref (gb g + x0), .int a1, .int a2, .int a3, .ref (gb g + o)]) (n := 6) (Nat.le_of_ble_eq_true rfl)
  rw [lg_entry_eq]
  generalize (lg_sl ([.ref (gb g + x0), .int a1, .int a2, .int a3, .ref (gb g + o)]) ++ List.replicate (6 - (lg_sl ([.ref (gb g + x0), .int a1, .int a2, .int a3, .ref (gb g + o)])).length) Slot.unset).toArray = ls at hl ⊢
  have hl : lv_has ls 6 [(0, .ref (gb g + x0)), (1, .int a1), (2, .int a2), (3, .int a3), (4, .ref (gb g + o))] := hl
  generalize hH : s.heap = H at S ⊢
  generalize hlc : ([] : List Loc) = locs at S ⊢
  refine lv_aload hx hb dL_vibrationIfGap_0 (lv_at hl 4 rfl) ?_
  refine lv_iconst (v := (0 : Int32)) hx hb dL_vibrationIfGap_2 (by decide) ?_
  refine lv_aload_n hx hb dL_vibrationIfGap_3 rfl (lv_at hl 0 rfl) ?_
  refine lv_iload_n hx hb dL_vibrationIfGap_4 rfl (lv_at hl 1 rfl) ?_
  refine lv_iload_n hx hb dL_vibrationIfGap_5 rfl (lv_at hl 2 rfl) ?_
  refine lv_iload_n hx hb dL_vibrationIfGap_6 rfl (lv_at hl 3 rfl) ?_
  refine v_callVC C S KX11 hx0 (ok_X11_vibrationIfGap (L := L) hm hSh hx0) ⟨cd_X11_vibrationIfGap, ni_RX11, ml_RL_52, in_X11_vibrationIfGap, sl_X11_vibrationIfGap⟩ ⟨by decide, by decide⟩ rfl (rm_ok (by decide) (by decide)) hl.1 rfl (Nat.le_of_ble_eq_true rfl) ⟨by decide, by decide⟩ dL_vibrationIfGap_7 (fun v σ' H locs hp S => ?_) (fun E σ' H locs q ce hp S hcell hcv hcl => ?_)
  · obtain ⟨_, hk, rfl, rfl⟩ := hp
    cases hk
    have S : S2 g s σ1 R L H locs := S
    refine lv_i2l hx hb dL_vibrationIfGap_10 rfl ?_
    refine x_last C S ho dL_vibrationIfGap_11 (fun H locs S => ?_)
    refine lv_goto (tgt := 23) hx hb dL_vibrationIfGap_12 (by decide) ?_
    refine lv_iconst (v := (0 : Int32)) hx hb dL_vibrationIfGap_23 (by decide) ?_
    exact v_iret C S hr ⟨rfl, rfl⟩ dL_vibrationIfGap_24
  · obtain ⟨k, hk, -⟩ := hp
    cases hk
set_option maxHeartbeats 4000000 in
set_option maxRecDepth 100000 in
theorem h_vibrationIfGap_x0 {l : Launch} {g : GL} {R : Nat → Nat → Nat} {L : Nat → Nat → Int64} {N : Nat} {σ σ1 : SI} {x0 o : Nat} {a1 : Int32} {a2 : Int32} {a3 : Int32} (hm : f_X11_vibrationIfGap N R σ x0 a1 a2 a3 = some (.inr 0, σ1)) (hSh : ShR R) (hx0 : Ok 194 x0 11) (ho : Ok 194 o 40001) : CtW l g 9 yL_vibrationIfGap cL_vibrationIfGap 6 (some .int) [(0, 12, 15, 19), (0, 12, 19, 13)] 3 18 [.ref (gb g + x0), .int a1, .int a2, .int a3, .ref (gb g + o)] (mkS σ R L) (fun w σ' => w = some (.int 1) ∧ σ' = mkS σ1 R L) := by
  refine met_ofWH (cc := cL_vibrationIfGap) (maxL := 6) (ret := (some .int)) (hh := [(0, 12, 15, 19), (0, 12, 19, 13)]) (by decide) rfl ?_
  intro p e s m args below meth c s₁ B hml hT hv
  obtain ⟨rfl, hE, hLo, hWd⟩ := hv
  have hr : meth.sig.returnType = (some .int) := B.returns
  have C : Cx l g p s m meth c cL_vibrationIfGap 6 RL := ⟨B.exec, B.bytes, hml, findClass_of_methodNamed B.named, hE, hLo, B.notSynchronized⟩
  have S : S2 g s σ R L s.heap [] := ⟨hWd, va_S.rf⟩
  have hx := C.1
  have hb := C.2.1
  have hl := lv_entry ([.ref (gb g + x0), .int a1, .int a2, .int a3, .ref (gb g + o)]) (n := 6) (Nat.le_of_ble_eq_true rfl)
  rw [lg_entry_eq]
  generalize (lg_sl ([.ref (gb g + x0), .int a1, .int a2, .int a3, .ref (gb g + o)]) ++ List.replicate (6 - (lg_sl ([.ref (gb g + x0), .int a1, .int a2, .int a3, .ref (gb g + o)])).length) Slot.unset).toArray = ls at hl ⊢
  have hl : lv_has ls 6 [(0, .ref (gb g + x0)), (1, .int a1), (2, .int a2), (3, .int a3), (4, .ref (gb g + o))] := hl
  generalize hH : s.heap = H at S ⊢
  generalize hlc : ([] : List Loc) = locs at S ⊢
  refine lv_aload hx hb dL_vibrationIfGap_0 (lv_at hl 4 rfl) ?_
  refine lv_iconst (v := (0 : Int32)) hx hb dL_vibrationIfGap_2 (by decide) ?_
  refine lv_aload_n hx hb dL_vibrationIfGap_3 rfl (lv_at hl 0 rfl) ?_
  refine lv_iload_n hx hb dL_vibrationIfGap_4 rfl (lv_at hl 1 rfl) ?_
  refine lv_iload_n hx hb dL_vibrationIfGap_5 rfl (lv_at hl 2 rfl) ?_
  refine lv_iload_n hx hb dL_vibrationIfGap_6 rfl (lv_at hl 3 rfl) ?_
  refine v_callVC C S KX11 hx0 (ok_X11_vibrationIfGap (L := L) hm hSh hx0) ⟨cd_X11_vibrationIfGap, ni_RX11, ml_RL_52, in_X11_vibrationIfGap, sl_X11_vibrationIfGap⟩ ⟨by decide, by decide⟩ rfl (rm_ok (by decide) (by decide)) hl.1 rfl (Nat.le_of_ble_eq_true rfl) ⟨by decide, by decide⟩ dL_vibrationIfGap_7 (fun v σ' H locs hp S => ?_) (fun E σ' H locs q ce hp S hcell hcv hcl => ?_)
  · obtain ⟨k, hk, -⟩ := hp
    cases hk
  · obtain ⟨k, hk, rfl, rfl⟩ := hp
    cases hk
    have S : S2 g s σ1 R L H locs := S
    refine x_catch (E := "java/lang/IndexOutOfBoundsException") C [] ⟨0, 12, 15, 19⟩ [⟨0, 12, 19, 13⟩] (hT.trans rfl) (fun z hz => by cases hz) (by decide) (by decide) cl_RL_19 ca_0 hcell hcv hcl ?_
    refine lv_astore (lv' := [(5, .ref q), (0, .ref (gb g + x0)), (1, .int a1), (2, .int a2), (3, .int a3), (4, .ref (gb g + o))]) hx hb dL_vibrationIfGap_15 hl (by decide) rfl (fun ls hl => ?_)
    refine lv_iconst (v := (1 : Int32)) hx hb dL_vibrationIfGap_17 (by decide) ?_
    exact v_iret C S hr ⟨rfl, rfl⟩ dL_vibrationIfGap_18
set_option maxHeartbeats 4000000 in
set_option maxRecDepth 100000 in
theorem h_vibrationIfGap_x1 {l : Launch} {g : GL} {R : Nat → Nat → Nat} {L : Nat → Nat → Int64} {N : Nat} {σ σ1 : SI} {x0 o : Nat} {a1 : Int32} {a2 : Int32} {a3 : Int32} (hm : f_X11_vibrationIfGap N R σ x0 a1 a2 a3 = some (.inr 1, σ1)) (hSh : ShR R) (hx0 : Ok 194 x0 11) (ho : Ok 194 o 40001) : CtW l g 9 yL_vibrationIfGap cL_vibrationIfGap 6 (some .int) [(0, 12, 15, 19), (0, 12, 19, 13)] 3 18 [.ref (gb g + x0), .int a1, .int a2, .int a3, .ref (gb g + o)] (mkS σ R L) (fun w σ' => w = some (.int 2) ∧ σ' = mkS σ1 R L) := by
  refine met_ofWH (cc := cL_vibrationIfGap) (maxL := 6) (ret := (some .int)) (hh := [(0, 12, 15, 19), (0, 12, 19, 13)]) (by decide) rfl ?_
  intro p e s m args below meth c s₁ B hml hT hv
  obtain ⟨rfl, hE, hLo, hWd⟩ := hv
  have hr : meth.sig.returnType = (some .int) := B.returns
  have C : Cx l g p s m meth c cL_vibrationIfGap 6 RL := ⟨B.exec, B.bytes, hml, findClass_of_methodNamed B.named, hE, hLo, B.notSynchronized⟩
  have S : S2 g s σ R L s.heap [] := ⟨hWd, va_S.rf⟩
  have hx := C.1
  have hb := C.2.1
  have hl := lv_entry ([.ref (gb g + x0), .int a1, .int a2, .int a3, .ref (gb g + o)]) (n := 6) (Nat.le_of_ble_eq_true rfl)
  rw [lg_entry_eq]
  generalize (lg_sl ([.ref (gb g + x0), .int a1, .int a2, .int a3, .ref (gb g + o)]) ++ List.replicate (6 - (lg_sl ([.ref (gb g + x0), .int a1, .int a2, .int a3, .ref (gb g + o)])).length) Slot.unset).toArray = ls at hl ⊢
  have hl : lv_has ls 6 [(0, .ref (gb g + x0)), (1, .int a1), (2, .int a2), (3, .int a3), (4, .ref (gb g + o))] := hl
  generalize hH : s.heap = H at S ⊢
  generalize hlc : ([] : List Loc) = locs at S ⊢
  refine lv_aload hx hb dL_vibrationIfGap_0 (lv_at hl 4 rfl) ?_
  refine lv_iconst (v := (0 : Int32)) hx hb dL_vibrationIfGap_2 (by decide) ?_
  refine lv_aload_n hx hb dL_vibrationIfGap_3 rfl (lv_at hl 0 rfl) ?_
  refine lv_iload_n hx hb dL_vibrationIfGap_4 rfl (lv_at hl 1 rfl) ?_
  refine lv_iload_n hx hb dL_vibrationIfGap_5 rfl (lv_at hl 2 rfl) ?_
  refine lv_iload_n hx hb dL_vibrationIfGap_6 rfl (lv_at hl 3 rfl) ?_
  refine v_callVC C S KX11 hx0 (ok_X11_vibrationIfGap (L := L) hm hSh hx0) ⟨cd_X11_vibrationIfGap, ni_RX11, ml_RL_52, in_X11_vibrationIfGap, sl_X11_vibrationIfGap⟩ ⟨by decide, by decide⟩ rfl (rm_ok (by decide) (by decide)) hl.1 rfl (Nat.le_of_ble_eq_true rfl) ⟨by decide, by decide⟩ dL_vibrationIfGap_7 (fun v σ' H locs hp S => ?_) (fun E σ' H locs q ce hp S hcell hcv hcl => ?_)
  · obtain ⟨k, hk, -⟩ := hp
    cases hk
  · obtain ⟨k, hk, rfl, rfl⟩ := hp
    cases hk
    have S : S2 g s σ1 R L H locs := S
    refine x_catch (E := "java/lang/IllegalArgumentException") C [⟨0, 12, 15, 19⟩] ⟨0, 12, 19, 13⟩ [] (hT.trans rfl) (fun z hz => by rw [List.mem_singleton.mp hz]; exact ⟨by decide, "java/lang/IndexOutOfBoundsException", cl_RL_19, by decide⟩) (by decide) (by decide) cl_RL_13 ca_1 hcell hcv hcl ?_
    refine lv_astore (lv' := [(5, .ref q), (0, .ref (gb g + x0)), (1, .int a1), (2, .int a2), (3, .int a3), (4, .ref (gb g + o))]) hx hb dL_vibrationIfGap_19 hl (by decide) rfl (fun ls hl => ?_)
    refine lv_iconst (v := (2 : Int32)) hx hb dL_vibrationIfGap_21 (by decide) ?_
    exact v_iret C S hr ⟨rfl, rfl⟩ dL_vibrationIfGap_22
set_option maxHeartbeats 4000000 in
set_option maxRecDepth 100000 in
theorem h_closes_ret {l : Launch} {g : GL} {R : Nat → Nat → Nat} {L : Nat → Nat → Int64} {N : Nat} {σ σ1 : SI} {x0 o : Nat} {a1 : Int32} {a2 : Int32} {v : Int32} (hm : f_X11_closes N R σ x0 a1 a2 = some (.inl v, σ1)) (hSh : ShR R) (hx0 : Ok 194 x0 11) (ho : Ok 194 o 40001) : CtW l g 9 yL_closes cL_closes 5 (some .int) [(0, 17, 20, 19)] 2 12 [.ref (gb g + x0), .int a1, .int a2, .ref (gb g + o)] (mkS σ R L) (fun w σ' => w = some (.int 0) ∧ σ' = uL (mkS σ1 R L) o 0 (if v = 0 then 0 else 1 : Int64)) := by
  refine met_ofWH (cc := cL_closes) (maxL := 5) (ret := (some .int)) (hh := [(0, 17, 20, 19)]) (by decide) rfl ?_
  intro p e s m args below meth c s₁ B hml hT hv
  obtain ⟨rfl, hE, hLo, hWd⟩ := hv
  have hr : meth.sig.returnType = (some .int) := B.returns
  have C : Cx l g p s m meth c cL_closes 5 RL := ⟨B.exec, B.bytes, hml, findClass_of_methodNamed B.named, hE, hLo, B.notSynchronized⟩
  have S : S2 g s σ R L s.heap [] := ⟨hWd, va_S.rf⟩
  have hx := C.1
  have hb := C.2.1
  have hl := lv_entry ([.ref (gb g + x0), .int a1, .int a2, .ref (gb g + o)]) (n := 5) (Nat.le_of_ble_eq_true rfl)
  rw [lg_entry_eq]
  generalize (lg_sl ([.ref (gb g + x0), .int a1, .int a2, .ref (gb g + o)]) ++ List.replicate (5 - (lg_sl ([.ref (gb g + x0), .int a1, .int a2, .ref (gb g + o)])).length) Slot.unset).toArray = ls at hl ⊢
  have hl : lv_has ls 5 [(0, .ref (gb g + x0)), (1, .int a1), (2, .int a2), (3, .ref (gb g + o))] := hl
  generalize hH : s.heap = H at S ⊢
  generalize hlc : ([] : List Loc) = locs at S ⊢
  refine lv_aload_n hx hb dL_closes_0 rfl (lv_at hl 3 rfl) ?_
  refine lv_iconst (v := (0 : Int32)) hx hb dL_closes_1 (by decide) ?_
  refine lv_aload_n hx hb dL_closes_2 rfl (lv_at hl 0 rfl) ?_
  refine lv_iload_n hx hb dL_closes_3 rfl (lv_at hl 1 rfl) ?_
  refine lv_iload_n hx hb dL_closes_4 rfl (lv_at hl 2 rfl) ?_
  refine v_callVC C S KX11 hx0 (ok_X11_closes (L := L) hm hSh hx0) ⟨cd_X11_closes, ni_RX11, ml_RL_56, in_X11_closes, sl_X11_closes⟩ ⟨by decide, by decide⟩ rfl (rm_ok (by decide) (by decide)) hl.1 rfl (Nat.le_of_ble_eq_true rfl) ⟨by decide, by decide⟩ dL_closes_5 (fun v σ' H locs hp S => ?_) (fun E σ' H locs q ce hp S hcell hcv hcl => ?_)
  · obtain ⟨_, hk, rfl, rfl⟩ := hp
    cases hk
    have S : S2 g s σ1 R L H locs := S
    refine lv_if_eq (tgt := 15) hx hb dL_closes_8 (by decide) (fun c1 => ?_) (fun c1 => ?_)
    · refine lv_lconst (v := (0 : Int64)) hx hb dL_closes_15 (by decide) ?_
      refine x_last C S ho dL_closes_16 (fun H locs S => ?_)
      refine lv_goto (tgt := 24) hx hb dL_closes_17 (by decide) ?_
      refine lv_iconst (v := (0 : Int32)) hx hb dL_closes_24 (by decide) ?_
      exact v_iret C S hr ⟨rfl, by rw [if_pos c1]⟩ dL_closes_25
    · refine lv_lconst (v := (1 : Int64)) hx hb dL_closes_11 (by decide) ?_
      refine lv_goto (tgt := 16) hx hb dL_closes_12 (by decide) ?_
      refine x_last C S ho dL_closes_16 (fun H locs S => ?_)
      refine lv_goto (tgt := 24) hx hb dL_closes_17 (by decide) ?_
      refine lv_iconst (v := (0 : Int32)) hx hb dL_closes_24 (by decide) ?_
      exact v_iret C S hr ⟨rfl, by rw [if_neg c1]⟩ dL_closes_25
  · obtain ⟨k, hk, -⟩ := hp
    cases hk
set_option maxHeartbeats 4000000 in
set_option maxRecDepth 100000 in
theorem h_closes_x0 {l : Launch} {g : GL} {R : Nat → Nat → Nat} {L : Nat → Nat → Int64} {N : Nat} {σ σ1 : SI} {x0 o : Nat} {a1 : Int32} {a2 : Int32} (hm : f_X11_closes N R σ x0 a1 a2 = some (.inr 0, σ1)) (hSh : ShR R) (hx0 : Ok 194 x0 11) (ho : Ok 194 o 40001) : CtW l g 9 yL_closes cL_closes 5 (some .int) [(0, 17, 20, 19)] 2 12 [.ref (gb g + x0), .int a1, .int a2, .ref (gb g + o)] (mkS σ R L) (fun w σ' => w = some (.int 1) ∧ σ' = mkS σ1 R L) := by
  refine met_ofWH (cc := cL_closes) (maxL := 5) (ret := (some .int)) (hh := [(0, 17, 20, 19)]) (by decide) rfl ?_
  intro p e s m args below meth c s₁ B hml hT hv
  obtain ⟨rfl, hE, hLo, hWd⟩ := hv
  have hr : meth.sig.returnType = (some .int) := B.returns
  have C : Cx l g p s m meth c cL_closes 5 RL := ⟨B.exec, B.bytes, hml, findClass_of_methodNamed B.named, hE, hLo, B.notSynchronized⟩
  have S : S2 g s σ R L s.heap [] := ⟨hWd, va_S.rf⟩
  have hx := C.1
  have hb := C.2.1
  have hl := lv_entry ([.ref (gb g + x0), .int a1, .int a2, .ref (gb g + o)]) (n := 5) (Nat.le_of_ble_eq_true rfl)
  rw [lg_entry_eq]
  generalize (lg_sl ([.ref (gb g + x0), .int a1, .int a2, .ref (gb g + o)]) ++ List.replicate (5 - (lg_sl ([.ref (gb g + x0), .int a1, .int a2, .ref (gb g + o)])).length) Slot.unset).toArray = ls at hl ⊢
  have hl : lv_has ls 5 [(0, .ref (gb g + x0)), (1, .int a1), (2, .int a2), (3, .ref (gb g + o))] := hl
  generalize hH : s.heap = H at S ⊢
  generalize hlc : ([] : List Loc) = locs at S ⊢
  refine lv_aload_n hx hb dL_closes_0 rfl (lv_at hl 3 rfl) ?_
  refine lv_iconst (v := (0 : Int32)) hx hb dL_closes_1 (by decide) ?_
  refine lv_aload_n hx hb dL_closes_2 rfl (lv_at hl 0 rfl) ?_
  refine lv_iload_n hx hb dL_closes_3 rfl (lv_at hl 1 rfl) ?_
  refine lv_iload_n hx hb dL_closes_4 rfl (lv_at hl 2 rfl) ?_
  refine v_callVC C S KX11 hx0 (ok_X11_closes (L := L) hm hSh hx0) ⟨cd_X11_closes, ni_RX11, ml_RL_56, in_X11_closes, sl_X11_closes⟩ ⟨by decide, by decide⟩ rfl (rm_ok (by decide) (by decide)) hl.1 rfl (Nat.le_of_ble_eq_true rfl) ⟨by decide, by decide⟩ dL_closes_5 (fun v σ' H locs hp S => ?_) (fun E σ' H locs q ce hp S hcell hcv hcl => ?_)
  · obtain ⟨k, hk, -⟩ := hp
    cases hk
  · obtain ⟨k, hk, rfl, rfl⟩ := hp
    cases hk
    have S : S2 g s σ1 R L H locs := S
    refine x_catch (E := "java/lang/IndexOutOfBoundsException") C [] ⟨0, 17, 20, 19⟩ [] (hT.trans rfl) (fun z hz => by cases hz) (by decide) (by decide) cl_RL_19 ca_0 hcell hcv hcl ?_
    refine lv_astore (lv' := [(4, .ref q), (0, .ref (gb g + x0)), (1, .int a1), (2, .int a2), (3, .ref (gb g + o))]) hx hb dL_closes_20 hl (by decide) rfl (fun ls hl => ?_)
    refine lv_iconst (v := (1 : Int32)) hx hb dL_closes_22 (by decide) ?_
    exact v_iret C S hr ⟨rfl, rfl⟩ dL_closes_23
set_option maxHeartbeats 4000000 in
set_option maxRecDepth 100000 in
theorem h_closedBy_ret {l : Launch} {g : GL} {R : Nat → Nat → Nat} {L : Nat → Nat → Int64} {N : Nat} {σ σ1 : SI} {x0 o : Nat} {a1 : Int32} {v : Int32} (hm : f_X11_closedBy N R σ x0 a1 = some (.inl v, σ1)) (hSh : ShR R) (hx0 : Ok 194 x0 11) (ho : Ok 194 o 40001) : CtW l g 9 yL_closedBy cL_closedBy 4 (some .int) [(0, 9, 12, 19)] 1 6 [.ref (gb g + x0), .int a1, .ref (gb g + o)] (mkS σ R L) (fun w σ' => w = some (.int 0) ∧ σ' = uL (mkS σ1 R L) o 0 v.toInt64) := by
  refine met_ofWH (cc := cL_closedBy) (maxL := 4) (ret := (some .int)) (hh := [(0, 9, 12, 19)]) (by decide) rfl ?_
  intro p e s m args below meth c s₁ B hml hT hv
  obtain ⟨rfl, hE, hLo, hWd⟩ := hv
  have hr : meth.sig.returnType = (some .int) := B.returns
  have C : Cx l g p s m meth c cL_closedBy 4 RL := ⟨B.exec, B.bytes, hml, findClass_of_methodNamed B.named, hE, hLo, B.notSynchronized⟩
  have S : S2 g s σ R L s.heap [] := ⟨hWd, va_S.rf⟩
  have hx := C.1
  have hb := C.2.1
  have hl := lv_entry ([.ref (gb g + x0), .int a1, .ref (gb g + o)]) (n := 4) (Nat.le_of_ble_eq_true rfl)
  rw [lg_entry_eq]
  generalize (lg_sl ([.ref (gb g + x0), .int a1, .ref (gb g + o)]) ++ List.replicate (4 - (lg_sl ([.ref (gb g + x0), .int a1, .ref (gb g + o)])).length) Slot.unset).toArray = ls at hl ⊢
  have hl : lv_has ls 4 [(0, .ref (gb g + x0)), (1, .int a1), (2, .ref (gb g + o))] := hl
  generalize hH : s.heap = H at S ⊢
  generalize hlc : ([] : List Loc) = locs at S ⊢
  refine lv_aload_n hx hb dL_closedBy_0 rfl (lv_at hl 2 rfl) ?_
  refine lv_iconst (v := (0 : Int32)) hx hb dL_closedBy_1 (by decide) ?_
  refine lv_aload_n hx hb dL_closedBy_2 rfl (lv_at hl 0 rfl) ?_
  refine lv_iload_n hx hb dL_closedBy_3 rfl (lv_at hl 1 rfl) ?_
  refine v_callVC C S KX11 hx0 (ok_X11_closedBy (L := L) hm hSh hx0) ⟨cd_X11_closedBy, ni_RX11, ml_RL_60, in_X11_closedBy, sl_X11_closedBy⟩ ⟨by decide, by decide⟩ rfl (rm_ok (by decide) (by decide)) hl.1 rfl (Nat.le_of_ble_eq_true rfl) ⟨by decide, by decide⟩ dL_closedBy_4 (fun v σ' H locs hp S => ?_) (fun E σ' H locs q ce hp S hcell hcv hcl => ?_)
  · obtain ⟨_, hk, rfl, rfl⟩ := hp
    cases hk
    have S : S2 g s σ1 R L H locs := S
    refine lv_i2l hx hb dL_closedBy_7 rfl ?_
    refine x_last C S ho dL_closedBy_8 (fun H locs S => ?_)
    refine lv_goto (tgt := 15) hx hb dL_closedBy_9 (by decide) ?_
    refine lv_iconst (v := (0 : Int32)) hx hb dL_closedBy_15 (by decide) ?_
    exact v_iret C S hr ⟨rfl, rfl⟩ dL_closedBy_16
  · obtain ⟨k, hk, -⟩ := hp
    cases hk
set_option maxHeartbeats 4000000 in
set_option maxRecDepth 100000 in
theorem h_closedBy_x0 {l : Launch} {g : GL} {R : Nat → Nat → Nat} {L : Nat → Nat → Int64} {N : Nat} {σ σ1 : SI} {x0 o : Nat} {a1 : Int32} (hm : f_X11_closedBy N R σ x0 a1 = some (.inr 0, σ1)) (hSh : ShR R) (hx0 : Ok 194 x0 11) (ho : Ok 194 o 40001) : CtW l g 9 yL_closedBy cL_closedBy 4 (some .int) [(0, 9, 12, 19)] 1 6 [.ref (gb g + x0), .int a1, .ref (gb g + o)] (mkS σ R L) (fun w σ' => w = some (.int 1) ∧ σ' = mkS σ1 R L) := by
  refine met_ofWH (cc := cL_closedBy) (maxL := 4) (ret := (some .int)) (hh := [(0, 9, 12, 19)]) (by decide) rfl ?_
  intro p e s m args below meth c s₁ B hml hT hv
  obtain ⟨rfl, hE, hLo, hWd⟩ := hv
  have hr : meth.sig.returnType = (some .int) := B.returns
  have C : Cx l g p s m meth c cL_closedBy 4 RL := ⟨B.exec, B.bytes, hml, findClass_of_methodNamed B.named, hE, hLo, B.notSynchronized⟩
  have S : S2 g s σ R L s.heap [] := ⟨hWd, va_S.rf⟩
  have hx := C.1
  have hb := C.2.1
  have hl := lv_entry ([.ref (gb g + x0), .int a1, .ref (gb g + o)]) (n := 4) (Nat.le_of_ble_eq_true rfl)
  rw [lg_entry_eq]
  generalize (lg_sl ([.ref (gb g + x0), .int a1, .ref (gb g + o)]) ++ List.replicate (4 - (lg_sl ([.ref (gb g + x0), .int a1, .ref (gb g + o)])).length) Slot.unset).toArray = ls at hl ⊢
  have hl : lv_has ls 4 [(0, .ref (gb g + x0)), (1, .int a1), (2, .ref (gb g + o))] := hl
  generalize hH : s.heap = H at S ⊢
  generalize hlc : ([] : List Loc) = locs at S ⊢
  refine lv_aload_n hx hb dL_closedBy_0 rfl (lv_at hl 2 rfl) ?_
  refine lv_iconst (v := (0 : Int32)) hx hb dL_closedBy_1 (by decide) ?_
  refine lv_aload_n hx hb dL_closedBy_2 rfl (lv_at hl 0 rfl) ?_
  refine lv_iload_n hx hb dL_closedBy_3 rfl (lv_at hl 1 rfl) ?_
  refine v_callVC C S KX11 hx0 (ok_X11_closedBy (L := L) hm hSh hx0) ⟨cd_X11_closedBy, ni_RX11, ml_RL_60, in_X11_closedBy, sl_X11_closedBy⟩ ⟨by decide, by decide⟩ rfl (rm_ok (by decide) (by decide)) hl.1 rfl (Nat.le_of_ble_eq_true rfl) ⟨by decide, by decide⟩ dL_closedBy_4 (fun v σ' H locs hp S => ?_) (fun E σ' H locs q ce hp S hcell hcv hcl => ?_)
  · obtain ⟨k, hk, -⟩ := hp
    cases hk
  · obtain ⟨k, hk, rfl, rfl⟩ := hp
    cases hk
    have S : S2 g s σ1 R L H locs := S
    refine x_catch (E := "java/lang/IndexOutOfBoundsException") C [] ⟨0, 9, 12, 19⟩ [] (hT.trans rfl) (fun z hz => by cases hz) (by decide) (by decide) cl_RL_19 ca_0 hcell hcv hcl ?_
    refine lv_astore_n (lv' := [(3, .ref q), (0, .ref (gb g + x0)), (1, .int a1), (2, .ref (gb g + o))]) hx hb dL_closedBy_12 rfl hl (by decide) rfl (fun ls hl => ?_)
    refine lv_iconst (v := (1 : Int32)) hx hb dL_closedBy_13 (by decide) ?_
    exact v_iret C S hr ⟨rfl, rfl⟩ dL_closedBy_14
set_option maxHeartbeats 4000000 in
set_option maxRecDepth 100000 in
theorem h_isQuiet_ret {l : Launch} {g : GL} {R : Nat → Nat → Nat} {L : Nat → Nat → Int64} {N : Nat} {σ σ1 : SI} {x0 o : Nat} {a1 : Int32} {a2 : Int32} {v : Int32} (hm : f_X11_isQuiet N R σ x0 a1 a2 = some (.inl v, σ1)) (hSh : ShR R) (hx0 : Ok 194 x0 11) (ho : Ok 194 o 40001) : CtW l g 8 yL_isQuiet cL_isQuiet 5 (some .int) [(0, 17, 20, 19)] 1 6 [.ref (gb g + x0), .int a1, .int a2, .ref (gb g + o)] (mkS σ R L) (fun w σ' => w = some (.int 0) ∧ σ' = uL (mkS σ1 R L) o 0 (if v = 0 then 0 else 1 : Int64)) := by
  refine met_ofWH (cc := cL_isQuiet) (maxL := 5) (ret := (some .int)) (hh := [(0, 17, 20, 19)]) (by decide) rfl ?_
  intro p e s m args below meth c s₁ B hml hT hv
  obtain ⟨rfl, hE, hLo, hWd⟩ := hv
  have hr : meth.sig.returnType = (some .int) := B.returns
  have C : Cx l g p s m meth c cL_isQuiet 5 RL := ⟨B.exec, B.bytes, hml, findClass_of_methodNamed B.named, hE, hLo, B.notSynchronized⟩
  have S : S2 g s σ R L s.heap [] := ⟨hWd, va_S.rf⟩
  have hx := C.1
  have hb := C.2.1
  have hl := lv_entry ([.ref (gb g + x0), .int a1, .int a2, .ref (gb g + o)]) (n := 5) (Nat.le_of_ble_eq_true rfl)
  rw [lg_entry_eq]
  generalize (lg_sl ([.ref (gb g + x0), .int a1, .int a2, .ref (gb g + o)]) ++ List.replicate (5 - (lg_sl ([.ref (gb g + x0), .int a1, .int a2, .ref (gb g + o)])).length) Slot.unset).toArray = ls at hl ⊢
  have hl : lv_has ls 5 [(0, .ref (gb g + x0)), (1, .int a1), (2, .int a2), (3, .ref (gb g + o))] := hl
  generalize hH : s.heap = H at S ⊢
  generalize hlc : ([] : List Loc) = locs at S ⊢
  refine lv_aload_n hx hb dL_isQuiet_0 rfl (lv_at hl 3 rfl) ?_
  refine lv_iconst (v := (0 : Int32)) hx hb dL_isQuiet_1 (by decide) ?_
  refine lv_aload_n hx hb dL_isQuiet_2 rfl (lv_at hl 0 rfl) ?_
  refine lv_iload_n hx hb dL_isQuiet_3 rfl (lv_at hl 1 rfl) ?_
  refine lv_iload_n hx hb dL_isQuiet_4 rfl (lv_at hl 2 rfl) ?_
  refine v_callVC C S KX11 hx0 (ok_X11_isQuiet (L := L) hm hSh hx0) ⟨cd_X11_isQuiet, ni_RX11, ml_RL_63, in_X11_isQuiet, sl_X11_isQuiet⟩ ⟨by decide, by decide⟩ rfl (rm_ok (by decide) (by decide)) hl.1 rfl (Nat.le_of_ble_eq_true rfl) ⟨by decide, by decide⟩ dL_isQuiet_5 (fun v σ' H locs hp S => ?_) (fun E σ' H locs q ce hp S hcell hcv hcl => ?_)
  · obtain ⟨_, hk, rfl, rfl⟩ := hp
    cases hk
    have S : S2 g s σ1 R L H locs := S
    refine lv_if_eq (tgt := 15) hx hb dL_isQuiet_8 (by decide) (fun c1 => ?_) (fun c1 => ?_)
    · refine lv_lconst (v := (0 : Int64)) hx hb dL_isQuiet_15 (by decide) ?_
      refine x_last C S ho dL_isQuiet_16 (fun H locs S => ?_)
      refine lv_goto (tgt := 24) hx hb dL_isQuiet_17 (by decide) ?_
      refine lv_iconst (v := (0 : Int32)) hx hb dL_isQuiet_24 (by decide) ?_
      exact v_iret C S hr ⟨rfl, by rw [if_pos c1]⟩ dL_isQuiet_25
    · refine lv_lconst (v := (1 : Int64)) hx hb dL_isQuiet_11 (by decide) ?_
      refine lv_goto (tgt := 16) hx hb dL_isQuiet_12 (by decide) ?_
      refine x_last C S ho dL_isQuiet_16 (fun H locs S => ?_)
      refine lv_goto (tgt := 24) hx hb dL_isQuiet_17 (by decide) ?_
      refine lv_iconst (v := (0 : Int32)) hx hb dL_isQuiet_24 (by decide) ?_
      exact v_iret C S hr ⟨rfl, by rw [if_neg c1]⟩ dL_isQuiet_25
  · obtain ⟨k, hk, -⟩ := hp
    cases hk
set_option maxHeartbeats 4000000 in
set_option maxRecDepth 100000 in
theorem h_isQuiet_x0 {l : Launch} {g : GL} {R : Nat → Nat → Nat} {L : Nat → Nat → Int64} {N : Nat} {σ σ1 : SI} {x0 o : Nat} {a1 : Int32} {a2 : Int32} (hm : f_X11_isQuiet N R σ x0 a1 a2 = some (.inr 0, σ1)) (hSh : ShR R) (hx0 : Ok 194 x0 11) (ho : Ok 194 o 40001) : CtW l g 8 yL_isQuiet cL_isQuiet 5 (some .int) [(0, 17, 20, 19)] 1 6 [.ref (gb g + x0), .int a1, .int a2, .ref (gb g + o)] (mkS σ R L) (fun w σ' => w = some (.int 1) ∧ σ' = mkS σ1 R L) := by
  refine met_ofWH (cc := cL_isQuiet) (maxL := 5) (ret := (some .int)) (hh := [(0, 17, 20, 19)]) (by decide) rfl ?_
  intro p e s m args below meth c s₁ B hml hT hv
  obtain ⟨rfl, hE, hLo, hWd⟩ := hv
  have hr : meth.sig.returnType = (some .int) := B.returns
  have C : Cx l g p s m meth c cL_isQuiet 5 RL := ⟨B.exec, B.bytes, hml, findClass_of_methodNamed B.named, hE, hLo, B.notSynchronized⟩
  have S : S2 g s σ R L s.heap [] := ⟨hWd, va_S.rf⟩
  have hx := C.1
  have hb := C.2.1
  have hl := lv_entry ([.ref (gb g + x0), .int a1, .int a2, .ref (gb g + o)]) (n := 5) (Nat.le_of_ble_eq_true rfl)
  rw [lg_entry_eq]
  generalize (lg_sl ([.ref (gb g + x0), .int a1, .int a2, .ref (gb g + o)]) ++ List.replicate (5 - (lg_sl ([.ref (gb g + x0), .int a1, .int a2, .ref (gb g + o)])).length) Slot.unset).toArray = ls at hl ⊢
  have hl : lv_has ls 5 [(0, .ref (gb g + x0)), (1, .int a1), (2, .int a2), (3, .ref (gb g + o))] := hl
  generalize hH : s.heap = H at S ⊢
  generalize hlc : ([] : List Loc) = locs at S ⊢
  refine lv_aload_n hx hb dL_isQuiet_0 rfl (lv_at hl 3 rfl) ?_
  refine lv_iconst (v := (0 : Int32)) hx hb dL_isQuiet_1 (by decide) ?_
  refine lv_aload_n hx hb dL_isQuiet_2 rfl (lv_at hl 0 rfl) ?_
  refine lv_iload_n hx hb dL_isQuiet_3 rfl (lv_at hl 1 rfl) ?_
  refine lv_iload_n hx hb dL_isQuiet_4 rfl (lv_at hl 2 rfl) ?_
  refine v_callVC C S KX11 hx0 (ok_X11_isQuiet (L := L) hm hSh hx0) ⟨cd_X11_isQuiet, ni_RX11, ml_RL_63, in_X11_isQuiet, sl_X11_isQuiet⟩ ⟨by decide, by decide⟩ rfl (rm_ok (by decide) (by decide)) hl.1 rfl (Nat.le_of_ble_eq_true rfl) ⟨by decide, by decide⟩ dL_isQuiet_5 (fun v σ' H locs hp S => ?_) (fun E σ' H locs q ce hp S hcell hcv hcl => ?_)
  · obtain ⟨k, hk, -⟩ := hp
    cases hk
  · obtain ⟨k, hk, rfl, rfl⟩ := hp
    cases hk
    have S : S2 g s σ1 R L H locs := S
    refine x_catch (E := "java/lang/IndexOutOfBoundsException") C [] ⟨0, 17, 20, 19⟩ [] (hT.trans rfl) (fun z hz => by cases hz) (by decide) (by decide) cl_RL_19 ca_0 hcell hcv hcl ?_
    refine lv_astore (lv' := [(4, .ref q), (0, .ref (gb g + x0)), (1, .int a1), (2, .int a2), (3, .ref (gb g + o))]) hx hb dL_isQuiet_20 hl (by decide) rfl (fun ls hl => ?_)
    refine lv_iconst (v := (1 : Int32)) hx hb dL_isQuiet_22 (by decide) ?_
    exact v_iret C S hr ⟨rfl, rfl⟩ dL_isQuiet_23
set_option maxHeartbeats 4000000 in
set_option maxRecDepth 100000 in
theorem h_dustAt_ret {l : Launch} {g : GL} {R : Nat → Nat → Nat} {L : Nat → Nat → Int64} {N : Nat} {σ σ1 : SI} {x0 o : Nat} {a1 : Int32} {a2 : Int32} {v : Int32} (hm : f_X11_dustAt N R σ x0 a1 a2 = some (.inl v, σ1)) (hSh : ShR R) (hx0 : Ok 194 x0 11) (ho : Ok 194 o 40001) : CtW l g 9 yL_dustAt cL_dustAt 5 (some .int) [(0, 10, 13, 19), (0, 10, 17, 13)] 2 12 [.ref (gb g + x0), .int a1, .int a2, .ref (gb g + o)] (mkS σ R L) (fun w σ' => w = some (.int 0) ∧ σ' = uL (mkS σ1 R L) o 0 v.toInt64) := by
  refine met_ofWH (cc := cL_dustAt) (maxL := 5) (ret := (some .int)) (hh := [(0, 10, 13, 19), (0, 10, 17, 13)]) (by decide) rfl ?_
  intro p e s m args below meth c s₁ B hml hT hv
  obtain ⟨rfl, hE, hLo, hWd⟩ := hv
  have hr : meth.sig.returnType = (some .int) := B.returns
  have C : Cx l g p s m meth c cL_dustAt 5 RL := ⟨B.exec, B.bytes, hml, findClass_of_methodNamed B.named, hE, hLo, B.notSynchronized⟩
  have S : S2 g s σ R L s.heap [] := ⟨hWd, va_S.rf⟩
  have hx := C.1
  have hb := C.2.1
  have hl := lv_entry ([.ref (gb g + x0), .int a1, .int a2, .ref (gb g + o)]) (n := 5) (Nat.le_of_ble_eq_true rfl)
  rw [lg_entry_eq]
  generalize (lg_sl ([.ref (gb g + x0), .int a1, .int a2, .ref (gb g + o)]) ++ List.replicate (5 - (lg_sl ([.ref (gb g + x0), .int a1, .int a2, .ref (gb g + o)])).length) Slot.unset).toArray = ls at hl ⊢
  have hl : lv_has ls 5 [(0, .ref (gb g + x0)), (1, .int a1), (2, .int a2), (3, .ref (gb g + o))] := hl
  generalize hH : s.heap = H at S ⊢
  generalize hlc : ([] : List Loc) = locs at S ⊢
  refine lv_aload_n hx hb dL_dustAt_0 rfl (lv_at hl 3 rfl) ?_
  refine lv_iconst (v := (0 : Int32)) hx hb dL_dustAt_1 (by decide) ?_
  refine lv_aload_n hx hb dL_dustAt_2 rfl (lv_at hl 0 rfl) ?_
  refine lv_iload_n hx hb dL_dustAt_3 rfl (lv_at hl 1 rfl) ?_
  refine lv_iload_n hx hb dL_dustAt_4 rfl (lv_at hl 2 rfl) ?_
  refine v_callVC C S KX11 hx0 (ok_X11_dustAt (L := L) hm hSh hx0) ⟨cd_X11_dustAt, ni_RX11, ml_RL_66, in_X11_dustAt, sl_X11_dustAt⟩ ⟨by decide, by decide⟩ rfl (rm_ok (by decide) (by decide)) hl.1 rfl (Nat.le_of_ble_eq_true rfl) ⟨by decide, by decide⟩ dL_dustAt_5 (fun v σ' H locs hp S => ?_) (fun E σ' H locs q ce hp S hcell hcv hcl => ?_)
  · obtain ⟨_, hk, rfl, rfl⟩ := hp
    cases hk
    have S : S2 g s σ1 R L H locs := S
    refine lv_i2l hx hb dL_dustAt_8 rfl ?_
    refine x_last C S ho dL_dustAt_9 (fun H locs S => ?_)
    refine lv_goto (tgt := 21) hx hb dL_dustAt_10 (by decide) ?_
    refine lv_iconst (v := (0 : Int32)) hx hb dL_dustAt_21 (by decide) ?_
    exact v_iret C S hr ⟨rfl, rfl⟩ dL_dustAt_22
  · obtain ⟨k, hk, -⟩ := hp
    cases hk
set_option maxHeartbeats 4000000 in
set_option maxRecDepth 100000 in
theorem h_dustAt_x0 {l : Launch} {g : GL} {R : Nat → Nat → Nat} {L : Nat → Nat → Int64} {N : Nat} {σ σ1 : SI} {x0 o : Nat} {a1 : Int32} {a2 : Int32} (hm : f_X11_dustAt N R σ x0 a1 a2 = some (.inr 0, σ1)) (hSh : ShR R) (hx0 : Ok 194 x0 11) (ho : Ok 194 o 40001) : CtW l g 9 yL_dustAt cL_dustAt 5 (some .int) [(0, 10, 13, 19), (0, 10, 17, 13)] 2 12 [.ref (gb g + x0), .int a1, .int a2, .ref (gb g + o)] (mkS σ R L) (fun w σ' => w = some (.int 1) ∧ σ' = mkS σ1 R L) := by
  refine met_ofWH (cc := cL_dustAt) (maxL := 5) (ret := (some .int)) (hh := [(0, 10, 13, 19), (0, 10, 17, 13)]) (by decide) rfl ?_
  intro p e s m args below meth c s₁ B hml hT hv
  obtain ⟨rfl, hE, hLo, hWd⟩ := hv
  have hr : meth.sig.returnType = (some .int) := B.returns
  have C : Cx l g p s m meth c cL_dustAt 5 RL := ⟨B.exec, B.bytes, hml, findClass_of_methodNamed B.named, hE, hLo, B.notSynchronized⟩
  have S : S2 g s σ R L s.heap [] := ⟨hWd, va_S.rf⟩
  have hx := C.1
  have hb := C.2.1
  have hl := lv_entry ([.ref (gb g + x0), .int a1, .int a2, .ref (gb g + o)]) (n := 5) (Nat.le_of_ble_eq_true rfl)
  rw [lg_entry_eq]
  generalize (lg_sl ([.ref (gb g + x0), .int a1, .int a2, .ref (gb g + o)]) ++ List.replicate (5 - (lg_sl ([.ref (gb g + x0), .int a1, .int a2, .ref (gb g + o)])).length) Slot.unset).toArray = ls at hl ⊢
  have hl : lv_has ls 5 [(0, .ref (gb g + x0)), (1, .int a1), (2, .int a2), (3, .ref (gb g + o))] := hl
  generalize hH : s.heap = H at S ⊢
  generalize hlc : ([] : List Loc) = locs at S ⊢
  refine lv_aload_n hx hb dL_dustAt_0 rfl (lv_at hl 3 rfl) ?_
  refine lv_iconst (v := (0 : Int32)) hx hb dL_dustAt_1 (by decide) ?_
  refine lv_aload_n hx hb dL_dustAt_2 rfl (lv_at hl 0 rfl) ?_
  refine lv_iload_n hx hb dL_dustAt_3 rfl (lv_at hl 1 rfl) ?_
  refine lv_iload_n hx hb dL_dustAt_4 rfl (lv_at hl 2 rfl) ?_
  refine v_callVC C S KX11 hx0 (ok_X11_dustAt (L := L) hm hSh hx0) ⟨cd_X11_dustAt, ni_RX11, ml_RL_66, in_X11_dustAt, sl_X11_dustAt⟩ ⟨by decide, by decide⟩ rfl (rm_ok (by decide) (by decide)) hl.1 rfl (Nat.le_of_ble_eq_true rfl) ⟨by decide, by decide⟩ dL_dustAt_5 (fun v σ' H locs hp S => ?_) (fun E σ' H locs q ce hp S hcell hcv hcl => ?_)
  · obtain ⟨k, hk, -⟩ := hp
    cases hk
  · obtain ⟨k, hk, rfl, rfl⟩ := hp
    cases hk
    have S : S2 g s σ1 R L H locs := S
    refine x_catch (E := "java/lang/IndexOutOfBoundsException") C [] ⟨0, 10, 13, 19⟩ [⟨0, 10, 17, 13⟩] (hT.trans rfl) (fun z hz => by cases hz) (by decide) (by decide) cl_RL_19 ca_0 hcell hcv hcl ?_
    refine lv_astore (lv' := [(4, .ref q), (0, .ref (gb g + x0)), (1, .int a1), (2, .int a2), (3, .ref (gb g + o))]) hx hb dL_dustAt_13 hl (by decide) rfl (fun ls hl => ?_)
    refine lv_iconst (v := (1 : Int32)) hx hb dL_dustAt_15 (by decide) ?_
    exact v_iret C S hr ⟨rfl, rfl⟩ dL_dustAt_16
set_option maxHeartbeats 4000000 in
set_option maxRecDepth 100000 in
theorem h_dustAt_x1 {l : Launch} {g : GL} {R : Nat → Nat → Nat} {L : Nat → Nat → Int64} {N : Nat} {σ σ1 : SI} {x0 o : Nat} {a1 : Int32} {a2 : Int32} (hm : f_X11_dustAt N R σ x0 a1 a2 = some (.inr 1, σ1)) (hSh : ShR R) (hx0 : Ok 194 x0 11) (ho : Ok 194 o 40001) : CtW l g 9 yL_dustAt cL_dustAt 5 (some .int) [(0, 10, 13, 19), (0, 10, 17, 13)] 2 12 [.ref (gb g + x0), .int a1, .int a2, .ref (gb g + o)] (mkS σ R L) (fun w σ' => w = some (.int 2) ∧ σ' = mkS σ1 R L) := by
  refine met_ofWH (cc := cL_dustAt) (maxL := 5) (ret := (some .int)) (hh := [(0, 10, 13, 19), (0, 10, 17, 13)]) (by decide) rfl ?_
  intro p e s m args below meth c s₁ B hml hT hv
  obtain ⟨rfl, hE, hLo, hWd⟩ := hv
  have hr : meth.sig.returnType = (some .int) := B.returns
  have C : Cx l g p s m meth c cL_dustAt 5 RL := ⟨B.exec, B.bytes, hml, findClass_of_methodNamed B.named, hE, hLo, B.notSynchronized⟩
  have S : S2 g s σ R L s.heap [] := ⟨hWd, va_S.rf⟩
  have hx := C.1
  have hb := C.2.1
  have hl := lv_entry ([.ref (gb g + x0), .int a1, .int a2, .ref (gb g + o)]) (n := 5) (Nat.le_of_ble_eq_true rfl)
  rw [lg_entry_eq]
  generalize (lg_sl ([.ref (gb g + x0), .int a1, .int a2, .ref (gb g + o)]) ++ List.replicate (5 - (lg_sl ([.ref (gb g + x0), .int a1, .int a2, .ref (gb g + o)])).length) Slot.unset).toArray = ls at hl ⊢
  have hl : lv_has ls 5 [(0, .ref (gb g + x0)), (1, .int a1), (2, .int a2), (3, .ref (gb g + o))] := hl
  generalize hH : s.heap = H at S ⊢
  generalize hlc : ([] : List Loc) = locs at S ⊢
  refine lv_aload_n hx hb dL_dustAt_0 rfl (lv_at hl 3 rfl) ?_
  refine lv_iconst (v := (0 : Int32)) hx hb dL_dustAt_1 (by decide) ?_
  refine lv_aload_n hx hb dL_dustAt_2 rfl (lv_at hl 0 rfl) ?_
  refine lv_iload_n hx hb dL_dustAt_3 rfl (lv_at hl 1 rfl) ?_
  refine lv_iload_n hx hb dL_dustAt_4 rfl (lv_at hl 2 rfl) ?_
  refine v_callVC C S KX11 hx0 (ok_X11_dustAt (L := L) hm hSh hx0) ⟨cd_X11_dustAt, ni_RX11, ml_RL_66, in_X11_dustAt, sl_X11_dustAt⟩ ⟨by decide, by decide⟩ rfl (rm_ok (by decide) (by decide)) hl.1 rfl (Nat.le_of_ble_eq_true rfl) ⟨by decide, by decide⟩ dL_dustAt_5 (fun v σ' H locs hp S => ?_) (fun E σ' H locs q ce hp S hcell hcv hcl => ?_)
  · obtain ⟨k, hk, -⟩ := hp
    cases hk
  · obtain ⟨k, hk, rfl, rfl⟩ := hp
    cases hk
    have S : S2 g s σ1 R L H locs := S
    refine x_catch (E := "java/lang/IllegalArgumentException") C [⟨0, 10, 13, 19⟩] ⟨0, 10, 17, 13⟩ [] (hT.trans rfl) (fun z hz => by rw [List.mem_singleton.mp hz]; exact ⟨by decide, "java/lang/IndexOutOfBoundsException", cl_RL_19, by decide⟩) (by decide) (by decide) cl_RL_13 ca_1 hcell hcv hcl ?_
    refine lv_astore (lv' := [(4, .ref q), (0, .ref (gb g + x0)), (1, .int a1), (2, .int a2), (3, .ref (gb g + o))]) hx hb dL_dustAt_17 hl (by decide) rfl (fun ls hl => ?_)
    refine lv_iconst (v := (2 : Int32)) hx hb dL_dustAt_19 (by decide) ?_
    exact v_iret C S hr ⟨rfl, rfl⟩ dL_dustAt_20
set_option maxHeartbeats 4000000 in
set_option maxRecDepth 100000 in
theorem h_neededRadius_ret {l : Launch} {g : GL} {R : Nat → Nat → Nat} {L : Nat → Nat → Int64} {N : Nat} {σ σ1 : SI} {x0 o : Nat} {a1 : Int32} {a2 : Int32} {v : Int32} (hm : f_X11_neededRadius N R σ x0 a1 a2 = some (.inl v, σ1)) (hSh : ShR R) (hx0 : Ok 194 x0 11) (ho : Ok 194 o 40001) : CtW l g 9 yL_neededRadius cL_neededRadius 5 (some .int) [(0, 10, 13, 19)] 2 12 [.ref (gb g + x0), .int a1, .int a2, .ref (gb g + o)] (mkS σ R L) (fun w σ' => w = some (.int 0) ∧ σ' = uL (mkS σ1 R L) o 0 v.toInt64) := by
  refine met_ofWH (cc := cL_neededRadius) (maxL := 5) (ret := (some .int)) (hh := [(0, 10, 13, 19)]) (by decide) rfl ?_
  intro p e s m args below meth c s₁ B hml hT hv
  obtain ⟨rfl, hE, hLo, hWd⟩ := hv
  have hr : meth.sig.returnType = (some .int) := B.returns
  have C : Cx l g p s m meth c cL_neededRadius 5 RL := ⟨B.exec, B.bytes, hml, findClass_of_methodNamed B.named, hE, hLo, B.notSynchronized⟩
  have S : S2 g s σ R L s.heap [] := ⟨hWd, va_S.rf⟩
  have hx := C.1
  have hb := C.2.1
  have hl := lv_entry ([.ref (gb g + x0), .int a1, .int a2, .ref (gb g + o)]) (n := 5) (Nat.le_of_ble_eq_true rfl)
  rw [lg_entry_eq]
  generalize (lg_sl ([.ref (gb g + x0), .int a1, .int a2, .ref (gb g + o)]) ++ List.replicate (5 - (lg_sl ([.ref (gb g + x0), .int a1, .int a2, .ref (gb g + o)])).length) Slot.unset).toArray = ls at hl ⊢
  have hl : lv_has ls 5 [(0, .ref (gb g + x0)), (1, .int a1), (2, .int a2), (3, .ref (gb g + o))] := hl
  generalize hH : s.heap = H at S ⊢
  generalize hlc : ([] : List Loc) = locs at S ⊢
  refine lv_aload_n hx hb dL_neededRadius_0 rfl (lv_at hl 3 rfl) ?_
  refine lv_iconst (v := (0 : Int32)) hx hb dL_neededRadius_1 (by decide) ?_
  refine lv_aload_n hx hb dL_neededRadius_2 rfl (lv_at hl 0 rfl) ?_
  refine lv_iload_n hx hb dL_neededRadius_3 rfl (lv_at hl 1 rfl) ?_
  refine lv_iload_n hx hb dL_neededRadius_4 rfl (lv_at hl 2 rfl) ?_
  refine v_callVC C S KX11 hx0 (ok_X11_neededRadius (L := L) hm hSh hx0) ⟨cd_X11_neededRadius, ni_RX11, ml_RL_69, in_X11_neededRadius, sl_X11_neededRadius⟩ ⟨by decide, by decide⟩ rfl (rm_ok (by decide) (by decide)) hl.1 rfl (Nat.le_of_ble_eq_true rfl) ⟨by decide, by decide⟩ dL_neededRadius_5 (fun v σ' H locs hp S => ?_) (fun E σ' H locs q ce hp S hcell hcv hcl => ?_)
  · obtain ⟨_, hk, rfl, rfl⟩ := hp
    cases hk
    have S : S2 g s σ1 R L H locs := S
    refine lv_i2l hx hb dL_neededRadius_8 rfl ?_
    refine x_last C S ho dL_neededRadius_9 (fun H locs S => ?_)
    refine lv_goto (tgt := 17) hx hb dL_neededRadius_10 (by decide) ?_
    refine lv_iconst (v := (0 : Int32)) hx hb dL_neededRadius_17 (by decide) ?_
    exact v_iret C S hr ⟨rfl, rfl⟩ dL_neededRadius_18
  · obtain ⟨k, hk, -⟩ := hp
    cases hk
set_option maxHeartbeats 4000000 in
set_option maxRecDepth 100000 in
theorem h_neededRadius_x0 {l : Launch} {g : GL} {R : Nat → Nat → Nat} {L : Nat → Nat → Int64} {N : Nat} {σ σ1 : SI} {x0 o : Nat} {a1 : Int32} {a2 : Int32} (hm : f_X11_neededRadius N R σ x0 a1 a2 = some (.inr 0, σ1)) (hSh : ShR R) (hx0 : Ok 194 x0 11) (ho : Ok 194 o 40001) : CtW l g 9 yL_neededRadius cL_neededRadius 5 (some .int) [(0, 10, 13, 19)] 2 12 [.ref (gb g + x0), .int a1, .int a2, .ref (gb g + o)] (mkS σ R L) (fun w σ' => w = some (.int 1) ∧ σ' = mkS σ1 R L) := by
  refine met_ofWH (cc := cL_neededRadius) (maxL := 5) (ret := (some .int)) (hh := [(0, 10, 13, 19)]) (by decide) rfl ?_
  intro p e s m args below meth c s₁ B hml hT hv
  obtain ⟨rfl, hE, hLo, hWd⟩ := hv
  have hr : meth.sig.returnType = (some .int) := B.returns
  have C : Cx l g p s m meth c cL_neededRadius 5 RL := ⟨B.exec, B.bytes, hml, findClass_of_methodNamed B.named, hE, hLo, B.notSynchronized⟩
  have S : S2 g s σ R L s.heap [] := ⟨hWd, va_S.rf⟩
  have hx := C.1
  have hb := C.2.1
  have hl := lv_entry ([.ref (gb g + x0), .int a1, .int a2, .ref (gb g + o)]) (n := 5) (Nat.le_of_ble_eq_true rfl)
  rw [lg_entry_eq]
  generalize (lg_sl ([.ref (gb g + x0), .int a1, .int a2, .ref (gb g + o)]) ++ List.replicate (5 - (lg_sl ([.ref (gb g + x0), .int a1, .int a2, .ref (gb g + o)])).length) Slot.unset).toArray = ls at hl ⊢
  have hl : lv_has ls 5 [(0, .ref (gb g + x0)), (1, .int a1), (2, .int a2), (3, .ref (gb g + o))] := hl
  generalize hH : s.heap = H at S ⊢
  generalize hlc : ([] : List Loc) = locs at S ⊢
  refine lv_aload_n hx hb dL_neededRadius_0 rfl (lv_at hl 3 rfl) ?_
  refine lv_iconst (v := (0 : Int32)) hx hb dL_neededRadius_1 (by decide) ?_
  refine lv_aload_n hx hb dL_neededRadius_2 rfl (lv_at hl 0 rfl) ?_
  refine lv_iload_n hx hb dL_neededRadius_3 rfl (lv_at hl 1 rfl) ?_
  refine lv_iload_n hx hb dL_neededRadius_4 rfl (lv_at hl 2 rfl) ?_
  refine v_callVC C S KX11 hx0 (ok_X11_neededRadius (L := L) hm hSh hx0) ⟨cd_X11_neededRadius, ni_RX11, ml_RL_69, in_X11_neededRadius, sl_X11_neededRadius⟩ ⟨by decide, by decide⟩ rfl (rm_ok (by decide) (by decide)) hl.1 rfl (Nat.le_of_ble_eq_true rfl) ⟨by decide, by decide⟩ dL_neededRadius_5 (fun v σ' H locs hp S => ?_) (fun E σ' H locs q ce hp S hcell hcv hcl => ?_)
  · obtain ⟨k, hk, -⟩ := hp
    cases hk
  · obtain ⟨k, hk, rfl, rfl⟩ := hp
    cases hk
    have S : S2 g s σ1 R L H locs := S
    refine x_catch (E := "java/lang/IndexOutOfBoundsException") C [] ⟨0, 10, 13, 19⟩ [] (hT.trans rfl) (fun z hz => by cases hz) (by decide) (by decide) cl_RL_19 ca_0 hcell hcv hcl ?_
    refine lv_astore (lv' := [(4, .ref q), (0, .ref (gb g + x0)), (1, .int a1), (2, .int a2), (3, .ref (gb g + o))]) hx hb dL_neededRadius_13 hl (by decide) rfl (fun ls hl => ?_)
    refine lv_iconst (v := (1 : Int32)) hx hb dL_neededRadius_15 (by decide) ?_
    exact v_iret C S hr ⟨rfl, rfl⟩ dL_neededRadius_16
set_option maxHeartbeats 4000000 in
set_option maxRecDepth 100000 in
theorem h_quietMinutes_ret {l : Launch} {g : GL} {R : Nat → Nat → Nat} {L : Nat → Nat → Int64} {N : Nat} {σ σ1 : SI} {x0 o : Nat} {a1 : Int32} {v : Int32} (hm : f_X11_quietMinutes N R σ x0 a1 = some (.inl v, σ1)) (hSh : ShR R) (hx0 : Ok 194 x0 11) (ho : Ok 194 o 40001) : CtW l g 8 yL_quietMinutes cL_quietMinutes 4 (some .int) [(0, 9, 12, 19)] 1 6 [.ref (gb g + x0), .int a1, .ref (gb g + o)] (mkS σ R L) (fun w σ' => w = some (.int 0) ∧ σ' = uL (mkS σ1 R L) o 0 v.toInt64) := by
  refine met_ofWH (cc := cL_quietMinutes) (maxL := 4) (ret := (some .int)) (hh := [(0, 9, 12, 19)]) (by decide) rfl ?_
  intro p e s m args below meth c s₁ B hml hT hv
  obtain ⟨rfl, hE, hLo, hWd⟩ := hv
  have hr : meth.sig.returnType = (some .int) := B.returns
  have C : Cx l g p s m meth c cL_quietMinutes 4 RL := ⟨B.exec, B.bytes, hml, findClass_of_methodNamed B.named, hE, hLo, B.notSynchronized⟩
  have S : S2 g s σ R L s.heap [] := ⟨hWd, va_S.rf⟩
  have hx := C.1
  have hb := C.2.1
  have hl := lv_entry ([.ref (gb g + x0), .int a1, .ref (gb g + o)]) (n := 4) (Nat.le_of_ble_eq_true rfl)
  rw [lg_entry_eq]
  generalize (lg_sl ([.ref (gb g + x0), .int a1, .ref (gb g + o)]) ++ List.replicate (4 - (lg_sl ([.ref (gb g + x0), .int a1, .ref (gb g + o)])).length) Slot.unset).toArray = ls at hl ⊢
  have hl : lv_has ls 4 [(0, .ref (gb g + x0)), (1, .int a1), (2, .ref (gb g + o))] := hl
  generalize hH : s.heap = H at S ⊢
  generalize hlc : ([] : List Loc) = locs at S ⊢
  refine lv_aload_n hx hb dL_quietMinutes_0 rfl (lv_at hl 2 rfl) ?_
  refine lv_iconst (v := (0 : Int32)) hx hb dL_quietMinutes_1 (by decide) ?_
  refine lv_aload_n hx hb dL_quietMinutes_2 rfl (lv_at hl 0 rfl) ?_
  refine lv_iload_n hx hb dL_quietMinutes_3 rfl (lv_at hl 1 rfl) ?_
  refine v_callVC C S KX11 hx0 (ok_X11_quietMinutes (L := L) hm hSh hx0) ⟨cd_X11_quietMinutes, ni_RX11, ml_RL_72, in_X11_quietMinutes, sl_X11_quietMinutes⟩ ⟨by decide, by decide⟩ rfl (rm_ok (by decide) (by decide)) hl.1 rfl (Nat.le_of_ble_eq_true rfl) ⟨by decide, by decide⟩ dL_quietMinutes_4 (fun v σ' H locs hp S => ?_) (fun E σ' H locs q ce hp S hcell hcv hcl => ?_)
  · obtain ⟨_, hk, rfl, rfl⟩ := hp
    cases hk
    have S : S2 g s σ1 R L H locs := S
    refine lv_i2l hx hb dL_quietMinutes_7 rfl ?_
    refine x_last C S ho dL_quietMinutes_8 (fun H locs S => ?_)
    refine lv_goto (tgt := 15) hx hb dL_quietMinutes_9 (by decide) ?_
    refine lv_iconst (v := (0 : Int32)) hx hb dL_quietMinutes_15 (by decide) ?_
    exact v_iret C S hr ⟨rfl, rfl⟩ dL_quietMinutes_16
  · obtain ⟨k, hk, -⟩ := hp
    cases hk
set_option maxHeartbeats 4000000 in
set_option maxRecDepth 100000 in
theorem h_quietMinutes_x0 {l : Launch} {g : GL} {R : Nat → Nat → Nat} {L : Nat → Nat → Int64} {N : Nat} {σ σ1 : SI} {x0 o : Nat} {a1 : Int32} (hm : f_X11_quietMinutes N R σ x0 a1 = some (.inr 0, σ1)) (hSh : ShR R) (hx0 : Ok 194 x0 11) (ho : Ok 194 o 40001) : CtW l g 8 yL_quietMinutes cL_quietMinutes 4 (some .int) [(0, 9, 12, 19)] 1 6 [.ref (gb g + x0), .int a1, .ref (gb g + o)] (mkS σ R L) (fun w σ' => w = some (.int 1) ∧ σ' = mkS σ1 R L) := by
  refine met_ofWH (cc := cL_quietMinutes) (maxL := 4) (ret := (some .int)) (hh := [(0, 9, 12, 19)]) (by decide) rfl ?_
  intro p e s m args below meth c s₁ B hml hT hv
  obtain ⟨rfl, hE, hLo, hWd⟩ := hv
  have hr : meth.sig.returnType = (some .int) := B.returns
  have C : Cx l g p s m meth c cL_quietMinutes 4 RL := ⟨B.exec, B.bytes, hml, findClass_of_methodNamed B.named, hE, hLo, B.notSynchronized⟩
  have S : S2 g s σ R L s.heap [] := ⟨hWd, va_S.rf⟩
  have hx := C.1
  have hb := C.2.1
  have hl := lv_entry ([.ref (gb g + x0), .int a1, .ref (gb g + o)]) (n := 4) (Nat.le_of_ble_eq_true rfl)
  rw [lg_entry_eq]
  generalize (lg_sl ([.ref (gb g + x0), .int a1, .ref (gb g + o)]) ++ List.replicate (4 - (lg_sl ([.ref (gb g + x0), .int a1, .ref (gb g + o)])).length) Slot.unset).toArray = ls at hl ⊢
  have hl : lv_has ls 4 [(0, .ref (gb g + x0)), (1, .int a1), (2, .ref (gb g + o))] := hl
  generalize hH : s.heap = H at S ⊢
  generalize hlc : ([] : List Loc) = locs at S ⊢
  refine lv_aload_n hx hb dL_quietMinutes_0 rfl (lv_at hl 2 rfl) ?_
  refine lv_iconst (v := (0 : Int32)) hx hb dL_quietMinutes_1 (by decide) ?_
  refine lv_aload_n hx hb dL_quietMinutes_2 rfl (lv_at hl 0 rfl) ?_
  refine lv_iload_n hx hb dL_quietMinutes_3 rfl (lv_at hl 1 rfl) ?_
  refine v_callVC C S KX11 hx0 (ok_X11_quietMinutes (L := L) hm hSh hx0) ⟨cd_X11_quietMinutes, ni_RX11, ml_RL_72, in_X11_quietMinutes, sl_X11_quietMinutes⟩ ⟨by decide, by decide⟩ rfl (rm_ok (by decide) (by decide)) hl.1 rfl (Nat.le_of_ble_eq_true rfl) ⟨by decide, by decide⟩ dL_quietMinutes_4 (fun v σ' H locs hp S => ?_) (fun E σ' H locs q ce hp S hcell hcv hcl => ?_)
  · obtain ⟨k, hk, -⟩ := hp
    cases hk
  · obtain ⟨k, hk, rfl, rfl⟩ := hp
    cases hk
    have S : S2 g s σ1 R L H locs := S
    refine x_catch (E := "java/lang/IndexOutOfBoundsException") C [] ⟨0, 9, 12, 19⟩ [] (hT.trans rfl) (fun z hz => by cases hz) (by decide) (by decide) cl_RL_19 ca_0 hcell hcv hcl ?_
    refine lv_astore_n (lv' := [(3, .ref q), (0, .ref (gb g + x0)), (1, .int a1), (2, .ref (gb g + o))]) hx hb dL_quietMinutes_12 rfl hl (by decide) rfl (fun ls hl => ?_)
    refine lv_iconst (v := (1 : Int32)) hx hb dL_quietMinutes_13 (by decide) ?_
    exact v_iret C S hr ⟨rfl, rfl⟩ dL_quietMinutes_14
set_option maxHeartbeats 4000000 in
set_option maxRecDepth 100000 in
theorem h_dustHours_ret {l : Launch} {g : GL} {R : Nat → Nat → Nat} {L : Nat → Nat → Int64} {N : Nat} {σ σ1 : SI} {x0 o : Nat} {a1 : Int32} {v : Int32} (hm : f_X11_dustHours N R σ x0 a1 = some (.inl v, σ1)) (hSh : ShR R) (hx0 : Ok 194 x0 11) (ho : Ok 194 o 40001) : CtW l g 9 yL_dustHours cL_dustHours 4 (some .int) [(0, 9, 12, 19)] 1 6 [.ref (gb g + x0), .int a1, .ref (gb g + o)] (mkS σ R L) (fun w σ' => w = some (.int 0) ∧ σ' = uL (mkS σ1 R L) o 0 v.toInt64) := by
  refine met_ofWH (cc := cL_dustHours) (maxL := 4) (ret := (some .int)) (hh := [(0, 9, 12, 19)]) (by decide) rfl ?_
  intro p e s m args below meth c s₁ B hml hT hv
  obtain ⟨rfl, hE, hLo, hWd⟩ := hv
  have hr : meth.sig.returnType = (some .int) := B.returns
  have C : Cx l g p s m meth c cL_dustHours 4 RL := ⟨B.exec, B.bytes, hml, findClass_of_methodNamed B.named, hE, hLo, B.notSynchronized⟩
  have S : S2 g s σ R L s.heap [] := ⟨hWd, va_S.rf⟩
  have hx := C.1
  have hb := C.2.1
  have hl := lv_entry ([.ref (gb g + x0), .int a1, .ref (gb g + o)]) (n := 4) (Nat.le_of_ble_eq_true rfl)
  rw [lg_entry_eq]
  generalize (lg_sl ([.ref (gb g + x0), .int a1, .ref (gb g + o)]) ++ List.replicate (4 - (lg_sl ([.ref (gb g + x0), .int a1, .ref (gb g + o)])).length) Slot.unset).toArray = ls at hl ⊢
  have hl : lv_has ls 4 [(0, .ref (gb g + x0)), (1, .int a1), (2, .ref (gb g + o))] := hl
  generalize hH : s.heap = H at S ⊢
  generalize hlc : ([] : List Loc) = locs at S ⊢
  refine lv_aload_n hx hb dL_dustHours_0 rfl (lv_at hl 2 rfl) ?_
  refine lv_iconst (v := (0 : Int32)) hx hb dL_dustHours_1 (by decide) ?_
  refine lv_aload_n hx hb dL_dustHours_2 rfl (lv_at hl 0 rfl) ?_
  refine lv_iload_n hx hb dL_dustHours_3 rfl (lv_at hl 1 rfl) ?_
  refine v_callVC C S KX11 hx0 (ok_X11_dustHours (L := L) hm hSh hx0) ⟨cd_X11_dustHours, ni_RX11, ml_RL_75, in_X11_dustHours, sl_X11_dustHours⟩ ⟨by decide, by decide⟩ rfl (rm_ok (by decide) (by decide)) hl.1 rfl (Nat.le_of_ble_eq_true rfl) ⟨by decide, by decide⟩ dL_dustHours_4 (fun v σ' H locs hp S => ?_) (fun E σ' H locs q ce hp S hcell hcv hcl => ?_)
  · obtain ⟨_, hk, rfl, rfl⟩ := hp
    cases hk
    have S : S2 g s σ1 R L H locs := S
    refine lv_i2l hx hb dL_dustHours_7 rfl ?_
    refine x_last C S ho dL_dustHours_8 (fun H locs S => ?_)
    refine lv_goto (tgt := 15) hx hb dL_dustHours_9 (by decide) ?_
    refine lv_iconst (v := (0 : Int32)) hx hb dL_dustHours_15 (by decide) ?_
    exact v_iret C S hr ⟨rfl, rfl⟩ dL_dustHours_16
  · obtain ⟨k, hk, -⟩ := hp
    cases hk
set_option maxHeartbeats 4000000 in
set_option maxRecDepth 100000 in
theorem h_dustHours_x0 {l : Launch} {g : GL} {R : Nat → Nat → Nat} {L : Nat → Nat → Int64} {N : Nat} {σ σ1 : SI} {x0 o : Nat} {a1 : Int32} (hm : f_X11_dustHours N R σ x0 a1 = some (.inr 0, σ1)) (hSh : ShR R) (hx0 : Ok 194 x0 11) (ho : Ok 194 o 40001) : CtW l g 9 yL_dustHours cL_dustHours 4 (some .int) [(0, 9, 12, 19)] 1 6 [.ref (gb g + x0), .int a1, .ref (gb g + o)] (mkS σ R L) (fun w σ' => w = some (.int 1) ∧ σ' = mkS σ1 R L) := by
  refine met_ofWH (cc := cL_dustHours) (maxL := 4) (ret := (some .int)) (hh := [(0, 9, 12, 19)]) (by decide) rfl ?_
  intro p e s m args below meth c s₁ B hml hT hv
  obtain ⟨rfl, hE, hLo, hWd⟩ := hv
  have hr : meth.sig.returnType = (some .int) := B.returns
  have C : Cx l g p s m meth c cL_dustHours 4 RL := ⟨B.exec, B.bytes, hml, findClass_of_methodNamed B.named, hE, hLo, B.notSynchronized⟩
  have S : S2 g s σ R L s.heap [] := ⟨hWd, va_S.rf⟩
  have hx := C.1
  have hb := C.2.1
  have hl := lv_entry ([.ref (gb g + x0), .int a1, .ref (gb g + o)]) (n := 4) (Nat.le_of_ble_eq_true rfl)
  rw [lg_entry_eq]
  generalize (lg_sl ([.ref (gb g + x0), .int a1, .ref (gb g + o)]) ++ List.replicate (4 - (lg_sl ([.ref (gb g + x0), .int a1, .ref (gb g + o)])).length) Slot.unset).toArray = ls at hl ⊢
  have hl : lv_has ls 4 [(0, .ref (gb g + x0)), (1, .int a1), (2, .ref (gb g + o))] := hl
  generalize hH : s.heap = H at S ⊢
  generalize hlc : ([] : List Loc) = locs at S ⊢
  refine lv_aload_n hx hb dL_dustHours_0 rfl (lv_at hl 2 rfl) ?_
  refine lv_iconst (v := (0 : Int32)) hx hb dL_dustHours_1 (by decide) ?_
  refine lv_aload_n hx hb dL_dustHours_2 rfl (lv_at hl 0 rfl) ?_
  refine lv_iload_n hx hb dL_dustHours_3 rfl (lv_at hl 1 rfl) ?_
  refine v_callVC C S KX11 hx0 (ok_X11_dustHours (L := L) hm hSh hx0) ⟨cd_X11_dustHours, ni_RX11, ml_RL_75, in_X11_dustHours, sl_X11_dustHours⟩ ⟨by decide, by decide⟩ rfl (rm_ok (by decide) (by decide)) hl.1 rfl (Nat.le_of_ble_eq_true rfl) ⟨by decide, by decide⟩ dL_dustHours_4 (fun v σ' H locs hp S => ?_) (fun E σ' H locs q ce hp S hcell hcv hcl => ?_)
  · obtain ⟨k, hk, -⟩ := hp
    cases hk
  · obtain ⟨k, hk, rfl, rfl⟩ := hp
    cases hk
    have S : S2 g s σ1 R L H locs := S
    refine x_catch (E := "java/lang/IndexOutOfBoundsException") C [] ⟨0, 9, 12, 19⟩ [] (hT.trans rfl) (fun z hz => by cases hz) (by decide) (by decide) cl_RL_19 ca_0 hcell hcv hcl ?_
    refine lv_astore_n (lv' := [(3, .ref q), (0, .ref (gb g + x0)), (1, .int a1), (2, .ref (gb g + o))]) hx hb dL_dustHours_12 rfl hl (by decide) rfl (fun ls hl => ?_)
    refine lv_iconst (v := (1 : Int32)) hx hb dL_dustHours_13 (by decide) ?_
    exact v_iret C S hr ⟨rfl, rfl⟩ dL_dustHours_14
set_option maxHeartbeats 4000000 in
set_option maxRecDepth 100000 in
theorem h_timeOf_ret {l : Launch} {g : GL} {R : Nat → Nat → Nat} {L : Nat → Nat → Int64} {N : Nat} {σ σ1 : SI} {x0 o : Nat} {a1 : Int32} {v : Int32} (hm : f_X11_timeOf N R σ x0 a1 = some (.inl v, σ1)) (hSh : ShR R) (hx0 : Ok 194 x0 11) (ho : Ok 194 o 40001) : CtW l g 8 yL_timeOf cL_timeOf 4 (some .int) [(0, 9, 12, 19)] 1 6 [.ref (gb g + x0), .int a1, .ref (gb g + o)] (mkS σ R L) (fun w σ' => w = some (.int 0) ∧ σ' = uL (mkS σ1 R L) o 0 v.toInt64) := by
  refine met_ofWH (cc := cL_timeOf) (maxL := 4) (ret := (some .int)) (hh := [(0, 9, 12, 19)]) (by decide) rfl ?_
  intro p e s m args below meth c s₁ B hml hT hv
  obtain ⟨rfl, hE, hLo, hWd⟩ := hv
  have hr : meth.sig.returnType = (some .int) := B.returns
  have C : Cx l g p s m meth c cL_timeOf 4 RL := ⟨B.exec, B.bytes, hml, findClass_of_methodNamed B.named, hE, hLo, B.notSynchronized⟩
  have S : S2 g s σ R L s.heap [] := ⟨hWd, va_S.rf⟩
  have hx := C.1
  have hb := C.2.1
  have hl := lv_entry ([.ref (gb g + x0), .int a1, .ref (gb g + o)]) (n := 4) (Nat.le_of_ble_eq_true rfl)
  rw [lg_entry_eq]
  generalize (lg_sl ([.ref (gb g + x0), .int a1, .ref (gb g + o)]) ++ List.replicate (4 - (lg_sl ([.ref (gb g + x0), .int a1, .ref (gb g + o)])).length) Slot.unset).toArray = ls at hl ⊢
  have hl : lv_has ls 4 [(0, .ref (gb g + x0)), (1, .int a1), (2, .ref (gb g + o))] := hl
  generalize hH : s.heap = H at S ⊢
  generalize hlc : ([] : List Loc) = locs at S ⊢
  refine lv_aload_n hx hb dL_timeOf_0 rfl (lv_at hl 2 rfl) ?_
  refine lv_iconst (v := (0 : Int32)) hx hb dL_timeOf_1 (by decide) ?_
  refine lv_aload_n hx hb dL_timeOf_2 rfl (lv_at hl 0 rfl) ?_
  refine lv_iload_n hx hb dL_timeOf_3 rfl (lv_at hl 1 rfl) ?_
  refine v_callVC C S KX11 hx0 (ok_X11_timeOf (L := L) hm hSh hx0) ⟨cd_X11_timeOf, ni_RX11, ml_RL_78, in_X11_timeOf, sl_X11_timeOf⟩ ⟨by decide, by decide⟩ rfl (rm_ok (by decide) (by decide)) hl.1 rfl (Nat.le_of_ble_eq_true rfl) ⟨by decide, by decide⟩ dL_timeOf_4 (fun v σ' H locs hp S => ?_) (fun E σ' H locs q ce hp S hcell hcv hcl => ?_)
  · obtain ⟨_, hk, rfl, rfl⟩ := hp
    cases hk
    have S : S2 g s σ1 R L H locs := S
    refine lv_i2l hx hb dL_timeOf_7 rfl ?_
    refine x_last C S ho dL_timeOf_8 (fun H locs S => ?_)
    refine lv_goto (tgt := 15) hx hb dL_timeOf_9 (by decide) ?_
    refine lv_iconst (v := (0 : Int32)) hx hb dL_timeOf_15 (by decide) ?_
    exact v_iret C S hr ⟨rfl, rfl⟩ dL_timeOf_16
  · obtain ⟨k, hk, -⟩ := hp
    cases hk
set_option maxHeartbeats 4000000 in
set_option maxRecDepth 100000 in
theorem h_timeOf_x0 {l : Launch} {g : GL} {R : Nat → Nat → Nat} {L : Nat → Nat → Int64} {N : Nat} {σ σ1 : SI} {x0 o : Nat} {a1 : Int32} (hm : f_X11_timeOf N R σ x0 a1 = some (.inr 0, σ1)) (hSh : ShR R) (hx0 : Ok 194 x0 11) (ho : Ok 194 o 40001) : CtW l g 8 yL_timeOf cL_timeOf 4 (some .int) [(0, 9, 12, 19)] 1 6 [.ref (gb g + x0), .int a1, .ref (gb g + o)] (mkS σ R L) (fun w σ' => w = some (.int 1) ∧ σ' = mkS σ1 R L) := by
  refine met_ofWH (cc := cL_timeOf) (maxL := 4) (ret := (some .int)) (hh := [(0, 9, 12, 19)]) (by decide) rfl ?_
  intro p e s m args below meth c s₁ B hml hT hv
  obtain ⟨rfl, hE, hLo, hWd⟩ := hv
  have hr : meth.sig.returnType = (some .int) := B.returns
  have C : Cx l g p s m meth c cL_timeOf 4 RL := ⟨B.exec, B.bytes, hml, findClass_of_methodNamed B.named, hE, hLo, B.notSynchronized⟩
  have S : S2 g s σ R L s.heap [] := ⟨hWd, va_S.rf⟩
  have hx := C.1
  have hb := C.2.1
  have hl := lv_entry ([.ref (gb g + x0), .int a1, .ref (gb g + o)]) (n := 4) (Nat.le_of_ble_eq_true rfl)
  rw [lg_entry_eq]
  generalize (lg_sl ([.ref (gb g + x0), .int a1, .ref (gb g + o)]) ++ List.replicate (4 - (lg_sl ([.ref (gb g + x0), .int a1, .ref (gb g + o)])).length) Slot.unset).toArray = ls at hl ⊢
  have hl : lv_has ls 4 [(0, .ref (gb g + x0)), (1, .int a1), (2, .ref (gb g + o))] := hl
  generalize hH : s.heap = H at S ⊢
  generalize hlc : ([] : List Loc) = locs at S ⊢
  refine lv_aload_n hx hb dL_timeOf_0 rfl (lv_at hl 2 rfl) ?_
  refine lv_iconst (v := (0 : Int32)) hx hb dL_timeOf_1 (by decide) ?_
  refine lv_aload_n hx hb dL_timeOf_2 rfl (lv_at hl 0 rfl) ?_
  refine lv_iload_n hx hb dL_timeOf_3 rfl (lv_at hl 1 rfl) ?_
  refine v_callVC C S KX11 hx0 (ok_X11_timeOf (L := L) hm hSh hx0) ⟨cd_X11_timeOf, ni_RX11, ml_RL_78, in_X11_timeOf, sl_X11_timeOf⟩ ⟨by decide, by decide⟩ rfl (rm_ok (by decide) (by decide)) hl.1 rfl (Nat.le_of_ble_eq_true rfl) ⟨by decide, by decide⟩ dL_timeOf_4 (fun v σ' H locs hp S => ?_) (fun E σ' H locs q ce hp S hcell hcv hcl => ?_)
  · obtain ⟨k, hk, -⟩ := hp
    cases hk
  · obtain ⟨k, hk, rfl, rfl⟩ := hp
    cases hk
    have S : S2 g s σ1 R L H locs := S
    refine x_catch (E := "java/lang/IndexOutOfBoundsException") C [] ⟨0, 9, 12, 19⟩ [] (hT.trans rfl) (fun z hz => by cases hz) (by decide) (by decide) cl_RL_19 ca_0 hcell hcv hcl ?_
    refine lv_astore_n (lv' := [(3, .ref q), (0, .ref (gb g + x0)), (1, .int a1), (2, .ref (gb g + o))]) hx hb dL_timeOf_12 rfl hl (by decide) rfl (fun ls hl => ?_)
    refine lv_iconst (v := (1 : Int32)) hx hb dL_timeOf_13 (by decide) ?_
    exact v_iret C S hr ⟨rfl, rfl⟩ dL_timeOf_14
set_option maxHeartbeats 4000000 in
set_option maxRecDepth 100000 in
theorem h_isFired_ret {l : Launch} {g : GL} {R : Nat → Nat → Nat} {L : Nat → Nat → Int64} {N : Nat} {σ σ1 : SI} {x0 o : Nat} {a1 : Int32} {v : Int32} (hm : f_X11_isFired N R σ x0 a1 = some (.inl v, σ1)) (hSh : ShR R) (hx0 : Ok 194 x0 11) (ho : Ok 194 o 40001) : CtW l g 9 yL_isFired cL_isFired 4 (some .int) [(0, 16, 19, 19)] 1 6 [.ref (gb g + x0), .int a1, .ref (gb g + o)] (mkS σ R L) (fun w σ' => w = some (.int 0) ∧ σ' = uL (mkS σ1 R L) o 0 (if v = 0 then 0 else 1 : Int64)) := by
  refine met_ofWH (cc := cL_isFired) (maxL := 4) (ret := (some .int)) (hh := [(0, 16, 19, 19)]) (by decide) rfl ?_
  intro p e s m args below meth c s₁ B hml hT hv
  obtain ⟨rfl, hE, hLo, hWd⟩ := hv
  have hr : meth.sig.returnType = (some .int) := B.returns
  have C : Cx l g p s m meth c cL_isFired 4 RL := ⟨B.exec, B.bytes, hml, findClass_of_methodNamed B.named, hE, hLo, B.notSynchronized⟩
  have S : S2 g s σ R L s.heap [] := ⟨hWd, va_S.rf⟩
  have hx := C.1
  have hb := C.2.1
  have hl := lv_entry ([.ref (gb g + x0), .int a1, .ref (gb g + o)]) (n := 4) (Nat.le_of_ble_eq_true rfl)
  rw [lg_entry_eq]
  generalize (lg_sl ([.ref (gb g + x0), .int a1, .ref (gb g + o)]) ++ List.replicate (4 - (lg_sl ([.ref (gb g + x0), .int a1, .ref (gb g + o)])).length) Slot.unset).toArray = ls at hl ⊢
  have hl : lv_has ls 4 [(0, .ref (gb g + x0)), (1, .int a1), (2, .ref (gb g + o))] := hl
  generalize hH : s.heap = H at S ⊢
  generalize hlc : ([] : List Loc) = locs at S ⊢
  refine lv_aload_n hx hb dL_isFired_0 rfl (lv_at hl 2 rfl) ?_
  refine lv_iconst (v := (0 : Int32)) hx hb dL_isFired_1 (by decide) ?_
  refine lv_aload_n hx hb dL_isFired_2 rfl (lv_at hl 0 rfl) ?_
  refine lv_iload_n hx hb dL_isFired_3 rfl (lv_at hl 1 rfl) ?_
  refine v_callVC C S KX11 hx0 (ok_X11_isFired (L := L) hm hSh hx0) ⟨cd_X11_isFired, ni_RX11, ml_RL_81, in_X11_isFired, sl_X11_isFired⟩ ⟨by decide, by decide⟩ rfl (rm_ok (by decide) (by decide)) hl.1 rfl (Nat.le_of_ble_eq_true rfl) ⟨by decide, by decide⟩ dL_isFired_4 (fun v σ' H locs hp S => ?_) (fun E σ' H locs q ce hp S hcell hcv hcl => ?_)
  · obtain ⟨_, hk, rfl, rfl⟩ := hp
    cases hk
    have S : S2 g s σ1 R L H locs := S
    refine lv_if_eq (tgt := 14) hx hb dL_isFired_7 (by decide) (fun c1 => ?_) (fun c1 => ?_)
    · refine lv_lconst (v := (0 : Int64)) hx hb dL_isFired_14 (by decide) ?_
      refine x_last C S ho dL_isFired_15 (fun H locs S => ?_)
      refine lv_goto (tgt := 22) hx hb dL_isFired_16 (by decide) ?_
      refine lv_iconst (v := (0 : Int32)) hx hb dL_isFired_22 (by decide) ?_
      exact v_iret C S hr ⟨rfl, by rw [if_pos c1]⟩ dL_isFired_23
    · refine lv_lconst (v := (1 : Int64)) hx hb dL_isFired_10 (by decide) ?_
      refine lv_goto (tgt := 15) hx hb dL_isFired_11 (by decide) ?_
      refine x_last C S ho dL_isFired_15 (fun H locs S => ?_)
      refine lv_goto (tgt := 22) hx hb dL_isFired_16 (by decide) ?_
      refine lv_iconst (v := (0 : Int32)) hx hb dL_isFired_22 (by decide) ?_
      exact v_iret C S hr ⟨rfl, by rw [if_neg c1]⟩ dL_isFired_23
  · obtain ⟨k, hk, -⟩ := hp
    cases hk
set_option maxHeartbeats 4000000 in
set_option maxRecDepth 100000 in
theorem h_isFired_x0 {l : Launch} {g : GL} {R : Nat → Nat → Nat} {L : Nat → Nat → Int64} {N : Nat} {σ σ1 : SI} {x0 o : Nat} {a1 : Int32} (hm : f_X11_isFired N R σ x0 a1 = some (.inr 0, σ1)) (hSh : ShR R) (hx0 : Ok 194 x0 11) (ho : Ok 194 o 40001) : CtW l g 9 yL_isFired cL_isFired 4 (some .int) [(0, 16, 19, 19)] 1 6 [.ref (gb g + x0), .int a1, .ref (gb g + o)] (mkS σ R L) (fun w σ' => w = some (.int 1) ∧ σ' = mkS σ1 R L) := by
  refine met_ofWH (cc := cL_isFired) (maxL := 4) (ret := (some .int)) (hh := [(0, 16, 19, 19)]) (by decide) rfl ?_
  intro p e s m args below meth c s₁ B hml hT hv
  obtain ⟨rfl, hE, hLo, hWd⟩ := hv
  have hr : meth.sig.returnType = (some .int) := B.returns
  have C : Cx l g p s m meth c cL_isFired 4 RL := ⟨B.exec, B.bytes, hml, findClass_of_methodNamed B.named, hE, hLo, B.notSynchronized⟩
  have S : S2 g s σ R L s.heap [] := ⟨hWd, va_S.rf⟩
  have hx := C.1
  have hb := C.2.1
  have hl := lv_entry ([.ref (gb g + x0), .int a1, .ref (gb g + o)]) (n := 4) (Nat.le_of_ble_eq_true rfl)
  rw [lg_entry_eq]
  generalize (lg_sl ([.ref (gb g + x0), .int a1, .ref (gb g + o)]) ++ List.replicate (4 - (lg_sl ([.ref (gb g + x0), .int a1, .ref (gb g + o)])).length) Slot.unset).toArray = ls at hl ⊢
  have hl : lv_has ls 4 [(0, .ref (gb g + x0)), (1, .int a1), (2, .ref (gb g + o))] := hl
  generalize hH : s.heap = H at S ⊢
  generalize hlc : ([] : List Loc) = locs at S ⊢
  refine lv_aload_n hx hb dL_isFired_0 rfl (lv_at hl 2 rfl) ?_
  refine lv_iconst (v := (0 : Int32)) hx hb dL_isFired_1 (by decide) ?_
  refine lv_aload_n hx hb dL_isFired_2 rfl (lv_at hl 0 rfl) ?_
  refine lv_iload_n hx hb dL_isFired_3 rfl (lv_at hl 1 rfl) ?_
  refine v_callVC C S KX11 hx0 (ok_X11_isFired (L := L) hm hSh hx0) ⟨cd_X11_isFired, ni_RX11, ml_RL_81, in_X11_isFired, sl_X11_isFired⟩ ⟨by decide, by decide⟩ rfl (rm_ok (by decide) (by decide)) hl.1 rfl (Nat.le_of_ble_eq_true rfl) ⟨by decide, by decide⟩ dL_isFired_4 (fun v σ' H locs hp S => ?_) (fun E σ' H locs q ce hp S hcell hcv hcl => ?_)
  · obtain ⟨k, hk, -⟩ := hp
    cases hk
  · obtain ⟨k, hk, rfl, rfl⟩ := hp
    cases hk
    have S : S2 g s σ1 R L H locs := S
    refine x_catch (E := "java/lang/IndexOutOfBoundsException") C [] ⟨0, 16, 19, 19⟩ [] (hT.trans rfl) (fun z hz => by cases hz) (by decide) (by decide) cl_RL_19 ca_0 hcell hcv hcl ?_
    refine lv_astore_n (lv' := [(3, .ref q), (0, .ref (gb g + x0)), (1, .int a1), (2, .ref (gb g + o))]) hx hb dL_isFired_19 rfl hl (by decide) rfl (fun ls hl => ?_)
    refine lv_iconst (v := (1 : Int32)) hx hb dL_isFired_20 (by decide) ?_
    exact v_iret C S hr ⟨rfl, rfl⟩ dL_isFired_21
set_option maxHeartbeats 4000000 in
set_option maxRecDepth 100000 in
theorem h_reason_ret {l : Launch} {g : GL} {R : Nat → Nat → Nat} {L : Nat → Nat → Int64} {N : Nat} {σ σ1 : SI} {x0 o : Nat} {a1 : Int32} {a2 : Int32} {v : Int32} (hm : f_X11_reason N R σ x0 a1 a2 = some (.inl v, σ1)) (hSh : ShR R) (hx0 : Ok 194 x0 11) (ho : Ok 194 o 40001) : CtW l g 8 yL_reason cL_reason 5 (some .int) [(0, 10, 13, 19), (0, 10, 17, 13)] 2 12 [.ref (gb g + x0), .int a1, .int a2, .ref (gb g + o)] (mkS σ R L) (fun w σ' => w = some (.int 0) ∧ σ' = uL (mkS σ1 R L) o 0 v.toInt64) := by
  refine met_ofWH (cc := cL_reason) (maxL := 5) (ret := (some .int)) (hh := [(0, 10, 13, 19), (0, 10, 17, 13)]) (by decide) rfl ?_
  intro p e s m args below meth c s₁ B hml hT hv
  obtain ⟨rfl, hE, hLo, hWd⟩ := hv
  have hr : meth.sig.returnType = (some .int) := B.returns
  have C : Cx l g p s m meth c cL_reason 5 RL := ⟨B.exec, B.bytes, hml, findClass_of_methodNamed B.named, hE, hLo, B.notSynchronized⟩
  have S : S2 g s σ R L s.heap [] := ⟨hWd, va_S.rf⟩
  have hx := C.1
  have hb := C.2.1
  have hl := lv_entry ([.ref (gb g + x0), .int a1, .int a2, .ref (gb g + o)]) (n := 5) (Nat.le_of_ble_eq_true rfl)
  rw [lg_entry_eq]
  generalize (lg_sl ([.ref (gb g + x0), .int a1, .int a2, .ref (gb g + o)]) ++ List.replicate (5 - (lg_sl ([.ref (gb g + x0), .int a1, .int a2, .ref (gb g + o)])).length) Slot.unset).toArray = ls at hl ⊢
  have hl : lv_has ls 5 [(0, .ref (gb g + x0)), (1, .int a1), (2, .int a2), (3, .ref (gb g + o))] := hl
  generalize hH : s.heap = H at S ⊢
  generalize hlc : ([] : List Loc) = locs at S ⊢
  refine lv_aload_n hx hb dL_reason_0 rfl (lv_at hl 3 rfl) ?_
  refine lv_iconst (v := (0 : Int32)) hx hb dL_reason_1 (by decide) ?_
  refine lv_aload_n hx hb dL_reason_2 rfl (lv_at hl 0 rfl) ?_
  refine lv_iload_n hx hb dL_reason_3 rfl (lv_at hl 1 rfl) ?_
  refine lv_iload_n hx hb dL_reason_4 rfl (lv_at hl 2 rfl) ?_
  refine v_callVC C S KX11 hx0 (ok_X11_reason (L := L) hm hSh hx0) ⟨cd_X11_reason, ni_RX11, ml_RL_85, in_X11_reason, sl_X11_reason⟩ ⟨by decide, by decide⟩ rfl (rm_ok (by decide) (by decide)) hl.1 rfl (Nat.le_of_ble_eq_true rfl) ⟨by decide, by decide⟩ dL_reason_5 (fun v σ' H locs hp S => ?_) (fun E σ' H locs q ce hp S hcell hcv hcl => ?_)
  · obtain ⟨_, hk, rfl, rfl⟩ := hp
    cases hk
    have S : S2 g s σ1 R L H locs := S
    refine lv_i2l hx hb dL_reason_8 rfl ?_
    refine x_last C S ho dL_reason_9 (fun H locs S => ?_)
    refine lv_goto (tgt := 21) hx hb dL_reason_10 (by decide) ?_
    refine lv_iconst (v := (0 : Int32)) hx hb dL_reason_21 (by decide) ?_
    exact v_iret C S hr ⟨rfl, rfl⟩ dL_reason_22
  · obtain ⟨k, hk, -⟩ := hp
    cases hk
set_option maxHeartbeats 4000000 in
set_option maxRecDepth 100000 in
theorem h_reason_x0 {l : Launch} {g : GL} {R : Nat → Nat → Nat} {L : Nat → Nat → Int64} {N : Nat} {σ σ1 : SI} {x0 o : Nat} {a1 : Int32} {a2 : Int32} (hm : f_X11_reason N R σ x0 a1 a2 = some (.inr 0, σ1)) (hSh : ShR R) (hx0 : Ok 194 x0 11) (ho : Ok 194 o 40001) : CtW l g 8 yL_reason cL_reason 5 (some .int) [(0, 10, 13, 19), (0, 10, 17, 13)] 2 12 [.ref (gb g + x0), .int a1, .int a2, .ref (gb g + o)] (mkS σ R L) (fun w σ' => w = some (.int 1) ∧ σ' = mkS σ1 R L) := by
  refine met_ofWH (cc := cL_reason) (maxL := 5) (ret := (some .int)) (hh := [(0, 10, 13, 19), (0, 10, 17, 13)]) (by decide) rfl ?_
  intro p e s m args below meth c s₁ B hml hT hv
  obtain ⟨rfl, hE, hLo, hWd⟩ := hv
  have hr : meth.sig.returnType = (some .int) := B.returns
  have C : Cx l g p s m meth c cL_reason 5 RL := ⟨B.exec, B.bytes, hml, findClass_of_methodNamed B.named, hE, hLo, B.notSynchronized⟩
  have S : S2 g s σ R L s.heap [] := ⟨hWd, va_S.rf⟩
  have hx := C.1
  have hb := C.2.1
  have hl := lv_entry ([.ref (gb g + x0), .int a1, .int a2, .ref (gb g + o)]) (n := 5) (Nat.le_of_ble_eq_true rfl)
  rw [lg_entry_eq]
  generalize (lg_sl ([.ref (gb g + x0), .int a1, .int a2, .ref (gb g + o)]) ++ List.replicate (5 - (lg_sl ([.ref (gb g + x0), .int a1, .int a2, .ref (gb g + o)])).length) Slot.unset).toArray = ls at hl ⊢
  have hl : lv_has ls 5 [(0, .ref (gb g + x0)), (1, .int a1), (2, .int a2), (3, .ref (gb g + o))] := hl
  generalize hH : s.heap = H at S ⊢
  generalize hlc : ([] : List Loc) = locs at S ⊢
  refine lv_aload_n hx hb dL_reason_0 rfl (lv_at hl 3 rfl) ?_
  refine lv_iconst (v := (0 : Int32)) hx hb dL_reason_1 (by decide) ?_
  refine lv_aload_n hx hb dL_reason_2 rfl (lv_at hl 0 rfl) ?_
  refine lv_iload_n hx hb dL_reason_3 rfl (lv_at hl 1 rfl) ?_
  refine lv_iload_n hx hb dL_reason_4 rfl (lv_at hl 2 rfl) ?_
  refine v_callVC C S KX11 hx0 (ok_X11_reason (L := L) hm hSh hx0) ⟨cd_X11_reason, ni_RX11, ml_RL_85, in_X11_reason, sl_X11_reason⟩ ⟨by decide, by decide⟩ rfl (rm_ok (by decide) (by decide)) hl.1 rfl (Nat.le_of_ble_eq_true rfl) ⟨by decide, by decide⟩ dL_reason_5 (fun v σ' H locs hp S => ?_) (fun E σ' H locs q ce hp S hcell hcv hcl => ?_)
  · obtain ⟨k, hk, -⟩ := hp
    cases hk
  · obtain ⟨k, hk, rfl, rfl⟩ := hp
    cases hk
    have S : S2 g s σ1 R L H locs := S
    refine x_catch (E := "java/lang/IndexOutOfBoundsException") C [] ⟨0, 10, 13, 19⟩ [⟨0, 10, 17, 13⟩] (hT.trans rfl) (fun z hz => by cases hz) (by decide) (by decide) cl_RL_19 ca_0 hcell hcv hcl ?_
    refine lv_astore (lv' := [(4, .ref q), (0, .ref (gb g + x0)), (1, .int a1), (2, .int a2), (3, .ref (gb g + o))]) hx hb dL_reason_13 hl (by decide) rfl (fun ls hl => ?_)
    refine lv_iconst (v := (1 : Int32)) hx hb dL_reason_15 (by decide) ?_
    exact v_iret C S hr ⟨rfl, rfl⟩ dL_reason_16
set_option maxHeartbeats 4000000 in
set_option maxRecDepth 100000 in
theorem h_reason_x1 {l : Launch} {g : GL} {R : Nat → Nat → Nat} {L : Nat → Nat → Int64} {N : Nat} {σ σ1 : SI} {x0 o : Nat} {a1 : Int32} {a2 : Int32} (hm : f_X11_reason N R σ x0 a1 a2 = some (.inr 1, σ1)) (hSh : ShR R) (hx0 : Ok 194 x0 11) (ho : Ok 194 o 40001) : CtW l g 8 yL_reason cL_reason 5 (some .int) [(0, 10, 13, 19), (0, 10, 17, 13)] 2 12 [.ref (gb g + x0), .int a1, .int a2, .ref (gb g + o)] (mkS σ R L) (fun w σ' => w = some (.int 2) ∧ σ' = mkS σ1 R L) := by
  refine met_ofWH (cc := cL_reason) (maxL := 5) (ret := (some .int)) (hh := [(0, 10, 13, 19), (0, 10, 17, 13)]) (by decide) rfl ?_
  intro p e s m args below meth c s₁ B hml hT hv
  obtain ⟨rfl, hE, hLo, hWd⟩ := hv
  have hr : meth.sig.returnType = (some .int) := B.returns
  have C : Cx l g p s m meth c cL_reason 5 RL := ⟨B.exec, B.bytes, hml, findClass_of_methodNamed B.named, hE, hLo, B.notSynchronized⟩
  have S : S2 g s σ R L s.heap [] := ⟨hWd, va_S.rf⟩
  have hx := C.1
  have hb := C.2.1
  have hl := lv_entry ([.ref (gb g + x0), .int a1, .int a2, .ref (gb g + o)]) (n := 5) (Nat.le_of_ble_eq_true rfl)
  rw [lg_entry_eq]
  generalize (lg_sl ([.ref (gb g + x0), .int a1, .int a2, .ref (gb g + o)]) ++ List.replicate (5 - (lg_sl ([.ref (gb g + x0), .int a1, .int a2, .ref (gb g + o)])).length) Slot.unset).toArray = ls at hl ⊢
  have hl : lv_has ls 5 [(0, .ref (gb g + x0)), (1, .int a1), (2, .int a2), (3, .ref (gb g + o))] := hl
  generalize hH : s.heap = H at S ⊢
  generalize hlc : ([] : List Loc) = locs at S ⊢
  refine lv_aload_n hx hb dL_reason_0 rfl (lv_at hl 3 rfl) ?_
  refine lv_iconst (v := (0 : Int32)) hx hb dL_reason_1 (by decide) ?_
  refine lv_aload_n hx hb dL_reason_2 rfl (lv_at hl 0 rfl) ?_
  refine lv_iload_n hx hb dL_reason_3 rfl (lv_at hl 1 rfl) ?_
  refine lv_iload_n hx hb dL_reason_4 rfl (lv_at hl 2 rfl) ?_
  refine v_callVC C S KX11 hx0 (ok_X11_reason (L := L) hm hSh hx0) ⟨cd_X11_reason, ni_RX11, ml_RL_85, in_X11_reason, sl_X11_reason⟩ ⟨by decide, by decide⟩ rfl (rm_ok (by decide) (by decide)) hl.1 rfl (Nat.le_of_ble_eq_true rfl) ⟨by decide, by decide⟩ dL_reason_5 (fun v σ' H locs hp S => ?_) (fun E σ' H locs q ce hp S hcell hcv hcl => ?_)
  · obtain ⟨k, hk, -⟩ := hp
    cases hk
  · obtain ⟨k, hk, rfl, rfl⟩ := hp
    cases hk
    have S : S2 g s σ1 R L H locs := S
    refine x_catch (E := "java/lang/IllegalArgumentException") C [⟨0, 10, 13, 19⟩] ⟨0, 10, 17, 13⟩ [] (hT.trans rfl) (fun z hz => by rw [List.mem_singleton.mp hz]; exact ⟨by decide, "java/lang/IndexOutOfBoundsException", cl_RL_19, by decide⟩) (by decide) (by decide) cl_RL_13 ca_1 hcell hcv hcl ?_
    refine lv_astore (lv' := [(4, .ref q), (0, .ref (gb g + x0)), (1, .int a1), (2, .int a2), (3, .ref (gb g + o))]) hx hb dL_reason_17 hl (by decide) rfl (fun ls hl => ?_)
    refine lv_iconst (v := (2 : Int32)) hx hb dL_reason_19 (by decide) ?_
    exact v_iret C S hr ⟨rfl, rfl⟩ dL_reason_20
set_option maxHeartbeats 4000000 in
set_option maxRecDepth 100000 in
theorem h_earliest_ret {l : Launch} {g : GL} {R : Nat → Nat → Nat} {L : Nat → Nat → Int64} {N : Nat} {σ σ1 : SI} {x0 o : Nat} {a1 : Int32} {a2 : Int32} {v : Int32} (hm : f_X11_earliest N R σ x0 a1 a2 = some (.inl v, σ1)) (hSh : ShR R) (hx0 : Ok 194 x0 11) (ho : Ok 194 o 40001) : CtW l g 8 yL_earliest cL_earliest 5 (some .int) [(0, 10, 13, 19), (0, 10, 17, 13)] 2 12 [.ref (gb g + x0), .int a1, .int a2, .ref (gb g + o)] (mkS σ R L) (fun w σ' => w = some (.int 0) ∧ σ' = uL (mkS σ1 R L) o 0 v.toInt64) := by
  refine met_ofWH (cc := cL_earliest) (maxL := 5) (ret := (some .int)) (hh := [(0, 10, 13, 19), (0, 10, 17, 13)]) (by decide) rfl ?_
  intro p e s m args below meth c s₁ B hml hT hv
  obtain ⟨rfl, hE, hLo, hWd⟩ := hv
  have hr : meth.sig.returnType = (some .int) := B.returns
  have C : Cx l g p s m meth c cL_earliest 5 RL := ⟨B.exec, B.bytes, hml, findClass_of_methodNamed B.named, hE, hLo, B.notSynchronized⟩
  have S : S2 g s σ R L s.heap [] := ⟨hWd, va_S.rf⟩
  have hx := C.1
  have hb := C.2.1
  have hl := lv_entry ([.ref (gb g + x0), .int a1, .int a2, .ref (gb g + o)]) (n := 5) (Nat.le_of_ble_eq_true rfl)
  rw [lg_entry_eq]
  generalize (lg_sl ([.ref (gb g + x0), .int a1, .int a2, .ref (gb g + o)]) ++ List.replicate (5 - (lg_sl ([.ref (gb g + x0), .int a1, .int a2, .ref (gb g + o)])).length) Slot.unset).toArray = ls at hl ⊢
  have hl : lv_has ls 5 [(0, .ref (gb g + x0)), (1, .int a1), (2, .int a2), (3, .ref (gb g + o))] := hl
  generalize hH : s.heap = H at S ⊢
  generalize hlc : ([] : List Loc) = locs at S ⊢
  refine lv_aload_n hx hb dL_earliest_0 rfl (lv_at hl 3 rfl) ?_
  refine lv_iconst (v := (0 : Int32)) hx hb dL_earliest_1 (by decide) ?_
  refine lv_aload_n hx hb dL_earliest_2 rfl (lv_at hl 0 rfl) ?_
  refine lv_iload_n hx hb dL_earliest_3 rfl (lv_at hl 1 rfl) ?_
  refine lv_iload_n hx hb dL_earliest_4 rfl (lv_at hl 2 rfl) ?_
  refine v_callVC C S KX11 hx0 (ok_X11_earliest (L := L) hm hSh hx0) ⟨cd_X11_earliest, ni_RX11, ml_RL_88, in_X11_earliest, sl_X11_earliest⟩ ⟨by decide, by decide⟩ rfl (rm_ok (by decide) (by decide)) hl.1 rfl (Nat.le_of_ble_eq_true rfl) ⟨by decide, by decide⟩ dL_earliest_5 (fun v σ' H locs hp S => ?_) (fun E σ' H locs q ce hp S hcell hcv hcl => ?_)
  · obtain ⟨_, hk, rfl, rfl⟩ := hp
    cases hk
    have S : S2 g s σ1 R L H locs := S
    refine lv_i2l hx hb dL_earliest_8 rfl ?_
    refine x_last C S ho dL_earliest_9 (fun H locs S => ?_)
    refine lv_goto (tgt := 21) hx hb dL_earliest_10 (by decide) ?_
    refine lv_iconst (v := (0 : Int32)) hx hb dL_earliest_21 (by decide) ?_
    exact v_iret C S hr ⟨rfl, rfl⟩ dL_earliest_22
  · obtain ⟨k, hk, -⟩ := hp
    cases hk
set_option maxHeartbeats 4000000 in
set_option maxRecDepth 100000 in
theorem h_earliest_x0 {l : Launch} {g : GL} {R : Nat → Nat → Nat} {L : Nat → Nat → Int64} {N : Nat} {σ σ1 : SI} {x0 o : Nat} {a1 : Int32} {a2 : Int32} (hm : f_X11_earliest N R σ x0 a1 a2 = some (.inr 0, σ1)) (hSh : ShR R) (hx0 : Ok 194 x0 11) (ho : Ok 194 o 40001) : CtW l g 8 yL_earliest cL_earliest 5 (some .int) [(0, 10, 13, 19), (0, 10, 17, 13)] 2 12 [.ref (gb g + x0), .int a1, .int a2, .ref (gb g + o)] (mkS σ R L) (fun w σ' => w = some (.int 1) ∧ σ' = mkS σ1 R L) := by
  refine met_ofWH (cc := cL_earliest) (maxL := 5) (ret := (some .int)) (hh := [(0, 10, 13, 19), (0, 10, 17, 13)]) (by decide) rfl ?_
  intro p e s m args below meth c s₁ B hml hT hv
  obtain ⟨rfl, hE, hLo, hWd⟩ := hv
  have hr : meth.sig.returnType = (some .int) := B.returns
  have C : Cx l g p s m meth c cL_earliest 5 RL := ⟨B.exec, B.bytes, hml, findClass_of_methodNamed B.named, hE, hLo, B.notSynchronized⟩
  have S : S2 g s σ R L s.heap [] := ⟨hWd, va_S.rf⟩
  have hx := C.1
  have hb := C.2.1
  have hl := lv_entry ([.ref (gb g + x0), .int a1, .int a2, .ref (gb g + o)]) (n := 5) (Nat.le_of_ble_eq_true rfl)
  rw [lg_entry_eq]
  generalize (lg_sl ([.ref (gb g + x0), .int a1, .int a2, .ref (gb g + o)]) ++ List.replicate (5 - (lg_sl ([.ref (gb g + x0), .int a1, .int a2, .ref (gb g + o)])).length) Slot.unset).toArray = ls at hl ⊢
  have hl : lv_has ls 5 [(0, .ref (gb g + x0)), (1, .int a1), (2, .int a2), (3, .ref (gb g + o))] := hl
  generalize hH : s.heap = H at S ⊢
  generalize hlc : ([] : List Loc) = locs at S ⊢
  refine lv_aload_n hx hb dL_earliest_0 rfl (lv_at hl 3 rfl) ?_
  refine lv_iconst (v := (0 : Int32)) hx hb dL_earliest_1 (by decide) ?_
  refine lv_aload_n hx hb dL_earliest_2 rfl (lv_at hl 0 rfl) ?_
  refine lv_iload_n hx hb dL_earliest_3 rfl (lv_at hl 1 rfl) ?_
  refine lv_iload_n hx hb dL_earliest_4 rfl (lv_at hl 2 rfl) ?_
  refine v_callVC C S KX11 hx0 (ok_X11_earliest (L := L) hm hSh hx0) ⟨cd_X11_earliest, ni_RX11, ml_RL_88, in_X11_earliest, sl_X11_earliest⟩ ⟨by decide, by decide⟩ rfl (rm_ok (by decide) (by decide)) hl.1 rfl (Nat.le_of_ble_eq_true rfl) ⟨by decide, by decide⟩ dL_earliest_5 (fun v σ' H locs hp S => ?_) (fun E σ' H locs q ce hp S hcell hcv hcl => ?_)
  · obtain ⟨k, hk, -⟩ := hp
    cases hk
  · obtain ⟨k, hk, rfl, rfl⟩ := hp
    cases hk
    have S : S2 g s σ1 R L H locs := S
    refine x_catch (E := "java/lang/IndexOutOfBoundsException") C [] ⟨0, 10, 13, 19⟩ [⟨0, 10, 17, 13⟩] (hT.trans rfl) (fun z hz => by cases hz) (by decide) (by decide) cl_RL_19 ca_0 hcell hcv hcl ?_
    refine lv_astore (lv' := [(4, .ref q), (0, .ref (gb g + x0)), (1, .int a1), (2, .int a2), (3, .ref (gb g + o))]) hx hb dL_earliest_13 hl (by decide) rfl (fun ls hl => ?_)
    refine lv_iconst (v := (1 : Int32)) hx hb dL_earliest_15 (by decide) ?_
    exact v_iret C S hr ⟨rfl, rfl⟩ dL_earliest_16
set_option maxHeartbeats 4000000 in
set_option maxRecDepth 100000 in
theorem h_earliest_x1 {l : Launch} {g : GL} {R : Nat → Nat → Nat} {L : Nat → Nat → Int64} {N : Nat} {σ σ1 : SI} {x0 o : Nat} {a1 : Int32} {a2 : Int32} (hm : f_X11_earliest N R σ x0 a1 a2 = some (.inr 1, σ1)) (hSh : ShR R) (hx0 : Ok 194 x0 11) (ho : Ok 194 o 40001) : CtW l g 8 yL_earliest cL_earliest 5 (some .int) [(0, 10, 13, 19), (0, 10, 17, 13)] 2 12 [.ref (gb g + x0), .int a1, .int a2, .ref (gb g + o)] (mkS σ R L) (fun w σ' => w = some (.int 2) ∧ σ' = mkS σ1 R L) := by
  refine met_ofWH (cc := cL_earliest) (maxL := 5) (ret := (some .int)) (hh := [(0, 10, 13, 19), (0, 10, 17, 13)]) (by decide) rfl ?_
  intro p e s m args below meth c s₁ B hml hT hv
  obtain ⟨rfl, hE, hLo, hWd⟩ := hv
  have hr : meth.sig.returnType = (some .int) := B.returns
  have C : Cx l g p s m meth c cL_earliest 5 RL := ⟨B.exec, B.bytes, hml, findClass_of_methodNamed B.named, hE, hLo, B.notSynchronized⟩
  have S : S2 g s σ R L s.heap [] := ⟨hWd, va_S.rf⟩
  have hx := C.1
  have hb := C.2.1
  have hl := lv_entry ([.ref (gb g + x0), .int a1, .int a2, .ref (gb g + o)]) (n := 5) (Nat.le_of_ble_eq_true rfl)
  rw [lg_entry_eq]
  generalize (lg_sl ([.ref (gb g + x0), .int a1, .int a2, .ref (gb g + o)]) ++ List.replicate (5 - (lg_sl ([.ref (gb g + x0), .int a1, .int a2, .ref (gb g + o)])).length) Slot.unset).toArray = ls at hl ⊢
  have hl : lv_has ls 5 [(0, .ref (gb g + x0)), (1, .int a1), (2, .int a2), (3, .ref (gb g + o))] := hl
  generalize hH : s.heap = H at S ⊢
  generalize hlc : ([] : List Loc) = locs at S ⊢
  refine lv_aload_n hx hb dL_earliest_0 rfl (lv_at hl 3 rfl) ?_
  refine lv_iconst (v := (0 : Int32)) hx hb dL_earliest_1 (by decide) ?_
  refine lv_aload_n hx hb dL_earliest_2 rfl (lv_at hl 0 rfl) ?_
  refine lv_iload_n hx hb dL_earliest_3 rfl (lv_at hl 1 rfl) ?_
  refine lv_iload_n hx hb dL_earliest_4 rfl (lv_at hl 2 rfl) ?_
  refine v_callVC C S KX11 hx0 (ok_X11_earliest (L := L) hm hSh hx0) ⟨cd_X11_earliest, ni_RX11, ml_RL_88, in_X11_earliest, sl_X11_earliest⟩ ⟨by decide, by decide⟩ rfl (rm_ok (by decide) (by decide)) hl.1 rfl (Nat.le_of_ble_eq_true rfl) ⟨by decide, by decide⟩ dL_earliest_5 (fun v σ' H locs hp S => ?_) (fun E σ' H locs q ce hp S hcell hcv hcl => ?_)
  · obtain ⟨k, hk, -⟩ := hp
    cases hk
  · obtain ⟨k, hk, rfl, rfl⟩ := hp
    cases hk
    have S : S2 g s σ1 R L H locs := S
    refine x_catch (E := "java/lang/IllegalArgumentException") C [⟨0, 10, 13, 19⟩] ⟨0, 10, 17, 13⟩ [] (hT.trans rfl) (fun z hz => by rw [List.mem_singleton.mp hz]; exact ⟨by decide, "java/lang/IndexOutOfBoundsException", cl_RL_19, by decide⟩) (by decide) (by decide) cl_RL_13 ca_1 hcell hcv hcl ?_
    refine lv_astore (lv' := [(4, .ref q), (0, .ref (gb g + x0)), (1, .int a1), (2, .int a2), (3, .ref (gb g + o))]) hx hb dL_earliest_17 hl (by decide) rfl (fun ls hl => ?_)
    refine lv_iconst (v := (2 : Int32)) hx hb dL_earliest_19 (by decide) ?_
    exact v_iret C S hr ⟨rfl, rfl⟩ dL_earliest_20
set_option maxHeartbeats 4000000 in
set_option maxRecDepth 100000 in
theorem h_latest_ret {l : Launch} {g : GL} {R : Nat → Nat → Nat} {L : Nat → Nat → Int64} {N : Nat} {σ σ1 : SI} {x0 o : Nat} {a1 : Int32} {a2 : Int32} {v : Int32} (hm : f_X11_latest N R σ x0 a1 a2 = some (.inl v, σ1)) (hSh : ShR R) (hx0 : Ok 194 x0 11) (ho : Ok 194 o 40001) : CtW l g 8 yL_latest cL_latest 5 (some .int) [(0, 10, 13, 19), (0, 10, 17, 13)] 2 12 [.ref (gb g + x0), .int a1, .int a2, .ref (gb g + o)] (mkS σ R L) (fun w σ' => w = some (.int 0) ∧ σ' = uL (mkS σ1 R L) o 0 v.toInt64) := by
  refine met_ofWH (cc := cL_latest) (maxL := 5) (ret := (some .int)) (hh := [(0, 10, 13, 19), (0, 10, 17, 13)]) (by decide) rfl ?_
  intro p e s m args below meth c s₁ B hml hT hv
  obtain ⟨rfl, hE, hLo, hWd⟩ := hv
  have hr : meth.sig.returnType = (some .int) := B.returns
  have C : Cx l g p s m meth c cL_latest 5 RL := ⟨B.exec, B.bytes, hml, findClass_of_methodNamed B.named, hE, hLo, B.notSynchronized⟩
  have S : S2 g s σ R L s.heap [] := ⟨hWd, va_S.rf⟩
  have hx := C.1
  have hb := C.2.1
  have hl := lv_entry ([.ref (gb g + x0), .int a1, .int a2, .ref (gb g + o)]) (n := 5) (Nat.le_of_ble_eq_true rfl)
  rw [lg_entry_eq]
  generalize (lg_sl ([.ref (gb g + x0), .int a1, .int a2, .ref (gb g + o)]) ++ List.replicate (5 - (lg_sl ([.ref (gb g + x0), .int a1, .int a2, .ref (gb g + o)])).length) Slot.unset).toArray = ls at hl ⊢
  have hl : lv_has ls 5 [(0, .ref (gb g + x0)), (1, .int a1), (2, .int a2), (3, .ref (gb g + o))] := hl
  generalize hH : s.heap = H at S ⊢
  generalize hlc : ([] : List Loc) = locs at S ⊢
  refine lv_aload_n hx hb dL_latest_0 rfl (lv_at hl 3 rfl) ?_
  refine lv_iconst (v := (0 : Int32)) hx hb dL_latest_1 (by decide) ?_
  refine lv_aload_n hx hb dL_latest_2 rfl (lv_at hl 0 rfl) ?_
  refine lv_iload_n hx hb dL_latest_3 rfl (lv_at hl 1 rfl) ?_
  refine lv_iload_n hx hb dL_latest_4 rfl (lv_at hl 2 rfl) ?_
  refine v_callVC C S KX11 hx0 (ok_X11_latest (L := L) hm hSh hx0) ⟨cd_X11_latest, ni_RX11, ml_RL_91, in_X11_latest, sl_X11_latest⟩ ⟨by decide, by decide⟩ rfl (rm_ok (by decide) (by decide)) hl.1 rfl (Nat.le_of_ble_eq_true rfl) ⟨by decide, by decide⟩ dL_latest_5 (fun v σ' H locs hp S => ?_) (fun E σ' H locs q ce hp S hcell hcv hcl => ?_)
  · obtain ⟨_, hk, rfl, rfl⟩ := hp
    cases hk
    have S : S2 g s σ1 R L H locs := S
    refine lv_i2l hx hb dL_latest_8 rfl ?_
    refine x_last C S ho dL_latest_9 (fun H locs S => ?_)
    refine lv_goto (tgt := 21) hx hb dL_latest_10 (by decide) ?_
    refine lv_iconst (v := (0 : Int32)) hx hb dL_latest_21 (by decide) ?_
    exact v_iret C S hr ⟨rfl, rfl⟩ dL_latest_22
  · obtain ⟨k, hk, -⟩ := hp
    cases hk
set_option maxHeartbeats 4000000 in
set_option maxRecDepth 100000 in
theorem h_latest_x0 {l : Launch} {g : GL} {R : Nat → Nat → Nat} {L : Nat → Nat → Int64} {N : Nat} {σ σ1 : SI} {x0 o : Nat} {a1 : Int32} {a2 : Int32} (hm : f_X11_latest N R σ x0 a1 a2 = some (.inr 0, σ1)) (hSh : ShR R) (hx0 : Ok 194 x0 11) (ho : Ok 194 o 40001) : CtW l g 8 yL_latest cL_latest 5 (some .int) [(0, 10, 13, 19), (0, 10, 17, 13)] 2 12 [.ref (gb g + x0), .int a1, .int a2, .ref (gb g + o)] (mkS σ R L) (fun w σ' => w = some (.int 1) ∧ σ' = mkS σ1 R L) := by
  refine met_ofWH (cc := cL_latest) (maxL := 5) (ret := (some .int)) (hh := [(0, 10, 13, 19), (0, 10, 17, 13)]) (by decide) rfl ?_
  intro p e s m args below meth c s₁ B hml hT hv
  obtain ⟨rfl, hE, hLo, hWd⟩ := hv
  have hr : meth.sig.returnType = (some .int) := B.returns
  have C : Cx l g p s m meth c cL_latest 5 RL := ⟨B.exec, B.bytes, hml, findClass_of_methodNamed B.named, hE, hLo, B.notSynchronized⟩
  have S : S2 g s σ R L s.heap [] := ⟨hWd, va_S.rf⟩
  have hx := C.1
  have hb := C.2.1
  have hl := lv_entry ([.ref (gb g + x0), .int a1, .int a2, .ref (gb g + o)]) (n := 5) (Nat.le_of_ble_eq_true rfl)
  rw [lg_entry_eq]
  generalize (lg_sl ([.ref (gb g + x0), .int a1, .int a2, .ref (gb g + o)]) ++ List.replicate (5 - (lg_sl ([.ref (gb g + x0), .int a1, .int a2, .ref (gb g + o)])).length) Slot.unset).toArray = ls at hl ⊢
  have hl : lv_has ls 5 [(0, .ref (gb g + x0)), (1, .int a1), (2, .int a2), (3, .ref (gb g + o))] := hl
  generalize hH : s.heap = H at S ⊢
  generalize hlc : ([] : List Loc) = locs at S ⊢
  refine lv_aload_n hx hb dL_latest_0 rfl (lv_at hl 3 rfl) ?_
  refine lv_iconst (v := (0 : Int32)) hx hb dL_latest_1 (by decide) ?_
  refine lv_aload_n hx hb dL_latest_2 rfl (lv_at hl 0 rfl) ?_
  refine lv_iload_n hx hb dL_latest_3 rfl (lv_at hl 1 rfl) ?_
  refine lv_iload_n hx hb dL_latest_4 rfl (lv_at hl 2 rfl) ?_
  refine v_callVC C S KX11 hx0 (ok_X11_latest (L := L) hm hSh hx0) ⟨cd_X11_latest, ni_RX11, ml_RL_91, in_X11_latest, sl_X11_latest⟩ ⟨by decide, by decide⟩ rfl (rm_ok (by decide) (by decide)) hl.1 rfl (Nat.le_of_ble_eq_true rfl) ⟨by decide, by decide⟩ dL_latest_5 (fun v σ' H locs hp S => ?_) (fun E σ' H locs q ce hp S hcell hcv hcl => ?_)
  · obtain ⟨k, hk, -⟩ := hp
    cases hk
  · obtain ⟨k, hk, rfl, rfl⟩ := hp
    cases hk
    have S : S2 g s σ1 R L H locs := S
    refine x_catch (E := "java/lang/IndexOutOfBoundsException") C [] ⟨0, 10, 13, 19⟩ [⟨0, 10, 17, 13⟩] (hT.trans rfl) (fun z hz => by cases hz) (by decide) (by decide) cl_RL_19 ca_0 hcell hcv hcl ?_
    refine lv_astore (lv' := [(4, .ref q), (0, .ref (gb g + x0)), (1, .int a1), (2, .int a2), (3, .ref (gb g + o))]) hx hb dL_latest_13 hl (by decide) rfl (fun ls hl => ?_)
    refine lv_iconst (v := (1 : Int32)) hx hb dL_latest_15 (by decide) ?_
    exact v_iret C S hr ⟨rfl, rfl⟩ dL_latest_16
set_option maxHeartbeats 4000000 in
set_option maxRecDepth 100000 in
theorem h_latest_x1 {l : Launch} {g : GL} {R : Nat → Nat → Nat} {L : Nat → Nat → Int64} {N : Nat} {σ σ1 : SI} {x0 o : Nat} {a1 : Int32} {a2 : Int32} (hm : f_X11_latest N R σ x0 a1 a2 = some (.inr 1, σ1)) (hSh : ShR R) (hx0 : Ok 194 x0 11) (ho : Ok 194 o 40001) : CtW l g 8 yL_latest cL_latest 5 (some .int) [(0, 10, 13, 19), (0, 10, 17, 13)] 2 12 [.ref (gb g + x0), .int a1, .int a2, .ref (gb g + o)] (mkS σ R L) (fun w σ' => w = some (.int 2) ∧ σ' = mkS σ1 R L) := by
  refine met_ofWH (cc := cL_latest) (maxL := 5) (ret := (some .int)) (hh := [(0, 10, 13, 19), (0, 10, 17, 13)]) (by decide) rfl ?_
  intro p e s m args below meth c s₁ B hml hT hv
  obtain ⟨rfl, hE, hLo, hWd⟩ := hv
  have hr : meth.sig.returnType = (some .int) := B.returns
  have C : Cx l g p s m meth c cL_latest 5 RL := ⟨B.exec, B.bytes, hml, findClass_of_methodNamed B.named, hE, hLo, B.notSynchronized⟩
  have S : S2 g s σ R L s.heap [] := ⟨hWd, va_S.rf⟩
  have hx := C.1
  have hb := C.2.1
  have hl := lv_entry ([.ref (gb g + x0), .int a1, .int a2, .ref (gb g + o)]) (n := 5) (Nat.le_of_ble_eq_true rfl)
  rw [lg_entry_eq]
  generalize (lg_sl ([.ref (gb g + x0), .int a1, .int a2, .ref (gb g + o)]) ++ List.replicate (5 - (lg_sl ([.ref (gb g + x0), .int a1, .int a2, .ref (gb g + o)])).length) Slot.unset).toArray = ls at hl ⊢
  have hl : lv_has ls 5 [(0, .ref (gb g + x0)), (1, .int a1), (2, .int a2), (3, .ref (gb g + o))] := hl
  generalize hH : s.heap = H at S ⊢
  generalize hlc : ([] : List Loc) = locs at S ⊢
  refine lv_aload_n hx hb dL_latest_0 rfl (lv_at hl 3 rfl) ?_
  refine lv_iconst (v := (0 : Int32)) hx hb dL_latest_1 (by decide) ?_
  refine lv_aload_n hx hb dL_latest_2 rfl (lv_at hl 0 rfl) ?_
  refine lv_iload_n hx hb dL_latest_3 rfl (lv_at hl 1 rfl) ?_
  refine lv_iload_n hx hb dL_latest_4 rfl (lv_at hl 2 rfl) ?_
  refine v_callVC C S KX11 hx0 (ok_X11_latest (L := L) hm hSh hx0) ⟨cd_X11_latest, ni_RX11, ml_RL_91, in_X11_latest, sl_X11_latest⟩ ⟨by decide, by decide⟩ rfl (rm_ok (by decide) (by decide)) hl.1 rfl (Nat.le_of_ble_eq_true rfl) ⟨by decide, by decide⟩ dL_latest_5 (fun v σ' H locs hp S => ?_) (fun E σ' H locs q ce hp S hcell hcv hcl => ?_)
  · obtain ⟨k, hk, -⟩ := hp
    cases hk
  · obtain ⟨k, hk, rfl, rfl⟩ := hp
    cases hk
    have S : S2 g s σ1 R L H locs := S
    refine x_catch (E := "java/lang/IllegalArgumentException") C [⟨0, 10, 13, 19⟩] ⟨0, 10, 17, 13⟩ [] (hT.trans rfl) (fun z hz => by rw [List.mem_singleton.mp hz]; exact ⟨by decide, "java/lang/IndexOutOfBoundsException", cl_RL_19, by decide⟩) (by decide) (by decide) cl_RL_13 ca_1 hcell hcv hcl ?_
    refine lv_astore (lv' := [(4, .ref q), (0, .ref (gb g + x0)), (1, .int a1), (2, .int a2), (3, .ref (gb g + o))]) hx hb dL_latest_17 hl (by decide) rfl (fun ls hl => ?_)
    refine lv_iconst (v := (2 : Int32)) hx hb dL_latest_19 (by decide) ?_
    exact v_iret C S hr ⟨rfl, rfl⟩ dL_latest_20
set_option maxHeartbeats 4000000 in
set_option maxRecDepth 100000 in
theorem h_reasonCount_ret {l : Launch} {g : GL} {R : Nat → Nat → Nat} {L : Nat → Nat → Int64} {N : Nat} {σ σ1 : SI} {x0 o : Nat} {a1 : Int32} {a2 : Int32} {v : Int32} (hm : f_X11_reasonCount N R σ x0 a1 a2 = some (.inl v, σ1)) (hSh : ShR R) (hx0 : Ok 194 x0 11) (ho : Ok 194 o 40001) : CtW l g 8 yL_reasonCount cL_reasonCount 5 (some .int) [(0, 10, 13, 19), (0, 10, 17, 13)] 2 12 [.ref (gb g + x0), .int a1, .int a2, .ref (gb g + o)] (mkS σ R L) (fun w σ' => w = some (.int 0) ∧ σ' = uL (mkS σ1 R L) o 0 v.toInt64) := by
  refine met_ofWH (cc := cL_reasonCount) (maxL := 5) (ret := (some .int)) (hh := [(0, 10, 13, 19), (0, 10, 17, 13)]) (by decide) rfl ?_
  intro p e s m args below meth c s₁ B hml hT hv
  obtain ⟨rfl, hE, hLo, hWd⟩ := hv
  have hr : meth.sig.returnType = (some .int) := B.returns
  have C : Cx l g p s m meth c cL_reasonCount 5 RL := ⟨B.exec, B.bytes, hml, findClass_of_methodNamed B.named, hE, hLo, B.notSynchronized⟩
  have S : S2 g s σ R L s.heap [] := ⟨hWd, va_S.rf⟩
  have hx := C.1
  have hb := C.2.1
  have hl := lv_entry ([.ref (gb g + x0), .int a1, .int a2, .ref (gb g + o)]) (n := 5) (Nat.le_of_ble_eq_true rfl)
  rw [lg_entry_eq]
  generalize (lg_sl ([.ref (gb g + x0), .int a1, .int a2, .ref (gb g + o)]) ++ List.replicate (5 - (lg_sl ([.ref (gb g + x0), .int a1, .int a2, .ref (gb g + o)])).length) Slot.unset).toArray = ls at hl ⊢
  have hl : lv_has ls 5 [(0, .ref (gb g + x0)), (1, .int a1), (2, .int a2), (3, .ref (gb g + o))] := hl
  generalize hH : s.heap = H at S ⊢
  generalize hlc : ([] : List Loc) = locs at S ⊢
  refine lv_aload_n hx hb dL_reasonCount_0 rfl (lv_at hl 3 rfl) ?_
  refine lv_iconst (v := (0 : Int32)) hx hb dL_reasonCount_1 (by decide) ?_
  refine lv_aload_n hx hb dL_reasonCount_2 rfl (lv_at hl 0 rfl) ?_
  refine lv_iload_n hx hb dL_reasonCount_3 rfl (lv_at hl 1 rfl) ?_
  refine lv_iload_n hx hb dL_reasonCount_4 rfl (lv_at hl 2 rfl) ?_
  refine v_callVC C S KX11 hx0 (ok_X11_reasonCount (L := L) hm hSh hx0) ⟨cd_X11_reasonCount, ni_RX11, ml_RL_94, in_X11_reasonCount, sl_X11_reasonCount⟩ ⟨by decide, by decide⟩ rfl (rm_ok (by decide) (by decide)) hl.1 rfl (Nat.le_of_ble_eq_true rfl) ⟨by decide, by decide⟩ dL_reasonCount_5 (fun v σ' H locs hp S => ?_) (fun E σ' H locs q ce hp S hcell hcv hcl => ?_)
  · obtain ⟨_, hk, rfl, rfl⟩ := hp
    cases hk
    have S : S2 g s σ1 R L H locs := S
    refine lv_i2l hx hb dL_reasonCount_8 rfl ?_
    refine x_last C S ho dL_reasonCount_9 (fun H locs S => ?_)
    refine lv_goto (tgt := 21) hx hb dL_reasonCount_10 (by decide) ?_
    refine lv_iconst (v := (0 : Int32)) hx hb dL_reasonCount_21 (by decide) ?_
    exact v_iret C S hr ⟨rfl, rfl⟩ dL_reasonCount_22
  · obtain ⟨k, hk, -⟩ := hp
    cases hk
set_option maxHeartbeats 4000000 in
set_option maxRecDepth 100000 in
theorem h_reasonCount_x0 {l : Launch} {g : GL} {R : Nat → Nat → Nat} {L : Nat → Nat → Int64} {N : Nat} {σ σ1 : SI} {x0 o : Nat} {a1 : Int32} {a2 : Int32} (hm : f_X11_reasonCount N R σ x0 a1 a2 = some (.inr 0, σ1)) (hSh : ShR R) (hx0 : Ok 194 x0 11) (ho : Ok 194 o 40001) : CtW l g 8 yL_reasonCount cL_reasonCount 5 (some .int) [(0, 10, 13, 19), (0, 10, 17, 13)] 2 12 [.ref (gb g + x0), .int a1, .int a2, .ref (gb g + o)] (mkS σ R L) (fun w σ' => w = some (.int 1) ∧ σ' = mkS σ1 R L) := by
  refine met_ofWH (cc := cL_reasonCount) (maxL := 5) (ret := (some .int)) (hh := [(0, 10, 13, 19), (0, 10, 17, 13)]) (by decide) rfl ?_
  intro p e s m args below meth c s₁ B hml hT hv
  obtain ⟨rfl, hE, hLo, hWd⟩ := hv
  have hr : meth.sig.returnType = (some .int) := B.returns
  have C : Cx l g p s m meth c cL_reasonCount 5 RL := ⟨B.exec, B.bytes, hml, findClass_of_methodNamed B.named, hE, hLo, B.notSynchronized⟩
  have S : S2 g s σ R L s.heap [] := ⟨hWd, va_S.rf⟩
  have hx := C.1
  have hb := C.2.1
  have hl := lv_entry ([.ref (gb g + x0), .int a1, .int a2, .ref (gb g + o)]) (n := 5) (Nat.le_of_ble_eq_true rfl)
  rw [lg_entry_eq]
  generalize (lg_sl ([.ref (gb g + x0), .int a1, .int a2, .ref (gb g + o)]) ++ List.replicate (5 - (lg_sl ([.ref (gb g + x0), .int a1, .int a2, .ref (gb g + o)])).length) Slot.unset).toArray = ls at hl ⊢
  have hl : lv_has ls 5 [(0, .ref (gb g + x0)), (1, .int a1), (2, .int a2), (3, .ref (gb g + o))] := hl
  generalize hH : s.heap = H at S ⊢
  generalize hlc : ([] : List Loc) = locs at S ⊢
  refine lv_aload_n hx hb dL_reasonCount_0 rfl (lv_at hl 3 rfl) ?_
  refine lv_iconst (v := (0 : Int32)) hx hb dL_reasonCount_1 (by decide) ?_
  refine lv_aload_n hx hb dL_reasonCount_2 rfl (lv_at hl 0 rfl) ?_
  refine lv_iload_n hx hb dL_reasonCount_3 rfl (lv_at hl 1 rfl) ?_
  refine lv_iload_n hx hb dL_reasonCount_4 rfl (lv_at hl 2 rfl) ?_
  refine v_callVC C S KX11 hx0 (ok_X11_reasonCount (L := L) hm hSh hx0) ⟨cd_X11_reasonCount, ni_RX11, ml_RL_94, in_X11_reasonCount, sl_X11_reasonCount⟩ ⟨by decide, by decide⟩ rfl (rm_ok (by decide) (by decide)) hl.1 rfl (Nat.le_of_ble_eq_true rfl) ⟨by decide, by decide⟩ dL_reasonCount_5 (fun v σ' H locs hp S => ?_) (fun E σ' H locs q ce hp S hcell hcv hcl => ?_)
  · obtain ⟨k, hk, -⟩ := hp
    cases hk
  · obtain ⟨k, hk, rfl, rfl⟩ := hp
    cases hk
    have S : S2 g s σ1 R L H locs := S
    refine x_catch (E := "java/lang/IndexOutOfBoundsException") C [] ⟨0, 10, 13, 19⟩ [⟨0, 10, 17, 13⟩] (hT.trans rfl) (fun z hz => by cases hz) (by decide) (by decide) cl_RL_19 ca_0 hcell hcv hcl ?_
    refine lv_astore (lv' := [(4, .ref q), (0, .ref (gb g + x0)), (1, .int a1), (2, .int a2), (3, .ref (gb g + o))]) hx hb dL_reasonCount_13 hl (by decide) rfl (fun ls hl => ?_)
    refine lv_iconst (v := (1 : Int32)) hx hb dL_reasonCount_15 (by decide) ?_
    exact v_iret C S hr ⟨rfl, rfl⟩ dL_reasonCount_16
set_option maxHeartbeats 4000000 in
set_option maxRecDepth 100000 in
theorem h_reasonCount_x1 {l : Launch} {g : GL} {R : Nat → Nat → Nat} {L : Nat → Nat → Int64} {N : Nat} {σ σ1 : SI} {x0 o : Nat} {a1 : Int32} {a2 : Int32} (hm : f_X11_reasonCount N R σ x0 a1 a2 = some (.inr 1, σ1)) (hSh : ShR R) (hx0 : Ok 194 x0 11) (ho : Ok 194 o 40001) : CtW l g 8 yL_reasonCount cL_reasonCount 5 (some .int) [(0, 10, 13, 19), (0, 10, 17, 13)] 2 12 [.ref (gb g + x0), .int a1, .int a2, .ref (gb g + o)] (mkS σ R L) (fun w σ' => w = some (.int 2) ∧ σ' = mkS σ1 R L) := by
  refine met_ofWH (cc := cL_reasonCount) (maxL := 5) (ret := (some .int)) (hh := [(0, 10, 13, 19), (0, 10, 17, 13)]) (by decide) rfl ?_
  intro p e s m args below meth c s₁ B hml hT hv
  obtain ⟨rfl, hE, hLo, hWd⟩ := hv
  have hr : meth.sig.returnType = (some .int) := B.returns
  have C : Cx l g p s m meth c cL_reasonCount 5 RL := ⟨B.exec, B.bytes, hml, findClass_of_methodNamed B.named, hE, hLo, B.notSynchronized⟩
  have S : S2 g s σ R L s.heap [] := ⟨hWd, va_S.rf⟩
  have hx := C.1
  have hb := C.2.1
  have hl := lv_entry ([.ref (gb g + x0), .int a1, .int a2, .ref (gb g + o)]) (n := 5) (Nat.le_of_ble_eq_true rfl)
  rw [lg_entry_eq]
  generalize (lg_sl ([.ref (gb g + x0), .int a1, .int a2, .ref (gb g + o)]) ++ List.replicate (5 - (lg_sl ([.ref (gb g + x0), .int a1, .int a2, .ref (gb g + o)])).length) Slot.unset).toArray = ls at hl ⊢
  have hl : lv_has ls 5 [(0, .ref (gb g + x0)), (1, .int a1), (2, .int a2), (3, .ref (gb g + o))] := hl
  generalize hH : s.heap = H at S ⊢
  generalize hlc : ([] : List Loc) = locs at S ⊢
  refine lv_aload_n hx hb dL_reasonCount_0 rfl (lv_at hl 3 rfl) ?_
  refine lv_iconst (v := (0 : Int32)) hx hb dL_reasonCount_1 (by decide) ?_
  refine lv_aload_n hx hb dL_reasonCount_2 rfl (lv_at hl 0 rfl) ?_
  refine lv_iload_n hx hb dL_reasonCount_3 rfl (lv_at hl 1 rfl) ?_
  refine lv_iload_n hx hb dL_reasonCount_4 rfl (lv_at hl 2 rfl) ?_
  refine v_callVC C S KX11 hx0 (ok_X11_reasonCount (L := L) hm hSh hx0) ⟨cd_X11_reasonCount, ni_RX11, ml_RL_94, in_X11_reasonCount, sl_X11_reasonCount⟩ ⟨by decide, by decide⟩ rfl (rm_ok (by decide) (by decide)) hl.1 rfl (Nat.le_of_ble_eq_true rfl) ⟨by decide, by decide⟩ dL_reasonCount_5 (fun v σ' H locs hp S => ?_) (fun E σ' H locs q ce hp S hcell hcv hcl => ?_)
  · obtain ⟨k, hk, -⟩ := hp
    cases hk
  · obtain ⟨k, hk, rfl, rfl⟩ := hp
    cases hk
    have S : S2 g s σ1 R L H locs := S
    refine x_catch (E := "java/lang/IllegalArgumentException") C [⟨0, 10, 13, 19⟩] ⟨0, 10, 17, 13⟩ [] (hT.trans rfl) (fun z hz => by rw [List.mem_singleton.mp hz]; exact ⟨by decide, "java/lang/IndexOutOfBoundsException", cl_RL_19, by decide⟩) (by decide) (by decide) cl_RL_13 ca_1 hcell hcv hcl ?_
    refine lv_astore (lv' := [(4, .ref q), (0, .ref (gb g + x0)), (1, .int a1), (2, .int a2), (3, .ref (gb g + o))]) hx hb dL_reasonCount_17 hl (by decide) rfl (fun ls hl => ?_)
    refine lv_iconst (v := (2 : Int32)) hx hb dL_reasonCount_19 (by decide) ?_
    exact v_iret C S hr ⟨rfl, rfl⟩ dL_reasonCount_20
set_option maxHeartbeats 4000000 in
set_option maxRecDepth 100000 in
theorem h_longestAllowed_ret {l : Launch} {g : GL} {R : Nat → Nat → Nat} {L : Nat → Nat → Int64} {N : Nat} {σ σ1 : SI} {x0 o : Nat} {a1 : Int32} {v : Int32} (hm : f_X11_longestAllowed N R σ x0 a1 = some (.inl v, σ1)) (hSh : ShR R) (hx0 : Ok 194 x0 11) (ho : Ok 194 o 40001) : CtW l g 8 yL_longestAllowed cL_longestAllowed 4 (some .int) [(0, 9, 12, 19)] 1 6 [.ref (gb g + x0), .int a1, .ref (gb g + o)] (mkS σ R L) (fun w σ' => w = some (.int 0) ∧ σ' = uL (mkS σ1 R L) o 0 v.toInt64) := by
  refine met_ofWH (cc := cL_longestAllowed) (maxL := 4) (ret := (some .int)) (hh := [(0, 9, 12, 19)]) (by decide) rfl ?_
  intro p e s m args below meth c s₁ B hml hT hv
  obtain ⟨rfl, hE, hLo, hWd⟩ := hv
  have hr : meth.sig.returnType = (some .int) := B.returns
  have C : Cx l g p s m meth c cL_longestAllowed 4 RL := ⟨B.exec, B.bytes, hml, findClass_of_methodNamed B.named, hE, hLo, B.notSynchronized⟩
  have S : S2 g s σ R L s.heap [] := ⟨hWd, va_S.rf⟩
  have hx := C.1
  have hb := C.2.1
  have hl := lv_entry ([.ref (gb g + x0), .int a1, .ref (gb g + o)]) (n := 4) (Nat.le_of_ble_eq_true rfl)
  rw [lg_entry_eq]
  generalize (lg_sl ([.ref (gb g + x0), .int a1, .ref (gb g + o)]) ++ List.replicate (4 - (lg_sl ([.ref (gb g + x0), .int a1, .ref (gb g + o)])).length) Slot.unset).toArray = ls at hl ⊢
  have hl : lv_has ls 4 [(0, .ref (gb g + x0)), (1, .int a1), (2, .ref (gb g + o))] := hl
  generalize hH : s.heap = H at S ⊢
  generalize hlc : ([] : List Loc) = locs at S ⊢
  refine lv_aload_n hx hb dL_longestAllowed_0 rfl (lv_at hl 2 rfl) ?_
  refine lv_iconst (v := (0 : Int32)) hx hb dL_longestAllowed_1 (by decide) ?_
  refine lv_aload_n hx hb dL_longestAllowed_2 rfl (lv_at hl 0 rfl) ?_
  refine lv_iload_n hx hb dL_longestAllowed_3 rfl (lv_at hl 1 rfl) ?_
  refine v_callVC C S KX11 hx0 (ok_X11_longestAllowed (L := L) hm hSh hx0) ⟨cd_X11_longestAllowed, ni_RX11, ml_RL_97, in_X11_longestAllowed, sl_X11_longestAllowed⟩ ⟨by decide, by decide⟩ rfl (rm_ok (by decide) (by decide)) hl.1 rfl (Nat.le_of_ble_eq_true rfl) ⟨by decide, by decide⟩ dL_longestAllowed_4 (fun v σ' H locs hp S => ?_) (fun E σ' H locs q ce hp S hcell hcv hcl => ?_)
  · obtain ⟨_, hk, rfl, rfl⟩ := hp
    cases hk
    have S : S2 g s σ1 R L H locs := S
    refine lv_i2l hx hb dL_longestAllowed_7 rfl ?_
    refine x_last C S ho dL_longestAllowed_8 (fun H locs S => ?_)
    refine lv_goto (tgt := 15) hx hb dL_longestAllowed_9 (by decide) ?_
    refine lv_iconst (v := (0 : Int32)) hx hb dL_longestAllowed_15 (by decide) ?_
    exact v_iret C S hr ⟨rfl, rfl⟩ dL_longestAllowed_16
  · obtain ⟨k, hk, -⟩ := hp
    cases hk
set_option maxHeartbeats 4000000 in
set_option maxRecDepth 100000 in
theorem h_longestAllowed_x0 {l : Launch} {g : GL} {R : Nat → Nat → Nat} {L : Nat → Nat → Int64} {N : Nat} {σ σ1 : SI} {x0 o : Nat} {a1 : Int32} (hm : f_X11_longestAllowed N R σ x0 a1 = some (.inr 0, σ1)) (hSh : ShR R) (hx0 : Ok 194 x0 11) (ho : Ok 194 o 40001) : CtW l g 8 yL_longestAllowed cL_longestAllowed 4 (some .int) [(0, 9, 12, 19)] 1 6 [.ref (gb g + x0), .int a1, .ref (gb g + o)] (mkS σ R L) (fun w σ' => w = some (.int 1) ∧ σ' = mkS σ1 R L) := by
  refine met_ofWH (cc := cL_longestAllowed) (maxL := 4) (ret := (some .int)) (hh := [(0, 9, 12, 19)]) (by decide) rfl ?_
  intro p e s m args below meth c s₁ B hml hT hv
  obtain ⟨rfl, hE, hLo, hWd⟩ := hv
  have hr : meth.sig.returnType = (some .int) := B.returns
  have C : Cx l g p s m meth c cL_longestAllowed 4 RL := ⟨B.exec, B.bytes, hml, findClass_of_methodNamed B.named, hE, hLo, B.notSynchronized⟩
  have S : S2 g s σ R L s.heap [] := ⟨hWd, va_S.rf⟩
  have hx := C.1
  have hb := C.2.1
  have hl := lv_entry ([.ref (gb g + x0), .int a1, .ref (gb g + o)]) (n := 4) (Nat.le_of_ble_eq_true rfl)
  rw [lg_entry_eq]
  generalize (lg_sl ([.ref (gb g + x0), .int a1, .ref (gb g + o)]) ++ List.replicate (4 - (lg_sl ([.ref (gb g + x0), .int a1, .ref (gb g + o)])).length) Slot.unset).toArray = ls at hl ⊢
  have hl : lv_has ls 4 [(0, .ref (gb g + x0)), (1, .int a1), (2, .ref (gb g + o))] := hl
  generalize hH : s.heap = H at S ⊢
  generalize hlc : ([] : List Loc) = locs at S ⊢
  refine lv_aload_n hx hb dL_longestAllowed_0 rfl (lv_at hl 2 rfl) ?_
  refine lv_iconst (v := (0 : Int32)) hx hb dL_longestAllowed_1 (by decide) ?_
  refine lv_aload_n hx hb dL_longestAllowed_2 rfl (lv_at hl 0 rfl) ?_
  refine lv_iload_n hx hb dL_longestAllowed_3 rfl (lv_at hl 1 rfl) ?_
  refine v_callVC C S KX11 hx0 (ok_X11_longestAllowed (L := L) hm hSh hx0) ⟨cd_X11_longestAllowed, ni_RX11, ml_RL_97, in_X11_longestAllowed, sl_X11_longestAllowed⟩ ⟨by decide, by decide⟩ rfl (rm_ok (by decide) (by decide)) hl.1 rfl (Nat.le_of_ble_eq_true rfl) ⟨by decide, by decide⟩ dL_longestAllowed_4 (fun v σ' H locs hp S => ?_) (fun E σ' H locs q ce hp S hcell hcv hcl => ?_)
  · obtain ⟨k, hk, -⟩ := hp
    cases hk
  · obtain ⟨k, hk, rfl, rfl⟩ := hp
    cases hk
    have S : S2 g s σ1 R L H locs := S
    refine x_catch (E := "java/lang/IndexOutOfBoundsException") C [] ⟨0, 9, 12, 19⟩ [] (hT.trans rfl) (fun z hz => by cases hz) (by decide) (by decide) cl_RL_19 ca_0 hcell hcv hcl ?_
    refine lv_astore_n (lv' := [(3, .ref q), (0, .ref (gb g + x0)), (1, .int a1), (2, .ref (gb g + o))]) hx hb dL_longestAllowed_12 rfl hl (by decide) rfl (fun ls hl => ?_)
    refine lv_iconst (v := (1 : Int32)) hx hb dL_longestAllowed_13 (by decide) ?_
    exact v_iret C S hr ⟨rfl, rfl⟩ dL_longestAllowed_14
set_option maxHeartbeats 4000000 in
set_option maxRecDepth 100000 in
theorem h_allowedCount_ret {l : Launch} {g : GL} {R : Nat → Nat → Nat} {L : Nat → Nat → Int64} {N : Nat} {σ σ1 : SI} {x0 o : Nat} {a1 : Int32} {v : Int32} (hm : f_X11_allowedCount N R σ x0 a1 = some (.inl v, σ1)) (hSh : ShR R) (hx0 : Ok 194 x0 11) (ho : Ok 194 o 40001) : CtW l g 8 yL_allowedCount cL_allowedCount 4 (some .int) [(0, 9, 12, 19)] 1 6 [.ref (gb g + x0), .int a1, .ref (gb g + o)] (mkS σ R L) (fun w σ' => w = some (.int 0) ∧ σ' = uL (mkS σ1 R L) o 0 v.toInt64) := by
  refine met_ofWH (cc := cL_allowedCount) (maxL := 4) (ret := (some .int)) (hh := [(0, 9, 12, 19)]) (by decide) rfl ?_
  intro p e s m args below meth c s₁ B hml hT hv
  obtain ⟨rfl, hE, hLo, hWd⟩ := hv
  have hr : meth.sig.returnType = (some .int) := B.returns
  have C : Cx l g p s m meth c cL_allowedCount 4 RL := ⟨B.exec, B.bytes, hml, findClass_of_methodNamed B.named, hE, hLo, B.notSynchronized⟩
  have S : S2 g s σ R L s.heap [] := ⟨hWd, va_S.rf⟩
  have hx := C.1
  have hb := C.2.1
  have hl := lv_entry ([.ref (gb g + x0), .int a1, .ref (gb g + o)]) (n := 4) (Nat.le_of_ble_eq_true rfl)
  rw [lg_entry_eq]
  generalize (lg_sl ([.ref (gb g + x0), .int a1, .ref (gb g + o)]) ++ List.replicate (4 - (lg_sl ([.ref (gb g + x0), .int a1, .ref (gb g + o)])).length) Slot.unset).toArray = ls at hl ⊢
  have hl : lv_has ls 4 [(0, .ref (gb g + x0)), (1, .int a1), (2, .ref (gb g + o))] := hl
  generalize hH : s.heap = H at S ⊢
  generalize hlc : ([] : List Loc) = locs at S ⊢
  refine lv_aload_n hx hb dL_allowedCount_0 rfl (lv_at hl 2 rfl) ?_
  refine lv_iconst (v := (0 : Int32)) hx hb dL_allowedCount_1 (by decide) ?_
  refine lv_aload_n hx hb dL_allowedCount_2 rfl (lv_at hl 0 rfl) ?_
  refine lv_iload_n hx hb dL_allowedCount_3 rfl (lv_at hl 1 rfl) ?_
  refine v_callVC C S KX11 hx0 (ok_X11_allowedCount (L := L) hm hSh hx0) ⟨cd_X11_allowedCount, ni_RX11, ml_RL_100, in_X11_allowedCount, sl_X11_allowedCount⟩ ⟨by decide, by decide⟩ rfl (rm_ok (by decide) (by decide)) hl.1 rfl (Nat.le_of_ble_eq_true rfl) ⟨by decide, by decide⟩ dL_allowedCount_4 (fun v σ' H locs hp S => ?_) (fun E σ' H locs q ce hp S hcell hcv hcl => ?_)
  · obtain ⟨_, hk, rfl, rfl⟩ := hp
    cases hk
    have S : S2 g s σ1 R L H locs := S
    refine lv_i2l hx hb dL_allowedCount_7 rfl ?_
    refine x_last C S ho dL_allowedCount_8 (fun H locs S => ?_)
    refine lv_goto (tgt := 15) hx hb dL_allowedCount_9 (by decide) ?_
    refine lv_iconst (v := (0 : Int32)) hx hb dL_allowedCount_15 (by decide) ?_
    exact v_iret C S hr ⟨rfl, rfl⟩ dL_allowedCount_16
  · obtain ⟨k, hk, -⟩ := hp
    cases hk
set_option maxHeartbeats 4000000 in
set_option maxRecDepth 100000 in
theorem h_allowedCount_x0 {l : Launch} {g : GL} {R : Nat → Nat → Nat} {L : Nat → Nat → Int64} {N : Nat} {σ σ1 : SI} {x0 o : Nat} {a1 : Int32} (hm : f_X11_allowedCount N R σ x0 a1 = some (.inr 0, σ1)) (hSh : ShR R) (hx0 : Ok 194 x0 11) (ho : Ok 194 o 40001) : CtW l g 8 yL_allowedCount cL_allowedCount 4 (some .int) [(0, 9, 12, 19)] 1 6 [.ref (gb g + x0), .int a1, .ref (gb g + o)] (mkS σ R L) (fun w σ' => w = some (.int 1) ∧ σ' = mkS σ1 R L) := by
  refine met_ofWH (cc := cL_allowedCount) (maxL := 4) (ret := (some .int)) (hh := [(0, 9, 12, 19)]) (by decide) rfl ?_
  intro p e s m args below meth c s₁ B hml hT hv
  obtain ⟨rfl, hE, hLo, hWd⟩ := hv
  have hr : meth.sig.returnType = (some .int) := B.returns
  have C : Cx l g p s m meth c cL_allowedCount 4 RL := ⟨B.exec, B.bytes, hml, findClass_of_methodNamed B.named, hE, hLo, B.notSynchronized⟩
  have S : S2 g s σ R L s.heap [] := ⟨hWd, va_S.rf⟩
  have hx := C.1
  have hb := C.2.1
  have hl := lv_entry ([.ref (gb g + x0), .int a1, .ref (gb g + o)]) (n := 4) (Nat.le_of_ble_eq_true rfl)
  rw [lg_entry_eq]
  generalize (lg_sl ([.ref (gb g + x0), .int a1, .ref (gb g + o)]) ++ List.replicate (4 - (lg_sl ([.ref (gb g + x0), .int a1, .ref (gb g + o)])).length) Slot.unset).toArray = ls at hl ⊢
  have hl : lv_has ls 4 [(0, .ref (gb g + x0)), (1, .int a1), (2, .ref (gb g + o))] := hl
  generalize hH : s.heap = H at S ⊢
  generalize hlc : ([] : List Loc) = locs at S ⊢
  refine lv_aload_n hx hb dL_allowedCount_0 rfl (lv_at hl 2 rfl) ?_
  refine lv_iconst (v := (0 : Int32)) hx hb dL_allowedCount_1 (by decide) ?_
  refine lv_aload_n hx hb dL_allowedCount_2 rfl (lv_at hl 0 rfl) ?_
  refine lv_iload_n hx hb dL_allowedCount_3 rfl (lv_at hl 1 rfl) ?_
  refine v_callVC C S KX11 hx0 (ok_X11_allowedCount (L := L) hm hSh hx0) ⟨cd_X11_allowedCount, ni_RX11, ml_RL_100, in_X11_allowedCount, sl_X11_allowedCount⟩ ⟨by decide, by decide⟩ rfl (rm_ok (by decide) (by decide)) hl.1 rfl (Nat.le_of_ble_eq_true rfl) ⟨by decide, by decide⟩ dL_allowedCount_4 (fun v σ' H locs hp S => ?_) (fun E σ' H locs q ce hp S hcell hcv hcl => ?_)
  · obtain ⟨k, hk, -⟩ := hp
    cases hk
  · obtain ⟨k, hk, rfl, rfl⟩ := hp
    cases hk
    have S : S2 g s σ1 R L H locs := S
    refine x_catch (E := "java/lang/IndexOutOfBoundsException") C [] ⟨0, 9, 12, 19⟩ [] (hT.trans rfl) (fun z hz => by cases hz) (by decide) (by decide) cl_RL_19 ca_0 hcell hcv hcl ?_
    refine lv_astore_n (lv' := [(3, .ref q), (0, .ref (gb g + x0)), (1, .int a1), (2, .ref (gb g + o))]) hx hb dL_allowedCount_12 rfl hl (by decide) rfl (fun ls hl => ?_)
    refine lv_iconst (v := (1 : Int32)) hx hb dL_allowedCount_13 (by decide) ?_
    exact v_iret C S hr ⟨rfl, rfl⟩ dL_allowedCount_14
set_option maxHeartbeats 4000000 in
set_option maxRecDepth 100000 in
theorem h_schedule_ret {l : Launch} {g : GL} {R : Nat → Nat → Nat} {L : Nat → Nat → Int64} {N : Nat} {σ σ1 : SI} {x0 o : Nat} {a1 : Int32} {a2 : Int32} {v : Int32} (hm : f_X11_schedule N R σ x0 a1 a2 = some (.inl v, σ1)) (hSh : ShR R) (hx0 : Ok 194 x0 11) (ho : Ok 194 o 40001) : CtW l g 9 yL_schedule cL_schedule 5 (some .int) [(0, 10, 13, 19), (0, 10, 17, 13), (0, 10, 21, 106)] 3 18 [.ref (gb g + x0), .int a1, .int a2, .ref (gb g + o)] (mkS σ R L) (fun w σ' => w = some (.int 0) ∧ σ' = uL (mkS σ1 R L) o 0 v.toInt64) := by
  refine met_ofWH (cc := cL_schedule) (maxL := 5) (ret := (some .int)) (hh := [(0, 10, 13, 19), (0, 10, 17, 13), (0, 10, 21, 106)]) (by decide) rfl ?_
  intro p e s m args below meth c s₁ B hml hT hv
  obtain ⟨rfl, hE, hLo, hWd⟩ := hv
  have hr : meth.sig.returnType = (some .int) := B.returns
  have C : Cx l g p s m meth c cL_schedule 5 RL := ⟨B.exec, B.bytes, hml, findClass_of_methodNamed B.named, hE, hLo, B.notSynchronized⟩
  have S : S2 g s σ R L s.heap [] := ⟨hWd, va_S.rf⟩
  have hx := C.1
  have hb := C.2.1
  have hl := lv_entry ([.ref (gb g + x0), .int a1, .int a2, .ref (gb g + o)]) (n := 5) (Nat.le_of_ble_eq_true rfl)
  rw [lg_entry_eq]
  generalize (lg_sl ([.ref (gb g + x0), .int a1, .int a2, .ref (gb g + o)]) ++ List.replicate (5 - (lg_sl ([.ref (gb g + x0), .int a1, .int a2, .ref (gb g + o)])).length) Slot.unset).toArray = ls at hl ⊢
  have hl : lv_has ls 5 [(0, .ref (gb g + x0)), (1, .int a1), (2, .int a2), (3, .ref (gb g + o))] := hl
  generalize hH : s.heap = H at S ⊢
  generalize hlc : ([] : List Loc) = locs at S ⊢
  refine lv_aload_n hx hb dL_schedule_0 rfl (lv_at hl 3 rfl) ?_
  refine lv_iconst (v := (0 : Int32)) hx hb dL_schedule_1 (by decide) ?_
  refine lv_aload_n hx hb dL_schedule_2 rfl (lv_at hl 0 rfl) ?_
  refine lv_iload_n hx hb dL_schedule_3 rfl (lv_at hl 1 rfl) ?_
  refine lv_iload_n hx hb dL_schedule_4 rfl (lv_at hl 2 rfl) ?_
  refine v_callVC C S KX11 hx0 (ok_X11_schedule (L := L) hm hSh hx0) ⟨cd_X11_schedule, ni_RX11, ml_RL_103, in_X11_schedule, sl_X11_schedule⟩ ⟨by decide, by decide⟩ rfl (rm_ok (by decide) (by decide)) hl.1 rfl (Nat.le_of_ble_eq_true rfl) ⟨by decide, by decide⟩ dL_schedule_5 (fun v σ' H locs hp S => ?_) (fun E σ' H locs q ce hp S hcell hcv hcl => ?_)
  · obtain ⟨_, hk, rfl, rfl⟩ := hp
    cases hk
    have S : S2 g s σ1 R L H locs := S
    refine lv_i2l hx hb dL_schedule_8 rfl ?_
    refine x_last C S ho dL_schedule_9 (fun H locs S => ?_)
    refine lv_goto (tgt := 25) hx hb dL_schedule_10 (by decide) ?_
    refine lv_iconst (v := (0 : Int32)) hx hb dL_schedule_25 (by decide) ?_
    exact v_iret C S hr ⟨rfl, rfl⟩ dL_schedule_26
  · obtain ⟨k, hk, -⟩ := hp
    cases hk
set_option maxHeartbeats 4000000 in
set_option maxRecDepth 100000 in
theorem h_schedule_x0 {l : Launch} {g : GL} {R : Nat → Nat → Nat} {L : Nat → Nat → Int64} {N : Nat} {σ σ1 : SI} {x0 o : Nat} {a1 : Int32} {a2 : Int32} (hm : f_X11_schedule N R σ x0 a1 a2 = some (.inr 0, σ1)) (hSh : ShR R) (hx0 : Ok 194 x0 11) (ho : Ok 194 o 40001) : CtW l g 9 yL_schedule cL_schedule 5 (some .int) [(0, 10, 13, 19), (0, 10, 17, 13), (0, 10, 21, 106)] 3 18 [.ref (gb g + x0), .int a1, .int a2, .ref (gb g + o)] (mkS σ R L) (fun w σ' => w = some (.int 1) ∧ σ' = mkS σ1 R L) := by
  refine met_ofWH (cc := cL_schedule) (maxL := 5) (ret := (some .int)) (hh := [(0, 10, 13, 19), (0, 10, 17, 13), (0, 10, 21, 106)]) (by decide) rfl ?_
  intro p e s m args below meth c s₁ B hml hT hv
  obtain ⟨rfl, hE, hLo, hWd⟩ := hv
  have hr : meth.sig.returnType = (some .int) := B.returns
  have C : Cx l g p s m meth c cL_schedule 5 RL := ⟨B.exec, B.bytes, hml, findClass_of_methodNamed B.named, hE, hLo, B.notSynchronized⟩
  have S : S2 g s σ R L s.heap [] := ⟨hWd, va_S.rf⟩
  have hx := C.1
  have hb := C.2.1
  have hl := lv_entry ([.ref (gb g + x0), .int a1, .int a2, .ref (gb g + o)]) (n := 5) (Nat.le_of_ble_eq_true rfl)
  rw [lg_entry_eq]
  generalize (lg_sl ([.ref (gb g + x0), .int a1, .int a2, .ref (gb g + o)]) ++ List.replicate (5 - (lg_sl ([.ref (gb g + x0), .int a1, .int a2, .ref (gb g + o)])).length) Slot.unset).toArray = ls at hl ⊢
  have hl : lv_has ls 5 [(0, .ref (gb g + x0)), (1, .int a1), (2, .int a2), (3, .ref (gb g + o))] := hl
  generalize hH : s.heap = H at S ⊢
  generalize hlc : ([] : List Loc) = locs at S ⊢
  refine lv_aload_n hx hb dL_schedule_0 rfl (lv_at hl 3 rfl) ?_
  refine lv_iconst (v := (0 : Int32)) hx hb dL_schedule_1 (by decide) ?_
  refine lv_aload_n hx hb dL_schedule_2 rfl (lv_at hl 0 rfl) ?_
  refine lv_iload_n hx hb dL_schedule_3 rfl (lv_at hl 1 rfl) ?_
  refine lv_iload_n hx hb dL_schedule_4 rfl (lv_at hl 2 rfl) ?_
  refine v_callVC C S KX11 hx0 (ok_X11_schedule (L := L) hm hSh hx0) ⟨cd_X11_schedule, ni_RX11, ml_RL_103, in_X11_schedule, sl_X11_schedule⟩ ⟨by decide, by decide⟩ rfl (rm_ok (by decide) (by decide)) hl.1 rfl (Nat.le_of_ble_eq_true rfl) ⟨by decide, by decide⟩ dL_schedule_5 (fun v σ' H locs hp S => ?_) (fun E σ' H locs q ce hp S hcell hcv hcl => ?_)
  · obtain ⟨k, hk, -⟩ := hp
    cases hk
  · obtain ⟨k, hk, rfl, rfl⟩ := hp
    cases hk
    have S : S2 g s σ1 R L H locs := S
    refine x_catch (E := "java/lang/IndexOutOfBoundsException") C [] ⟨0, 10, 13, 19⟩ [⟨0, 10, 17, 13⟩, ⟨0, 10, 21, 106⟩] (hT.trans rfl) (fun z hz => by cases hz) (by decide) (by decide) cl_RL_19 ca_0 hcell hcv hcl ?_
    refine lv_astore (lv' := [(4, .ref q), (0, .ref (gb g + x0)), (1, .int a1), (2, .int a2), (3, .ref (gb g + o))]) hx hb dL_schedule_13 hl (by decide) rfl (fun ls hl => ?_)
    refine lv_iconst (v := (1 : Int32)) hx hb dL_schedule_15 (by decide) ?_
    exact v_iret C S hr ⟨rfl, rfl⟩ dL_schedule_16
set_option maxHeartbeats 4000000 in
set_option maxRecDepth 100000 in
theorem h_schedule_x1 {l : Launch} {g : GL} {R : Nat → Nat → Nat} {L : Nat → Nat → Int64} {N : Nat} {σ σ1 : SI} {x0 o : Nat} {a1 : Int32} {a2 : Int32} (hm : f_X11_schedule N R σ x0 a1 a2 = some (.inr 1, σ1)) (hSh : ShR R) (hx0 : Ok 194 x0 11) (ho : Ok 194 o 40001) : CtW l g 9 yL_schedule cL_schedule 5 (some .int) [(0, 10, 13, 19), (0, 10, 17, 13), (0, 10, 21, 106)] 3 18 [.ref (gb g + x0), .int a1, .int a2, .ref (gb g + o)] (mkS σ R L) (fun w σ' => w = some (.int 2) ∧ σ' = mkS σ1 R L) := by
  refine met_ofWH (cc := cL_schedule) (maxL := 5) (ret := (some .int)) (hh := [(0, 10, 13, 19), (0, 10, 17, 13), (0, 10, 21, 106)]) (by decide) rfl ?_
  intro p e s m args below meth c s₁ B hml hT hv
  obtain ⟨rfl, hE, hLo, hWd⟩ := hv
  have hr : meth.sig.returnType = (some .int) := B.returns
  have C : Cx l g p s m meth c cL_schedule 5 RL := ⟨B.exec, B.bytes, hml, findClass_of_methodNamed B.named, hE, hLo, B.notSynchronized⟩
  have S : S2 g s σ R L s.heap [] := ⟨hWd, va_S.rf⟩
  have hx := C.1
  have hb := C.2.1
  have hl := lv_entry ([.ref (gb g + x0), .int a1, .int a2, .ref (gb g + o)]) (n := 5) (Nat.le_of_ble_eq_true rfl)
  rw [lg_entry_eq]
  generalize (lg_sl ([.ref (gb g + x0), .int a1, .int a2, .ref (gb g + o)]) ++ List.replicate (5 - (lg_sl ([.ref (gb g + x0), .int a1, .int a2, .ref (gb g + o)])).length) Slot.unset).toArray = ls at hl ⊢
  have hl : lv_has ls 5 [(0, .ref (gb g + x0)), (1, .int a1), (2, .int a2), (3, .ref (gb g + o))] := hl
  generalize hH : s.heap = H at S ⊢
  generalize hlc : ([] : List Loc) = locs at S ⊢
  refine lv_aload_n hx hb dL_schedule_0 rfl (lv_at hl 3 rfl) ?_
  refine lv_iconst (v := (0 : Int32)) hx hb dL_schedule_1 (by decide) ?_
  refine lv_aload_n hx hb dL_schedule_2 rfl (lv_at hl 0 rfl) ?_
  refine lv_iload_n hx hb dL_schedule_3 rfl (lv_at hl 1 rfl) ?_
  refine lv_iload_n hx hb dL_schedule_4 rfl (lv_at hl 2 rfl) ?_
  refine v_callVC C S KX11 hx0 (ok_X11_schedule (L := L) hm hSh hx0) ⟨cd_X11_schedule, ni_RX11, ml_RL_103, in_X11_schedule, sl_X11_schedule⟩ ⟨by decide, by decide⟩ rfl (rm_ok (by decide) (by decide)) hl.1 rfl (Nat.le_of_ble_eq_true rfl) ⟨by decide, by decide⟩ dL_schedule_5 (fun v σ' H locs hp S => ?_) (fun E σ' H locs q ce hp S hcell hcv hcl => ?_)
  · obtain ⟨k, hk, -⟩ := hp
    cases hk
  · obtain ⟨k, hk, rfl, rfl⟩ := hp
    cases hk
    have S : S2 g s σ1 R L H locs := S
    refine x_catch (E := "java/lang/IllegalArgumentException") C [⟨0, 10, 13, 19⟩] ⟨0, 10, 17, 13⟩ [⟨0, 10, 21, 106⟩] (hT.trans rfl) (fun z hz => by rw [List.mem_singleton.mp hz]; exact ⟨by decide, "java/lang/IndexOutOfBoundsException", cl_RL_19, by decide⟩) (by decide) (by decide) cl_RL_13 ca_1 hcell hcv hcl ?_
    refine lv_astore (lv' := [(4, .ref q), (0, .ref (gb g + x0)), (1, .int a1), (2, .int a2), (3, .ref (gb g + o))]) hx hb dL_schedule_17 hl (by decide) rfl (fun ls hl => ?_)
    refine lv_iconst (v := (2 : Int32)) hx hb dL_schedule_19 (by decide) ?_
    exact v_iret C S hr ⟨rfl, rfl⟩ dL_schedule_20
set_option maxHeartbeats 4000000 in
set_option maxRecDepth 100000 in
theorem h_schedule_x2 {l : Launch} {g : GL} {R : Nat → Nat → Nat} {L : Nat → Nat → Int64} {N : Nat} {σ σ1 : SI} {x0 o : Nat} {a1 : Int32} {a2 : Int32} (hm : f_X11_schedule N R σ x0 a1 a2 = some (.inr 2, σ1)) (hSh : ShR R) (hx0 : Ok 194 x0 11) (ho : Ok 194 o 40001) : CtW l g 9 yL_schedule cL_schedule 5 (some .int) [(0, 10, 13, 19), (0, 10, 17, 13), (0, 10, 21, 106)] 3 18 [.ref (gb g + x0), .int a1, .int a2, .ref (gb g + o)] (mkS σ R L) (fun w σ' => w = some (.int 3) ∧ σ' = mkS σ1 R L) := by
  refine met_ofWH (cc := cL_schedule) (maxL := 5) (ret := (some .int)) (hh := [(0, 10, 13, 19), (0, 10, 17, 13), (0, 10, 21, 106)]) (by decide) rfl ?_
  intro p e s m args below meth c s₁ B hml hT hv
  obtain ⟨rfl, hE, hLo, hWd⟩ := hv
  have hr : meth.sig.returnType = (some .int) := B.returns
  have C : Cx l g p s m meth c cL_schedule 5 RL := ⟨B.exec, B.bytes, hml, findClass_of_methodNamed B.named, hE, hLo, B.notSynchronized⟩
  have S : S2 g s σ R L s.heap [] := ⟨hWd, va_S.rf⟩
  have hx := C.1
  have hb := C.2.1
  have hl := lv_entry ([.ref (gb g + x0), .int a1, .int a2, .ref (gb g + o)]) (n := 5) (Nat.le_of_ble_eq_true rfl)
  rw [lg_entry_eq]
  generalize (lg_sl ([.ref (gb g + x0), .int a1, .int a2, .ref (gb g + o)]) ++ List.replicate (5 - (lg_sl ([.ref (gb g + x0), .int a1, .int a2, .ref (gb g + o)])).length) Slot.unset).toArray = ls at hl ⊢
  have hl : lv_has ls 5 [(0, .ref (gb g + x0)), (1, .int a1), (2, .int a2), (3, .ref (gb g + o))] := hl
  generalize hH : s.heap = H at S ⊢
  generalize hlc : ([] : List Loc) = locs at S ⊢
  refine lv_aload_n hx hb dL_schedule_0 rfl (lv_at hl 3 rfl) ?_
  refine lv_iconst (v := (0 : Int32)) hx hb dL_schedule_1 (by decide) ?_
  refine lv_aload_n hx hb dL_schedule_2 rfl (lv_at hl 0 rfl) ?_
  refine lv_iload_n hx hb dL_schedule_3 rfl (lv_at hl 1 rfl) ?_
  refine lv_iload_n hx hb dL_schedule_4 rfl (lv_at hl 2 rfl) ?_
  refine v_callVC C S KX11 hx0 (ok_X11_schedule (L := L) hm hSh hx0) ⟨cd_X11_schedule, ni_RX11, ml_RL_103, in_X11_schedule, sl_X11_schedule⟩ ⟨by decide, by decide⟩ rfl (rm_ok (by decide) (by decide)) hl.1 rfl (Nat.le_of_ble_eq_true rfl) ⟨by decide, by decide⟩ dL_schedule_5 (fun v σ' H locs hp S => ?_) (fun E σ' H locs q ce hp S hcell hcv hcl => ?_)
  · obtain ⟨k, hk, -⟩ := hp
    cases hk
  · obtain ⟨k, hk, rfl, rfl⟩ := hp
    cases hk
    have S : S2 g s σ1 R L H locs := S
    refine x_catch (E := "java/lang/IllegalStateException") C [⟨0, 10, 13, 19⟩, ⟨0, 10, 17, 13⟩] ⟨0, 10, 21, 106⟩ [] (hT.trans rfl) (fun z hz => by rcases List.mem_cons.mp hz with hz | hz; (rw [hz]; exact ⟨by decide, "java/lang/IndexOutOfBoundsException", cl_RL_19, by decide⟩); (rw [List.mem_singleton.mp hz]; exact ⟨by decide, "java/lang/IllegalArgumentException", cl_RL_13, by decide⟩)) (by decide) (by decide) cl_RL_106 ca_2 hcell hcv hcl ?_
    refine lv_astore (lv' := [(4, .ref q), (0, .ref (gb g + x0)), (1, .int a1), (2, .int a2), (3, .ref (gb g + o))]) hx hb dL_schedule_21 hl (by decide) rfl (fun ls hl => ?_)
    refine lv_iconst (v := (3 : Int32)) hx hb dL_schedule_23 (by decide) ?_
    exact v_iret C S hr ⟨rfl, rfl⟩ dL_schedule_24
set_option maxHeartbeats 4000000 in
set_option maxRecDepth 100000 in
theorem h_cancel_ret {l : Launch} {g : GL} {R : Nat → Nat → Nat} {L : Nat → Nat → Int64} {N : Nat} {σ σ1 : SI} {x0 o : Nat} {a1 : Int32} {v : Int32} (hm : f_X11_cancel N R σ x0 a1 = some (.inl v, σ1)) (hSh : ShR R) (hx0 : Ok 194 x0 11) (ho : Ok 194 o 40001) : CtW l g 8 yL_cancel cL_cancel 4 (some .int) [(0, 9, 12, 19), (0, 9, 15, 106)] 2 12 [.ref (gb g + x0), .int a1, .ref (gb g + o)] (mkS σ R L) (fun w σ' => w = some (.int 0) ∧ σ' = uL (mkS σ1 R L) o 0 v.toInt64) := by
  refine met_ofWH (cc := cL_cancel) (maxL := 4) (ret := (some .int)) (hh := [(0, 9, 12, 19), (0, 9, 15, 106)]) (by decide) rfl ?_
  intro p e s m args below meth c s₁ B hml hT hv
  obtain ⟨rfl, hE, hLo, hWd⟩ := hv
  have hr : meth.sig.returnType = (some .int) := B.returns
  have C : Cx l g p s m meth c cL_cancel 4 RL := ⟨B.exec, B.bytes, hml, findClass_of_methodNamed B.named, hE, hLo, B.notSynchronized⟩
  have S : S2 g s σ R L s.heap [] := ⟨hWd, va_S.rf⟩
  have hx := C.1
  have hb := C.2.1
  have hl := lv_entry ([.ref (gb g + x0), .int a1, .ref (gb g + o)]) (n := 4) (Nat.le_of_ble_eq_true rfl)
  rw [lg_entry_eq]
  generalize (lg_sl ([.ref (gb g + x0), .int a1, .ref (gb g + o)]) ++ List.replicate (4 - (lg_sl ([.ref (gb g + x0), .int a1, .ref (gb g + o)])).length) Slot.unset).toArray = ls at hl ⊢
  have hl : lv_has ls 4 [(0, .ref (gb g + x0)), (1, .int a1), (2, .ref (gb g + o))] := hl
  generalize hH : s.heap = H at S ⊢
  generalize hlc : ([] : List Loc) = locs at S ⊢
  refine lv_aload_n hx hb dL_cancel_0 rfl (lv_at hl 2 rfl) ?_
  refine lv_iconst (v := (0 : Int32)) hx hb dL_cancel_1 (by decide) ?_
  refine lv_aload_n hx hb dL_cancel_2 rfl (lv_at hl 0 rfl) ?_
  refine lv_iload_n hx hb dL_cancel_3 rfl (lv_at hl 1 rfl) ?_
  refine v_callVC C S KX11 hx0 (ok_X11_cancel (L := L) hm hSh hx0) ⟨cd_X11_cancel, ni_RX11, ml_RL_108, in_X11_cancel, sl_X11_cancel⟩ ⟨by decide, by decide⟩ rfl (rm_ok (by decide) (by decide)) hl.1 rfl (Nat.le_of_ble_eq_true rfl) ⟨by decide, by decide⟩ dL_cancel_4 (fun v σ' H locs hp S => ?_) (fun E σ' H locs q ce hp S hcell hcv hcl => ?_)
  · obtain ⟨_, hk, rfl, rfl⟩ := hp
    cases hk
    have S : S2 g s σ1 R L H locs := S
    refine lv_i2l hx hb dL_cancel_7 rfl ?_
    refine x_last C S ho dL_cancel_8 (fun H locs S => ?_)
    refine lv_goto (tgt := 18) hx hb dL_cancel_9 (by decide) ?_
    refine lv_iconst (v := (0 : Int32)) hx hb dL_cancel_18 (by decide) ?_
    exact v_iret C S hr ⟨rfl, rfl⟩ dL_cancel_19
  · obtain ⟨k, hk, -⟩ := hp
    cases hk
set_option maxHeartbeats 4000000 in
set_option maxRecDepth 100000 in
theorem h_cancel_x0 {l : Launch} {g : GL} {R : Nat → Nat → Nat} {L : Nat → Nat → Int64} {N : Nat} {σ σ1 : SI} {x0 o : Nat} {a1 : Int32} (hm : f_X11_cancel N R σ x0 a1 = some (.inr 0, σ1)) (hSh : ShR R) (hx0 : Ok 194 x0 11) (ho : Ok 194 o 40001) : CtW l g 8 yL_cancel cL_cancel 4 (some .int) [(0, 9, 12, 19), (0, 9, 15, 106)] 2 12 [.ref (gb g + x0), .int a1, .ref (gb g + o)] (mkS σ R L) (fun w σ' => w = some (.int 1) ∧ σ' = mkS σ1 R L) := by
  refine met_ofWH (cc := cL_cancel) (maxL := 4) (ret := (some .int)) (hh := [(0, 9, 12, 19), (0, 9, 15, 106)]) (by decide) rfl ?_
  intro p e s m args below meth c s₁ B hml hT hv
  obtain ⟨rfl, hE, hLo, hWd⟩ := hv
  have hr : meth.sig.returnType = (some .int) := B.returns
  have C : Cx l g p s m meth c cL_cancel 4 RL := ⟨B.exec, B.bytes, hml, findClass_of_methodNamed B.named, hE, hLo, B.notSynchronized⟩
  have S : S2 g s σ R L s.heap [] := ⟨hWd, va_S.rf⟩
  have hx := C.1
  have hb := C.2.1
  have hl := lv_entry ([.ref (gb g + x0), .int a1, .ref (gb g + o)]) (n := 4) (Nat.le_of_ble_eq_true rfl)
  rw [lg_entry_eq]
  generalize (lg_sl ([.ref (gb g + x0), .int a1, .ref (gb g + o)]) ++ List.replicate (4 - (lg_sl ([.ref (gb g + x0), .int a1, .ref (gb g + o)])).length) Slot.unset).toArray = ls at hl ⊢
  have hl : lv_has ls 4 [(0, .ref (gb g + x0)), (1, .int a1), (2, .ref (gb g + o))] := hl
  generalize hH : s.heap = H at S ⊢
  generalize hlc : ([] : List Loc) = locs at S ⊢
  refine lv_aload_n hx hb dL_cancel_0 rfl (lv_at hl 2 rfl) ?_
  refine lv_iconst (v := (0 : Int32)) hx hb dL_cancel_1 (by decide) ?_
  refine lv_aload_n hx hb dL_cancel_2 rfl (lv_at hl 0 rfl) ?_
  refine lv_iload_n hx hb dL_cancel_3 rfl (lv_at hl 1 rfl) ?_
  refine v_callVC C S KX11 hx0 (ok_X11_cancel (L := L) hm hSh hx0) ⟨cd_X11_cancel, ni_RX11, ml_RL_108, in_X11_cancel, sl_X11_cancel⟩ ⟨by decide, by decide⟩ rfl (rm_ok (by decide) (by decide)) hl.1 rfl (Nat.le_of_ble_eq_true rfl) ⟨by decide, by decide⟩ dL_cancel_4 (fun v σ' H locs hp S => ?_) (fun E σ' H locs q ce hp S hcell hcv hcl => ?_)
  · obtain ⟨k, hk, -⟩ := hp
    cases hk
  · obtain ⟨k, hk, rfl, rfl⟩ := hp
    cases hk
    have S : S2 g s σ1 R L H locs := S
    refine x_catch (E := "java/lang/IndexOutOfBoundsException") C [] ⟨0, 9, 12, 19⟩ [⟨0, 9, 15, 106⟩] (hT.trans rfl) (fun z hz => by cases hz) (by decide) (by decide) cl_RL_19 ca_0 hcell hcv hcl ?_
    refine lv_astore_n (lv' := [(3, .ref q), (0, .ref (gb g + x0)), (1, .int a1), (2, .ref (gb g + o))]) hx hb dL_cancel_12 rfl hl (by decide) rfl (fun ls hl => ?_)
    refine lv_iconst (v := (1 : Int32)) hx hb dL_cancel_13 (by decide) ?_
    exact v_iret C S hr ⟨rfl, rfl⟩ dL_cancel_14
set_option maxHeartbeats 4000000 in
set_option maxRecDepth 100000 in
theorem h_cancel_x2 {l : Launch} {g : GL} {R : Nat → Nat → Nat} {L : Nat → Nat → Int64} {N : Nat} {σ σ1 : SI} {x0 o : Nat} {a1 : Int32} (hm : f_X11_cancel N R σ x0 a1 = some (.inr 2, σ1)) (hSh : ShR R) (hx0 : Ok 194 x0 11) (ho : Ok 194 o 40001) : CtW l g 8 yL_cancel cL_cancel 4 (some .int) [(0, 9, 12, 19), (0, 9, 15, 106)] 2 12 [.ref (gb g + x0), .int a1, .ref (gb g + o)] (mkS σ R L) (fun w σ' => w = some (.int 2) ∧ σ' = mkS σ1 R L) := by
  refine met_ofWH (cc := cL_cancel) (maxL := 4) (ret := (some .int)) (hh := [(0, 9, 12, 19), (0, 9, 15, 106)]) (by decide) rfl ?_
  intro p e s m args below meth c s₁ B hml hT hv
  obtain ⟨rfl, hE, hLo, hWd⟩ := hv
  have hr : meth.sig.returnType = (some .int) := B.returns
  have C : Cx l g p s m meth c cL_cancel 4 RL := ⟨B.exec, B.bytes, hml, findClass_of_methodNamed B.named, hE, hLo, B.notSynchronized⟩
  have S : S2 g s σ R L s.heap [] := ⟨hWd, va_S.rf⟩
  have hx := C.1
  have hb := C.2.1
  have hl := lv_entry ([.ref (gb g + x0), .int a1, .ref (gb g + o)]) (n := 4) (Nat.le_of_ble_eq_true rfl)
  rw [lg_entry_eq]
  generalize (lg_sl ([.ref (gb g + x0), .int a1, .ref (gb g + o)]) ++ List.replicate (4 - (lg_sl ([.ref (gb g + x0), .int a1, .ref (gb g + o)])).length) Slot.unset).toArray = ls at hl ⊢
  have hl : lv_has ls 4 [(0, .ref (gb g + x0)), (1, .int a1), (2, .ref (gb g + o))] := hl
  generalize hH : s.heap = H at S ⊢
  generalize hlc : ([] : List Loc) = locs at S ⊢
  refine lv_aload_n hx hb dL_cancel_0 rfl (lv_at hl 2 rfl) ?_
  refine lv_iconst (v := (0 : Int32)) hx hb dL_cancel_1 (by decide) ?_
  refine lv_aload_n hx hb dL_cancel_2 rfl (lv_at hl 0 rfl) ?_
  refine lv_iload_n hx hb dL_cancel_3 rfl (lv_at hl 1 rfl) ?_
  refine v_callVC C S KX11 hx0 (ok_X11_cancel (L := L) hm hSh hx0) ⟨cd_X11_cancel, ni_RX11, ml_RL_108, in_X11_cancel, sl_X11_cancel⟩ ⟨by decide, by decide⟩ rfl (rm_ok (by decide) (by decide)) hl.1 rfl (Nat.le_of_ble_eq_true rfl) ⟨by decide, by decide⟩ dL_cancel_4 (fun v σ' H locs hp S => ?_) (fun E σ' H locs q ce hp S hcell hcv hcl => ?_)
  · obtain ⟨k, hk, -⟩ := hp
    cases hk
  · obtain ⟨k, hk, rfl, rfl⟩ := hp
    cases hk
    have S : S2 g s σ1 R L H locs := S
    refine x_catch (E := "java/lang/IllegalStateException") C [⟨0, 9, 12, 19⟩] ⟨0, 9, 15, 106⟩ [] (hT.trans rfl) (fun z hz => by rw [List.mem_singleton.mp hz]; exact ⟨by decide, "java/lang/IndexOutOfBoundsException", cl_RL_19, by decide⟩) (by decide) (by decide) cl_RL_106 ca_2 hcell hcv hcl ?_
    refine lv_astore_n (lv' := [(3, .ref q), (0, .ref (gb g + x0)), (1, .int a1), (2, .ref (gb g + o))]) hx hb dL_cancel_15 rfl hl (by decide) rfl (fun ls hl => ?_)
    refine lv_iconst (v := (2 : Int32)) hx hb dL_cancel_16 (by decide) ?_
    exact v_iret C S hr ⟨rfl, rfl⟩ dL_cancel_17
set_option maxHeartbeats 4000000 in
set_option maxRecDepth 100000 in
theorem h_fire_ret {l : Launch} {g : GL} {R : Nat → Nat → Nat} {L : Nat → Nat → Int64} {N : Nat} {σ σ1 : SI} {x0 o : Nat} {a1 : Int32} {v : Int32} (hm : f_X11_fire N R σ x0 a1 = some (.inl v, σ1)) (hSh : ShR R) (hx0 : Ok 194 x0 11) (ho : Ok 194 o 40001) : CtW l g 9 yL_fire cL_fire 4 (some .int) [(0, 9, 12, 19), (0, 9, 15, 106)] 3 18 [.ref (gb g + x0), .int a1, .ref (gb g + o)] (mkS σ R L) (fun w σ' => w = some (.int 0) ∧ σ' = uL (mkS σ1 R L) o 0 v.toInt64) := by
  refine met_ofWH (cc := cL_fire) (maxL := 4) (ret := (some .int)) (hh := [(0, 9, 12, 19), (0, 9, 15, 106)]) (by decide) rfl ?_
  intro p e s m args below meth c s₁ B hml hT hv
  obtain ⟨rfl, hE, hLo, hWd⟩ := hv
  have hr : meth.sig.returnType = (some .int) := B.returns
  have C : Cx l g p s m meth c cL_fire 4 RL := ⟨B.exec, B.bytes, hml, findClass_of_methodNamed B.named, hE, hLo, B.notSynchronized⟩
  have S : S2 g s σ R L s.heap [] := ⟨hWd, va_S.rf⟩
  have hx := C.1
  have hb := C.2.1
  have hl := lv_entry ([.ref (gb g + x0), .int a1, .ref (gb g + o)]) (n := 4) (Nat.le_of_ble_eq_true rfl)
  rw [lg_entry_eq]
  generalize (lg_sl ([.ref (gb g + x0), .int a1, .ref (gb g + o)]) ++ List.replicate (4 - (lg_sl ([.ref (gb g + x0), .int a1, .ref (gb g + o)])).length) Slot.unset).toArray = ls at hl ⊢
  have hl : lv_has ls 4 [(0, .ref (gb g + x0)), (1, .int a1), (2, .ref (gb g + o))] := hl
  generalize hH : s.heap = H at S ⊢
  generalize hlc : ([] : List Loc) = locs at S ⊢
  refine lv_aload_n hx hb dL_fire_0 rfl (lv_at hl 2 rfl) ?_
  refine lv_iconst (v := (0 : Int32)) hx hb dL_fire_1 (by decide) ?_
  refine lv_aload_n hx hb dL_fire_2 rfl (lv_at hl 0 rfl) ?_
  refine lv_iload_n hx hb dL_fire_3 rfl (lv_at hl 1 rfl) ?_
  refine v_callVC C S KX11 hx0 (ok_X11_fire (L := L) hm hSh hx0) ⟨cd_X11_fire, ni_RX11, ml_RL_111, in_X11_fire, sl_X11_fire⟩ ⟨by decide, by decide⟩ rfl (rm_ok (by decide) (by decide)) hl.1 rfl (Nat.le_of_ble_eq_true rfl) ⟨by decide, by decide⟩ dL_fire_4 (fun v σ' H locs hp S => ?_) (fun E σ' H locs q ce hp S hcell hcv hcl => ?_)
  · obtain ⟨_, hk, rfl, rfl⟩ := hp
    cases hk
    have S : S2 g s σ1 R L H locs := S
    refine lv_i2l hx hb dL_fire_7 rfl ?_
    refine x_last C S ho dL_fire_8 (fun H locs S => ?_)
    refine lv_goto (tgt := 18) hx hb dL_fire_9 (by decide) ?_
    refine lv_iconst (v := (0 : Int32)) hx hb dL_fire_18 (by decide) ?_
    exact v_iret C S hr ⟨rfl, rfl⟩ dL_fire_19
  · obtain ⟨k, hk, -⟩ := hp
    cases hk
set_option maxHeartbeats 4000000 in
set_option maxRecDepth 100000 in
theorem h_fire_x0 {l : Launch} {g : GL} {R : Nat → Nat → Nat} {L : Nat → Nat → Int64} {N : Nat} {σ σ1 : SI} {x0 o : Nat} {a1 : Int32} (hm : f_X11_fire N R σ x0 a1 = some (.inr 0, σ1)) (hSh : ShR R) (hx0 : Ok 194 x0 11) (ho : Ok 194 o 40001) : CtW l g 9 yL_fire cL_fire 4 (some .int) [(0, 9, 12, 19), (0, 9, 15, 106)] 3 18 [.ref (gb g + x0), .int a1, .ref (gb g + o)] (mkS σ R L) (fun w σ' => w = some (.int 1) ∧ σ' = mkS σ1 R L) := by
  refine met_ofWH (cc := cL_fire) (maxL := 4) (ret := (some .int)) (hh := [(0, 9, 12, 19), (0, 9, 15, 106)]) (by decide) rfl ?_
  intro p e s m args below meth c s₁ B hml hT hv
  obtain ⟨rfl, hE, hLo, hWd⟩ := hv
  have hr : meth.sig.returnType = (some .int) := B.returns
  have C : Cx l g p s m meth c cL_fire 4 RL := ⟨B.exec, B.bytes, hml, findClass_of_methodNamed B.named, hE, hLo, B.notSynchronized⟩
  have S : S2 g s σ R L s.heap [] := ⟨hWd, va_S.rf⟩
  have hx := C.1
  have hb := C.2.1
  have hl := lv_entry ([.ref (gb g + x0), .int a1, .ref (gb g + o)]) (n := 4) (Nat.le_of_ble_eq_true rfl)
  rw [lg_entry_eq]
  generalize (lg_sl ([.ref (gb g + x0), .int a1, .ref (gb g + o)]) ++ List.replicate (4 - (lg_sl ([.ref (gb g + x0), .int a1, .ref (gb g + o)])).length) Slot.unset).toArray = ls at hl ⊢
  have hl : lv_has ls 4 [(0, .ref (gb g + x0)), (1, .int a1), (2, .ref (gb g + o))] := hl
  generalize hH : s.heap = H at S ⊢
  generalize hlc : ([] : List Loc) = locs at S ⊢
  refine lv_aload_n hx hb dL_fire_0 rfl (lv_at hl 2 rfl) ?_
  refine lv_iconst (v := (0 : Int32)) hx hb dL_fire_1 (by decide) ?_
  refine lv_aload_n hx hb dL_fire_2 rfl (lv_at hl 0 rfl) ?_
  refine lv_iload_n hx hb dL_fire_3 rfl (lv_at hl 1 rfl) ?_
  refine v_callVC C S KX11 hx0 (ok_X11_fire (L := L) hm hSh hx0) ⟨cd_X11_fire, ni_RX11, ml_RL_111, in_X11_fire, sl_X11_fire⟩ ⟨by decide, by decide⟩ rfl (rm_ok (by decide) (by decide)) hl.1 rfl (Nat.le_of_ble_eq_true rfl) ⟨by decide, by decide⟩ dL_fire_4 (fun v σ' H locs hp S => ?_) (fun E σ' H locs q ce hp S hcell hcv hcl => ?_)
  · obtain ⟨k, hk, -⟩ := hp
    cases hk
  · obtain ⟨k, hk, rfl, rfl⟩ := hp
    cases hk
    have S : S2 g s σ1 R L H locs := S
    refine x_catch (E := "java/lang/IndexOutOfBoundsException") C [] ⟨0, 9, 12, 19⟩ [⟨0, 9, 15, 106⟩] (hT.trans rfl) (fun z hz => by cases hz) (by decide) (by decide) cl_RL_19 ca_0 hcell hcv hcl ?_
    refine lv_astore_n (lv' := [(3, .ref q), (0, .ref (gb g + x0)), (1, .int a1), (2, .ref (gb g + o))]) hx hb dL_fire_12 rfl hl (by decide) rfl (fun ls hl => ?_)
    refine lv_iconst (v := (1 : Int32)) hx hb dL_fire_13 (by decide) ?_
    exact v_iret C S hr ⟨rfl, rfl⟩ dL_fire_14
set_option maxHeartbeats 4000000 in
set_option maxRecDepth 100000 in
theorem h_fire_x2 {l : Launch} {g : GL} {R : Nat → Nat → Nat} {L : Nat → Nat → Int64} {N : Nat} {σ σ1 : SI} {x0 o : Nat} {a1 : Int32} (hm : f_X11_fire N R σ x0 a1 = some (.inr 2, σ1)) (hSh : ShR R) (hx0 : Ok 194 x0 11) (ho : Ok 194 o 40001) : CtW l g 9 yL_fire cL_fire 4 (some .int) [(0, 9, 12, 19), (0, 9, 15, 106)] 3 18 [.ref (gb g + x0), .int a1, .ref (gb g + o)] (mkS σ R L) (fun w σ' => w = some (.int 2) ∧ σ' = mkS σ1 R L) := by
  refine met_ofWH (cc := cL_fire) (maxL := 4) (ret := (some .int)) (hh := [(0, 9, 12, 19), (0, 9, 15, 106)]) (by decide) rfl ?_
  intro p e s m args below meth c s₁ B hml hT hv
  obtain ⟨rfl, hE, hLo, hWd⟩ := hv
  have hr : meth.sig.returnType = (some .int) := B.returns
  have C : Cx l g p s m meth c cL_fire 4 RL := ⟨B.exec, B.bytes, hml, findClass_of_methodNamed B.named, hE, hLo, B.notSynchronized⟩
  have S : S2 g s σ R L s.heap [] := ⟨hWd, va_S.rf⟩
  have hx := C.1
  have hb := C.2.1
  have hl := lv_entry ([.ref (gb g + x0), .int a1, .ref (gb g + o)]) (n := 4) (Nat.le_of_ble_eq_true rfl)
  rw [lg_entry_eq]
  generalize (lg_sl ([.ref (gb g + x0), .int a1, .ref (gb g + o)]) ++ List.replicate (4 - (lg_sl ([.ref (gb g + x0), .int a1, .ref (gb g + o)])).length) Slot.unset).toArray = ls at hl ⊢
  have hl : lv_has ls 4 [(0, .ref (gb g + x0)), (1, .int a1), (2, .ref (gb g + o))] := hl
  generalize hH : s.heap = H at S ⊢
  generalize hlc : ([] : List Loc) = locs at S ⊢
  refine lv_aload_n hx hb dL_fire_0 rfl (lv_at hl 2 rfl) ?_
  refine lv_iconst (v := (0 : Int32)) hx hb dL_fire_1 (by decide) ?_
  refine lv_aload_n hx hb dL_fire_2 rfl (lv_at hl 0 rfl) ?_
  refine lv_iload_n hx hb dL_fire_3 rfl (lv_at hl 1 rfl) ?_
  refine v_callVC C S KX11 hx0 (ok_X11_fire (L := L) hm hSh hx0) ⟨cd_X11_fire, ni_RX11, ml_RL_111, in_X11_fire, sl_X11_fire⟩ ⟨by decide, by decide⟩ rfl (rm_ok (by decide) (by decide)) hl.1 rfl (Nat.le_of_ble_eq_true rfl) ⟨by decide, by decide⟩ dL_fire_4 (fun v σ' H locs hp S => ?_) (fun E σ' H locs q ce hp S hcell hcv hcl => ?_)
  · obtain ⟨k, hk, -⟩ := hp
    cases hk
  · obtain ⟨k, hk, rfl, rfl⟩ := hp
    cases hk
    have S : S2 g s σ1 R L H locs := S
    refine x_catch (E := "java/lang/IllegalStateException") C [⟨0, 9, 12, 19⟩] ⟨0, 9, 15, 106⟩ [] (hT.trans rfl) (fun z hz => by rw [List.mem_singleton.mp hz]; exact ⟨by decide, "java/lang/IndexOutOfBoundsException", cl_RL_19, by decide⟩) (by decide) (by decide) cl_RL_106 ca_2 hcell hcv hcl ?_
    refine lv_astore_n (lv' := [(3, .ref q), (0, .ref (gb g + x0)), (1, .int a1), (2, .ref (gb g + o))]) hx hb dL_fire_15 rfl hl (by decide) rfl (fun ls hl => ?_)
    refine lv_iconst (v := (2 : Int32)) hx hb dL_fire_16 (by decide) ?_
    exact v_iret C S hr ⟨rfl, rfl⟩ dL_fire_17
set_option maxHeartbeats 4000000 in
set_option maxRecDepth 100000 in
theorem h_retime_ret {l : Launch} {g : GL} {R : Nat → Nat → Nat} {L : Nat → Nat → Int64} {N : Nat} {σ σ1 : SI} {x0 o : Nat} {a1 : Int32} {a2 : Int32} {v : Int32} (hm : f_X11_retime N R σ x0 a1 a2 = some (.inl v, σ1)) (hSh : ShR R) (hx0 : Ok 194 x0 11) (ho : Ok 194 o 40001) : CtW l g 9 yL_retime cL_retime 5 (some .int) [(0, 10, 13, 19), (0, 10, 17, 13), (0, 10, 21, 106)] 3 18 [.ref (gb g + x0), .int a1, .int a2, .ref (gb g + o)] (mkS σ R L) (fun w σ' => w = some (.int 0) ∧ σ' = uL (mkS σ1 R L) o 0 v.toInt64) := by
  refine met_ofWH (cc := cL_retime) (maxL := 5) (ret := (some .int)) (hh := [(0, 10, 13, 19), (0, 10, 17, 13), (0, 10, 21, 106)]) (by decide) rfl ?_
  intro p e s m args below meth c s₁ B hml hT hv
  obtain ⟨rfl, hE, hLo, hWd⟩ := hv
  have hr : meth.sig.returnType = (some .int) := B.returns
  have C : Cx l g p s m meth c cL_retime 5 RL := ⟨B.exec, B.bytes, hml, findClass_of_methodNamed B.named, hE, hLo, B.notSynchronized⟩
  have S : S2 g s σ R L s.heap [] := ⟨hWd, va_S.rf⟩
  have hx := C.1
  have hb := C.2.1
  have hl := lv_entry ([.ref (gb g + x0), .int a1, .int a2, .ref (gb g + o)]) (n := 5) (Nat.le_of_ble_eq_true rfl)
  rw [lg_entry_eq]
  generalize (lg_sl ([.ref (gb g + x0), .int a1, .int a2, .ref (gb g + o)]) ++ List.replicate (5 - (lg_sl ([.ref (gb g + x0), .int a1, .int a2, .ref (gb g + o)])).length) Slot.unset).toArray = ls at hl ⊢
  have hl : lv_has ls 5 [(0, .ref (gb g + x0)), (1, .int a1), (2, .int a2), (3, .ref (gb g + o))] := hl
  generalize hH : s.heap = H at S ⊢
  generalize hlc : ([] : List Loc) = locs at S ⊢
  refine lv_aload_n hx hb dL_retime_0 rfl (lv_at hl 3 rfl) ?_
  refine lv_iconst (v := (0 : Int32)) hx hb dL_retime_1 (by decide) ?_
  refine lv_aload_n hx hb dL_retime_2 rfl (lv_at hl 0 rfl) ?_
  refine lv_iload_n hx hb dL_retime_3 rfl (lv_at hl 1 rfl) ?_
  refine lv_iload_n hx hb dL_retime_4 rfl (lv_at hl 2 rfl) ?_
  refine v_callVC C S KX11 hx0 (ok_X11_retime (L := L) hm hSh hx0) ⟨cd_X11_retime, ni_RX11, ml_RL_114, in_X11_retime, sl_X11_retime⟩ ⟨by decide, by decide⟩ rfl (rm_ok (by decide) (by decide)) hl.1 rfl (Nat.le_of_ble_eq_true rfl) ⟨by decide, by decide⟩ dL_retime_5 (fun v σ' H locs hp S => ?_) (fun E σ' H locs q ce hp S hcell hcv hcl => ?_)
  · obtain ⟨_, hk, rfl, rfl⟩ := hp
    cases hk
    have S : S2 g s σ1 R L H locs := S
    refine lv_i2l hx hb dL_retime_8 rfl ?_
    refine x_last C S ho dL_retime_9 (fun H locs S => ?_)
    refine lv_goto (tgt := 25) hx hb dL_retime_10 (by decide) ?_
    refine lv_iconst (v := (0 : Int32)) hx hb dL_retime_25 (by decide) ?_
    exact v_iret C S hr ⟨rfl, rfl⟩ dL_retime_26
  · obtain ⟨k, hk, -⟩ := hp
    cases hk
set_option maxHeartbeats 4000000 in
set_option maxRecDepth 100000 in
theorem h_retime_x0 {l : Launch} {g : GL} {R : Nat → Nat → Nat} {L : Nat → Nat → Int64} {N : Nat} {σ σ1 : SI} {x0 o : Nat} {a1 : Int32} {a2 : Int32} (hm : f_X11_retime N R σ x0 a1 a2 = some (.inr 0, σ1)) (hSh : ShR R) (hx0 : Ok 194 x0 11) (ho : Ok 194 o 40001) : CtW l g 9 yL_retime cL_retime 5 (some .int) [(0, 10, 13, 19), (0, 10, 17, 13), (0, 10, 21, 106)] 3 18 [.ref (gb g + x0), .int a1, .int a2, .ref (gb g + o)] (mkS σ R L) (fun w σ' => w = some (.int 1) ∧ σ' = mkS σ1 R L) := by
  refine met_ofWH (cc := cL_retime) (maxL := 5) (ret := (some .int)) (hh := [(0, 10, 13, 19), (0, 10, 17, 13), (0, 10, 21, 106)]) (by decide) rfl ?_
  intro p e s m args below meth c s₁ B hml hT hv
  obtain ⟨rfl, hE, hLo, hWd⟩ := hv
  have hr : meth.sig.returnType = (some .int) := B.returns
  have C : Cx l g p s m meth c cL_retime 5 RL := ⟨B.exec, B.bytes, hml, findClass_of_methodNamed B.named, hE, hLo, B.notSynchronized⟩
  have S : S2 g s σ R L s.heap [] := ⟨hWd, va_S.rf⟩
  have hx := C.1
  have hb := C.2.1
  have hl := lv_entry ([.ref (gb g + x0), .int a1, .int a2, .ref (gb g + o)]) (n := 5) (Nat.le_of_ble_eq_true rfl)
  rw [lg_entry_eq]
  generalize (lg_sl ([.ref (gb g + x0), .int a1, .int a2, .ref (gb g + o)]) ++ List.replicate (5 - (lg_sl ([.ref (gb g + x0), .int a1, .int a2, .ref (gb g + o)])).length) Slot.unset).toArray = ls at hl ⊢
  have hl : lv_has ls 5 [(0, .ref (gb g + x0)), (1, .int a1), (2, .int a2), (3, .ref (gb g + o))] := hl
  generalize hH : s.heap = H at S ⊢
  generalize hlc : ([] : List Loc) = locs at S ⊢
  refine lv_aload_n hx hb dL_retime_0 rfl (lv_at hl 3 rfl) ?_
  refine lv_iconst (v := (0 : Int32)) hx hb dL_retime_1 (by decide) ?_
  refine lv_aload_n hx hb dL_retime_2 rfl (lv_at hl 0 rfl) ?_
  refine lv_iload_n hx hb dL_retime_3 rfl (lv_at hl 1 rfl) ?_
  refine lv_iload_n hx hb dL_retime_4 rfl (lv_at hl 2 rfl) ?_
  refine v_callVC C S KX11 hx0 (ok_X11_retime (L := L) hm hSh hx0) ⟨cd_X11_retime, ni_RX11, ml_RL_114, in_X11_retime, sl_X11_retime⟩ ⟨by decide, by decide⟩ rfl (rm_ok (by decide) (by decide)) hl.1 rfl (Nat.le_of_ble_eq_true rfl) ⟨by decide, by decide⟩ dL_retime_5 (fun v σ' H locs hp S => ?_) (fun E σ' H locs q ce hp S hcell hcv hcl => ?_)
  · obtain ⟨k, hk, -⟩ := hp
    cases hk
  · obtain ⟨k, hk, rfl, rfl⟩ := hp
    cases hk
    have S : S2 g s σ1 R L H locs := S
    refine x_catch (E := "java/lang/IndexOutOfBoundsException") C [] ⟨0, 10, 13, 19⟩ [⟨0, 10, 17, 13⟩, ⟨0, 10, 21, 106⟩] (hT.trans rfl) (fun z hz => by cases hz) (by decide) (by decide) cl_RL_19 ca_0 hcell hcv hcl ?_
    refine lv_astore (lv' := [(4, .ref q), (0, .ref (gb g + x0)), (1, .int a1), (2, .int a2), (3, .ref (gb g + o))]) hx hb dL_retime_13 hl (by decide) rfl (fun ls hl => ?_)
    refine lv_iconst (v := (1 : Int32)) hx hb dL_retime_15 (by decide) ?_
    exact v_iret C S hr ⟨rfl, rfl⟩ dL_retime_16
set_option maxHeartbeats 4000000 in
set_option maxRecDepth 100000 in
theorem h_retime_x1 {l : Launch} {g : GL} {R : Nat → Nat → Nat} {L : Nat → Nat → Int64} {N : Nat} {σ σ1 : SI} {x0 o : Nat} {a1 : Int32} {a2 : Int32} (hm : f_X11_retime N R σ x0 a1 a2 = some (.inr 1, σ1)) (hSh : ShR R) (hx0 : Ok 194 x0 11) (ho : Ok 194 o 40001) : CtW l g 9 yL_retime cL_retime 5 (some .int) [(0, 10, 13, 19), (0, 10, 17, 13), (0, 10, 21, 106)] 3 18 [.ref (gb g + x0), .int a1, .int a2, .ref (gb g + o)] (mkS σ R L) (fun w σ' => w = some (.int 2) ∧ σ' = mkS σ1 R L) := by
  refine met_ofWH (cc := cL_retime) (maxL := 5) (ret := (some .int)) (hh := [(0, 10, 13, 19), (0, 10, 17, 13), (0, 10, 21, 106)]) (by decide) rfl ?_
  intro p e s m args below meth c s₁ B hml hT hv
  obtain ⟨rfl, hE, hLo, hWd⟩ := hv
  have hr : meth.sig.returnType = (some .int) := B.returns
  have C : Cx l g p s m meth c cL_retime 5 RL := ⟨B.exec, B.bytes, hml, findClass_of_methodNamed B.named, hE, hLo, B.notSynchronized⟩
  have S : S2 g s σ R L s.heap [] := ⟨hWd, va_S.rf⟩
  have hx := C.1
  have hb := C.2.1
  have hl := lv_entry ([.ref (gb g + x0), .int a1, .int a2, .ref (gb g + o)]) (n := 5) (Nat.le_of_ble_eq_true rfl)
  rw [lg_entry_eq]
  generalize (lg_sl ([.ref (gb g + x0), .int a1, .int a2, .ref (gb g + o)]) ++ List.replicate (5 - (lg_sl ([.ref (gb g + x0), .int a1, .int a2, .ref (gb g + o)])).length) Slot.unset).toArray = ls at hl ⊢
  have hl : lv_has ls 5 [(0, .ref (gb g + x0)), (1, .int a1), (2, .int a2), (3, .ref (gb g + o))] := hl
  generalize hH : s.heap = H at S ⊢
  generalize hlc : ([] : List Loc) = locs at S ⊢
  refine lv_aload_n hx hb dL_retime_0 rfl (lv_at hl 3 rfl) ?_
  refine lv_iconst (v := (0 : Int32)) hx hb dL_retime_1 (by decide) ?_
  refine lv_aload_n hx hb dL_retime_2 rfl (lv_at hl 0 rfl) ?_
  refine lv_iload_n hx hb dL_retime_3 rfl (lv_at hl 1 rfl) ?_
  refine lv_iload_n hx hb dL_retime_4 rfl (lv_at hl 2 rfl) ?_
  refine v_callVC C S KX11 hx0 (ok_X11_retime (L := L) hm hSh hx0) ⟨cd_X11_retime, ni_RX11, ml_RL_114, in_X11_retime, sl_X11_retime⟩ ⟨by decide, by decide⟩ rfl (rm_ok (by decide) (by decide)) hl.1 rfl (Nat.le_of_ble_eq_true rfl) ⟨by decide, by decide⟩ dL_retime_5 (fun v σ' H locs hp S => ?_) (fun E σ' H locs q ce hp S hcell hcv hcl => ?_)
  · obtain ⟨k, hk, -⟩ := hp
    cases hk
  · obtain ⟨k, hk, rfl, rfl⟩ := hp
    cases hk
    have S : S2 g s σ1 R L H locs := S
    refine x_catch (E := "java/lang/IllegalArgumentException") C [⟨0, 10, 13, 19⟩] ⟨0, 10, 17, 13⟩ [⟨0, 10, 21, 106⟩] (hT.trans rfl) (fun z hz => by rw [List.mem_singleton.mp hz]; exact ⟨by decide, "java/lang/IndexOutOfBoundsException", cl_RL_19, by decide⟩) (by decide) (by decide) cl_RL_13 ca_1 hcell hcv hcl ?_
    refine lv_astore (lv' := [(4, .ref q), (0, .ref (gb g + x0)), (1, .int a1), (2, .int a2), (3, .ref (gb g + o))]) hx hb dL_retime_17 hl (by decide) rfl (fun ls hl => ?_)
    refine lv_iconst (v := (2 : Int32)) hx hb dL_retime_19 (by decide) ?_
    exact v_iret C S hr ⟨rfl, rfl⟩ dL_retime_20
set_option maxHeartbeats 4000000 in
set_option maxRecDepth 100000 in
theorem h_retime_x2 {l : Launch} {g : GL} {R : Nat → Nat → Nat} {L : Nat → Nat → Int64} {N : Nat} {σ σ1 : SI} {x0 o : Nat} {a1 : Int32} {a2 : Int32} (hm : f_X11_retime N R σ x0 a1 a2 = some (.inr 2, σ1)) (hSh : ShR R) (hx0 : Ok 194 x0 11) (ho : Ok 194 o 40001) : CtW l g 9 yL_retime cL_retime 5 (some .int) [(0, 10, 13, 19), (0, 10, 17, 13), (0, 10, 21, 106)] 3 18 [.ref (gb g + x0), .int a1, .int a2, .ref (gb g + o)] (mkS σ R L) (fun w σ' => w = some (.int 3) ∧ σ' = mkS σ1 R L) := by
  refine met_ofWH (cc := cL_retime) (maxL := 5) (ret := (some .int)) (hh := [(0, 10, 13, 19), (0, 10, 17, 13), (0, 10, 21, 106)]) (by decide) rfl ?_
  intro p e s m args below meth c s₁ B hml hT hv
  obtain ⟨rfl, hE, hLo, hWd⟩ := hv
  have hr : meth.sig.returnType = (some .int) := B.returns
  have C : Cx l g p s m meth c cL_retime 5 RL := ⟨B.exec, B.bytes, hml, findClass_of_methodNamed B.named, hE, hLo, B.notSynchronized⟩
  have S : S2 g s σ R L s.heap [] := ⟨hWd, va_S.rf⟩
  have hx := C.1
  have hb := C.2.1
  have hl := lv_entry ([.ref (gb g + x0), .int a1, .int a2, .ref (gb g + o)]) (n := 5) (Nat.le_of_ble_eq_true rfl)
  rw [lg_entry_eq]
  generalize (lg_sl ([.ref (gb g + x0), .int a1, .int a2, .ref (gb g + o)]) ++ List.replicate (5 - (lg_sl ([.ref (gb g + x0), .int a1, .int a2, .ref (gb g + o)])).length) Slot.unset).toArray = ls at hl ⊢
  have hl : lv_has ls 5 [(0, .ref (gb g + x0)), (1, .int a1), (2, .int a2), (3, .ref (gb g + o))] := hl
  generalize hH : s.heap = H at S ⊢
  generalize hlc : ([] : List Loc) = locs at S ⊢
  refine lv_aload_n hx hb dL_retime_0 rfl (lv_at hl 3 rfl) ?_
  refine lv_iconst (v := (0 : Int32)) hx hb dL_retime_1 (by decide) ?_
  refine lv_aload_n hx hb dL_retime_2 rfl (lv_at hl 0 rfl) ?_
  refine lv_iload_n hx hb dL_retime_3 rfl (lv_at hl 1 rfl) ?_
  refine lv_iload_n hx hb dL_retime_4 rfl (lv_at hl 2 rfl) ?_
  refine v_callVC C S KX11 hx0 (ok_X11_retime (L := L) hm hSh hx0) ⟨cd_X11_retime, ni_RX11, ml_RL_114, in_X11_retime, sl_X11_retime⟩ ⟨by decide, by decide⟩ rfl (rm_ok (by decide) (by decide)) hl.1 rfl (Nat.le_of_ble_eq_true rfl) ⟨by decide, by decide⟩ dL_retime_5 (fun v σ' H locs hp S => ?_) (fun E σ' H locs q ce hp S hcell hcv hcl => ?_)
  · obtain ⟨k, hk, -⟩ := hp
    cases hk
  · obtain ⟨k, hk, rfl, rfl⟩ := hp
    cases hk
    have S : S2 g s σ1 R L H locs := S
    refine x_catch (E := "java/lang/IllegalStateException") C [⟨0, 10, 13, 19⟩, ⟨0, 10, 17, 13⟩] ⟨0, 10, 21, 106⟩ [] (hT.trans rfl) (fun z hz => by rcases List.mem_cons.mp hz with hz | hz; (rw [hz]; exact ⟨by decide, "java/lang/IndexOutOfBoundsException", cl_RL_19, by decide⟩); (rw [List.mem_singleton.mp hz]; exact ⟨by decide, "java/lang/IllegalArgumentException", cl_RL_13, by decide⟩)) (by decide) (by decide) cl_RL_106 ca_2 hcell hcv hcl ?_
    refine lv_astore (lv' := [(4, .ref q), (0, .ref (gb g + x0)), (1, .int a1), (2, .int a2), (3, .ref (gb g + o))]) hx hb dL_retime_21 hl (by decide) rfl (fun ls hl => ?_)
    refine lv_iconst (v := (3 : Int32)) hx hb dL_retime_23 (by decide) ?_
    exact v_iret C S hr ⟨rfl, rfl⟩ dL_retime_24
set_option maxHeartbeats 4000000 in
set_option maxRecDepth 100000 in
theorem h_closedMinutes_ret {l : Launch} {g : GL} {R : Nat → Nat → Nat} {L : Nat → Nat → Int64} {N : Nat} {σ σ1 : SI} {x0 o : Nat} {a1 : Int32} {v : Int32} (hm : f_X11_closedMinutes N R σ x0 a1 = some (.inl v, σ1)) (hSh : ShR R) (hx0 : Ok 194 x0 11) (ho : Ok 194 o 40001) : CtW l g 8 yL_closedMinutes cL_closedMinutes 4 (some .int) [(0, 9, 12, 19)] 1 6 [.ref (gb g + x0), .int a1, .ref (gb g + o)] (mkS σ R L) (fun w σ' => w = some (.int 0) ∧ σ' = uL (mkS σ1 R L) o 0 v.toInt64) := by
  refine met_ofWH (cc := cL_closedMinutes) (maxL := 4) (ret := (some .int)) (hh := [(0, 9, 12, 19)]) (by decide) rfl ?_
  intro p e s m args below meth c s₁ B hml hT hv
  obtain ⟨rfl, hE, hLo, hWd⟩ := hv
  have hr : meth.sig.returnType = (some .int) := B.returns
  have C : Cx l g p s m meth c cL_closedMinutes 4 RL := ⟨B.exec, B.bytes, hml, findClass_of_methodNamed B.named, hE, hLo, B.notSynchronized⟩
  have S : S2 g s σ R L s.heap [] := ⟨hWd, va_S.rf⟩
  have hx := C.1
  have hb := C.2.1
  have hl := lv_entry ([.ref (gb g + x0), .int a1, .ref (gb g + o)]) (n := 4) (Nat.le_of_ble_eq_true rfl)
  rw [lg_entry_eq]
  generalize (lg_sl ([.ref (gb g + x0), .int a1, .ref (gb g + o)]) ++ List.replicate (4 - (lg_sl ([.ref (gb g + x0), .int a1, .ref (gb g + o)])).length) Slot.unset).toArray = ls at hl ⊢
  have hl : lv_has ls 4 [(0, .ref (gb g + x0)), (1, .int a1), (2, .ref (gb g + o))] := hl
  generalize hH : s.heap = H at S ⊢
  generalize hlc : ([] : List Loc) = locs at S ⊢
  refine lv_aload_n hx hb dL_closedMinutes_0 rfl (lv_at hl 2 rfl) ?_
  refine lv_iconst (v := (0 : Int32)) hx hb dL_closedMinutes_1 (by decide) ?_
  refine lv_aload_n hx hb dL_closedMinutes_2 rfl (lv_at hl 0 rfl) ?_
  refine lv_iload_n hx hb dL_closedMinutes_3 rfl (lv_at hl 1 rfl) ?_
  refine v_callVC C S KX11 hx0 (ok_X11_closedMinutes (L := L) hm hSh hx0) ⟨cd_X11_closedMinutes, ni_RX11, ml_RL_117, in_X11_closedMinutes, sl_X11_closedMinutes⟩ ⟨by decide, by decide⟩ rfl (rm_ok (by decide) (by decide)) hl.1 rfl (Nat.le_of_ble_eq_true rfl) ⟨by decide, by decide⟩ dL_closedMinutes_4 (fun v σ' H locs hp S => ?_) (fun E σ' H locs q ce hp S hcell hcv hcl => ?_)
  · obtain ⟨_, hk, rfl, rfl⟩ := hp
    cases hk
    have S : S2 g s σ1 R L H locs := S
    refine lv_i2l hx hb dL_closedMinutes_7 rfl ?_
    refine x_last C S ho dL_closedMinutes_8 (fun H locs S => ?_)
    refine lv_goto (tgt := 15) hx hb dL_closedMinutes_9 (by decide) ?_
    refine lv_iconst (v := (0 : Int32)) hx hb dL_closedMinutes_15 (by decide) ?_
    exact v_iret C S hr ⟨rfl, rfl⟩ dL_closedMinutes_16
  · obtain ⟨k, hk, -⟩ := hp
    cases hk
set_option maxHeartbeats 4000000 in
set_option maxRecDepth 100000 in
theorem h_closedMinutes_x0 {l : Launch} {g : GL} {R : Nat → Nat → Nat} {L : Nat → Nat → Int64} {N : Nat} {σ σ1 : SI} {x0 o : Nat} {a1 : Int32} (hm : f_X11_closedMinutes N R σ x0 a1 = some (.inr 0, σ1)) (hSh : ShR R) (hx0 : Ok 194 x0 11) (ho : Ok 194 o 40001) : CtW l g 8 yL_closedMinutes cL_closedMinutes 4 (some .int) [(0, 9, 12, 19)] 1 6 [.ref (gb g + x0), .int a1, .ref (gb g + o)] (mkS σ R L) (fun w σ' => w = some (.int 1) ∧ σ' = mkS σ1 R L) := by
  refine met_ofWH (cc := cL_closedMinutes) (maxL := 4) (ret := (some .int)) (hh := [(0, 9, 12, 19)]) (by decide) rfl ?_
  intro p e s m args below meth c s₁ B hml hT hv
  obtain ⟨rfl, hE, hLo, hWd⟩ := hv
  have hr : meth.sig.returnType = (some .int) := B.returns
  have C : Cx l g p s m meth c cL_closedMinutes 4 RL := ⟨B.exec, B.bytes, hml, findClass_of_methodNamed B.named, hE, hLo, B.notSynchronized⟩
  have S : S2 g s σ R L s.heap [] := ⟨hWd, va_S.rf⟩
  have hx := C.1
  have hb := C.2.1
  have hl := lv_entry ([.ref (gb g + x0), .int a1, .ref (gb g + o)]) (n := 4) (Nat.le_of_ble_eq_true rfl)
  rw [lg_entry_eq]
  generalize (lg_sl ([.ref (gb g + x0), .int a1, .ref (gb g + o)]) ++ List.replicate (4 - (lg_sl ([.ref (gb g + x0), .int a1, .ref (gb g + o)])).length) Slot.unset).toArray = ls at hl ⊢
  have hl : lv_has ls 4 [(0, .ref (gb g + x0)), (1, .int a1), (2, .ref (gb g + o))] := hl
  generalize hH : s.heap = H at S ⊢
  generalize hlc : ([] : List Loc) = locs at S ⊢
  refine lv_aload_n hx hb dL_closedMinutes_0 rfl (lv_at hl 2 rfl) ?_
  refine lv_iconst (v := (0 : Int32)) hx hb dL_closedMinutes_1 (by decide) ?_
  refine lv_aload_n hx hb dL_closedMinutes_2 rfl (lv_at hl 0 rfl) ?_
  refine lv_iload_n hx hb dL_closedMinutes_3 rfl (lv_at hl 1 rfl) ?_
  refine v_callVC C S KX11 hx0 (ok_X11_closedMinutes (L := L) hm hSh hx0) ⟨cd_X11_closedMinutes, ni_RX11, ml_RL_117, in_X11_closedMinutes, sl_X11_closedMinutes⟩ ⟨by decide, by decide⟩ rfl (rm_ok (by decide) (by decide)) hl.1 rfl (Nat.le_of_ble_eq_true rfl) ⟨by decide, by decide⟩ dL_closedMinutes_4 (fun v σ' H locs hp S => ?_) (fun E σ' H locs q ce hp S hcell hcv hcl => ?_)
  · obtain ⟨k, hk, -⟩ := hp
    cases hk
  · obtain ⟨k, hk, rfl, rfl⟩ := hp
    cases hk
    have S : S2 g s σ1 R L H locs := S
    refine x_catch (E := "java/lang/IndexOutOfBoundsException") C [] ⟨0, 9, 12, 19⟩ [] (hT.trans rfl) (fun z hz => by cases hz) (by decide) (by decide) cl_RL_19 ca_0 hcell hcv hcl ?_
    refine lv_astore_n (lv' := [(3, .ref q), (0, .ref (gb g + x0)), (1, .int a1), (2, .ref (gb g + o))]) hx hb dL_closedMinutes_12 rfl hl (by decide) rfl (fun ls hl => ?_)
    refine lv_iconst (v := (1 : Int32)) hx hb dL_closedMinutes_13 (by decide) ?_
    exact v_iret C S hr ⟨rfl, rfl⟩ dL_closedMinutes_14
set_option maxHeartbeats 4000000 in
set_option maxRecDepth 100000 in
theorem h_isClosed_ret {l : Launch} {g : GL} {R : Nat → Nat → Nat} {L : Nat → Nat → Int64} {N : Nat} {σ σ1 : SI} {x0 o : Nat} {a1 : Int32} {a2 : Int32} {v : Int32} (hm : f_X11_isClosed N R σ x0 a1 a2 = some (.inl v, σ1)) (hSh : ShR R) (hx0 : Ok 194 x0 11) (ho : Ok 194 o 40001) : CtW l g 8 yL_isClosed cL_isClosed 5 (some .int) [(0, 17, 20, 19)] 1 6 [.ref (gb g + x0), .int a1, .int a2, .ref (gb g + o)] (mkS σ R L) (fun w σ' => w = some (.int 0) ∧ σ' = uL (mkS σ1 R L) o 0 (if v = 0 then 0 else 1 : Int64)) := by
  refine met_ofWH (cc := cL_isClosed) (maxL := 5) (ret := (some .int)) (hh := [(0, 17, 20, 19)]) (by decide) rfl ?_
  intro p e s m args below meth c s₁ B hml hT hv
  obtain ⟨rfl, hE, hLo, hWd⟩ := hv
  have hr : meth.sig.returnType = (some .int) := B.returns
  have C : Cx l g p s m meth c cL_isClosed 5 RL := ⟨B.exec, B.bytes, hml, findClass_of_methodNamed B.named, hE, hLo, B.notSynchronized⟩
  have S : S2 g s σ R L s.heap [] := ⟨hWd, va_S.rf⟩
  have hx := C.1
  have hb := C.2.1
  have hl := lv_entry ([.ref (gb g + x0), .int a1, .int a2, .ref (gb g + o)]) (n := 5) (Nat.le_of_ble_eq_true rfl)
  rw [lg_entry_eq]
  generalize (lg_sl ([.ref (gb g + x0), .int a1, .int a2, .ref (gb g + o)]) ++ List.replicate (5 - (lg_sl ([.ref (gb g + x0), .int a1, .int a2, .ref (gb g + o)])).length) Slot.unset).toArray = ls at hl ⊢
  have hl : lv_has ls 5 [(0, .ref (gb g + x0)), (1, .int a1), (2, .int a2), (3, .ref (gb g + o))] := hl
  generalize hH : s.heap = H at S ⊢
  generalize hlc : ([] : List Loc) = locs at S ⊢
  refine lv_aload_n hx hb dL_isClosed_0 rfl (lv_at hl 3 rfl) ?_
  refine lv_iconst (v := (0 : Int32)) hx hb dL_isClosed_1 (by decide) ?_
  refine lv_aload_n hx hb dL_isClosed_2 rfl (lv_at hl 0 rfl) ?_
  refine lv_iload_n hx hb dL_isClosed_3 rfl (lv_at hl 1 rfl) ?_
  refine lv_iload_n hx hb dL_isClosed_4 rfl (lv_at hl 2 rfl) ?_
  refine v_callVC C S KX11 hx0 (ok_X11_isClosed (L := L) hm hSh hx0) ⟨cd_X11_isClosed, ni_RX11, ml_RL_120, in_X11_isClosed, sl_X11_isClosed⟩ ⟨by decide, by decide⟩ rfl (rm_ok (by decide) (by decide)) hl.1 rfl (Nat.le_of_ble_eq_true rfl) ⟨by decide, by decide⟩ dL_isClosed_5 (fun v σ' H locs hp S => ?_) (fun E σ' H locs q ce hp S hcell hcv hcl => ?_)
  · obtain ⟨_, hk, rfl, rfl⟩ := hp
    cases hk
    have S : S2 g s σ1 R L H locs := S
    refine lv_if_eq (tgt := 15) hx hb dL_isClosed_8 (by decide) (fun c1 => ?_) (fun c1 => ?_)
    · refine lv_lconst (v := (0 : Int64)) hx hb dL_isClosed_15 (by decide) ?_
      refine x_last C S ho dL_isClosed_16 (fun H locs S => ?_)
      refine lv_goto (tgt := 24) hx hb dL_isClosed_17 (by decide) ?_
      refine lv_iconst (v := (0 : Int32)) hx hb dL_isClosed_24 (by decide) ?_
      exact v_iret C S hr ⟨rfl, by rw [if_pos c1]⟩ dL_isClosed_25
    · refine lv_lconst (v := (1 : Int64)) hx hb dL_isClosed_11 (by decide) ?_
      refine lv_goto (tgt := 16) hx hb dL_isClosed_12 (by decide) ?_
      refine x_last C S ho dL_isClosed_16 (fun H locs S => ?_)
      refine lv_goto (tgt := 24) hx hb dL_isClosed_17 (by decide) ?_
      refine lv_iconst (v := (0 : Int32)) hx hb dL_isClosed_24 (by decide) ?_
      exact v_iret C S hr ⟨rfl, by rw [if_neg c1]⟩ dL_isClosed_25
  · obtain ⟨k, hk, -⟩ := hp
    cases hk
set_option maxHeartbeats 4000000 in
set_option maxRecDepth 100000 in
theorem h_isClosed_x0 {l : Launch} {g : GL} {R : Nat → Nat → Nat} {L : Nat → Nat → Int64} {N : Nat} {σ σ1 : SI} {x0 o : Nat} {a1 : Int32} {a2 : Int32} (hm : f_X11_isClosed N R σ x0 a1 a2 = some (.inr 0, σ1)) (hSh : ShR R) (hx0 : Ok 194 x0 11) (ho : Ok 194 o 40001) : CtW l g 8 yL_isClosed cL_isClosed 5 (some .int) [(0, 17, 20, 19)] 1 6 [.ref (gb g + x0), .int a1, .int a2, .ref (gb g + o)] (mkS σ R L) (fun w σ' => w = some (.int 1) ∧ σ' = mkS σ1 R L) := by
  refine met_ofWH (cc := cL_isClosed) (maxL := 5) (ret := (some .int)) (hh := [(0, 17, 20, 19)]) (by decide) rfl ?_
  intro p e s m args below meth c s₁ B hml hT hv
  obtain ⟨rfl, hE, hLo, hWd⟩ := hv
  have hr : meth.sig.returnType = (some .int) := B.returns
  have C : Cx l g p s m meth c cL_isClosed 5 RL := ⟨B.exec, B.bytes, hml, findClass_of_methodNamed B.named, hE, hLo, B.notSynchronized⟩
  have S : S2 g s σ R L s.heap [] := ⟨hWd, va_S.rf⟩
  have hx := C.1
  have hb := C.2.1
  have hl := lv_entry ([.ref (gb g + x0), .int a1, .int a2, .ref (gb g + o)]) (n := 5) (Nat.le_of_ble_eq_true rfl)
  rw [lg_entry_eq]
  generalize (lg_sl ([.ref (gb g + x0), .int a1, .int a2, .ref (gb g + o)]) ++ List.replicate (5 - (lg_sl ([.ref (gb g + x0), .int a1, .int a2, .ref (gb g + o)])).length) Slot.unset).toArray = ls at hl ⊢
  have hl : lv_has ls 5 [(0, .ref (gb g + x0)), (1, .int a1), (2, .int a2), (3, .ref (gb g + o))] := hl
  generalize hH : s.heap = H at S ⊢
  generalize hlc : ([] : List Loc) = locs at S ⊢
  refine lv_aload_n hx hb dL_isClosed_0 rfl (lv_at hl 3 rfl) ?_
  refine lv_iconst (v := (0 : Int32)) hx hb dL_isClosed_1 (by decide) ?_
  refine lv_aload_n hx hb dL_isClosed_2 rfl (lv_at hl 0 rfl) ?_
  refine lv_iload_n hx hb dL_isClosed_3 rfl (lv_at hl 1 rfl) ?_
  refine lv_iload_n hx hb dL_isClosed_4 rfl (lv_at hl 2 rfl) ?_
  refine v_callVC C S KX11 hx0 (ok_X11_isClosed (L := L) hm hSh hx0) ⟨cd_X11_isClosed, ni_RX11, ml_RL_120, in_X11_isClosed, sl_X11_isClosed⟩ ⟨by decide, by decide⟩ rfl (rm_ok (by decide) (by decide)) hl.1 rfl (Nat.le_of_ble_eq_true rfl) ⟨by decide, by decide⟩ dL_isClosed_5 (fun v σ' H locs hp S => ?_) (fun E σ' H locs q ce hp S hcell hcv hcl => ?_)
  · obtain ⟨k, hk, -⟩ := hp
    cases hk
  · obtain ⟨k, hk, rfl, rfl⟩ := hp
    cases hk
    have S : S2 g s σ1 R L H locs := S
    refine x_catch (E := "java/lang/IndexOutOfBoundsException") C [] ⟨0, 17, 20, 19⟩ [] (hT.trans rfl) (fun z hz => by cases hz) (by decide) (by decide) cl_RL_19 ca_0 hcell hcv hcl ?_
    refine lv_astore (lv' := [(4, .ref q), (0, .ref (gb g + x0)), (1, .int a1), (2, .int a2), (3, .ref (gb g + o))]) hx hb dL_isClosed_20 hl (by decide) rfl (fun ls hl => ?_)
    refine lv_iconst (v := (1 : Int32)) hx hb dL_isClosed_22 (by decide) ?_
    exact v_iret C S hr ⟨rfl, rfl⟩ dL_isClosed_23
set_option maxHeartbeats 4000000 in
set_option maxRecDepth 100000 in
theorem h_closures_ret {l : Launch} {g : GL} {R : Nat → Nat → Nat} {L : Nat → Nat → Int64} {N : Nat} {σ σ1 : SI} {x0 o : Nat} {a1 : Int32} {v : Int32} (hm : f_X11_closures N R σ x0 a1 = some (.inl v, σ1)) (hSh : ShR R) (hx0 : Ok 194 x0 11) (ho : Ok 194 o 40001) : CtW l g 8 yL_closures cL_closures 4 (some .int) [(0, 9, 12, 19)] 1 6 [.ref (gb g + x0), .int a1, .ref (gb g + o)] (mkS σ R L) (fun w σ' => w = some (.int 0) ∧ σ' = uL (mkS σ1 R L) o 0 v.toInt64) := by
  refine met_ofWH (cc := cL_closures) (maxL := 4) (ret := (some .int)) (hh := [(0, 9, 12, 19)]) (by decide) rfl ?_
  intro p e s m args below meth c s₁ B hml hT hv
  obtain ⟨rfl, hE, hLo, hWd⟩ := hv
  have hr : meth.sig.returnType = (some .int) := B.returns
  have C : Cx l g p s m meth c cL_closures 4 RL := ⟨B.exec, B.bytes, hml, findClass_of_methodNamed B.named, hE, hLo, B.notSynchronized⟩
  have S : S2 g s σ R L s.heap [] := ⟨hWd, va_S.rf⟩
  have hx := C.1
  have hb := C.2.1
  have hl := lv_entry ([.ref (gb g + x0), .int a1, .ref (gb g + o)]) (n := 4) (Nat.le_of_ble_eq_true rfl)
  rw [lg_entry_eq]
  generalize (lg_sl ([.ref (gb g + x0), .int a1, .ref (gb g + o)]) ++ List.replicate (4 - (lg_sl ([.ref (gb g + x0), .int a1, .ref (gb g + o)])).length) Slot.unset).toArray = ls at hl ⊢
  have hl : lv_has ls 4 [(0, .ref (gb g + x0)), (1, .int a1), (2, .ref (gb g + o))] := hl
  generalize hH : s.heap = H at S ⊢
  generalize hlc : ([] : List Loc) = locs at S ⊢
  refine lv_aload_n hx hb dL_closures_0 rfl (lv_at hl 2 rfl) ?_
  refine lv_iconst (v := (0 : Int32)) hx hb dL_closures_1 (by decide) ?_
  refine lv_aload_n hx hb dL_closures_2 rfl (lv_at hl 0 rfl) ?_
  refine lv_iload_n hx hb dL_closures_3 rfl (lv_at hl 1 rfl) ?_
  refine v_callVC C S KX11 hx0 (ok_X11_closures (L := L) hm hSh hx0) ⟨cd_X11_closures, ni_RX11, ml_RL_123, in_X11_closures, sl_X11_closures⟩ ⟨by decide, by decide⟩ rfl (rm_ok (by decide) (by decide)) hl.1 rfl (Nat.le_of_ble_eq_true rfl) ⟨by decide, by decide⟩ dL_closures_4 (fun v σ' H locs hp S => ?_) (fun E σ' H locs q ce hp S hcell hcv hcl => ?_)
  · obtain ⟨_, hk, rfl, rfl⟩ := hp
    cases hk
    have S : S2 g s σ1 R L H locs := S
    refine lv_i2l hx hb dL_closures_7 rfl ?_
    refine x_last C S ho dL_closures_8 (fun H locs S => ?_)
    refine lv_goto (tgt := 15) hx hb dL_closures_9 (by decide) ?_
    refine lv_iconst (v := (0 : Int32)) hx hb dL_closures_15 (by decide) ?_
    exact v_iret C S hr ⟨rfl, rfl⟩ dL_closures_16
  · obtain ⟨k, hk, -⟩ := hp
    cases hk
set_option maxHeartbeats 4000000 in
set_option maxRecDepth 100000 in
theorem h_closures_x0 {l : Launch} {g : GL} {R : Nat → Nat → Nat} {L : Nat → Nat → Int64} {N : Nat} {σ σ1 : SI} {x0 o : Nat} {a1 : Int32} (hm : f_X11_closures N R σ x0 a1 = some (.inr 0, σ1)) (hSh : ShR R) (hx0 : Ok 194 x0 11) (ho : Ok 194 o 40001) : CtW l g 8 yL_closures cL_closures 4 (some .int) [(0, 9, 12, 19)] 1 6 [.ref (gb g + x0), .int a1, .ref (gb g + o)] (mkS σ R L) (fun w σ' => w = some (.int 1) ∧ σ' = mkS σ1 R L) := by
  refine met_ofWH (cc := cL_closures) (maxL := 4) (ret := (some .int)) (hh := [(0, 9, 12, 19)]) (by decide) rfl ?_
  intro p e s m args below meth c s₁ B hml hT hv
  obtain ⟨rfl, hE, hLo, hWd⟩ := hv
  have hr : meth.sig.returnType = (some .int) := B.returns
  have C : Cx l g p s m meth c cL_closures 4 RL := ⟨B.exec, B.bytes, hml, findClass_of_methodNamed B.named, hE, hLo, B.notSynchronized⟩
  have S : S2 g s σ R L s.heap [] := ⟨hWd, va_S.rf⟩
  have hx := C.1
  have hb := C.2.1
  have hl := lv_entry ([.ref (gb g + x0), .int a1, .ref (gb g + o)]) (n := 4) (Nat.le_of_ble_eq_true rfl)
  rw [lg_entry_eq]
  generalize (lg_sl ([.ref (gb g + x0), .int a1, .ref (gb g + o)]) ++ List.replicate (4 - (lg_sl ([.ref (gb g + x0), .int a1, .ref (gb g + o)])).length) Slot.unset).toArray = ls at hl ⊢
  have hl : lv_has ls 4 [(0, .ref (gb g + x0)), (1, .int a1), (2, .ref (gb g + o))] := hl
  generalize hH : s.heap = H at S ⊢
  generalize hlc : ([] : List Loc) = locs at S ⊢
  refine lv_aload_n hx hb dL_closures_0 rfl (lv_at hl 2 rfl) ?_
  refine lv_iconst (v := (0 : Int32)) hx hb dL_closures_1 (by decide) ?_
  refine lv_aload_n hx hb dL_closures_2 rfl (lv_at hl 0 rfl) ?_
  refine lv_iload_n hx hb dL_closures_3 rfl (lv_at hl 1 rfl) ?_
  refine v_callVC C S KX11 hx0 (ok_X11_closures (L := L) hm hSh hx0) ⟨cd_X11_closures, ni_RX11, ml_RL_123, in_X11_closures, sl_X11_closures⟩ ⟨by decide, by decide⟩ rfl (rm_ok (by decide) (by decide)) hl.1 rfl (Nat.le_of_ble_eq_true rfl) ⟨by decide, by decide⟩ dL_closures_4 (fun v σ' H locs hp S => ?_) (fun E σ' H locs q ce hp S hcell hcv hcl => ?_)
  · obtain ⟨k, hk, -⟩ := hp
    cases hk
  · obtain ⟨k, hk, rfl, rfl⟩ := hp
    cases hk
    have S : S2 g s σ1 R L H locs := S
    refine x_catch (E := "java/lang/IndexOutOfBoundsException") C [] ⟨0, 9, 12, 19⟩ [] (hT.trans rfl) (fun z hz => by cases hz) (by decide) (by decide) cl_RL_19 ca_0 hcell hcv hcl ?_
    refine lv_astore_n (lv' := [(3, .ref q), (0, .ref (gb g + x0)), (1, .int a1), (2, .ref (gb g + o))]) hx hb dL_closures_12 rfl hl (by decide) rfl (fun ls hl => ?_)
    refine lv_iconst (v := (1 : Int32)) hx hb dL_closures_13 (by decide) ?_
    exact v_iret C S hr ⟨rfl, rfl⟩ dL_closures_14
set_option maxHeartbeats 4000000 in
set_option maxRecDepth 100000 in
theorem h_closureStart_ret {l : Launch} {g : GL} {R : Nat → Nat → Nat} {L : Nat → Nat → Int64} {N : Nat} {σ σ1 : SI} {x0 o : Nat} {a1 : Int32} {a2 : Int32} {v : Int32} (hm : f_X11_closureStart N R σ x0 a1 a2 = some (.inl v, σ1)) (hSh : ShR R) (hx0 : Ok 194 x0 11) (ho : Ok 194 o 40001) : CtW l g 8 yL_closureStart cL_closureStart 5 (some .int) [(0, 10, 13, 19)] 1 6 [.ref (gb g + x0), .int a1, .int a2, .ref (gb g + o)] (mkS σ R L) (fun w σ' => w = some (.int 0) ∧ σ' = uL (mkS σ1 R L) o 0 v.toInt64) := by
  refine met_ofWH (cc := cL_closureStart) (maxL := 5) (ret := (some .int)) (hh := [(0, 10, 13, 19)]) (by decide) rfl ?_
  intro p e s m args below meth c s₁ B hml hT hv
  obtain ⟨rfl, hE, hLo, hWd⟩ := hv
  have hr : meth.sig.returnType = (some .int) := B.returns
  have C : Cx l g p s m meth c cL_closureStart 5 RL := ⟨B.exec, B.bytes, hml, findClass_of_methodNamed B.named, hE, hLo, B.notSynchronized⟩
  have S : S2 g s σ R L s.heap [] := ⟨hWd, va_S.rf⟩
  have hx := C.1
  have hb := C.2.1
  have hl := lv_entry ([.ref (gb g + x0), .int a1, .int a2, .ref (gb g + o)]) (n := 5) (Nat.le_of_ble_eq_true rfl)
  rw [lg_entry_eq]
  generalize (lg_sl ([.ref (gb g + x0), .int a1, .int a2, .ref (gb g + o)]) ++ List.replicate (5 - (lg_sl ([.ref (gb g + x0), .int a1, .int a2, .ref (gb g + o)])).length) Slot.unset).toArray = ls at hl ⊢
  have hl : lv_has ls 5 [(0, .ref (gb g + x0)), (1, .int a1), (2, .int a2), (3, .ref (gb g + o))] := hl
  generalize hH : s.heap = H at S ⊢
  generalize hlc : ([] : List Loc) = locs at S ⊢
  refine lv_aload_n hx hb dL_closureStart_0 rfl (lv_at hl 3 rfl) ?_
  refine lv_iconst (v := (0 : Int32)) hx hb dL_closureStart_1 (by decide) ?_
  refine lv_aload_n hx hb dL_closureStart_2 rfl (lv_at hl 0 rfl) ?_
  refine lv_iload_n hx hb dL_closureStart_3 rfl (lv_at hl 1 rfl) ?_
  refine lv_iload_n hx hb dL_closureStart_4 rfl (lv_at hl 2 rfl) ?_
  refine v_callVC C S KX11 hx0 (ok_X11_closureStart (L := L) hm hSh hx0) ⟨cd_X11_closureStart, ni_RX11, ml_RL_126, in_X11_closureStart, sl_X11_closureStart⟩ ⟨by decide, by decide⟩ rfl (rm_ok (by decide) (by decide)) hl.1 rfl (Nat.le_of_ble_eq_true rfl) ⟨by decide, by decide⟩ dL_closureStart_5 (fun v σ' H locs hp S => ?_) (fun E σ' H locs q ce hp S hcell hcv hcl => ?_)
  · obtain ⟨_, hk, rfl, rfl⟩ := hp
    cases hk
    have S : S2 g s σ1 R L H locs := S
    refine lv_i2l hx hb dL_closureStart_8 rfl ?_
    refine x_last C S ho dL_closureStart_9 (fun H locs S => ?_)
    refine lv_goto (tgt := 17) hx hb dL_closureStart_10 (by decide) ?_
    refine lv_iconst (v := (0 : Int32)) hx hb dL_closureStart_17 (by decide) ?_
    exact v_iret C S hr ⟨rfl, rfl⟩ dL_closureStart_18
  · obtain ⟨k, hk, -⟩ := hp
    cases hk
set_option maxHeartbeats 4000000 in
set_option maxRecDepth 100000 in
theorem h_closureStart_x0 {l : Launch} {g : GL} {R : Nat → Nat → Nat} {L : Nat → Nat → Int64} {N : Nat} {σ σ1 : SI} {x0 o : Nat} {a1 : Int32} {a2 : Int32} (hm : f_X11_closureStart N R σ x0 a1 a2 = some (.inr 0, σ1)) (hSh : ShR R) (hx0 : Ok 194 x0 11) (ho : Ok 194 o 40001) : CtW l g 8 yL_closureStart cL_closureStart 5 (some .int) [(0, 10, 13, 19)] 1 6 [.ref (gb g + x0), .int a1, .int a2, .ref (gb g + o)] (mkS σ R L) (fun w σ' => w = some (.int 1) ∧ σ' = mkS σ1 R L) := by
  refine met_ofWH (cc := cL_closureStart) (maxL := 5) (ret := (some .int)) (hh := [(0, 10, 13, 19)]) (by decide) rfl ?_
  intro p e s m args below meth c s₁ B hml hT hv
  obtain ⟨rfl, hE, hLo, hWd⟩ := hv
  have hr : meth.sig.returnType = (some .int) := B.returns
  have C : Cx l g p s m meth c cL_closureStart 5 RL := ⟨B.exec, B.bytes, hml, findClass_of_methodNamed B.named, hE, hLo, B.notSynchronized⟩
  have S : S2 g s σ R L s.heap [] := ⟨hWd, va_S.rf⟩
  have hx := C.1
  have hb := C.2.1
  have hl := lv_entry ([.ref (gb g + x0), .int a1, .int a2, .ref (gb g + o)]) (n := 5) (Nat.le_of_ble_eq_true rfl)
  rw [lg_entry_eq]
  generalize (lg_sl ([.ref (gb g + x0), .int a1, .int a2, .ref (gb g + o)]) ++ List.replicate (5 - (lg_sl ([.ref (gb g + x0), .int a1, .int a2, .ref (gb g + o)])).length) Slot.unset).toArray = ls at hl ⊢
  have hl : lv_has ls 5 [(0, .ref (gb g + x0)), (1, .int a1), (2, .int a2), (3, .ref (gb g + o))] := hl
  generalize hH : s.heap = H at S ⊢
  generalize hlc : ([] : List Loc) = locs at S ⊢
  refine lv_aload_n hx hb dL_closureStart_0 rfl (lv_at hl 3 rfl) ?_
  refine lv_iconst (v := (0 : Int32)) hx hb dL_closureStart_1 (by decide) ?_
  refine lv_aload_n hx hb dL_closureStart_2 rfl (lv_at hl 0 rfl) ?_
  refine lv_iload_n hx hb dL_closureStart_3 rfl (lv_at hl 1 rfl) ?_
  refine lv_iload_n hx hb dL_closureStart_4 rfl (lv_at hl 2 rfl) ?_
  refine v_callVC C S KX11 hx0 (ok_X11_closureStart (L := L) hm hSh hx0) ⟨cd_X11_closureStart, ni_RX11, ml_RL_126, in_X11_closureStart, sl_X11_closureStart⟩ ⟨by decide, by decide⟩ rfl (rm_ok (by decide) (by decide)) hl.1 rfl (Nat.le_of_ble_eq_true rfl) ⟨by decide, by decide⟩ dL_closureStart_5 (fun v σ' H locs hp S => ?_) (fun E σ' H locs q ce hp S hcell hcv hcl => ?_)
  · obtain ⟨k, hk, -⟩ := hp
    cases hk
  · obtain ⟨k, hk, rfl, rfl⟩ := hp
    cases hk
    have S : S2 g s σ1 R L H locs := S
    refine x_catch (E := "java/lang/IndexOutOfBoundsException") C [] ⟨0, 10, 13, 19⟩ [] (hT.trans rfl) (fun z hz => by cases hz) (by decide) (by decide) cl_RL_19 ca_0 hcell hcv hcl ?_
    refine lv_astore (lv' := [(4, .ref q), (0, .ref (gb g + x0)), (1, .int a1), (2, .int a2), (3, .ref (gb g + o))]) hx hb dL_closureStart_13 hl (by decide) rfl (fun ls hl => ?_)
    refine lv_iconst (v := (1 : Int32)) hx hb dL_closureStart_15 (by decide) ?_
    exact v_iret C S hr ⟨rfl, rfl⟩ dL_closureStart_16
set_option maxHeartbeats 4000000 in
set_option maxRecDepth 100000 in
theorem h_closureLength_ret {l : Launch} {g : GL} {R : Nat → Nat → Nat} {L : Nat → Nat → Int64} {N : Nat} {σ σ1 : SI} {x0 o : Nat} {a1 : Int32} {a2 : Int32} {v : Int32} (hm : f_X11_closureLength N R σ x0 a1 a2 = some (.inl v, σ1)) (hSh : ShR R) (hx0 : Ok 194 x0 11) (ho : Ok 194 o 40001) : CtW l g 8 yL_closureLength cL_closureLength 5 (some .int) [(0, 10, 13, 19)] 1 6 [.ref (gb g + x0), .int a1, .int a2, .ref (gb g + o)] (mkS σ R L) (fun w σ' => w = some (.int 0) ∧ σ' = uL (mkS σ1 R L) o 0 v.toInt64) := by
  refine met_ofWH (cc := cL_closureLength) (maxL := 5) (ret := (some .int)) (hh := [(0, 10, 13, 19)]) (by decide) rfl ?_
  intro p e s m args below meth c s₁ B hml hT hv
  obtain ⟨rfl, hE, hLo, hWd⟩ := hv
  have hr : meth.sig.returnType = (some .int) := B.returns
  have C : Cx l g p s m meth c cL_closureLength 5 RL := ⟨B.exec, B.bytes, hml, findClass_of_methodNamed B.named, hE, hLo, B.notSynchronized⟩
  have S : S2 g s σ R L s.heap [] := ⟨hWd, va_S.rf⟩
  have hx := C.1
  have hb := C.2.1
  have hl := lv_entry ([.ref (gb g + x0), .int a1, .int a2, .ref (gb g + o)]) (n := 5) (Nat.le_of_ble_eq_true rfl)
  rw [lg_entry_eq]
  generalize (lg_sl ([.ref (gb g + x0), .int a1, .int a2, .ref (gb g + o)]) ++ List.replicate (5 - (lg_sl ([.ref (gb g + x0), .int a1, .int a2, .ref (gb g + o)])).length) Slot.unset).toArray = ls at hl ⊢
  have hl : lv_has ls 5 [(0, .ref (gb g + x0)), (1, .int a1), (2, .int a2), (3, .ref (gb g + o))] := hl
  generalize hH : s.heap = H at S ⊢
  generalize hlc : ([] : List Loc) = locs at S ⊢
  refine lv_aload_n hx hb dL_closureLength_0 rfl (lv_at hl 3 rfl) ?_
  refine lv_iconst (v := (0 : Int32)) hx hb dL_closureLength_1 (by decide) ?_
  refine lv_aload_n hx hb dL_closureLength_2 rfl (lv_at hl 0 rfl) ?_
  refine lv_iload_n hx hb dL_closureLength_3 rfl (lv_at hl 1 rfl) ?_
  refine lv_iload_n hx hb dL_closureLength_4 rfl (lv_at hl 2 rfl) ?_
  refine v_callVC C S KX11 hx0 (ok_X11_closureLength (L := L) hm hSh hx0) ⟨cd_X11_closureLength, ni_RX11, ml_RL_129, in_X11_closureLength, sl_X11_closureLength⟩ ⟨by decide, by decide⟩ rfl (rm_ok (by decide) (by decide)) hl.1 rfl (Nat.le_of_ble_eq_true rfl) ⟨by decide, by decide⟩ dL_closureLength_5 (fun v σ' H locs hp S => ?_) (fun E σ' H locs q ce hp S hcell hcv hcl => ?_)
  · obtain ⟨_, hk, rfl, rfl⟩ := hp
    cases hk
    have S : S2 g s σ1 R L H locs := S
    refine lv_i2l hx hb dL_closureLength_8 rfl ?_
    refine x_last C S ho dL_closureLength_9 (fun H locs S => ?_)
    refine lv_goto (tgt := 17) hx hb dL_closureLength_10 (by decide) ?_
    refine lv_iconst (v := (0 : Int32)) hx hb dL_closureLength_17 (by decide) ?_
    exact v_iret C S hr ⟨rfl, rfl⟩ dL_closureLength_18
  · obtain ⟨k, hk, -⟩ := hp
    cases hk
set_option maxHeartbeats 4000000 in
set_option maxRecDepth 100000 in
theorem h_closureLength_x0 {l : Launch} {g : GL} {R : Nat → Nat → Nat} {L : Nat → Nat → Int64} {N : Nat} {σ σ1 : SI} {x0 o : Nat} {a1 : Int32} {a2 : Int32} (hm : f_X11_closureLength N R σ x0 a1 a2 = some (.inr 0, σ1)) (hSh : ShR R) (hx0 : Ok 194 x0 11) (ho : Ok 194 o 40001) : CtW l g 8 yL_closureLength cL_closureLength 5 (some .int) [(0, 10, 13, 19)] 1 6 [.ref (gb g + x0), .int a1, .int a2, .ref (gb g + o)] (mkS σ R L) (fun w σ' => w = some (.int 1) ∧ σ' = mkS σ1 R L) := by
  refine met_ofWH (cc := cL_closureLength) (maxL := 5) (ret := (some .int)) (hh := [(0, 10, 13, 19)]) (by decide) rfl ?_
  intro p e s m args below meth c s₁ B hml hT hv
  obtain ⟨rfl, hE, hLo, hWd⟩ := hv
  have hr : meth.sig.returnType = (some .int) := B.returns
  have C : Cx l g p s m meth c cL_closureLength 5 RL := ⟨B.exec, B.bytes, hml, findClass_of_methodNamed B.named, hE, hLo, B.notSynchronized⟩
  have S : S2 g s σ R L s.heap [] := ⟨hWd, va_S.rf⟩
  have hx := C.1
  have hb := C.2.1
  have hl := lv_entry ([.ref (gb g + x0), .int a1, .int a2, .ref (gb g + o)]) (n := 5) (Nat.le_of_ble_eq_true rfl)
  rw [lg_entry_eq]
  generalize (lg_sl ([.ref (gb g + x0), .int a1, .int a2, .ref (gb g + o)]) ++ List.replicate (5 - (lg_sl ([.ref (gb g + x0), .int a1, .int a2, .ref (gb g + o)])).length) Slot.unset).toArray = ls at hl ⊢
  have hl : lv_has ls 5 [(0, .ref (gb g + x0)), (1, .int a1), (2, .int a2), (3, .ref (gb g + o))] := hl
  generalize hH : s.heap = H at S ⊢
  generalize hlc : ([] : List Loc) = locs at S ⊢
  refine lv_aload_n hx hb dL_closureLength_0 rfl (lv_at hl 3 rfl) ?_
  refine lv_iconst (v := (0 : Int32)) hx hb dL_closureLength_1 (by decide) ?_
  refine lv_aload_n hx hb dL_closureLength_2 rfl (lv_at hl 0 rfl) ?_
  refine lv_iload_n hx hb dL_closureLength_3 rfl (lv_at hl 1 rfl) ?_
  refine lv_iload_n hx hb dL_closureLength_4 rfl (lv_at hl 2 rfl) ?_
  refine v_callVC C S KX11 hx0 (ok_X11_closureLength (L := L) hm hSh hx0) ⟨cd_X11_closureLength, ni_RX11, ml_RL_129, in_X11_closureLength, sl_X11_closureLength⟩ ⟨by decide, by decide⟩ rfl (rm_ok (by decide) (by decide)) hl.1 rfl (Nat.le_of_ble_eq_true rfl) ⟨by decide, by decide⟩ dL_closureLength_5 (fun v σ' H locs hp S => ?_) (fun E σ' H locs q ce hp S hcell hcv hcl => ?_)
  · obtain ⟨k, hk, -⟩ := hp
    cases hk
  · obtain ⟨k, hk, rfl, rfl⟩ := hp
    cases hk
    have S : S2 g s σ1 R L H locs := S
    refine x_catch (E := "java/lang/IndexOutOfBoundsException") C [] ⟨0, 10, 13, 19⟩ [] (hT.trans rfl) (fun z hz => by cases hz) (by decide) (by decide) cl_RL_19 ca_0 hcell hcv hcl ?_
    refine lv_astore (lv' := [(4, .ref q), (0, .ref (gb g + x0)), (1, .int a1), (2, .int a2), (3, .ref (gb g + o))]) hx hb dL_closureLength_13 hl (by decide) rfl (fun ls hl => ?_)
    refine lv_iconst (v := (1 : Int32)) hx hb dL_closureLength_15 (by decide) ?_
    exact v_iret C S hr ⟨rfl, rfl⟩ dL_closureLength_16
set_option maxHeartbeats 4000000 in
set_option maxRecDepth 100000 in
theorem h_openMinutes_ret {l : Launch} {g : GL} {R : Nat → Nat → Nat} {L : Nat → Nat → Int64} {N : Nat} {σ σ1 : SI} {x0 o : Nat} {a1 : Int32} {a2 : Int32} {a3 : Int32} {v : Int32} (hm : f_X11_openMinutes N R σ x0 a1 a2 a3 = some (.inl v, σ1)) (hSh : ShR R) (hx0 : Ok 194 x0 11) (ho : Ok 194 o 40001) : CtW l g 8 yL_openMinutes cL_openMinutes 6 (some .int) [(0, 12, 15, 19), (0, 12, 19, 13)] 3 18 [.ref (gb g + x0), .int a1, .int a2, .int a3, .ref (gb g + o)] (mkS σ R L) (fun w σ' => w = some (.int 0) ∧ σ' = uL (mkS σ1 R L) o 0 v.toInt64) := by
  refine met_ofWH (cc := cL_openMinutes) (maxL := 6) (ret := (some .int)) (hh := [(0, 12, 15, 19), (0, 12, 19, 13)]) (by decide) rfl ?_
  intro p e s m args below meth c s₁ B hml hT hv
  obtain ⟨rfl, hE, hLo, hWd⟩ := hv
  have hr : meth.sig.returnType = (some .int) := B.returns
  have C : Cx l g p s m meth c cL_openMinutes 6 RL := ⟨B.exec, B.bytes, hml, findClass_of_methodNamed B.named, hE, hLo, B.notSynchronized⟩
  have S : S2 g s σ R L s.heap [] := ⟨hWd, va_S.rf⟩
  have hx := C.1
  have hb := C.2.1
  have hl := lv_entry ([.ref (gb g + x0), .int a1, .int a2, .int a3, .ref (gb g + o)]) (n := 6) (Nat.le_of_ble_eq_true rfl)
  rw [lg_entry_eq]
  generalize (lg_sl ([.ref (gb g + x0), .int a1, .int a2, .int a3, .ref (gb g + o)]) ++ List.replicate (6 - (lg_sl ([.ref (gb g + x0), .int a1, .int a2, .int a3, .ref (gb g + o)])).length) Slot.unset).toArray = ls at hl ⊢
  have hl : lv_has ls 6 [(0, .ref (gb g + x0)), (1, .int a1), (2, .int a2), (3, .int a3), (4, .ref (gb g + o))] := hl
  generalize hH : s.heap = H at S ⊢
  generalize hlc : ([] : List Loc) = locs at S ⊢
  refine lv_aload hx hb dL_openMinutes_0 (lv_at hl 4 rfl) ?_
  refine lv_iconst (v := (0 : Int32)) hx hb dL_openMinutes_2 (by decide) ?_
  refine lv_aload_n hx hb dL_openMinutes_3 rfl (lv_at hl 0 rfl) ?_
  refine lv_iload_n hx hb dL_openMinutes_4 rfl (lv_at hl 1 rfl) ?_
  refine lv_iload_n hx hb dL_openMinutes_5 rfl (lv_at hl 2 rfl) ?_
  refine lv_iload_n hx hb dL_openMinutes_6 rfl (lv_at hl 3 rfl) ?_
  refine v_callVC C S KX11 hx0 (ok_X11_openMinutes (L := L) hm hSh hx0) ⟨cd_X11_openMinutes, ni_RX11, ml_RL_132, in_X11_openMinutes, sl_X11_openMinutes⟩ ⟨by decide, by decide⟩ rfl (rm_ok (by decide) (by decide)) hl.1 rfl (Nat.le_of_ble_eq_true rfl) ⟨by decide, by decide⟩ dL_openMinutes_7 (fun v σ' H locs hp S => ?_) (fun E σ' H locs q ce hp S hcell hcv hcl => ?_)
  · obtain ⟨_, hk, rfl, rfl⟩ := hp
    cases hk
    have S : S2 g s σ1 R L H locs := S
    refine lv_i2l hx hb dL_openMinutes_10 rfl ?_
    refine x_last C S ho dL_openMinutes_11 (fun H locs S => ?_)
    refine lv_goto (tgt := 23) hx hb dL_openMinutes_12 (by decide) ?_
    refine lv_iconst (v := (0 : Int32)) hx hb dL_openMinutes_23 (by decide) ?_
    exact v_iret C S hr ⟨rfl, rfl⟩ dL_openMinutes_24
  · obtain ⟨k, hk, -⟩ := hp
    cases hk
set_option maxHeartbeats 4000000 in
set_option maxRecDepth 100000 in
theorem h_openMinutes_x0 {l : Launch} {g : GL} {R : Nat → Nat → Nat} {L : Nat → Nat → Int64} {N : Nat} {σ σ1 : SI} {x0 o : Nat} {a1 : Int32} {a2 : Int32} {a3 : Int32} (hm : f_X11_openMinutes N R σ x0 a1 a2 a3 = some (.inr 0, σ1)) (hSh : ShR R) (hx0 : Ok 194 x0 11) (ho : Ok 194 o 40001) : CtW l g 8 yL_openMinutes cL_openMinutes 6 (some .int) [(0, 12, 15, 19), (0, 12, 19, 13)] 3 18 [.ref (gb g + x0), .int a1, .int a2, .int a3, .ref (gb g + o)] (mkS σ R L) (fun w σ' => w = some (.int 1) ∧ σ' = mkS σ1 R L) := by
  refine met_ofWH (cc := cL_openMinutes) (maxL := 6) (ret := (some .int)) (hh := [(0, 12, 15, 19), (0, 12, 19, 13)]) (by decide) rfl ?_
  intro p e s m args below meth c s₁ B hml hT hv
  obtain ⟨rfl, hE, hLo, hWd⟩ := hv
  have hr : meth.sig.returnType = (some .int) := B.returns
  have C : Cx l g p s m meth c cL_openMinutes 6 RL := ⟨B.exec, B.bytes, hml, findClass_of_methodNamed B.named, hE, hLo, B.notSynchronized⟩
  have S : S2 g s σ R L s.heap [] := ⟨hWd, va_S.rf⟩
  have hx := C.1
  have hb := C.2.1
  have hl := lv_entry ([.ref (gb g + x0), .int a1, .int a2, .int a3, .ref (gb g + o)]) (n := 6) (Nat.le_of_ble_eq_true rfl)
  rw [lg_entry_eq]
  generalize (lg_sl ([.ref (gb g + x0), .int a1, .int a2, .int a3, .ref (gb g + o)]) ++ List.replicate (6 - (lg_sl ([.ref (gb g + x0), .int a1, .int a2, .int a3, .ref (gb g + o)])).length) Slot.unset).toArray = ls at hl ⊢
  have hl : lv_has ls 6 [(0, .ref (gb g + x0)), (1, .int a1), (2, .int a2), (3, .int a3), (4, .ref (gb g + o))] := hl
  generalize hH : s.heap = H at S ⊢
  generalize hlc : ([] : List Loc) = locs at S ⊢
  refine lv_aload hx hb dL_openMinutes_0 (lv_at hl 4 rfl) ?_
  refine lv_iconst (v := (0 : Int32)) hx hb dL_openMinutes_2 (by decide) ?_
  refine lv_aload_n hx hb dL_openMinutes_3 rfl (lv_at hl 0 rfl) ?_
  refine lv_iload_n hx hb dL_openMinutes_4 rfl (lv_at hl 1 rfl) ?_
  refine lv_iload_n hx hb dL_openMinutes_5 rfl (lv_at hl 2 rfl) ?_
  refine lv_iload_n hx hb dL_openMinutes_6 rfl (lv_at hl 3 rfl) ?_
  refine v_callVC C S KX11 hx0 (ok_X11_openMinutes (L := L) hm hSh hx0) ⟨cd_X11_openMinutes, ni_RX11, ml_RL_132, in_X11_openMinutes, sl_X11_openMinutes⟩ ⟨by decide, by decide⟩ rfl (rm_ok (by decide) (by decide)) hl.1 rfl (Nat.le_of_ble_eq_true rfl) ⟨by decide, by decide⟩ dL_openMinutes_7 (fun v σ' H locs hp S => ?_) (fun E σ' H locs q ce hp S hcell hcv hcl => ?_)
  · obtain ⟨k, hk, -⟩ := hp
    cases hk
  · obtain ⟨k, hk, rfl, rfl⟩ := hp
    cases hk
    have S : S2 g s σ1 R L H locs := S
    refine x_catch (E := "java/lang/IndexOutOfBoundsException") C [] ⟨0, 12, 15, 19⟩ [⟨0, 12, 19, 13⟩] (hT.trans rfl) (fun z hz => by cases hz) (by decide) (by decide) cl_RL_19 ca_0 hcell hcv hcl ?_
    refine lv_astore (lv' := [(5, .ref q), (0, .ref (gb g + x0)), (1, .int a1), (2, .int a2), (3, .int a3), (4, .ref (gb g + o))]) hx hb dL_openMinutes_15 hl (by decide) rfl (fun ls hl => ?_)
    refine lv_iconst (v := (1 : Int32)) hx hb dL_openMinutes_17 (by decide) ?_
    exact v_iret C S hr ⟨rfl, rfl⟩ dL_openMinutes_18
set_option maxHeartbeats 4000000 in
set_option maxRecDepth 100000 in
theorem h_openMinutes_x1 {l : Launch} {g : GL} {R : Nat → Nat → Nat} {L : Nat → Nat → Int64} {N : Nat} {σ σ1 : SI} {x0 o : Nat} {a1 : Int32} {a2 : Int32} {a3 : Int32} (hm : f_X11_openMinutes N R σ x0 a1 a2 a3 = some (.inr 1, σ1)) (hSh : ShR R) (hx0 : Ok 194 x0 11) (ho : Ok 194 o 40001) : CtW l g 8 yL_openMinutes cL_openMinutes 6 (some .int) [(0, 12, 15, 19), (0, 12, 19, 13)] 3 18 [.ref (gb g + x0), .int a1, .int a2, .int a3, .ref (gb g + o)] (mkS σ R L) (fun w σ' => w = some (.int 2) ∧ σ' = mkS σ1 R L) := by
  refine met_ofWH (cc := cL_openMinutes) (maxL := 6) (ret := (some .int)) (hh := [(0, 12, 15, 19), (0, 12, 19, 13)]) (by decide) rfl ?_
  intro p e s m args below meth c s₁ B hml hT hv
  obtain ⟨rfl, hE, hLo, hWd⟩ := hv
  have hr : meth.sig.returnType = (some .int) := B.returns
  have C : Cx l g p s m meth c cL_openMinutes 6 RL := ⟨B.exec, B.bytes, hml, findClass_of_methodNamed B.named, hE, hLo, B.notSynchronized⟩
  have S : S2 g s σ R L s.heap [] := ⟨hWd, va_S.rf⟩
  have hx := C.1
  have hb := C.2.1
  have hl := lv_entry ([.ref (gb g + x0), .int a1, .int a2, .int a3, .ref (gb g + o)]) (n := 6) (Nat.le_of_ble_eq_true rfl)
  rw [lg_entry_eq]
  generalize (lg_sl ([.ref (gb g + x0), .int a1, .int a2, .int a3, .ref (gb g + o)]) ++ List.replicate (6 - (lg_sl ([.ref (gb g + x0), .int a1, .int a2, .int a3, .ref (gb g + o)])).length) Slot.unset).toArray = ls at hl ⊢
  have hl : lv_has ls 6 [(0, .ref (gb g + x0)), (1, .int a1), (2, .int a2), (3, .int a3), (4, .ref (gb g + o))] := hl
  generalize hH : s.heap = H at S ⊢
  generalize hlc : ([] : List Loc) = locs at S ⊢
  refine lv_aload hx hb dL_openMinutes_0 (lv_at hl 4 rfl) ?_
  refine lv_iconst (v := (0 : Int32)) hx hb dL_openMinutes_2 (by decide) ?_
  refine lv_aload_n hx hb dL_openMinutes_3 rfl (lv_at hl 0 rfl) ?_
  refine lv_iload_n hx hb dL_openMinutes_4 rfl (lv_at hl 1 rfl) ?_
  refine lv_iload_n hx hb dL_openMinutes_5 rfl (lv_at hl 2 rfl) ?_
  refine lv_iload_n hx hb dL_openMinutes_6 rfl (lv_at hl 3 rfl) ?_
  refine v_callVC C S KX11 hx0 (ok_X11_openMinutes (L := L) hm hSh hx0) ⟨cd_X11_openMinutes, ni_RX11, ml_RL_132, in_X11_openMinutes, sl_X11_openMinutes⟩ ⟨by decide, by decide⟩ rfl (rm_ok (by decide) (by decide)) hl.1 rfl (Nat.le_of_ble_eq_true rfl) ⟨by decide, by decide⟩ dL_openMinutes_7 (fun v σ' H locs hp S => ?_) (fun E σ' H locs q ce hp S hcell hcv hcl => ?_)
  · obtain ⟨k, hk, -⟩ := hp
    cases hk
  · obtain ⟨k, hk, rfl, rfl⟩ := hp
    cases hk
    have S : S2 g s σ1 R L H locs := S
    refine x_catch (E := "java/lang/IllegalArgumentException") C [⟨0, 12, 15, 19⟩] ⟨0, 12, 19, 13⟩ [] (hT.trans rfl) (fun z hz => by rw [List.mem_singleton.mp hz]; exact ⟨by decide, "java/lang/IndexOutOfBoundsException", cl_RL_19, by decide⟩) (by decide) (by decide) cl_RL_13 ca_1 hcell hcv hcl ?_
    refine lv_astore (lv' := [(5, .ref q), (0, .ref (gb g + x0)), (1, .int a1), (2, .int a2), (3, .int a3), (4, .ref (gb g + o))]) hx hb dL_openMinutes_19 hl (by decide) rfl (fun ls hl => ?_)
    refine lv_iconst (v := (2 : Int32)) hx hb dL_openMinutes_21 (by decide) ?_
    exact v_iret C S hr ⟨rfl, rfl⟩ dL_openMinutes_22
set_option maxHeartbeats 4000000 in
set_option maxRecDepth 100000 in
theorem h_sharedMinutes_ret {l : Launch} {g : GL} {R : Nat → Nat → Nat} {L : Nat → Nat → Int64} {N : Nat} {σ σ1 : SI} {x0 o : Nat} {a1 : Int32} {a2 : Int32} {v : Int32} (hm : f_X11_sharedMinutes N R σ x0 a1 a2 = some (.inl v, σ1)) (hSh : ShR R) (hx0 : Ok 194 x0 11) (ho : Ok 194 o 40001) : CtW l g 8 yL_sharedMinutes cL_sharedMinutes 5 (some .int) [(0, 10, 13, 19)] 2 12 [.ref (gb g + x0), .int a1, .int a2, .ref (gb g + o)] (mkS σ R L) (fun w σ' => w = some (.int 0) ∧ σ' = uL (mkS σ1 R L) o 0 v.toInt64) := by
  refine met_ofWH (cc := cL_sharedMinutes) (maxL := 5) (ret := (some .int)) (hh := [(0, 10, 13, 19)]) (by decide) rfl ?_
  intro p e s m args below meth c s₁ B hml hT hv
  obtain ⟨rfl, hE, hLo, hWd⟩ := hv
  have hr : meth.sig.returnType = (some .int) := B.returns
  have C : Cx l g p s m meth c cL_sharedMinutes 5 RL := ⟨B.exec, B.bytes, hml, findClass_of_methodNamed B.named, hE, hLo, B.notSynchronized⟩
  have S : S2 g s σ R L s.heap [] := ⟨hWd, va_S.rf⟩
  have hx := C.1
  have hb := C.2.1
  have hl := lv_entry ([.ref (gb g + x0), .int a1, .int a2, .ref (gb g + o)]) (n := 5) (Nat.le_of_ble_eq_true rfl)
  rw [lg_entry_eq]
  generalize (lg_sl ([.ref (gb g + x0), .int a1, .int a2, .ref (gb g + o)]) ++ List.replicate (5 - (lg_sl ([.ref (gb g + x0), .int a1, .int a2, .ref (gb g + o)])).length) Slot.unset).toArray = ls at hl ⊢
  have hl : lv_has ls 5 [(0, .ref (gb g + x0)), (1, .int a1), (2, .int a2), (3, .ref (gb g + o))] := hl
  generalize hH : s.heap = H at S ⊢
  generalize hlc : ([] : List Loc) = locs at S ⊢
  refine lv_aload_n hx hb dL_sharedMinutes_0 rfl (lv_at hl 3 rfl) ?_
  refine lv_iconst (v := (0 : Int32)) hx hb dL_sharedMinutes_1 (by decide) ?_
  refine lv_aload_n hx hb dL_sharedMinutes_2 rfl (lv_at hl 0 rfl) ?_
  refine lv_iload_n hx hb dL_sharedMinutes_3 rfl (lv_at hl 1 rfl) ?_
  refine lv_iload_n hx hb dL_sharedMinutes_4 rfl (lv_at hl 2 rfl) ?_
  refine v_callVC C S KX11 hx0 (ok_X11_sharedMinutes (L := L) hm hSh hx0) ⟨cd_X11_sharedMinutes, ni_RX11, ml_RL_135, in_X11_sharedMinutes, sl_X11_sharedMinutes⟩ ⟨by decide, by decide⟩ rfl (rm_ok (by decide) (by decide)) hl.1 rfl (Nat.le_of_ble_eq_true rfl) ⟨by decide, by decide⟩ dL_sharedMinutes_5 (fun v σ' H locs hp S => ?_) (fun E σ' H locs q ce hp S hcell hcv hcl => ?_)
  · obtain ⟨_, hk, rfl, rfl⟩ := hp
    cases hk
    have S : S2 g s σ1 R L H locs := S
    refine lv_i2l hx hb dL_sharedMinutes_8 rfl ?_
    refine x_last C S ho dL_sharedMinutes_9 (fun H locs S => ?_)
    refine lv_goto (tgt := 17) hx hb dL_sharedMinutes_10 (by decide) ?_
    refine lv_iconst (v := (0 : Int32)) hx hb dL_sharedMinutes_17 (by decide) ?_
    exact v_iret C S hr ⟨rfl, rfl⟩ dL_sharedMinutes_18
  · obtain ⟨k, hk, -⟩ := hp
    cases hk
set_option maxHeartbeats 4000000 in
set_option maxRecDepth 100000 in
theorem h_sharedMinutes_x0 {l : Launch} {g : GL} {R : Nat → Nat → Nat} {L : Nat → Nat → Int64} {N : Nat} {σ σ1 : SI} {x0 o : Nat} {a1 : Int32} {a2 : Int32} (hm : f_X11_sharedMinutes N R σ x0 a1 a2 = some (.inr 0, σ1)) (hSh : ShR R) (hx0 : Ok 194 x0 11) (ho : Ok 194 o 40001) : CtW l g 8 yL_sharedMinutes cL_sharedMinutes 5 (some .int) [(0, 10, 13, 19)] 2 12 [.ref (gb g + x0), .int a1, .int a2, .ref (gb g + o)] (mkS σ R L) (fun w σ' => w = some (.int 1) ∧ σ' = mkS σ1 R L) := by
  refine met_ofWH (cc := cL_sharedMinutes) (maxL := 5) (ret := (some .int)) (hh := [(0, 10, 13, 19)]) (by decide) rfl ?_
  intro p e s m args below meth c s₁ B hml hT hv
  obtain ⟨rfl, hE, hLo, hWd⟩ := hv
  have hr : meth.sig.returnType = (some .int) := B.returns
  have C : Cx l g p s m meth c cL_sharedMinutes 5 RL := ⟨B.exec, B.bytes, hml, findClass_of_methodNamed B.named, hE, hLo, B.notSynchronized⟩
  have S : S2 g s σ R L s.heap [] := ⟨hWd, va_S.rf⟩
  have hx := C.1
  have hb := C.2.1
  have hl := lv_entry ([.ref (gb g + x0), .int a1, .int a2, .ref (gb g + o)]) (n := 5) (Nat.le_of_ble_eq_true rfl)
  rw [lg_entry_eq]
  generalize (lg_sl ([.ref (gb g + x0), .int a1, .int a2, .ref (gb g + o)]) ++ List.replicate (5 - (lg_sl ([.ref (gb g + x0), .int a1, .int a2, .ref (gb g + o)])).length) Slot.unset).toArray = ls at hl ⊢
  have hl : lv_has ls 5 [(0, .ref (gb g + x0)), (1, .int a1), (2, .int a2), (3, .ref (gb g + o))] := hl
  generalize hH : s.heap = H at S ⊢
  generalize hlc : ([] : List Loc) = locs at S ⊢
  refine lv_aload_n hx hb dL_sharedMinutes_0 rfl (lv_at hl 3 rfl) ?_
  refine lv_iconst (v := (0 : Int32)) hx hb dL_sharedMinutes_1 (by decide) ?_
  refine lv_aload_n hx hb dL_sharedMinutes_2 rfl (lv_at hl 0 rfl) ?_
  refine lv_iload_n hx hb dL_sharedMinutes_3 rfl (lv_at hl 1 rfl) ?_
  refine lv_iload_n hx hb dL_sharedMinutes_4 rfl (lv_at hl 2 rfl) ?_
  refine v_callVC C S KX11 hx0 (ok_X11_sharedMinutes (L := L) hm hSh hx0) ⟨cd_X11_sharedMinutes, ni_RX11, ml_RL_135, in_X11_sharedMinutes, sl_X11_sharedMinutes⟩ ⟨by decide, by decide⟩ rfl (rm_ok (by decide) (by decide)) hl.1 rfl (Nat.le_of_ble_eq_true rfl) ⟨by decide, by decide⟩ dL_sharedMinutes_5 (fun v σ' H locs hp S => ?_) (fun E σ' H locs q ce hp S hcell hcv hcl => ?_)
  · obtain ⟨k, hk, -⟩ := hp
    cases hk
  · obtain ⟨k, hk, rfl, rfl⟩ := hp
    cases hk
    have S : S2 g s σ1 R L H locs := S
    refine x_catch (E := "java/lang/IndexOutOfBoundsException") C [] ⟨0, 10, 13, 19⟩ [] (hT.trans rfl) (fun z hz => by cases hz) (by decide) (by decide) cl_RL_19 ca_0 hcell hcv hcl ?_
    refine lv_astore (lv' := [(4, .ref q), (0, .ref (gb g + x0)), (1, .int a1), (2, .int a2), (3, .ref (gb g + o))]) hx hb dL_sharedMinutes_13 hl (by decide) rfl (fun ls hl => ?_)
    refine lv_iconst (v := (1 : Int32)) hx hb dL_sharedMinutes_15 (by decide) ?_
    exact v_iret C S hr ⟨rfl, rfl⟩ dL_sharedMinutes_16
set_option maxHeartbeats 4000000 in
set_option maxRecDepth 100000 in
theorem h_sirenMinute_ret {l : Launch} {g : GL} {R : Nat → Nat → Nat} {L : Nat → Nat → Int64} {N : Nat} {σ σ1 : SI} {x0 o : Nat} {a1 : Int32} {v : Int32} (hm : f_X11_sirenMinute N R σ x0 a1 = some (.inl v, σ1)) (hSh : ShR R) (hx0 : Ok 194 x0 11) (ho : Ok 194 o 40001) : CtW l g 8 yL_sirenMinute cL_sirenMinute 4 (some .int) [(0, 9, 12, 13)] 1 6 [.ref (gb g + x0), .int a1, .ref (gb g + o)] (mkS σ R L) (fun w σ' => w = some (.int 0) ∧ σ' = uL (mkS σ1 R L) o 0 v.toInt64) := by
  refine met_ofWH (cc := cL_sirenMinute) (maxL := 4) (ret := (some .int)) (hh := [(0, 9, 12, 13)]) (by decide) rfl ?_
  intro p e s m args below meth c s₁ B hml hT hv
  obtain ⟨rfl, hE, hLo, hWd⟩ := hv
  have hr : meth.sig.returnType = (some .int) := B.returns
  have C : Cx l g p s m meth c cL_sirenMinute 4 RL := ⟨B.exec, B.bytes, hml, findClass_of_methodNamed B.named, hE, hLo, B.notSynchronized⟩
  have S : S2 g s σ R L s.heap [] := ⟨hWd, va_S.rf⟩
  have hx := C.1
  have hb := C.2.1
  have hl := lv_entry ([.ref (gb g + x0), .int a1, .ref (gb g + o)]) (n := 4) (Nat.le_of_ble_eq_true rfl)
  rw [lg_entry_eq]
  generalize (lg_sl ([.ref (gb g + x0), .int a1, .ref (gb g + o)]) ++ List.replicate (4 - (lg_sl ([.ref (gb g + x0), .int a1, .ref (gb g + o)])).length) Slot.unset).toArray = ls at hl ⊢
  have hl : lv_has ls 4 [(0, .ref (gb g + x0)), (1, .int a1), (2, .ref (gb g + o))] := hl
  generalize hH : s.heap = H at S ⊢
  generalize hlc : ([] : List Loc) = locs at S ⊢
  refine lv_aload_n hx hb dL_sirenMinute_0 rfl (lv_at hl 2 rfl) ?_
  refine lv_iconst (v := (0 : Int32)) hx hb dL_sirenMinute_1 (by decide) ?_
  refine lv_aload_n hx hb dL_sirenMinute_2 rfl (lv_at hl 0 rfl) ?_
  refine lv_iload_n hx hb dL_sirenMinute_3 rfl (lv_at hl 1 rfl) ?_
  refine v_callVC C S KX11 hx0 (ok_X11_sirenMinute (L := L) hm hSh hx0) ⟨cd_X11_sirenMinute, ni_RX11, ml_RL_138, in_X11_sirenMinute, sl_X11_sirenMinute⟩ ⟨by decide, by decide⟩ rfl (rm_ok (by decide) (by decide)) hl.1 rfl (Nat.le_of_ble_eq_true rfl) ⟨by decide, by decide⟩ dL_sirenMinute_4 (fun v σ' H locs hp S => ?_) (fun E σ' H locs q ce hp S hcell hcv hcl => ?_)
  · obtain ⟨_, hk, rfl, rfl⟩ := hp
    cases hk
    have S : S2 g s σ1 R L H locs := S
    refine lv_i2l hx hb dL_sirenMinute_7 rfl ?_
    refine x_last C S ho dL_sirenMinute_8 (fun H locs S => ?_)
    refine lv_goto (tgt := 15) hx hb dL_sirenMinute_9 (by decide) ?_
    refine lv_iconst (v := (0 : Int32)) hx hb dL_sirenMinute_15 (by decide) ?_
    exact v_iret C S hr ⟨rfl, rfl⟩ dL_sirenMinute_16
  · obtain ⟨k, hk, -⟩ := hp
    cases hk
set_option maxHeartbeats 4000000 in
set_option maxRecDepth 100000 in
theorem h_sirenMinute_x1 {l : Launch} {g : GL} {R : Nat → Nat → Nat} {L : Nat → Nat → Int64} {N : Nat} {σ σ1 : SI} {x0 o : Nat} {a1 : Int32} (hm : f_X11_sirenMinute N R σ x0 a1 = some (.inr 1, σ1)) (hSh : ShR R) (hx0 : Ok 194 x0 11) (ho : Ok 194 o 40001) : CtW l g 8 yL_sirenMinute cL_sirenMinute 4 (some .int) [(0, 9, 12, 13)] 1 6 [.ref (gb g + x0), .int a1, .ref (gb g + o)] (mkS σ R L) (fun w σ' => w = some (.int 1) ∧ σ' = mkS σ1 R L) := by
  refine met_ofWH (cc := cL_sirenMinute) (maxL := 4) (ret := (some .int)) (hh := [(0, 9, 12, 13)]) (by decide) rfl ?_
  intro p e s m args below meth c s₁ B hml hT hv
  obtain ⟨rfl, hE, hLo, hWd⟩ := hv
  have hr : meth.sig.returnType = (some .int) := B.returns
  have C : Cx l g p s m meth c cL_sirenMinute 4 RL := ⟨B.exec, B.bytes, hml, findClass_of_methodNamed B.named, hE, hLo, B.notSynchronized⟩
  have S : S2 g s σ R L s.heap [] := ⟨hWd, va_S.rf⟩
  have hx := C.1
  have hb := C.2.1
  have hl := lv_entry ([.ref (gb g + x0), .int a1, .ref (gb g + o)]) (n := 4) (Nat.le_of_ble_eq_true rfl)
  rw [lg_entry_eq]
  generalize (lg_sl ([.ref (gb g + x0), .int a1, .ref (gb g + o)]) ++ List.replicate (4 - (lg_sl ([.ref (gb g + x0), .int a1, .ref (gb g + o)])).length) Slot.unset).toArray = ls at hl ⊢
  have hl : lv_has ls 4 [(0, .ref (gb g + x0)), (1, .int a1), (2, .ref (gb g + o))] := hl
  generalize hH : s.heap = H at S ⊢
  generalize hlc : ([] : List Loc) = locs at S ⊢
  refine lv_aload_n hx hb dL_sirenMinute_0 rfl (lv_at hl 2 rfl) ?_
  refine lv_iconst (v := (0 : Int32)) hx hb dL_sirenMinute_1 (by decide) ?_
  refine lv_aload_n hx hb dL_sirenMinute_2 rfl (lv_at hl 0 rfl) ?_
  refine lv_iload_n hx hb dL_sirenMinute_3 rfl (lv_at hl 1 rfl) ?_
  refine v_callVC C S KX11 hx0 (ok_X11_sirenMinute (L := L) hm hSh hx0) ⟨cd_X11_sirenMinute, ni_RX11, ml_RL_138, in_X11_sirenMinute, sl_X11_sirenMinute⟩ ⟨by decide, by decide⟩ rfl (rm_ok (by decide) (by decide)) hl.1 rfl (Nat.le_of_ble_eq_true rfl) ⟨by decide, by decide⟩ dL_sirenMinute_4 (fun v σ' H locs hp S => ?_) (fun E σ' H locs q ce hp S hcell hcv hcl => ?_)
  · obtain ⟨k, hk, -⟩ := hp
    cases hk
  · obtain ⟨k, hk, rfl, rfl⟩ := hp
    cases hk
    have S : S2 g s σ1 R L H locs := S
    refine x_catch (E := "java/lang/IllegalArgumentException") C [] ⟨0, 9, 12, 13⟩ [] (hT.trans rfl) (fun z hz => by cases hz) (by decide) (by decide) cl_RL_13 ca_1 hcell hcv hcl ?_
    refine lv_astore_n (lv' := [(3, .ref q), (0, .ref (gb g + x0)), (1, .int a1), (2, .ref (gb g + o))]) hx hb dL_sirenMinute_12 rfl hl (by decide) rfl (fun ls hl => ?_)
    refine lv_iconst (v := (1 : Int32)) hx hb dL_sirenMinute_13 (by decide) ?_
    exact v_iret C S hr ⟨rfl, rfl⟩ dL_sirenMinute_14
set_option maxHeartbeats 4000000 in
set_option maxRecDepth 100000 in
theorem h_sirenKind_ret {l : Launch} {g : GL} {R : Nat → Nat → Nat} {L : Nat → Nat → Int64} {N : Nat} {σ σ1 : SI} {x0 o : Nat} {a1 : Int32} {v : Int32} (hm : f_X11_sirenKind N R σ x0 a1 = some (.inl v, σ1)) (hSh : ShR R) (hx0 : Ok 194 x0 11) (ho : Ok 194 o 40001) : CtW l g 8 yL_sirenKind cL_sirenKind 4 (some .int) [(0, 9, 12, 13)] 1 6 [.ref (gb g + x0), .int a1, .ref (gb g + o)] (mkS σ R L) (fun w σ' => w = some (.int 0) ∧ σ' = uL (mkS σ1 R L) o 0 v.toInt64) := by
  refine met_ofWH (cc := cL_sirenKind) (maxL := 4) (ret := (some .int)) (hh := [(0, 9, 12, 13)]) (by decide) rfl ?_
  intro p e s m args below meth c s₁ B hml hT hv
  obtain ⟨rfl, hE, hLo, hWd⟩ := hv
  have hr : meth.sig.returnType = (some .int) := B.returns
  have C : Cx l g p s m meth c cL_sirenKind 4 RL := ⟨B.exec, B.bytes, hml, findClass_of_methodNamed B.named, hE, hLo, B.notSynchronized⟩
  have S : S2 g s σ R L s.heap [] := ⟨hWd, va_S.rf⟩
  have hx := C.1
  have hb := C.2.1
  have hl := lv_entry ([.ref (gb g + x0), .int a1, .ref (gb g + o)]) (n := 4) (Nat.le_of_ble_eq_true rfl)
  rw [lg_entry_eq]
  generalize (lg_sl ([.ref (gb g + x0), .int a1, .ref (gb g + o)]) ++ List.replicate (4 - (lg_sl ([.ref (gb g + x0), .int a1, .ref (gb g + o)])).length) Slot.unset).toArray = ls at hl ⊢
  have hl : lv_has ls 4 [(0, .ref (gb g + x0)), (1, .int a1), (2, .ref (gb g + o))] := hl
  generalize hH : s.heap = H at S ⊢
  generalize hlc : ([] : List Loc) = locs at S ⊢
  refine lv_aload_n hx hb dL_sirenKind_0 rfl (lv_at hl 2 rfl) ?_
  refine lv_iconst (v := (0 : Int32)) hx hb dL_sirenKind_1 (by decide) ?_
  refine lv_aload_n hx hb dL_sirenKind_2 rfl (lv_at hl 0 rfl) ?_
  refine lv_iload_n hx hb dL_sirenKind_3 rfl (lv_at hl 1 rfl) ?_
  refine v_callVC C S KX11 hx0 (ok_X11_sirenKind (L := L) hm hSh hx0) ⟨cd_X11_sirenKind, ni_RX11, ml_RL_141, in_X11_sirenKind, sl_X11_sirenKind⟩ ⟨by decide, by decide⟩ rfl (rm_ok (by decide) (by decide)) hl.1 rfl (Nat.le_of_ble_eq_true rfl) ⟨by decide, by decide⟩ dL_sirenKind_4 (fun v σ' H locs hp S => ?_) (fun E σ' H locs q ce hp S hcell hcv hcl => ?_)
  · obtain ⟨_, hk, rfl, rfl⟩ := hp
    cases hk
    have S : S2 g s σ1 R L H locs := S
    refine lv_i2l hx hb dL_sirenKind_7 rfl ?_
    refine x_last C S ho dL_sirenKind_8 (fun H locs S => ?_)
    refine lv_goto (tgt := 15) hx hb dL_sirenKind_9 (by decide) ?_
    refine lv_iconst (v := (0 : Int32)) hx hb dL_sirenKind_15 (by decide) ?_
    exact v_iret C S hr ⟨rfl, rfl⟩ dL_sirenKind_16
  · obtain ⟨k, hk, -⟩ := hp
    cases hk
set_option maxHeartbeats 4000000 in
set_option maxRecDepth 100000 in
theorem h_sirenKind_x1 {l : Launch} {g : GL} {R : Nat → Nat → Nat} {L : Nat → Nat → Int64} {N : Nat} {σ σ1 : SI} {x0 o : Nat} {a1 : Int32} (hm : f_X11_sirenKind N R σ x0 a1 = some (.inr 1, σ1)) (hSh : ShR R) (hx0 : Ok 194 x0 11) (ho : Ok 194 o 40001) : CtW l g 8 yL_sirenKind cL_sirenKind 4 (some .int) [(0, 9, 12, 13)] 1 6 [.ref (gb g + x0), .int a1, .ref (gb g + o)] (mkS σ R L) (fun w σ' => w = some (.int 1) ∧ σ' = mkS σ1 R L) := by
  refine met_ofWH (cc := cL_sirenKind) (maxL := 4) (ret := (some .int)) (hh := [(0, 9, 12, 13)]) (by decide) rfl ?_
  intro p e s m args below meth c s₁ B hml hT hv
  obtain ⟨rfl, hE, hLo, hWd⟩ := hv
  have hr : meth.sig.returnType = (some .int) := B.returns
  have C : Cx l g p s m meth c cL_sirenKind 4 RL := ⟨B.exec, B.bytes, hml, findClass_of_methodNamed B.named, hE, hLo, B.notSynchronized⟩
  have S : S2 g s σ R L s.heap [] := ⟨hWd, va_S.rf⟩
  have hx := C.1
  have hb := C.2.1
  have hl := lv_entry ([.ref (gb g + x0), .int a1, .ref (gb g + o)]) (n := 4) (Nat.le_of_ble_eq_true rfl)
  rw [lg_entry_eq]
  generalize (lg_sl ([.ref (gb g + x0), .int a1, .ref (gb g + o)]) ++ List.replicate (4 - (lg_sl ([.ref (gb g + x0), .int a1, .ref (gb g + o)])).length) Slot.unset).toArray = ls at hl ⊢
  have hl : lv_has ls 4 [(0, .ref (gb g + x0)), (1, .int a1), (2, .ref (gb g + o))] := hl
  generalize hH : s.heap = H at S ⊢
  generalize hlc : ([] : List Loc) = locs at S ⊢
  refine lv_aload_n hx hb dL_sirenKind_0 rfl (lv_at hl 2 rfl) ?_
  refine lv_iconst (v := (0 : Int32)) hx hb dL_sirenKind_1 (by decide) ?_
  refine lv_aload_n hx hb dL_sirenKind_2 rfl (lv_at hl 0 rfl) ?_
  refine lv_iload_n hx hb dL_sirenKind_3 rfl (lv_at hl 1 rfl) ?_
  refine v_callVC C S KX11 hx0 (ok_X11_sirenKind (L := L) hm hSh hx0) ⟨cd_X11_sirenKind, ni_RX11, ml_RL_141, in_X11_sirenKind, sl_X11_sirenKind⟩ ⟨by decide, by decide⟩ rfl (rm_ok (by decide) (by decide)) hl.1 rfl (Nat.le_of_ble_eq_true rfl) ⟨by decide, by decide⟩ dL_sirenKind_4 (fun v σ' H locs hp S => ?_) (fun E σ' H locs q ce hp S hcell hcv hcl => ?_)
  · obtain ⟨k, hk, -⟩ := hp
    cases hk
  · obtain ⟨k, hk, rfl, rfl⟩ := hp
    cases hk
    have S : S2 g s σ1 R L H locs := S
    refine x_catch (E := "java/lang/IllegalArgumentException") C [] ⟨0, 9, 12, 13⟩ [] (hT.trans rfl) (fun z hz => by cases hz) (by decide) (by decide) cl_RL_13 ca_1 hcell hcv hcl ?_
    refine lv_astore_n (lv' := [(3, .ref q), (0, .ref (gb g + x0)), (1, .int a1), (2, .ref (gb g + o))]) hx hb dL_sirenKind_12 rfl hl (by decide) rfl (fun ls hl => ?_)
    refine lv_iconst (v := (1 : Int32)) hx hb dL_sirenKind_13 (by decide) ?_
    exact v_iret C S hr ⟨rfl, rfl⟩ dL_sirenKind_14
set_option maxHeartbeats 4000000 in
set_option maxRecDepth 100000 in
theorem h_sirenBlast_ret {l : Launch} {g : GL} {R : Nat → Nat → Nat} {L : Nat → Nat → Int64} {N : Nat} {σ σ1 : SI} {x0 o : Nat} {a1 : Int32} {v : Int32} (hm : f_X11_sirenBlast N R σ x0 a1 = some (.inl v, σ1)) (hSh : ShR R) (hx0 : Ok 194 x0 11) (ho : Ok 194 o 40001) : CtW l g 8 yL_sirenBlast cL_sirenBlast 4 (some .int) [(0, 9, 12, 13)] 1 6 [.ref (gb g + x0), .int a1, .ref (gb g + o)] (mkS σ R L) (fun w σ' => w = some (.int 0) ∧ σ' = uL (mkS σ1 R L) o 0 v.toInt64) := by
  refine met_ofWH (cc := cL_sirenBlast) (maxL := 4) (ret := (some .int)) (hh := [(0, 9, 12, 13)]) (by decide) rfl ?_
  intro p e s m args below meth c s₁ B hml hT hv
  obtain ⟨rfl, hE, hLo, hWd⟩ := hv
  have hr : meth.sig.returnType = (some .int) := B.returns
  have C : Cx l g p s m meth c cL_sirenBlast 4 RL := ⟨B.exec, B.bytes, hml, findClass_of_methodNamed B.named, hE, hLo, B.notSynchronized⟩
  have S : S2 g s σ R L s.heap [] := ⟨hWd, va_S.rf⟩
  have hx := C.1
  have hb := C.2.1
  have hl := lv_entry ([.ref (gb g + x0), .int a1, .ref (gb g + o)]) (n := 4) (Nat.le_of_ble_eq_true rfl)
  rw [lg_entry_eq]
  generalize (lg_sl ([.ref (gb g + x0), .int a1, .ref (gb g + o)]) ++ List.replicate (4 - (lg_sl ([.ref (gb g + x0), .int a1, .ref (gb g + o)])).length) Slot.unset).toArray = ls at hl ⊢
  have hl : lv_has ls 4 [(0, .ref (gb g + x0)), (1, .int a1), (2, .ref (gb g + o))] := hl
  generalize hH : s.heap = H at S ⊢
  generalize hlc : ([] : List Loc) = locs at S ⊢
  refine lv_aload_n hx hb dL_sirenBlast_0 rfl (lv_at hl 2 rfl) ?_
  refine lv_iconst (v := (0 : Int32)) hx hb dL_sirenBlast_1 (by decide) ?_
  refine lv_aload_n hx hb dL_sirenBlast_2 rfl (lv_at hl 0 rfl) ?_
  refine lv_iload_n hx hb dL_sirenBlast_3 rfl (lv_at hl 1 rfl) ?_
  refine v_callVC C S KX11 hx0 (ok_X11_sirenBlast (L := L) hm hSh hx0) ⟨cd_X11_sirenBlast, ni_RX11, ml_RL_144, in_X11_sirenBlast, sl_X11_sirenBlast⟩ ⟨by decide, by decide⟩ rfl (rm_ok (by decide) (by decide)) hl.1 rfl (Nat.le_of_ble_eq_true rfl) ⟨by decide, by decide⟩ dL_sirenBlast_4 (fun v σ' H locs hp S => ?_) (fun E σ' H locs q ce hp S hcell hcv hcl => ?_)
  · obtain ⟨_, hk, rfl, rfl⟩ := hp
    cases hk
    have S : S2 g s σ1 R L H locs := S
    refine lv_i2l hx hb dL_sirenBlast_7 rfl ?_
    refine x_last C S ho dL_sirenBlast_8 (fun H locs S => ?_)
    refine lv_goto (tgt := 15) hx hb dL_sirenBlast_9 (by decide) ?_
    refine lv_iconst (v := (0 : Int32)) hx hb dL_sirenBlast_15 (by decide) ?_
    exact v_iret C S hr ⟨rfl, rfl⟩ dL_sirenBlast_16
  · obtain ⟨k, hk, -⟩ := hp
    cases hk
set_option maxHeartbeats 4000000 in
set_option maxRecDepth 100000 in
theorem h_sirenBlast_x1 {l : Launch} {g : GL} {R : Nat → Nat → Nat} {L : Nat → Nat → Int64} {N : Nat} {σ σ1 : SI} {x0 o : Nat} {a1 : Int32} (hm : f_X11_sirenBlast N R σ x0 a1 = some (.inr 1, σ1)) (hSh : ShR R) (hx0 : Ok 194 x0 11) (ho : Ok 194 o 40001) : CtW l g 8 yL_sirenBlast cL_sirenBlast 4 (some .int) [(0, 9, 12, 13)] 1 6 [.ref (gb g + x0), .int a1, .ref (gb g + o)] (mkS σ R L) (fun w σ' => w = some (.int 1) ∧ σ' = mkS σ1 R L) := by
  refine met_ofWH (cc := cL_sirenBlast) (maxL := 4) (ret := (some .int)) (hh := [(0, 9, 12, 13)]) (by decide) rfl ?_
  intro p e s m args below meth c s₁ B hml hT hv
  obtain ⟨rfl, hE, hLo, hWd⟩ := hv
  have hr : meth.sig.returnType = (some .int) := B.returns
  have C : Cx l g p s m meth c cL_sirenBlast 4 RL := ⟨B.exec, B.bytes, hml, findClass_of_methodNamed B.named, hE, hLo, B.notSynchronized⟩
  have S : S2 g s σ R L s.heap [] := ⟨hWd, va_S.rf⟩
  have hx := C.1
  have hb := C.2.1
  have hl := lv_entry ([.ref (gb g + x0), .int a1, .ref (gb g + o)]) (n := 4) (Nat.le_of_ble_eq_true rfl)
  rw [lg_entry_eq]
  generalize (lg_sl ([.ref (gb g + x0), .int a1, .ref (gb g + o)]) ++ List.replicate (4 - (lg_sl ([.ref (gb g + x0), .int a1, .ref (gb g + o)])).length) Slot.unset).toArray = ls at hl ⊢
  have hl : lv_has ls 4 [(0, .ref (gb g + x0)), (1, .int a1), (2, .ref (gb g + o))] := hl
  generalize hH : s.heap = H at S ⊢
  generalize hlc : ([] : List Loc) = locs at S ⊢
  refine lv_aload_n hx hb dL_sirenBlast_0 rfl (lv_at hl 2 rfl) ?_
  refine lv_iconst (v := (0 : Int32)) hx hb dL_sirenBlast_1 (by decide) ?_
  refine lv_aload_n hx hb dL_sirenBlast_2 rfl (lv_at hl 0 rfl) ?_
  refine lv_iload_n hx hb dL_sirenBlast_3 rfl (lv_at hl 1 rfl) ?_
  refine v_callVC C S KX11 hx0 (ok_X11_sirenBlast (L := L) hm hSh hx0) ⟨cd_X11_sirenBlast, ni_RX11, ml_RL_144, in_X11_sirenBlast, sl_X11_sirenBlast⟩ ⟨by decide, by decide⟩ rfl (rm_ok (by decide) (by decide)) hl.1 rfl (Nat.le_of_ble_eq_true rfl) ⟨by decide, by decide⟩ dL_sirenBlast_4 (fun v σ' H locs hp S => ?_) (fun E σ' H locs q ce hp S hcell hcv hcl => ?_)
  · obtain ⟨k, hk, -⟩ := hp
    cases hk
  · obtain ⟨k, hk, rfl, rfl⟩ := hp
    cases hk
    have S : S2 g s σ1 R L H locs := S
    refine x_catch (E := "java/lang/IllegalArgumentException") C [] ⟨0, 9, 12, 13⟩ [] (hT.trans rfl) (fun z hz => by cases hz) (by decide) (by decide) cl_RL_13 ca_1 hcell hcv hcl ?_
    refine lv_astore_n (lv' := [(3, .ref q), (0, .ref (gb g + x0)), (1, .int a1), (2, .ref (gb g + o))]) hx hb dL_sirenBlast_12 rfl hl (by decide) rfl (fun ls hl => ?_)
    refine lv_iconst (v := (1 : Int32)) hx hb dL_sirenBlast_13 (by decide) ?_
    exact v_iret C S hr ⟨rfl, rfl⟩ dL_sirenBlast_14
set_option maxHeartbeats 4000000 in
set_option maxRecDepth 100000 in
theorem h_planLength_ret {l : Launch} {g : GL} {R : Nat → Nat → Nat} {L : Nat → Nat → Int64} {N : Nat} {σ σ1 : SI} {x0 o : Nat} {v : Int32} (hm : f_X11_planLength N R σ x0 = some (.inl v, σ1)) (hSh : ShR R) (hx0 : Ok 194 x0 11) (ho : Ok 194 o 40001) : CtW l g 20 yL_planLength cL_planLength 3 (some .int) [(0, 8, 11, 106)] 1 6 [.ref (gb g + x0), .ref (gb g + o)] (mkS σ R L) (fun w σ' => w = some (.int 0) ∧ σ' = uL (mkS σ1 R L) o 0 v.toInt64) := by
  refine met_ofWH (cc := cL_planLength) (maxL := 3) (ret := (some .int)) (hh := [(0, 8, 11, 106)]) (by decide) rfl ?_
  intro p e s m args below meth c s₁ B hml hT hv
  obtain ⟨rfl, hE, hLo, hWd⟩ := hv
  have hr : meth.sig.returnType = (some .int) := B.returns
  have C : Cx l g p s m meth c cL_planLength 3 RL := ⟨B.exec, B.bytes, hml, findClass_of_methodNamed B.named, hE, hLo, B.notSynchronized⟩
  have S : S2 g s σ R L s.heap [] := ⟨hWd, va_S.rf⟩
  have hx := C.1
  have hb := C.2.1
  have hl := lv_entry ([.ref (gb g + x0), .ref (gb g + o)]) (n := 3) (Nat.le_of_ble_eq_true rfl)
  rw [lg_entry_eq]
  generalize (lg_sl ([.ref (gb g + x0), .ref (gb g + o)]) ++ List.replicate (3 - (lg_sl ([.ref (gb g + x0), .ref (gb g + o)])).length) Slot.unset).toArray = ls at hl ⊢
  have hl : lv_has ls 3 [(0, .ref (gb g + x0)), (1, .ref (gb g + o))] := hl
  generalize hH : s.heap = H at S ⊢
  generalize hlc : ([] : List Loc) = locs at S ⊢
  refine lv_aload_n hx hb dL_planLength_0 rfl (lv_at hl 1 rfl) ?_
  refine lv_iconst (v := (0 : Int32)) hx hb dL_planLength_1 (by decide) ?_
  refine lv_aload_n hx hb dL_planLength_2 rfl (lv_at hl 0 rfl) ?_
  refine v_callVC C S KX11 hx0 (ok_X11_planLength (L := L) hm hSh hx0) ⟨cd_X11_planLength, ni_RX11, ml_RL_147, in_X11_planLength, sl_X11_planLength⟩ ⟨by decide, by decide⟩ rfl (rm_ok (by decide) (by decide)) hl.1 rfl (Nat.le_of_ble_eq_true rfl) ⟨by decide, by decide⟩ dL_planLength_3 (fun v σ' H locs hp S => ?_) (fun E σ' H locs q ce hp S hcell hcv hcl => ?_)
  · obtain ⟨_, hk, rfl, rfl⟩ := hp
    cases hk
    have S : S2 g s σ1 R L H locs := S
    refine lv_i2l hx hb dL_planLength_6 rfl ?_
    refine x_last C S ho dL_planLength_7 (fun H locs S => ?_)
    refine lv_goto (tgt := 14) hx hb dL_planLength_8 (by decide) ?_
    refine lv_iconst (v := (0 : Int32)) hx hb dL_planLength_14 (by decide) ?_
    exact v_iret C S hr ⟨rfl, rfl⟩ dL_planLength_15
  · obtain ⟨k, hk, -⟩ := hp
    cases hk
set_option maxHeartbeats 4000000 in
set_option maxRecDepth 100000 in
theorem h_planLength_x2 {l : Launch} {g : GL} {R : Nat → Nat → Nat} {L : Nat → Nat → Int64} {N : Nat} {σ σ1 : SI} {x0 o : Nat} (hm : f_X11_planLength N R σ x0 = some (.inr 2, σ1)) (hSh : ShR R) (hx0 : Ok 194 x0 11) (ho : Ok 194 o 40001) : CtW l g 20 yL_planLength cL_planLength 3 (some .int) [(0, 8, 11, 106)] 1 6 [.ref (gb g + x0), .ref (gb g + o)] (mkS σ R L) (fun w σ' => w = some (.int 1) ∧ σ' = mkS σ1 R L) := by
  refine met_ofWH (cc := cL_planLength) (maxL := 3) (ret := (some .int)) (hh := [(0, 8, 11, 106)]) (by decide) rfl ?_
  intro p e s m args below meth c s₁ B hml hT hv
  obtain ⟨rfl, hE, hLo, hWd⟩ := hv
  have hr : meth.sig.returnType = (some .int) := B.returns
  have C : Cx l g p s m meth c cL_planLength 3 RL := ⟨B.exec, B.bytes, hml, findClass_of_methodNamed B.named, hE, hLo, B.notSynchronized⟩
  have S : S2 g s σ R L s.heap [] := ⟨hWd, va_S.rf⟩
  have hx := C.1
  have hb := C.2.1
  have hl := lv_entry ([.ref (gb g + x0), .ref (gb g + o)]) (n := 3) (Nat.le_of_ble_eq_true rfl)
  rw [lg_entry_eq]
  generalize (lg_sl ([.ref (gb g + x0), .ref (gb g + o)]) ++ List.replicate (3 - (lg_sl ([.ref (gb g + x0), .ref (gb g + o)])).length) Slot.unset).toArray = ls at hl ⊢
  have hl : lv_has ls 3 [(0, .ref (gb g + x0)), (1, .ref (gb g + o))] := hl
  generalize hH : s.heap = H at S ⊢
  generalize hlc : ([] : List Loc) = locs at S ⊢
  refine lv_aload_n hx hb dL_planLength_0 rfl (lv_at hl 1 rfl) ?_
  refine lv_iconst (v := (0 : Int32)) hx hb dL_planLength_1 (by decide) ?_
  refine lv_aload_n hx hb dL_planLength_2 rfl (lv_at hl 0 rfl) ?_
  refine v_callVC C S KX11 hx0 (ok_X11_planLength (L := L) hm hSh hx0) ⟨cd_X11_planLength, ni_RX11, ml_RL_147, in_X11_planLength, sl_X11_planLength⟩ ⟨by decide, by decide⟩ rfl (rm_ok (by decide) (by decide)) hl.1 rfl (Nat.le_of_ble_eq_true rfl) ⟨by decide, by decide⟩ dL_planLength_3 (fun v σ' H locs hp S => ?_) (fun E σ' H locs q ce hp S hcell hcv hcl => ?_)
  · obtain ⟨k, hk, -⟩ := hp
    cases hk
  · obtain ⟨k, hk, rfl, rfl⟩ := hp
    cases hk
    have S : S2 g s σ1 R L H locs := S
    refine x_catch (E := "java/lang/IllegalStateException") C [] ⟨0, 8, 11, 106⟩ [] (hT.trans rfl) (fun z hz => by cases hz) (by decide) (by decide) cl_RL_106 ca_2 hcell hcv hcl ?_
    refine lv_astore_n (lv' := [(2, .ref q), (0, .ref (gb g + x0)), (1, .ref (gb g + o))]) hx hb dL_planLength_11 rfl hl (by decide) rfl (fun ls hl => ?_)
    refine lv_iconst (v := (1 : Int32)) hx hb dL_planLength_12 (by decide) ?_
    exact v_iret C S hr ⟨rfl, rfl⟩ dL_planLength_13
set_option maxHeartbeats 4000000 in
set_option maxRecDepth 100000 in
theorem h_planTime_ret {l : Launch} {g : GL} {R : Nat → Nat → Nat} {L : Nat → Nat → Int64} {N : Nat} {σ σ1 : SI} {x0 o : Nat} {a1 : Int32} {v : Int32} (hm : f_X11_planTime N R σ x0 a1 = some (.inl v, σ1)) (hSh : ShR R) (hx0 : Ok 194 x0 11) (ho : Ok 194 o 40001) : CtW l g 20 yL_planTime cL_planTime 4 (some .int) [(0, 9, 12, 19), (0, 9, 15, 106)] 2 12 [.ref (gb g + x0), .int a1, .ref (gb g + o)] (mkS σ R L) (fun w σ' => w = some (.int 0) ∧ σ' = uL (mkS σ1 R L) o 0 v.toInt64) := by
  refine met_ofWH (cc := cL_planTime) (maxL := 4) (ret := (some .int)) (hh := [(0, 9, 12, 19), (0, 9, 15, 106)]) (by decide) rfl ?_
  intro p e s m args below meth c s₁ B hml hT hv
  obtain ⟨rfl, hE, hLo, hWd⟩ := hv
  have hr : meth.sig.returnType = (some .int) := B.returns
  have C : Cx l g p s m meth c cL_planTime 4 RL := ⟨B.exec, B.bytes, hml, findClass_of_methodNamed B.named, hE, hLo, B.notSynchronized⟩
  have S : S2 g s σ R L s.heap [] := ⟨hWd, va_S.rf⟩
  have hx := C.1
  have hb := C.2.1
  have hl := lv_entry ([.ref (gb g + x0), .int a1, .ref (gb g + o)]) (n := 4) (Nat.le_of_ble_eq_true rfl)
  rw [lg_entry_eq]
  generalize (lg_sl ([.ref (gb g + x0), .int a1, .ref (gb g + o)]) ++ List.replicate (4 - (lg_sl ([.ref (gb g + x0), .int a1, .ref (gb g + o)])).length) Slot.unset).toArray = ls at hl ⊢
  have hl : lv_has ls 4 [(0, .ref (gb g + x0)), (1, .int a1), (2, .ref (gb g + o))] := hl
  generalize hH : s.heap = H at S ⊢
  generalize hlc : ([] : List Loc) = locs at S ⊢
  refine lv_aload_n hx hb dL_planTime_0 rfl (lv_at hl 2 rfl) ?_
  refine lv_iconst (v := (0 : Int32)) hx hb dL_planTime_1 (by decide) ?_
  refine lv_aload_n hx hb dL_planTime_2 rfl (lv_at hl 0 rfl) ?_
  refine lv_iload_n hx hb dL_planTime_3 rfl (lv_at hl 1 rfl) ?_
  refine v_callVC C S KX11 hx0 (ok_X11_planTime (L := L) hm hSh hx0) ⟨cd_X11_planTime, ni_RX11, ml_RL_150, in_X11_planTime, sl_X11_planTime⟩ ⟨by decide, by decide⟩ rfl (rm_ok (by decide) (by decide)) hl.1 rfl (Nat.le_of_ble_eq_true rfl) ⟨by decide, by decide⟩ dL_planTime_4 (fun v σ' H locs hp S => ?_) (fun E σ' H locs q ce hp S hcell hcv hcl => ?_)
  · obtain ⟨_, hk, rfl, rfl⟩ := hp
    cases hk
    have S : S2 g s σ1 R L H locs := S
    refine lv_i2l hx hb dL_planTime_7 rfl ?_
    refine x_last C S ho dL_planTime_8 (fun H locs S => ?_)
    refine lv_goto (tgt := 18) hx hb dL_planTime_9 (by decide) ?_
    refine lv_iconst (v := (0 : Int32)) hx hb dL_planTime_18 (by decide) ?_
    exact v_iret C S hr ⟨rfl, rfl⟩ dL_planTime_19
  · obtain ⟨k, hk, -⟩ := hp
    cases hk
set_option maxHeartbeats 4000000 in
set_option maxRecDepth 100000 in
theorem h_planTime_x0 {l : Launch} {g : GL} {R : Nat → Nat → Nat} {L : Nat → Nat → Int64} {N : Nat} {σ σ1 : SI} {x0 o : Nat} {a1 : Int32} (hm : f_X11_planTime N R σ x0 a1 = some (.inr 0, σ1)) (hSh : ShR R) (hx0 : Ok 194 x0 11) (ho : Ok 194 o 40001) : CtW l g 20 yL_planTime cL_planTime 4 (some .int) [(0, 9, 12, 19), (0, 9, 15, 106)] 2 12 [.ref (gb g + x0), .int a1, .ref (gb g + o)] (mkS σ R L) (fun w σ' => w = some (.int 1) ∧ σ' = mkS σ1 R L) := by
  refine met_ofWH (cc := cL_planTime) (maxL := 4) (ret := (some .int)) (hh := [(0, 9, 12, 19), (0, 9, 15, 106)]) (by decide) rfl ?_
  intro p e s m args below meth c s₁ B hml hT hv
  obtain ⟨rfl, hE, hLo, hWd⟩ := hv
  have hr : meth.sig.returnType = (some .int) := B.returns
  have C : Cx l g p s m meth c cL_planTime 4 RL := ⟨B.exec, B.bytes, hml, findClass_of_methodNamed B.named, hE, hLo, B.notSynchronized⟩
  have S : S2 g s σ R L s.heap [] := ⟨hWd, va_S.rf⟩
  have hx := C.1
  have hb := C.2.1
  have hl := lv_entry ([.ref (gb g + x0), .int a1, .ref (gb g + o)]) (n := 4) (Nat.le_of_ble_eq_true rfl)
  rw [lg_entry_eq]
  generalize (lg_sl ([.ref (gb g + x0), .int a1, .ref (gb g + o)]) ++ List.replicate (4 - (lg_sl ([.ref (gb g + x0), .int a1, .ref (gb g + o)])).length) Slot.unset).toArray = ls at hl ⊢
  have hl : lv_has ls 4 [(0, .ref (gb g + x0)), (1, .int a1), (2, .ref (gb g + o))] := hl
  generalize hH : s.heap = H at S ⊢
  generalize hlc : ([] : List Loc) = locs at S ⊢
  refine lv_aload_n hx hb dL_planTime_0 rfl (lv_at hl 2 rfl) ?_
  refine lv_iconst (v := (0 : Int32)) hx hb dL_planTime_1 (by decide) ?_
  refine lv_aload_n hx hb dL_planTime_2 rfl (lv_at hl 0 rfl) ?_
  refine lv_iload_n hx hb dL_planTime_3 rfl (lv_at hl 1 rfl) ?_
  refine v_callVC C S KX11 hx0 (ok_X11_planTime (L := L) hm hSh hx0) ⟨cd_X11_planTime, ni_RX11, ml_RL_150, in_X11_planTime, sl_X11_planTime⟩ ⟨by decide, by decide⟩ rfl (rm_ok (by decide) (by decide)) hl.1 rfl (Nat.le_of_ble_eq_true rfl) ⟨by decide, by decide⟩ dL_planTime_4 (fun v σ' H locs hp S => ?_) (fun E σ' H locs q ce hp S hcell hcv hcl => ?_)
  · obtain ⟨k, hk, -⟩ := hp
    cases hk
  · obtain ⟨k, hk, rfl, rfl⟩ := hp
    cases hk
    have S : S2 g s σ1 R L H locs := S
    refine x_catch (E := "java/lang/IndexOutOfBoundsException") C [] ⟨0, 9, 12, 19⟩ [⟨0, 9, 15, 106⟩] (hT.trans rfl) (fun z hz => by cases hz) (by decide) (by decide) cl_RL_19 ca_0 hcell hcv hcl ?_
    refine lv_astore_n (lv' := [(3, .ref q), (0, .ref (gb g + x0)), (1, .int a1), (2, .ref (gb g + o))]) hx hb dL_planTime_12 rfl hl (by decide) rfl (fun ls hl => ?_)
    refine lv_iconst (v := (1 : Int32)) hx hb dL_planTime_13 (by decide) ?_
    exact v_iret C S hr ⟨rfl, rfl⟩ dL_planTime_14
set_option maxHeartbeats 4000000 in
set_option maxRecDepth 100000 in
theorem h_planTime_x2 {l : Launch} {g : GL} {R : Nat → Nat → Nat} {L : Nat → Nat → Int64} {N : Nat} {σ σ1 : SI} {x0 o : Nat} {a1 : Int32} (hm : f_X11_planTime N R σ x0 a1 = some (.inr 2, σ1)) (hSh : ShR R) (hx0 : Ok 194 x0 11) (ho : Ok 194 o 40001) : CtW l g 20 yL_planTime cL_planTime 4 (some .int) [(0, 9, 12, 19), (0, 9, 15, 106)] 2 12 [.ref (gb g + x0), .int a1, .ref (gb g + o)] (mkS σ R L) (fun w σ' => w = some (.int 2) ∧ σ' = mkS σ1 R L) := by
  refine met_ofWH (cc := cL_planTime) (maxL := 4) (ret := (some .int)) (hh := [(0, 9, 12, 19), (0, 9, 15, 106)]) (by decide) rfl ?_
  intro p e s m args below meth c s₁ B hml hT hv
  obtain ⟨rfl, hE, hLo, hWd⟩ := hv
  have hr : meth.sig.returnType = (some .int) := B.returns
  have C : Cx l g p s m meth c cL_planTime 4 RL := ⟨B.exec, B.bytes, hml, findClass_of_methodNamed B.named, hE, hLo, B.notSynchronized⟩
  have S : S2 g s σ R L s.heap [] := ⟨hWd, va_S.rf⟩
  have hx := C.1
  have hb := C.2.1
  have hl := lv_entry ([.ref (gb g + x0), .int a1, .ref (gb g + o)]) (n := 4) (Nat.le_of_ble_eq_true rfl)
  rw [lg_entry_eq]
  generalize (lg_sl ([.ref (gb g + x0), .int a1, .ref (gb g + o)]) ++ List.replicate (4 - (lg_sl ([.ref (gb g + x0), .int a1, .ref (gb g + o)])).length) Slot.unset).toArray = ls at hl ⊢
  have hl : lv_has ls 4 [(0, .ref (gb g + x0)), (1, .int a1), (2, .ref (gb g + o))] := hl
  generalize hH : s.heap = H at S ⊢
  generalize hlc : ([] : List Loc) = locs at S ⊢
  refine lv_aload_n hx hb dL_planTime_0 rfl (lv_at hl 2 rfl) ?_
  refine lv_iconst (v := (0 : Int32)) hx hb dL_planTime_1 (by decide) ?_
  refine lv_aload_n hx hb dL_planTime_2 rfl (lv_at hl 0 rfl) ?_
  refine lv_iload_n hx hb dL_planTime_3 rfl (lv_at hl 1 rfl) ?_
  refine v_callVC C S KX11 hx0 (ok_X11_planTime (L := L) hm hSh hx0) ⟨cd_X11_planTime, ni_RX11, ml_RL_150, in_X11_planTime, sl_X11_planTime⟩ ⟨by decide, by decide⟩ rfl (rm_ok (by decide) (by decide)) hl.1 rfl (Nat.le_of_ble_eq_true rfl) ⟨by decide, by decide⟩ dL_planTime_4 (fun v σ' H locs hp S => ?_) (fun E σ' H locs q ce hp S hcell hcv hcl => ?_)
  · obtain ⟨k, hk, -⟩ := hp
    cases hk
  · obtain ⟨k, hk, rfl, rfl⟩ := hp
    cases hk
    have S : S2 g s σ1 R L H locs := S
    refine x_catch (E := "java/lang/IllegalStateException") C [⟨0, 9, 12, 19⟩] ⟨0, 9, 15, 106⟩ [] (hT.trans rfl) (fun z hz => by rw [List.mem_singleton.mp hz]; exact ⟨by decide, "java/lang/IndexOutOfBoundsException", cl_RL_19, by decide⟩) (by decide) (by decide) cl_RL_106 ca_2 hcell hcv hcl ?_
    refine lv_astore_n (lv' := [(3, .ref q), (0, .ref (gb g + x0)), (1, .int a1), (2, .ref (gb g + o))]) hx hb dL_planTime_15 rfl hl (by decide) rfl (fun ls hl => ?_)
    refine lv_iconst (v := (2 : Int32)) hx hb dL_planTime_16 (by decide) ?_
    exact v_iret C S hr ⟨rfl, rfl⟩ dL_planTime_17
set_option maxHeartbeats 4000000 in
set_option maxRecDepth 100000 in
theorem h_applyPlan_ret {l : Launch} {g : GL} {R : Nat → Nat → Nat} {L : Nat → Nat → Int64} {N : Nat} {σ σ1 : SI} {x0 o : Nat} {v : Int32} (hm : f_X11_applyPlan N R σ x0 = some (.inl v, σ1)) (hSh : ShR R) (hx0 : Ok 194 x0 11) (ho : Ok 194 o 40001) : CtW l g 20 yL_applyPlan cL_applyPlan 3 (some .int) [(0, 8, 11, 106)] 2 12 [.ref (gb g + x0), .ref (gb g + o)] (mkS σ R L) (fun w σ' => w = some (.int 0) ∧ σ' = uL (mkS σ1 R L) o 0 v.toInt64) := by
  refine met_ofWH (cc := cL_applyPlan) (maxL := 3) (ret := (some .int)) (hh := [(0, 8, 11, 106)]) (by decide) rfl ?_
  intro p e s m args below meth c s₁ B hml hT hv
  obtain ⟨rfl, hE, hLo, hWd⟩ := hv
  have hr : meth.sig.returnType = (some .int) := B.returns
  have C : Cx l g p s m meth c cL_applyPlan 3 RL := ⟨B.exec, B.bytes, hml, findClass_of_methodNamed B.named, hE, hLo, B.notSynchronized⟩
  have S : S2 g s σ R L s.heap [] := ⟨hWd, va_S.rf⟩
  have hx := C.1
  have hb := C.2.1
  have hl := lv_entry ([.ref (gb g + x0), .ref (gb g + o)]) (n := 3) (Nat.le_of_ble_eq_true rfl)
  rw [lg_entry_eq]
  generalize (lg_sl ([.ref (gb g + x0), .ref (gb g + o)]) ++ List.replicate (3 - (lg_sl ([.ref (gb g + x0), .ref (gb g + o)])).length) Slot.unset).toArray = ls at hl ⊢
  have hl : lv_has ls 3 [(0, .ref (gb g + x0)), (1, .ref (gb g + o))] := hl
  generalize hH : s.heap = H at S ⊢
  generalize hlc : ([] : List Loc) = locs at S ⊢
  refine lv_aload_n hx hb dL_applyPlan_0 rfl (lv_at hl 1 rfl) ?_
  refine lv_iconst (v := (0 : Int32)) hx hb dL_applyPlan_1 (by decide) ?_
  refine lv_aload_n hx hb dL_applyPlan_2 rfl (lv_at hl 0 rfl) ?_
  refine v_callVC C S KX11 hx0 (ok_X11_applyPlan (L := L) hm hSh hx0) ⟨cd_X11_applyPlan, ni_RX11, ml_RL_153, in_X11_applyPlan, sl_X11_applyPlan⟩ ⟨by decide, by decide⟩ rfl (rm_ok (by decide) (by decide)) hl.1 rfl (Nat.le_of_ble_eq_true rfl) ⟨by decide, by decide⟩ dL_applyPlan_3 (fun v σ' H locs hp S => ?_) (fun E σ' H locs q ce hp S hcell hcv hcl => ?_)
  · obtain ⟨_, hk, rfl, rfl⟩ := hp
    cases hk
    have S : S2 g s σ1 R L H locs := S
    refine lv_i2l hx hb dL_applyPlan_6 rfl ?_
    refine x_last C S ho dL_applyPlan_7 (fun H locs S => ?_)
    refine lv_goto (tgt := 14) hx hb dL_applyPlan_8 (by decide) ?_
    refine lv_iconst (v := (0 : Int32)) hx hb dL_applyPlan_14 (by decide) ?_
    exact v_iret C S hr ⟨rfl, rfl⟩ dL_applyPlan_15
  · obtain ⟨k, hk, -⟩ := hp
    cases hk
set_option maxHeartbeats 4000000 in
set_option maxRecDepth 100000 in
theorem h_applyPlan_x2 {l : Launch} {g : GL} {R : Nat → Nat → Nat} {L : Nat → Nat → Int64} {N : Nat} {σ σ1 : SI} {x0 o : Nat} (hm : f_X11_applyPlan N R σ x0 = some (.inr 2, σ1)) (hSh : ShR R) (hx0 : Ok 194 x0 11) (ho : Ok 194 o 40001) : CtW l g 20 yL_applyPlan cL_applyPlan 3 (some .int) [(0, 8, 11, 106)] 2 12 [.ref (gb g + x0), .ref (gb g + o)] (mkS σ R L) (fun w σ' => w = some (.int 1) ∧ σ' = mkS σ1 R L) := by
  refine met_ofWH (cc := cL_applyPlan) (maxL := 3) (ret := (some .int)) (hh := [(0, 8, 11, 106)]) (by decide) rfl ?_
  intro p e s m args below meth c s₁ B hml hT hv
  obtain ⟨rfl, hE, hLo, hWd⟩ := hv
  have hr : meth.sig.returnType = (some .int) := B.returns
  have C : Cx l g p s m meth c cL_applyPlan 3 RL := ⟨B.exec, B.bytes, hml, findClass_of_methodNamed B.named, hE, hLo, B.notSynchronized⟩
  have S : S2 g s σ R L s.heap [] := ⟨hWd, va_S.rf⟩
  have hx := C.1
  have hb := C.2.1
  have hl := lv_entry ([.ref (gb g + x0), .ref (gb g + o)]) (n := 3) (Nat.le_of_ble_eq_true rfl)
  rw [lg_entry_eq]
  generalize (lg_sl ([.ref (gb g + x0), .ref (gb g + o)]) ++ List.replicate (3 - (lg_sl ([.ref (gb g + x0), .ref (gb g + o)])).length) Slot.unset).toArray = ls at hl ⊢
  have hl : lv_has ls 3 [(0, .ref (gb g + x0)), (1, .ref (gb g + o))] := hl
  generalize hH : s.heap = H at S ⊢
  generalize hlc : ([] : List Loc) = locs at S ⊢
  refine lv_aload_n hx hb dL_applyPlan_0 rfl (lv_at hl 1 rfl) ?_
  refine lv_iconst (v := (0 : Int32)) hx hb dL_applyPlan_1 (by decide) ?_
  refine lv_aload_n hx hb dL_applyPlan_2 rfl (lv_at hl 0 rfl) ?_
  refine v_callVC C S KX11 hx0 (ok_X11_applyPlan (L := L) hm hSh hx0) ⟨cd_X11_applyPlan, ni_RX11, ml_RL_153, in_X11_applyPlan, sl_X11_applyPlan⟩ ⟨by decide, by decide⟩ rfl (rm_ok (by decide) (by decide)) hl.1 rfl (Nat.le_of_ble_eq_true rfl) ⟨by decide, by decide⟩ dL_applyPlan_3 (fun v σ' H locs hp S => ?_) (fun E σ' H locs q ce hp S hcell hcv hcl => ?_)
  · obtain ⟨k, hk, -⟩ := hp
    cases hk
  · obtain ⟨k, hk, rfl, rfl⟩ := hp
    cases hk
    have S : S2 g s σ1 R L H locs := S
    refine x_catch (E := "java/lang/IllegalStateException") C [] ⟨0, 8, 11, 106⟩ [] (hT.trans rfl) (fun z hz => by cases hz) (by decide) (by decide) cl_RL_106 ca_2 hcell hcv hcl ?_
    refine lv_astore_n (lv' := [(2, .ref q), (0, .ref (gb g + x0)), (1, .ref (gb g + o))]) hx hb dL_applyPlan_11 rfl hl (by decide) rfl (fun ls hl => ?_)
    refine lv_iconst (v := (1 : Int32)) hx hb dL_applyPlan_12 (by decide) ?_
    exact v_iret C S hr ⟨rfl, rfl⟩ dL_applyPlan_13
set_option maxHeartbeats 4000000 in
set_option maxRecDepth 100000 in
theorem h_format_ret {l : Launch} {g : GL} {R : Nat → Nat → Nat} {L : Nat → Nat → Int64} {N : Nat} {σ σ1 : SI} {x0 o : Nat} {a1 : Int32} {v : Int32} (hm : f_X11_format N R σ x0 a1 = some (.inl v, σ1)) (hSh : ShR R) (hx0 : Ok 194 x0 11) (ho : Ok 194 o 40001) : CtW l g 9 yL_format cL_format 4 (some .int) [(0, 9, 12, 19)] 1 6 [.ref (gb g + x0), .int a1, .ref (gb g + o)] (mkS σ R L) (fun w σ' => w = some (.int 0) ∧ σ' = uL (mkS σ1 R L) o 0 v.toInt64) := by
  refine met_ofWH (cc := cL_format) (maxL := 4) (ret := (some .int)) (hh := [(0, 9, 12, 19)]) (by decide) rfl ?_
  intro p e s m args below meth c s₁ B hml hT hv
  obtain ⟨rfl, hE, hLo, hWd⟩ := hv
  have hr : meth.sig.returnType = (some .int) := B.returns
  have C : Cx l g p s m meth c cL_format 4 RL := ⟨B.exec, B.bytes, hml, findClass_of_methodNamed B.named, hE, hLo, B.notSynchronized⟩
  have S : S2 g s σ R L s.heap [] := ⟨hWd, va_S.rf⟩
  have hx := C.1
  have hb := C.2.1
  have hl := lv_entry ([.ref (gb g + x0), .int a1, .ref (gb g + o)]) (n := 4) (Nat.le_of_ble_eq_true rfl)
  rw [lg_entry_eq]
  generalize (lg_sl ([.ref (gb g + x0), .int a1, .ref (gb g + o)]) ++ List.replicate (4 - (lg_sl ([.ref (gb g + x0), .int a1, .ref (gb g + o)])).length) Slot.unset).toArray = ls at hl ⊢
  have hl : lv_has ls 4 [(0, .ref (gb g + x0)), (1, .int a1), (2, .ref (gb g + o))] := hl
  generalize hH : s.heap = H at S ⊢
  generalize hlc : ([] : List Loc) = locs at S ⊢
  refine lv_aload_n hx hb dL_format_0 rfl (lv_at hl 2 rfl) ?_
  refine lv_iconst (v := (0 : Int32)) hx hb dL_format_1 (by decide) ?_
  refine lv_aload_n hx hb dL_format_2 rfl (lv_at hl 0 rfl) ?_
  refine lv_iload_n hx hb dL_format_3 rfl (lv_at hl 1 rfl) ?_
  refine v_callVC C S KX11 hx0 (ok_X11_format (L := L) hm hSh hx0) ⟨cd_X11_format, ni_RX11, ml_RL_156, in_X11_format, sl_X11_format⟩ ⟨by decide, by decide⟩ rfl (rm_ok (by decide) (by decide)) hl.1 rfl (Nat.le_of_ble_eq_true rfl) ⟨by decide, by decide⟩ dL_format_4 (fun v σ' H locs hp S => ?_) (fun E σ' H locs q ce hp S hcell hcv hcl => ?_)
  · obtain ⟨_, hk, rfl, rfl⟩ := hp
    cases hk
    have S : S2 g s σ1 R L H locs := S
    refine lv_i2l hx hb dL_format_7 rfl ?_
    refine x_last C S ho dL_format_8 (fun H locs S => ?_)
    refine lv_goto (tgt := 15) hx hb dL_format_9 (by decide) ?_
    refine lv_iconst (v := (0 : Int32)) hx hb dL_format_15 (by decide) ?_
    exact v_iret C S hr ⟨rfl, rfl⟩ dL_format_16
  · obtain ⟨k, hk, -⟩ := hp
    cases hk
set_option maxHeartbeats 4000000 in
set_option maxRecDepth 100000 in
theorem h_format_x0 {l : Launch} {g : GL} {R : Nat → Nat → Nat} {L : Nat → Nat → Int64} {N : Nat} {σ σ1 : SI} {x0 o : Nat} {a1 : Int32} (hm : f_X11_format N R σ x0 a1 = some (.inr 0, σ1)) (hSh : ShR R) (hx0 : Ok 194 x0 11) (ho : Ok 194 o 40001) : CtW l g 9 yL_format cL_format 4 (some .int) [(0, 9, 12, 19)] 1 6 [.ref (gb g + x0), .int a1, .ref (gb g + o)] (mkS σ R L) (fun w σ' => w = some (.int 1) ∧ σ' = mkS σ1 R L) := by
  refine met_ofWH (cc := cL_format) (maxL := 4) (ret := (some .int)) (hh := [(0, 9, 12, 19)]) (by decide) rfl ?_
  intro p e s m args below meth c s₁ B hml hT hv
  obtain ⟨rfl, hE, hLo, hWd⟩ := hv
  have hr : meth.sig.returnType = (some .int) := B.returns
  have C : Cx l g p s m meth c cL_format 4 RL := ⟨B.exec, B.bytes, hml, findClass_of_methodNamed B.named, hE, hLo, B.notSynchronized⟩
  have S : S2 g s σ R L s.heap [] := ⟨hWd, va_S.rf⟩
  have hx := C.1
  have hb := C.2.1
  have hl := lv_entry ([.ref (gb g + x0), .int a1, .ref (gb g + o)]) (n := 4) (Nat.le_of_ble_eq_true rfl)
  rw [lg_entry_eq]
  generalize (lg_sl ([.ref (gb g + x0), .int a1, .ref (gb g + o)]) ++ List.replicate (4 - (lg_sl ([.ref (gb g + x0), .int a1, .ref (gb g + o)])).length) Slot.unset).toArray = ls at hl ⊢
  have hl : lv_has ls 4 [(0, .ref (gb g + x0)), (1, .int a1), (2, .ref (gb g + o))] := hl
  generalize hH : s.heap = H at S ⊢
  generalize hlc : ([] : List Loc) = locs at S ⊢
  refine lv_aload_n hx hb dL_format_0 rfl (lv_at hl 2 rfl) ?_
  refine lv_iconst (v := (0 : Int32)) hx hb dL_format_1 (by decide) ?_
  refine lv_aload_n hx hb dL_format_2 rfl (lv_at hl 0 rfl) ?_
  refine lv_iload_n hx hb dL_format_3 rfl (lv_at hl 1 rfl) ?_
  refine v_callVC C S KX11 hx0 (ok_X11_format (L := L) hm hSh hx0) ⟨cd_X11_format, ni_RX11, ml_RL_156, in_X11_format, sl_X11_format⟩ ⟨by decide, by decide⟩ rfl (rm_ok (by decide) (by decide)) hl.1 rfl (Nat.le_of_ble_eq_true rfl) ⟨by decide, by decide⟩ dL_format_4 (fun v σ' H locs hp S => ?_) (fun E σ' H locs q ce hp S hcell hcv hcl => ?_)
  · obtain ⟨k, hk, -⟩ := hp
    cases hk
  · obtain ⟨k, hk, rfl, rfl⟩ := hp
    cases hk
    have S : S2 g s σ1 R L H locs := S
    refine x_catch (E := "java/lang/IndexOutOfBoundsException") C [] ⟨0, 9, 12, 19⟩ [] (hT.trans rfl) (fun z hz => by cases hz) (by decide) (by decide) cl_RL_19 ca_0 hcell hcv hcl ?_
    refine lv_astore_n (lv' := [(3, .ref q), (0, .ref (gb g + x0)), (1, .int a1), (2, .ref (gb g + o))]) hx hb dL_format_12 rfl hl (by decide) rfl (fun ls hl => ?_)
    refine lv_iconst (v := (1 : Int32)) hx hb dL_format_13 (by decide) ?_
    exact v_iret C S hr ⟨rfl, rfl⟩ dL_format_14
