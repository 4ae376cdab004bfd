/-! ===== more words; what a throw reads of the tables ===== -/
set_option maxRecDepth 100000 in
theorem cl_RX11_356 : Cond.classLink RX11 356 "java/lang/IndexOutOfBoundsException" ∈ BW := bw_in (List.mem_of_getElem? (i := 1000) (by rfl)) (by rfl)
set_option maxRecDepth 100000 in
theorem ni_ex0 : Cond.initialized "java/lang/IndexOutOfBoundsException" ∈ BW := bw_in (List.mem_of_getElem? (i := 137) (by rfl)) (by rfl)
set_option maxRecDepth 100000 in
theorem cd_X11_needBlast : Cond.code yX11_needBlast cX11_needBlast 2 none ∈ BW := bw_in (List.mem_of_getElem? (i := 999) (by rfl)) (by rfl)
set_option maxRecDepth 100000 in
theorem ml_RX11_225 : Cond.methodLink RX11 225 yX11_needBlast ∈ BW := bw_in (List.mem_of_getElem? (i := 996) (by rfl)) (by rfl)
set_option maxRecDepth 100000 in
theorem in_X11_needBlast : Cond.instanceMethod yX11_needBlast ∈ BW := bw_in (List.mem_of_getElem? (i := 998) (by rfl)) (by rfl)
set_option maxRecDepth 100000 in
theorem sl_X11_needBlast : Cond.selects RX11 yX11_needBlast yX11_needBlast ∈ BW := bw_in (List.mem_of_getElem? (i := 20) (by rfl)) (by rfl)
set_option maxRecDepth 100000 in
theorem fl_RX11_361 : Cond.fieldLink RX11 361 "BlastPlanner$Site" "blasts" "[LBlastPlanner$Blast;" ∈ BW := bw_in (List.mem_of_getElem? (i := 436) (by rfl)) (by rfl)
set_option maxRecDepth 100000 in
theorem fl_RX11_367 : Cond.fieldLink RX11 367 "BlastPlanner$Site" "neighbours" "[LBlastPlanner$Neighbour;" ∈ BW := bw_in (List.mem_of_getElem? (i := 428) (by rfl)) (by rfl)
set_option maxRecDepth 100000 in
theorem fl_RX11_373 : Cond.fieldLink RX11 373 "BlastPlanner$Site" "roads" "[LBlastPlanner$Road;" ∈ BW := bw_in (List.mem_of_getElem? (i := 431) (by rfl)) (by rfl)
set_option maxRecDepth 100000 in
theorem fl_RX11_129 : Cond.fieldLink RX11 129 "BlastPlanner$Blast" "charges" "I" ∈ BW := bw_in (List.mem_of_getElem? (i := 374) (by rfl)) (by rfl)
set_option maxRecDepth 100000 in
theorem cl_RX11_90 : Cond.classLink RX11 90 "java/lang/IllegalArgumentException" ∈ BW := bw_in (List.mem_of_getElem? (i := 881) (by rfl)) (by rfl)
set_option maxRecDepth 100000 in
theorem ni_ex1 : Cond.initialized "java/lang/IllegalArgumentException" ∈ BW := bw_in (List.mem_of_getElem? (i := 135) (by rfl)) (by rfl)
set_option maxRecDepth 100000 in
theorem cl_RX11_257 : Cond.classLink RX11 257 "java/lang/IllegalStateException" ∈ BW := bw_in (List.mem_of_getElem? (i := 1276) (by rfl)) (by rfl)
set_option maxRecDepth 100000 in
theorem ni_ex2 : Cond.initialized "java/lang/IllegalStateException" ∈ BW := bw_in (List.mem_of_getElem? (i := 138) (by rfl)) (by rfl)
set_option maxRecDepth 100000 in
theorem fl_RX11_231 : Cond.fieldLink RX11 231 "BlastPlanner$Blast" "fired" "Z" ∈ BW := bw_in (List.mem_of_getElem? (i := 392) (by rfl)) (by rfl)
set_option maxRecDepth 100000 in
theorem ml_RX12_55 : Cond.methodLink RX12 55 yJ0_length_8abf5 ∈ BW := bw_in (List.mem_of_getElem? (i := 1666) (by rfl)) (by rfl)
set_option maxRecDepth 100000 in
theorem ml_RX12_60 : Cond.methodLink RX12 60 yJ0_charAt_5068e ∈ BW := bw_in (List.mem_of_getElem? (i := 1667) (by rfl)) (by rfl)
set_option maxRecDepth 100000 in
theorem cd_X12_takesWord : Cond.code yX12_takesWord cX12_takesWord 4 (some .boolean) ∈ BW := bw_in (List.mem_of_getElem? (i := 1661) (by rfl)) (by rfl)
set_option maxRecDepth 100000 in
theorem ml_RX12_75 : Cond.methodLink RX12 75 yX12_takesWord ∈ BW := bw_in (List.mem_of_getElem? (i := 1658) (by rfl)) (by rfl)
set_option maxRecDepth 100000 in
theorem in_X12_takesWord : Cond.instanceMethod yX12_takesWord ∈ BW := bw_in (List.mem_of_getElem? (i := 1660) (by rfl)) (by rfl)
set_option maxRecDepth 100000 in
theorem sl_X12_takesWord : Cond.selects RX12 yX12_takesWord yX12_takesWord ∈ BW := bw_in (List.mem_of_getElem? (i := 47) (by rfl)) (by rfl)
set_option maxRecDepth 100000 in
theorem cd_X12_after : Cond.code yX12_after cX12_after 4 (some .int) ∈ BW := bw_in (List.mem_of_getElem? (i := 1709) (by rfl)) (by rfl)
set_option maxRecDepth 100000 in
theorem ml_RX12_138 : Cond.methodLink RX12 138 yX12_after ∈ BW := bw_in (List.mem_of_getElem? (i := 1706) (by rfl)) (by rfl)
set_option maxRecDepth 100000 in
theorem in_X12_after : Cond.instanceMethod yX12_after ∈ BW := bw_in (List.mem_of_getElem? (i := 1708) (by rfl)) (by rfl)
set_option maxRecDepth 100000 in
theorem sl_X12_after : Cond.selects RX12 yX12_after yX12_after ∈ BW := bw_in (List.mem_of_getElem? (i := 56) (by rfl)) (by rfl)
set_option maxRecDepth 100000 in
theorem cd_X12_startsWith : Cond.code yX12_startsWith cX12_startsWith 3 (some .boolean) ∈ BW := bw_in (List.mem_of_getElem? (i := 1657) (by rfl)) (by rfl)
set_option maxRecDepth 100000 in
theorem ml_RX12_149 : Cond.methodLink RX12 149 yX12_startsWith ∈ BW := bw_in (List.mem_of_getElem? (i := 1654) (by rfl)) (by rfl)
set_option maxRecDepth 100000 in
theorem in_X12_startsWith : Cond.instanceMethod yX12_startsWith ∈ BW := bw_in (List.mem_of_getElem? (i := 1656) (by rfl)) (by rfl)
set_option maxRecDepth 100000 in
theorem sl_X12_startsWith : Cond.selects RX12 yX12_startsWith yX12_startsWith ∈ BW := bw_in (List.mem_of_getElem? (i := 46) (by rfl)) (by rfl)
set_option maxRecDepth 100000 in
theorem cd_X12_blastLine : Cond.code yX12_blastLine cX12_blastLine 4 none ∈ BW := bw_in (List.mem_of_getElem? (i := 1723) (by rfl)) (by rfl)
set_option maxRecDepth 100000 in
theorem ml_RX12_179 : Cond.methodLink RX12 179 yX12_blastLine ∈ BW := bw_in (List.mem_of_getElem? (i := 1720) (by rfl)) (by rfl)
set_option maxRecDepth 100000 in
theorem in_X12_blastLine : Cond.instanceMethod yX12_blastLine ∈ BW := bw_in (List.mem_of_getElem? (i := 1722) (by rfl)) (by rfl)
set_option maxRecDepth 100000 in
theorem sl_X12_blastLine : Cond.selects RX12 yX12_blastLine yX12_blastLine ∈ BW := bw_in (List.mem_of_getElem? (i := 59) (by rfl)) (by rfl)
set_option maxRecDepth 100000 in
theorem cd_X12_roadLine : Cond.code yX12_roadLine cX12_roadLine 3 none ∈ BW := bw_in (List.mem_of_getElem? (i := 1714) (by rfl)) (by rfl)
set_option maxRecDepth 100000 in
theorem ml_RX12_174 : Cond.methodLink RX12 174 yX12_roadLine ∈ BW := bw_in (List.mem_of_getElem? (i := 1711) (by rfl)) (by rfl)
set_option maxRecDepth 100000 in
theorem in_X12_roadLine : Cond.instanceMethod yX12_roadLine ∈ BW := bw_in (List.mem_of_getElem? (i := 1713) (by rfl)) (by rfl)
set_option maxRecDepth 100000 in
theorem sl_X12_roadLine : Cond.selects RX12 yX12_roadLine yX12_roadLine ∈ BW := bw_in (List.mem_of_getElem? (i := 57) (by rfl)) (by rfl)
set_option maxRecDepth 100000 in
theorem cd_X12_nearLine : Cond.code yX12_nearLine cX12_nearLine 5 none ∈ BW := bw_in (List.mem_of_getElem? (i := 1699) (by rfl)) (by rfl)
set_option maxRecDepth 100000 in
theorem ml_RX12_169 : Cond.methodLink RX12 169 yX12_nearLine ∈ BW := bw_in (List.mem_of_getElem? (i := 1696) (by rfl)) (by rfl)
set_option maxRecDepth 100000 in
theorem in_X12_nearLine : Cond.instanceMethod yX12_nearLine ∈ BW := bw_in (List.mem_of_getElem? (i := 1698) (by rfl)) (by rfl)
set_option maxRecDepth 100000 in
theorem sl_X12_nearLine : Cond.selects RX12 yX12_nearLine yX12_nearLine ∈ BW := bw_in (List.mem_of_getElem? (i := 54) (by rfl)) (by rfl)
set_option maxRecDepth 100000 in
theorem cd_X12_windLine : Cond.code yX12_windLine cX12_windLine 4 none ∈ BW := bw_in (List.mem_of_getElem? (i := 1694) (by rfl)) (by rfl)
set_option maxRecDepth 100000 in
theorem ml_RX12_164 : Cond.methodLink RX12 164 yX12_windLine ∈ BW := bw_in (List.mem_of_getElem? (i := 1691) (by rfl)) (by rfl)
set_option maxRecDepth 100000 in
theorem in_X12_windLine : Cond.instanceMethod yX12_windLine ∈ BW := bw_in (List.mem_of_getElem? (i := 1693) (by rfl)) (by rfl)
set_option maxRecDepth 100000 in
theorem sl_X12_windLine : Cond.selects RX12 yX12_windLine yX12_windLine ∈ BW := bw_in (List.mem_of_getElem? (i := 53) (by rfl)) (by rfl)
set_option maxRecDepth 100000 in
theorem cd_X12_dayLine : Cond.code yX12_dayLine cX12_dayLine 1 none ∈ BW := bw_in (List.mem_of_getElem? (i := 1675) (by rfl)) (by rfl)
set_option maxRecDepth 100000 in
theorem ml_RX12_153 : Cond.methodLink RX12 153 yX12_dayLine ∈ BW := bw_in (List.mem_of_getElem? (i := 1672) (by rfl)) (by rfl)
set_option maxRecDepth 100000 in
theorem in_X12_dayLine : Cond.instanceMethod yX12_dayLine ∈ BW := bw_in (List.mem_of_getElem? (i := 1674) (by rfl)) (by rfl)
set_option maxRecDepth 100000 in
theorem sl_X12_dayLine : Cond.selects RX12 yX12_dayLine yX12_dayLine ∈ BW := bw_in (List.mem_of_getElem? (i := 50) (by rfl)) (by rfl)
set_option maxRecDepth 100000 in
theorem cd_X12_line : Cond.code yX12_line cX12_line 1 none ∈ BW := bw_in (List.mem_of_getElem? (i := 1652) (by rfl)) (by rfl)
set_option maxRecDepth 100000 in
theorem ml_RX12_182 : Cond.methodLink RX12 182 yX12_line ∈ BW := bw_in (List.mem_of_getElem? (i := 1649) (by rfl)) (by rfl)
set_option maxRecDepth 100000 in
theorem in_X12_line : Cond.instanceMethod yX12_line ∈ BW := bw_in (List.mem_of_getElem? (i := 1651) (by rfl)) (by rfl)
set_option maxRecDepth 100000 in
theorem sl_X12_line : Cond.selects RX12 yX12_line yX12_line ∈ BW := bw_in (List.mem_of_getElem? (i := 45) (by rfl)) (by rfl)
set_option maxRecDepth 100000 in
theorem cd_X12_saysNumber : Cond.code yX12_saysNumber cX12_saysNumber 2 none ∈ BW := bw_in (List.mem_of_getElem? (i := 2165) (by rfl)) (by rfl)
set_option maxRecDepth 100000 in
theorem ml_RX12_369 : Cond.methodLink RX12 369 yX12_saysNumber ∈ BW := bw_in (List.mem_of_getElem? (i := 2162) (by rfl)) (by rfl)
set_option maxRecDepth 100000 in
theorem in_X12_saysNumber : Cond.instanceMethod yX12_saysNumber ∈ BW := bw_in (List.mem_of_getElem? (i := 2164) (by rfl)) (by rfl)
set_option maxRecDepth 100000 in
theorem sl_X12_saysNumber : Cond.selects RX12 yX12_saysNumber yX12_saysNumber ∈ BW := bw_in (List.mem_of_getElem? (i := 112) (by rfl)) (by rfl)
set_option maxRecDepth 100000 in
theorem cd_X12_saysWord : Cond.code yX12_saysWord cX12_saysWord 3 none ∈ BW := bw_in (List.mem_of_getElem? (i := 2170) (by rfl)) (by rfl)
set_option maxRecDepth 100000 in
theorem ml_RX12_377 : Cond.methodLink RX12 377 yX12_saysWord ∈ BW := bw_in (List.mem_of_getElem? (i := 2167) (by rfl)) (by rfl)
set_option maxRecDepth 100000 in
theorem in_X12_saysWord : Cond.instanceMethod yX12_saysWord ∈ BW := bw_in (List.mem_of_getElem? (i := 2169) (by rfl)) (by rfl)
set_option maxRecDepth 100000 in
theorem sl_X12_saysWord : Cond.selects RX12 yX12_saysWord yX12_saysWord ∈ BW := bw_in (List.mem_of_getElem? (i := 113) (by rfl)) (by rfl)
set_option maxRecDepth 100000 in
theorem ml_RX1_56 : Cond.methodLink RX1 56 yJ0_length_8abf5 ∈ BW := bw_in (List.mem_of_getElem? (i := 1518) (by rfl)) (by rfl)
set_option maxRecDepth 100000 in
theorem ml_RX1_61 : Cond.methodLink RX1 61 yJ0_charAt_5068e ∈ BW := bw_in (List.mem_of_getElem? (i := 1519) (by rfl)) (by rfl)
set_option maxRecDepth 100000 in
theorem ml_RX10_39 : Cond.methodLink RX10 39 yJ0_length_8abf5 ∈ BW := bw_in (List.mem_of_getElem? (i := 753) (by rfl)) (by rfl)
set_option maxRecDepth 100000 in
theorem ml_RX10_44 : Cond.methodLink RX10 44 yJ0_charAt_5068e ∈ BW := bw_in (List.mem_of_getElem? (i := 763) (by rfl)) (by rfl)
set_option maxRecDepth 100000 in
theorem cd_X11_blastAt : Cond.code yX11_blastAt cX11_blastAt 2 (some (.object "BlastPlanner$Blast")) ∈ BW := bw_in (List.mem_of_getElem? (i := 995) (by rfl)) (by rfl)
set_option maxRecDepth 100000 in
theorem ml_RX11_125 : Cond.methodLink RX11 125 yX11_blastAt ∈ BW := bw_in (List.mem_of_getElem? (i := 992) (by rfl)) (by rfl)
set_option maxRecDepth 100000 in
theorem in_X11_blastAt : Cond.instanceMethod yX11_blastAt ∈ BW := bw_in (List.mem_of_getElem? (i := 994) (by rfl)) (by rfl)
set_option maxRecDepth 100000 in
theorem sl_X11_blastAt : Cond.selects RX11 yX11_blastAt yX11_blastAt ∈ BW := bw_in (List.mem_of_getElem? (i := 19) (by rfl)) (by rfl)
set_option maxRecDepth 100000 in
theorem cd_X11_needCharge : Cond.code yX11_needCharge cX11_needCharge 3 none ∈ BW := bw_in (List.mem_of_getElem? (i := 1026) (by rfl)) (by rfl)
set_option maxRecDepth 100000 in
theorem ml_RX11_134 : Cond.methodLink RX11 134 yX11_needCharge ∈ BW := bw_in (List.mem_of_getElem? (i := 1023) (by rfl)) (by rfl)
set_option maxRecDepth 100000 in
theorem in_X11_needCharge : Cond.instanceMethod yX11_needCharge ∈ BW := bw_in (List.mem_of_getElem? (i := 1025) (by rfl)) (by rfl)
set_option maxRecDepth 100000 in
theorem sl_X11_needCharge : Cond.selects RX11 yX11_needCharge yX11_needCharge ∈ BW := bw_in (List.mem_of_getElem? (i := 21) (by rfl)) (by rfl)
set_option maxRecDepth 100000 in
theorem fl_RX11_138 : Cond.fieldLink RX11 138 "BlastPlanner$Blast" "sizes" "[I" ∈ BW := bw_in (List.mem_of_getElem? (i := 355) (by rfl)) (by rfl)
set_option maxRecDepth 100000 in
theorem fl_RX11_141 : Cond.fieldLink RX11 141 "BlastPlanner$Blast" "delays" "[I" ∈ BW := bw_in (List.mem_of_getElem? (i := 358) (by rfl)) (by rfl)
set_option maxRecDepth 100000 in
theorem cd_X0_sumOfSizes : Cond.code yX0_sumOfSizes cX0_sumOfSizes 3 (some .int) ∈ BW := bw_in (List.mem_of_getElem? (i := 1045) (by rfl)) (by rfl)
set_option maxRecDepth 100000 in
theorem ml_RX11_144 : Cond.methodLink RX11 144 yX0_sumOfSizes ∈ BW := bw_in (List.mem_of_getElem? (i := 1042) (by rfl)) (by rfl)
set_option maxRecDepth 100000 in
theorem in_X0_sumOfSizes : Cond.instanceMethod yX0_sumOfSizes ∈ BW := bw_in (List.mem_of_getElem? (i := 1043) (by rfl)) (by rfl)
set_option maxRecDepth 100000 in
theorem sl_X0_sumOfSizes : Cond.selects RX0 yX0_sumOfSizes yX0_sumOfSizes ∈ BW := bw_in (List.mem_of_getElem? (i := 1044) (by rfl)) (by rfl)
set_option maxRecDepth 100000 in
theorem cd_X0_spanOfDelays : Cond.code yX0_spanOfDelays cX0_spanOfDelays 4 (some .int) ∈ BW := bw_in (List.mem_of_getElem? (i := 1056) (by rfl)) (by rfl)
set_option maxRecDepth 100000 in
theorem ml_RX11_147 : Cond.methodLink RX11 147 yX0_spanOfDelays ∈ BW := bw_in (List.mem_of_getElem? (i := 1053) (by rfl)) (by rfl)
set_option maxRecDepth 100000 in
theorem in_X0_spanOfDelays : Cond.instanceMethod yX0_spanOfDelays ∈ BW := bw_in (List.mem_of_getElem? (i := 1054) (by rfl)) (by rfl)
set_option maxRecDepth 100000 in
theorem sl_X0_spanOfDelays : Cond.selects RX0 yX0_spanOfDelays yX0_spanOfDelays ∈ BW := bw_in (List.mem_of_getElem? (i := 1055) (by rfl)) (by rfl)
set_option maxRecDepth 100000 in
theorem fl_RX11_150 : Cond.fieldLink RX11 150 "BlastPlanner$Blast" "windowSum" "I" ∈ BW := bw_in (List.mem_of_getElem? (i := 378) (by rfl)) (by rfl)
set_option maxRecDepth 100000 in
theorem fl_RX11_153 : Cond.fieldLink RX11 153 "BlastPlanner$Blast" "windowFirst" "I" ∈ BW := bw_in (List.mem_of_getElem? (i := 380) (by rfl)) (by rfl)
set_option maxRecDepth 100000 in
theorem cd_X11_neighbourAt : Cond.code yX11_neighbourAt cX11_neighbourAt 2 (some (.object "BlastPlanner$Neighbour")) ∈ BW := bw_in (List.mem_of_getElem? (i := 1083) (by rfl)) (by rfl)
set_option maxRecDepth 100000 in
theorem ml_RX11_156 : Cond.methodLink RX11 156 yX11_neighbourAt ∈ BW := bw_in (List.mem_of_getElem? (i := 1080) (by rfl)) (by rfl)
set_option maxRecDepth 100000 in
theorem in_X11_neighbourAt : Cond.instanceMethod yX11_neighbourAt ∈ BW := bw_in (List.mem_of_getElem? (i := 1082) (by rfl)) (by rfl)
set_option maxRecDepth 100000 in
theorem sl_X11_neighbourAt : Cond.selects RX11 yX11_neighbourAt yX11_neighbourAt ∈ BW := bw_in (List.mem_of_getElem? (i := 22) (by rfl)) (by rfl)
set_option maxRecDepth 100000 in
theorem ml_RX11_160 : Cond.methodLink RX11 160 yX0_shakes ∈ BW := bw_in (List.mem_of_getElem? (i := 1085) (by rfl)) (by rfl)
set_option maxRecDepth 100000 in
theorem fl_RX11_164 : Cond.fieldLink RX11 164 "BlastPlanner$Blast" "tooStrong" "I" ∈ BW := bw_in (List.mem_of_getElem? (i := 382) (by rfl)) (by rfl)
set_option maxRecDepth 100000 in
theorem fl_RX11_167 : Cond.fieldLink RX11 167 "BlastPlanner$Neighbour" "limit" "I" ∈ BW := bw_in (List.mem_of_getElem? (i := 310) (by rfl)) (by rfl)
set_option maxRecDepth 100000 in
theorem cd_X0_windowIfGap : Cond.code yX0_windowIfGap cX0_windowIfGap 7 (some .int) ∈ BW := bw_in (List.mem_of_getElem? (i := 1110) (by rfl)) (by rfl)
set_option maxRecDepth 100000 in
theorem ml_RX11_172 : Cond.methodLink RX11 172 yX0_windowIfGap ∈ BW := bw_in (List.mem_of_getElem? (i := 1107) (by rfl)) (by rfl)
set_option maxRecDepth 100000 in
theorem in_X0_windowIfGap : Cond.instanceMethod yX0_windowIfGap ∈ BW := bw_in (List.mem_of_getElem? (i := 1108) (by rfl)) (by rfl)
set_option maxRecDepth 100000 in
theorem sl_X0_windowIfGap : Cond.selects RX0 yX0_windowIfGap yX0_windowIfGap ∈ BW := bw_in (List.mem_of_getElem? (i := 1109) (by rfl)) (by rfl)
set_option maxRecDepth 100000 in
theorem cd_X11_needRange : Cond.code yX11_needRange cX11_needRange 4 none ∈ BW := bw_in (List.mem_of_getElem? (i := 1121) (by rfl)) (by rfl)
set_option maxRecDepth 100000 in
theorem ml_RX11_176 : Cond.methodLink RX11 176 yX11_needRange ∈ BW := bw_in (List.mem_of_getElem? (i := 1118) (by rfl)) (by rfl)
set_option maxRecDepth 100000 in
theorem in_X11_needRange : Cond.instanceMethod yX11_needRange ∈ BW := bw_in (List.mem_of_getElem? (i := 1120) (by rfl)) (by rfl)
set_option maxRecDepth 100000 in
theorem sl_X11_needRange : Cond.selects RX11 yX11_needRange yX11_needRange ∈ BW := bw_in (List.mem_of_getElem? (i := 23) (by rfl)) (by rfl)
set_option maxRecDepth 100000 in
theorem cd_X11_roadAt : Cond.code yX11_roadAt cX11_roadAt 2 (some (.object "BlastPlanner$Road")) ∈ BW := bw_in (List.mem_of_getElem? (i := 1133) (by rfl)) (by rfl)
set_option maxRecDepth 100000 in
theorem ml_RX11_180 : Cond.methodLink RX11 180 yX11_roadAt ∈ BW := bw_in (List.mem_of_getElem? (i := 1130) (by rfl)) (by rfl)
set_option maxRecDepth 100000 in
theorem in_X11_roadAt : Cond.instanceMethod yX11_roadAt ∈ BW := bw_in (List.mem_of_getElem? (i := 1132) (by rfl)) (by rfl)
set_option maxRecDepth 100000 in
theorem sl_X11_roadAt : Cond.selects RX11 yX11_roadAt yX11_roadAt ∈ BW := bw_in (List.mem_of_getElem? (i := 24) (by rfl)) (by rfl)
set_option maxRecDepth 100000 in
theorem ml_RX11_184 : Cond.methodLink RX11 184 yX0_closesRoad ∈ BW := bw_in (List.mem_of_getElem? (i := 1135) (by rfl)) (by rfl)
set_option maxRecDepth 100000 in
theorem fl_RX11_187 : Cond.fieldLink RX11 187 "BlastPlanner$Blast" "closedRoads" "I" ∈ BW := bw_in (List.mem_of_getElem? (i := 386) (by rfl)) (by rfl)
set_option maxRecDepth 100000 in
theorem ml_RX11_190 : Cond.methodLink RX11 190 yX4_quietAt ∈ BW := bw_in (List.mem_of_getElem? (i := 1150) (by rfl)) (by rfl)
set_option maxRecDepth 100000 in
theorem fl_RX11_193 : Cond.fieldLink RX11 193 "BlastPlanner$Blast" "dusty" "[I" ∈ BW := bw_in (List.mem_of_getElem? (i := 363) (by rfl)) (by rfl)
set_option maxRecDepth 100000 in
theorem fl_RX11_196 : Cond.fieldLink RX11 196 "BlastPlanner$Blast" "x" "I" ∈ BW := bw_in (List.mem_of_getElem? (i := 366) (by rfl)) (by rfl)
set_option maxRecDepth 100000 in
theorem fl_RX11_199 : Cond.fieldLink RX11 199 "BlastPlanner$Blast" "y" "I" ∈ BW := bw_in (List.mem_of_getElem? (i := 369) (by rfl)) (by rfl)
set_option maxRecDepth 100000 in
theorem ml_RX11_202 : Cond.methodLink RX11 202 yX7_comesWithin ∈ BW := bw_in (List.mem_of_getElem? (i := 1168) (by rfl)) (by rfl)
set_option maxRecDepth 100000 in
theorem ml_RX11_208 : Cond.methodLink RX11 208 yX3_clear ∈ BW := bw_in (List.mem_of_getElem? (i := 1176) (by rfl)) (by rfl)
set_option maxRecDepth 100000 in
theorem fl_RX11_209 : Cond.fieldLink RX11 209 "BlastPlanner$Neighbour" "windows" "I" ∈ BW := bw_in (List.mem_of_getElem? (i := 313) (by rfl)) (by rfl)
set_option maxRecDepth 100000 in
theorem cd_X11_needScheduled : Cond.code yX11_needScheduled cX11_needScheduled 2 none ∈ BW := bw_in (List.mem_of_getElem? (i := 1311) (by rfl)) (by rfl)
set_option maxRecDepth 100000 in
theorem ml_RX11_265 : Cond.methodLink RX11 265 yX11_needScheduled ∈ BW := bw_in (List.mem_of_getElem? (i := 1308) (by rfl)) (by rfl)
set_option maxRecDepth 100000 in
theorem in_X11_needScheduled : Cond.instanceMethod yX11_needScheduled ∈ BW := bw_in (List.mem_of_getElem? (i := 1310) (by rfl)) (by rfl)
set_option maxRecDepth 100000 in
theorem sl_X11_needScheduled : Cond.selects RX11 yX11_needScheduled yX11_needScheduled ∈ BW := bw_in (List.mem_of_getElem? (i := 30) (by rfl)) (by rfl)
set_option maxRecDepth 100000 in
theorem fl_RX11_344 : Cond.fieldLink RX11 344 "BlastPlanner$Site" "blastNames" "[I" ∈ BW := bw_in (List.mem_of_getElem? (i := 443) (by rfl)) (by rfl)
set_option maxRecDepth 100000 in
theorem fl_RX11_393 : Cond.fieldLink RX11 393 "BlastPlanner$PlanSearch" "known" "Z" ∈ BW := bw_in (List.mem_of_getElem? (i := 220) (by rfl)) (by rfl)
set_option maxRecDepth 100000 in
theorem cd_X12_seeks : Cond.code yX12_seeks cX12_seeks 4 none ∈ BW := bw_in (List.mem_of_getElem? (i := 2137) (by rfl)) (by rfl)
set_option maxRecDepth 100000 in
theorem ml_RX12_354 : Cond.methodLink RX12 354 yX12_seeks ∈ BW := bw_in (List.mem_of_getElem? (i := 2134) (by rfl)) (by rfl)
set_option maxRecDepth 100000 in
theorem in_X12_seeks : Cond.instanceMethod yX12_seeks ∈ BW := bw_in (List.mem_of_getElem? (i := 2136) (by rfl)) (by rfl)
set_option maxRecDepth 100000 in
theorem sl_X12_seeks : Cond.selects RX12 yX12_seeks yX12_seeks ∈ BW := bw_in (List.mem_of_getElem? (i := 108) (by rfl)) (by rfl)
set_option maxRecDepth 100000 in
theorem fl_RX12_116 : Cond.fieldLink RX12 116 "BlastPlannerModel" "best" "[I" ∈ BW := bw_in (List.mem_of_getElem? (i := 1571) (by rfl)) (by rfl)
set_option maxRecDepth 100000 in
theorem cd_X12_triedClosed : Cond.code yX12_triedClosed cX12_triedClosed 9 (some .int) ∈ BW := bw_in (List.mem_of_getElem? (i := 2141) (by rfl)) (by rfl)
set_option maxRecDepth 100000 in
theorem ml_RX12_348 : Cond.methodLink RX12 348 yX12_triedClosed ∈ BW := bw_in (List.mem_of_getElem? (i := 2138) (by rfl)) (by rfl)
set_option maxRecDepth 100000 in
theorem in_X12_triedClosed : Cond.instanceMethod yX12_triedClosed ∈ BW := bw_in (List.mem_of_getElem? (i := 2140) (by rfl)) (by rfl)
set_option maxRecDepth 100000 in
theorem sl_X12_triedClosed : Cond.selects RX12 yX12_triedClosed yX12_triedClosed ∈ BW := bw_in (List.mem_of_getElem? (i := 109) (by rfl)) (by rfl)
set_option maxRecDepth 100000 in
theorem cd_X12_laysPlan : Cond.code yX12_laysPlan cX12_laysPlan 3 none ∈ BW := bw_in (List.mem_of_getElem? (i := 2133) (by rfl)) (by rfl)
set_option maxRecDepth 100000 in
theorem ml_RX12_363 : Cond.methodLink RX12 363 yX12_laysPlan ∈ BW := bw_in (List.mem_of_getElem? (i := 2130) (by rfl)) (by rfl)
set_option maxRecDepth 100000 in
theorem in_X12_laysPlan : Cond.instanceMethod yX12_laysPlan ∈ BW := bw_in (List.mem_of_getElem? (i := 2132) (by rfl)) (by rfl)
set_option maxRecDepth 100000 in
theorem sl_X12_laysPlan : Cond.selects RX12 yX12_laysPlan yX12_laysPlan ∈ BW := bw_in (List.mem_of_getElem? (i := 107) (by rfl)) (by rfl)
set_option maxRecDepth 100000 in
theorem cd_X10_tookWord : Cond.code yX10_tookWord cX10_tookWord 4 (some .boolean) ∈ BW := bw_in (List.mem_of_getElem? (i := 748) (by rfl)) (by rfl)
set_option maxRecDepth 100000 in
theorem ml_RX5_50 : Cond.methodLink RX5 50 yX10_tookWord ∈ BW := bw_in (List.mem_of_getElem? (i := 745) (by rfl)) (by rfl)
set_option maxRecDepth 100000 in
theorem in_X10_tookWord : Cond.instanceMethod yX10_tookWord ∈ BW := bw_in (List.mem_of_getElem? (i := 746) (by rfl)) (by rfl)
set_option maxRecDepth 100000 in
theorem sl_X10_tookWord : Cond.selects RX10 yX10_tookWord yX10_tookWord ∈ BW := bw_in (List.mem_of_getElem? (i := 747) (by rfl)) (by rfl)
set_option maxRecDepth 100000 in
theorem cd_X10_need : Cond.code yX10_need cX10_need 2 none ∈ BW := bw_in (List.mem_of_getElem? (i := 840) (by rfl)) (by rfl)
set_option maxRecDepth 100000 in
theorem ml_RX5_40 : Cond.methodLink RX5 40 yX10_need ∈ BW := bw_in (List.mem_of_getElem? (i := 837) (by rfl)) (by rfl)
set_option maxRecDepth 100000 in
theorem in_X10_need : Cond.instanceMethod yX10_need ∈ BW := bw_in (List.mem_of_getElem? (i := 838) (by rfl)) (by rfl)
set_option maxRecDepth 100000 in
theorem sl_X10_need : Cond.selects RX10 yX10_need yX10_need ∈ BW := bw_in (List.mem_of_getElem? (i := 839) (by rfl)) (by rfl)
set_option maxRecDepth 100000 in
theorem ml_RX11_222 : Cond.methodLink RX11 222 yX3_size ∈ BW := bw_in (List.mem_of_getElem? (i := 1178) (by rfl)) (by rfl)
set_option maxRecDepth 100000 in
theorem fl_RX11_212 : Cond.fieldLink RX11 212 "BlastPlanner$Neighbour" "quietFirst" "[I" ∈ BW := bw_in (List.mem_of_getElem? (i := 301) (by rfl)) (by rfl)
set_option maxRecDepth 100000 in
theorem fl_RX11_215 : Cond.fieldLink RX11 215 "BlastPlanner$Neighbour" "quietEnd" "[I" ∈ BW := bw_in (List.mem_of_getElem? (i := 303) (by rfl)) (by rfl)
set_option maxRecDepth 100000 in
theorem ml_RX11_218 : Cond.methodLink RX11 218 yX3_add ∈ BW := bw_in (List.mem_of_getElem? (i := 1177) (by rfl)) (by rfl)
set_option maxRecDepth 100000 in
theorem cd_X11_recordAction : Cond.code yX11_recordAction cX11_recordAction 1 none ∈ BW := bw_in (List.mem_of_getElem? (i := 1295) (by rfl)) (by rfl)
set_option maxRecDepth 100000 in
theorem ml_RX11_262 : Cond.methodLink RX11 262 yX11_recordAction ∈ BW := bw_in (List.mem_of_getElem? (i := 1292) (by rfl)) (by rfl)
set_option maxRecDepth 100000 in
theorem in_X11_recordAction : Cond.instanceMethod yX11_recordAction ∈ BW := bw_in (List.mem_of_getElem? (i := 1294) (by rfl)) (by rfl)
set_option maxRecDepth 100000 in
theorem sl_X11_recordAction : Cond.selects RX11 yX11_recordAction yX11_recordAction ∈ BW := bw_in (List.mem_of_getElem? (i := 29) (by rfl)) (by rfl)
set_option maxRecDepth 100000 in
theorem cd_X0_spreadDelays : Cond.code yX0_spreadDelays cX0_spreadDelays 3 none ∈ BW := bw_in (List.mem_of_getElem? (i := 1332) (by rfl)) (by rfl)
set_option maxRecDepth 100000 in
theorem ml_RX11_272 : Cond.methodLink RX11 272 yX0_spreadDelays ∈ BW := bw_in (List.mem_of_getElem? (i := 1329) (by rfl)) (by rfl)
set_option maxRecDepth 100000 in
theorem in_X0_spreadDelays : Cond.instanceMethod yX0_spreadDelays ∈ BW := bw_in (List.mem_of_getElem? (i := 1330) (by rfl)) (by rfl)
set_option maxRecDepth 100000 in
theorem sl_X0_spreadDelays : Cond.selects RX0 yX0_spreadDelays yX0_spreadDelays ∈ BW := bw_in (List.mem_of_getElem? (i := 1331) (by rfl)) (by rfl)
set_option maxRecDepth 100000 in
theorem ml_RX11_275 : Cond.methodLink RX11 275 yX9_weigh ∈ BW := bw_in (List.mem_of_getElem? (i := 1333) (by rfl)) (by rfl)
set_option maxRecDepth 100000 in
theorem cd_X3_contains : Cond.code yX3_contains cX3_contains 3 (some .boolean) ∈ BW := bw_in (List.mem_of_getElem? (i := 1351) (by rfl)) (by rfl)
set_option maxRecDepth 100000 in
theorem ml_RX11_287 : Cond.methodLink RX11 287 yX3_contains ∈ BW := bw_in (List.mem_of_getElem? (i := 1348) (by rfl)) (by rfl)
set_option maxRecDepth 100000 in
theorem in_X3_contains : Cond.instanceMethod yX3_contains ∈ BW := bw_in (List.mem_of_getElem? (i := 1349) (by rfl)) (by rfl)
set_option maxRecDepth 100000 in
theorem sl_X3_contains : Cond.selects RX3 yX3_contains yX3_contains ∈ BW := bw_in (List.mem_of_getElem? (i := 1350) (by rfl)) (by rfl)
set_option maxRecDepth 100000 in
theorem fl_RX11_290 : Cond.fieldLink RX11 290 "BlastPlanner$MinuteSet" "runs" "I" ∈ BW := bw_in (List.mem_of_getElem? (i := 275) (by rfl)) (by rfl)
set_option maxRecDepth 100000 in
theorem fl_RX11_293 : Cond.fieldLink RX11 293 "BlastPlanner$MinuteSet" "firsts" "[I" ∈ BW := bw_in (List.mem_of_getElem? (i := 271) (by rfl)) (by rfl)
set_option maxRecDepth 100000 in
theorem fl_RX11_296 : Cond.fieldLink RX11 296 "BlastPlanner$MinuteSet" "ends" "[I" ∈ BW := bw_in (List.mem_of_getElem? (i := 273) (by rfl)) (by rfl)
set_option maxRecDepth 100000 in
theorem fl_RX11_51 : Cond.fieldLink RX11 51 "BlastPlanner" "otherMinutes" "LBlastPlanner$MinuteSet;" ∈ BW := bw_in (List.mem_of_getElem? (i := 522) (by rfl)) (by rfl)
set_option maxRecDepth 100000 in
theorem fl_RX11_385 : Cond.fieldLink RX11 385 "BlastPlanner$SirenList" "keys" "[I" ∈ BW := bw_in (List.mem_of_getElem? (i := 241) (by rfl)) (by rfl)
set_option maxRecDepth 100000 in
theorem ml_RX1_40 : Cond.methodLink RX1 40 yJ6_bitCount_0f7a4 ∈ BW := bw_in (List.mem_of_getElem? (i := 1507) (by rfl)) (by rfl)
set_option maxRecDepth 100000 in
theorem fl_RX1_46 : Cond.fieldLink RX1 46 "BlastPlanner$Blast" "fired" "Z" ∈ BW := bw_in (List.mem_of_getElem? (i := 388) (by rfl)) (by rfl)
set_option maxRecDepth 100000 in
theorem cd_X1_addText : Cond.code yX1_addText cX1_addText 3 none ∈ BW := bw_in (List.mem_of_getElem? (i := 1517) (by rfl)) (by rfl)
set_option maxRecDepth 100000 in
theorem ml_RX1_52 : Cond.methodLink RX1 52 yX1_addText ∈ BW := bw_in (List.mem_of_getElem? (i := 1514) (by rfl)) (by rfl)
set_option maxRecDepth 100000 in
theorem in_X1_addText : Cond.instanceMethod yX1_addText ∈ BW := bw_in (List.mem_of_getElem? (i := 1516) (by rfl)) (by rfl)
set_option maxRecDepth 100000 in
theorem sl_X1_addText : Cond.selects RX1 yX1_addText yX1_addText ∈ BW := bw_in (List.mem_of_getElem? (i := 40) (by rfl)) (by rfl)
set_option maxRecDepth 100000 in
theorem cd_X4_addWindow : Cond.code yX4_addWindow cX4_addWindow 3 none ∈ BW := bw_in (List.mem_of_getElem? (i := 844) (by rfl)) (by rfl)
set_option maxRecDepth 100000 in
theorem ml_RX5_154 : Cond.methodLink RX5 154 yX4_addWindow ∈ BW := bw_in (List.mem_of_getElem? (i := 841) (by rfl)) (by rfl)
set_option maxRecDepth 100000 in
theorem in_X4_addWindow : Cond.instanceMethod yX4_addWindow ∈ BW := bw_in (List.mem_of_getElem? (i := 842) (by rfl)) (by rfl)
set_option maxRecDepth 100000 in
theorem sl_X4_addWindow : Cond.selects RX4 yX4_addWindow yX4_addWindow ∈ BW := bw_in (List.mem_of_getElem? (i := 843) (by rfl)) (by rfl)
set_option maxRecDepth 100000 in
theorem cd_X0_addCharge : Cond.code yX0_addCharge cX0_addCharge 3 none ∈ BW := bw_in (List.mem_of_getElem? (i := 863) (by rfl)) (by rfl)
set_option maxRecDepth 100000 in
theorem ml_RX5_211 : Cond.methodLink RX5 211 yX0_addCharge ∈ BW := bw_in (List.mem_of_getElem? (i := 860) (by rfl)) (by rfl)
set_option maxRecDepth 100000 in
theorem in_X0_addCharge : Cond.instanceMethod yX0_addCharge ∈ BW := bw_in (List.mem_of_getElem? (i := 861) (by rfl)) (by rfl)
set_option maxRecDepth 100000 in
theorem sl_X0_addCharge : Cond.selects RX0 yX0_addCharge yX0_addCharge ∈ BW := bw_in (List.mem_of_getElem? (i := 862) (by rfl)) (by rfl)
set_option maxRecDepth 100000 in
theorem cd_X11_isAllowed : Cond.code yX11_isAllowed cX11_isAllowed 3 (some .boolean) ∈ BW := bw_in (List.mem_of_getElem? (i := 1234) (by rfl)) (by rfl)
set_option maxRecDepth 100000 in
theorem ml_RX11_242 : Cond.methodLink RX11 242 yX11_isAllowed ∈ BW := bw_in (List.mem_of_getElem? (i := 1231) (by rfl)) (by rfl)
set_option maxRecDepth 100000 in
theorem in_X11_isAllowed : Cond.instanceMethod yX11_isAllowed ∈ BW := bw_in (List.mem_of_getElem? (i := 1233) (by rfl)) (by rfl)
set_option maxRecDepth 100000 in
theorem sl_X11_isAllowed : Cond.selects RX11 yX11_isAllowed yX11_isAllowed ∈ BW := bw_in (List.mem_of_getElem? (i := 27) (by rfl)) (by rfl)
set_option maxRecDepth 100000 in
theorem cd_X11_startsWithReason : Cond.code yX11_startsWithReason cX11_startsWithReason 6 (some .int) ∈ BW := bw_in (List.mem_of_getElem? (i := 1252) (by rfl)) (by rfl)
set_option maxRecDepth 100000 in
theorem ml_RX11_246 : Cond.methodLink RX11 246 yX11_startsWithReason ∈ BW := bw_in (List.mem_of_getElem? (i := 1249) (by rfl)) (by rfl)
set_option maxRecDepth 100000 in
theorem in_X11_startsWithReason : Cond.instanceMethod yX11_startsWithReason ∈ BW := bw_in (List.mem_of_getElem? (i := 1251) (by rfl)) (by rfl)
set_option maxRecDepth 100000 in
theorem sl_X11_startsWithReason : Cond.selects RX11 yX11_startsWithReason yX11_startsWithReason ∈ BW := bw_in (List.mem_of_getElem? (i := 28) (by rfl)) (by rfl)
set_option maxRecDepth 100000 in
theorem ml_RX11_249 : Cond.methodLink RX11 249 Lib.Math.max.name ∈ BW := bw_in (List.mem_of_getElem? (i := 1260) (by rfl)) (by rfl)
set_option maxRecDepth 100000 in
theorem cd_X11_sirenAt : Cond.code yX11_sirenAt cX11_sirenAt 2 (some .int) ∈ BW := bw_in (List.mem_of_getElem? (i := 1397) (by rfl)) (by rfl)
set_option maxRecDepth 100000 in
theorem ml_RX11_312 : Cond.methodLink RX11 312 yX11_sirenAt ∈ BW := bw_in (List.mem_of_getElem? (i := 1394) (by rfl)) (by rfl)
set_option maxRecDepth 100000 in
theorem in_X11_sirenAt : Cond.instanceMethod yX11_sirenAt ∈ BW := bw_in (List.mem_of_getElem? (i := 1396) (by rfl)) (by rfl)
set_option maxRecDepth 100000 in
theorem sl_X11_sirenAt : Cond.selects RX11 yX11_sirenAt yX11_sirenAt ∈ BW := bw_in (List.mem_of_getElem? (i := 31) (by rfl)) (by rfl)
set_option maxRecDepth 100000 in
theorem ml_RX11_315 : Cond.methodLink RX11 315 yX8_minuteOf ∈ BW := bw_in (List.mem_of_getElem? (i := 1399) (by rfl)) (by rfl)
set_option maxRecDepth 100000 in
theorem cd_X8_minuteOf : Cond.code yX8_minuteOf cX8_minuteOf 1 (some .int) ∈ BW := bw_in (List.mem_of_getElem? (i := 1401) (by rfl)) (by rfl)
set_option maxRecDepth 100000 in
theorem st_X8_minuteOf : Cond.static yX8_minuteOf ∈ BW := bw_in (List.mem_of_getElem? (i := 1400) (by rfl)) (by rfl)
set_option maxRecDepth 100000 in
theorem ml_RX11_318 : Cond.methodLink RX11 318 yX8_kindOf ∈ BW := bw_in (List.mem_of_getElem? (i := 1409) (by rfl)) (by rfl)
set_option maxRecDepth 100000 in
theorem cd_X8_kindOf : Cond.code yX8_kindOf cX8_kindOf 1 (some .int) ∈ BW := bw_in (List.mem_of_getElem? (i := 1411) (by rfl)) (by rfl)
set_option maxRecDepth 100000 in
theorem st_X8_kindOf : Cond.static yX8_kindOf ∈ BW := bw_in (List.mem_of_getElem? (i := 1410) (by rfl)) (by rfl)
set_option maxRecDepth 100000 in
theorem ml_RX11_321 : Cond.methodLink RX11 321 yX8_blastOf ∈ BW := bw_in (List.mem_of_getElem? (i := 1419) (by rfl)) (by rfl)
set_option maxRecDepth 100000 in
theorem cd_X8_blastOf : Cond.code yX8_blastOf cX8_blastOf 1 (some .int) ∈ BW := bw_in (List.mem_of_getElem? (i := 1421) (by rfl)) (by rfl)
set_option maxRecDepth 100000 in
theorem st_X8_blastOf : Cond.static yX8_blastOf ∈ BW := bw_in (List.mem_of_getElem? (i := 1420) (by rfl)) (by rfl)
set_option maxRecDepth 100000 in
theorem cd_X1_write : Cond.code yX1_write cX1_write 4 none ∈ BW := bw_in (List.mem_of_getElem? (i := 1490) (by rfl)) (by rfl)
set_option maxRecDepth 100000 in
theorem ml_RX11_347 : Cond.methodLink RX11 347 yX1_write ∈ BW := bw_in (List.mem_of_getElem? (i := 1487) (by rfl)) (by rfl)
set_option maxRecDepth 100000 in
theorem in_X1_write : Cond.instanceMethod yX1_write ∈ BW := bw_in (List.mem_of_getElem? (i := 1488) (by rfl)) (by rfl)
set_option maxRecDepth 100000 in
theorem sl_X1_write : Cond.selects RX1 yX1_write yX1_write ∈ BW := bw_in (List.mem_of_getElem? (i := 1489) (by rfl)) (by rfl)
set_option maxRecDepth 100000 in
theorem cd_X5_parseWind : Cond.code yX5_parseWind cX5_parseWind 5 none ∈ BW := bw_in (List.mem_of_getElem? (i := 876) (by rfl)) (by rfl)
set_option maxRecDepth 100000 in
theorem ni_RX5 : Cond.initialized RX5 ∈ BW := bw_in (List.mem_of_getElem? (i := 116) (by rfl)) (by rfl)
set_option maxRecDepth 100000 in
theorem ml_RX5_102 : Cond.methodLink RX5 102 yX5_parseWind ∈ BW := bw_in (List.mem_of_getElem? (i := 873) (by rfl)) (by rfl)
set_option maxRecDepth 100000 in
theorem in_X5_parseWind : Cond.instanceMethod yX5_parseWind ∈ BW := bw_in (List.mem_of_getElem? (i := 875) (by rfl)) (by rfl)
set_option maxRecDepth 100000 in
theorem sl_X5_parseWind : Cond.selects RX5 yX5_parseWind yX5_parseWind ∈ BW := bw_in (List.mem_of_getElem? (i := 14) (by rfl)) (by rfl)
set_option maxRecDepth 100000 in
theorem fl_RX5_97 : Cond.fieldLink RX5 97 "BlastPlanner$Site" "spacing" "I" ∈ BW := bw_in (List.mem_of_getElem? (i := 478) (by rfl)) (by rfl)
set_option maxRecDepth 100000 in
theorem fl_RX5_89 : Cond.fieldLink RX5 89 "BlastPlanner$Site" "before" "I" ∈ BW := bw_in (List.mem_of_getElem? (i := 473) (by rfl)) (by rfl)
set_option maxRecDepth 100000 in
theorem fl_RX5_92 : Cond.fieldLink RX5 92 "BlastPlanner$Site" "after" "I" ∈ BW := bw_in (List.mem_of_getElem? (i := 476) (by rfl)) (by rfl)
set_option maxRecDepth 100000 in
theorem fl_RX5_85 : Cond.fieldLink RX5 85 "BlastPlanner$Site" "step" "I" ∈ BW := bw_in (List.mem_of_getElem? (i := 471) (by rfl)) (by rfl)
set_option maxRecDepth 100000 in
theorem fl_RX5_77 : Cond.fieldLink RX5 77 "BlastPlanner$Site" "dayFirst" "I" ∈ BW := bw_in (List.mem_of_getElem? (i := 467) (by rfl)) (by rfl)
set_option maxRecDepth 100000 in
theorem fl_RX5_80 : Cond.fieldLink RX5 80 "BlastPlanner$Site" "dayLast" "I" ∈ BW := bw_in (List.mem_of_getElem? (i := 469) (by rfl)) (by rfl)
set_option maxRecDepth 100000 in
theorem cd_X5_parseWindow : Cond.code yX5_parseWindow cX5_parseWindow 4 none ∈ BW := bw_in (List.mem_of_getElem? (i := 835) (by rfl)) (by rfl)
set_option maxRecDepth 100000 in
theorem ml_RX5_148 : Cond.methodLink RX5 148 yX5_parseWindow ∈ BW := bw_in (List.mem_of_getElem? (i := 832) (by rfl)) (by rfl)
set_option maxRecDepth 100000 in
theorem in_X5_parseWindow : Cond.instanceMethod yX5_parseWindow ∈ BW := bw_in (List.mem_of_getElem? (i := 834) (by rfl)) (by rfl)
set_option maxRecDepth 100000 in
theorem sl_X5_parseWindow : Cond.selects RX5 yX5_parseWindow yX5_parseWindow ∈ BW := bw_in (List.mem_of_getElem? (i := 9) (by rfl)) (by rfl)
set_option maxRecDepth 100000 in
theorem cd_X5_parseCharge : Cond.code yX5_parseCharge cX5_parseCharge 4 none ∈ BW := bw_in (List.mem_of_getElem? (i := 858) (by rfl)) (by rfl)
set_option maxRecDepth 100000 in
theorem ml_RX5_205 : Cond.methodLink RX5 205 yX5_parseCharge ∈ BW := bw_in (List.mem_of_getElem? (i := 855) (by rfl)) (by rfl)
set_option maxRecDepth 100000 in
theorem in_X5_parseCharge : Cond.instanceMethod yX5_parseCharge ∈ BW := bw_in (List.mem_of_getElem? (i := 857) (by rfl)) (by rfl)
set_option maxRecDepth 100000 in
theorem sl_X5_parseCharge : Cond.selects RX5 yX5_parseCharge yX5_parseCharge ∈ BW := bw_in (List.mem_of_getElem? (i := 12) (by rfl)) (by rfl)
set_option maxRecDepth 100000 in
theorem cd_X6_place : Cond.code yX6_place cX6_place 9 none ∈ BW := bw_in (List.mem_of_getElem? (i := 1444) (by rfl)) (by rfl)
set_option maxRecDepth 100000 in
theorem ml_RX6_40 : Cond.methodLink RX6 40 yX6_place ∈ BW := bw_in (List.mem_of_getElem? (i := 1442) (by rfl)) (by rfl)
set_option maxRecDepth 100000 in
theorem st_X6_place : Cond.static yX6_place ∈ BW := bw_in (List.mem_of_getElem? (i := 1443) (by rfl)) (by rfl)
set_option maxRecDepth 100000 in
theorem cd_X5_parseSetting : Cond.code yX5_parseSetting cX5_parseSetting 2 none ∈ BW := bw_in (List.mem_of_getElem? (i := 867) (by rfl)) (by rfl)
set_option maxRecDepth 100000 in
theorem ml_RX5_68 : Cond.methodLink RX5 68 yX5_parseSetting ∈ BW := bw_in (List.mem_of_getElem? (i := 864) (by rfl)) (by rfl)
set_option maxRecDepth 100000 in
theorem in_X5_parseSetting : Cond.instanceMethod yX5_parseSetting ∈ BW := bw_in (List.mem_of_getElem? (i := 866) (by rfl)) (by rfl)
set_option maxRecDepth 100000 in
theorem sl_X5_parseSetting : Cond.selects RX5 yX5_parseSetting yX5_parseSetting ∈ BW := bw_in (List.mem_of_getElem? (i := 13) (by rfl)) (by rfl)
set_option maxRecDepth 100000 in
theorem cd_X5_parseBlast : Cond.code yX5_parseBlast cX5_parseBlast 6 none ∈ BW := bw_in (List.mem_of_getElem? (i := 854) (by rfl)) (by rfl)
set_option maxRecDepth 100000 in
theorem ml_RX5_65 : Cond.methodLink RX5 65 yX5_parseBlast ∈ BW := bw_in (List.mem_of_getElem? (i := 851) (by rfl)) (by rfl)
set_option maxRecDepth 100000 in
theorem in_X5_parseBlast : Cond.instanceMethod yX5_parseBlast ∈ BW := bw_in (List.mem_of_getElem? (i := 853) (by rfl)) (by rfl)
set_option maxRecDepth 100000 in
theorem sl_X5_parseBlast : Cond.selects RX5 yX5_parseBlast yX5_parseBlast ∈ BW := bw_in (List.mem_of_getElem? (i := 11) (by rfl)) (by rfl)
set_option maxRecDepth 100000 in
theorem cd_X5_parseRoad : Cond.code yX5_parseRoad cX5_parseRoad 5 none ∈ BW := bw_in (List.mem_of_getElem? (i := 849) (by rfl)) (by rfl)
set_option maxRecDepth 100000 in
theorem ml_RX5_60 : Cond.methodLink RX5 60 yX5_parseRoad ∈ BW := bw_in (List.mem_of_getElem? (i := 846) (by rfl)) (by rfl)
set_option maxRecDepth 100000 in
theorem in_X5_parseRoad : Cond.instanceMethod yX5_parseRoad ∈ BW := bw_in (List.mem_of_getElem? (i := 848) (by rfl)) (by rfl)
set_option maxRecDepth 100000 in
theorem sl_X5_parseRoad : Cond.selects RX5 yX5_parseRoad yX5_parseRoad ∈ BW := bw_in (List.mem_of_getElem? (i := 10) (by rfl)) (by rfl)
set_option maxRecDepth 100000 in
theorem cd_X5_parseNeighbour : Cond.code yX5_parseNeighbour cX5_parseNeighbour 6 none ∈ BW := bw_in (List.mem_of_getElem? (i := 804) (by rfl)) (by rfl)
set_option maxRecDepth 100000 in
theorem ml_RX5_54 : Cond.methodLink RX5 54 yX5_parseNeighbour ∈ BW := bw_in (List.mem_of_getElem? (i := 801) (by rfl)) (by rfl)
set_option maxRecDepth 100000 in
theorem in_X5_parseNeighbour : Cond.instanceMethod yX5_parseNeighbour ∈ BW := bw_in (List.mem_of_getElem? (i := 803) (by rfl)) (by rfl)
set_option maxRecDepth 100000 in
theorem sl_X5_parseNeighbour : Cond.selects RX5 yX5_parseNeighbour yX5_parseNeighbour ∈ BW := bw_in (List.mem_of_getElem? (i := 6) (by rfl)) (by rfl)
set_option maxRecDepth 100000 in
theorem fl_RX6_34 : Cond.fieldLink RX6 34 "BlastPlanner$Site" "times" "[I" ∈ BW := bw_in (List.mem_of_getElem? (i := 446) (by rfl)) (by rfl)
set_option maxRecDepth 100000 in
theorem cd_X6_search : Cond.code yX6_search cX6_search 4 none ∈ BW := bw_in (List.mem_of_getElem? (i := 1441) (by rfl)) (by rfl)
set_option maxRecDepth 100000 in
theorem ml_RX11_396 : Cond.methodLink RX11 396 yX6_search ∈ BW := bw_in (List.mem_of_getElem? (i := 1438) (by rfl)) (by rfl)
set_option maxRecDepth 100000 in
theorem in_X6_search : Cond.instanceMethod yX6_search ∈ BW := bw_in (List.mem_of_getElem? (i := 1439) (by rfl)) (by rfl)
set_option maxRecDepth 100000 in
theorem sl_X6_search : Cond.selects RX6 yX6_search yX6_search ∈ BW := bw_in (List.mem_of_getElem? (i := 1440) (by rfl)) (by rfl)
set_option maxRecDepth 100000 in
theorem cd_X5_parseLine : Cond.code yX5_parseLine cX5_parseLine 3 none ∈ BW := bw_in (List.mem_of_getElem? (i := 743) (by rfl)) (by rfl)
set_option maxRecDepth 100000 in
theorem ml_RX5_33 : Cond.methodLink RX5 33 yX5_parseLine ∈ BW := bw_in (List.mem_of_getElem? (i := 740) (by rfl)) (by rfl)
set_option maxRecDepth 100000 in
theorem in_X5_parseLine : Cond.instanceMethod yX5_parseLine ∈ BW := bw_in (List.mem_of_getElem? (i := 742) (by rfl)) (by rfl)
set_option maxRecDepth 100000 in
theorem sl_X5_parseLine : Cond.selects RX5 yX5_parseLine yX5_parseLine ∈ BW := bw_in (List.mem_of_getElem? (i := 4) (by rfl)) (by rfl)
set_option maxRecDepth 100000 in
theorem cd_X10_tookSemicolon : Cond.code yX10_tookSemicolon cX10_tookSemicolon 1 (some .boolean) ∈ BW := bw_in (List.mem_of_getElem? (i := 880) (by rfl)) (by rfl)
set_option maxRecDepth 100000 in
theorem ml_RX5_37 : Cond.methodLink RX5 37 yX10_tookSemicolon ∈ BW := bw_in (List.mem_of_getElem? (i := 877) (by rfl)) (by rfl)
set_option maxRecDepth 100000 in
theorem in_X10_tookSemicolon : Cond.instanceMethod yX10_tookSemicolon ∈ BW := bw_in (List.mem_of_getElem? (i := 878) (by rfl)) (by rfl)
set_option maxRecDepth 100000 in
theorem sl_X10_tookSemicolon : Cond.selects RX10 yX10_tookSemicolon yX10_tookSemicolon ∈ BW := bw_in (List.mem_of_getElem? (i := 879) (by rfl)) (by rfl)
set_option maxRecDepth 100000 in
theorem cd_X5_parse : Cond.code yX5_parse cX5_parse 3 (some .boolean) ∈ BW := bw_in (List.mem_of_getElem? (i := 722) (by rfl)) (by rfl)
set_option maxRecDepth 100000 in
theorem ml_RX11_86 : Cond.methodLink RX11 86 yX5_parse ∈ BW := bw_in (List.mem_of_getElem? (i := 719) (by rfl)) (by rfl)
set_option maxRecDepth 100000 in
theorem in_X5_parse : Cond.instanceMethod yX5_parse ∈ BW := bw_in (List.mem_of_getElem? (i := 720) (by rfl)) (by rfl)
set_option maxRecDepth 100000 in
theorem sl_X5_parse : Cond.selects RX5 yX5_parse yX5_parse ∈ BW := bw_in (List.mem_of_getElem? (i := 721) (by rfl)) (by rfl)
set_option maxRecDepth 100000 in
theorem cd_X11_findPlan : Cond.code yX11_findPlan cX11_findPlan 1 none ∈ BW := bw_in (List.mem_of_getElem? (i := 1432) (by rfl)) (by rfl)
set_option maxRecDepth 100000 in
theorem ml_RX11_324 : Cond.methodLink RX11 324 yX11_findPlan ∈ BW := bw_in (List.mem_of_getElem? (i := 1429) (by rfl)) (by rfl)
set_option maxRecDepth 100000 in
theorem in_X11_findPlan : Cond.instanceMethod yX11_findPlan ∈ BW := bw_in (List.mem_of_getElem? (i := 1431) (by rfl)) (by rfl)
set_option maxRecDepth 100000 in
theorem sl_X11_findPlan : Cond.selects RX11 yX11_findPlan yX11_findPlan ∈ BW := bw_in (List.mem_of_getElem? (i := 32) (by rfl)) (by rfl)
set_option maxRecDepth 100000 in
theorem fl_RX11_327 : Cond.fieldLink RX11 327 "BlastPlanner$PlanSearch" "bestLength" "I" ∈ BW := bw_in (List.mem_of_getElem? (i := 218) (by rfl)) (by rfl)
set_option maxRecDepth 100000 in
theorem fl_RX11_330 : Cond.fieldLink RX11 330 "BlastPlanner$PlanSearch" "bestTimes" "[I" ∈ BW := bw_in (List.mem_of_getElem? (i := 215) (by rfl)) (by rfl)
set_option maxRecDepth 100000 in
theorem at_RX11_94 : (∀ w ∈ vx_atS RX11 94 "java/lang/IllegalArgumentException" ["java/lang/RuntimeException", "java/lang/Exception"], w ∈ BW) ∧ ∀ w ∈ Cond.classLink RX11 90 "java/lang/IllegalArgumentException" :: Cond.initialized "java/lang/IllegalArgumentException" :: vx_atS RX11 94 "java/lang/IllegalArgumentException" ["java/lang/RuntimeException", "java/lang/Exception"], vx_ot w = true :=
  ⟨fun w h => bw_in (of_decide_eq_true (List.all_eq_true.mp (show (vx_atS RX11 94 "java/lang/IllegalArgumentException" ["java/lang/RuntimeException", "java/lang/Exception"]).all (fun w => decide (w ∈ lw_tbl)) = true by decide +kernel) w h)) (List.all_eq_true.mp (show (vx_atS RX11 94 "java/lang/IllegalArgumentException" ["java/lang/RuntimeException", "java/lang/Exception"]).all wok = true by decide +kernel) w h), fun w h => List.all_eq_true.mp (show (Cond.classLink RX11 90 "java/lang/IllegalArgumentException" :: Cond.initialized "java/lang/IllegalArgumentException" :: vx_atS RX11 94 "java/lang/IllegalArgumentException" ["java/lang/RuntimeException", "java/lang/Exception"]).all vx_ot = true by decide +kernel) w h⟩
set_option maxRecDepth 100000 in
theorem at_RX11_261 : (∀ w ∈ vx_atS RX11 261 "java/lang/IllegalStateException" ["java/lang/RuntimeException", "java/lang/Exception"], w ∈ BW) ∧ ∀ w ∈ Cond.classLink RX11 257 "java/lang/IllegalStateException" :: Cond.initialized "java/lang/IllegalStateException" :: vx_atS RX11 261 "java/lang/IllegalStateException" ["java/lang/RuntimeException", "java/lang/Exception"], vx_ot w = true :=
  ⟨fun w h => bw_in (of_decide_eq_true (List.all_eq_true.mp (show (vx_atS RX11 261 "java/lang/IllegalStateException" ["java/lang/RuntimeException", "java/lang/Exception"]).all (fun w => decide (w ∈ lw_tbl)) = true by decide +kernel) w h)) (List.all_eq_true.mp (show (vx_atS RX11 261 "java/lang/IllegalStateException" ["java/lang/RuntimeException", "java/lang/Exception"]).all wok = true by decide +kernel) w h), fun w h => List.all_eq_true.mp (show (Cond.classLink RX11 257 "java/lang/IllegalStateException" :: Cond.initialized "java/lang/IllegalStateException" :: vx_atS RX11 261 "java/lang/IllegalStateException" ["java/lang/RuntimeException", "java/lang/Exception"]).all vx_ot = true by decide +kernel) w h⟩
set_option maxRecDepth 100000 in
theorem at_RX11_360 : (∀ w ∈ vx_atS RX11 360 "java/lang/IndexOutOfBoundsException" ["java/lang/RuntimeException", "java/lang/Exception"], w ∈ BW) ∧ ∀ w ∈ Cond.classLink RX11 356 "java/lang/IndexOutOfBoundsException" :: Cond.initialized "java/lang/IndexOutOfBoundsException" :: vx_atS RX11 360 "java/lang/IndexOutOfBoundsException" ["java/lang/RuntimeException", "java/lang/Exception"], vx_ot w = true :=
  ⟨fun w h => bw_in (of_decide_eq_true (List.all_eq_true.mp (show (vx_atS RX11 360 "java/lang/IndexOutOfBoundsException" ["java/lang/RuntimeException", "java/lang/Exception"]).all (fun w => decide (w ∈ lw_tbl)) = true by decide +kernel) w h)) (List.all_eq_true.mp (show (vx_atS RX11 360 "java/lang/IndexOutOfBoundsException" ["java/lang/RuntimeException", "java/lang/Exception"]).all wok = true by decide +kernel) w h), fun w h => List.all_eq_true.mp (show (Cond.classLink RX11 356 "java/lang/IndexOutOfBoundsException" :: Cond.initialized "java/lang/IndexOutOfBoundsException" :: vx_atS RX11 360 "java/lang/IndexOutOfBoundsException" ["java/lang/RuntimeException", "java/lang/Exception"]).all vx_ot = true by decide +kernel) w h⟩
