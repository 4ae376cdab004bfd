set_option maxRecDepth 100000 in
theorem cd_X11_append : Cond.code yX11_append cX11_append 7 (some .int) ∈ BW := bw_in (List.mem_of_getElem? (i := 550) (by rfl)) (by rfl)
set_option maxRecDepth 100000 in
theorem ml_RL_163 : Cond.methodLink RL 163 yX11_append ∈ BW := bw_in (List.mem_of_getElem? (i := 547) (by rfl)) (by rfl)
set_option maxRecDepth 100000 in
theorem in_X11_append : Cond.instanceMethod yX11_append ∈ BW := bw_in (List.mem_of_getElem? (i := 548) (by rfl)) (by rfl)
set_option maxRecDepth 100000 in
theorem sl_X11_append : Cond.selects RX11 yX11_append yX11_append ∈ BW := bw_in (List.mem_of_getElem? (i := 549) (by rfl)) (by rfl)
set_option maxRecDepth 100000 in
theorem cd_X12_append : Cond.code yX12_append cX12_append 7 (some .int) ∈ BW := bw_in (List.mem_of_getElem? (i := 1527) (by rfl)) (by rfl)
set_option maxRecDepth 100000 in
theorem ml_RL_167 : Cond.methodLink RL 167 yX12_append ∈ BW := bw_in (List.mem_of_getElem? (i := 1524) (by rfl)) (by rfl)
set_option maxRecDepth 100000 in
theorem in_X12_append : Cond.instanceMethod yX12_append ∈ BW := bw_in (List.mem_of_getElem? (i := 1525) (by rfl)) (by rfl)
set_option maxRecDepth 100000 in
theorem sl_X12_append : Cond.selects RX12 yX12_append yX12_append ∈ BW := bw_in (List.mem_of_getElem? (i := 1526) (by rfl)) (by rfl)
set_option maxRecDepth 100000 in
theorem cd_X11_truncate : Cond.code yX11_truncate cX11_truncate 3 (some .boolean) ∈ BW := bw_in (List.mem_of_getElem? (i := 562) (by rfl)) (by rfl)
set_option maxRecDepth 100000 in
theorem ml_RL_168 : Cond.methodLink RL 168 yX11_truncate ∈ BW := bw_in (List.mem_of_getElem? (i := 559) (by rfl)) (by rfl)
set_option maxRecDepth 100000 in
theorem in_X11_truncate : Cond.instanceMethod yX11_truncate ∈ BW := bw_in (List.mem_of_getElem? (i := 560) (by rfl)) (by rfl)
set_option maxRecDepth 100000 in
theorem sl_X11_truncate : Cond.selects RX11 yX11_truncate yX11_truncate ∈ BW := bw_in (List.mem_of_getElem? (i := 561) (by rfl)) (by rfl)
set_option maxRecDepth 100000 in
theorem cd_X12_truncate : Cond.code yX12_truncate cX12_truncate 2 (some .boolean) ∈ BW := bw_in (List.mem_of_getElem? (i := 1531) (by rfl)) (by rfl)
set_option maxRecDepth 100000 in
theorem ml_RL_171 : Cond.methodLink RL 171 yX12_truncate ∈ BW := bw_in (List.mem_of_getElem? (i := 1528) (by rfl)) (by rfl)
set_option maxRecDepth 100000 in
theorem in_X12_truncate : Cond.instanceMethod yX12_truncate ∈ BW := bw_in (List.mem_of_getElem? (i := 1529) (by rfl)) (by rfl)
set_option maxRecDepth 100000 in
theorem sl_X12_truncate : Cond.selects RX12 yX12_truncate yX12_truncate ∈ BW := bw_in (List.mem_of_getElem? (i := 1530) (by rfl)) (by rfl)
set_option maxRecDepth 100000 in
theorem ml_RL_172 : Cond.methodLink RL 172 yL_load ∈ BW := bw_in (List.mem_of_getElem? (i := 711) (by rfl)) (by rfl)
set_option maxRecDepth 100000 in
theorem st_L_load : Cond.static yL_load ∈ BW := bw_in (List.mem_of_getElem? (i := 712) (by rfl)) (by rfl)
set_option maxRecDepth 100000 in
theorem cd_X12_load : Cond.code yX12_load cX12_load 2 (some .int) ∈ BW := bw_in (List.mem_of_getElem? (i := 1636) (by rfl)) (by rfl)
set_option maxRecDepth 100000 in
theorem ml_RL_177 : Cond.methodLink RL 177 yX12_load ∈ BW := bw_in (List.mem_of_getElem? (i := 1633) (by rfl)) (by rfl)
set_option maxRecDepth 100000 in
theorem in_X12_load : Cond.instanceMethod yX12_load ∈ BW := bw_in (List.mem_of_getElem? (i := 1634) (by rfl)) (by rfl)
set_option maxRecDepth 100000 in
theorem sl_X12_load : Cond.selects RX12 yX12_load yX12_load ∈ BW := bw_in (List.mem_of_getElem? (i := 1635) (by rfl)) (by rfl)
set_option maxRecDepth 100000 in
theorem cd_X12_thrown : Cond.code yX12_thrown cX12_thrown 1 (some .int) ∈ BW := bw_in (List.mem_of_getElem? (i := 1523) (by rfl)) (by rfl)
set_option maxRecDepth 100000 in
theorem ml_RL_178 : Cond.methodLink RL 178 yX12_thrown ∈ BW := bw_in (List.mem_of_getElem? (i := 1520) (by rfl)) (by rfl)
set_option maxRecDepth 100000 in
theorem in_X12_thrown : Cond.instanceMethod yX12_thrown ∈ BW := bw_in (List.mem_of_getElem? (i := 1521) (by rfl)) (by rfl)
set_option maxRecDepth 100000 in
theorem sl_X12_thrown : Cond.selects RX12 yX12_thrown yX12_thrown ∈ BW := bw_in (List.mem_of_getElem? (i := 1522) (by rfl)) (by rfl)
set_option maxRecDepth 100000 in
theorem cd_X11_errorOffset : Cond.code yX11_errorOffset cX11_errorOffset 1 (some .int) ∈ BW := bw_in (List.mem_of_getElem? (i := 566) (by rfl)) (by rfl)
set_option maxRecDepth 100000 in
theorem ml_RL_181 : Cond.methodLink RL 181 yX11_errorOffset ∈ BW := bw_in (List.mem_of_getElem? (i := 563) (by rfl)) (by rfl)
set_option maxRecDepth 100000 in
theorem in_X11_errorOffset : Cond.instanceMethod yX11_errorOffset ∈ BW := bw_in (List.mem_of_getElem? (i := 564) (by rfl)) (by rfl)
set_option maxRecDepth 100000 in
theorem sl_X11_errorOffset : Cond.selects RX11 yX11_errorOffset yX11_errorOffset ∈ BW := bw_in (List.mem_of_getElem? (i := 565) (by rfl)) (by rfl)
set_option maxRecDepth 100000 in
theorem cd_X12_errorOffset : Cond.code yX12_errorOffset cX12_errorOffset 1 (some .int) ∈ BW := bw_in (List.mem_of_getElem? (i := 1535) (by rfl)) (by rfl)
set_option maxRecDepth 100000 in
theorem ml_RL_184 : Cond.methodLink RL 184 yX12_errorOffset ∈ BW := bw_in (List.mem_of_getElem? (i := 1532) (by rfl)) (by rfl)
set_option maxRecDepth 100000 in
theorem in_X12_errorOffset : Cond.instanceMethod yX12_errorOffset ∈ BW := bw_in (List.mem_of_getElem? (i := 1533) (by rfl)) (by rfl)
set_option maxRecDepth 100000 in
theorem sl_X12_errorOffset : Cond.selects RX12 yX12_errorOffset yX12_errorOffset ∈ BW := bw_in (List.mem_of_getElem? (i := 1534) (by rfl)) (by rfl)
set_option maxRecDepth 100000 in
theorem cd_X11_errorKind : Cond.code yX11_errorKind cX11_errorKind 1 (some .int) ∈ BW := bw_in (List.mem_of_getElem? (i := 570) (by rfl)) (by rfl)
set_option maxRecDepth 100000 in
theorem ml_RL_185 : Cond.methodLink RL 185 yX11_errorKind ∈ BW := bw_in (List.mem_of_getElem? (i := 567) (by rfl)) (by rfl)
set_option maxRecDepth 100000 in
theorem in_X11_errorKind : Cond.instanceMethod yX11_errorKind ∈ BW := bw_in (List.mem_of_getElem? (i := 568) (by rfl)) (by rfl)
set_option maxRecDepth 100000 in
theorem sl_X11_errorKind : Cond.selects RX11 yX11_errorKind yX11_errorKind ∈ BW := bw_in (List.mem_of_getElem? (i := 569) (by rfl)) (by rfl)
set_option maxRecDepth 100000 in
theorem cd_X12_errorKind : Cond.code yX12_errorKind cX12_errorKind 1 (some .int) ∈ BW := bw_in (List.mem_of_getElem? (i := 1539) (by rfl)) (by rfl)
set_option maxRecDepth 100000 in
theorem ml_RL_188 : Cond.methodLink RL 188 yX12_errorKind ∈ BW := bw_in (List.mem_of_getElem? (i := 1536) (by rfl)) (by rfl)
set_option maxRecDepth 100000 in
theorem in_X12_errorKind : Cond.instanceMethod yX12_errorKind ∈ BW := bw_in (List.mem_of_getElem? (i := 1537) (by rfl)) (by rfl)
set_option maxRecDepth 100000 in
theorem sl_X12_errorKind : Cond.selects RX12 yX12_errorKind yX12_errorKind ∈ BW := bw_in (List.mem_of_getElem? (i := 1538) (by rfl)) (by rfl)
set_option maxRecDepth 100000 in
theorem cd_X11_blastCount : Cond.code yX11_blastCount cX11_blastCount 1 (some .int) ∈ BW := bw_in (List.mem_of_getElem? (i := 574) (by rfl)) (by rfl)
set_option maxRecDepth 100000 in
theorem ml_RL_189 : Cond.methodLink RL 189 yX11_blastCount ∈ BW := bw_in (List.mem_of_getElem? (i := 571) (by rfl)) (by rfl)
set_option maxRecDepth 100000 in
theorem in_X11_blastCount : Cond.instanceMethod yX11_blastCount ∈ BW := bw_in (List.mem_of_getElem? (i := 572) (by rfl)) (by rfl)
set_option maxRecDepth 100000 in
theorem sl_X11_blastCount : Cond.selects RX11 yX11_blastCount yX11_blastCount ∈ BW := bw_in (List.mem_of_getElem? (i := 573) (by rfl)) (by rfl)
set_option maxRecDepth 100000 in
theorem cd_X12_blastCount : Cond.code yX12_blastCount cX12_blastCount 1 (some .int) ∈ BW := bw_in (List.mem_of_getElem? (i := 1732) (by rfl)) (by rfl)
set_option maxRecDepth 100000 in
theorem ml_RL_192 : Cond.methodLink RL 192 yX12_blastCount ∈ BW := bw_in (List.mem_of_getElem? (i := 1729) (by rfl)) (by rfl)
set_option maxRecDepth 100000 in
theorem in_X12_blastCount : Cond.instanceMethod yX12_blastCount ∈ BW := bw_in (List.mem_of_getElem? (i := 1730) (by rfl)) (by rfl)
set_option maxRecDepth 100000 in
theorem sl_X12_blastCount : Cond.selects RX12 yX12_blastCount yX12_blastCount ∈ BW := bw_in (List.mem_of_getElem? (i := 1731) (by rfl)) (by rfl)
set_option maxRecDepth 100000 in
theorem cd_X11_neighbourCount : Cond.code yX11_neighbourCount cX11_neighbourCount 1 (some .int) ∈ BW := bw_in (List.mem_of_getElem? (i := 578) (by rfl)) (by rfl)
set_option maxRecDepth 100000 in
theorem ml_RL_193 : Cond.methodLink RL 193 yX11_neighbourCount ∈ BW := bw_in (List.mem_of_getElem? (i := 575) (by rfl)) (by rfl)
set_option maxRecDepth 100000 in
theorem in_X11_neighbourCount : Cond.instanceMethod yX11_neighbourCount ∈ BW := bw_in (List.mem_of_getElem? (i := 576) (by rfl)) (by rfl)
set_option maxRecDepth 100000 in
theorem sl_X11_neighbourCount : Cond.selects RX11 yX11_neighbourCount yX11_neighbourCount ∈ BW := bw_in (List.mem_of_getElem? (i := 577) (by rfl)) (by rfl)
set_option maxRecDepth 100000 in
theorem cd_X12_neighbourCount : Cond.code yX12_neighbourCount cX12_neighbourCount 1 (some .int) ∈ BW := bw_in (List.mem_of_getElem? (i := 1736) (by rfl)) (by rfl)
set_option maxRecDepth 100000 in
theorem ml_RL_196 : Cond.methodLink RL 196 yX12_neighbourCount ∈ BW := bw_in (List.mem_of_getElem? (i := 1733) (by rfl)) (by rfl)
set_option maxRecDepth 100000 in
theorem in_X12_neighbourCount : Cond.instanceMethod yX12_neighbourCount ∈ BW := bw_in (List.mem_of_getElem? (i := 1734) (by rfl)) (by rfl)
set_option maxRecDepth 100000 in
theorem sl_X12_neighbourCount : Cond.selects RX12 yX12_neighbourCount yX12_neighbourCount ∈ BW := bw_in (List.mem_of_getElem? (i := 1735) (by rfl)) (by rfl)
set_option maxRecDepth 100000 in
theorem cd_X11_roadCount : Cond.code yX11_roadCount cX11_roadCount 1 (some .int) ∈ BW := bw_in (List.mem_of_getElem? (i := 582) (by rfl)) (by rfl)
set_option maxRecDepth 100000 in
theorem ml_RL_197 : Cond.methodLink RL 197 yX11_roadCount ∈ BW := bw_in (List.mem_of_getElem? (i := 579) (by rfl)) (by rfl)
set_option maxRecDepth 100000 in
theorem in_X11_roadCount : Cond.instanceMethod yX11_roadCount ∈ BW := bw_in (List.mem_of_getElem? (i := 580) (by rfl)) (by rfl)
set_option maxRecDepth 100000 in
theorem sl_X11_roadCount : Cond.selects RX11 yX11_roadCount yX11_roadCount ∈ BW := bw_in (List.mem_of_getElem? (i := 581) (by rfl)) (by rfl)
set_option maxRecDepth 100000 in
theorem cd_X12_roadCount : Cond.code yX12_roadCount cX12_roadCount 1 (some .int) ∈ BW := bw_in (List.mem_of_getElem? (i := 1740) (by rfl)) (by rfl)
set_option maxRecDepth 100000 in
theorem ml_RL_200 : Cond.methodLink RL 200 yX12_roadCount ∈ BW := bw_in (List.mem_of_getElem? (i := 1737) (by rfl)) (by rfl)
set_option maxRecDepth 100000 in
theorem in_X12_roadCount : Cond.instanceMethod yX12_roadCount ∈ BW := bw_in (List.mem_of_getElem? (i := 1738) (by rfl)) (by rfl)
set_option maxRecDepth 100000 in
theorem sl_X12_roadCount : Cond.selects RX12 yX12_roadCount yX12_roadCount ∈ BW := bw_in (List.mem_of_getElem? (i := 1739) (by rfl)) (by rfl)
set_option maxRecDepth 100000 in
theorem cd_X11_startCount : Cond.code yX11_startCount cX11_startCount 1 (some .int) ∈ BW := bw_in (List.mem_of_getElem? (i := 586) (by rfl)) (by rfl)
set_option maxRecDepth 100000 in
theorem ml_RL_201 : Cond.methodLink RL 201 yX11_startCount ∈ BW := bw_in (List.mem_of_getElem? (i := 583) (by rfl)) (by rfl)
set_option maxRecDepth 100000 in
theorem in_X11_startCount : Cond.instanceMethod yX11_startCount ∈ BW := bw_in (List.mem_of_getElem? (i := 584) (by rfl)) (by rfl)
set_option maxRecDepth 100000 in
theorem sl_X11_startCount : Cond.selects RX11 yX11_startCount yX11_startCount ∈ BW := bw_in (List.mem_of_getElem? (i := 585) (by rfl)) (by rfl)
set_option maxRecDepth 100000 in
theorem cd_X12_startCount : Cond.code yX12_startCount cX12_startCount 1 (some .int) ∈ BW := bw_in (List.mem_of_getElem? (i := 1744) (by rfl)) (by rfl)
set_option maxRecDepth 100000 in
theorem ml_RL_204 : Cond.methodLink RL 204 yX12_startCount ∈ BW := bw_in (List.mem_of_getElem? (i := 1741) (by rfl)) (by rfl)
set_option maxRecDepth 100000 in
theorem in_X12_startCount : Cond.instanceMethod yX12_startCount ∈ BW := bw_in (List.mem_of_getElem? (i := 1742) (by rfl)) (by rfl)
set_option maxRecDepth 100000 in
theorem sl_X12_startCount : Cond.selects RX12 yX12_startCount yX12_startCount ∈ BW := bw_in (List.mem_of_getElem? (i := 1743) (by rfl)) (by rfl)
set_option maxRecDepth 100000 in
theorem ml_RL_205 : Cond.methodLink RL 205 yL_chargeCount ∈ BW := bw_in (List.mem_of_getElem? (i := 984) (by rfl)) (by rfl)
set_option maxRecDepth 100000 in
theorem st_L_chargeCount : Cond.static yL_chargeCount ∈ BW := bw_in (List.mem_of_getElem? (i := 985) (by rfl)) (by rfl)
set_option maxRecDepth 100000 in
theorem cd_X12_chargeCount : Cond.code yX12_chargeCount cX12_chargeCount 2 (some .int) ∈ BW := bw_in (List.mem_of_getElem? (i := 1752) (by rfl)) (by rfl)
set_option maxRecDepth 100000 in
theorem ml_RL_208 : Cond.methodLink RL 208 yX12_chargeCount ∈ BW := bw_in (List.mem_of_getElem? (i := 1749) (by rfl)) (by rfl)
set_option maxRecDepth 100000 in
theorem in_X12_chargeCount : Cond.instanceMethod yX12_chargeCount ∈ BW := bw_in (List.mem_of_getElem? (i := 1750) (by rfl)) (by rfl)
set_option maxRecDepth 100000 in
theorem sl_X12_chargeCount : Cond.selects RX12 yX12_chargeCount yX12_chargeCount ∈ BW := bw_in (List.mem_of_getElem? (i := 1751) (by rfl)) (by rfl)
set_option maxRecDepth 100000 in
theorem ml_RL_209 : Cond.methodLink RL 209 yL_chargeSize ∈ BW := bw_in (List.mem_of_getElem? (i := 1016) (by rfl)) (by rfl)
set_option maxRecDepth 100000 in
theorem st_L_chargeSize : Cond.static yL_chargeSize ∈ BW := bw_in (List.mem_of_getElem? (i := 1017) (by rfl)) (by rfl)
set_option maxRecDepth 100000 in
theorem cd_X12_chargeSize : Cond.code yX12_chargeSize cX12_chargeSize 3 (some .int) ∈ BW := bw_in (List.mem_of_getElem? (i := 1768) (by rfl)) (by rfl)
set_option maxRecDepth 100000 in
theorem ml_RL_212 : Cond.methodLink RL 212 yX12_chargeSize ∈ BW := bw_in (List.mem_of_getElem? (i := 1765) (by rfl)) (by rfl)
set_option maxRecDepth 100000 in
theorem in_X12_chargeSize : Cond.instanceMethod yX12_chargeSize ∈ BW := bw_in (List.mem_of_getElem? (i := 1766) (by rfl)) (by rfl)
set_option maxRecDepth 100000 in
theorem sl_X12_chargeSize : Cond.selects RX12 yX12_chargeSize yX12_chargeSize ∈ BW := bw_in (List.mem_of_getElem? (i := 1767) (by rfl)) (by rfl)
set_option maxRecDepth 100000 in
theorem ml_RL_213 : Cond.methodLink RL 213 yL_delay ∈ BW := bw_in (List.mem_of_getElem? (i := 1028) (by rfl)) (by rfl)
set_option maxRecDepth 100000 in
theorem st_L_delay : Cond.static yL_delay ∈ BW := bw_in (List.mem_of_getElem? (i := 1029) (by rfl)) (by rfl)
set_option maxRecDepth 100000 in
theorem cd_X12_delay : Cond.code yX12_delay cX12_delay 3 (some .int) ∈ BW := bw_in (List.mem_of_getElem? (i := 1780) (by rfl)) (by rfl)
set_option maxRecDepth 100000 in
theorem ml_RL_215 : Cond.methodLink RL 215 yX12_delay ∈ BW := bw_in (List.mem_of_getElem? (i := 1777) (by rfl)) (by rfl)
set_option maxRecDepth 100000 in
theorem in_X12_delay : Cond.instanceMethod yX12_delay ∈ BW := bw_in (List.mem_of_getElem? (i := 1778) (by rfl)) (by rfl)
set_option maxRecDepth 100000 in
theorem sl_X12_delay : Cond.selects RX12 yX12_delay yX12_delay ∈ BW := bw_in (List.mem_of_getElem? (i := 1779) (by rfl)) (by rfl)
set_option maxRecDepth 100000 in
theorem ml_RL_216 : Cond.methodLink RL 216 yL_totalSize ∈ BW := bw_in (List.mem_of_getElem? (i := 1035) (by rfl)) (by rfl)
set_option maxRecDepth 100000 in
theorem st_L_totalSize : Cond.static yL_totalSize ∈ BW := bw_in (List.mem_of_getElem? (i := 1036) (by rfl)) (by rfl)
set_option maxRecDepth 100000 in
theorem cd_X12_totalSize : Cond.code yX12_totalSize cX12_totalSize 4 (some .int) ∈ BW := bw_in (List.mem_of_getElem? (i := 1788) (by rfl)) (by rfl)
set_option maxRecDepth 100000 in
theorem ml_RL_218 : Cond.methodLink RL 218 yX12_totalSize ∈ BW := bw_in (List.mem_of_getElem? (i := 1785) (by rfl)) (by rfl)
set_option maxRecDepth 100000 in
theorem in_X12_totalSize : Cond.instanceMethod yX12_totalSize ∈ BW := bw_in (List.mem_of_getElem? (i := 1786) (by rfl)) (by rfl)
set_option maxRecDepth 100000 in
theorem sl_X12_totalSize : Cond.selects RX12 yX12_totalSize yX12_totalSize ∈ BW := bw_in (List.mem_of_getElem? (i := 1787) (by rfl)) (by rfl)
set_option maxRecDepth 100000 in
theorem ml_RL_219 : Cond.methodLink RL 219 yL_delaySpan ∈ BW := bw_in (List.mem_of_getElem? (i := 1046) (by rfl)) (by rfl)
set_option maxRecDepth 100000 in
theorem st_L_delaySpan : Cond.static yL_delaySpan ∈ BW := bw_in (List.mem_of_getElem? (i := 1047) (by rfl)) (by rfl)
set_option maxRecDepth 100000 in
theorem cd_X12_delaySpan : Cond.code yX12_delaySpan cX12_delaySpan 5 (some .int) ∈ BW := bw_in (List.mem_of_getElem? (i := 1792) (by rfl)) (by rfl)
set_option maxRecDepth 100000 in
theorem ml_RL_221 : Cond.methodLink RL 221 yX12_delaySpan ∈ BW := bw_in (List.mem_of_getElem? (i := 1789) (by rfl)) (by rfl)
set_option maxRecDepth 100000 in
theorem in_X12_delaySpan : Cond.instanceMethod yX12_delaySpan ∈ BW := bw_in (List.mem_of_getElem? (i := 1790) (by rfl)) (by rfl)
set_option maxRecDepth 100000 in
theorem sl_X12_delaySpan : Cond.selects RX12 yX12_delaySpan yX12_delaySpan ∈ BW := bw_in (List.mem_of_getElem? (i := 1791) (by rfl)) (by rfl)
set_option maxRecDepth 100000 in
theorem ml_RL_222 : Cond.methodLink RL 222 yL_windowSize ∈ BW := bw_in (List.mem_of_getElem? (i := 1059) (by rfl)) (by rfl)
set_option maxRecDepth 100000 in
theorem st_L_windowSize : Cond.static yL_windowSize ∈ BW := bw_in (List.mem_of_getElem? (i := 1060) (by rfl)) (by rfl)
set_option maxRecDepth 100000 in
theorem cd_X12_windowSize : Cond.code yX12_windowSize cX12_windowSize 2 (some .int) ∈ BW := bw_in (List.mem_of_getElem? (i := 1798) (by rfl)) (by rfl)
set_option maxRecDepth 100000 in
theorem ml_RL_224 : Cond.methodLink RL 224 yX12_windowSize ∈ BW := bw_in (List.mem_of_getElem? (i := 1795) (by rfl)) (by rfl)
set_option maxRecDepth 100000 in
theorem in_X12_windowSize : Cond.instanceMethod yX12_windowSize ∈ BW := bw_in (List.mem_of_getElem? (i := 1796) (by rfl)) (by rfl)
set_option maxRecDepth 100000 in
theorem sl_X12_windowSize : Cond.selects RX12 yX12_windowSize yX12_windowSize ∈ BW := bw_in (List.mem_of_getElem? (i := 1797) (by rfl)) (by rfl)
set_option maxRecDepth 100000 in
theorem ml_RL_225 : Cond.methodLink RL 225 yL_windowStart ∈ BW := bw_in (List.mem_of_getElem? (i := 1066) (by rfl)) (by rfl)
set_option maxRecDepth 100000 in
theorem st_L_windowStart : Cond.static yL_windowStart ∈ BW := bw_in (List.mem_of_getElem? (i := 1067) (by rfl)) (by rfl)
set_option maxRecDepth 100000 in
theorem cd_X12_windowStart : Cond.code yX12_windowStart cX12_windowStart 6 (some .int) ∈ BW := bw_in (List.mem_of_getElem? (i := 1810) (by rfl)) (by rfl)
set_option maxRecDepth 100000 in
theorem ml_RL_227 : Cond.methodLink RL 227 yX12_windowStart ∈ BW := bw_in (List.mem_of_getElem? (i := 1807) (by rfl)) (by rfl)
set_option maxRecDepth 100000 in
theorem in_X12_windowStart : Cond.instanceMethod yX12_windowStart ∈ BW := bw_in (List.mem_of_getElem? (i := 1808) (by rfl)) (by rfl)
set_option maxRecDepth 100000 in
theorem sl_X12_windowStart : Cond.selects RX12 yX12_windowStart yX12_windowStart ∈ BW := bw_in (List.mem_of_getElem? (i := 1809) (by rfl)) (by rfl)
set_option maxRecDepth 100000 in
theorem ml_RL_228 : Cond.methodLink RL 228 yL_vibration ∈ BW := bw_in (List.mem_of_getElem? (i := 1073) (by rfl)) (by rfl)
set_option maxRecDepth 100000 in
theorem st_L_vibration : Cond.static yL_vibration ∈ BW := bw_in (List.mem_of_getElem? (i := 1074) (by rfl)) (by rfl)
set_option maxRecDepth 100000 in
theorem cd_X12_vibration : Cond.code yX12_vibration cX12_vibration 3 (some .int) ∈ BW := bw_in (List.mem_of_getElem? (i := 1814) (by rfl)) (by rfl)
set_option maxRecDepth 100000 in
theorem ml_RL_230 : Cond.methodLink RL 230 yX12_vibration ∈ BW := bw_in (List.mem_of_getElem? (i := 1811) (by rfl)) (by rfl)
set_option maxRecDepth 100000 in
theorem in_X12_vibration : Cond.instanceMethod yX12_vibration ∈ BW := bw_in (List.mem_of_getElem? (i := 1812) (by rfl)) (by rfl)
set_option maxRecDepth 100000 in
theorem sl_X12_vibration : Cond.selects RX12 yX12_vibration yX12_vibration ∈ BW := bw_in (List.mem_of_getElem? (i := 1813) (by rfl)) (by rfl)
set_option maxRecDepth 100000 in
theorem ml_RL_231 : Cond.methodLink RL 231 yL_mostShaken ∈ BW := bw_in (List.mem_of_getElem? (i := 1086) (by rfl)) (by rfl)
set_option maxRecDepth 100000 in
theorem st_L_mostShaken : Cond.static yL_mostShaken ∈ BW := bw_in (List.mem_of_getElem? (i := 1087) (by rfl)) (by rfl)
set_option maxRecDepth 100000 in
theorem cd_X12_mostShaken : Cond.code yX12_mostShaken cX12_mostShaken 4 (some .int) ∈ BW := bw_in (List.mem_of_getElem? (i := 1838) (by rfl)) (by rfl)
set_option maxRecDepth 100000 in
theorem ml_RL_233 : Cond.methodLink RL 233 yX12_mostShaken ∈ BW := bw_in (List.mem_of_getElem? (i := 1835) (by rfl)) (by rfl)
set_option maxRecDepth 100000 in
theorem in_X12_mostShaken : Cond.instanceMethod yX12_mostShaken ∈ BW := bw_in (List.mem_of_getElem? (i := 1836) (by rfl)) (by rfl)
set_option maxRecDepth 100000 in
theorem sl_X12_mostShaken : Cond.selects RX12 yX12_mostShaken yX12_mostShaken ∈ BW := bw_in (List.mem_of_getElem? (i := 1837) (by rfl)) (by rfl)
set_option maxRecDepth 100000 in
theorem ml_RL_234 : Cond.methodLink RL 234 yL_tooStrongAt ∈ BW := bw_in (List.mem_of_getElem? (i := 1093) (by rfl)) (by rfl)
set_option maxRecDepth 100000 in
theorem st_L_tooStrongAt : Cond.static yL_tooStrongAt ∈ BW := bw_in (List.mem_of_getElem? (i := 1094) (by rfl)) (by rfl)
set_option maxRecDepth 100000 in
theorem cd_X12_tooStrongAt : Cond.code yX12_tooStrongAt cX12_tooStrongAt 4 (some .int) ∈ BW := bw_in (List.mem_of_getElem? (i := 1842) (by rfl)) (by rfl)
set_option maxRecDepth 100000 in
theorem ml_RL_236 : Cond.methodLink RL 236 yX12_tooStrongAt ∈ BW := bw_in (List.mem_of_getElem? (i := 1839) (by rfl)) (by rfl)
set_option maxRecDepth 100000 in
theorem in_X12_tooStrongAt : Cond.instanceMethod yX12_tooStrongAt ∈ BW := bw_in (List.mem_of_getElem? (i := 1840) (by rfl)) (by rfl)
set_option maxRecDepth 100000 in
theorem sl_X12_tooStrongAt : Cond.selects RX12 yX12_tooStrongAt yX12_tooStrongAt ∈ BW := bw_in (List.mem_of_getElem? (i := 1841) (by rfl)) (by rfl)
set_option maxRecDepth 100000 in
theorem ml_RL_237 : Cond.methodLink RL 237 yL_neededGap ∈ BW := bw_in (List.mem_of_getElem? (i := 1100) (by rfl)) (by rfl)
set_option maxRecDepth 100000 in
theorem st_L_neededGap : Cond.static yL_neededGap ∈ BW := bw_in (List.mem_of_getElem? (i := 1101) (by rfl)) (by rfl)
set_option maxRecDepth 100000 in
theorem cd_X12_neededGap : Cond.code yX12_neededGap cX12_neededGap 4 (some .int) ∈ BW := bw_in (List.mem_of_getElem? (i := 1850) (by rfl)) (by rfl)
set_option maxRecDepth 100000 in
theorem ml_RL_239 : Cond.methodLink RL 239 yX12_neededGap ∈ BW := bw_in (List.mem_of_getElem? (i := 1847) (by rfl)) (by rfl)
set_option maxRecDepth 100000 in
theorem in_X12_neededGap : Cond.instanceMethod yX12_neededGap ∈ BW := bw_in (List.mem_of_getElem? (i := 1848) (by rfl)) (by rfl)
set_option maxRecDepth 100000 in
theorem sl_X12_neededGap : Cond.selects RX12 yX12_neededGap yX12_neededGap ∈ BW := bw_in (List.mem_of_getElem? (i := 1849) (by rfl)) (by rfl)
set_option maxRecDepth 100000 in
theorem ml_RL_240 : Cond.methodLink RL 240 yL_vibrationIfGap ∈ BW := bw_in (List.mem_of_getElem? (i := 1111) (by rfl)) (by rfl)
set_option maxRecDepth 100000 in
theorem st_L_vibrationIfGap : Cond.static yL_vibrationIfGap ∈ BW := bw_in (List.mem_of_getElem? (i := 1112) (by rfl)) (by rfl)
set_option maxRecDepth 100000 in
theorem cd_X12_vibrationIfGap : Cond.code yX12_vibrationIfGap cX12_vibrationIfGap 4 (some .int) ∈ BW := bw_in (List.mem_of_getElem? (i := 1854) (by rfl)) (by rfl)
set_option maxRecDepth 100000 in
theorem ml_RL_243 : Cond.methodLink RL 243 yX12_vibrationIfGap ∈ BW := bw_in (List.mem_of_getElem? (i := 1851) (by rfl)) (by rfl)
set_option maxRecDepth 100000 in
theorem in_X12_vibrationIfGap : Cond.instanceMethod yX12_vibrationIfGap ∈ BW := bw_in (List.mem_of_getElem? (i := 1852) (by rfl)) (by rfl)
set_option maxRecDepth 100000 in
theorem sl_X12_vibrationIfGap : Cond.selects RX12 yX12_vibrationIfGap yX12_vibrationIfGap ∈ BW := bw_in (List.mem_of_getElem? (i := 1853) (by rfl)) (by rfl)
set_option maxRecDepth 100000 in
theorem ml_RL_244 : Cond.methodLink RL 244 yL_closes ∈ BW := bw_in (List.mem_of_getElem? (i := 1123) (by rfl)) (by rfl)
set_option maxRecDepth 100000 in
theorem st_L_closes : Cond.static yL_closes ∈ BW := bw_in (List.mem_of_getElem? (i := 1124) (by rfl)) (by rfl)
set_option maxRecDepth 100000 in
theorem cd_X12_closes : Cond.code yX12_closes cX12_closes 3 (some .boolean) ∈ BW := bw_in (List.mem_of_getElem? (i := 1858) (by rfl)) (by rfl)
set_option maxRecDepth 100000 in
theorem ml_RL_246 : Cond.methodLink RL 246 yX12_closes ∈ BW := bw_in (List.mem_of_getElem? (i := 1855) (by rfl)) (by rfl)
set_option maxRecDepth 100000 in
theorem in_X12_closes : Cond.instanceMethod yX12_closes ∈ BW := bw_in (List.mem_of_getElem? (i := 1856) (by rfl)) (by rfl)
set_option maxRecDepth 100000 in
theorem sl_X12_closes : Cond.selects RX12 yX12_closes yX12_closes ∈ BW := bw_in (List.mem_of_getElem? (i := 1857) (by rfl)) (by rfl)
set_option maxRecDepth 100000 in
theorem ml_RL_247 : Cond.methodLink RL 247 yL_closedBy ∈ BW := bw_in (List.mem_of_getElem? (i := 1136) (by rfl)) (by rfl)
set_option maxRecDepth 100000 in
theorem st_L_closedBy : Cond.static yL_closedBy ∈ BW := bw_in (List.mem_of_getElem? (i := 1137) (by rfl)) (by rfl)
set_option maxRecDepth 100000 in
theorem cd_X12_closedBy : Cond.code yX12_closedBy cX12_closedBy 2 (some .int) ∈ BW := bw_in (List.mem_of_getElem? (i := 1878) (by rfl)) (by rfl)
set_option maxRecDepth 100000 in
theorem ml_RL_249 : Cond.methodLink RL 249 yX12_closedBy ∈ BW := bw_in (List.mem_of_getElem? (i := 1875) (by rfl)) (by rfl)
set_option maxRecDepth 100000 in
theorem in_X12_closedBy : Cond.instanceMethod yX12_closedBy ∈ BW := bw_in (List.mem_of_getElem? (i := 1876) (by rfl)) (by rfl)
set_option maxRecDepth 100000 in
theorem sl_X12_closedBy : Cond.selects RX12 yX12_closedBy yX12_closedBy ∈ BW := bw_in (List.mem_of_getElem? (i := 1877) (by rfl)) (by rfl)
set_option maxRecDepth 100000 in
theorem ml_RL_250 : Cond.methodLink RL 250 yL_isQuiet ∈ BW := bw_in (List.mem_of_getElem? (i := 1143) (by rfl)) (by rfl)
set_option maxRecDepth 100000 in
theorem st_L_isQuiet : Cond.static yL_isQuiet ∈ BW := bw_in (List.mem_of_getElem? (i := 1144) (by rfl)) (by rfl)
set_option maxRecDepth 100000 in
theorem cd_X12_isQuiet : Cond.code yX12_isQuiet cX12_isQuiet 3 (some .boolean) ∈ BW := bw_in (List.mem_of_getElem? (i := 1890) (by rfl)) (by rfl)
set_option maxRecDepth 100000 in
theorem ml_RL_252 : Cond.methodLink RL 252 yX12_isQuiet ∈ BW := bw_in (List.mem_of_getElem? (i := 1887) (by rfl)) (by rfl)
set_option maxRecDepth 100000 in
theorem in_X12_isQuiet : Cond.instanceMethod yX12_isQuiet ∈ BW := bw_in (List.mem_of_getElem? (i := 1888) (by rfl)) (by rfl)
set_option maxRecDepth 100000 in
theorem sl_X12_isQuiet : Cond.selects RX12 yX12_isQuiet yX12_isQuiet ∈ BW := bw_in (List.mem_of_getElem? (i := 1889) (by rfl)) (by rfl)
set_option maxRecDepth 100000 in
theorem ml_RL_253 : Cond.methodLink RL 253 yL_dustAt ∈ BW := bw_in (List.mem_of_getElem? (i := 1154) (by rfl)) (by rfl)
set_option maxRecDepth 100000 in
theorem st_L_dustAt : Cond.static yL_dustAt ∈ BW := bw_in (List.mem_of_getElem? (i := 1155) (by rfl)) (by rfl)
set_option maxRecDepth 100000 in
theorem cd_X12_dustAt : Cond.code yX12_dustAt cX12_dustAt 3 (some .int) ∈ BW := bw_in (List.mem_of_getElem? (i := 1902) (by rfl)) (by rfl)
set_option maxRecDepth 100000 in
theorem ml_RL_255 : Cond.methodLink RL 255 yX12_dustAt ∈ BW := bw_in (List.mem_of_getElem? (i := 1899) (by rfl)) (by rfl)
set_option maxRecDepth 100000 in
theorem in_X12_dustAt : Cond.instanceMethod yX12_dustAt ∈ BW := bw_in (List.mem_of_getElem? (i := 1900) (by rfl)) (by rfl)
set_option maxRecDepth 100000 in
theorem sl_X12_dustAt : Cond.selects RX12 yX12_dustAt yX12_dustAt ∈ BW := bw_in (List.mem_of_getElem? (i := 1901) (by rfl)) (by rfl)
set_option maxRecDepth 100000 in
theorem ml_RL_256 : Cond.methodLink RL 256 yL_neededRadius ∈ BW := bw_in (List.mem_of_getElem? (i := 1161) (by rfl)) (by rfl)
set_option maxRecDepth 100000 in
theorem st_L_neededRadius : Cond.static yL_neededRadius ∈ BW := bw_in (List.mem_of_getElem? (i := 1162) (by rfl)) (by rfl)
set_option maxRecDepth 100000 in
theorem cd_X12_neededRadius : Cond.code yX12_neededRadius cX12_neededRadius 4 (some .int) ∈ BW := bw_in (List.mem_of_getElem? (i := 1886) (by rfl)) (by rfl)
set_option maxRecDepth 100000 in
theorem ml_RL_258 : Cond.methodLink RL 258 yX12_neededRadius ∈ BW := bw_in (List.mem_of_getElem? (i := 1883) (by rfl)) (by rfl)
set_option maxRecDepth 100000 in
theorem in_X12_neededRadius : Cond.instanceMethod yX12_neededRadius ∈ BW := bw_in (List.mem_of_getElem? (i := 1884) (by rfl)) (by rfl)
set_option maxRecDepth 100000 in
theorem sl_X12_neededRadius : Cond.selects RX12 yX12_neededRadius yX12_neededRadius ∈ BW := bw_in (List.mem_of_getElem? (i := 1885) (by rfl)) (by rfl)
set_option maxRecDepth 100000 in
theorem ml_RL_259 : Cond.methodLink RL 259 yL_quietMinutes ∈ BW := bw_in (List.mem_of_getElem? (i := 1169) (by rfl)) (by rfl)
set_option maxRecDepth 100000 in
theorem st_L_quietMinutes : Cond.static yL_quietMinutes ∈ BW := bw_in (List.mem_of_getElem? (i := 1170) (by rfl)) (by rfl)
set_option maxRecDepth 100000 in
theorem cd_X12_quietMinutes : Cond.code yX12_quietMinutes cX12_quietMinutes 4 (some .int) ∈ BW := bw_in (List.mem_of_getElem? (i := 1898) (by rfl)) (by rfl)
set_option maxRecDepth 100000 in
theorem ml_RL_261 : Cond.methodLink RL 261 yX12_quietMinutes ∈ BW := bw_in (List.mem_of_getElem? (i := 1895) (by rfl)) (by rfl)
set_option maxRecDepth 100000 in
theorem in_X12_quietMinutes : Cond.instanceMethod yX12_quietMinutes ∈ BW := bw_in (List.mem_of_getElem? (i := 1896) (by rfl)) (by rfl)
set_option maxRecDepth 100000 in
theorem sl_X12_quietMinutes : Cond.selects RX12 yX12_quietMinutes yX12_quietMinutes ∈ BW := bw_in (List.mem_of_getElem? (i := 1897) (by rfl)) (by rfl)
set_option maxRecDepth 100000 in
theorem ml_RL_262 : Cond.methodLink RL 262 yL_dustHours ∈ BW := bw_in (List.mem_of_getElem? (i := 1179) (by rfl)) (by rfl)
set_option maxRecDepth 100000 in
theorem st_L_dustHours : Cond.static yL_dustHours ∈ BW := bw_in (List.mem_of_getElem? (i := 1180) (by rfl)) (by rfl)
set_option maxRecDepth 100000 in
theorem cd_X12_dustHours : Cond.code yX12_dustHours cX12_dustHours 4 (some .int) ∈ BW := bw_in (List.mem_of_getElem? (i := 1921) (by rfl)) (by rfl)
set_option maxRecDepth 100000 in
theorem ml_RL_264 : Cond.methodLink RL 264 yX12_dustHours ∈ BW := bw_in (List.mem_of_getElem? (i := 1918) (by rfl)) (by rfl)
set_option maxRecDepth 100000 in
theorem in_X12_dustHours : Cond.instanceMethod yX12_dustHours ∈ BW := bw_in (List.mem_of_getElem? (i := 1919) (by rfl)) (by rfl)
set_option maxRecDepth 100000 in
theorem sl_X12_dustHours : Cond.selects RX12 yX12_dustHours yX12_dustHours ∈ BW := bw_in (List.mem_of_getElem? (i := 1920) (by rfl)) (by rfl)
set_option maxRecDepth 100000 in
theorem ml_RL_265 : Cond.methodLink RL 265 yL_timeOf ∈ BW := bw_in (List.mem_of_getElem? (i := 1186) (by rfl)) (by rfl)
set_option maxRecDepth 100000 in
theorem st_L_timeOf : Cond.static yL_timeOf ∈ BW := bw_in (List.mem_of_getElem? (i := 1187) (by rfl)) (by rfl)
set_option maxRecDepth 100000 in
theorem cd_X12_timeOf : Cond.code yX12_timeOf cX12_timeOf 2 (some .int) ∈ BW := bw_in (List.mem_of_getElem? (i := 1925) (by rfl)) (by rfl)
set_option maxRecDepth 100000 in
theorem ml_RL_267 : Cond.methodLink RL 267 yX12_timeOf ∈ BW := bw_in (List.mem_of_getElem? (i := 1922) (by rfl)) (by rfl)
set_option maxRecDepth 100000 in
theorem in_X12_timeOf : Cond.instanceMethod yX12_timeOf ∈ BW := bw_in (List.mem_of_getElem? (i := 1923) (by rfl)) (by rfl)
set_option maxRecDepth 100000 in
theorem sl_X12_timeOf : Cond.selects RX12 yX12_timeOf yX12_timeOf ∈ BW := bw_in (List.mem_of_getElem? (i := 1924) (by rfl)) (by rfl)
set_option maxRecDepth 100000 in
theorem ml_RL_268 : Cond.methodLink RL 268 yL_isFired ∈ BW := bw_in (List.mem_of_getElem? (i := 1193) (by rfl)) (by rfl)
set_option maxRecDepth 100000 in
theorem st_L_isFired : Cond.static yL_isFired ∈ BW := bw_in (List.mem_of_getElem? (i := 1194) (by rfl)) (by rfl)
set_option maxRecDepth 100000 in
theorem cd_X12_isFired : Cond.code yX12_isFired cX12_isFired 2 (some .boolean) ∈ BW := bw_in (List.mem_of_getElem? (i := 1933) (by rfl)) (by rfl)
set_option maxRecDepth 100000 in
theorem ml_RL_270 : Cond.methodLink RL 270 yX12_isFired ∈ BW := bw_in (List.mem_of_getElem? (i := 1930) (by rfl)) (by rfl)
set_option maxRecDepth 100000 in
theorem in_X12_isFired : Cond.instanceMethod yX12_isFired ∈ BW := bw_in (List.mem_of_getElem? (i := 1931) (by rfl)) (by rfl)
set_option maxRecDepth 100000 in
theorem sl_X12_isFired : Cond.selects RX12 yX12_isFired yX12_isFired ∈ BW := bw_in (List.mem_of_getElem? (i := 1932) (by rfl)) (by rfl)
set_option maxRecDepth 100000 in
theorem ml_RL_271 : Cond.methodLink RL 271 yL_reason ∈ BW := bw_in (List.mem_of_getElem? (i := 1200) (by rfl)) (by rfl)
set_option maxRecDepth 100000 in
theorem st_L_reason : Cond.static yL_reason ∈ BW := bw_in (List.mem_of_getElem? (i := 1201) (by rfl)) (by rfl)
set_option maxRecDepth 100000 in
theorem cd_X12_reason : Cond.code yX12_reason cX12_reason 3 (some .int) ∈ BW := bw_in (List.mem_of_getElem? (i := 1941) (by rfl)) (by rfl)
set_option maxRecDepth 100000 in
theorem ml_RL_273 : Cond.methodLink RL 273 yX12_reason ∈ BW := bw_in (List.mem_of_getElem? (i := 1938) (by rfl)) (by rfl)
set_option maxRecDepth 100000 in
theorem in_X12_reason : Cond.instanceMethod yX12_reason ∈ BW := bw_in (List.mem_of_getElem? (i := 1939) (by rfl)) (by rfl)
set_option maxRecDepth 100000 in
theorem sl_X12_reason : Cond.selects RX12 yX12_reason yX12_reason ∈ BW := bw_in (List.mem_of_getElem? (i := 1940) (by rfl)) (by rfl)
set_option maxRecDepth 100000 in
theorem ml_RL_274 : Cond.methodLink RL 274 yL_earliest ∈ BW := bw_in (List.mem_of_getElem? (i := 1220) (by rfl)) (by rfl)
set_option maxRecDepth 100000 in
theorem st_L_earliest : Cond.static yL_earliest ∈ BW := bw_in (List.mem_of_getElem? (i := 1221) (by rfl)) (by rfl)
set_option maxRecDepth 100000 in
theorem cd_X12_earliest : Cond.code yX12_earliest cX12_earliest 4 (some .int) ∈ BW := bw_in (List.mem_of_getElem? (i := 1965) (by rfl)) (by rfl)
set_option maxRecDepth 100000 in
theorem ml_RL_276 : Cond.methodLink RL 276 yX12_earliest ∈ BW := bw_in (List.mem_of_getElem? (i := 1962) (by rfl)) (by rfl)
set_option maxRecDepth 100000 in
theorem in_X12_earliest : Cond.instanceMethod yX12_earliest ∈ BW := bw_in (List.mem_of_getElem? (i := 1963) (by rfl)) (by rfl)
set_option maxRecDepth 100000 in
theorem sl_X12_earliest : Cond.selects RX12 yX12_earliest yX12_earliest ∈ BW := bw_in (List.mem_of_getElem? (i := 1964) (by rfl)) (by rfl)
set_option maxRecDepth 100000 in
theorem ml_RL_277 : Cond.methodLink RL 277 yL_latest ∈ BW := bw_in (List.mem_of_getElem? (i := 1235) (by rfl)) (by rfl)
set_option maxRecDepth 100000 in
theorem st_L_latest : Cond.static yL_latest ∈ BW := bw_in (List.mem_of_getElem? (i := 1236) (by rfl)) (by rfl)
set_option maxRecDepth 100000 in
theorem cd_X12_latest : Cond.code yX12_latest cX12_latest 4 (some .int) ∈ BW := bw_in (List.mem_of_getElem? (i := 1973) (by rfl)) (by rfl)
set_option maxRecDepth 100000 in
theorem ml_RL_279 : Cond.methodLink RL 279 yX12_latest ∈ BW := bw_in (List.mem_of_getElem? (i := 1970) (by rfl)) (by rfl)
set_option maxRecDepth 100000 in
theorem in_X12_latest : Cond.instanceMethod yX12_latest ∈ BW := bw_in (List.mem_of_getElem? (i := 1971) (by rfl)) (by rfl)
set_option maxRecDepth 100000 in
theorem sl_X12_latest : Cond.selects RX12 yX12_latest yX12_latest ∈ BW := bw_in (List.mem_of_getElem? (i := 1972) (by rfl)) (by rfl)
set_option maxRecDepth 100000 in
theorem ml_RL_280 : Cond.methodLink RL 280 yL_reasonCount ∈ BW := bw_in (List.mem_of_getElem? (i := 1242) (by rfl)) (by rfl)
set_option maxRecDepth 100000 in
theorem st_L_reasonCount : Cond.static yL_reasonCount ∈ BW := bw_in (List.mem_of_getElem? (i := 1243) (by rfl)) (by rfl)
set_option maxRecDepth 100000 in
theorem cd_X12_reasonCount : Cond.code yX12_reasonCount cX12_reasonCount 3 (some .int) ∈ BW := bw_in (List.mem_of_getElem? (i := 1977) (by rfl)) (by rfl)
set_option maxRecDepth 100000 in
theorem ml_RL_282 : Cond.methodLink RL 282 yX12_reasonCount ∈ BW := bw_in (List.mem_of_getElem? (i := 1974) (by rfl)) (by rfl)
set_option maxRecDepth 100000 in
theorem in_X12_reasonCount : Cond.instanceMethod yX12_reasonCount ∈ BW := bw_in (List.mem_of_getElem? (i := 1975) (by rfl)) (by rfl)
set_option maxRecDepth 100000 in
theorem sl_X12_reasonCount : Cond.selects RX12 yX12_reasonCount yX12_reasonCount ∈ BW := bw_in (List.mem_of_getElem? (i := 1976) (by rfl)) (by rfl)
set_option maxRecDepth 100000 in
theorem ml_RL_283 : Cond.methodLink RL 283 yL_longestAllowed ∈ BW := bw_in (List.mem_of_getElem? (i := 1253) (by rfl)) (by rfl)
set_option maxRecDepth 100000 in
theorem st_L_longestAllowed : Cond.static yL_longestAllowed ∈ BW := bw_in (List.mem_of_getElem? (i := 1254) (by rfl)) (by rfl)
set_option maxRecDepth 100000 in
theorem cd_X12_longestAllowed : Cond.code yX12_longestAllowed cX12_longestAllowed 5 (some .int) ∈ BW := bw_in (List.mem_of_getElem? (i := 1989) (by rfl)) (by rfl)
set_option maxRecDepth 100000 in
theorem ml_RL_285 : Cond.methodLink RL 285 yX12_longestAllowed ∈ BW := bw_in (List.mem_of_getElem? (i := 1986) (by rfl)) (by rfl)
set_option maxRecDepth 100000 in
theorem in_X12_longestAllowed : Cond.instanceMethod yX12_longestAllowed ∈ BW := bw_in (List.mem_of_getElem? (i := 1987) (by rfl)) (by rfl)
set_option maxRecDepth 100000 in
theorem sl_X12_longestAllowed : Cond.selects RX12 yX12_longestAllowed yX12_longestAllowed ∈ BW := bw_in (List.mem_of_getElem? (i := 1988) (by rfl)) (by rfl)
set_option maxRecDepth 100000 in
theorem ml_RL_286 : Cond.methodLink RL 286 yL_allowedCount ∈ BW := bw_in (List.mem_of_getElem? (i := 1261) (by rfl)) (by rfl)
set_option maxRecDepth 100000 in
theorem st_L_allowedCount : Cond.static yL_allowedCount ∈ BW := bw_in (List.mem_of_getElem? (i := 1262) (by rfl)) (by rfl)
set_option maxRecDepth 100000 in
theorem cd_X12_allowedCount : Cond.code yX12_allowedCount cX12_allowedCount 2 (some .int) ∈ BW := bw_in (List.mem_of_getElem? (i := 1985) (by rfl)) (by rfl)
set_option maxRecDepth 100000 in
theorem ml_RL_288 : Cond.methodLink RL 288 yX12_allowedCount ∈ BW := bw_in (List.mem_of_getElem? (i := 1982) (by rfl)) (by rfl)
set_option maxRecDepth 100000 in
theorem in_X12_allowedCount : Cond.instanceMethod yX12_allowedCount ∈ BW := bw_in (List.mem_of_getElem? (i := 1983) (by rfl)) (by rfl)
set_option maxRecDepth 100000 in
theorem sl_X12_allowedCount : Cond.selects RX12 yX12_allowedCount yX12_allowedCount ∈ BW := bw_in (List.mem_of_getElem? (i := 1984) (by rfl)) (by rfl)
set_option maxRecDepth 100000 in
theorem cd_X11_nextBlast : Cond.code yX11_nextBlast cX11_nextBlast 2 (some .int) ∈ BW := bw_in (List.mem_of_getElem? (i := 597) (by rfl)) (by rfl)
set_option maxRecDepth 100000 in
theorem ml_RL_289 : Cond.methodLink RL 289 yX11_nextBlast ∈ BW := bw_in (List.mem_of_getElem? (i := 594) (by rfl)) (by rfl)
set_option maxRecDepth 100000 in
theorem in_X11_nextBlast : Cond.instanceMethod yX11_nextBlast ∈ BW := bw_in (List.mem_of_getElem? (i := 595) (by rfl)) (by rfl)
set_option maxRecDepth 100000 in
theorem sl_X11_nextBlast : Cond.selects RX11 yX11_nextBlast yX11_nextBlast ∈ BW := bw_in (List.mem_of_getElem? (i := 596) (by rfl)) (by rfl)
set_option maxRecDepth 100000 in
theorem cd_X12_nextBlast : Cond.code yX12_nextBlast cX12_nextBlast 2 (some .int) ∈ BW := bw_in (List.mem_of_getElem? (i := 1993) (by rfl)) (by rfl)
set_option maxRecDepth 100000 in
theorem ml_RL_292 : Cond.methodLink RL 292 yX12_nextBlast ∈ BW := bw_in (List.mem_of_getElem? (i := 1990) (by rfl)) (by rfl)
set_option maxRecDepth 100000 in
theorem in_X12_nextBlast : Cond.instanceMethod yX12_nextBlast ∈ BW := bw_in (List.mem_of_getElem? (i := 1991) (by rfl)) (by rfl)
set_option maxRecDepth 100000 in
theorem sl_X12_nextBlast : Cond.selects RX12 yX12_nextBlast yX12_nextBlast ∈ BW := bw_in (List.mem_of_getElem? (i := 1992) (by rfl)) (by rfl)
set_option maxRecDepth 100000 in
theorem ml_RL_293 : Cond.methodLink RL 293 yL_schedule ∈ BW := bw_in (List.mem_of_getElem? (i := 1268) (by rfl)) (by rfl)
set_option maxRecDepth 100000 in
theorem st_L_schedule : Cond.static yL_schedule ∈ BW := bw_in (List.mem_of_getElem? (i := 1269) (by rfl)) (by rfl)
set_option maxRecDepth 100000 in
theorem cd_X12_schedule : Cond.code yX12_schedule cX12_schedule 4 (some .int) ∈ BW := bw_in (List.mem_of_getElem? (i := 2009) (by rfl)) (by rfl)
set_option maxRecDepth 100000 in
theorem ml_RL_295 : Cond.methodLink RL 295 yX12_schedule ∈ BW := bw_in (List.mem_of_getElem? (i := 2006) (by rfl)) (by rfl)
set_option maxRecDepth 100000 in
theorem in_X12_schedule : Cond.instanceMethod yX12_schedule ∈ BW := bw_in (List.mem_of_getElem? (i := 2007) (by rfl)) (by rfl)
set_option maxRecDepth 100000 in
theorem sl_X12_schedule : Cond.selects RX12 yX12_schedule yX12_schedule ∈ BW := bw_in (List.mem_of_getElem? (i := 2008) (by rfl)) (by rfl)
set_option maxRecDepth 100000 in
theorem ml_RL_296 : Cond.methodLink RL 296 yL_cancel ∈ BW := bw_in (List.mem_of_getElem? (i := 1301) (by rfl)) (by rfl)
set_option maxRecDepth 100000 in
theorem st_L_cancel : Cond.static yL_cancel ∈ BW := bw_in (List.mem_of_getElem? (i := 1302) (by rfl)) (by rfl)
set_option maxRecDepth 100000 in
theorem cd_X12_cancel : Cond.code yX12_cancel cX12_cancel 3 (some .int) ∈ BW := bw_in (List.mem_of_getElem? (i := 2017) (by rfl)) (by rfl)
set_option maxRecDepth 100000 in
theorem ml_RL_298 : Cond.methodLink RL 298 yX12_cancel ∈ BW := bw_in (List.mem_of_getElem? (i := 2014) (by rfl)) (by rfl)
set_option maxRecDepth 100000 in
theorem in_X12_cancel : Cond.instanceMethod yX12_cancel ∈ BW := bw_in (List.mem_of_getElem? (i := 2015) (by rfl)) (by rfl)
set_option maxRecDepth 100000 in
theorem sl_X12_cancel : Cond.selects RX12 yX12_cancel yX12_cancel ∈ BW := bw_in (List.mem_of_getElem? (i := 2016) (by rfl)) (by rfl)
set_option maxRecDepth 100000 in
theorem ml_RL_299 : Cond.methodLink RL 299 yL_fire ∈ BW := bw_in (List.mem_of_getElem? (i := 1313) (by rfl)) (by rfl)
set_option maxRecDepth 100000 in
theorem st_L_fire : Cond.static yL_fire ∈ BW := bw_in (List.mem_of_getElem? (i := 1314) (by rfl)) (by rfl)
set_option maxRecDepth 100000 in
theorem cd_X12_fire : Cond.code yX12_fire cX12_fire 2 (some .int) ∈ BW := bw_in (List.mem_of_getElem? (i := 2021) (by rfl)) (by rfl)
set_option maxRecDepth 100000 in
theorem ml_RL_301 : Cond.methodLink RL 301 yX12_fire ∈ BW := bw_in (List.mem_of_getElem? (i := 2018) (by rfl)) (by rfl)
set_option maxRecDepth 100000 in
theorem in_X12_fire : Cond.instanceMethod yX12_fire ∈ BW := bw_in (List.mem_of_getElem? (i := 2019) (by rfl)) (by rfl)
set_option maxRecDepth 100000 in
theorem sl_X12_fire : Cond.selects RX12 yX12_fire yX12_fire ∈ BW := bw_in (List.mem_of_getElem? (i := 2020) (by rfl)) (by rfl)
set_option maxRecDepth 100000 in
theorem ml_RL_302 : Cond.methodLink RL 302 yL_retime ∈ BW := bw_in (List.mem_of_getElem? (i := 1321) (by rfl)) (by rfl)
set_option maxRecDepth 100000 in
theorem st_L_retime : Cond.static yL_retime ∈ BW := bw_in (List.mem_of_getElem? (i := 1322) (by rfl)) (by rfl)
set_option maxRecDepth 100000 in
theorem cd_X12_retime : Cond.code yX12_retime cX12_retime 4 (some .int) ∈ BW := bw_in (List.mem_of_getElem? (i := 2025) (by rfl)) (by rfl)
set_option maxRecDepth 100000 in
theorem ml_RL_304 : Cond.methodLink RL 304 yX12_retime ∈ BW := bw_in (List.mem_of_getElem? (i := 2022) (by rfl)) (by rfl)
set_option maxRecDepth 100000 in
theorem in_X12_retime : Cond.instanceMethod yX12_retime ∈ BW := bw_in (List.mem_of_getElem? (i := 2023) (by rfl)) (by rfl)
set_option maxRecDepth 100000 in
theorem sl_X12_retime : Cond.selects RX12 yX12_retime yX12_retime ∈ BW := bw_in (List.mem_of_getElem? (i := 2024) (by rfl)) (by rfl)
set_option maxRecDepth 100000 in
theorem ml_RL_305 : Cond.methodLink RL 305 yL_closedMinutes ∈ BW := bw_in (List.mem_of_getElem? (i := 1334) (by rfl)) (by rfl)
set_option maxRecDepth 100000 in
theorem st_L_closedMinutes : Cond.static yL_closedMinutes ∈ BW := bw_in (List.mem_of_getElem? (i := 1335) (by rfl)) (by rfl)
set_option maxRecDepth 100000 in
theorem cd_X12_closedMinutes : Cond.code yX12_closedMinutes cX12_closedMinutes 2 (some .int) ∈ BW := bw_in (List.mem_of_getElem? (i := 2029) (by rfl)) (by rfl)
set_option maxRecDepth 100000 in
theorem ml_RL_307 : Cond.methodLink RL 307 yX12_closedMinutes ∈ BW := bw_in (List.mem_of_getElem? (i := 2026) (by rfl)) (by rfl)
set_option maxRecDepth 100000 in
theorem in_X12_closedMinutes : Cond.instanceMethod yX12_closedMinutes ∈ BW := bw_in (List.mem_of_getElem? (i := 2027) (by rfl)) (by rfl)
set_option maxRecDepth 100000 in
theorem sl_X12_closedMinutes : Cond.selects RX12 yX12_closedMinutes yX12_closedMinutes ∈ BW := bw_in (List.mem_of_getElem? (i := 2028) (by rfl)) (by rfl)
set_option maxRecDepth 100000 in
theorem cd_X11_totalClosed : Cond.code yX11_totalClosed cX11_totalClosed 1 (some .int) ∈ BW := bw_in (List.mem_of_getElem? (i := 605) (by rfl)) (by rfl)
set_option maxRecDepth 100000 in
theorem ml_RL_308 : Cond.methodLink RL 308 yX11_totalClosed ∈ BW := bw_in (List.mem_of_getElem? (i := 602) (by rfl)) (by rfl)
set_option maxRecDepth 100000 in
theorem in_X11_totalClosed : Cond.instanceMethod yX11_totalClosed ∈ BW := bw_in (List.mem_of_getElem? (i := 603) (by rfl)) (by rfl)
set_option maxRecDepth 100000 in
theorem sl_X11_totalClosed : Cond.selects RX11 yX11_totalClosed yX11_totalClosed ∈ BW := bw_in (List.mem_of_getElem? (i := 604) (by rfl)) (by rfl)
set_option maxRecDepth 100000 in
theorem cd_X12_totalClosed : Cond.code yX12_totalClosed cX12_totalClosed 1 (some .int) ∈ BW := bw_in (List.mem_of_getElem? (i := 2045) (by rfl)) (by rfl)
set_option maxRecDepth 100000 in
theorem ml_RL_311 : Cond.methodLink RL 311 yX12_totalClosed ∈ BW := bw_in (List.mem_of_getElem? (i := 2042) (by rfl)) (by rfl)
set_option maxRecDepth 100000 in
theorem in_X12_totalClosed : Cond.instanceMethod yX12_totalClosed ∈ BW := bw_in (List.mem_of_getElem? (i := 2043) (by rfl)) (by rfl)
set_option maxRecDepth 100000 in
theorem sl_X12_totalClosed : Cond.selects RX12 yX12_totalClosed yX12_totalClosed ∈ BW := bw_in (List.mem_of_getElem? (i := 2044) (by rfl)) (by rfl)
set_option maxRecDepth 100000 in
theorem ml_RL_312 : Cond.methodLink RL 312 yL_isClosed ∈ BW := bw_in (List.mem_of_getElem? (i := 1341) (by rfl)) (by rfl)
set_option maxRecDepth 100000 in
theorem st_L_isClosed : Cond.static yL_isClosed ∈ BW := bw_in (List.mem_of_getElem? (i := 1342) (by rfl)) (by rfl)
set_option maxRecDepth 100000 in
theorem cd_X12_isClosed : Cond.code yX12_isClosed cX12_isClosed 3 (some .boolean) ∈ BW := bw_in (List.mem_of_getElem? (i := 2053) (by rfl)) (by rfl)
set_option maxRecDepth 100000 in
theorem ml_RL_314 : Cond.methodLink RL 314 yX12_isClosed ∈ BW := bw_in (List.mem_of_getElem? (i := 2050) (by rfl)) (by rfl)
set_option maxRecDepth 100000 in
theorem in_X12_isClosed : Cond.instanceMethod yX12_isClosed ∈ BW := bw_in (List.mem_of_getElem? (i := 2051) (by rfl)) (by rfl)
set_option maxRecDepth 100000 in
theorem sl_X12_isClosed : Cond.selects RX12 yX12_isClosed yX12_isClosed ∈ BW := bw_in (List.mem_of_getElem? (i := 2052) (by rfl)) (by rfl)
set_option maxRecDepth 100000 in
theorem ml_RL_315 : Cond.methodLink RL 315 yL_closures ∈ BW := bw_in (List.mem_of_getElem? (i := 1352) (by rfl)) (by rfl)
set_option maxRecDepth 100000 in
theorem st_L_closures : Cond.static yL_closures ∈ BW := bw_in (List.mem_of_getElem? (i := 1353) (by rfl)) (by rfl)
set_option maxRecDepth 100000 in
theorem cd_X12_closures : Cond.code yX12_closures cX12_closures 4 (some .int) ∈ BW := bw_in (List.mem_of_getElem? (i := 2057) (by rfl)) (by rfl)
set_option maxRecDepth 100000 in
theorem ml_RL_317 : Cond.methodLink RL 317 yX12_closures ∈ BW := bw_in (List.mem_of_getElem? (i := 2054) (by rfl)) (by rfl)
set_option maxRecDepth 100000 in
theorem in_X12_closures : Cond.instanceMethod yX12_closures ∈ BW := bw_in (List.mem_of_getElem? (i := 2055) (by rfl)) (by rfl)
set_option maxRecDepth 100000 in
theorem sl_X12_closures : Cond.selects RX12 yX12_closures yX12_closures ∈ BW := bw_in (List.mem_of_getElem? (i := 2056) (by rfl)) (by rfl)
set_option maxRecDepth 100000 in
theorem ml_RL_318 : Cond.methodLink RL 318 yL_closureStart ∈ BW := bw_in (List.mem_of_getElem? (i := 1359) (by rfl)) (by rfl)
set_option maxRecDepth 100000 in
theorem st_L_closureStart : Cond.static yL_closureStart ∈ BW := bw_in (List.mem_of_getElem? (i := 1360) (by rfl)) (by rfl)
set_option maxRecDepth 100000 in
theorem cd_X12_closureStart : Cond.code yX12_closureStart cX12_closureStart 3 (some .int) ∈ BW := bw_in (List.mem_of_getElem? (i := 2065) (by rfl)) (by rfl)
set_option maxRecDepth 100000 in
theorem ml_RL_320 : Cond.methodLink RL 320 yX12_closureStart ∈ BW := bw_in (List.mem_of_getElem? (i := 2062) (by rfl)) (by rfl)
set_option maxRecDepth 100000 in
theorem in_X12_closureStart : Cond.instanceMethod yX12_closureStart ∈ BW := bw_in (List.mem_of_getElem? (i := 2063) (by rfl)) (by rfl)
set_option maxRecDepth 100000 in
theorem sl_X12_closureStart : Cond.selects RX12 yX12_closureStart yX12_closureStart ∈ BW := bw_in (List.mem_of_getElem? (i := 2064) (by rfl)) (by rfl)
set_option maxRecDepth 100000 in
theorem ml_RL_321 : Cond.methodLink RL 321 yL_closureLength ∈ BW := bw_in (List.mem_of_getElem? (i := 1366) (by rfl)) (by rfl)
set_option maxRecDepth 100000 in
theorem st_L_closureLength : Cond.static yL_closureLength ∈ BW := bw_in (List.mem_of_getElem? (i := 1367) (by rfl)) (by rfl)
set_option maxRecDepth 100000 in
theorem cd_X12_closureLength : Cond.code yX12_closureLength cX12_closureLength 5 (some .int) ∈ BW := bw_in (List.mem_of_getElem? (i := 2073) (by rfl)) (by rfl)
set_option maxRecDepth 100000 in
theorem ml_RL_323 : Cond.methodLink RL 323 yX12_closureLength ∈ BW := bw_in (List.mem_of_getElem? (i := 2070) (by rfl)) (by rfl)
set_option maxRecDepth 100000 in
theorem in_X12_closureLength : Cond.instanceMethod yX12_closureLength ∈ BW := bw_in (List.mem_of_getElem? (i := 2071) (by rfl)) (by rfl)
set_option maxRecDepth 100000 in
theorem sl_X12_closureLength : Cond.selects RX12 yX12_closureLength yX12_closureLength ∈ BW := bw_in (List.mem_of_getElem? (i := 2072) (by rfl)) (by rfl)
set_option maxRecDepth 100000 in
theorem ml_RL_324 : Cond.methodLink RL 324 yL_openMinutes ∈ BW := bw_in (List.mem_of_getElem? (i := 1373) (by rfl)) (by rfl)
set_option maxRecDepth 100000 in
theorem st_L_openMinutes : Cond.static yL_openMinutes ∈ BW := bw_in (List.mem_of_getElem? (i := 1374) (by rfl)) (by rfl)
set_option maxRecDepth 100000 in
theorem cd_X12_openMinutes : Cond.code yX12_openMinutes cX12_openMinutes 4 (some .int) ∈ BW := bw_in (List.mem_of_getElem? (i := 2077) (by rfl)) (by rfl)
set_option maxRecDepth 100000 in
theorem ml_RL_326 : Cond.methodLink RL 326 yX12_openMinutes ∈ BW := bw_in (List.mem_of_getElem? (i := 2074) (by rfl)) (by rfl)
set_option maxRecDepth 100000 in
theorem in_X12_openMinutes : Cond.instanceMethod yX12_openMinutes ∈ BW := bw_in (List.mem_of_getElem? (i := 2075) (by rfl)) (by rfl)
set_option maxRecDepth 100000 in
theorem sl_X12_openMinutes : Cond.selects RX12 yX12_openMinutes yX12_openMinutes ∈ BW := bw_in (List.mem_of_getElem? (i := 2076) (by rfl)) (by rfl)
set_option maxRecDepth 100000 in
theorem ml_RL_327 : Cond.methodLink RL 327 yL_sharedMinutes ∈ BW := bw_in (List.mem_of_getElem? (i := 1380) (by rfl)) (by rfl)
set_option maxRecDepth 100000 in
theorem st_L_sharedMinutes : Cond.static yL_sharedMinutes ∈ BW := bw_in (List.mem_of_getElem? (i := 1381) (by rfl)) (by rfl)
set_option maxRecDepth 100000 in
theorem cd_X12_sharedMinutes : Cond.code yX12_sharedMinutes cX12_sharedMinutes 5 (some .int) ∈ BW := bw_in (List.mem_of_getElem? (i := 2081) (by rfl)) (by rfl)
set_option maxRecDepth 100000 in
theorem ml_RL_329 : Cond.methodLink RL 329 yX12_sharedMinutes ∈ BW := bw_in (List.mem_of_getElem? (i := 2078) (by rfl)) (by rfl)
set_option maxRecDepth 100000 in
theorem in_X12_sharedMinutes : Cond.instanceMethod yX12_sharedMinutes ∈ BW := bw_in (List.mem_of_getElem? (i := 2079) (by rfl)) (by rfl)
set_option maxRecDepth 100000 in
theorem sl_X12_sharedMinutes : Cond.selects RX12 yX12_sharedMinutes yX12_sharedMinutes ∈ BW := bw_in (List.mem_of_getElem? (i := 2080) (by rfl)) (by rfl)
set_option maxRecDepth 100000 in
theorem cd_X11_busiestHour : Cond.code yX11_busiestHour cX11_busiestHour 4 (some .int) ∈ BW := bw_in (List.mem_of_getElem? (i := 655) (by rfl)) (by rfl)
set_option maxRecDepth 100000 in
theorem ml_RL_330 : Cond.methodLink RL 330 yX11_busiestHour ∈ BW := bw_in (List.mem_of_getElem? (i := 652) (by rfl)) (by rfl)
set_option maxRecDepth 100000 in
theorem in_X11_busiestHour : Cond.instanceMethod yX11_busiestHour ∈ BW := bw_in (List.mem_of_getElem? (i := 653) (by rfl)) (by rfl)
set_option maxRecDepth 100000 in
theorem sl_X11_busiestHour : Cond.selects RX11 yX11_busiestHour yX11_busiestHour ∈ BW := bw_in (List.mem_of_getElem? (i := 654) (by rfl)) (by rfl)
set_option maxRecDepth 100000 in
theorem cd_X12_busiestHour : Cond.code yX12_busiestHour cX12_busiestHour 3 (some .int) ∈ BW := bw_in (List.mem_of_getElem? (i := 2085) (by rfl)) (by rfl)
set_option maxRecDepth 100000 in
theorem ml_RL_333 : Cond.methodLink RL 333 yX12_busiestHour ∈ BW := bw_in (List.mem_of_getElem? (i := 2082) (by rfl)) (by rfl)
set_option maxRecDepth 100000 in
theorem in_X12_busiestHour : Cond.instanceMethod yX12_busiestHour ∈ BW := bw_in (List.mem_of_getElem? (i := 2083) (by rfl)) (by rfl)
set_option maxRecDepth 100000 in
theorem sl_X12_busiestHour : Cond.selects RX12 yX12_busiestHour yX12_busiestHour ∈ BW := bw_in (List.mem_of_getElem? (i := 2084) (by rfl)) (by rfl)
set_option maxRecDepth 100000 in
theorem cd_X11_sirenCount : Cond.code yX11_sirenCount cX11_sirenCount 1 (some .int) ∈ BW := bw_in (List.mem_of_getElem? (i := 665) (by rfl)) (by rfl)
set_option maxRecDepth 100000 in
theorem ml_RL_334 : Cond.methodLink RL 334 yX11_sirenCount ∈ BW := bw_in (List.mem_of_getElem? (i := 662) (by rfl)) (by rfl)
set_option maxRecDepth 100000 in
theorem in_X11_sirenCount : Cond.instanceMethod yX11_sirenCount ∈ BW := bw_in (List.mem_of_getElem? (i := 663) (by rfl)) (by rfl)
set_option maxRecDepth 100000 in
theorem sl_X11_sirenCount : Cond.selects RX11 yX11_sirenCount yX11_sirenCount ∈ BW := bw_in (List.mem_of_getElem? (i := 664) (by rfl)) (by rfl)
set_option maxRecDepth 100000 in
theorem cd_X12_sirenCount : Cond.code yX12_sirenCount cX12_sirenCount 1 (some .int) ∈ BW := bw_in (List.mem_of_getElem? (i := 2089) (by rfl)) (by rfl)
set_option maxRecDepth 100000 in
theorem ml_RL_337 : Cond.methodLink RL 337 yX12_sirenCount ∈ BW := bw_in (List.mem_of_getElem? (i := 2086) (by rfl)) (by rfl)
set_option maxRecDepth 100000 in
theorem in_X12_sirenCount : Cond.instanceMethod yX12_sirenCount ∈ BW := bw_in (List.mem_of_getElem? (i := 2087) (by rfl)) (by rfl)
set_option maxRecDepth 100000 in
theorem sl_X12_sirenCount : Cond.selects RX12 yX12_sirenCount yX12_sirenCount ∈ BW := bw_in (List.mem_of_getElem? (i := 2088) (by rfl)) (by rfl)
set_option maxRecDepth 100000 in
theorem ml_RL_338 : Cond.methodLink RL 338 yL_sirenMinute ∈ BW := bw_in (List.mem_of_getElem? (i := 1387) (by rfl)) (by rfl)
set_option maxRecDepth 100000 in
theorem st_L_sirenMinute : Cond.static yL_sirenMinute ∈ BW := bw_in (List.mem_of_getElem? (i := 1388) (by rfl)) (by rfl)
set_option maxRecDepth 100000 in
theorem cd_X12_sirenMinute : Cond.code yX12_sirenMinute cX12_sirenMinute 2 (some .int) ∈ BW := bw_in (List.mem_of_getElem? (i := 2097) (by rfl)) (by rfl)
set_option maxRecDepth 100000 in
theorem ml_RL_340 : Cond.methodLink RL 340 yX12_sirenMinute ∈ BW := bw_in (List.mem_of_getElem? (i := 2094) (by rfl)) (by rfl)
set_option maxRecDepth 100000 in
theorem in_X12_sirenMinute : Cond.instanceMethod yX12_sirenMinute ∈ BW := bw_in (List.mem_of_getElem? (i := 2095) (by rfl)) (by rfl)
set_option maxRecDepth 100000 in
theorem sl_X12_sirenMinute : Cond.selects RX12 yX12_sirenMinute yX12_sirenMinute ∈ BW := bw_in (List.mem_of_getElem? (i := 2096) (by rfl)) (by rfl)
set_option maxRecDepth 100000 in
theorem ml_RL_341 : Cond.methodLink RL 341 yL_sirenKind ∈ BW := bw_in (List.mem_of_getElem? (i := 1402) (by rfl)) (by rfl)
set_option maxRecDepth 100000 in
theorem st_L_sirenKind : Cond.static yL_sirenKind ∈ BW := bw_in (List.mem_of_getElem? (i := 1403) (by rfl)) (by rfl)
set_option maxRecDepth 100000 in
theorem cd_X12_sirenKind : Cond.code yX12_sirenKind cX12_sirenKind 2 (some .int) ∈ BW := bw_in (List.mem_of_getElem? (i := 2117) (by rfl)) (by rfl)
set_option maxRecDepth 100000 in
theorem ml_RL_343 : Cond.methodLink RL 343 yX12_sirenKind ∈ BW := bw_in (List.mem_of_getElem? (i := 2114) (by rfl)) (by rfl)
set_option maxRecDepth 100000 in
theorem in_X12_sirenKind : Cond.instanceMethod yX12_sirenKind ∈ BW := bw_in (List.mem_of_getElem? (i := 2115) (by rfl)) (by rfl)
set_option maxRecDepth 100000 in
theorem sl_X12_sirenKind : Cond.selects RX12 yX12_sirenKind yX12_sirenKind ∈ BW := bw_in (List.mem_of_getElem? (i := 2116) (by rfl)) (by rfl)
set_option maxRecDepth 100000 in
theorem ml_RL_344 : Cond.methodLink RL 344 yL_sirenBlast ∈ BW := bw_in (List.mem_of_getElem? (i := 1412) (by rfl)) (by rfl)
set_option maxRecDepth 100000 in
theorem st_L_sirenBlast : Cond.static yL_sirenBlast ∈ BW := bw_in (List.mem_of_getElem? (i := 1413) (by rfl)) (by rfl)
set_option maxRecDepth 100000 in
theorem cd_X12_sirenBlast : Cond.code yX12_sirenBlast cX12_sirenBlast 2 (some .int) ∈ BW := bw_in (List.mem_of_getElem? (i := 2121) (by rfl)) (by rfl)
set_option maxRecDepth 100000 in
theorem ml_RL_346 : Cond.methodLink RL 346 yX12_sirenBlast ∈ BW := bw_in (List.mem_of_getElem? (i := 2118) (by rfl)) (by rfl)
set_option maxRecDepth 100000 in
theorem in_X12_sirenBlast : Cond.instanceMethod yX12_sirenBlast ∈ BW := bw_in (List.mem_of_getElem? (i := 2119) (by rfl)) (by rfl)
set_option maxRecDepth 100000 in
theorem sl_X12_sirenBlast : Cond.selects RX12 yX12_sirenBlast yX12_sirenBlast ∈ BW := bw_in (List.mem_of_getElem? (i := 2120) (by rfl)) (by rfl)
set_option maxRecDepth 100000 in
theorem ml_RL_347 : Cond.methodLink RL 347 yL_planLength ∈ BW := bw_in (List.mem_of_getElem? (i := 1422) (by rfl)) (by rfl)
set_option maxRecDepth 100000 in
theorem st_L_planLength : Cond.static yL_planLength ∈ BW := bw_in (List.mem_of_getElem? (i := 1423) (by rfl)) (by rfl)
set_option maxRecDepth 100000 in
theorem cd_X12_planLength : Cond.code yX12_planLength cX12_planLength 1 (some .int) ∈ BW := bw_in (List.mem_of_getElem? (i := 2125) (by rfl)) (by rfl)
set_option maxRecDepth 100000 in
theorem ml_RL_349 : Cond.methodLink RL 349 yX12_planLength ∈ BW := bw_in (List.mem_of_getElem? (i := 2122) (by rfl)) (by rfl)
set_option maxRecDepth 100000 in
theorem in_X12_planLength : Cond.instanceMethod yX12_planLength ∈ BW := bw_in (List.mem_of_getElem? (i := 2123) (by rfl)) (by rfl)
set_option maxRecDepth 100000 in
theorem sl_X12_planLength : Cond.selects RX12 yX12_planLength yX12_planLength ∈ BW := bw_in (List.mem_of_getElem? (i := 2124) (by rfl)) (by rfl)
set_option maxRecDepth 100000 in
theorem ml_RL_350 : Cond.methodLink RL 350 yL_planTime ∈ BW := bw_in (List.mem_of_getElem? (i := 1465) (by rfl)) (by rfl)
set_option maxRecDepth 100000 in
theorem st_L_planTime : Cond.static yL_planTime ∈ BW := bw_in (List.mem_of_getElem? (i := 1466) (by rfl)) (by rfl)
set_option maxRecDepth 100000 in
theorem cd_X12_planTime : Cond.code yX12_planTime cX12_planTime 2 (some .int) ∈ BW := bw_in (List.mem_of_getElem? (i := 2149) (by rfl)) (by rfl)
set_option maxRecDepth 100000 in
theorem ml_RL_352 : Cond.methodLink RL 352 yX12_planTime ∈ BW := bw_in (List.mem_of_getElem? (i := 2146) (by rfl)) (by rfl)
set_option maxRecDepth 100000 in
theorem in_X12_planTime : Cond.instanceMethod yX12_planTime ∈ BW := bw_in (List.mem_of_getElem? (i := 2147) (by rfl)) (by rfl)
set_option maxRecDepth 100000 in
theorem sl_X12_planTime : Cond.selects RX12 yX12_planTime yX12_planTime ∈ BW := bw_in (List.mem_of_getElem? (i := 2148) (by rfl)) (by rfl)
set_option maxRecDepth 100000 in
theorem ml_RL_353 : Cond.methodLink RL 353 yL_applyPlan ∈ BW := bw_in (List.mem_of_getElem? (i := 1472) (by rfl)) (by rfl)
set_option maxRecDepth 100000 in
theorem st_L_applyPlan : Cond.static yL_applyPlan ∈ BW := bw_in (List.mem_of_getElem? (i := 1473) (by rfl)) (by rfl)
set_option maxRecDepth 100000 in
theorem cd_X12_applyPlan : Cond.code yX12_applyPlan cX12_applyPlan 3 (some .int) ∈ BW := bw_in (List.mem_of_getElem? (i := 2153) (by rfl)) (by rfl)
set_option maxRecDepth 100000 in
theorem ml_RL_355 : Cond.methodLink RL 355 yX12_applyPlan ∈ BW := bw_in (List.mem_of_getElem? (i := 2150) (by rfl)) (by rfl)
set_option maxRecDepth 100000 in
theorem in_X12_applyPlan : Cond.instanceMethod yX12_applyPlan ∈ BW := bw_in (List.mem_of_getElem? (i := 2151) (by rfl)) (by rfl)
set_option maxRecDepth 100000 in
theorem sl_X12_applyPlan : Cond.selects RX12 yX12_applyPlan yX12_applyPlan ∈ BW := bw_in (List.mem_of_getElem? (i := 2152) (by rfl)) (by rfl)
set_option maxRecDepth 100000 in
theorem cd_X11_undo : Cond.code yX11_undo cX11_undo 1 (some .int) ∈ BW := bw_in (List.mem_of_getElem? (i := 677) (by rfl)) (by rfl)
set_option maxRecDepth 100000 in
theorem ml_RL_356 : Cond.methodLink RL 356 yX11_undo ∈ BW := bw_in (List.mem_of_getElem? (i := 674) (by rfl)) (by rfl)
set_option maxRecDepth 100000 in
theorem in_X11_undo : Cond.instanceMethod yX11_undo ∈ BW := bw_in (List.mem_of_getElem? (i := 675) (by rfl)) (by rfl)
set_option maxRecDepth 100000 in
theorem sl_X11_undo : Cond.selects RX11 yX11_undo yX11_undo ∈ BW := bw_in (List.mem_of_getElem? (i := 676) (by rfl)) (by rfl)
set_option maxRecDepth 100000 in
theorem cd_X12_undo : Cond.code yX12_undo cX12_undo 2 (some .int) ∈ BW := bw_in (List.mem_of_getElem? (i := 2001) (by rfl)) (by rfl)
set_option maxRecDepth 100000 in
theorem ml_RL_359 : Cond.methodLink RL 359 yX12_undo ∈ BW := bw_in (List.mem_of_getElem? (i := 1998) (by rfl)) (by rfl)
set_option maxRecDepth 100000 in
theorem in_X12_undo : Cond.instanceMethod yX12_undo ∈ BW := bw_in (List.mem_of_getElem? (i := 1999) (by rfl)) (by rfl)
set_option maxRecDepth 100000 in
theorem sl_X12_undo : Cond.selects RX12 yX12_undo yX12_undo ∈ BW := bw_in (List.mem_of_getElem? (i := 2000) (by rfl)) (by rfl)
set_option maxRecDepth 100000 in
theorem cd_X11_undoDepth : Cond.code yX11_undoDepth cX11_undoDepth 1 (some .int) ∈ BW := bw_in (List.mem_of_getElem? (i := 706) (by rfl)) (by rfl)
set_option maxRecDepth 100000 in
theorem ml_RL_360 : Cond.methodLink RL 360 yX11_undoDepth ∈ BW := bw_in (List.mem_of_getElem? (i := 703) (by rfl)) (by rfl)
set_option maxRecDepth 100000 in
theorem in_X11_undoDepth : Cond.instanceMethod yX11_undoDepth ∈ BW := bw_in (List.mem_of_getElem? (i := 704) (by rfl)) (by rfl)
set_option maxRecDepth 100000 in
theorem sl_X11_undoDepth : Cond.selects RX11 yX11_undoDepth yX11_undoDepth ∈ BW := bw_in (List.mem_of_getElem? (i := 705) (by rfl)) (by rfl)
set_option maxRecDepth 100000 in
theorem cd_X12_undoDepth : Cond.code yX12_undoDepth cX12_undoDepth 1 (some .int) ∈ BW := bw_in (List.mem_of_getElem? (i := 2005) (by rfl)) (by rfl)
set_option maxRecDepth 100000 in
theorem ml_RL_363 : Cond.methodLink RL 363 yX12_undoDepth ∈ BW := bw_in (List.mem_of_getElem? (i := 2002) (by rfl)) (by rfl)
set_option maxRecDepth 100000 in
theorem in_X12_undoDepth : Cond.instanceMethod yX12_undoDepth ∈ BW := bw_in (List.mem_of_getElem? (i := 2003) (by rfl)) (by rfl)
set_option maxRecDepth 100000 in
theorem sl_X12_undoDepth : Cond.selects RX12 yX12_undoDepth yX12_undoDepth ∈ BW := bw_in (List.mem_of_getElem? (i := 2004) (by rfl)) (by rfl)
set_option maxRecDepth 100000 in
theorem ml_RL_364 : Cond.methodLink RL 364 yL_format ∈ BW := bw_in (List.mem_of_getElem? (i := 1480) (by rfl)) (by rfl)
set_option maxRecDepth 100000 in
theorem st_L_format : Cond.static yL_format ∈ BW := bw_in (List.mem_of_getElem? (i := 1481) (by rfl)) (by rfl)
set_option maxRecDepth 100000 in
theorem cd_X12_format : Cond.code yX12_format cX12_format 5 (some .int) ∈ BW := bw_in (List.mem_of_getElem? (i := 2157) (by rfl)) (by rfl)
set_option maxRecDepth 100000 in
theorem ml_RL_366 : Cond.methodLink RL 366 yX12_format ∈ BW := bw_in (List.mem_of_getElem? (i := 2154) (by rfl)) (by rfl)
set_option maxRecDepth 100000 in
theorem in_X12_format : Cond.instanceMethod yX12_format ∈ BW := bw_in (List.mem_of_getElem? (i := 2155) (by rfl)) (by rfl)
set_option maxRecDepth 100000 in
theorem sl_X12_format : Cond.selects RX12 yX12_format yX12_format ∈ BW := bw_in (List.mem_of_getElem? (i := 2156) (by rfl)) (by rfl)
set_option maxRecDepth 100000 in
theorem cd_X11_formattedByte : Cond.code yX11_formattedByte cX11_formattedByte 2 (some .int) ∈ BW := bw_in (List.mem_of_getElem? (i := 710) (by rfl)) (by rfl)
set_option maxRecDepth 100000 in
theorem ml_RL_367 : Cond.methodLink RL 367 yX11_formattedByte ∈ BW := bw_in (List.mem_of_getElem? (i := 707) (by rfl)) (by rfl)
set_option maxRecDepth 100000 in
theorem in_X11_formattedByte : Cond.instanceMethod yX11_formattedByte ∈ BW := bw_in (List.mem_of_getElem? (i := 708) (by rfl)) (by rfl)
set_option maxRecDepth 100000 in
theorem sl_X11_formattedByte : Cond.selects RX11 yX11_formattedByte yX11_formattedByte ∈ BW := bw_in (List.mem_of_getElem? (i := 709) (by rfl)) (by rfl)
set_option maxRecDepth 100000 in
theorem cd_X12_formattedByte : Cond.code yX12_formattedByte cX12_formattedByte 2 (some .int) ∈ BW := bw_in (List.mem_of_getElem? (i := 2176) (by rfl)) (by rfl)
set_option maxRecDepth 100000 in
theorem ml_RL_370 : Cond.methodLink RL 370 yX12_formattedByte ∈ BW := bw_in (List.mem_of_getElem? (i := 2173) (by rfl)) (by rfl)
set_option maxRecDepth 100000 in
theorem in_X12_formattedByte : Cond.instanceMethod yX12_formattedByte ∈ BW := bw_in (List.mem_of_getElem? (i := 2174) (by rfl)) (by rfl)
set_option maxRecDepth 100000 in
theorem sl_X12_formattedByte : Cond.selects RX12 yX12_formattedByte yX12_formattedByte ∈ BW := bw_in (List.mem_of_getElem? (i := 2175) (by rfl)) (by rfl)
set_option maxRecDepth 100000 in
theorem ni_RL : Cond.initialized RL ∈ BW := bw_in (List.mem_of_getElem? (i := 114) (by rfl)) (by rfl)
/-! ===== the law's cases: each over what is asked of the pure functions (Ag_..) ===== -/
theorem lgc_self (x : Int64) : lg_cmp x x = 0 := by
  unfold lg_cmp
  rw [if_neg (fun h => absurd h (by rw [gt_iff_lt, Int64.lt_iff_toInt_lt]; exact Int.lt_irrefl _)), if_pos rfl]
theorem thr_eq (N : Nat) (R : Nat → Nat → Nat) (σ : SI) (x0 : Nat) : f_X12_thrown N R σ x0 = some (σ x0 0, σ) := rfl
theorem ok_1 : Ok 194 1 11 := ⟨by decide, by decide, by decide⟩
theorem ok_178 : Ok 194 178 12 := ⟨by decide, by decide, by decide⟩
theorem ok_194 : Ok 194 194 40001 := ⟨by decide, by decide, by decide⟩
def InvOk (Inv : SI → (Nat → Nat → Nat) → Prop) : Prop := ∀ σ R, Inv σ R → ShR R
def Ag_0 (N : Nat) (Inv : SI → (Nat → Nat → Nat) → Prop) : Prop := ∀ (σ : SI) (R : Nat → Nat → Nat) (a1 : Int32) (a2 : Int32) (a3 : Int32) (a4 : Int32) (a5 : Int32), Inv σ R → ∃ (b1 : Int32) (σ1 : SI) (b2 : Int32) (σ2 : SI), f_X11_append N R σ 1 a1 a2 a3 a4 a5 = some (b1, σ1) ∧ f_X12_append N R σ1 178 a1 a2 a3 a4 a5 = some (b2, σ2) ∧ Inv σ2 R ∧ b1 = b2
def Ag_1 (N : Nat) (Inv : SI → (Nat → Nat → Nat) → Prop) : Prop := ∀ (σ : SI) (R : Nat → Nat → Nat) (a1 : Int32), Inv σ R → ∃ (b1 : Int32) (σ1 : SI) (b2 : Int32) (σ2 : SI), f_X11_truncate N R σ 1 a1 = some (b1, σ1) ∧ f_X12_truncate N R σ1 178 a1 = some (b2, σ2) ∧ Inv σ2 R ∧ b1 = b2
def Ag_2 (N : Nat) (Inv : SI → (Nat → Nat → Nat) → Prop) : Prop := ∀ (σ : SI) (R : Nat → Nat → Nat), Inv σ R → ∃ (res : Int32 ⊕ Nat) (σ1 : SI) (R1 : Nat → Nat → Nat) (b2 : Int32) (σ2 : SI), f_X11_load N R σ 1 = some ((res, σ1), R1) ∧ f_X12_load N R1 σ1 178 = some (b2, σ2) ∧ Inv σ2 R1 ∧ ShR R1 ∧ (∀ v, res = .inl v → σ2 178 0 = 0 ∧ v = b2) ∧ ∀ q, res = .inr q → (q = 1 ∧ σ2 178 0 = 1)
def Ag_3 (N : Nat) (Inv : SI → (Nat → Nat → Nat) → Prop) : Prop := ∀ (σ : SI) (R : Nat → Nat → Nat), Inv σ R → ∃ (b1 : Int32) (σ1 : SI) (b2 : Int32) (σ2 : SI), f_X11_errorOffset N R σ 1 = some (b1, σ1) ∧ f_X12_errorOffset N R σ1 178 = some (b2, σ2) ∧ Inv σ2 R ∧ b1 = b2
def Ag_4 (N : Nat) (Inv : SI → (Nat → Nat → Nat) → Prop) : Prop := ∀ (σ : SI) (R : Nat → Nat → Nat), Inv σ R → ∃ (b1 : Int32) (σ1 : SI) (b2 : Int32) (σ2 : SI), f_X11_errorKind N R σ 1 = some (b1, σ1) ∧ f_X12_errorKind N R σ1 178 = some (b2, σ2) ∧ Inv σ2 R ∧ b1 = b2
def Ag_5 (N : Nat) (Inv : SI → (Nat → Nat → Nat) → Prop) : Prop := ∀ (σ : SI) (R : Nat → Nat → Nat), Inv σ R → ∃ (b1 : Int32) (σ1 : SI) (b2 : Int32) (σ2 : SI), f_X11_blastCount N R σ 1 = some (b1, σ1) ∧ f_X12_blastCount N R σ1 178 = some (b2, σ2) ∧ Inv σ2 R ∧ b1 = b2
def Ag_6 (N : Nat) (Inv : SI → (Nat → Nat → Nat) → Prop) : Prop := ∀ (σ : SI) (R : Nat → Nat → Nat), Inv σ R → ∃ (b1 : Int32) (σ1 : SI) (b2 : Int32) (σ2 : SI), f_X11_neighbourCount N R σ 1 = some (b1, σ1) ∧ f_X12_neighbourCount N R σ1 178 = some (b2, σ2) ∧ Inv σ2 R ∧ b1 = b2
def Ag_7 (N : Nat) (Inv : SI → (Nat → Nat → Nat) → Prop) : Prop := ∀ (σ : SI) (R : Nat → Nat → Nat), Inv σ R → ∃ (b1 : Int32) (σ1 : SI) (b2 : Int32) (σ2 : SI), f_X11_roadCount N R σ 1 = some (b1, σ1) ∧ f_X12_roadCount N R σ1 178 = some (b2, σ2) ∧ Inv σ2 R ∧ b1 = b2
def Ag_8 (N : Nat) (Inv : SI → (Nat → Nat → Nat) → Prop) : Prop := ∀ (σ : SI) (R : Nat → Nat → Nat), Inv σ R → ∃ (b1 : Int32) (σ1 : SI) (b2 : Int32) (σ2 : SI), f_X11_startCount N R σ 1 = some (b1, σ1) ∧ f_X12_startCount N R σ1 178 = some (b2, σ2) ∧ Inv σ2 R ∧ b1 = b2
def Ag_9 (N : Nat) (Inv : SI → (Nat → Nat → Nat) → Prop) : Prop := ∀ (σ : SI) (R : Nat → Nat → Nat) (a1 : Int32), Inv σ R → ∃ (res : Int32 ⊕ Nat) (σ1 : SI) (b2 : Int32) (σ2 : SI), f_X11_chargeCount N R σ 1 a1 = some ((res, σ1)) ∧ f_X12_chargeCount N R σ1 178 a1 = some (b2, σ2) ∧ Inv σ2 R ∧ (∀ v, res = .inl v → σ2 178 0 = 0 ∧ v = b2) ∧ ∀ q, res = .inr q → (q = 0 ∧ σ2 178 0 = 1)
def Ag_10 (N : Nat) (Inv : SI → (Nat → Nat → Nat) → Prop) : Prop := ∀ (σ : SI) (R : Nat → Nat → Nat) (a1 : Int32) (a2 : Int32), Inv σ R → ∃ (res : Int32 ⊕ Nat) (σ1 : SI) (b2 : Int32) (σ2 : SI), f_X11_chargeSize N R σ 1 a1 a2 = some ((res, σ1)) ∧ f_X12_chargeSize N R σ1 178 a1 a2 = some (b2, σ2) ∧ Inv σ2 R ∧ (∀ v, res = .inl v → σ2 178 0 = 0 ∧ v = b2) ∧ ∀ q, res = .inr q → (q = 0 ∧ σ2 178 0 = 1)
def Ag_11 (N : Nat) (Inv : SI → (Nat → Nat → Nat) → Prop) : Prop := ∀ (σ : SI) (R : Nat → Nat → Nat) (a1 : Int32) (a2 : Int32), Inv σ R → ∃ (res : Int32 ⊕ Nat) (σ1 : SI) (b2 : Int32) (σ2 : SI), f_X11_delay N R σ 1 a1 a2 = some ((res, σ1)) ∧ f_X12_delay N R σ1 178 a1 a2 = some (b2, σ2) ∧ Inv σ2 R ∧ (∀ v, res = .inl v → σ2 178 0 = 0 ∧ v = b2) ∧ ∀ q, res = .inr q → (q = 0 ∧ σ2 178 0 = 1)
def Ag_12 (N : Nat) (Inv : SI → (Nat → Nat → Nat) → Prop) : Prop := ∀ (σ : SI) (R : Nat → Nat → Nat) (a1 : Int32), Inv σ R → ∃ (res : Int32 ⊕ Nat) (σ1 : SI) (b2 : Int32) (σ2 : SI), f_X11_totalSize N R σ 1 a1 = some ((res, σ1)) ∧ f_X12_totalSize N R σ1 178 a1 = some (b2, σ2) ∧ Inv σ2 R ∧ (∀ v, res = .inl v → σ2 178 0 = 0 ∧ v = b2) ∧ ∀ q, res = .inr q → (q = 0 ∧ σ2 178 0 = 1)
def Ag_13 (N : Nat) (Inv : SI → (Nat → Nat → Nat) → Prop) : Prop := ∀ (σ : SI) (R : Nat → Nat → Nat) (a1 : Int32), Inv σ R → ∃ (res : Int32 ⊕ Nat) (σ1 : SI) (b2 : Int32) (σ2 : SI), f_X11_delaySpan N R σ 1 a1 = some ((res, σ1)) ∧ f_X12_delaySpan N R σ1 178 a1 = some (b2, σ2) ∧ Inv σ2 R ∧ (∀ v, res = .inl v → σ2 178 0 = 0 ∧ v = b2) ∧ ∀ q, res = .inr q → (q = 0 ∧ σ2 178 0 = 1)
def Ag_14 (N : Nat) (Inv : SI → (Nat → Nat → Nat) → Prop) : Prop := ∀ (σ : SI) (R : Nat → Nat → Nat) (a1 : Int32), Inv σ R → ∃ (res : Int32 ⊕ Nat) (σ1 : SI) (b2 : Int32) (σ2 : SI), f_X11_windowSize N R σ 1 a1 = some ((res, σ1)) ∧ f_X12_windowSize N R σ1 178 a1 = some (b2, σ2) ∧ Inv σ2 R ∧ (∀ v, res = .inl v → σ2 178 0 = 0 ∧ v = b2) ∧ ∀ q, res = .inr q → (q = 0 ∧ σ2 178 0 = 1)
def Ag_15 (N : Nat) (Inv : SI → (Nat → Nat → Nat) → Prop) : Prop := ∀ (σ : SI) (R : Nat → Nat → Nat) (a1 : Int32), Inv σ R → ∃ (res : Int32 ⊕ Nat) (σ1 : SI) (b2 : Int32) (σ2 : SI), f_X11_windowStart N R σ 1 a1 = some ((res, σ1)) ∧ f_X12_windowStart N R σ1 178 a1 = some (b2, σ2) ∧ Inv σ2 R ∧ (∀ v, res = .inl v → σ2 178 0 = 0 ∧ v = b2) ∧ ∀ q, res = .inr q → (q = 0 ∧ σ2 178 0 = 1)
def Ag_16 (N : Nat) (Inv : SI → (Nat → Nat → Nat) → Prop) : Prop := ∀ (σ : SI) (R : Nat → Nat → Nat) (a1 : Int32) (a2 : Int32), Inv σ R → ∃ (res : Int32 ⊕ Nat) (σ1 : SI) (b2 : Int32) (σ2 : SI), f_X11_vibration N R σ 1 a1 a2 = some ((res, σ1)) ∧ f_X12_vibration N R σ1 178 a1 a2 = some (b2, σ2) ∧ Inv σ2 R ∧ (∀ v, res = .inl v → σ2 178 0 = 0 ∧ v = b2) ∧ ∀ q, res = .inr q → (q = 0 ∧ σ2 178 0 = 1)
def Ag_17 (N : Nat) (Inv : SI → (Nat → Nat → Nat) → Prop) : Prop := ∀ (σ : SI) (R : Nat → Nat → Nat) (a1 : Int32), Inv σ R → ∃ (res : Int32 ⊕ Nat) (σ1 : SI) (b2 : Int32) (σ2 : SI), f_X11_mostShaken N R σ 1 a1 = some ((res, σ1)) ∧ f_X12_mostShaken N R σ1 178 a1 = some (b2, σ2) ∧ Inv σ2 R ∧ (∀ v, res = .inl v → σ2 178 0 = 0 ∧ v = b2) ∧ ∀ q, res = .inr q → (q = 0 ∧ σ2 178 0 = 1)
def Ag_18 (N : Nat) (Inv : SI → (Nat → Nat → Nat) → Prop) : Prop := ∀ (σ : SI) (R : Nat → Nat → Nat) (a1 : Int32), Inv σ R → ∃ (res : Int32 ⊕ Nat) (σ1 : SI) (b2 : Int32) (σ2 : SI), f_X11_tooStrongAt N R σ 1 a1 = some ((res, σ1)) ∧ f_X12_tooStrongAt N R σ1 178 a1 = some (b2, σ2) ∧ Inv σ2 R ∧ (∀ v, res = .inl v → σ2 178 0 = 0 ∧ v = b2) ∧ ∀ q, res = .inr q → (q = 0 ∧ σ2 178 0 = 1)
def Ag_19 (N : Nat) (Inv : SI → (Nat → Nat → Nat) → Prop) : Prop := ∀ (σ : SI) (R : Nat → Nat → Nat) (a1 : Int32) (a2 : Int32), Inv σ R → ∃ (res : Int32 ⊕ Nat) (σ1 : SI) (b2 : Int32) (σ2 : SI), f_X11_neededGap N R σ 1 a1 a2 = some ((res, σ1)) ∧ f_X12_neededGap N R σ1 178 a1 a2 = some (b2, σ2) ∧ Inv σ2 R ∧ (∀ v, res = .inl v → σ2 178 0 = 0 ∧ v = b2) ∧ ∀ q, res = .inr q → (q = 0 ∧ σ2 178 0 = 1)
def Ag_20 (N : Nat) (Inv : SI → (Nat → Nat → Nat) → Prop) : Prop := ∀ (σ : SI) (R : Nat → Nat → Nat) (a1 : Int32) (a2 : Int32) (a3 : Int32), Inv σ R → ∃ (res : Int32 ⊕ Nat) (σ1 : SI) (b2 : Int32) (σ2 : SI), f_X11_vibrationIfGap N R σ 1 a1 a2 a3 = some ((res, σ1)) ∧ f_X12_vibrationIfGap N R σ1 178 a1 a2 a3 = some (b2, σ2) ∧ Inv σ2 R ∧ (∀ v, res = .inl v → σ2 178 0 = 0 ∧ v = b2) ∧ ∀ q, res = .inr q → (q = 0 ∧ σ2 178 0 = 1) ∨ (q = 1 ∧ σ2 178 0 = 2)
def Ag_21 (N : Nat) (Inv : SI → (Nat → Nat → Nat) → Prop) : Prop := ∀ (σ : SI) (R : Nat → Nat → Nat) (a1 : Int32) (a2 : Int32), Inv σ R → ∃ (res : Int32 ⊕ Nat) (σ1 : SI) (b2 : Int32) (σ2 : SI), f_X11_closes N R σ 1 a1 a2 = some ((res, σ1)) ∧ f_X12_closes N R σ1 178 a1 a2 = some (b2, σ2) ∧ Inv σ2 R ∧ (∀ v, res = .inl v → σ2 178 0 = 0 ∧ v = b2) ∧ ∀ q, res = .inr q → (q = 0 ∧ σ2 178 0 = 1)
def Ag_22 (N : Nat) (Inv : SI → (Nat → Nat → Nat) → Prop) : Prop := ∀ (σ : SI) (R : Nat → Nat → Nat) (a1 : Int32), Inv σ R → ∃ (res : Int32 ⊕ Nat) (σ1 : SI) (b2 : Int32) (σ2 : SI), f_X11_closedBy N R σ 1 a1 = some ((res, σ1)) ∧ f_X12_closedBy N R σ1 178 a1 = some (b2, σ2) ∧ Inv σ2 R ∧ (∀ v, res = .inl v → σ2 178 0 = 0 ∧ v = b2) ∧ ∀ q, res = .inr q → (q = 0 ∧ σ2 178 0 = 1)
def Ag_23 (N : Nat) (Inv : SI → (Nat → Nat → Nat) → Prop) : Prop := ∀ (σ : SI) (R : Nat → Nat → Nat) (a1 : Int32) (a2 : Int32), Inv σ R → ∃ (res : Int32 ⊕ Nat) (σ1 : SI) (b2 : Int32) (σ2 : SI), f_X11_isQuiet N R σ 1 a1 a2 = some ((res, σ1)) ∧ f_X12_isQuiet N R σ1 178 a1 a2 = some (b2, σ2) ∧ Inv σ2 R ∧ (∀ v, res = .inl v → σ2 178 0 = 0 ∧ v = b2) ∧ ∀ q, res = .inr q → (q = 0 ∧ σ2 178 0 = 1)
def Ag_24 (N : Nat) (Inv : SI → (Nat → Nat → Nat) → Prop) : Prop := ∀ (σ : SI) (R : Nat → Nat → Nat) (a1 : Int32) (a2 : Int32), Inv σ R → ∃ (res : Int32 ⊕ Nat) (σ1 : SI) (b2 : Int32) (σ2 : SI), f_X11_dustAt N R σ 1 a1 a2 = some ((res, σ1)) ∧ f_X12_dustAt N R σ1 178 a1 a2 = some (b2, σ2) ∧ Inv σ2 R ∧ (∀ v, res = .inl v → σ2 178 0 = 0 ∧ v = b2) ∧ ∀ q, res = .inr q → (q = 0 ∧ σ2 178 0 = 1) ∨ (q = 1 ∧ σ2 178 0 = 2)
def Ag_25 (N : Nat) (Inv : SI → (Nat → Nat → Nat) → Prop) : Prop := ∀ (σ : SI) (R : Nat → Nat → Nat) (a1 : Int32) (a2 : Int32), Inv σ R → ∃ (res : Int32 ⊕ Nat) (σ1 : SI) (b2 : Int32) (σ2 : SI), f_X11_neededRadius N R σ 1 a1 a2 = some ((res, σ1)) ∧ f_X12_neededRadius N R σ1 178 a1 a2 = some (b2, σ2) ∧ Inv σ2 R ∧ (∀ v, res = .inl v → σ2 178 0 = 0 ∧ v = b2) ∧ ∀ q, res = .inr q → (q = 0 ∧ σ2 178 0 = 1)
def Ag_26 (N : Nat) (Inv : SI → (Nat → Nat → Nat) → Prop) : Prop := ∀ (σ : SI) (R : Nat → Nat → Nat) (a1 : Int32), Inv σ R → ∃ (res : Int32 ⊕ Nat) (σ1 : SI) (b2 : Int32) (σ2 : SI), f_X11_quietMinutes N R σ 1 a1 = some ((res, σ1)) ∧ f_X12_quietMinutes N R σ1 178 a1 = some (b2, σ2) ∧ Inv σ2 R ∧ (∀ v, res = .inl v → σ2 178 0 = 0 ∧ v = b2) ∧ ∀ q, res = .inr q → (q = 0 ∧ σ2 178 0 = 1)
def Ag_27 (N : Nat) (Inv : SI → (Nat → Nat → Nat) → Prop) : Prop := ∀ (σ : SI) (R : Nat → Nat → Nat) (a1 : Int32), Inv σ R → ∃ (res : Int32 ⊕ Nat) (σ1 : SI) (b2 : Int32) (σ2 : SI), f_X11_dustHours N R σ 1 a1 = some ((res, σ1)) ∧ f_X12_dustHours N R σ1 178 a1 = some (b2, σ2) ∧ Inv σ2 R ∧ (∀ v, res = .inl v → σ2 178 0 = 0 ∧ v = b2) ∧ ∀ q, res = .inr q → (q = 0 ∧ σ2 178 0 = 1)
def Ag_28 (N : Nat) (Inv : SI → (Nat → Nat → Nat) → Prop) : Prop := ∀ (σ : SI) (R : Nat → Nat → Nat) (a1 : Int32), Inv σ R → ∃ (res : Int32 ⊕ Nat) (σ1 : SI) (b2 : Int32) (σ2 : SI), f_X11_timeOf N R σ 1 a1 = some ((res, σ1)) ∧ f_X12_timeOf N R σ1 178 a1 = some (b2, σ2) ∧ Inv σ2 R ∧ (∀ v, res = .inl v → σ2 178 0 = 0 ∧ v = b2) ∧ ∀ q, res = .inr q → (q = 0 ∧ σ2 178 0 = 1)
def Ag_29 (N : Nat) (Inv : SI → (Nat → Nat → Nat) → Prop) : Prop := ∀ (σ : SI) (R : Nat → Nat → Nat) (a1 : Int32), Inv σ R → ∃ (res : Int32 ⊕ Nat) (σ1 : SI) (b2 : Int32) (σ2 : SI), f_X11_isFired N R σ 1 a1 = some ((res, σ1)) ∧ f_X12_isFired N R σ1 178 a1 = some (b2, σ2) ∧ Inv σ2 R ∧ (∀ v, res = .inl v → σ2 178 0 = 0 ∧ v = b2) ∧ ∀ q, res = .inr q → (q = 0 ∧ σ2 178 0 = 1)
def Ag_30 (N : Nat) (Inv : SI → (Nat → Nat → Nat) → Prop) : Prop := ∀ (σ : SI) (R : Nat → Nat → Nat) (a1 : Int32) (a2 : Int32), Inv σ R → ∃ (res : Int32 ⊕ Nat) (σ1 : SI) (b2 : Int32) (σ2 : SI), f_X11_reason N R σ 1 a1 a2 = some ((res, σ1)) ∧ f_X12_reason N R σ1 178 a1 a2 = some (b2, σ2) ∧ Inv σ2 R ∧ (∀ v, res = .inl v → σ2 178 0 = 0 ∧ v = b2) ∧ ∀ q, res = .inr q → (q = 0 ∧ σ2 178 0 = 1) ∨ (q = 1 ∧ σ2 178 0 = 2)
def Ag_31 (N : Nat) (Inv : SI → (Nat → Nat → Nat) → Prop) : Prop := ∀ (σ : SI) (R : Nat → Nat → Nat) (a1 : Int32) (a2 : Int32), Inv σ R → ∃ (res : Int32 ⊕ Nat) (σ1 : SI) (b2 : Int32) (σ2 : SI), f_X11_earliest N R σ 1 a1 a2 = some ((res, σ1)) ∧ f_X12_earliest N R σ1 178 a1 a2 = some (b2, σ2) ∧ Inv σ2 R ∧ (∀ v, res = .inl v → σ2 178 0 = 0 ∧ v = b2) ∧ ∀ q, res = .inr q → (q = 0 ∧ σ2 178 0 = 1) ∨ (q = 1 ∧ σ2 178 0 = 2)
def Ag_32 (N : Nat) (Inv : SI → (Nat → Nat → Nat) → Prop) : Prop := ∀ (σ : SI) (R : Nat → Nat → Nat) (a1 : Int32) (a2 : Int32), Inv σ R → ∃ (res : Int32 ⊕ Nat) (σ1 : SI) (b2 : Int32) (σ2 : SI), f_X11_latest N R σ 1 a1 a2 = some ((res, σ1)) ∧ f_X12_latest N R σ1 178 a1 a2 = some (b2, σ2) ∧ Inv σ2 R ∧ (∀ v, res = .inl v → σ2 178 0 = 0 ∧ v = b2) ∧ ∀ q, res = .inr q → (q = 0 ∧ σ2 178 0 = 1) ∨ (q = 1 ∧ σ2 178 0 = 2)
def Ag_33 (N : Nat) (Inv : SI → (Nat → Nat → Nat) → Prop) : Prop := ∀ (σ : SI) (R : Nat → Nat → Nat) (a1 : Int32) (a2 : Int32), Inv σ R → ∃ (res : Int32 ⊕ Nat) (σ1 : SI) (b2 : Int32) (σ2 : SI), f_X11_reasonCount N R σ 1 a1 a2 = some ((res, σ1)) ∧ f_X12_reasonCount N R σ1 178 a1 a2 = some (b2, σ2) ∧ Inv σ2 R ∧ (∀ v, res = .inl v → σ2 178 0 = 0 ∧ v = b2) ∧ ∀ q, res = .inr q → (q = 0 ∧ σ2 178 0 = 1) ∨ (q = 1 ∧ σ2 178 0 = 2)
def Ag_34 (N : Nat) (Inv : SI → (Nat → Nat → Nat) → Prop) : Prop := ∀ (σ : SI) (R : Nat → Nat → Nat) (a1 : Int32), Inv σ R → ∃ (res : Int32 ⊕ Nat) (σ1 : SI) (b2 : Int32) (σ2 : SI), f_X11_longestAllowed N R σ 1 a1 = some ((res, σ1)) ∧ f_X12_longestAllowed N R σ1 178 a1 = some (b2, σ2) ∧ Inv σ2 R ∧ (∀ v, res = .inl v → σ2 178 0 = 0 ∧ v = b2) ∧ ∀ q, res = .inr q → (q = 0 ∧ σ2 178 0 = 1)
def Ag_35 (N : Nat) (Inv : SI → (Nat → Nat → Nat) → Prop) : Prop := ∀ (σ : SI) (R : Nat → Nat → Nat) (a1 : Int32), Inv σ R → ∃ (res : Int32 ⊕ Nat) (σ1 : SI) (b2 : Int32) (σ2 : SI), f_X11_allowedCount N R σ 1 a1 = some ((res, σ1)) ∧ f_X12_allowedCount N R σ1 178 a1 = some (b2, σ2) ∧ Inv σ2 R ∧ (∀ v, res = .inl v → σ2 178 0 = 0 ∧ v = b2) ∧ ∀ q, res = .inr q → (q = 0 ∧ σ2 178 0 = 1)
def Ag_36 (N : Nat) (Inv : SI → (Nat → Nat → Nat) → Prop) : Prop := ∀ (σ : SI) (R : Nat → Nat → Nat) (a1 : Int32), Inv σ R → ∃ (b1 : Int32) (σ1 : SI) (b2 : Int32) (σ2 : SI), f_X11_nextBlast N R σ 1 a1 = some (b1, σ1) ∧ f_X12_nextBlast N R σ1 178 a1 = some (b2, σ2) ∧ Inv σ2 R ∧ b1 = b2
def Ag_37 (N : Nat) (Inv : SI → (Nat → Nat → Nat) → Prop) : Prop := ∀ (σ : SI) (R : Nat → Nat → Nat) (a1 : Int32) (a2 : Int32), Inv σ R → ∃ (res : Int32 ⊕ Nat) (σ1 : SI) (b2 : Int32) (σ2 : SI), f_X11_schedule N R σ 1 a1 a2 = some ((res, σ1)) ∧ f_X12_schedule N R σ1 178 a1 a2 = some (b2, σ2) ∧ Inv σ2 R ∧ (∀ v, res = .inl v → σ2 178 0 = 0 ∧ v = b2) ∧ ∀ q, res = .inr q → (q = 0 ∧ σ2 178 0 = 1) ∨ (q = 1 ∧ σ2 178 0 = 2) ∨ (q = 2 ∧ σ2 178 0 = 3)
def Ag_38 (N : Nat) (Inv : SI → (Nat → Nat → Nat) → Prop) : Prop := ∀ (σ : SI) (R : Nat → Nat → Nat) (a1 : Int32), Inv σ R → ∃ (res : Int32 ⊕ Nat) (σ1 : SI) (b2 : Int32) (σ2 : SI), f_X11_cancel N R σ 1 a1 = some ((res, σ1)) ∧ f_X12_cancel N R σ1 178 a1 = some (b2, σ2) ∧ Inv σ2 R ∧ (∀ v, res = .inl v → σ2 178 0 = 0 ∧ v = b2) ∧ ∀ q, res = .inr q → (q = 0 ∧ σ2 178 0 = 1) ∨ (q = 2 ∧ σ2 178 0 = 2)
def Ag_39 (N : Nat) (Inv : SI → (Nat → Nat → Nat) → Prop) : Prop := ∀ (σ : SI) (R : Nat → Nat → Nat) (a1 : Int32), Inv σ R → ∃ (res : Int32 ⊕ Nat) (σ1 : SI) (b2 : Int32) (σ2 : SI), f_X11_fire N R σ 1 a1 = some ((res, σ1)) ∧ f_X12_fire N R σ1 178 a1 = some (b2, σ2) ∧ Inv σ2 R ∧ (∀ v, res = .inl v → σ2 178 0 = 0 ∧ v = b2) ∧ ∀ q, res = .inr q → (q = 0 ∧ σ2 178 0 = 1) ∨ (q = 2 ∧ σ2 178 0 = 2)
def Ag_40 (N : Nat) (Inv : SI → (Nat → Nat → Nat) → Prop) : Prop := ∀ (σ : SI) (R : Nat → Nat → Nat) (a1 : Int32) (a2 : Int32), Inv σ R → ∃ (res : Int32 ⊕ Nat) (σ1 : SI) (b2 : Int32) (σ2 : SI), f_X11_retime N R σ 1 a1 a2 = some ((res, σ1)) ∧ f_X12_retime N R σ1 178 a1 a2 = some (b2, σ2) ∧ Inv σ2 R ∧ (∀ v, res = .inl v → σ2 178 0 = 0 ∧ v = b2) ∧ ∀ q, res = .inr q → (q = 0 ∧ σ2 178 0 = 1) ∨ (q = 1 ∧ σ2 178 0 = 2) ∨ (q = 2 ∧ σ2 178 0 = 3)
def Ag_41 (N : Nat) (Inv : SI → (Nat → Nat → Nat) → Prop) : Prop := ∀ (σ : SI) (R : Nat → Nat → Nat) (a1 : Int32), Inv σ R → ∃ (res : Int32 ⊕ Nat) (σ1 : SI) (b2 : Int32) (σ2 : SI), f_X11_closedMinutes N R σ 1 a1 = some ((res, σ1)) ∧ f_X12_closedMinutes N R σ1 178 a1 = some (b2, σ2) ∧ Inv σ2 R ∧ (∀ v, res = .inl v → σ2 178 0 = 0 ∧ v = b2) ∧ ∀ q, res = .inr q → (q = 0 ∧ σ2 178 0 = 1)
def Ag_42 (N : Nat) (Inv : SI → (Nat → Nat → Nat) → Prop) : Prop := ∀ (σ : SI) (R : Nat → Nat → Nat), Inv σ R → ∃ (b1 : Int32) (σ1 : SI) (b2 : Int32) (σ2 : SI), f_X11_totalClosed N R σ 1 = some (b1, σ1) ∧ f_X12_totalClosed N R σ1 178 = some (b2, σ2) ∧ Inv σ2 R ∧ b1 = b2
def Ag_43 (N : Nat) (Inv : SI → (Nat → Nat → Nat) → Prop) : Prop := ∀ (σ : SI) (R : Nat → Nat → Nat) (a1 : Int32) (a2 : Int32), Inv σ R → ∃ (res : Int32 ⊕ Nat) (σ1 : SI) (b2 : Int32) (σ2 : SI), f_X11_isClosed N R σ 1 a1 a2 = some ((res, σ1)) ∧ f_X12_isClosed N R σ1 178 a1 a2 = some (b2, σ2) ∧ Inv σ2 R ∧ (∀ v, res = .inl v → σ2 178 0 = 0 ∧ v = b2) ∧ ∀ q, res = .inr q → (q = 0 ∧ σ2 178 0 = 1)
def Ag_44 (N : Nat) (Inv : SI → (Nat → Nat → Nat) → Prop) : Prop := ∀ (σ : SI) (R : Nat → Nat → Nat) (a1 : Int32), Inv σ R → ∃ (res : Int32 ⊕ Nat) (σ1 : SI) (b2 : Int32) (σ2 : SI), f_X11_closures N R σ 1 a1 = some ((res, σ1)) ∧ f_X12_closures N R σ1 178 a1 = some (b2, σ2) ∧ Inv σ2 R ∧ (∀ v, res = .inl v → σ2 178 0 = 0 ∧ v = b2) ∧ ∀ q, res = .inr q → (q = 0 ∧ σ2 178 0 = 1)
def Ag_45 (N : Nat) (Inv : SI → (Nat → Nat → Nat) → Prop) : Prop := ∀ (σ : SI) (R : Nat → Nat → Nat) (a1 : Int32) (a2 : Int32), Inv σ R → ∃ (res : Int32 ⊕ Nat) (σ1 : SI) (b2 : Int32) (σ2 : SI), f_X11_closureStart N R σ 1 a1 a2 = some ((res, σ1)) ∧ f_X12_closureStart N R σ1 178 a1 a2 = some (b2, σ2) ∧ Inv σ2 R ∧ (∀ v, res = .inl v → σ2 178 0 = 0 ∧ v = b2) ∧ ∀ q, res = .inr q → (q = 0 ∧ σ2 178 0 = 1)
def Ag_46 (N : Nat) (Inv : SI → (Nat → Nat → Nat) → Prop) : Prop := ∀ (σ : SI) (R : Nat → Nat → Nat) (a1 : Int32) (a2 : Int32), Inv σ R → ∃ (res : Int32 ⊕ Nat) (σ1 : SI) (b2 : Int32) (σ2 : SI), f_X11_closureLength N R σ 1 a1 a2 = some ((res, σ1)) ∧ f_X12_closureLength N R σ1 178 a1 a2 = some (b2, σ2) ∧ Inv σ2 R ∧ (∀ v, res = .inl v → σ2 178 0 = 0 ∧ v = b2) ∧ ∀ q, res = .inr q → (q = 0 ∧ σ2 178 0 = 1)
def Ag_47 (N : Nat) (Inv : SI → (Nat → Nat → Nat) → Prop) : Prop := ∀ (σ : SI) (R : Nat → Nat → Nat) (a1 : Int32) (a2 : Int32) (a3 : Int32), Inv σ R → ∃ (res : Int32 ⊕ Nat) (σ1 : SI) (b2 : Int32) (σ2 : SI), f_X11_openMinutes N R σ 1 a1 a2 a3 = some ((res, σ1)) ∧ f_X12_openMinutes N R σ1 178 a1 a2 a3 = some (b2, σ2) ∧ Inv σ2 R ∧ (∀ v, res = .inl v → σ2 178 0 = 0 ∧ v = b2) ∧ ∀ q, res = .inr q → (q = 0 ∧ σ2 178 0 = 1) ∨ (q = 1 ∧ σ2 178 0 = 2)
def Ag_48 (N : Nat) (Inv : SI → (Nat → Nat → Nat) → Prop) : Prop := ∀ (σ : SI) (R : Nat → Nat → Nat) (a1 : Int32) (a2 : Int32), Inv σ R → ∃ (res : Int32 ⊕ Nat) (σ1 : SI) (b2 : Int32) (σ2 : SI), f_X11_sharedMinutes N R σ 1 a1 a2 = some ((res, σ1)) ∧ f_X12_sharedMinutes N R σ1 178 a1 a2 = some (b2, σ2) ∧ Inv σ2 R ∧ (∀ v, res = .inl v → σ2 178 0 = 0 ∧ v = b2) ∧ ∀ q, res = .inr q → (q = 0 ∧ σ2 178 0 = 1)
def Ag_49 (N : Nat) (Inv : SI → (Nat → Nat → Nat) → Prop) : Prop := ∀ (σ : SI) (R : Nat → Nat → Nat), Inv σ R → ∃ (b1 : Int32) (σ1 : SI) (b2 : Int32) (σ2 : SI), f_X11_busiestHour N R σ 1 = some (b1, σ1) ∧ f_X12_busiestHour N R σ1 178 = some (b2, σ2) ∧ Inv σ2 R ∧ b1 = b2
def Ag_50 (N : Nat) (Inv : SI → (Nat → Nat → Nat) → Prop) : Prop := ∀ (σ : SI) (R : Nat → Nat → Nat), Inv σ R → ∃ (b1 : Int32) (σ1 : SI) (b2 : Int32) (σ2 : SI), f_X11_sirenCount N R σ 1 = some (b1, σ1) ∧ f_X12_sirenCount N R σ1 178 = some (b2, σ2) ∧ Inv σ2 R ∧ b1 = b2
def Ag_51 (N : Nat) (Inv : SI → (Nat → Nat → Nat) → Prop) : Prop := ∀ (σ : SI) (R : Nat → Nat → Nat) (a1 : Int32), Inv σ R → ∃ (res : Int32 ⊕ Nat) (σ1 : SI) (b2 : Int32) (σ2 : SI), f_X11_sirenMinute N R σ 1 a1 = some ((res, σ1)) ∧ f_X12_sirenMinute N R σ1 178 a1 = some (b2, σ2) ∧ Inv σ2 R ∧ (∀ v, res = .inl v → σ2 178 0 = 0 ∧ v = b2) ∧ ∀ q, res = .inr q → (q = 1 ∧ σ2 178 0 = 1)
def Ag_52 (N : Nat) (Inv : SI → (Nat → Nat → Nat) → Prop) : Prop := ∀ (σ : SI) (R : Nat → Nat → Nat) (a1 : Int32), Inv σ R → ∃ (res : Int32 ⊕ Nat) (σ1 : SI) (b2 : Int32) (σ2 : SI), f_X11_sirenKind N R σ 1 a1 = some ((res, σ1)) ∧ f_X12_sirenKind N R σ1 178 a1 = some (b2, σ2) ∧ Inv σ2 R ∧ (∀ v, res = .inl v → σ2 178 0 = 0 ∧ v = b2) ∧ ∀ q, res = .inr q → (q = 1 ∧ σ2 178 0 = 1)
def Ag_53 (N : Nat) (Inv : SI → (Nat → Nat → Nat) → Prop) : Prop := ∀ (σ : SI) (R : Nat → Nat → Nat) (a1 : Int32), Inv σ R → ∃ (res : Int32 ⊕ Nat) (σ1 : SI) (b2 : Int32) (σ2 : SI), f_X11_sirenBlast N R σ 1 a1 = some ((res, σ1)) ∧ f_X12_sirenBlast N R σ1 178 a1 = some (b2, σ2) ∧ Inv σ2 R ∧ (∀ v, res = .inl v → σ2 178 0 = 0 ∧ v = b2) ∧ ∀ q, res = .inr q → (q = 1 ∧ σ2 178 0 = 1)
def Ag_54 (N : Nat) (Inv : SI → (Nat → Nat → Nat) → Prop) : Prop := ∀ (σ : SI) (R : Nat → Nat → Nat), Inv σ R → ∃ (res : Int32 ⊕ Nat) (σ1 : SI) (b2 : Int32) (σ2 : SI), f_X11_planLength N R σ 1 = some ((res, σ1)) ∧ f_X12_planLength N R σ1 178 = some (b2, σ2) ∧ Inv σ2 R ∧ (∀ v, res = .inl v → σ2 178 0 = 0 ∧ v = b2) ∧ ∀ q, res = .inr q → (q = 2 ∧ σ2 178 0 = 1)
def Ag_55 (N : Nat) (Inv : SI → (Nat → Nat → Nat) → Prop) : Prop := ∀ (σ : SI) (R : Nat → Nat → Nat) (a1 : Int32), Inv σ R → ∃ (res : Int32 ⊕ Nat) (σ1 : SI) (b2 : Int32) (σ2 : SI), f_X11_planTime N R σ 1 a1 = some ((res, σ1)) ∧ f_X12_planTime N R σ1 178 a1 = some (b2, σ2) ∧ Inv σ2 R ∧ (∀ v, res = .inl v → σ2 178 0 = 0 ∧ v = b2) ∧ ∀ q, res = .inr q → (q = 0 ∧ σ2 178 0 = 1) ∨ (q = 2 ∧ σ2 178 0 = 2)
def Ag_56 (N : Nat) (Inv : SI → (Nat → Nat → Nat) → Prop) : Prop := ∀ (σ : SI) (R : Nat → Nat → Nat), Inv σ R → ∃ (res : Int32 ⊕ Nat) (σ1 : SI) (b2 : Int32) (σ2 : SI), f_X11_applyPlan N R σ 1 = some ((res, σ1)) ∧ f_X12_applyPlan N R σ1 178 = some (b2, σ2) ∧ Inv σ2 R ∧ (∀ v, res = .inl v → σ2 178 0 = 0 ∧ v = b2) ∧ ∀ q, res = .inr q → (q = 2 ∧ σ2 178 0 = 1)
def Ag_57 (N : Nat) (Inv : SI → (Nat → Nat → Nat) → Prop) : Prop := ∀ (σ : SI) (R : Nat → Nat → Nat), Inv σ R → ∃ (b1 : Int32) (σ1 : SI) (b2 : Int32) (σ2 : SI), f_X11_undo N R σ 1 = some (b1, σ1) ∧ f_X12_undo N R σ1 178 = some (b2, σ2) ∧ Inv σ2 R ∧ b1 = b2
def Ag_58 (N : Nat) (Inv : SI → (Nat → Nat → Nat) → Prop) : Prop := ∀ (σ : SI) (R : Nat → Nat → Nat), Inv σ R → ∃ (b1 : Int32) (σ1 : SI) (b2 : Int32) (σ2 : SI), f_X11_undoDepth N R σ 1 = some (b1, σ1) ∧ f_X12_undoDepth N R σ1 178 = some (b2, σ2) ∧ Inv σ2 R ∧ b1 = b2
def Ag_59 (N : Nat) (Inv : SI → (Nat → Nat → Nat) → Prop) : Prop := ∀ (σ : SI) (R : Nat → Nat → Nat) (a1 : Int32), Inv σ R → ∃ (res : Int32 ⊕ Nat) (σ1 : SI) (b2 : Int32) (σ2 : SI), f_X11_format N R σ 1 a1 = some ((res, σ1)) ∧ f_X12_format N R σ1 178 a1 = some (b2, σ2) ∧ Inv σ2 R ∧ (∀ v, res = .inl v → σ2 178 0 = 0 ∧ v = b2) ∧ ∀ q, res = .inr q → (q = 0 ∧ σ2 178 0 = 1)
def Ag_60 (N : Nat) (Inv : SI → (Nat → Nat → Nat) → Prop) : Prop := ∀ (σ : SI) (R : Nat → Nat → Nat) (a1 : Int32), Inv σ R → ∃ (b1 : Int32) (σ1 : SI) (b2 : Int32) (σ2 : SI), f_X11_formattedByte N R σ 1 a1 = some (b1, σ1) ∧ f_X12_formattedByte N R σ1 178 a1 = some (b2, σ2) ∧ Inv σ2 R ∧ b1 = b2
