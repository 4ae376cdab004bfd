set_option maxRecDepth 100000 in
theorem ly_0_0 : u_lay RX0 TX0 0 ∈ BW := bw_in (List.mem_of_getElem? (i := 306) (by rfl)) (by rfl)
set_option maxRecDepth 100000 in
theorem ly_0_1 : u_lay RX0 TX0 1 ∈ BW := bw_in (List.mem_of_getElem? (i := 308) (by rfl)) (by rfl)
set_option maxRecDepth 100000 in
theorem ly_0_2 : u_lay RX0 TX0 2 ∈ BW := bw_in (List.mem_of_getElem? (i := 310) (by rfl)) (by rfl)
set_option maxRecDepth 100000 in
theorem ly_0_3 : u_lay RX0 TX0 3 ∈ BW := bw_in (List.mem_of_getElem? (i := 312) (by rfl)) (by rfl)
set_option maxRecDepth 100000 in
theorem ly_0_4 : u_lay RX0 TX0 4 ∈ BW := bw_in (List.mem_of_getElem? (i := 314) (by rfl)) (by rfl)
set_option maxRecDepth 100000 in
theorem ly_0_5 : u_lay RX0 TX0 5 ∈ BW := bw_in (List.mem_of_getElem? (i := 316) (by rfl)) (by rfl)
set_option maxRecDepth 100000 in
theorem ly_0_6 : u_lay RX0 TX0 6 ∈ BW := bw_in (List.mem_of_getElem? (i := 318) (by rfl)) (by rfl)
set_option maxRecDepth 100000 in
theorem ly_0_7 : u_lay RX0 TX0 7 ∈ BW := bw_in (List.mem_of_getElem? (i := 320) (by rfl)) (by rfl)
set_option maxRecDepth 100000 in
theorem ly_0_8 : u_lay RX0 TX0 8 ∈ BW := bw_in (List.mem_of_getElem? (i := 322) (by rfl)) (by rfl)
set_option maxRecDepth 100000 in
theorem ly_0_9 : u_lay RX0 TX0 9 ∈ BW := bw_in (List.mem_of_getElem? (i := 324) (by rfl)) (by rfl)
set_option maxRecDepth 100000 in
theorem ly_0_10 : u_lay RX0 TX0 10 ∈ BW := bw_in (List.mem_of_getElem? (i := 326) (by rfl)) (by rfl)
set_option maxRecDepth 100000 in
theorem ly_0_11 : u_lay RX0 TX0 11 ∈ BW := bw_in (List.mem_of_getElem? (i := 328) (by rfl)) (by rfl)
set_option maxRecDepth 100000 in
theorem ly_0_12 : u_lay RX0 TX0 12 ∈ BW := bw_in (List.mem_of_getElem? (i := 330) (by rfl)) (by rfl)
set_option maxRecDepth 100000 in
theorem ly_0_13 : u_lay RX0 TX0 13 ∈ BW := bw_in (List.mem_of_getElem? (i := 332) (by rfl)) (by rfl)
set_option maxRecDepth 100000 in
theorem inB0 : ∀ w ∈ u_ws RX0 TX0 14, w ∈ BW := (List.forall_mem_cons.mpr ⟨ly_0_0, (List.forall_mem_cons.mpr ⟨ly_0_1, (List.forall_mem_cons.mpr ⟨ly_0_2, (List.forall_mem_cons.mpr ⟨ly_0_3, (List.forall_mem_cons.mpr ⟨ly_0_4, (List.forall_mem_cons.mpr ⟨ly_0_5, (List.forall_mem_cons.mpr ⟨ly_0_6, (List.forall_mem_cons.mpr ⟨ly_0_7, (List.forall_mem_cons.mpr ⟨ly_0_8, (List.forall_mem_cons.mpr ⟨ly_0_9, (List.forall_mem_cons.mpr ⟨ly_0_10, (List.forall_mem_cons.mpr ⟨ly_0_11, (List.forall_mem_cons.mpr ⟨ly_0_12, (List.forall_mem_cons.mpr ⟨ly_0_13, (fun _ h => absurd h List.not_mem_nil)⟩)⟩)⟩)⟩)⟩)⟩)⟩)⟩)⟩)⟩)⟩)⟩)⟩)⟩)
set_option maxRecDepth 100000 in
theorem KX0 : KC 0 RX0 TX0 14 tyX0 := ⟨rfl, inB0, tyX0_ok, nmX0, by decide⟩
set_option maxRecDepth 100000 in
theorem ly_1_0 : u_lay RX1 TX1 0 ∈ BW := bw_in (List.mem_of_getElem? (i := 183) (by rfl)) (by rfl)
set_option maxRecDepth 100000 in
theorem ly_1_1 : u_lay RX1 TX1 1 ∈ BW := bw_in (List.mem_of_getElem? (i := 185) (by rfl)) (by rfl)
set_option maxRecDepth 100000 in
theorem inB1 : ∀ w ∈ u_ws RX1 TX1 2, w ∈ BW := (List.forall_mem_cons.mpr ⟨ly_1_0, (List.forall_mem_cons.mpr ⟨ly_1_1, (fun _ h => absurd h List.not_mem_nil)⟩)⟩)
set_option maxRecDepth 100000 in
theorem KX1 : KC 1 RX1 TX1 2 tyX1 := ⟨rfl, inB1, tyX1_ok, nmX1, by decide⟩
set_option maxRecDepth 100000 in
theorem ly_2_0 : u_lay RX2 TX2 0 ∈ BW := bw_in (List.mem_of_getElem? (i := 125) (by rfl)) (by rfl)
set_option maxRecDepth 100000 in
theorem ly_2_1 : u_lay RX2 TX2 1 ∈ BW := bw_in (List.mem_of_getElem? (i := 127) (by rfl)) (by rfl)
set_option maxRecDepth 100000 in
theorem ly_2_2 : u_lay RX2 TX2 2 ∈ BW := bw_in (List.mem_of_getElem? (i := 129) (by rfl)) (by rfl)
set_option maxRecDepth 100000 in
theorem inB2 : ∀ w ∈ u_ws RX2 TX2 3, w ∈ BW := (List.forall_mem_cons.mpr ⟨ly_2_0, (List.forall_mem_cons.mpr ⟨ly_2_1, (List.forall_mem_cons.mpr ⟨ly_2_2, (fun _ h => absurd h List.not_mem_nil)⟩)⟩)⟩)
set_option maxRecDepth 100000 in
theorem KX2 : KC 2 RX2 TX2 3 tyX2 := ⟨rfl, inB2, tyX2_ok, nmX2, by decide⟩
set_option maxRecDepth 100000 in
theorem ly_3_0 : u_lay RX3 TX3 0 ∈ BW := bw_in (List.mem_of_getElem? (i := 200) (by rfl)) (by rfl)
set_option maxRecDepth 100000 in
theorem ly_3_1 : u_lay RX3 TX3 1 ∈ BW := bw_in (List.mem_of_getElem? (i := 202) (by rfl)) (by rfl)
set_option maxRecDepth 100000 in
theorem ly_3_2 : u_lay RX3 TX3 2 ∈ BW := bw_in (List.mem_of_getElem? (i := 204) (by rfl)) (by rfl)
set_option maxRecDepth 100000 in
theorem inB3 : ∀ w ∈ u_ws RX3 TX3 3, w ∈ BW := (List.forall_mem_cons.mpr ⟨ly_3_0, (List.forall_mem_cons.mpr ⟨ly_3_1, (List.forall_mem_cons.mpr ⟨ly_3_2, (fun _ h => absurd h List.not_mem_nil)⟩)⟩)⟩)
set_option maxRecDepth 100000 in
theorem KX3 : KC 3 RX3 TX3 3 tyX3 := ⟨rfl, inB3, tyX3_ok, nmX3, by decide⟩
set_option maxRecDepth 100000 in
theorem ly_4_0 : u_lay RX4 TX4 0 ∈ BW := bw_in (List.mem_of_getElem? (i := 235) (by rfl)) (by rfl)
set_option maxRecDepth 100000 in
theorem ly_4_1 : u_lay RX4 TX4 1 ∈ BW := bw_in (List.mem_of_getElem? (i := 237) (by rfl)) (by rfl)
set_option maxRecDepth 100000 in
theorem ly_4_2 : u_lay RX4 TX4 2 ∈ BW := bw_in (List.mem_of_getElem? (i := 239) (by rfl)) (by rfl)
set_option maxRecDepth 100000 in
theorem ly_4_3 : u_lay RX4 TX4 3 ∈ BW := bw_in (List.mem_of_getElem? (i := 241) (by rfl)) (by rfl)
set_option maxRecDepth 100000 in
theorem ly_4_4 : u_lay RX4 TX4 4 ∈ BW := bw_in (List.mem_of_getElem? (i := 243) (by rfl)) (by rfl)
set_option maxRecDepth 100000 in
theorem ly_4_5 : u_lay RX4 TX4 5 ∈ BW := bw_in (List.mem_of_getElem? (i := 245) (by rfl)) (by rfl)
set_option maxRecDepth 100000 in
theorem inB4 : ∀ w ∈ u_ws RX4 TX4 6, w ∈ BW := (List.forall_mem_cons.mpr ⟨ly_4_0, (List.forall_mem_cons.mpr ⟨ly_4_1, (List.forall_mem_cons.mpr ⟨ly_4_2, (List.forall_mem_cons.mpr ⟨ly_4_3, (List.forall_mem_cons.mpr ⟨ly_4_4, (List.forall_mem_cons.mpr ⟨ly_4_5, (fun _ h => absurd h List.not_mem_nil)⟩)⟩)⟩)⟩)⟩)⟩)
set_option maxRecDepth 100000 in
theorem KX4 : KC 4 RX4 TX4 6 tyX4 := ⟨rfl, inB4, tyX4_ok, nmX4, by decide⟩
set_option maxRecDepth 100000 in
theorem ly_5_0 : u_lay RX5 TX5 0 ∈ BW := bw_in (List.mem_of_getElem? (i := 111) (by rfl)) (by rfl)
set_option maxRecDepth 100000 in
theorem inB5 : ∀ w ∈ u_ws RX5 TX5 1, w ∈ BW := (List.forall_mem_cons.mpr ⟨ly_5_0, (fun _ h => absurd h List.not_mem_nil)⟩)
set_option maxRecDepth 100000 in
theorem KX5 : KC 5 RX5 TX5 1 tyX5 := ⟨rfl, inB5, tyX5_ok, nmX5, by decide⟩
set_option maxRecDepth 100000 in
theorem ly_6_0 : u_lay RX6 TX6 0 ∈ BW := bw_in (List.mem_of_getElem? (i := 148) (by rfl)) (by rfl)
set_option maxRecDepth 100000 in
theorem ly_6_1 : u_lay RX6 TX6 1 ∈ BW := bw_in (List.mem_of_getElem? (i := 150) (by rfl)) (by rfl)
set_option maxRecDepth 100000 in
theorem ly_6_2 : u_lay RX6 TX6 2 ∈ BW := bw_in (List.mem_of_getElem? (i := 152) (by rfl)) (by rfl)
set_option maxRecDepth 100000 in
theorem ly_6_3 : u_lay RX6 TX6 3 ∈ BW := bw_in (List.mem_of_getElem? (i := 154) (by rfl)) (by rfl)
set_option maxRecDepth 100000 in
theorem ly_6_4 : u_lay RX6 TX6 4 ∈ BW := bw_in (List.mem_of_getElem? (i := 156) (by rfl)) (by rfl)
set_option maxRecDepth 100000 in
theorem ly_6_5 : u_lay RX6 TX6 5 ∈ BW := bw_in (List.mem_of_getElem? (i := 158) (by rfl)) (by rfl)
set_option maxRecDepth 100000 in
theorem inB6 : ∀ w ∈ u_ws RX6 TX6 6, w ∈ BW := (List.forall_mem_cons.mpr ⟨ly_6_0, (List.forall_mem_cons.mpr ⟨ly_6_1, (List.forall_mem_cons.mpr ⟨ly_6_2, (List.forall_mem_cons.mpr ⟨ly_6_3, (List.forall_mem_cons.mpr ⟨ly_6_4, (List.forall_mem_cons.mpr ⟨ly_6_5, (fun _ h => absurd h List.not_mem_nil)⟩)⟩)⟩)⟩)⟩)⟩)
set_option maxRecDepth 100000 in
theorem KX6 : KC 6 RX6 TX6 6 tyX6 := ⟨rfl, inB6, tyX6_ok, nmX6, by decide⟩
set_option maxRecDepth 100000 in
theorem ly_7_0 : u_lay RX7 TX7 0 ∈ BW := bw_in (List.mem_of_getElem? (i := 261) (by rfl)) (by rfl)
set_option maxRecDepth 100000 in
theorem ly_7_1 : u_lay RX7 TX7 1 ∈ BW := bw_in (List.mem_of_getElem? (i := 263) (by rfl)) (by rfl)
set_option maxRecDepth 100000 in
theorem ly_7_2 : u_lay RX7 TX7 2 ∈ BW := bw_in (List.mem_of_getElem? (i := 265) (by rfl)) (by rfl)
set_option maxRecDepth 100000 in
theorem ly_7_3 : u_lay RX7 TX7 3 ∈ BW := bw_in (List.mem_of_getElem? (i := 267) (by rfl)) (by rfl)
set_option maxRecDepth 100000 in
theorem inB7 : ∀ w ∈ u_ws RX7 TX7 4, w ∈ BW := (List.forall_mem_cons.mpr ⟨ly_7_0, (List.forall_mem_cons.mpr ⟨ly_7_1, (List.forall_mem_cons.mpr ⟨ly_7_2, (List.forall_mem_cons.mpr ⟨ly_7_3, (fun _ h => absurd h List.not_mem_nil)⟩)⟩)⟩)⟩)
set_option maxRecDepth 100000 in
theorem KX7 : KC 7 RX7 TX7 4 tyX7 := ⟨rfl, inB7, tyX7_ok, nmX7, by decide⟩
set_option maxRecDepth 100000 in
theorem ly_8_0 : u_lay RX8 TX8 0 ∈ BW := bw_in (List.mem_of_getElem? (i := 171) (by rfl)) (by rfl)
set_option maxRecDepth 100000 in
theorem ly_8_1 : u_lay RX8 TX8 1 ∈ BW := bw_in (List.mem_of_getElem? (i := 173) (by rfl)) (by rfl)
set_option maxRecDepth 100000 in
theorem inB8 : ∀ w ∈ u_ws RX8 TX8 2, w ∈ BW := (List.forall_mem_cons.mpr ⟨ly_8_0, (List.forall_mem_cons.mpr ⟨ly_8_1, (fun _ h => absurd h List.not_mem_nil)⟩)⟩)
set_option maxRecDepth 100000 in
theorem KX8 : KC 8 RX8 TX8 2 tyX8 := ⟨rfl, inB8, tyX8_ok, nmX8, by decide⟩
set_option maxRecDepth 100000 in
theorem ly_9_0 : u_lay RX9 TX9 0 ∈ BW := bw_in (List.mem_of_getElem? (i := 391) (by rfl)) (by rfl)
set_option maxRecDepth 100000 in
theorem ly_9_1 : u_lay RX9 TX9 1 ∈ BW := bw_in (List.mem_of_getElem? (i := 393) (by rfl)) (by rfl)
set_option maxRecDepth 100000 in
theorem ly_9_2 : u_lay RX9 TX9 2 ∈ BW := bw_in (List.mem_of_getElem? (i := 395) (by rfl)) (by rfl)
set_option maxRecDepth 100000 in
theorem ly_9_3 : u_lay RX9 TX9 3 ∈ BW := bw_in (List.mem_of_getElem? (i := 397) (by rfl)) (by rfl)
set_option maxRecDepth 100000 in
theorem ly_9_4 : u_lay RX9 TX9 4 ∈ BW := bw_in (List.mem_of_getElem? (i := 399) (by rfl)) (by rfl)
set_option maxRecDepth 100000 in
theorem ly_9_5 : u_lay RX9 TX9 5 ∈ BW := bw_in (List.mem_of_getElem? (i := 401) (by rfl)) (by rfl)
set_option maxRecDepth 100000 in
theorem ly_9_6 : u_lay RX9 TX9 6 ∈ BW := bw_in (List.mem_of_getElem? (i := 403) (by rfl)) (by rfl)
set_option maxRecDepth 100000 in
theorem ly_9_7 : u_lay RX9 TX9 7 ∈ BW := bw_in (List.mem_of_getElem? (i := 405) (by rfl)) (by rfl)
set_option maxRecDepth 100000 in
theorem ly_9_8 : u_lay RX9 TX9 8 ∈ BW := bw_in (List.mem_of_getElem? (i := 407) (by rfl)) (by rfl)
set_option maxRecDepth 100000 in
theorem ly_9_9 : u_lay RX9 TX9 9 ∈ BW := bw_in (List.mem_of_getElem? (i := 409) (by rfl)) (by rfl)
set_option maxRecDepth 100000 in
theorem ly_9_10 : u_lay RX9 TX9 10 ∈ BW := bw_in (List.mem_of_getElem? (i := 411) (by rfl)) (by rfl)
set_option maxRecDepth 100000 in
theorem ly_9_11 : u_lay RX9 TX9 11 ∈ BW := bw_in (List.mem_of_getElem? (i := 413) (by rfl)) (by rfl)
set_option maxRecDepth 100000 in
theorem ly_9_12 : u_lay RX9 TX9 12 ∈ BW := bw_in (List.mem_of_getElem? (i := 415) (by rfl)) (by rfl)
set_option maxRecDepth 100000 in
theorem ly_9_13 : u_lay RX9 TX9 13 ∈ BW := bw_in (List.mem_of_getElem? (i := 417) (by rfl)) (by rfl)
set_option maxRecDepth 100000 in
theorem ly_9_14 : u_lay RX9 TX9 14 ∈ BW := bw_in (List.mem_of_getElem? (i := 419) (by rfl)) (by rfl)
set_option maxRecDepth 100000 in
theorem ly_9_15 : u_lay RX9 TX9 15 ∈ BW := bw_in (List.mem_of_getElem? (i := 421) (by rfl)) (by rfl)
set_option maxRecDepth 100000 in
theorem ly_9_16 : u_lay RX9 TX9 16 ∈ BW := bw_in (List.mem_of_getElem? (i := 423) (by rfl)) (by rfl)
set_option maxRecDepth 100000 in
theorem ly_9_17 : u_lay RX9 TX9 17 ∈ BW := bw_in (List.mem_of_getElem? (i := 425) (by rfl)) (by rfl)
set_option maxRecDepth 100000 in
theorem inB9 : ∀ w ∈ u_ws RX9 TX9 18, w ∈ BW := (List.forall_mem_cons.mpr ⟨ly_9_0, (List.forall_mem_cons.mpr ⟨ly_9_1, (List.forall_mem_cons.mpr ⟨ly_9_2, (List.forall_mem_cons.mpr ⟨ly_9_3, (List.forall_mem_cons.mpr ⟨ly_9_4, (List.forall_mem_cons.mpr ⟨ly_9_5, (List.forall_mem_cons.mpr ⟨ly_9_6, (List.forall_mem_cons.mpr ⟨ly_9_7, (List.forall_mem_cons.mpr ⟨ly_9_8, (List.forall_mem_cons.mpr ⟨ly_9_9, (List.forall_mem_cons.mpr ⟨ly_9_10, (List.forall_mem_cons.mpr ⟨ly_9_11, (List.forall_mem_cons.mpr ⟨ly_9_12, (List.forall_mem_cons.mpr ⟨ly_9_13, (List.forall_mem_cons.mpr ⟨ly_9_14, (List.forall_mem_cons.mpr ⟨ly_9_15, (List.forall_mem_cons.mpr ⟨ly_9_16, (List.forall_mem_cons.mpr ⟨ly_9_17, (fun _ h => absurd h List.not_mem_nil)⟩)⟩)⟩)⟩)⟩)⟩)⟩)⟩)⟩)⟩)⟩)⟩)⟩)⟩)⟩)⟩)⟩)⟩)
set_option maxRecDepth 100000 in
theorem KX9 : KC 9 RX9 TX9 18 tyX9 := ⟨rfl, inB9, tyX9_ok, nmX9, by decide⟩
set_option maxRecDepth 100000 in
theorem ly_10_0 : u_lay RX10 TX10 0 ∈ BW := bw_in (List.mem_of_getElem? (i := 97) (by rfl)) (by rfl)
set_option maxRecDepth 100000 in
theorem ly_10_1 : u_lay RX10 TX10 1 ∈ BW := bw_in (List.mem_of_getElem? (i := 99) (by rfl)) (by rfl)
set_option maxRecDepth 100000 in
theorem ly_10_2 : u_lay RX10 TX10 2 ∈ BW := bw_in (List.mem_of_getElem? (i := 101) (by rfl)) (by rfl)
set_option maxRecDepth 100000 in
theorem ly_10_3 : u_lay RX10 TX10 3 ∈ BW := bw_in (List.mem_of_getElem? (i := 103) (by rfl)) (by rfl)
set_option maxRecDepth 100000 in
theorem ly_10_4 : u_lay RX10 TX10 4 ∈ BW := bw_in (List.mem_of_getElem? (i := 105) (by rfl)) (by rfl)
set_option maxRecDepth 100000 in
theorem inB10 : ∀ w ∈ u_ws RX10 TX10 5, w ∈ BW := (List.forall_mem_cons.mpr ⟨ly_10_0, (List.forall_mem_cons.mpr ⟨ly_10_1, (List.forall_mem_cons.mpr ⟨ly_10_2, (List.forall_mem_cons.mpr ⟨ly_10_3, (List.forall_mem_cons.mpr ⟨ly_10_4, (fun _ h => absurd h List.not_mem_nil)⟩)⟩)⟩)⟩)⟩)
set_option maxRecDepth 100000 in
theorem KX10 : KC 10 RX10 TX10 5 tyX10 := ⟨rfl, inB10, tyX10_ok, nmX10, by decide⟩
set_option maxRecDepth 100000 in
theorem ly_11_0 : u_lay RX11 TX11 0 ∈ BW := bw_in (List.mem_of_getElem? (i := 438) (by rfl)) (by rfl)
set_option maxRecDepth 100000 in
theorem ly_11_1 : u_lay RX11 TX11 1 ∈ BW := bw_in (List.mem_of_getElem? (i := 440) (by rfl)) (by rfl)
set_option maxRecDepth 100000 in
theorem ly_11_2 : u_lay RX11 TX11 2 ∈ BW := bw_in (List.mem_of_getElem? (i := 442) (by rfl)) (by rfl)
set_option maxRecDepth 100000 in
theorem ly_11_3 : u_lay RX11 TX11 3 ∈ BW := bw_in (List.mem_of_getElem? (i := 444) (by rfl)) (by rfl)
set_option maxRecDepth 100000 in
theorem ly_11_4 : u_lay RX11 TX11 4 ∈ BW := bw_in (List.mem_of_getElem? (i := 446) (by rfl)) (by rfl)
set_option maxRecDepth 100000 in
theorem ly_11_5 : u_lay RX11 TX11 5 ∈ BW := bw_in (List.mem_of_getElem? (i := 448) (by rfl)) (by rfl)
set_option maxRecDepth 100000 in
theorem ly_11_6 : u_lay RX11 TX11 6 ∈ BW := bw_in (List.mem_of_getElem? (i := 450) (by rfl)) (by rfl)
set_option maxRecDepth 100000 in
theorem ly_11_7 : u_lay RX11 TX11 7 ∈ BW := bw_in (List.mem_of_getElem? (i := 452) (by rfl)) (by rfl)
set_option maxRecDepth 100000 in
theorem ly_11_8 : u_lay RX11 TX11 8 ∈ BW := bw_in (List.mem_of_getElem? (i := 454) (by rfl)) (by rfl)
set_option maxRecDepth 100000 in
theorem ly_11_9 : u_lay RX11 TX11 9 ∈ BW := bw_in (List.mem_of_getElem? (i := 456) (by rfl)) (by rfl)
set_option maxRecDepth 100000 in
theorem inB11 : ∀ w ∈ u_ws RX11 TX11 10, w ∈ BW := (List.forall_mem_cons.mpr ⟨ly_11_0, (List.forall_mem_cons.mpr ⟨ly_11_1, (List.forall_mem_cons.mpr ⟨ly_11_2, (List.forall_mem_cons.mpr ⟨ly_11_3, (List.forall_mem_cons.mpr ⟨ly_11_4, (List.forall_mem_cons.mpr ⟨ly_11_5, (List.forall_mem_cons.mpr ⟨ly_11_6, (List.forall_mem_cons.mpr ⟨ly_11_7, (List.forall_mem_cons.mpr ⟨ly_11_8, (List.forall_mem_cons.mpr ⟨ly_11_9, (fun _ h => absurd h List.not_mem_nil)⟩)⟩)⟩)⟩)⟩)⟩)⟩)⟩)⟩)⟩)
set_option maxRecDepth 100000 in
theorem KX11 : KC 11 RX11 TX11 10 tyX11 := ⟨rfl, inB11, tyX11_ok, nmX11, by decide⟩
set_option maxRecDepth 100000 in
theorem ly_12_0 : u_lay RX12 TX12 0 ∈ BW := bw_in (List.mem_of_getElem? (i := 861) (by rfl)) (by rfl)
set_option maxRecDepth 100000 in
theorem ly_12_1 : u_lay RX12 TX12 1 ∈ BW := bw_in (List.mem_of_getElem? (i := 863) (by rfl)) (by rfl)
set_option maxRecDepth 100000 in
theorem ly_12_2 : u_lay RX12 TX12 2 ∈ BW := bw_in (List.mem_of_getElem? (i := 865) (by rfl)) (by rfl)
set_option maxRecDepth 100000 in
theorem ly_12_3 : u_lay RX12 TX12 3 ∈ BW := bw_in (List.mem_of_getElem? (i := 867) (by rfl)) (by rfl)
set_option maxRecDepth 100000 in
theorem ly_12_4 : u_lay RX12 TX12 4 ∈ BW := bw_in (List.mem_of_getElem? (i := 869) (by rfl)) (by rfl)
set_option maxRecDepth 100000 in
theorem ly_12_5 : u_lay RX12 TX12 5 ∈ BW := bw_in (List.mem_of_getElem? (i := 871) (by rfl)) (by rfl)
set_option maxRecDepth 100000 in
theorem ly_12_6 : u_lay RX12 TX12 6 ∈ BW := bw_in (List.mem_of_getElem? (i := 873) (by rfl)) (by rfl)
set_option maxRecDepth 100000 in
theorem ly_12_7 : u_lay RX12 TX12 7 ∈ BW := bw_in (List.mem_of_getElem? (i := 875) (by rfl)) (by rfl)
set_option maxRecDepth 100000 in
theorem ly_12_8 : u_lay RX12 TX12 8 ∈ BW := bw_in (List.mem_of_getElem? (i := 877) (by rfl)) (by rfl)
set_option maxRecDepth 100000 in
theorem ly_12_9 : u_lay RX12 TX12 9 ∈ BW := bw_in (List.mem_of_getElem? (i := 879) (by rfl)) (by rfl)
set_option maxRecDepth 100000 in
theorem ly_12_10 : u_lay RX12 TX12 10 ∈ BW := bw_in (List.mem_of_getElem? (i := 881) (by rfl)) (by rfl)
set_option maxRecDepth 100000 in
theorem ly_12_11 : u_lay RX12 TX12 11 ∈ BW := bw_in (List.mem_of_getElem? (i := 883) (by rfl)) (by rfl)
set_option maxRecDepth 100000 in
theorem ly_12_12 : u_lay RX12 TX12 12 ∈ BW := bw_in (List.mem_of_getElem? (i := 885) (by rfl)) (by rfl)
set_option maxRecDepth 100000 in
theorem ly_12_13 : u_lay RX12 TX12 13 ∈ BW := bw_in (List.mem_of_getElem? (i := 887) (by rfl)) (by rfl)
set_option maxRecDepth 100000 in
theorem ly_12_14 : u_lay RX12 TX12 14 ∈ BW := bw_in (List.mem_of_getElem? (i := 889) (by rfl)) (by rfl)
set_option maxRecDepth 100000 in
theorem ly_12_15 : u_lay RX12 TX12 15 ∈ BW := bw_in (List.mem_of_getElem? (i := 891) (by rfl)) (by rfl)
set_option maxRecDepth 100000 in
theorem ly_12_16 : u_lay RX12 TX12 16 ∈ BW := bw_in (List.mem_of_getElem? (i := 893) (by rfl)) (by rfl)
set_option maxRecDepth 100000 in
theorem ly_12_17 : u_lay RX12 TX12 17 ∈ BW := bw_in (List.mem_of_getElem? (i := 895) (by rfl)) (by rfl)
set_option maxRecDepth 100000 in
theorem ly_12_18 : u_lay RX12 TX12 18 ∈ BW := bw_in (List.mem_of_getElem? (i := 897) (by rfl)) (by rfl)
set_option maxRecDepth 100000 in
theorem ly_12_19 : u_lay RX12 TX12 19 ∈ BW := bw_in (List.mem_of_getElem? (i := 899) (by rfl)) (by rfl)
set_option maxRecDepth 100000 in
theorem ly_12_20 : u_lay RX12 TX12 20 ∈ BW := bw_in (List.mem_of_getElem? (i := 901) (by rfl)) (by rfl)
set_option maxRecDepth 100000 in
theorem ly_12_21 : u_lay RX12 TX12 21 ∈ BW := bw_in (List.mem_of_getElem? (i := 903) (by rfl)) (by rfl)
set_option maxRecDepth 100000 in
theorem ly_12_22 : u_lay RX12 TX12 22 ∈ BW := bw_in (List.mem_of_getElem? (i := 905) (by rfl)) (by rfl)
set_option maxRecDepth 100000 in
theorem ly_12_23 : u_lay RX12 TX12 23 ∈ BW := bw_in (List.mem_of_getElem? (i := 907) (by rfl)) (by rfl)
set_option maxRecDepth 100000 in
theorem ly_12_24 : u_lay RX12 TX12 24 ∈ BW := bw_in (List.mem_of_getElem? (i := 909) (by rfl)) (by rfl)
set_option maxRecDepth 100000 in
theorem ly_12_25 : u_lay RX12 TX12 25 ∈ BW := bw_in (List.mem_of_getElem? (i := 911) (by rfl)) (by rfl)
set_option maxRecDepth 100000 in
theorem ly_12_26 : u_lay RX12 TX12 26 ∈ BW := bw_in (List.mem_of_getElem? (i := 913) (by rfl)) (by rfl)
set_option maxRecDepth 100000 in
theorem inB12 : ∀ w ∈ u_ws RX12 TX12 27, w ∈ BW := (List.forall_mem_cons.mpr ⟨ly_12_0, (List.forall_mem_cons.mpr ⟨ly_12_1, (List.forall_mem_cons.mpr ⟨ly_12_2, (List.forall_mem_cons.mpr ⟨ly_12_3, (List.forall_mem_cons.mpr ⟨ly_12_4, (List.forall_mem_cons.mpr ⟨ly_12_5, (List.forall_mem_cons.mpr ⟨ly_12_6, (List.forall_mem_cons.mpr ⟨ly_12_7, (List.forall_mem_cons.mpr ⟨ly_12_8, (List.forall_mem_cons.mpr ⟨ly_12_9, (List.forall_mem_cons.mpr ⟨ly_12_10, (List.forall_mem_cons.mpr ⟨ly_12_11, (List.forall_mem_cons.mpr ⟨ly_12_12, (List.forall_mem_cons.mpr ⟨ly_12_13, (List.forall_mem_cons.mpr ⟨ly_12_14, (List.forall_mem_cons.mpr ⟨ly_12_15, (List.forall_mem_cons.mpr ⟨ly_12_16, (List.forall_mem_cons.mpr ⟨ly_12_17, (List.forall_mem_cons.mpr ⟨ly_12_18, (List.forall_mem_cons.mpr ⟨ly_12_19, (List.forall_mem_cons.mpr ⟨ly_12_20, (List.forall_mem_cons.mpr ⟨ly_12_21, (List.forall_mem_cons.mpr ⟨ly_12_22, (List.forall_mem_cons.mpr ⟨ly_12_23, (List.forall_mem_cons.mpr ⟨ly_12_24, (List.forall_mem_cons.mpr ⟨ly_12_25, (List.forall_mem_cons.mpr ⟨ly_12_26, (fun _ h => absurd h List.not_mem_nil)⟩)⟩)⟩)⟩)⟩)⟩)⟩)⟩)⟩)⟩)⟩)⟩)⟩)⟩)⟩)⟩)⟩)⟩)⟩)⟩)⟩)⟩)⟩)⟩)⟩)⟩)⟩)
set_option maxRecDepth 100000 in
theorem KX12 : KC 12 RX12 TX12 27 tyX12 := ⟨rfl, inB12, tyX12_ok, nmX12, by decide⟩
set_option maxRecDepth 100000 in
theorem ly_13_0 : u_lay RX13 TX13 0 ∈ BW := bw_in (List.mem_of_getElem? (i := 923) (by rfl)) (by rfl)
set_option maxRecDepth 100000 in
theorem inB13 : ∀ w ∈ u_ws RX13 TX13 1, w ∈ BW := (List.forall_mem_cons.mpr ⟨ly_13_0, (fun _ h => absurd h List.not_mem_nil)⟩)
set_option maxRecDepth 100000 in
theorem KX13 : KC 13 RX13 TX13 1 tyX13 := ⟨rfl, inB13, tyX13_ok, nmX13, by decide⟩
set_option maxRecDepth 100000 in
theorem fl_RX11_10 : Cond.fieldLink RX11 10 "BlastPlanner" "parser" "LBlastPlanner$Parser;" ∈ BW := bw_in (List.mem_of_getElem? (i := 428) (by rfl)) (by rfl)
set_option maxRecDepth 100000 in
theorem fl_RX11_68 : Cond.fieldLink RX11 68 "BlastPlanner$Parser" "tokens" "LBlastPlanner$Tokens;" ∈ BW := bw_in (List.mem_of_getElem? (i := 110) (by rfl)) (by rfl)
set_option maxRecDepth 100000 in
theorem fl_RX11_82 : Cond.fieldLink RX11 82 "BlastPlanner$Tokens" "length" "I" ∈ BW := bw_in (List.mem_of_getElem? (i := 91) (by rfl)) (by rfl)
set_option maxRecDepth 100000 in
theorem fl_RX11_112 : Cond.fieldLink RX11 112 "BlastPlanner$Tokens" "wrongKind" "I" ∈ BW := bw_in (List.mem_of_getElem? (i := 96) (by rfl)) (by rfl)
set_option maxRecDepth 100000 in
theorem cl_RX11_356 : Cond.classLink RX11 356 "java/lang/IndexOutOfBoundsException" ∈ BW := bw_in (List.mem_of_getElem? (i := 1139) (by rfl)) (by rfl)
set_option maxRecDepth 100000 in
theorem ni_ex0 : Cond.initialized "java/lang/IndexOutOfBoundsException" ∈ BW := bw_in (List.mem_of_getElem? (i := 67) (by rfl)) (by rfl)
set_option maxRecDepth 100000 in
theorem fl_RX11_61 : Cond.fieldLink RX11 61 "BlastPlanner" "site" "LBlastPlanner$Site;" ∈ BW := bw_in (List.mem_of_getElem? (i := 436) (by rfl)) (by rfl)
set_option maxRecDepth 100000 in
theorem fl_RX11_106 : Cond.fieldLink RX11 106 "BlastPlanner$Site" "blastTotal" "I" ∈ BW := bw_in (List.mem_of_getElem? (i := 376) (by rfl)) (by rfl)
set_option maxRecDepth 100000 in
theorem cd_X11_needBlast : Cond.code yX11_needBlast cX11_needBlast 2 none ∈ BW := bw_in (List.mem_of_getElem? (i := 1138) (by rfl)) (by rfl)
set_option maxRecDepth 100000 in
theorem ni_RX11 : Cond.initialized RX11 ∈ BW := bw_in (List.mem_of_getElem? (i := 38) (by rfl)) (by rfl)
set_option maxRecDepth 100000 in
theorem ml_RX11_225 : Cond.methodLink RX11 225 yX11_needBlast ∈ BW := bw_in (List.mem_of_getElem? (i := 1135) (by rfl)) (by rfl)
set_option maxRecDepth 100000 in
theorem in_X11_needBlast : Cond.instanceMethod yX11_needBlast ∈ BW := bw_in (List.mem_of_getElem? (i := 1137) (by rfl)) (by rfl)
set_option maxRecDepth 100000 in
theorem sl_X11_needBlast : Cond.selects RX11 yX11_needBlast yX11_needBlast ∈ BW := bw_in (List.mem_of_getElem? (i := 19) (by rfl)) (by rfl)
set_option maxRecDepth 100000 in
theorem fl_RX11_361 : Cond.fieldLink RX11 361 "BlastPlanner$Site" "blasts" "[LBlastPlanner$Blast;" ∈ BW := bw_in (List.mem_of_getElem? (i := 349) (by rfl)) (by rfl)
set_option maxRecDepth 100000 in
theorem fl_RX11_115 : Cond.fieldLink RX11 115 "BlastPlanner$Site" "neighbourTotal" "I" ∈ BW := bw_in (List.mem_of_getElem? (i := 367) (by rfl)) (by rfl)
set_option maxRecDepth 100000 in
theorem fl_RX11_367 : Cond.fieldLink RX11 367 "BlastPlanner$Site" "neighbours" "[LBlastPlanner$Neighbour;" ∈ BW := bw_in (List.mem_of_getElem? (i := 341) (by rfl)) (by rfl)
set_option maxRecDepth 100000 in
theorem fl_RX11_118 : Cond.fieldLink RX11 118 "BlastPlanner$Site" "roadTotal" "I" ∈ BW := bw_in (List.mem_of_getElem? (i := 371) (by rfl)) (by rfl)
set_option maxRecDepth 100000 in
theorem fl_RX11_373 : Cond.fieldLink RX11 373 "BlastPlanner$Site" "roads" "[LBlastPlanner$Road;" ∈ BW := bw_in (List.mem_of_getElem? (i := 344) (by rfl)) (by rfl)
set_option maxRecDepth 100000 in
theorem cl_RX11_90 : Cond.classLink RX11 90 "java/lang/IllegalArgumentException" ∈ BW := bw_in (List.mem_of_getElem? (i := 1066) (by rfl)) (by rfl)
set_option maxRecDepth 100000 in
theorem ni_ex1 : Cond.initialized "java/lang/IllegalArgumentException" ∈ BW := bw_in (List.mem_of_getElem? (i := 66) (by rfl)) (by rfl)
set_option maxRecDepth 100000 in
theorem fl_RX0_24 : Cond.fieldLink RX0 24 "BlastPlanner$Blast" "charges" "I" ∈ BW := bw_in (List.mem_of_getElem? (i := 291) (by rfl)) (by rfl)
set_option maxRecDepth 100000 in
theorem fl_RX0_9 : Cond.fieldLink RX0 9 "BlastPlanner$Blast" "sizes" "[I" ∈ BW := bw_in (List.mem_of_getElem? (i := 275) (by rfl)) (by rfl)
set_option maxRecDepth 100000 in
theorem fl_RX0_15 : Cond.fieldLink RX0 15 "BlastPlanner$Blast" "delays" "[I" ∈ BW := bw_in (List.mem_of_getElem? (i := 276) (by rfl)) (by rfl)
set_option maxRecDepth 100000 in
theorem fl_RX0_37 : Cond.fieldLink RX0 37 "BlastPlanner$Blast" "windowSum" "I" ∈ BW := bw_in (List.mem_of_getElem? (i := 293) (by rfl)) (by rfl)
set_option maxRecDepth 100000 in
theorem fl_RX0_40 : Cond.fieldLink RX0 40 "BlastPlanner$Blast" "windowFirst" "I" ∈ BW := bw_in (List.mem_of_getElem? (i := 296) (by rfl)) (by rfl)
set_option maxRecDepth 100000 in
theorem cd_X0_sumFromDelay : Cond.code yX0_sumFromDelay cX0_sumFromDelay 4 (some .int) ∈ BW := bw_in (List.mem_of_getElem? (i := 1111) (by rfl)) (by rfl)
set_option maxRecDepth 100000 in
theorem ni_RX0 : Cond.initialized RX0 ∈ BW := bw_in (List.mem_of_getElem? (i := 49) (by rfl)) (by rfl)
set_option maxRecDepth 100000 in
theorem ml_RX0_43 : Cond.methodLink RX0 43 yX0_sumFromDelay ∈ BW := bw_in (List.mem_of_getElem? (i := 1108) (by rfl)) (by rfl)
set_option maxRecDepth 100000 in
theorem in_X0_sumFromDelay : Cond.instanceMethod yX0_sumFromDelay ∈ BW := bw_in (List.mem_of_getElem? (i := 1109) (by rfl)) (by rfl)
set_option maxRecDepth 100000 in
theorem sl_X0_sumFromDelay : Cond.selects RX0 yX0_sumFromDelay yX0_sumFromDelay ∈ BW := bw_in (List.mem_of_getElem? (i := 1110) (by rfl)) (by rfl)
set_option maxRecDepth 100000 in
theorem fl_RX0_18 : Cond.fieldLink RX0 18 "BlastPlanner$Blast" "squaredDistances" "[I" ∈ BW := bw_in (List.mem_of_getElem? (i := 278) (by rfl)) (by rfl)
set_option maxRecDepth 100000 in
theorem mn_RX0_47 : Cond.methodLinkNest RX0 47 yX11_quotient "BlastPlanner" ∈ BW := bw_in (List.mem_of_getElem? (i := 1116) (by rfl)) (by rfl)
set_option maxRecDepth 100000 in
theorem cd_X11_quotient : Cond.code yX11_quotient cX11_quotient 2 (some .int) ∈ BW := bw_in (List.mem_of_getElem? (i := 1118) (by rfl)) (by rfl)
set_option maxRecDepth 100000 in
theorem st_X11_quotient : Cond.static yX11_quotient ∈ BW := bw_in (List.mem_of_getElem? (i := 1117) (by rfl)) (by rfl)
set_option maxRecDepth 100000 in
theorem fl_RX0_50 : Cond.fieldLink RX0 50 "BlastPlanner$Blast" "closedRoads" "I" ∈ BW := bw_in (List.mem_of_getElem? (i := 300) (by rfl)) (by rfl)
set_option maxRecDepth 100000 in
theorem fl_RX2_16 : Cond.fieldLink RX2 16 "BlastPlanner$History" "depth" "I" ∈ BW := bw_in (List.mem_of_getElem? (i := 124) (by rfl)) (by rfl)
set_option maxRecDepth 100000 in
theorem fl_RX4_18 : Cond.fieldLink RX4 18 "BlastPlanner$Neighbour" "windows" "I" ∈ BW := bw_in (List.mem_of_getElem? (i := 233) (by rfl)) (by rfl)
set_option maxRecDepth 100000 in
theorem fl_RX4_9 : Cond.fieldLink RX4 9 "BlastPlanner$Neighbour" "quietFirst" "[I" ∈ BW := bw_in (List.mem_of_getElem? (i := 224) (by rfl)) (by rfl)
set_option maxRecDepth 100000 in
theorem fl_RX4_15 : Cond.fieldLink RX4 15 "BlastPlanner$Neighbour" "quietEnd" "[I" ∈ BW := bw_in (List.mem_of_getElem? (i := 225) (by rfl)) (by rfl)
set_option maxRecDepth 100000 in
theorem fl_RX5_12 : Cond.fieldLink RX5 12 "BlastPlanner$Parser" "tokens" "LBlastPlanner$Tokens;" ∈ BW := bw_in (List.mem_of_getElem? (i := 109) (by rfl)) (by rfl)
set_option maxRecDepth 100000 in
theorem fl_RX5_44 : Cond.fieldLink RX5 44 "BlastPlanner$Tokens" "position" "I" ∈ BW := bw_in (List.mem_of_getElem? (i := 92) (by rfl)) (by rfl)
set_option maxRecDepth 100000 in
theorem fl_RX5_112 : Cond.fieldLink RX5 112 "BlastPlanner$Site" "neighbourTotal" "I" ∈ BW := bw_in (List.mem_of_getElem? (i := 366) (by rfl)) (by rfl)
set_option maxRecDepth 100000 in
theorem fl_RX5_119 : Cond.fieldLink RX5 119 "BlastPlanner$Site" "neighbours" "[LBlastPlanner$Neighbour;" ∈ BW := bw_in (List.mem_of_getElem? (i := 340) (by rfl)) (by rfl)
set_option maxRecDepth 100000 in
theorem fl_RX5_123 : Cond.fieldLink RX5 123 "BlastPlanner$Site" "neighbourNames" "[I" ∈ BW := bw_in (List.mem_of_getElem? (i := 351) (by rfl)) (by rfl)
set_option maxRecDepth 100000 in
theorem fl_RX5_142 : Cond.fieldLink RX5 142 "BlastPlanner$Neighbour" "windows" "I" ∈ BW := bw_in (List.mem_of_getElem? (i := 234) (by rfl)) (by rfl)
set_option maxRecDepth 100000 in
theorem fl_RX5_157 : Cond.fieldLink RX5 157 "BlastPlanner$Site" "roadTotal" "I" ∈ BW := bw_in (List.mem_of_getElem? (i := 370) (by rfl)) (by rfl)
set_option maxRecDepth 100000 in
theorem fl_RX5_160 : Cond.fieldLink RX5 160 "BlastPlanner$Site" "roads" "[LBlastPlanner$Road;" ∈ BW := bw_in (List.mem_of_getElem? (i := 343) (by rfl)) (by rfl)
set_option maxRecDepth 100000 in
theorem fl_RX5_164 : Cond.fieldLink RX5 164 "BlastPlanner$Site" "roadNames" "[I" ∈ BW := bw_in (List.mem_of_getElem? (i := 353) (by rfl)) (by rfl)
set_option maxRecDepth 100000 in
theorem fl_RX5_181 : Cond.fieldLink RX5 181 "BlastPlanner$Site" "blastTotal" "I" ∈ BW := bw_in (List.mem_of_getElem? (i := 377) (by rfl)) (by rfl)
set_option maxRecDepth 100000 in
theorem fl_RX5_184 : Cond.fieldLink RX5 184 "BlastPlanner$Site" "blasts" "[LBlastPlanner$Blast;" ∈ BW := bw_in (List.mem_of_getElem? (i := 348) (by rfl)) (by rfl)
set_option maxRecDepth 100000 in
theorem fl_RX5_188 : Cond.fieldLink RX5 188 "BlastPlanner$Site" "blastNames" "[I" ∈ BW := bw_in (List.mem_of_getElem? (i := 355) (by rfl)) (by rfl)
set_option maxRecDepth 100000 in
theorem fl_RX5_202 : Cond.fieldLink RX5 202 "BlastPlanner$Blast" "charges" "I" ∈ BW := bw_in (List.mem_of_getElem? (i := 292) (by rfl)) (by rfl)
set_option maxRecDepth 100000 in
theorem fl_RX6_21 : Cond.fieldLink RX6 21 "BlastPlanner$PlanSearch" "known" "Z" ∈ BW := bw_in (List.mem_of_getElem? (i := 146) (by rfl)) (by rfl)
set_option maxRecDepth 100000 in
theorem fl_RX7_7 : Cond.fieldLink RX7 7 "BlastPlanner$Road" "x2" "I" ∈ BW := bw_in (List.mem_of_getElem? (i := 257) (by rfl)) (by rfl)
set_option maxRecDepth 100000 in
theorem fl_RX7_13 : Cond.fieldLink RX7 13 "BlastPlanner$Road" "x1" "I" ∈ BW := bw_in (List.mem_of_getElem? (i := 253) (by rfl)) (by rfl)
set_option maxRecDepth 100000 in
theorem fl_RX7_16 : Cond.fieldLink RX7 16 "BlastPlanner$Road" "y2" "I" ∈ BW := bw_in (List.mem_of_getElem? (i := 259) (by rfl)) (by rfl)
set_option maxRecDepth 100000 in
theorem fl_RX7_19 : Cond.fieldLink RX7 19 "BlastPlanner$Road" "y1" "I" ∈ BW := bw_in (List.mem_of_getElem? (i := 255) (by rfl)) (by rfl)
set_option maxRecDepth 100000 in
theorem mn_RX7_22 : Cond.methodLinkNest RX7 22 yX11_squareSum "BlastPlanner" ∈ BW := bw_in (List.mem_of_getElem? (i := 1088) (by rfl)) (by rfl)
set_option maxRecDepth 100000 in
theorem cd_X11_squareSum : Cond.code yX11_squareSum cX11_squareSum 2 (some .int) ∈ BW := bw_in (List.mem_of_getElem? (i := 1079) (by rfl)) (by rfl)
set_option maxRecDepth 100000 in
theorem st_X11_squareSum : Cond.static yX11_squareSum ∈ BW := bw_in (List.mem_of_getElem? (i := 1078) (by rfl)) (by rfl)
set_option maxRecDepth 100000 in
theorem fl_RX9_54 : Cond.fieldLink RX9 54 "BlastPlanner$Site" "neighbourTotal" "I" ∈ BW := bw_in (List.mem_of_getElem? (i := 365) (by rfl)) (by rfl)
set_option maxRecDepth 100000 in
theorem fl_RX9_58 : Cond.fieldLink RX9 58 "BlastPlanner$Site" "roadTotal" "I" ∈ BW := bw_in (List.mem_of_getElem? (i := 368) (by rfl)) (by rfl)
set_option maxRecDepth 100000 in
theorem fl_RX9_61 : Cond.fieldLink RX9 61 "BlastPlanner$Site" "blastTotal" "I" ∈ BW := bw_in (List.mem_of_getElem? (i := 373) (by rfl)) (by rfl)
set_option maxRecDepth 100000 in
theorem fl_RX9_64 : Cond.fieldLink RX9 64 "BlastPlanner$Site" "dayFirst" "I" ∈ BW := bw_in (List.mem_of_getElem? (i := 378) (by rfl)) (by rfl)
set_option maxRecDepth 100000 in
theorem fl_RX9_67 : Cond.fieldLink RX9 67 "BlastPlanner$Site" "dayLast" "I" ∈ BW := bw_in (List.mem_of_getElem? (i := 380) (by rfl)) (by rfl)
set_option maxRecDepth 100000 in
theorem fl_RX9_70 : Cond.fieldLink RX9 70 "BlastPlanner$Site" "step" "I" ∈ BW := bw_in (List.mem_of_getElem? (i := 382) (by rfl)) (by rfl)
set_option maxRecDepth 100000 in
theorem fl_RX9_73 : Cond.fieldLink RX9 73 "BlastPlanner$Site" "before" "I" ∈ BW := bw_in (List.mem_of_getElem? (i := 384) (by rfl)) (by rfl)
set_option maxRecDepth 100000 in
theorem fl_RX9_76 : Cond.fieldLink RX9 76 "BlastPlanner$Site" "after" "I" ∈ BW := bw_in (List.mem_of_getElem? (i := 386) (by rfl)) (by rfl)
set_option maxRecDepth 100000 in
theorem fl_RX9_79 : Cond.fieldLink RX9 79 "BlastPlanner$Site" "spacing" "I" ∈ BW := bw_in (List.mem_of_getElem? (i := 389) (by rfl)) (by rfl)
set_option maxRecDepth 100000 in
theorem fl_RX9_39 : Cond.fieldLink RX9 39 "BlastPlanner$Site" "times" "[I" ∈ BW := bw_in (List.mem_of_getElem? (i := 356) (by rfl)) (by rfl)
set_option maxRecDepth 100000 in
theorem fl_RX9_42 : Cond.fieldLink RX9 42 "BlastPlanner$Site" "windDirections" "[I" ∈ BW := bw_in (List.mem_of_getElem? (i := 361) (by rfl)) (by rfl)
set_option maxRecDepth 100000 in
theorem fl_RX9_45 : Cond.fieldLink RX9 45 "BlastPlanner$Site" "windSpeeds" "[I" ∈ BW := bw_in (List.mem_of_getElem? (i := 363) (by rfl)) (by rfl)
set_option maxRecDepth 100000 in
theorem fl_RX9_25 : Cond.fieldLink RX9 25 "BlastPlanner$Site" "blasts" "[LBlastPlanner$Blast;" ∈ BW := bw_in (List.mem_of_getElem? (i := 345) (by rfl)) (by rfl)
set_option maxRecDepth 100000 in
theorem fl_RX9_99 : Cond.fieldLink RX9 99 "BlastPlanner$Blast" "radius" "I" ∈ BW := bw_in (List.mem_of_getElem? (i := 289) (by rfl)) (by rfl)
set_option maxRecDepth 100000 in
theorem fl_RX9_102 : Cond.fieldLink RX9 102 "BlastPlanner$Blast" "heardBy" "I" ∈ BW := bw_in (List.mem_of_getElem? (i := 301) (by rfl)) (by rfl)
set_option maxRecDepth 100000 in
theorem fl_RX9_11 : Cond.fieldLink RX9 11 "BlastPlanner$Site" "neighbours" "[LBlastPlanner$Neighbour;" ∈ BW := bw_in (List.mem_of_getElem? (i := 339) (by rfl)) (by rfl)
set_option maxRecDepth 100000 in
theorem fl_RX9_105 : Cond.fieldLink RX9 105 "BlastPlanner$Neighbour" "x" "I" ∈ BW := bw_in (List.mem_of_getElem? (i := 226) (by rfl)) (by rfl)
set_option maxRecDepth 100000 in
theorem fl_RX9_108 : Cond.fieldLink RX9 108 "BlastPlanner$Blast" "x" "I" ∈ BW := bw_in (List.mem_of_getElem? (i := 283) (by rfl)) (by rfl)
set_option maxRecDepth 100000 in
theorem fl_RX9_109 : Cond.fieldLink RX9 109 "BlastPlanner$Neighbour" "y" "I" ∈ BW := bw_in (List.mem_of_getElem? (i := 228) (by rfl)) (by rfl)
set_option maxRecDepth 100000 in
theorem fl_RX9_112 : Cond.fieldLink RX9 112 "BlastPlanner$Blast" "y" "I" ∈ BW := bw_in (List.mem_of_getElem? (i := 286) (by rfl)) (by rfl)
set_option maxRecDepth 100000 in
theorem mn_RX9_113 : Cond.methodLinkNest RX9 113 yX11_squareSum "BlastPlanner" ∈ BW := bw_in (List.mem_of_getElem? (i := 1077) (by rfl)) (by rfl)
set_option maxRecDepth 100000 in
theorem fl_RX9_117 : Cond.fieldLink RX9 117 "BlastPlanner$Blast" "squaredDistances" "[I" ∈ BW := bw_in (List.mem_of_getElem? (i := 279) (by rfl)) (by rfl)
set_option maxRecDepth 100000 in
theorem fl_RX9_120 : Cond.fieldLink RX9 120 "BlastPlanner$Blast" "closedRoads" "I" ∈ BW := bw_in (List.mem_of_getElem? (i := 299) (by rfl)) (by rfl)
set_option maxRecDepth 100000 in
theorem fl_RX9_19 : Cond.fieldLink RX9 19 "BlastPlanner$Site" "roads" "[LBlastPlanner$Road;" ∈ BW := bw_in (List.mem_of_getElem? (i := 342) (by rfl)) (by rfl)
set_option maxRecDepth 100000 in
theorem cd_X7_comesWithin : Cond.code yX7_comesWithin cX7_comesWithin 11 (some .boolean) ∈ BW := bw_in (List.mem_of_getElem? (i := 1087) (by rfl)) (by rfl)
set_option maxRecDepth 100000 in
theorem ni_RX7 : Cond.initialized RX7 ∈ BW := bw_in (List.mem_of_getElem? (i := 48) (by rfl)) (by rfl)
set_option maxRecDepth 100000 in
theorem ml_RX9_123 : Cond.methodLink RX9 123 yX7_comesWithin ∈ BW := bw_in (List.mem_of_getElem? (i := 1084) (by rfl)) (by rfl)
set_option maxRecDepth 100000 in
theorem in_X7_comesWithin : Cond.instanceMethod yX7_comesWithin ∈ BW := bw_in (List.mem_of_getElem? (i := 1085) (by rfl)) (by rfl)
set_option maxRecDepth 100000 in
theorem sl_X7_comesWithin : Cond.selects RX7 yX7_comesWithin yX7_comesWithin ∈ BW := bw_in (List.mem_of_getElem? (i := 1086) (by rfl)) (by rfl)
set_option maxRecDepth 100000 in
theorem fl_RX9_127 : Cond.fieldLink RX9 127 "BlastPlanner$Site" "WIND_X" "[I" ∈ BW := bw_in (List.mem_of_getElem? (i := 1093) (by rfl)) (by rfl)
set_option maxRecDepth 100000 in
theorem fl_RX9_130 : Cond.fieldLink RX9 130 "BlastPlanner$Site" "WIND_Y" "[I" ∈ BW := bw_in (List.mem_of_getElem? (i := 1095) (by rfl)) (by rfl)
set_option maxRecDepth 100000 in
theorem ml_RX9_133 : Cond.methodLink RX9 133 Lib.Math.abs.name ∈ BW := bw_in (List.mem_of_getElem? (i := 1097) (by rfl)) (by rfl)
set_option maxRecDepth 100000 in
theorem st_math_abs : Cond.static Lib.Math.abs.name ∈ BW := bw_in (List.mem_of_getElem? (i := 1098) (by rfl)) (by rfl)
set_option maxRecDepth 100000 in
theorem ni_math : Cond.initialized "java/lang/Math" ∈ BW := bw_in (List.mem_of_getElem? (i := 56) (by rfl)) (by rfl)
set_option maxRecDepth 100000 in
theorem cd_math_abs : Cond.code Lib.Math.abs.name Lib.Math.abs.code 1 (some .int) ∈ BW := bw_in (List.mem_of_getElem? (i := 1099) (by rfl)) (by rfl)
set_option maxRecDepth 100000 in
theorem cd_X0_measureWindow : Cond.code yX0_measureWindow cX0_measureWindow 3 none ∈ BW := bw_in (List.mem_of_getElem? (i := 1107) (by rfl)) (by rfl)
set_option maxRecDepth 100000 in
theorem ml_RX9_139 : Cond.methodLink RX9 139 yX0_measureWindow ∈ BW := bw_in (List.mem_of_getElem? (i := 1104) (by rfl)) (by rfl)
set_option maxRecDepth 100000 in
theorem in_X0_measureWindow : Cond.instanceMethod yX0_measureWindow ∈ BW := bw_in (List.mem_of_getElem? (i := 1105) (by rfl)) (by rfl)
set_option maxRecDepth 100000 in
theorem sl_X0_measureWindow : Cond.selects RX0 yX0_measureWindow yX0_measureWindow ∈ BW := bw_in (List.mem_of_getElem? (i := 1106) (by rfl)) (by rfl)
set_option maxRecDepth 100000 in
theorem fl_RX9_142 : Cond.fieldLink RX9 142 "BlastPlanner$Blast" "tooStrong" "I" ∈ BW := bw_in (List.mem_of_getElem? (i := 298) (by rfl)) (by rfl)
set_option maxRecDepth 100000 in
theorem fl_RX9_145 : Cond.fieldLink RX9 145 "BlastPlanner$Blast" "windowSum" "I" ∈ BW := bw_in (List.mem_of_getElem? (i := 294) (by rfl)) (by rfl)
set_option maxRecDepth 100000 in
theorem cd_X0_shakes : Cond.code yX0_shakes cX0_shakes 3 (some .int) ∈ BW := bw_in (List.mem_of_getElem? (i := 1115) (by rfl)) (by rfl)
set_option maxRecDepth 100000 in
theorem ml_RX9_148 : Cond.methodLink RX9 148 yX0_shakes ∈ BW := bw_in (List.mem_of_getElem? (i := 1112) (by rfl)) (by rfl)
set_option maxRecDepth 100000 in
theorem in_X0_shakes : Cond.instanceMethod yX0_shakes ∈ BW := bw_in (List.mem_of_getElem? (i := 1113) (by rfl)) (by rfl)
set_option maxRecDepth 100000 in
theorem sl_X0_shakes : Cond.selects RX0 yX0_shakes yX0_shakes ∈ BW := bw_in (List.mem_of_getElem? (i := 1114) (by rfl)) (by rfl)
set_option maxRecDepth 100000 in
theorem fl_RX9_151 : Cond.fieldLink RX9 151 "BlastPlanner$Neighbour" "limit" "I" ∈ BW := bw_in (List.mem_of_getElem? (i := 231) (by rfl)) (by rfl)
set_option maxRecDepth 100000 in
theorem cd_X4_quietAt : Cond.code yX4_quietAt cX4_quietAt 3 (some .boolean) ∈ BW := bw_in (List.mem_of_getElem? (i := 1189) (by rfl)) (by rfl)
set_option maxRecDepth 100000 in
theorem ni_RX4 : Cond.initialized RX4 ∈ BW := bw_in (List.mem_of_getElem? (i := 47) (by rfl)) (by rfl)
set_option maxRecDepth 100000 in
theorem ml_RX9_165 : Cond.methodLink RX9 165 yX4_quietAt ∈ BW := bw_in (List.mem_of_getElem? (i := 1215) (by rfl)) (by rfl)
set_option maxRecDepth 100000 in
theorem in_X4_quietAt : Cond.instanceMethod yX4_quietAt ∈ BW := bw_in (List.mem_of_getElem? (i := 1187) (by rfl)) (by rfl)
set_option maxRecDepth 100000 in
theorem sl_X4_quietAt : Cond.selects RX4 yX4_quietAt yX4_quietAt ∈ BW := bw_in (List.mem_of_getElem? (i := 1188) (by rfl)) (by rfl)
set_option maxRecDepth 100000 in
theorem fl_RX10_19 : Cond.fieldLink RX10 19 "BlastPlanner$Tokens" "length" "I" ∈ BW := bw_in (List.mem_of_getElem? (i := 90) (by rfl)) (by rfl)
set_option maxRecDepth 100000 in
theorem fl_RX10_9 : Cond.fieldLink RX10 9 "BlastPlanner$Tokens" "bytes" "[B" ∈ BW := bw_in (List.mem_of_getElem? (i := 89) (by rfl)) (by rfl)
set_option maxRecDepth 100000 in
theorem fl_RX10_22 : Cond.fieldLink RX10 22 "BlastPlanner$Tokens" "position" "I" ∈ BW := bw_in (List.mem_of_getElem? (i := 93) (by rfl)) (by rfl)
set_option maxRecDepth 100000 in
theorem fl_RX10_15 : Cond.fieldLink RX10 15 "BlastPlanner$Tokens" "wrongOffset" "I" ∈ BW := bw_in (List.mem_of_getElem? (i := 94) (by rfl)) (by rfl)
set_option maxRecDepth 100000 in
theorem fl_RX10_25 : Cond.fieldLink RX10 25 "BlastPlanner$Tokens" "wrongKind" "I" ∈ BW := bw_in (List.mem_of_getElem? (i := 95) (by rfl)) (by rfl)
set_option maxRecDepth 100000 in
theorem cd_X10_skipSpaces : Cond.code yX10_skipSpaces cX10_skipSpaces 1 none ∈ BW := bw_in (List.mem_of_getElem? (i := 956) (by rfl)) (by rfl)
set_option maxRecDepth 100000 in
theorem ni_RX10 : Cond.initialized RX10 ∈ BW := bw_in (List.mem_of_getElem? (i := 40) (by rfl)) (by rfl)
set_option maxRecDepth 100000 in
theorem ml_RX10_28 : Cond.methodLink RX10 28 yX10_skipSpaces ∈ BW := bw_in (List.mem_of_getElem? (i := 953) (by rfl)) (by rfl)
set_option maxRecDepth 100000 in
theorem in_X10_skipSpaces : Cond.instanceMethod yX10_skipSpaces ∈ BW := bw_in (List.mem_of_getElem? (i := 955) (by rfl)) (by rfl)
set_option maxRecDepth 100000 in
theorem sl_X10_skipSpaces : Cond.selects RX10 yX10_skipSpaces yX10_skipSpaces ∈ BW := bw_in (List.mem_of_getElem? (i := 3) (by rfl)) (by rfl)
set_option maxRecDepth 100000 in
theorem cd_X10_endOfRun : Cond.code yX10_endOfRun cX10_endOfRun 4 (some .int) ∈ BW := bw_in (List.mem_of_getElem? (i := 969) (by rfl)) (by rfl)
set_option maxRecDepth 100000 in
theorem ml_RX10_31 : Cond.methodLink RX10 31 yX10_endOfRun ∈ BW := bw_in (List.mem_of_getElem? (i := 966) (by rfl)) (by rfl)
set_option maxRecDepth 100000 in
theorem in_X10_endOfRun : Cond.instanceMethod yX10_endOfRun ∈ BW := bw_in (List.mem_of_getElem? (i := 968) (by rfl)) (by rfl)
set_option maxRecDepth 100000 in
theorem sl_X10_endOfRun : Cond.selects RX10 yX10_endOfRun yX10_endOfRun ∈ BW := bw_in (List.mem_of_getElem? (i := 5) (by rfl)) (by rfl)
set_option maxRecDepth 100000 in
theorem cd_X10_fail : Cond.code yX10_fail cX10_fail 3 none ∈ BW := bw_in (List.mem_of_getElem? (i := 993) (by rfl)) (by rfl)
set_option maxRecDepth 100000 in
theorem ml_RX10_35 : Cond.methodLink RX10 35 yX10_fail ∈ BW := bw_in (List.mem_of_getElem? (i := 998) (by rfl)) (by rfl)
set_option maxRecDepth 100000 in
theorem in_X10_fail : Cond.instanceMethod yX10_fail ∈ BW := bw_in (List.mem_of_getElem? (i := 991) (by rfl)) (by rfl)
set_option maxRecDepth 100000 in
theorem sl_X10_fail : Cond.selects RX10 yX10_fail yX10_fail ∈ BW := bw_in (List.mem_of_getElem? (i := 992) (by rfl)) (by rfl)
set_option maxRecDepth 100000 in
theorem ml_RX10_39 : Cond.methodLink RX10 39 yJ0_length_8abf5 ∈ BW := bw_in (List.mem_of_getElem? (i := 970) (by rfl)) (by rfl)
set_option maxRecDepth 100000 in
theorem ml_RX10_44 : Cond.methodLink RX10 44 yJ0_charAt_5068e ∈ BW := bw_in (List.mem_of_getElem? (i := 971) (by rfl)) (by rfl)
set_option maxRecDepth 100000 in
theorem cd_X10_failed : Cond.code yX10_failed cX10_failed 1 (some .boolean) ∈ BW := bw_in (List.mem_of_getElem? (i := 948) (by rfl)) (by rfl)
set_option maxRecDepth 100000 in
theorem ml_RX10_52 : Cond.methodLink RX10 52 yX10_failed ∈ BW := bw_in (List.mem_of_getElem? (i := 1007) (by rfl)) (by rfl)
set_option maxRecDepth 100000 in
theorem in_X10_failed : Cond.instanceMethod yX10_failed ∈ BW := bw_in (List.mem_of_getElem? (i := 946) (by rfl)) (by rfl)
set_option maxRecDepth 100000 in
theorem sl_X10_failed : Cond.selects RX10 yX10_failed yX10_failed ∈ BW := bw_in (List.mem_of_getElem? (i := 947) (by rfl)) (by rfl)
set_option maxRecDepth 100000 in
theorem fl_RX12_46 : Cond.fieldLink RX12 46 "BlastPlannerLaw$Drawn" "charges" "[I" ∈ BW := bw_in (List.mem_of_getElem? (i := 852) (by rfl)) (by rfl)
set_option maxRecDepth 100000 in
theorem fl_RX12_60 : Cond.fieldLink RX12 60 "BlastPlannerLaw$Drawn" "delay" "[[I" ∈ BW := bw_in (List.mem_of_getElem? (i := 857) (by rfl)) (by rfl)
set_option maxRecDepth 100000 in
theorem fl_RX12_57 : Cond.fieldLink RX12 57 "BlastPlannerLaw$Drawn" "size" "[[I" ∈ BW := bw_in (List.mem_of_getElem? (i := 856) (by rfl)) (by rfl)
set_option maxRecDepth 100000 in
theorem fl_RX12_37 : Cond.fieldLink RX12 37 "BlastPlannerLaw$Drawn" "x" "[I" ∈ BW := bw_in (List.mem_of_getElem? (i := 848) (by rfl)) (by rfl)
set_option maxRecDepth 100000 in
theorem fl_RX12_7 : Cond.fieldLink RX12 7 "BlastPlannerLaw$Drawn" "nearX" "[I" ∈ BW := bw_in (List.mem_of_getElem? (i := 839) (by rfl)) (by rfl)
set_option maxRecDepth 100000 in
theorem fl_RX12_40 : Cond.fieldLink RX12 40 "BlastPlannerLaw$Drawn" "y" "[I" ∈ BW := bw_in (List.mem_of_getElem? (i := 849) (by rfl)) (by rfl)
set_option maxRecDepth 100000 in
theorem fl_RX12_13 : Cond.fieldLink RX12 13 "BlastPlannerLaw$Drawn" "nearY" "[I" ∈ BW := bw_in (List.mem_of_getElem? (i := 840) (by rfl)) (by rfl)
set_option maxRecDepth 100000 in
theorem fl_RX12_31 : Cond.fieldLink RX12 31 "BlastPlannerLaw$Drawn" "roadX2" "[I" ∈ BW := bw_in (List.mem_of_getElem? (i := 846) (by rfl)) (by rfl)
set_option maxRecDepth 100000 in
theorem fl_RX12_25 : Cond.fieldLink RX12 25 "BlastPlannerLaw$Drawn" "roadX" "[I" ∈ BW := bw_in (List.mem_of_getElem? (i := 844) (by rfl)) (by rfl)
set_option maxRecDepth 100000 in
theorem fl_RX12_34 : Cond.fieldLink RX12 34 "BlastPlannerLaw$Drawn" "roadY2" "[I" ∈ BW := bw_in (List.mem_of_getElem? (i := 847) (by rfl)) (by rfl)
set_option maxRecDepth 100000 in
theorem fl_RX12_28 : Cond.fieldLink RX12 28 "BlastPlannerLaw$Drawn" "roadY" "[I" ∈ BW := bw_in (List.mem_of_getElem? (i := 845) (by rfl)) (by rfl)
set_option maxRecDepth 100000 in
theorem ml_RX12_149 : Cond.methodLink RX12 149 Lib.MathLoose.min_long.x ∈ BW := bw_in (List.mem_of_getElem? (i := 1523) (by rfl)) (by rfl)
set_option maxRecDepth 100000 in
theorem st_mathL_min : Cond.static Lib.MathLoose.min_long.x ∈ BW := bw_in (List.mem_of_getElem? (i := 1524) (by rfl)) (by rfl)
set_option maxRecDepth 100000 in
theorem cd_mathL_min : Cond.code Lib.MathLoose.min_long.x Lib.MathLoose.min_long.code 4 (some .long) ∈ BW := bw_in (List.mem_of_getElem? (i := 1525) (by rfl)) (by rfl)
set_option maxRecDepth 100000 in
theorem ml_RX12_155 : Cond.methodLink RX12 155 Lib.MathLoose.max_long.x ∈ BW := bw_in (List.mem_of_getElem? (i := 1526) (by rfl)) (by rfl)
set_option maxRecDepth 100000 in
theorem st_mathL_max : Cond.static Lib.MathLoose.max_long.x ∈ BW := bw_in (List.mem_of_getElem? (i := 1527) (by rfl)) (by rfl)
set_option maxRecDepth 100000 in
theorem cd_mathL_max : Cond.code Lib.MathLoose.max_long.x Lib.MathLoose.max_long.code 4 (some .long) ∈ BW := bw_in (List.mem_of_getElem? (i := 1528) (by rfl)) (by rfl)
set_option maxRecDepth 100000 in
theorem fl_RX12_19 : Cond.fieldLink RX12 19 "BlastPlannerLaw$Drawn" "quietFrom" "[I" ∈ BW := bw_in (List.mem_of_getElem? (i := 842) (by rfl)) (by rfl)
set_option maxRecDepth 100000 in
theorem fl_RX12_22 : Cond.fieldLink RX12 22 "BlastPlannerLaw$Drawn" "quietTo" "[I" ∈ BW := bw_in (List.mem_of_getElem? (i := 843) (by rfl)) (by rfl)
set_option maxRecDepth 100000 in
theorem fl_RX12_49 : Cond.fieldLink RX12 49 "BlastPlannerLaw$Drawn" "wind" "[I" ∈ BW := bw_in (List.mem_of_getElem? (i := 854) (by rfl)) (by rfl)
set_option maxRecDepth 100000 in
theorem cd_X12_far : Cond.code yX12_far cX12_far 3 (some .int) ∈ BW := bw_in (List.mem_of_getElem? (i := 1518) (by rfl)) (by rfl)
set_option maxRecDepth 100000 in
theorem ni_RX12 : Cond.initialized RX12 ∈ BW := bw_in (List.mem_of_getElem? (i := 50) (by rfl)) (by rfl)
set_option maxRecDepth 100000 in
theorem ml_RX12_158 : Cond.methodLink RX12 158 yX12_far ∈ BW := bw_in (List.mem_of_getElem? (i := 1536) (by rfl)) (by rfl)
set_option maxRecDepth 100000 in
theorem in_X12_far : Cond.instanceMethod yX12_far ∈ BW := bw_in (List.mem_of_getElem? (i := 1516) (by rfl)) (by rfl)
set_option maxRecDepth 100000 in
theorem sl_X12_far : Cond.selects RX12 yX12_far yX12_far ∈ BW := bw_in (List.mem_of_getElem? (i := 1517) (by rfl)) (by rfl)
set_option maxRecDepth 100000 in
theorem fl_RX12_52 : Cond.fieldLink RX12 52 "BlastPlannerLaw$Drawn" "speed" "[I" ∈ BW := bw_in (List.mem_of_getElem? (i := 855) (by rfl)) (by rfl)
set_option maxRecDepth 100000 in
theorem fl_RX12_79 : Cond.fieldLink RX12 79 "BlastPlannerLaw$Drawn" "first" "I" ∈ BW := bw_in (List.mem_of_getElem? (i := 831) (by rfl)) (by rfl)
set_option maxRecDepth 100000 in
theorem fl_RX12_85 : Cond.fieldLink RX12 85 "BlastPlannerLaw$Drawn" "last" "I" ∈ BW := bw_in (List.mem_of_getElem? (i := 833) (by rfl)) (by rfl)
set_option maxRecDepth 100000 in
theorem fl_RX12_69 : Cond.fieldLink RX12 69 "BlastPlannerLaw$Drawn" "near" "I" ∈ BW := bw_in (List.mem_of_getElem? (i := 825) (by rfl)) (by rfl)
set_option maxRecDepth 100000 in
theorem cd_X12_isDusty : Cond.code yX12_isDusty cX12_isDusty 10 (some .boolean) ∈ BW := bw_in (List.mem_of_getElem? (i := 1544) (by rfl)) (by rfl)
set_option maxRecDepth 100000 in
theorem ml_RX12_171 : Cond.methodLink RX12 171 yX12_isDusty ∈ BW := bw_in (List.mem_of_getElem? (i := 1541) (by rfl)) (by rfl)
set_option maxRecDepth 100000 in
theorem in_X12_isDusty : Cond.instanceMethod yX12_isDusty ∈ BW := bw_in (List.mem_of_getElem? (i := 1542) (by rfl)) (by rfl)
set_option maxRecDepth 100000 in
theorem sl_X12_isDusty : Cond.selects RX12 yX12_isDusty yX12_isDusty ∈ BW := bw_in (List.mem_of_getElem? (i := 1543) (by rfl)) (by rfl)
set_option maxRecDepth 100000 in
theorem cd_X12_isQuiet : Cond.code yX12_isQuiet cX12_isQuiet 3 (some .boolean) ∈ BW := bw_in (List.mem_of_getElem? (i := 1540) (by rfl)) (by rfl)
set_option maxRecDepth 100000 in
theorem ml_RX12_167 : Cond.methodLink RX12 167 yX12_isQuiet ∈ BW := bw_in (List.mem_of_getElem? (i := 1537) (by rfl)) (by rfl)
set_option maxRecDepth 100000 in
theorem in_X12_isQuiet : Cond.instanceMethod yX12_isQuiet ∈ BW := bw_in (List.mem_of_getElem? (i := 1538) (by rfl)) (by rfl)
set_option maxRecDepth 100000 in
theorem sl_X12_isQuiet : Cond.selects RX12 yX12_isQuiet yX12_isQuiet ∈ BW := bw_in (List.mem_of_getElem? (i := 1539) (by rfl)) (by rfl)
set_option maxRecDepth 100000 in
theorem fl_RX12_43 : Cond.fieldLink RX12 43 "BlastPlannerLaw$Drawn" "radius" "[I" ∈ BW := bw_in (List.mem_of_getElem? (i := 850) (by rfl)) (by rfl)
set_option maxRecDepth 100000 in
theorem fl_RX12_16 : Cond.fieldLink RX12 16 "BlastPlannerLaw$Drawn" "limit" "[I" ∈ BW := bw_in (List.mem_of_getElem? (i := 841) (by rfl)) (by rfl)
set_option maxRecDepth 100000 in
theorem cd_X12_window : Cond.code yX12_window cX12_window 5 (some .int) ∈ BW := bw_in (List.mem_of_getElem? (i := 1514) (by rfl)) (by rfl)
set_option maxRecDepth 100000 in
theorem ml_RX12_162 : Cond.methodLink RX12 162 yX12_window ∈ BW := bw_in (List.mem_of_getElem? (i := 1534) (by rfl)) (by rfl)
set_option maxRecDepth 100000 in
theorem in_X12_window : Cond.instanceMethod yX12_window ∈ BW := bw_in (List.mem_of_getElem? (i := 1512) (by rfl)) (by rfl)
set_option maxRecDepth 100000 in
theorem sl_X12_window : Cond.selects RX12 yX12_window yX12_window ∈ BW := bw_in (List.mem_of_getElem? (i := 1513) (by rfl)) (by rfl)
set_option maxRecDepth 100000 in
theorem ml_RX12_165 : Cond.methodLink RX12 165 Lib.Math.max.name ∈ BW := bw_in (List.mem_of_getElem? (i := 1535) (by rfl)) (by rfl)
set_option maxRecDepth 100000 in
theorem st_math_max : Cond.static Lib.Math.max.name ∈ BW := bw_in (List.mem_of_getElem? (i := 530) (by rfl)) (by rfl)
set_option maxRecDepth 100000 in
theorem cd_math_max : Cond.code Lib.Math.max.name Lib.Math.max.code 2 (some .int) ∈ BW := bw_in (List.mem_of_getElem? (i := 531) (by rfl)) (by rfl)
set_option maxRecDepth 100000 in
theorem fl_RX13_7 : Cond.fieldLink RX13 7 "BlastPlannerLaw$Draws" "seed" "I" ∈ BW := bw_in (List.mem_of_getElem? (i := 922) (by rfl)) (by rfl)
set_option maxRecDepth 100000 in
theorem kc_RX13_13 : Cond.constant RX13 13 (1103515245) ∈ BW := bw_in (List.mem_of_getElem? (i := 474) (by rfl)) (by rfl)
set_option maxRecDepth 100000 in
theorem cd_X10_hasRoom : Cond.code yX10_hasRoom cX10_hasRoom 2 (some .boolean) ∈ BW := bw_in (List.mem_of_getElem? (i := 1499) (by rfl)) (by rfl)
set_option maxRecDepth 100000 in
theorem ml_RX11_72 : Cond.methodLink RX11 72 yX10_hasRoom ∈ BW := bw_in (List.mem_of_getElem? (i := 1496) (by rfl)) (by rfl)
set_option maxRecDepth 100000 in
theorem in_X10_hasRoom : Cond.instanceMethod yX10_hasRoom ∈ BW := bw_in (List.mem_of_getElem? (i := 1497) (by rfl)) (by rfl)
set_option maxRecDepth 100000 in
theorem sl_X10_hasRoom : Cond.selects RX10 yX10_hasRoom yX10_hasRoom ∈ BW := bw_in (List.mem_of_getElem? (i := 1498) (by rfl)) (by rfl)
set_option maxRecDepth 100000 in
theorem cd_X10_addWord : Cond.code yX10_addWord cX10_addWord 3 none ∈ BW := bw_in (List.mem_of_getElem? (i := 1503) (by rfl)) (by rfl)
set_option maxRecDepth 100000 in
theorem ml_RX11_78 : Cond.methodLink RX11 78 yX10_addWord ∈ BW := bw_in (List.mem_of_getElem? (i := 1500) (by rfl)) (by rfl)
set_option maxRecDepth 100000 in
theorem in_X10_addWord : Cond.instanceMethod yX10_addWord ∈ BW := bw_in (List.mem_of_getElem? (i := 1501) (by rfl)) (by rfl)
set_option maxRecDepth 100000 in
theorem sl_X10_addWord : Cond.selects RX10 yX10_addWord yX10_addWord ∈ BW := bw_in (List.mem_of_getElem? (i := 1502) (by rfl)) (by rfl)
set_option maxRecDepth 100000 in
theorem cd_X11_blastAt : Cond.code yX11_blastAt cX11_blastAt 2 (some (.object "BlastPlanner$Blast")) ∈ BW := bw_in (List.mem_of_getElem? (i := 1134) (by rfl)) (by rfl)
set_option maxRecDepth 100000 in
theorem ml_RX11_125 : Cond.methodLink RX11 125 yX11_blastAt ∈ BW := bw_in (List.mem_of_getElem? (i := 1131) (by rfl)) (by rfl)
set_option maxRecDepth 100000 in
theorem in_X11_blastAt : Cond.instanceMethod yX11_blastAt ∈ BW := bw_in (List.mem_of_getElem? (i := 1133) (by rfl)) (by rfl)
set_option maxRecDepth 100000 in
theorem sl_X11_blastAt : Cond.selects RX11 yX11_blastAt yX11_blastAt ∈ BW := bw_in (List.mem_of_getElem? (i := 18) (by rfl)) (by rfl)
set_option maxRecDepth 100000 in
theorem fl_RX11_150 : Cond.fieldLink RX11 150 "BlastPlanner$Blast" "windowSum" "I" ∈ BW := bw_in (List.mem_of_getElem? (i := 295) (by rfl)) (by rfl)
set_option maxRecDepth 100000 in
theorem fl_RX11_153 : Cond.fieldLink RX11 153 "BlastPlanner$Blast" "windowFirst" "I" ∈ BW := bw_in (List.mem_of_getElem? (i := 297) (by rfl)) (by rfl)
set_option maxRecDepth 100000 in
theorem cd_X11_neighbourAt : Cond.code yX11_neighbourAt cX11_neighbourAt 2 (some (.object "BlastPlanner$Neighbour")) ∈ BW := bw_in (List.mem_of_getElem? (i := 1166) (by rfl)) (by rfl)
set_option maxRecDepth 100000 in
theorem ml_RX11_156 : Cond.methodLink RX11 156 yX11_neighbourAt ∈ BW := bw_in (List.mem_of_getElem? (i := 1163) (by rfl)) (by rfl)
set_option maxRecDepth 100000 in
theorem in_X11_neighbourAt : Cond.instanceMethod yX11_neighbourAt ∈ BW := bw_in (List.mem_of_getElem? (i := 1165) (by rfl)) (by rfl)
set_option maxRecDepth 100000 in
theorem sl_X11_neighbourAt : Cond.selects RX11 yX11_neighbourAt yX11_neighbourAt ∈ BW := bw_in (List.mem_of_getElem? (i := 20) (by rfl)) (by rfl)
set_option maxRecDepth 100000 in
theorem ml_RX11_160 : Cond.methodLink RX11 160 yX0_shakes ∈ BW := bw_in (List.mem_of_getElem? (i := 1168) (by rfl)) (by rfl)
set_option maxRecDepth 100000 in
theorem cd_X11_roadAt : Cond.code yX11_roadAt cX11_roadAt 2 (some (.object "BlastPlanner$Road")) ∈ BW := bw_in (List.mem_of_getElem? (i := 1176) (by rfl)) (by rfl)
set_option maxRecDepth 100000 in
theorem ml_RX11_180 : Cond.methodLink RX11 180 yX11_roadAt ∈ BW := bw_in (List.mem_of_getElem? (i := 1173) (by rfl)) (by rfl)
set_option maxRecDepth 100000 in
theorem in_X11_roadAt : Cond.instanceMethod yX11_roadAt ∈ BW := bw_in (List.mem_of_getElem? (i := 1175) (by rfl)) (by rfl)
set_option maxRecDepth 100000 in
theorem sl_X11_roadAt : Cond.selects RX11 yX11_roadAt yX11_roadAt ∈ BW := bw_in (List.mem_of_getElem? (i := 21) (by rfl)) (by rfl)
set_option maxRecDepth 100000 in
theorem cd_X0_closesRoad : Cond.code yX0_closesRoad cX0_closesRoad 2 (some .boolean) ∈ BW := bw_in (List.mem_of_getElem? (i := 1181) (by rfl)) (by rfl)
set_option maxRecDepth 100000 in
theorem ml_RX11_184 : Cond.methodLink RX11 184 yX0_closesRoad ∈ BW := bw_in (List.mem_of_getElem? (i := 1178) (by rfl)) (by rfl)
set_option maxRecDepth 100000 in
theorem in_X0_closesRoad : Cond.instanceMethod yX0_closesRoad ∈ BW := bw_in (List.mem_of_getElem? (i := 1179) (by rfl)) (by rfl)
set_option maxRecDepth 100000 in
theorem sl_X0_closesRoad : Cond.selects RX0 yX0_closesRoad yX0_closesRoad ∈ BW := bw_in (List.mem_of_getElem? (i := 1180) (by rfl)) (by rfl)
set_option maxRecDepth 100000 in
theorem ml_RX11_190 : Cond.methodLink RX11 190 yX4_quietAt ∈ BW := bw_in (List.mem_of_getElem? (i := 1186) (by rfl)) (by rfl)
set_option maxRecDepth 100000 in
theorem cd_X11_needRange : Cond.code yX11_needRange cX11_needRange 4 none ∈ BW := bw_in (List.mem_of_getElem? (i := 1197) (by rfl)) (by rfl)
set_option maxRecDepth 100000 in
theorem ml_RX11_176 : Cond.methodLink RX11 176 yX11_needRange ∈ BW := bw_in (List.mem_of_getElem? (i := 1194) (by rfl)) (by rfl)
set_option maxRecDepth 100000 in
theorem in_X11_needRange : Cond.instanceMethod yX11_needRange ∈ BW := bw_in (List.mem_of_getElem? (i := 1196) (by rfl)) (by rfl)
set_option maxRecDepth 100000 in
theorem sl_X11_needRange : Cond.selects RX11 yX11_needRange yX11_needRange ∈ BW := bw_in (List.mem_of_getElem? (i := 22) (by rfl)) (by rfl)
set_option maxRecDepth 100000 in
theorem fl_RX11_193 : Cond.fieldLink RX11 193 "BlastPlanner$Blast" "dusty" "[I" ∈ BW := bw_in (List.mem_of_getElem? (i := 282) (by rfl)) (by rfl)
set_option maxRecDepth 100000 in
theorem fl_RX11_196 : Cond.fieldLink RX11 196 "BlastPlanner$Blast" "x" "I" ∈ BW := bw_in (List.mem_of_getElem? (i := 285) (by rfl)) (by rfl)
set_option maxRecDepth 100000 in
theorem fl_RX11_199 : Cond.fieldLink RX11 199 "BlastPlanner$Blast" "y" "I" ∈ BW := bw_in (List.mem_of_getElem? (i := 288) (by rfl)) (by rfl)
set_option maxRecDepth 100000 in
theorem ml_RX11_202 : Cond.methodLink RX11 202 yX7_comesWithin ∈ BW := bw_in (List.mem_of_getElem? (i := 1467) (by rfl)) (by rfl)
set_option maxRecDepth 100000 in
theorem fl_RX11_228 : Cond.fieldLink RX11 228 "BlastPlanner$Site" "times" "[I" ∈ BW := bw_in (List.mem_of_getElem? (i := 360) (by rfl)) (by rfl)
set_option maxRecDepth 100000 in
theorem cd_X10_begin : Cond.code yX10_begin cX10_begin 1 none ∈ BW := bw_in (List.mem_of_getElem? (i := 943) (by rfl)) (by rfl)
set_option maxRecDepth 100000 in
theorem ml_RX5_18 : Cond.methodLink RX5 18 yX10_begin ∈ BW := bw_in (List.mem_of_getElem? (i := 940) (by rfl)) (by rfl)
set_option maxRecDepth 100000 in
theorem in_X10_begin : Cond.instanceMethod yX10_begin ∈ BW := bw_in (List.mem_of_getElem? (i := 941) (by rfl)) (by rfl)
set_option maxRecDepth 100000 in
theorem sl_X10_begin : Cond.selects RX10 yX10_begin yX10_begin ∈ BW := bw_in (List.mem_of_getElem? (i := 942) (by rfl)) (by rfl)
set_option maxRecDepth 100000 in
theorem cd_X9_reset : Cond.code yX9_reset cX9_reset 2 none ∈ BW := bw_in (List.mem_of_getElem? (i := 338) (by rfl)) (by rfl)
set_option maxRecDepth 100000 in
theorem ni_RX9 : Cond.initialized RX9 ∈ BW := bw_in (List.mem_of_getElem? (i := 46) (by rfl)) (by rfl)
set_option maxRecDepth 100000 in
theorem ml_RX5_21 : Cond.methodLink RX5 21 yX9_reset ∈ BW := bw_in (List.mem_of_getElem? (i := 944) (by rfl)) (by rfl)
set_option maxRecDepth 100000 in
theorem in_X9_reset : Cond.instanceMethod yX9_reset ∈ BW := bw_in (List.mem_of_getElem? (i := 336) (by rfl)) (by rfl)
set_option maxRecDepth 100000 in
theorem sl_X9_reset : Cond.selects RX9 yX9_reset yX9_reset ∈ BW := bw_in (List.mem_of_getElem? (i := 337) (by rfl)) (by rfl)
set_option maxRecDepth 100000 in
theorem ml_RX5_26 : Cond.methodLink RX5 26 yX10_failed ∈ BW := bw_in (List.mem_of_getElem? (i := 945) (by rfl)) (by rfl)
set_option maxRecDepth 100000 in
theorem cd_X10_atEnd : Cond.code yX10_atEnd cX10_atEnd 1 (some .boolean) ∈ BW := bw_in (List.mem_of_getElem? (i := 952) (by rfl)) (by rfl)
set_option maxRecDepth 100000 in
theorem ml_RX5_30 : Cond.methodLink RX5 30 yX10_atEnd ∈ BW := bw_in (List.mem_of_getElem? (i := 949) (by rfl)) (by rfl)
set_option maxRecDepth 100000 in
theorem in_X10_atEnd : Cond.instanceMethod yX10_atEnd ∈ BW := bw_in (List.mem_of_getElem? (i := 950) (by rfl)) (by rfl)
set_option maxRecDepth 100000 in
theorem sl_X10_atEnd : Cond.selects RX10 yX10_atEnd yX10_atEnd ∈ BW := bw_in (List.mem_of_getElem? (i := 951) (by rfl)) (by rfl)
set_option maxRecDepth 100000 in
theorem cd_X10_tookWord : Cond.code yX10_tookWord cX10_tookWord 4 (some .boolean) ∈ BW := bw_in (List.mem_of_getElem? (i := 965) (by rfl)) (by rfl)
set_option maxRecDepth 100000 in
theorem ml_RX5_50 : Cond.methodLink RX5 50 yX10_tookWord ∈ BW := bw_in (List.mem_of_getElem? (i := 962) (by rfl)) (by rfl)
set_option maxRecDepth 100000 in
theorem in_X10_tookWord : Cond.instanceMethod yX10_tookWord ∈ BW := bw_in (List.mem_of_getElem? (i := 963) (by rfl)) (by rfl)
set_option maxRecDepth 100000 in
theorem sl_X10_tookWord : Cond.selects RX10 yX10_tookWord yX10_tookWord ∈ BW := bw_in (List.mem_of_getElem? (i := 964) (by rfl)) (by rfl)
set_option maxRecDepth 100000 in
theorem cd_X10_need : Cond.code yX10_need cX10_need 2 none ∈ BW := bw_in (List.mem_of_getElem? (i := 1025) (by rfl)) (by rfl)
set_option maxRecDepth 100000 in
theorem ml_RX5_40 : Cond.methodLink RX5 40 yX10_need ∈ BW := bw_in (List.mem_of_getElem? (i := 1022) (by rfl)) (by rfl)
set_option maxRecDepth 100000 in
theorem in_X10_need : Cond.instanceMethod yX10_need ∈ BW := bw_in (List.mem_of_getElem? (i := 1023) (by rfl)) (by rfl)
set_option maxRecDepth 100000 in
theorem sl_X10_need : Cond.selects RX10 yX10_need yX10_need ∈ BW := bw_in (List.mem_of_getElem? (i := 1024) (by rfl)) (by rfl)
set_option maxRecDepth 100000 in
theorem cd_X9_measureNeighbours : Cond.code yX9_measureNeighbours cX9_measureNeighbours 5 none ∈ BW := bw_in (List.mem_of_getElem? (i := 1076) (by rfl)) (by rfl)
set_option maxRecDepth 100000 in
theorem ml_RX9_82 : Cond.methodLink RX9 82 yX9_measureNeighbours ∈ BW := bw_in (List.mem_of_getElem? (i := 1073) (by rfl)) (by rfl)
set_option maxRecDepth 100000 in
theorem in_X9_measureNeighbours : Cond.instanceMethod yX9_measureNeighbours ∈ BW := bw_in (List.mem_of_getElem? (i := 1075) (by rfl)) (by rfl)
set_option maxRecDepth 100000 in
theorem sl_X9_measureNeighbours : Cond.selects RX9 yX9_measureNeighbours yX9_measureNeighbours ∈ BW := bw_in (List.mem_of_getElem? (i := 15) (by rfl)) (by rfl)
set_option maxRecDepth 100000 in
theorem cd_X9_measureRoads : Cond.code yX9_measureRoads cX9_measureRoads 3 none ∈ BW := bw_in (List.mem_of_getElem? (i := 1083) (by rfl)) (by rfl)
set_option maxRecDepth 100000 in
theorem ml_RX9_86 : Cond.methodLink RX9 86 yX9_measureRoads ∈ BW := bw_in (List.mem_of_getElem? (i := 1080) (by rfl)) (by rfl)
set_option maxRecDepth 100000 in
theorem in_X9_measureRoads : Cond.instanceMethod yX9_measureRoads ∈ BW := bw_in (List.mem_of_getElem? (i := 1082) (by rfl)) (by rfl)
set_option maxRecDepth 100000 in
theorem sl_X9_measureRoads : Cond.selects RX9 yX9_measureRoads yX9_measureRoads ∈ BW := bw_in (List.mem_of_getElem? (i := 16) (by rfl)) (by rfl)
set_option maxRecDepth 100000 in
theorem cd_X9_weigh : Cond.code yX9_weigh cX9_weigh 3 none ∈ BW := bw_in (List.mem_of_getElem? (i := 1103) (by rfl)) (by rfl)
set_option maxRecDepth 100000 in
theorem ml_RX9_96 : Cond.methodLink RX9 96 yX9_weigh ∈ BW := bw_in (List.mem_of_getElem? (i := 1100) (by rfl)) (by rfl)
set_option maxRecDepth 100000 in
theorem in_X9_weigh : Cond.instanceMethod yX9_weigh ∈ BW := bw_in (List.mem_of_getElem? (i := 1101) (by rfl)) (by rfl)
set_option maxRecDepth 100000 in
theorem sl_X9_weigh : Cond.selects RX9 yX9_weigh yX9_weigh ∈ BW := bw_in (List.mem_of_getElem? (i := 1102) (by rfl)) (by rfl)
set_option maxRecDepth 100000 in
theorem fl_RX9_89 : Cond.fieldLink RX9 89 "BlastPlanner$Blast" "dusty" "[I" ∈ BW := bw_in (List.mem_of_getElem? (i := 281) (by rfl)) (by rfl)
set_option maxRecDepth 100000 in
theorem cd_X9_neighboursInDust : Cond.code yX9_neighboursInDust cX9_neighboursInDust 11 (some .int) ∈ BW := bw_in (List.mem_of_getElem? (i := 1092) (by rfl)) (by rfl)
set_option maxRecDepth 100000 in
theorem ml_RX9_92 : Cond.methodLink RX9 92 yX9_neighboursInDust ∈ BW := bw_in (List.mem_of_getElem? (i := 1089) (by rfl)) (by rfl)
set_option maxRecDepth 100000 in
theorem in_X9_neighboursInDust : Cond.instanceMethod yX9_neighboursInDust ∈ BW := bw_in (List.mem_of_getElem? (i := 1091) (by rfl)) (by rfl)
set_option maxRecDepth 100000 in
theorem sl_X9_neighboursInDust : Cond.selects RX9 yX9_neighboursInDust yX9_neighboursInDust ∈ BW := bw_in (List.mem_of_getElem? (i := 17) (by rfl)) (by rfl)
set_option maxRecDepth 100000 in
theorem cd_X9_quietFor : Cond.code yX9_quietFor cX9_quietFor 4 (some .boolean) ∈ BW := bw_in (List.mem_of_getElem? (i := 1214) (by rfl)) (by rfl)
set_option maxRecDepth 100000 in
theorem ml_RX9_157 : Cond.methodLink RX9 157 yX9_quietFor ∈ BW := bw_in (List.mem_of_getElem? (i := 1211) (by rfl)) (by rfl)
set_option maxRecDepth 100000 in
theorem in_X9_quietFor : Cond.instanceMethod yX9_quietFor ∈ BW := bw_in (List.mem_of_getElem? (i := 1213) (by rfl)) (by rfl)
set_option maxRecDepth 100000 in
theorem sl_X9_quietFor : Cond.selects RX9 yX9_quietFor yX9_quietFor ∈ BW := bw_in (List.mem_of_getElem? (i := 23) (by rfl)) (by rfl)
set_option maxRecDepth 100000 in
theorem cd_X9_crowded : Cond.code yX9_crowded cX9_crowded 5 (some .boolean) ∈ BW := bw_in (List.mem_of_getElem? (i := 1219) (by rfl)) (by rfl)
set_option maxRecDepth 100000 in
theorem ml_RX9_161 : Cond.methodLink RX9 161 yX9_crowded ∈ BW := bw_in (List.mem_of_getElem? (i := 1216) (by rfl)) (by rfl)
set_option maxRecDepth 100000 in
theorem in_X9_crowded : Cond.instanceMethod yX9_crowded ∈ BW := bw_in (List.mem_of_getElem? (i := 1218) (by rfl)) (by rfl)
set_option maxRecDepth 100000 in
theorem sl_X9_crowded : Cond.selects RX9 yX9_crowded yX9_crowded ∈ BW := bw_in (List.mem_of_getElem? (i := 24) (by rfl)) (by rfl)
set_option maxRecDepth 100000 in
theorem cd_X10_nameUpTo : Cond.code yX10_nameUpTo cX10_nameUpTo 4 (some .int) ∈ BW := bw_in (List.mem_of_getElem? (i := 1002) (by rfl)) (by rfl)
set_option maxRecDepth 100000 in
theorem ml_RX10_48 : Cond.methodLink RX10 48 yX10_nameUpTo ∈ BW := bw_in (List.mem_of_getElem? (i := 999) (by rfl)) (by rfl)
set_option maxRecDepth 100000 in
theorem in_X10_nameUpTo : Cond.instanceMethod yX10_nameUpTo ∈ BW := bw_in (List.mem_of_getElem? (i := 1001) (by rfl)) (by rfl)
set_option maxRecDepth 100000 in
theorem sl_X10_nameUpTo : Cond.selects RX10 yX10_nameUpTo yX10_nameUpTo ∈ BW := bw_in (List.mem_of_getElem? (i := 7) (by rfl)) (by rfl)
set_option maxRecDepth 100000 in
theorem cd_X10_valueUpTo : Cond.code yX10_valueUpTo cX10_valueUpTo 4 (some .int) ∈ BW := bw_in (List.mem_of_getElem? (i := 1011) (by rfl)) (by rfl)
set_option maxRecDepth 100000 in
theorem ml_RX10_56 : Cond.methodLink RX10 56 yX10_valueUpTo ∈ BW := bw_in (List.mem_of_getElem? (i := 1008) (by rfl)) (by rfl)
set_option maxRecDepth 100000 in
theorem in_X10_valueUpTo : Cond.instanceMethod yX10_valueUpTo ∈ BW := bw_in (List.mem_of_getElem? (i := 1010) (by rfl)) (by rfl)
set_option maxRecDepth 100000 in
theorem sl_X10_valueUpTo : Cond.selects RX10 yX10_valueUpTo yX10_valueUpTo ∈ BW := bw_in (List.mem_of_getElem? (i := 8) (by rfl)) (by rfl)
set_option maxRecDepth 100000 in
theorem cd_X9_reasonAgainst : Cond.code yX9_reasonAgainst cX9_reasonAgainst 5 (some .int) ∈ BW := bw_in (List.mem_of_getElem? (i := 1210) (by rfl)) (by rfl)
set_option maxRecDepth 100000 in
theorem ml_RX11_235 : Cond.methodLink RX11 235 yX9_reasonAgainst ∈ BW := bw_in (List.mem_of_getElem? (i := 1207) (by rfl)) (by rfl)
set_option maxRecDepth 100000 in
theorem in_X9_reasonAgainst : Cond.instanceMethod yX9_reasonAgainst ∈ BW := bw_in (List.mem_of_getElem? (i := 1208) (by rfl)) (by rfl)
set_option maxRecDepth 100000 in
theorem sl_X9_reasonAgainst : Cond.selects RX9 yX9_reasonAgainst yX9_reasonAgainst ∈ BW := bw_in (List.mem_of_getElem? (i := 1209) (by rfl)) (by rfl)
set_option maxRecDepth 100000 in
theorem cd_X10_takeNumber : Cond.code yX10_takeNumber cX10_takeNumber 5 (some .int) ∈ BW := bw_in (List.mem_of_getElem? (i := 1006) (by rfl)) (by rfl)
set_option maxRecDepth 100000 in
theorem ml_RX5_73 : Cond.methodLink RX5 73 yX10_takeNumber ∈ BW := bw_in (List.mem_of_getElem? (i := 1003) (by rfl)) (by rfl)
set_option maxRecDepth 100000 in
theorem in_X10_takeNumber : Cond.instanceMethod yX10_takeNumber ∈ BW := bw_in (List.mem_of_getElem? (i := 1004) (by rfl)) (by rfl)
set_option maxRecDepth 100000 in
theorem sl_X10_takeNumber : Cond.selects RX10 yX10_takeNumber yX10_takeNumber ∈ BW := bw_in (List.mem_of_getElem? (i := 1005) (by rfl)) (by rfl)
set_option maxRecDepth 100000 in
theorem fl_RX5_105 : Cond.fieldLink RX5 105 "BlastPlanner$Site" "windDirections" "[I" ∈ BW := bw_in (List.mem_of_getElem? (i := 362) (by rfl)) (by rfl)
set_option maxRecDepth 100000 in
theorem fl_RX5_109 : Cond.fieldLink RX5 109 "BlastPlanner$Site" "windSpeeds" "[I" ∈ BW := bw_in (List.mem_of_getElem? (i := 364) (by rfl)) (by rfl)
set_option maxRecDepth 100000 in
theorem cd_X10_takeName : Cond.code yX10_takeName cX10_takeName 6 (some .int) ∈ BW := bw_in (List.mem_of_getElem? (i := 997) (by rfl)) (by rfl)
set_option maxRecDepth 100000 in
theorem ml_RX5_126 : Cond.methodLink RX5 126 yX10_takeName ∈ BW := bw_in (List.mem_of_getElem? (i := 994) (by rfl)) (by rfl)
set_option maxRecDepth 100000 in
theorem in_X10_takeName : Cond.instanceMethod yX10_takeName ∈ BW := bw_in (List.mem_of_getElem? (i := 995) (by rfl)) (by rfl)
set_option maxRecDepth 100000 in
theorem sl_X10_takeName : Cond.selects RX10 yX10_takeName yX10_takeName ∈ BW := bw_in (List.mem_of_getElem? (i := 996) (by rfl)) (by rfl)
set_option maxRecDepth 100000 in
theorem fl_RX5_130 : Cond.fieldLink RX5 130 "BlastPlanner$Neighbour" "x" "I" ∈ BW := bw_in (List.mem_of_getElem? (i := 227) (by rfl)) (by rfl)
set_option maxRecDepth 100000 in
theorem fl_RX5_135 : Cond.fieldLink RX5 135 "BlastPlanner$Neighbour" "y" "I" ∈ BW := bw_in (List.mem_of_getElem? (i := 229) (by rfl)) (by rfl)
set_option maxRecDepth 100000 in
theorem kc_RX5_138 : Cond.constant RX5 138 (99999) ∈ BW := bw_in (List.mem_of_getElem? (i := 1012) (by rfl)) (by rfl)
set_option maxRecDepth 100000 in
theorem fl_RX5_139 : Cond.fieldLink RX5 139 "BlastPlanner$Neighbour" "limit" "I" ∈ BW := bw_in (List.mem_of_getElem? (i := 230) (by rfl)) (by rfl)
set_option maxRecDepth 100000 in
theorem cd_X10_numberFollows : Cond.code yX10_numberFollows cX10_numberFollows 1 (some .boolean) ∈ BW := bw_in (List.mem_of_getElem? (i := 1016) (by rfl)) (by rfl)
set_option maxRecDepth 100000 in
theorem ml_RX5_145 : Cond.methodLink RX5 145 yX10_numberFollows ∈ BW := bw_in (List.mem_of_getElem? (i := 1013) (by rfl)) (by rfl)
set_option maxRecDepth 100000 in
theorem in_X10_numberFollows : Cond.instanceMethod yX10_numberFollows ∈ BW := bw_in (List.mem_of_getElem? (i := 1014) (by rfl)) (by rfl)
set_option maxRecDepth 100000 in
theorem sl_X10_numberFollows : Cond.selects RX10 yX10_numberFollows yX10_numberFollows ∈ BW := bw_in (List.mem_of_getElem? (i := 1015) (by rfl)) (by rfl)
set_option maxRecDepth 100000 in
theorem cd_X4_addWindow : Cond.code yX4_addWindow cX4_addWindow 3 none ∈ BW := bw_in (List.mem_of_getElem? (i := 1029) (by rfl)) (by rfl)
set_option maxRecDepth 100000 in
theorem ml_RX5_154 : Cond.methodLink RX5 154 yX4_addWindow ∈ BW := bw_in (List.mem_of_getElem? (i := 1026) (by rfl)) (by rfl)
set_option maxRecDepth 100000 in
theorem in_X4_addWindow : Cond.instanceMethod yX4_addWindow ∈ BW := bw_in (List.mem_of_getElem? (i := 1027) (by rfl)) (by rfl)
set_option maxRecDepth 100000 in
theorem sl_X4_addWindow : Cond.selects RX4 yX4_addWindow yX4_addWindow ∈ BW := bw_in (List.mem_of_getElem? (i := 1028) (by rfl)) (by rfl)
set_option maxRecDepth 100000 in
theorem ml_RX5_115 : Cond.methodLink RX5 115 yX10_fail ∈ BW := bw_in (List.mem_of_getElem? (i := 990) (by rfl)) (by rfl)
set_option maxRecDepth 100000 in
theorem fl_RX5_167 : Cond.fieldLink RX5 167 "BlastPlanner$Road" "x1" "I" ∈ BW := bw_in (List.mem_of_getElem? (i := 254) (by rfl)) (by rfl)
set_option maxRecDepth 100000 in
theorem fl_RX5_172 : Cond.fieldLink RX5 172 "BlastPlanner$Road" "y1" "I" ∈ BW := bw_in (List.mem_of_getElem? (i := 256) (by rfl)) (by rfl)
set_option maxRecDepth 100000 in
theorem fl_RX5_175 : Cond.fieldLink RX5 175 "BlastPlanner$Road" "x2" "I" ∈ BW := bw_in (List.mem_of_getElem? (i := 258) (by rfl)) (by rfl)
set_option maxRecDepth 100000 in
theorem fl_RX5_178 : Cond.fieldLink RX5 178 "BlastPlanner$Road" "y2" "I" ∈ BW := bw_in (List.mem_of_getElem? (i := 260) (by rfl)) (by rfl)
set_option maxRecDepth 100000 in
theorem fl_RX5_191 : Cond.fieldLink RX5 191 "BlastPlanner$Blast" "x" "I" ∈ BW := bw_in (List.mem_of_getElem? (i := 284) (by rfl)) (by rfl)
set_option maxRecDepth 100000 in
theorem fl_RX5_194 : Cond.fieldLink RX5 194 "BlastPlanner$Blast" "y" "I" ∈ BW := bw_in (List.mem_of_getElem? (i := 287) (by rfl)) (by rfl)
set_option maxRecDepth 100000 in
theorem fl_RX5_195 : Cond.fieldLink RX5 195 "BlastPlanner$Blast" "radius" "I" ∈ BW := bw_in (List.mem_of_getElem? (i := 290) (by rfl)) (by rfl)
set_option maxRecDepth 100000 in
theorem fl_RX5_198 : Cond.fieldLink RX5 198 "BlastPlanner$Blast" "fired" "Z" ∈ BW := bw_in (List.mem_of_getElem? (i := 303) (by rfl)) (by rfl)
set_option maxRecDepth 100000 in
theorem cd_X0_addCharge : Cond.code yX0_addCharge cX0_addCharge 3 none ∈ BW := bw_in (List.mem_of_getElem? (i := 1048) (by rfl)) (by rfl)
set_option maxRecDepth 100000 in
theorem ml_RX5_211 : Cond.methodLink RX5 211 yX0_addCharge ∈ BW := bw_in (List.mem_of_getElem? (i := 1045) (by rfl)) (by rfl)
set_option maxRecDepth 100000 in
theorem in_X0_addCharge : Cond.instanceMethod yX0_addCharge ∈ BW := bw_in (List.mem_of_getElem? (i := 1046) (by rfl)) (by rfl)
set_option maxRecDepth 100000 in
theorem sl_X0_addCharge : Cond.selects RX0 yX0_addCharge yX0_addCharge ∈ BW := bw_in (List.mem_of_getElem? (i := 1047) (by rfl)) (by rfl)
set_option maxRecDepth 100000 in
theorem cd_X5_parseWind : Cond.code yX5_parseWind cX5_parseWind 5 none ∈ BW := bw_in (List.mem_of_getElem? (i := 1061) (by rfl)) (by rfl)
set_option maxRecDepth 100000 in
theorem ni_RX5 : Cond.initialized RX5 ∈ BW := bw_in (List.mem_of_getElem? (i := 39) (by rfl)) (by rfl)
set_option maxRecDepth 100000 in
theorem ml_RX5_102 : Cond.methodLink RX5 102 yX5_parseWind ∈ BW := bw_in (List.mem_of_getElem? (i := 1058) (by rfl)) (by rfl)
set_option maxRecDepth 100000 in
theorem in_X5_parseWind : Cond.instanceMethod yX5_parseWind ∈ BW := bw_in (List.mem_of_getElem? (i := 1060) (by rfl)) (by rfl)
set_option maxRecDepth 100000 in
theorem sl_X5_parseWind : Cond.selects RX5 yX5_parseWind yX5_parseWind ∈ BW := bw_in (List.mem_of_getElem? (i := 14) (by rfl)) (by rfl)
set_option maxRecDepth 100000 in
theorem fl_RX5_97 : Cond.fieldLink RX5 97 "BlastPlanner$Site" "spacing" "I" ∈ BW := bw_in (List.mem_of_getElem? (i := 390) (by rfl)) (by rfl)
set_option maxRecDepth 100000 in
theorem fl_RX5_89 : Cond.fieldLink RX5 89 "BlastPlanner$Site" "before" "I" ∈ BW := bw_in (List.mem_of_getElem? (i := 385) (by rfl)) (by rfl)
set_option maxRecDepth 100000 in
theorem fl_RX5_92 : Cond.fieldLink RX5 92 "BlastPlanner$Site" "after" "I" ∈ BW := bw_in (List.mem_of_getElem? (i := 388) (by rfl)) (by rfl)
set_option maxRecDepth 100000 in
theorem fl_RX5_85 : Cond.fieldLink RX5 85 "BlastPlanner$Site" "step" "I" ∈ BW := bw_in (List.mem_of_getElem? (i := 383) (by rfl)) (by rfl)
set_option maxRecDepth 100000 in
theorem fl_RX5_77 : Cond.fieldLink RX5 77 "BlastPlanner$Site" "dayFirst" "I" ∈ BW := bw_in (List.mem_of_getElem? (i := 379) (by rfl)) (by rfl)
set_option maxRecDepth 100000 in
theorem fl_RX5_80 : Cond.fieldLink RX5 80 "BlastPlanner$Site" "dayLast" "I" ∈ BW := bw_in (List.mem_of_getElem? (i := 381) (by rfl)) (by rfl)
set_option maxRecDepth 100000 in
theorem cd_X5_parseWindow : Cond.code yX5_parseWindow cX5_parseWindow 4 none ∈ BW := bw_in (List.mem_of_getElem? (i := 1020) (by rfl)) (by rfl)
set_option maxRecDepth 100000 in
theorem ml_RX5_148 : Cond.methodLink RX5 148 yX5_parseWindow ∈ BW := bw_in (List.mem_of_getElem? (i := 1017) (by rfl)) (by rfl)
set_option maxRecDepth 100000 in
theorem in_X5_parseWindow : Cond.instanceMethod yX5_parseWindow ∈ BW := bw_in (List.mem_of_getElem? (i := 1019) (by rfl)) (by rfl)
set_option maxRecDepth 100000 in
theorem sl_X5_parseWindow : Cond.selects RX5 yX5_parseWindow yX5_parseWindow ∈ BW := bw_in (List.mem_of_getElem? (i := 9) (by rfl)) (by rfl)
set_option maxRecDepth 100000 in
theorem cd_X5_parseCharge : Cond.code yX5_parseCharge cX5_parseCharge 4 none ∈ BW := bw_in (List.mem_of_getElem? (i := 1043) (by rfl)) (by rfl)
set_option maxRecDepth 100000 in
theorem ml_RX5_205 : Cond.methodLink RX5 205 yX5_parseCharge ∈ BW := bw_in (List.mem_of_getElem? (i := 1040) (by rfl)) (by rfl)
set_option maxRecDepth 100000 in
theorem in_X5_parseCharge : Cond.instanceMethod yX5_parseCharge ∈ BW := bw_in (List.mem_of_getElem? (i := 1042) (by rfl)) (by rfl)
set_option maxRecDepth 100000 in
theorem sl_X5_parseCharge : Cond.selects RX5 yX5_parseCharge yX5_parseCharge ∈ BW := bw_in (List.mem_of_getElem? (i := 12) (by rfl)) (by rfl)
set_option maxRecDepth 100000 in
theorem cd_X5_parseSetting : Cond.code yX5_parseSetting cX5_parseSetting 2 none ∈ BW := bw_in (List.mem_of_getElem? (i := 1052) (by rfl)) (by rfl)
set_option maxRecDepth 100000 in
theorem ml_RX5_68 : Cond.methodLink RX5 68 yX5_parseSetting ∈ BW := bw_in (List.mem_of_getElem? (i := 1049) (by rfl)) (by rfl)
set_option maxRecDepth 100000 in
theorem in_X5_parseSetting : Cond.instanceMethod yX5_parseSetting ∈ BW := bw_in (List.mem_of_getElem? (i := 1051) (by rfl)) (by rfl)
set_option maxRecDepth 100000 in
theorem sl_X5_parseSetting : Cond.selects RX5 yX5_parseSetting yX5_parseSetting ∈ BW := bw_in (List.mem_of_getElem? (i := 13) (by rfl)) (by rfl)
set_option maxRecDepth 100000 in
theorem cd_X5_parseBlast : Cond.code yX5_parseBlast cX5_parseBlast 6 none ∈ BW := bw_in (List.mem_of_getElem? (i := 1039) (by rfl)) (by rfl)
set_option maxRecDepth 100000 in
theorem ml_RX5_65 : Cond.methodLink RX5 65 yX5_parseBlast ∈ BW := bw_in (List.mem_of_getElem? (i := 1036) (by rfl)) (by rfl)
set_option maxRecDepth 100000 in
theorem in_X5_parseBlast : Cond.instanceMethod yX5_parseBlast ∈ BW := bw_in (List.mem_of_getElem? (i := 1038) (by rfl)) (by rfl)
set_option maxRecDepth 100000 in
theorem sl_X5_parseBlast : Cond.selects RX5 yX5_parseBlast yX5_parseBlast ∈ BW := bw_in (List.mem_of_getElem? (i := 11) (by rfl)) (by rfl)
set_option maxRecDepth 100000 in
theorem cd_X5_parseRoad : Cond.code yX5_parseRoad cX5_parseRoad 5 none ∈ BW := bw_in (List.mem_of_getElem? (i := 1034) (by rfl)) (by rfl)
set_option maxRecDepth 100000 in
theorem ml_RX5_60 : Cond.methodLink RX5 60 yX5_parseRoad ∈ BW := bw_in (List.mem_of_getElem? (i := 1031) (by rfl)) (by rfl)
set_option maxRecDepth 100000 in
theorem in_X5_parseRoad : Cond.instanceMethod yX5_parseRoad ∈ BW := bw_in (List.mem_of_getElem? (i := 1033) (by rfl)) (by rfl)
set_option maxRecDepth 100000 in
theorem sl_X5_parseRoad : Cond.selects RX5 yX5_parseRoad yX5_parseRoad ∈ BW := bw_in (List.mem_of_getElem? (i := 10) (by rfl)) (by rfl)
set_option maxRecDepth 100000 in
theorem cd_X5_parseNeighbour : Cond.code yX5_parseNeighbour cX5_parseNeighbour 6 none ∈ BW := bw_in (List.mem_of_getElem? (i := 989) (by rfl)) (by rfl)
set_option maxRecDepth 100000 in
theorem ml_RX5_54 : Cond.methodLink RX5 54 yX5_parseNeighbour ∈ BW := bw_in (List.mem_of_getElem? (i := 986) (by rfl)) (by rfl)
set_option maxRecDepth 100000 in
theorem in_X5_parseNeighbour : Cond.instanceMethod yX5_parseNeighbour ∈ BW := bw_in (List.mem_of_getElem? (i := 988) (by rfl)) (by rfl)
set_option maxRecDepth 100000 in
theorem sl_X5_parseNeighbour : Cond.selects RX5 yX5_parseNeighbour yX5_parseNeighbour ∈ BW := bw_in (List.mem_of_getElem? (i := 6) (by rfl)) (by rfl)
set_option maxRecDepth 100000 in
theorem cd_X5_parseLine : Cond.code yX5_parseLine cX5_parseLine 3 none ∈ BW := bw_in (List.mem_of_getElem? (i := 960) (by rfl)) (by rfl)
set_option maxRecDepth 100000 in
theorem ml_RX5_33 : Cond.methodLink RX5 33 yX5_parseLine ∈ BW := bw_in (List.mem_of_getElem? (i := 957) (by rfl)) (by rfl)
set_option maxRecDepth 100000 in
theorem in_X5_parseLine : Cond.instanceMethod yX5_parseLine ∈ BW := bw_in (List.mem_of_getElem? (i := 959) (by rfl)) (by rfl)
set_option maxRecDepth 100000 in
theorem sl_X5_parseLine : Cond.selects RX5 yX5_parseLine yX5_parseLine ∈ BW := bw_in (List.mem_of_getElem? (i := 4) (by rfl)) (by rfl)
set_option maxRecDepth 100000 in
theorem cd_X10_tookSemicolon : Cond.code yX10_tookSemicolon cX10_tookSemicolon 1 (some .boolean) ∈ BW := bw_in (List.mem_of_getElem? (i := 1065) (by rfl)) (by rfl)
set_option maxRecDepth 100000 in
theorem ml_RX5_37 : Cond.methodLink RX5 37 yX10_tookSemicolon ∈ BW := bw_in (List.mem_of_getElem? (i := 1062) (by rfl)) (by rfl)
set_option maxRecDepth 100000 in
theorem in_X10_tookSemicolon : Cond.instanceMethod yX10_tookSemicolon ∈ BW := bw_in (List.mem_of_getElem? (i := 1063) (by rfl)) (by rfl)
set_option maxRecDepth 100000 in
theorem sl_X10_tookSemicolon : Cond.selects RX10 yX10_tookSemicolon yX10_tookSemicolon ∈ BW := bw_in (List.mem_of_getElem? (i := 1064) (by rfl)) (by rfl)
set_option maxRecDepth 100000 in
theorem at_RX11_94 : (∀ w ∈ vx_atS RX11 94 "java/lang/IllegalArgumentException" ["java/lang/RuntimeException", "java/lang/Exception"], w ∈ BW) ∧ ∀ w ∈ Cond.classLink RX11 90 "java/lang/IllegalArgumentException" :: Cond.initialized "java/lang/IllegalArgumentException" :: vx_atS RX11 94 "java/lang/IllegalArgumentException" ["java/lang/RuntimeException", "java/lang/Exception"], vx_ot w = true :=
  ⟨fun w h => bw_in (of_decide_eq_true (List.all_eq_true.mp (show (vx_atS RX11 94 "java/lang/IllegalArgumentException" ["java/lang/RuntimeException", "java/lang/Exception"]).all (fun w => decide (w ∈ lw_tbl)) = true by decide +kernel) w h)) (List.all_eq_true.mp (show (vx_atS RX11 94 "java/lang/IllegalArgumentException" ["java/lang/RuntimeException", "java/lang/Exception"]).all wok = true by decide +kernel) w h), fun w h => List.all_eq_true.mp (show (Cond.classLink RX11 90 "java/lang/IllegalArgumentException" :: Cond.initialized "java/lang/IllegalArgumentException" :: vx_atS RX11 94 "java/lang/IllegalArgumentException" ["java/lang/RuntimeException", "java/lang/Exception"]).all vx_ot = true by decide +kernel) w h⟩
set_option maxRecDepth 100000 in
theorem at_RX11_360 : (∀ w ∈ vx_atS RX11 360 "java/lang/IndexOutOfBoundsException" ["java/lang/RuntimeException", "java/lang/Exception"], w ∈ BW) ∧ ∀ w ∈ Cond.classLink RX11 356 "java/lang/IndexOutOfBoundsException" :: Cond.initialized "java/lang/IndexOutOfBoundsException" :: vx_atS RX11 360 "java/lang/IndexOutOfBoundsException" ["java/lang/RuntimeException", "java/lang/Exception"], vx_ot w = true :=
  ⟨fun w h => bw_in (of_decide_eq_true (List.all_eq_true.mp (show (vx_atS RX11 360 "java/lang/IndexOutOfBoundsException" ["java/lang/RuntimeException", "java/lang/Exception"]).all (fun w => decide (w ∈ lw_tbl)) = true by decide +kernel) w h)) (List.all_eq_true.mp (show (vx_atS RX11 360 "java/lang/IndexOutOfBoundsException" ["java/lang/RuntimeException", "java/lang/Exception"]).all wok = true by decide +kernel) w h), fun w h => List.all_eq_true.mp (show (Cond.classLink RX11 356 "java/lang/IndexOutOfBoundsException" :: Cond.initialized "java/lang/IndexOutOfBoundsException" :: vx_atS RX11 360 "java/lang/IndexOutOfBoundsException" ["java/lang/RuntimeException", "java/lang/Exception"]).all vx_ot = true by decide +kernel) w h⟩
