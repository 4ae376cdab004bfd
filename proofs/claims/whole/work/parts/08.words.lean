set_option maxRecDepth 100000 in
theorem ly_0_0 : u_lay RX0 TX0 0 ∈ BW := bw_in (List.mem_of_getElem? (i := 393) (by rfl)) (by rfl)
set_option maxRecDepth 100000 in
theorem ly_0_1 : u_lay RX0 TX0 1 ∈ BW := bw_in (List.mem_of_getElem? (i := 395) (by rfl)) (by rfl)
set_option maxRecDepth 100000 in
theorem ly_0_2 : u_lay RX0 TX0 2 ∈ BW := bw_in (List.mem_of_getElem? (i := 397) (by rfl)) (by rfl)
set_option maxRecDepth 100000 in
theorem ly_0_3 : u_lay RX0 TX0 3 ∈ BW := bw_in (List.mem_of_getElem? (i := 399) (by rfl)) (by rfl)
set_option maxRecDepth 100000 in
theorem ly_0_4 : u_lay RX0 TX0 4 ∈ BW := bw_in (List.mem_of_getElem? (i := 401) (by rfl)) (by rfl)
set_option maxRecDepth 100000 in
theorem ly_0_5 : u_lay RX0 TX0 5 ∈ BW := bw_in (List.mem_of_getElem? (i := 403) (by rfl)) (by rfl)
set_option maxRecDepth 100000 in
theorem ly_0_6 : u_lay RX0 TX0 6 ∈ BW := bw_in (List.mem_of_getElem? (i := 405) (by rfl)) (by rfl)
set_option maxRecDepth 100000 in
theorem ly_0_7 : u_lay RX0 TX0 7 ∈ BW := bw_in (List.mem_of_getElem? (i := 407) (by rfl)) (by rfl)
set_option maxRecDepth 100000 in
theorem ly_0_8 : u_lay RX0 TX0 8 ∈ BW := bw_in (List.mem_of_getElem? (i := 409) (by rfl)) (by rfl)
set_option maxRecDepth 100000 in
theorem ly_0_9 : u_lay RX0 TX0 9 ∈ BW := bw_in (List.mem_of_getElem? (i := 411) (by rfl)) (by rfl)
set_option maxRecDepth 100000 in
theorem ly_0_10 : u_lay RX0 TX0 10 ∈ BW := bw_in (List.mem_of_getElem? (i := 413) (by rfl)) (by rfl)
set_option maxRecDepth 100000 in
theorem ly_0_11 : u_lay RX0 TX0 11 ∈ BW := bw_in (List.mem_of_getElem? (i := 415) (by rfl)) (by rfl)
set_option maxRecDepth 100000 in
theorem ly_0_12 : u_lay RX0 TX0 12 ∈ BW := bw_in (List.mem_of_getElem? (i := 417) (by rfl)) (by rfl)
set_option maxRecDepth 100000 in
theorem ly_0_13 : u_lay RX0 TX0 13 ∈ BW := bw_in (List.mem_of_getElem? (i := 419) (by rfl)) (by rfl)
set_option maxRecDepth 100000 in
theorem inB0 : ∀ w ∈ u_ws RX0 TX0 14, w ∈ BW := (List.forall_mem_cons.mpr ⟨ly_0_0, (List.forall_mem_cons.mpr ⟨ly_0_1, (List.forall_mem_cons.mpr ⟨ly_0_2, (List.forall_mem_cons.mpr ⟨ly_0_3, (List.forall_mem_cons.mpr ⟨ly_0_4, (List.forall_mem_cons.mpr ⟨ly_0_5, (List.forall_mem_cons.mpr ⟨ly_0_6, (List.forall_mem_cons.mpr ⟨ly_0_7, (List.forall_mem_cons.mpr ⟨ly_0_8, (List.forall_mem_cons.mpr ⟨ly_0_9, (List.forall_mem_cons.mpr ⟨ly_0_10, (List.forall_mem_cons.mpr ⟨ly_0_11, (List.forall_mem_cons.mpr ⟨ly_0_12, (List.forall_mem_cons.mpr ⟨ly_0_13, (fun _ h => absurd h List.not_mem_nil)⟩)⟩)⟩)⟩)⟩)⟩)⟩)⟩)⟩)⟩)⟩)⟩)⟩)⟩)
set_option maxRecDepth 100000 in
theorem KX0 : KC 0 RX0 TX0 14 tyX0 := ⟨rfl, inB0, tyX0_ok, nmX0, by decide⟩
set_option maxRecDepth 100000 in
theorem ly_1_0 : u_lay RX1 TX1 0 ∈ BW := bw_in (List.mem_of_getElem? (i := 259) (by rfl)) (by rfl)
set_option maxRecDepth 100000 in
theorem ly_1_1 : u_lay RX1 TX1 1 ∈ BW := bw_in (List.mem_of_getElem? (i := 261) (by rfl)) (by rfl)
set_option maxRecDepth 100000 in
theorem inB1 : ∀ w ∈ u_ws RX1 TX1 2, w ∈ BW := (List.forall_mem_cons.mpr ⟨ly_1_0, (List.forall_mem_cons.mpr ⟨ly_1_1, (fun _ h => absurd h List.not_mem_nil)⟩)⟩)
set_option maxRecDepth 100000 in
theorem KX1 : KC 1 RX1 TX1 2 tyX1 := ⟨rfl, inB1, tyX1_ok, nmX1, by decide⟩
set_option maxRecDepth 100000 in
theorem ly_2_0 : u_lay RX2 TX2 0 ∈ BW := bw_in (List.mem_of_getElem? (i := 198) (by rfl)) (by rfl)
set_option maxRecDepth 100000 in
theorem ly_2_1 : u_lay RX2 TX2 1 ∈ BW := bw_in (List.mem_of_getElem? (i := 200) (by rfl)) (by rfl)
set_option maxRecDepth 100000 in
theorem ly_2_2 : u_lay RX2 TX2 2 ∈ BW := bw_in (List.mem_of_getElem? (i := 202) (by rfl)) (by rfl)
set_option maxRecDepth 100000 in
theorem inB2 : ∀ w ∈ u_ws RX2 TX2 3, w ∈ BW := (List.forall_mem_cons.mpr ⟨ly_2_0, (List.forall_mem_cons.mpr ⟨ly_2_1, (List.forall_mem_cons.mpr ⟨ly_2_2, (fun _ h => absurd h List.not_mem_nil)⟩)⟩)⟩)
set_option maxRecDepth 100000 in
theorem KX2 : KC 2 RX2 TX2 3 tyX2 := ⟨rfl, inB2, tyX2_ok, nmX2, by decide⟩
set_option maxRecDepth 100000 in
theorem ly_3_0 : u_lay RX3 TX3 0 ∈ BW := bw_in (List.mem_of_getElem? (i := 276) (by rfl)) (by rfl)
set_option maxRecDepth 100000 in
theorem ly_3_1 : u_lay RX3 TX3 1 ∈ BW := bw_in (List.mem_of_getElem? (i := 278) (by rfl)) (by rfl)
set_option maxRecDepth 100000 in
theorem ly_3_2 : u_lay RX3 TX3 2 ∈ BW := bw_in (List.mem_of_getElem? (i := 280) (by rfl)) (by rfl)
set_option maxRecDepth 100000 in
theorem inB3 : ∀ w ∈ u_ws RX3 TX3 3, w ∈ BW := (List.forall_mem_cons.mpr ⟨ly_3_0, (List.forall_mem_cons.mpr ⟨ly_3_1, (List.forall_mem_cons.mpr ⟨ly_3_2, (fun _ h => absurd h List.not_mem_nil)⟩)⟩)⟩)
set_option maxRecDepth 100000 in
theorem KX3 : KC 3 RX3 TX3 3 tyX3 := ⟨rfl, inB3, tyX3_ok, nmX3, by decide⟩
set_option maxRecDepth 100000 in
theorem ly_4_0 : u_lay RX4 TX4 0 ∈ BW := bw_in (List.mem_of_getElem? (i := 314) (by rfl)) (by rfl)
set_option maxRecDepth 100000 in
theorem ly_4_1 : u_lay RX4 TX4 1 ∈ BW := bw_in (List.mem_of_getElem? (i := 316) (by rfl)) (by rfl)
set_option maxRecDepth 100000 in
theorem ly_4_2 : u_lay RX4 TX4 2 ∈ BW := bw_in (List.mem_of_getElem? (i := 318) (by rfl)) (by rfl)
set_option maxRecDepth 100000 in
theorem ly_4_3 : u_lay RX4 TX4 3 ∈ BW := bw_in (List.mem_of_getElem? (i := 320) (by rfl)) (by rfl)
set_option maxRecDepth 100000 in
theorem ly_4_4 : u_lay RX4 TX4 4 ∈ BW := bw_in (List.mem_of_getElem? (i := 322) (by rfl)) (by rfl)
set_option maxRecDepth 100000 in
theorem ly_4_5 : u_lay RX4 TX4 5 ∈ BW := bw_in (List.mem_of_getElem? (i := 324) (by rfl)) (by rfl)
set_option maxRecDepth 100000 in
theorem inB4 : ∀ w ∈ u_ws RX4 TX4 6, w ∈ BW := (List.forall_mem_cons.mpr ⟨ly_4_0, (List.forall_mem_cons.mpr ⟨ly_4_1, (List.forall_mem_cons.mpr ⟨ly_4_2, (List.forall_mem_cons.mpr ⟨ly_4_3, (List.forall_mem_cons.mpr ⟨ly_4_4, (List.forall_mem_cons.mpr ⟨ly_4_5, (fun _ h => absurd h List.not_mem_nil)⟩)⟩)⟩)⟩)⟩)⟩)
set_option maxRecDepth 100000 in
theorem KX4 : KC 4 RX4 TX4 6 tyX4 := ⟨rfl, inB4, tyX4_ok, nmX4, by decide⟩
set_option maxRecDepth 100000 in
theorem ly_5_0 : u_lay RX5 TX5 0 ∈ BW := bw_in (List.mem_of_getElem? (i := 183) (by rfl)) (by rfl)
set_option maxRecDepth 100000 in
theorem inB5 : ∀ w ∈ u_ws RX5 TX5 1, w ∈ BW := (List.forall_mem_cons.mpr ⟨ly_5_0, (fun _ h => absurd h List.not_mem_nil)⟩)
set_option maxRecDepth 100000 in
theorem KX5 : KC 5 RX5 TX5 1 tyX5 := ⟨rfl, inB5, tyX5_ok, nmX5, by decide⟩
set_option maxRecDepth 100000 in
theorem ly_6_0 : u_lay RX6 TX6 0 ∈ BW := bw_in (List.mem_of_getElem? (i := 221) (by rfl)) (by rfl)
set_option maxRecDepth 100000 in
theorem ly_6_1 : u_lay RX6 TX6 1 ∈ BW := bw_in (List.mem_of_getElem? (i := 223) (by rfl)) (by rfl)
set_option maxRecDepth 100000 in
theorem ly_6_2 : u_lay RX6 TX6 2 ∈ BW := bw_in (List.mem_of_getElem? (i := 225) (by rfl)) (by rfl)
set_option maxRecDepth 100000 in
theorem ly_6_3 : u_lay RX6 TX6 3 ∈ BW := bw_in (List.mem_of_getElem? (i := 227) (by rfl)) (by rfl)
set_option maxRecDepth 100000 in
theorem ly_6_4 : u_lay RX6 TX6 4 ∈ BW := bw_in (List.mem_of_getElem? (i := 229) (by rfl)) (by rfl)
set_option maxRecDepth 100000 in
theorem ly_6_5 : u_lay RX6 TX6 5 ∈ BW := bw_in (List.mem_of_getElem? (i := 231) (by rfl)) (by rfl)
set_option maxRecDepth 100000 in
theorem inB6 : ∀ w ∈ u_ws RX6 TX6 6, w ∈ BW := (List.forall_mem_cons.mpr ⟨ly_6_0, (List.forall_mem_cons.mpr ⟨ly_6_1, (List.forall_mem_cons.mpr ⟨ly_6_2, (List.forall_mem_cons.mpr ⟨ly_6_3, (List.forall_mem_cons.mpr ⟨ly_6_4, (List.forall_mem_cons.mpr ⟨ly_6_5, (fun _ h => absurd h List.not_mem_nil)⟩)⟩)⟩)⟩)⟩)⟩)
set_option maxRecDepth 100000 in
theorem KX6 : KC 6 RX6 TX6 6 tyX6 := ⟨rfl, inB6, tyX6_ok, nmX6, by decide⟩
set_option maxRecDepth 100000 in
theorem ly_7_0 : u_lay RX7 TX7 0 ∈ BW := bw_in (List.mem_of_getElem? (i := 340) (by rfl)) (by rfl)
set_option maxRecDepth 100000 in
theorem ly_7_1 : u_lay RX7 TX7 1 ∈ BW := bw_in (List.mem_of_getElem? (i := 342) (by rfl)) (by rfl)
set_option maxRecDepth 100000 in
theorem ly_7_2 : u_lay RX7 TX7 2 ∈ BW := bw_in (List.mem_of_getElem? (i := 344) (by rfl)) (by rfl)
set_option maxRecDepth 100000 in
theorem ly_7_3 : u_lay RX7 TX7 3 ∈ BW := bw_in (List.mem_of_getElem? (i := 346) (by rfl)) (by rfl)
set_option maxRecDepth 100000 in
theorem inB7 : ∀ w ∈ u_ws RX7 TX7 4, w ∈ BW := (List.forall_mem_cons.mpr ⟨ly_7_0, (List.forall_mem_cons.mpr ⟨ly_7_1, (List.forall_mem_cons.mpr ⟨ly_7_2, (List.forall_mem_cons.mpr ⟨ly_7_3, (fun _ h => absurd h List.not_mem_nil)⟩)⟩)⟩)⟩)
set_option maxRecDepth 100000 in
theorem KX7 : KC 7 RX7 TX7 4 tyX7 := ⟨rfl, inB7, tyX7_ok, nmX7, by decide⟩
set_option maxRecDepth 100000 in
theorem ly_8_0 : u_lay RX8 TX8 0 ∈ BW := bw_in (List.mem_of_getElem? (i := 244) (by rfl)) (by rfl)
set_option maxRecDepth 100000 in
theorem ly_8_1 : u_lay RX8 TX8 1 ∈ BW := bw_in (List.mem_of_getElem? (i := 246) (by rfl)) (by rfl)
set_option maxRecDepth 100000 in
theorem inB8 : ∀ w ∈ u_ws RX8 TX8 2, w ∈ BW := (List.forall_mem_cons.mpr ⟨ly_8_0, (List.forall_mem_cons.mpr ⟨ly_8_1, (fun _ h => absurd h List.not_mem_nil)⟩)⟩)
set_option maxRecDepth 100000 in
theorem KX8 : KC 8 RX8 TX8 2 tyX8 := ⟨rfl, inB8, tyX8_ok, nmX8, by decide⟩
set_option maxRecDepth 100000 in
theorem ly_9_0 : u_lay RX9 TX9 0 ∈ BW := bw_in (List.mem_of_getElem? (i := 479) (by rfl)) (by rfl)
set_option maxRecDepth 100000 in
theorem ly_9_1 : u_lay RX9 TX9 1 ∈ BW := bw_in (List.mem_of_getElem? (i := 481) (by rfl)) (by rfl)
set_option maxRecDepth 100000 in
theorem ly_9_2 : u_lay RX9 TX9 2 ∈ BW := bw_in (List.mem_of_getElem? (i := 483) (by rfl)) (by rfl)
set_option maxRecDepth 100000 in
theorem ly_9_3 : u_lay RX9 TX9 3 ∈ BW := bw_in (List.mem_of_getElem? (i := 485) (by rfl)) (by rfl)
set_option maxRecDepth 100000 in
theorem ly_9_4 : u_lay RX9 TX9 4 ∈ BW := bw_in (List.mem_of_getElem? (i := 487) (by rfl)) (by rfl)
set_option maxRecDepth 100000 in
theorem ly_9_5 : u_lay RX9 TX9 5 ∈ BW := bw_in (List.mem_of_getElem? (i := 489) (by rfl)) (by rfl)
set_option maxRecDepth 100000 in
theorem ly_9_6 : u_lay RX9 TX9 6 ∈ BW := bw_in (List.mem_of_getElem? (i := 491) (by rfl)) (by rfl)
set_option maxRecDepth 100000 in
theorem ly_9_7 : u_lay RX9 TX9 7 ∈ BW := bw_in (List.mem_of_getElem? (i := 493) (by rfl)) (by rfl)
set_option maxRecDepth 100000 in
theorem ly_9_8 : u_lay RX9 TX9 8 ∈ BW := bw_in (List.mem_of_getElem? (i := 495) (by rfl)) (by rfl)
set_option maxRecDepth 100000 in
theorem ly_9_9 : u_lay RX9 TX9 9 ∈ BW := bw_in (List.mem_of_getElem? (i := 497) (by rfl)) (by rfl)
set_option maxRecDepth 100000 in
theorem ly_9_10 : u_lay RX9 TX9 10 ∈ BW := bw_in (List.mem_of_getElem? (i := 499) (by rfl)) (by rfl)
set_option maxRecDepth 100000 in
theorem ly_9_11 : u_lay RX9 TX9 11 ∈ BW := bw_in (List.mem_of_getElem? (i := 501) (by rfl)) (by rfl)
set_option maxRecDepth 100000 in
theorem ly_9_12 : u_lay RX9 TX9 12 ∈ BW := bw_in (List.mem_of_getElem? (i := 503) (by rfl)) (by rfl)
set_option maxRecDepth 100000 in
theorem ly_9_13 : u_lay RX9 TX9 13 ∈ BW := bw_in (List.mem_of_getElem? (i := 505) (by rfl)) (by rfl)
set_option maxRecDepth 100000 in
theorem ly_9_14 : u_lay RX9 TX9 14 ∈ BW := bw_in (List.mem_of_getElem? (i := 507) (by rfl)) (by rfl)
set_option maxRecDepth 100000 in
theorem ly_9_15 : u_lay RX9 TX9 15 ∈ BW := bw_in (List.mem_of_getElem? (i := 509) (by rfl)) (by rfl)
set_option maxRecDepth 100000 in
theorem ly_9_16 : u_lay RX9 TX9 16 ∈ BW := bw_in (List.mem_of_getElem? (i := 511) (by rfl)) (by rfl)
set_option maxRecDepth 100000 in
theorem ly_9_17 : u_lay RX9 TX9 17 ∈ BW := bw_in (List.mem_of_getElem? (i := 513) (by rfl)) (by rfl)
set_option maxRecDepth 100000 in
theorem inB9 : ∀ w ∈ u_ws RX9 TX9 18, w ∈ BW := (List.forall_mem_cons.mpr ⟨ly_9_0, (List.forall_mem_cons.mpr ⟨ly_9_1, (List.forall_mem_cons.mpr ⟨ly_9_2, (List.forall_mem_cons.mpr ⟨ly_9_3, (List.forall_mem_cons.mpr ⟨ly_9_4, (List.forall_mem_cons.mpr ⟨ly_9_5, (List.forall_mem_cons.mpr ⟨ly_9_6, (List.forall_mem_cons.mpr ⟨ly_9_7, (List.forall_mem_cons.mpr ⟨ly_9_8, (List.forall_mem_cons.mpr ⟨ly_9_9, (List.forall_mem_cons.mpr ⟨ly_9_10, (List.forall_mem_cons.mpr ⟨ly_9_11, (List.forall_mem_cons.mpr ⟨ly_9_12, (List.forall_mem_cons.mpr ⟨ly_9_13, (List.forall_mem_cons.mpr ⟨ly_9_14, (List.forall_mem_cons.mpr ⟨ly_9_15, (List.forall_mem_cons.mpr ⟨ly_9_16, (List.forall_mem_cons.mpr ⟨ly_9_17, (fun _ h => absurd h List.not_mem_nil)⟩)⟩)⟩)⟩)⟩)⟩)⟩)⟩)⟩)⟩)⟩)⟩)⟩)⟩)⟩)⟩)⟩)⟩)
set_option maxRecDepth 100000 in
theorem KX9 : KC 9 RX9 TX9 18 tyX9 := ⟨rfl, inB9, tyX9_ok, nmX9, by decide⟩
set_option maxRecDepth 100000 in
theorem ly_10_0 : u_lay RX10 TX10 0 ∈ BW := bw_in (List.mem_of_getElem? (i := 169) (by rfl)) (by rfl)
set_option maxRecDepth 100000 in
theorem ly_10_1 : u_lay RX10 TX10 1 ∈ BW := bw_in (List.mem_of_getElem? (i := 171) (by rfl)) (by rfl)
set_option maxRecDepth 100000 in
theorem ly_10_2 : u_lay RX10 TX10 2 ∈ BW := bw_in (List.mem_of_getElem? (i := 173) (by rfl)) (by rfl)
set_option maxRecDepth 100000 in
theorem ly_10_3 : u_lay RX10 TX10 3 ∈ BW := bw_in (List.mem_of_getElem? (i := 175) (by rfl)) (by rfl)
set_option maxRecDepth 100000 in
theorem ly_10_4 : u_lay RX10 TX10 4 ∈ BW := bw_in (List.mem_of_getElem? (i := 177) (by rfl)) (by rfl)
set_option maxRecDepth 100000 in
theorem inB10 : ∀ w ∈ u_ws RX10 TX10 5, w ∈ BW := (List.forall_mem_cons.mpr ⟨ly_10_0, (List.forall_mem_cons.mpr ⟨ly_10_1, (List.forall_mem_cons.mpr ⟨ly_10_2, (List.forall_mem_cons.mpr ⟨ly_10_3, (List.forall_mem_cons.mpr ⟨ly_10_4, (fun _ h => absurd h List.not_mem_nil)⟩)⟩)⟩)⟩)⟩)
set_option maxRecDepth 100000 in
theorem KX10 : KC 10 RX10 TX10 5 tyX10 := ⟨rfl, inB10, tyX10_ok, nmX10, by decide⟩
set_option maxRecDepth 100000 in
theorem ly_11_0 : u_lay RX11 TX11 0 ∈ BW := bw_in (List.mem_of_getElem? (i := 526) (by rfl)) (by rfl)
set_option maxRecDepth 100000 in
theorem ly_11_1 : u_lay RX11 TX11 1 ∈ BW := bw_in (List.mem_of_getElem? (i := 528) (by rfl)) (by rfl)
set_option maxRecDepth 100000 in
theorem ly_11_2 : u_lay RX11 TX11 2 ∈ BW := bw_in (List.mem_of_getElem? (i := 530) (by rfl)) (by rfl)
set_option maxRecDepth 100000 in
theorem ly_11_3 : u_lay RX11 TX11 3 ∈ BW := bw_in (List.mem_of_getElem? (i := 532) (by rfl)) (by rfl)
set_option maxRecDepth 100000 in
theorem ly_11_4 : u_lay RX11 TX11 4 ∈ BW := bw_in (List.mem_of_getElem? (i := 534) (by rfl)) (by rfl)
set_option maxRecDepth 100000 in
theorem ly_11_5 : u_lay RX11 TX11 5 ∈ BW := bw_in (List.mem_of_getElem? (i := 536) (by rfl)) (by rfl)
set_option maxRecDepth 100000 in
theorem ly_11_6 : u_lay RX11 TX11 6 ∈ BW := bw_in (List.mem_of_getElem? (i := 538) (by rfl)) (by rfl)
set_option maxRecDepth 100000 in
theorem ly_11_7 : u_lay RX11 TX11 7 ∈ BW := bw_in (List.mem_of_getElem? (i := 540) (by rfl)) (by rfl)
set_option maxRecDepth 100000 in
theorem ly_11_8 : u_lay RX11 TX11 8 ∈ BW := bw_in (List.mem_of_getElem? (i := 542) (by rfl)) (by rfl)
set_option maxRecDepth 100000 in
theorem ly_11_9 : u_lay RX11 TX11 9 ∈ BW := bw_in (List.mem_of_getElem? (i := 544) (by rfl)) (by rfl)
set_option maxRecDepth 100000 in
theorem inB11 : ∀ w ∈ u_ws RX11 TX11 10, w ∈ BW := (List.forall_mem_cons.mpr ⟨ly_11_0, (List.forall_mem_cons.mpr ⟨ly_11_1, (List.forall_mem_cons.mpr ⟨ly_11_2, (List.forall_mem_cons.mpr ⟨ly_11_3, (List.forall_mem_cons.mpr ⟨ly_11_4, (List.forall_mem_cons.mpr ⟨ly_11_5, (List.forall_mem_cons.mpr ⟨ly_11_6, (List.forall_mem_cons.mpr ⟨ly_11_7, (List.forall_mem_cons.mpr ⟨ly_11_8, (List.forall_mem_cons.mpr ⟨ly_11_9, (fun _ h => absurd h List.not_mem_nil)⟩)⟩)⟩)⟩)⟩)⟩)⟩)⟩)⟩)⟩)
set_option maxRecDepth 100000 in
theorem KX11 : KC 11 RX11 TX11 10 tyX11 := ⟨rfl, inB11, tyX11_ok, nmX11, by decide⟩
set_option maxRecDepth 100000 in
theorem ly_12_0 : u_lay RX12 TX12 0 ∈ BW := bw_in (List.mem_of_getElem? (i := 1577) (by rfl)) (by rfl)
set_option maxRecDepth 100000 in
theorem ly_12_1 : u_lay RX12 TX12 1 ∈ BW := bw_in (List.mem_of_getElem? (i := 1579) (by rfl)) (by rfl)
set_option maxRecDepth 100000 in
theorem ly_12_2 : u_lay RX12 TX12 2 ∈ BW := bw_in (List.mem_of_getElem? (i := 1581) (by rfl)) (by rfl)
set_option maxRecDepth 100000 in
theorem ly_12_3 : u_lay RX12 TX12 3 ∈ BW := bw_in (List.mem_of_getElem? (i := 1583) (by rfl)) (by rfl)
set_option maxRecDepth 100000 in
theorem ly_12_4 : u_lay RX12 TX12 4 ∈ BW := bw_in (List.mem_of_getElem? (i := 1585) (by rfl)) (by rfl)
set_option maxRecDepth 100000 in
theorem ly_12_5 : u_lay RX12 TX12 5 ∈ BW := bw_in (List.mem_of_getElem? (i := 1587) (by rfl)) (by rfl)
set_option maxRecDepth 100000 in
theorem ly_12_6 : u_lay RX12 TX12 6 ∈ BW := bw_in (List.mem_of_getElem? (i := 1589) (by rfl)) (by rfl)
set_option maxRecDepth 100000 in
theorem ly_12_7 : u_lay RX12 TX12 7 ∈ BW := bw_in (List.mem_of_getElem? (i := 1591) (by rfl)) (by rfl)
set_option maxRecDepth 100000 in
theorem ly_12_8 : u_lay RX12 TX12 8 ∈ BW := bw_in (List.mem_of_getElem? (i := 1593) (by rfl)) (by rfl)
set_option maxRecDepth 100000 in
theorem ly_12_9 : u_lay RX12 TX12 9 ∈ BW := bw_in (List.mem_of_getElem? (i := 1595) (by rfl)) (by rfl)
set_option maxRecDepth 100000 in
theorem ly_12_10 : u_lay RX12 TX12 10 ∈ BW := bw_in (List.mem_of_getElem? (i := 1597) (by rfl)) (by rfl)
set_option maxRecDepth 100000 in
theorem ly_12_11 : u_lay RX12 TX12 11 ∈ BW := bw_in (List.mem_of_getElem? (i := 1599) (by rfl)) (by rfl)
set_option maxRecDepth 100000 in
theorem ly_12_12 : u_lay RX12 TX12 12 ∈ BW := bw_in (List.mem_of_getElem? (i := 1601) (by rfl)) (by rfl)
set_option maxRecDepth 100000 in
theorem ly_12_13 : u_lay RX12 TX12 13 ∈ BW := bw_in (List.mem_of_getElem? (i := 1603) (by rfl)) (by rfl)
set_option maxRecDepth 100000 in
theorem ly_12_14 : u_lay RX12 TX12 14 ∈ BW := bw_in (List.mem_of_getElem? (i := 1605) (by rfl)) (by rfl)
set_option maxRecDepth 100000 in
theorem ly_12_15 : u_lay RX12 TX12 15 ∈ BW := bw_in (List.mem_of_getElem? (i := 1607) (by rfl)) (by rfl)
set_option maxRecDepth 100000 in
theorem ly_12_16 : u_lay RX12 TX12 16 ∈ BW := bw_in (List.mem_of_getElem? (i := 1609) (by rfl)) (by rfl)
set_option maxRecDepth 100000 in
theorem ly_12_17 : u_lay RX12 TX12 17 ∈ BW := bw_in (List.mem_of_getElem? (i := 1611) (by rfl)) (by rfl)
set_option maxRecDepth 100000 in
theorem ly_12_18 : u_lay RX12 TX12 18 ∈ BW := bw_in (List.mem_of_getElem? (i := 1613) (by rfl)) (by rfl)
set_option maxRecDepth 100000 in
theorem ly_12_19 : u_lay RX12 TX12 19 ∈ BW := bw_in (List.mem_of_getElem? (i := 1615) (by rfl)) (by rfl)
set_option maxRecDepth 100000 in
theorem ly_12_20 : u_lay RX12 TX12 20 ∈ BW := bw_in (List.mem_of_getElem? (i := 1617) (by rfl)) (by rfl)
set_option maxRecDepth 100000 in
theorem ly_12_21 : u_lay RX12 TX12 21 ∈ BW := bw_in (List.mem_of_getElem? (i := 1619) (by rfl)) (by rfl)
set_option maxRecDepth 100000 in
theorem ly_12_22 : u_lay RX12 TX12 22 ∈ BW := bw_in (List.mem_of_getElem? (i := 1621) (by rfl)) (by rfl)
set_option maxRecDepth 100000 in
theorem ly_12_23 : u_lay RX12 TX12 23 ∈ BW := bw_in (List.mem_of_getElem? (i := 1623) (by rfl)) (by rfl)
set_option maxRecDepth 100000 in
theorem ly_12_24 : u_lay RX12 TX12 24 ∈ BW := bw_in (List.mem_of_getElem? (i := 1625) (by rfl)) (by rfl)
set_option maxRecDepth 100000 in
theorem ly_12_25 : u_lay RX12 TX12 25 ∈ BW := bw_in (List.mem_of_getElem? (i := 1627) (by rfl)) (by rfl)
set_option maxRecDepth 100000 in
theorem ly_12_26 : u_lay RX12 TX12 26 ∈ BW := bw_in (List.mem_of_getElem? (i := 1629) (by rfl)) (by rfl)
set_option maxRecDepth 100000 in
theorem inB12 : ∀ w ∈ u_ws RX12 TX12 27, w ∈ BW := (List.forall_mem_cons.mpr ⟨ly_12_0, (List.forall_mem_cons.mpr ⟨ly_12_1, (List.forall_mem_cons.mpr ⟨ly_12_2, (List.forall_mem_cons.mpr ⟨ly_12_3, (List.forall_mem_cons.mpr ⟨ly_12_4, (List.forall_mem_cons.mpr ⟨ly_12_5, (List.forall_mem_cons.mpr ⟨ly_12_6, (List.forall_mem_cons.mpr ⟨ly_12_7, (List.forall_mem_cons.mpr ⟨ly_12_8, (List.forall_mem_cons.mpr ⟨ly_12_9, (List.forall_mem_cons.mpr ⟨ly_12_10, (List.forall_mem_cons.mpr ⟨ly_12_11, (List.forall_mem_cons.mpr ⟨ly_12_12, (List.forall_mem_cons.mpr ⟨ly_12_13, (List.forall_mem_cons.mpr ⟨ly_12_14, (List.forall_mem_cons.mpr ⟨ly_12_15, (List.forall_mem_cons.mpr ⟨ly_12_16, (List.forall_mem_cons.mpr ⟨ly_12_17, (List.forall_mem_cons.mpr ⟨ly_12_18, (List.forall_mem_cons.mpr ⟨ly_12_19, (List.forall_mem_cons.mpr ⟨ly_12_20, (List.forall_mem_cons.mpr ⟨ly_12_21, (List.forall_mem_cons.mpr ⟨ly_12_22, (List.forall_mem_cons.mpr ⟨ly_12_23, (List.forall_mem_cons.mpr ⟨ly_12_24, (List.forall_mem_cons.mpr ⟨ly_12_25, (List.forall_mem_cons.mpr ⟨ly_12_26, (fun _ h => absurd h List.not_mem_nil)⟩)⟩)⟩)⟩)⟩)⟩)⟩)⟩)⟩)⟩)⟩)⟩)⟩)⟩)⟩)⟩)⟩)⟩)⟩)⟩)⟩)⟩)⟩)⟩)⟩)⟩)⟩)
set_option maxRecDepth 100000 in
theorem KX12 : KC 12 RX12 TX12 27 tyX12 := ⟨rfl, inB12, tyX12_ok, nmX12, by decide⟩
set_option maxRecDepth 100000 in
theorem fl_RX11_10 : Cond.fieldLink RX11 10 "BlastPlanner" "parser" "LBlastPlanner$Parser;" ∈ BW := bw_in (List.mem_of_getElem? (i := 516) (by rfl)) (by rfl)
set_option maxRecDepth 100000 in
theorem fl_RX11_68 : Cond.fieldLink RX11 68 "BlastPlanner$Parser" "tokens" "LBlastPlanner$Tokens;" ∈ BW := bw_in (List.mem_of_getElem? (i := 182) (by rfl)) (by rfl)
set_option maxRecDepth 100000 in
theorem fl_RX11_82 : Cond.fieldLink RX11 82 "BlastPlanner$Tokens" "length" "I" ∈ BW := bw_in (List.mem_of_getElem? (i := 162) (by rfl)) (by rfl)
set_option maxRecDepth 100000 in
theorem fl_RX11_65 : Cond.fieldLink RX11 65 "BlastPlanner" "draft" "LBlastPlanner$Site;" ∈ BW := bw_in (List.mem_of_getElem? (i := 525) (by rfl)) (by rfl)
set_option maxRecDepth 100000 in
theorem fl_RX11_109 : Cond.fieldLink RX11 109 "BlastPlanner$Tokens" "wrongOffset" "I" ∈ BW := bw_in (List.mem_of_getElem? (i := 166) (by rfl)) (by rfl)
set_option maxRecDepth 100000 in
theorem fl_RX11_112 : Cond.fieldLink RX11 112 "BlastPlanner$Tokens" "wrongKind" "I" ∈ BW := bw_in (List.mem_of_getElem? (i := 168) (by rfl)) (by rfl)
set_option maxRecDepth 100000 in
theorem fl_RX11_61 : Cond.fieldLink RX11 61 "BlastPlanner" "site" "LBlastPlanner$Site;" ∈ BW := bw_in (List.mem_of_getElem? (i := 524) (by rfl)) (by rfl)
set_option maxRecDepth 100000 in
theorem fl_RX11_106 : Cond.fieldLink RX11 106 "BlastPlanner$Site" "blastTotal" "I" ∈ BW := bw_in (List.mem_of_getElem? (i := 464) (by rfl)) (by rfl)
set_option maxRecDepth 100000 in
theorem fl_RX11_115 : Cond.fieldLink RX11 115 "BlastPlanner$Site" "neighbourTotal" "I" ∈ BW := bw_in (List.mem_of_getElem? (i := 455) (by rfl)) (by rfl)
set_option maxRecDepth 100000 in
theorem fl_RX11_118 : Cond.fieldLink RX11 118 "BlastPlanner$Site" "roadTotal" "I" ∈ BW := bw_in (List.mem_of_getElem? (i := 459) (by rfl)) (by rfl)
set_option maxRecDepth 100000 in
theorem fl_RX11_47 : Cond.fieldLink RX11 47 "BlastPlanner" "minutes" "LBlastPlanner$MinuteSet;" ∈ BW := bw_in (List.mem_of_getElem? (i := 521) (by rfl)) (by rfl)
set_option maxRecDepth 100000 in
theorem fl_RX11_33 : Cond.fieldLink RX11 33 "BlastPlanner" "sirens" "LBlastPlanner$SirenList;" ∈ BW := bw_in (List.mem_of_getElem? (i := 519) (by rfl)) (by rfl)
set_option maxRecDepth 100000 in
theorem fl_RX11_19 : Cond.fieldLink RX11 19 "BlastPlanner" "history" "LBlastPlanner$History;" ∈ BW := bw_in (List.mem_of_getElem? (i := 517) (by rfl)) (by rfl)
set_option maxRecDepth 100000 in
theorem fl_RX11_338 : Cond.fieldLink RX11 338 "BlastPlanner$History" "depth" "I" ∈ BW := bw_in (List.mem_of_getElem? (i := 197) (by rfl)) (by rfl)
set_option maxRecDepth 100000 in
theorem fl_RX11_40 : Cond.fieldLink RX11 40 "BlastPlanner" "formatted" "LBlastPlanner$FormattedText;" ∈ BW := bw_in (List.mem_of_getElem? (i := 520) (by rfl)) (by rfl)
set_option maxRecDepth 100000 in
theorem fl_RX11_351 : Cond.fieldLink RX11 351 "BlastPlanner$FormattedText" "length" "I" ∈ BW := bw_in (List.mem_of_getElem? (i := 258) (by rfl)) (by rfl)
set_option maxRecDepth 100000 in
theorem fl_RX11_352 : Cond.fieldLink RX11 352 "BlastPlanner$FormattedText" "bytes" "[B" ∈ BW := bw_in (List.mem_of_getElem? (i := 256) (by rfl)) (by rfl)
set_option maxRecDepth 100000 in
theorem fl_RX11_228 : Cond.fieldLink RX11 228 "BlastPlanner$Site" "times" "[I" ∈ BW := bw_in (List.mem_of_getElem? (i := 448) (by rfl)) (by rfl)
set_option maxRecDepth 100000 in
theorem fl_RX12_3 : Cond.fieldLink RX12 3 "BlastPlannerModel" "thrown" "I" ∈ BW := bw_in (List.mem_of_getElem? (i := 1550) (by rfl)) (by rfl)
set_option maxRecDepth 100000 in
theorem fl_RX12_7 : Cond.fieldLink RX12 7 "BlastPlannerModel" "taped" "I" ∈ BW := bw_in (List.mem_of_getElem? (i := 1553) (by rfl)) (by rfl)
set_option maxRecDepth 100000 in
theorem fl_RX12_10 : Cond.fieldLink RX12 10 "BlastPlannerModel" "five" "[I" ∈ BW := bw_in (List.mem_of_getElem? (i := 1552) (by rfl)) (by rfl)
set_option maxRecDepth 100000 in
theorem fl_RX12_14 : Cond.fieldLink RX12 14 "BlastPlannerModel" "tape" "[B" ∈ BW := bw_in (List.mem_of_getElem? (i := 1551) (by rfl)) (by rfl)
set_option maxRecDepth 100000 in
theorem fl_RX12_18 : Cond.fieldLink RX12 18 "BlastPlannerModel" "errorAt" "I" ∈ BW := bw_in (List.mem_of_getElem? (i := 1559) (by rfl)) (by rfl)
set_option maxRecDepth 100000 in
theorem fl_RX12_21 : Cond.fieldLink RX12 21 "BlastPlannerModel" "kindOfError" "I" ∈ BW := bw_in (List.mem_of_getElem? (i := 1560) (by rfl)) (by rfl)
set_option maxRecDepth 100000 in
theorem fl_RX12_24 : Cond.fieldLink RX12 24 "BlastPlannerModel" "faultAt" "I" ∈ BW := bw_in (List.mem_of_getElem? (i := 1557) (by rfl)) (by rfl)
set_option maxRecDepth 100000 in
theorem fl_RX12_27 : Cond.fieldLink RX12 27 "BlastPlannerModel" "point" "I" ∈ BW := bw_in (List.mem_of_getElem? (i := 1554) (by rfl)) (by rfl)
set_option maxRecDepth 100000 in
theorem fl_RX12_30 : Cond.fieldLink RX12 30 "BlastPlannerModel" "size" "I" ∈ BW := bw_in (List.mem_of_getElem? (i := 1556) (by rfl)) (by rfl)
set_option maxRecDepth 100000 in
theorem cd_X12_hasFailed : Cond.code yX12_hasFailed cX12_hasFailed 1 (some .boolean) ∈ BW := bw_in (List.mem_of_getElem? (i := 1648) (by rfl)) (by rfl)
set_option maxRecDepth 100000 in
theorem ni_RX12 : Cond.initialized RX12 ∈ BW := bw_in (List.mem_of_getElem? (i := 127) (by rfl)) (by rfl)
set_option maxRecDepth 100000 in
theorem ml_RX12_40 : Cond.methodLink RX12 40 yX12_hasFailed ∈ BW := bw_in (List.mem_of_getElem? (i := 1645) (by rfl)) (by rfl)
set_option maxRecDepth 100000 in
theorem in_X12_hasFailed : Cond.instanceMethod yX12_hasFailed ∈ BW := bw_in (List.mem_of_getElem? (i := 1647) (by rfl)) (by rfl)
set_option maxRecDepth 100000 in
theorem sl_X12_hasFailed : Cond.selects RX12 yX12_hasFailed yX12_hasFailed ∈ BW := bw_in (List.mem_of_getElem? (i := 44) (by rfl)) (by rfl)
set_option maxRecDepth 100000 in
theorem fl_RX12_37 : Cond.fieldLink RX12 37 "BlastPlannerModel" "begin" "I" ∈ BW := bw_in (List.mem_of_getElem? (i := 1555) (by rfl)) (by rfl)
set_option maxRecDepth 100000 in
theorem fl_RX12_44 : Cond.fieldLink RX12 44 "BlastPlannerModel" "faultKind" "I" ∈ BW := bw_in (List.mem_of_getElem? (i := 1558) (by rfl)) (by rfl)
set_option maxRecDepth 100000 in
theorem cd_X12_blanks : Cond.code yX12_blanks cX12_blanks 1 none ∈ BW := bw_in (List.mem_of_getElem? (i := 1640) (by rfl)) (by rfl)
set_option maxRecDepth 100000 in
theorem ml_RX12_47 : Cond.methodLink RX12 47 yX12_blanks ∈ BW := bw_in (List.mem_of_getElem? (i := 1637) (by rfl)) (by rfl)
set_option maxRecDepth 100000 in
theorem in_X12_blanks : Cond.instanceMethod yX12_blanks ∈ BW := bw_in (List.mem_of_getElem? (i := 1639) (by rfl)) (by rfl)
set_option maxRecDepth 100000 in
theorem sl_X12_blanks : Cond.selects RX12 yX12_blanks yX12_blanks ∈ BW := bw_in (List.mem_of_getElem? (i := 42) (by rfl)) (by rfl)
set_option maxRecDepth 100000 in
theorem cd_X12_isAt : Cond.code yX12_isAt cX12_isAt 3 (some .boolean) ∈ BW := bw_in (List.mem_of_getElem? (i := 1644) (by rfl)) (by rfl)
set_option maxRecDepth 100000 in
theorem ml_RX12_33 : Cond.methodLink RX12 33 yX12_isAt ∈ BW := bw_in (List.mem_of_getElem? (i := 1641) (by rfl)) (by rfl)
set_option maxRecDepth 100000 in
theorem in_X12_isAt : Cond.instanceMethod yX12_isAt ∈ BW := bw_in (List.mem_of_getElem? (i := 1643) (by rfl)) (by rfl)
set_option maxRecDepth 100000 in
theorem sl_X12_isAt : Cond.selects RX12 yX12_isAt yX12_isAt ∈ BW := bw_in (List.mem_of_getElem? (i := 43) (by rfl)) (by rfl)
set_option maxRecDepth 100000 in
theorem cd_X12_isFigure : Cond.code yX12_isFigure cX12_isFigure 1 (some .boolean) ∈ BW := bw_in (List.mem_of_getElem? (i := 1683) (by rfl)) (by rfl)
set_option maxRecDepth 100000 in
theorem ml_RX12_64 : Cond.methodLink RX12 64 yX12_isFigure ∈ BW := bw_in (List.mem_of_getElem? (i := 1680) (by rfl)) (by rfl)
set_option maxRecDepth 100000 in
theorem in_X12_isFigure : Cond.instanceMethod yX12_isFigure ∈ BW := bw_in (List.mem_of_getElem? (i := 1682) (by rfl)) (by rfl)
set_option maxRecDepth 100000 in
theorem sl_X12_isFigure : Cond.selects RX12 yX12_isFigure yX12_isFigure ∈ BW := bw_in (List.mem_of_getElem? (i := 52) (by rfl)) (by rfl)
set_option maxRecDepth 100000 in
theorem cd_X12_must : Cond.code yX12_must cX12_must 3 none ∈ BW := bw_in (List.mem_of_getElem? (i := 1671) (by rfl)) (by rfl)
set_option maxRecDepth 100000 in
theorem ml_RX12_67 : Cond.methodLink RX12 67 yX12_must ∈ BW := bw_in (List.mem_of_getElem? (i := 1668) (by rfl)) (by rfl)
set_option maxRecDepth 100000 in
theorem in_X12_must : Cond.instanceMethod yX12_must ∈ BW := bw_in (List.mem_of_getElem? (i := 1670) (by rfl)) (by rfl)
set_option maxRecDepth 100000 in
theorem sl_X12_must : Cond.selects RX12 yX12_must yX12_must ∈ BW := bw_in (List.mem_of_getElem? (i := 49) (by rfl)) (by rfl)
set_option maxRecDepth 100000 in
theorem cd_X12_in : Cond.code yX12_in cX12_in 3 (some .boolean) ∈ BW := bw_in (List.mem_of_getElem? (i := 1686) (by rfl)) (by rfl)
set_option maxRecDepth 100000 in
theorem ml_RX12_71 : Cond.methodLink RX12 71 yX12_in ∈ BW := bw_in (List.mem_of_getElem? (i := 1684) (by rfl)) (by rfl)
set_option maxRecDepth 100000 in
theorem st_X12_in : Cond.static yX12_in ∈ BW := bw_in (List.mem_of_getElem? (i := 1685) (by rfl)) (by rfl)
set_option maxRecDepth 100000 in
theorem fl_RX12_88 : Cond.fieldLink RX12 88 "BlastPlannerModel" "told" "[I" ∈ BW := bw_in (List.mem_of_getElem? (i := 1561) (by rfl)) (by rfl)
set_option maxRecDepth 100000 in
theorem fl_RX12_97 : Cond.fieldLink RX12 97 "BlastPlannerModel" "readNow" "[I" ∈ BW := bw_in (List.mem_of_getElem? (i := 1564) (by rfl)) (by rfl)
set_option maxRecDepth 100000 in
theorem cd_X12_letters : Cond.code yX12_letters cX12_letters 2 (some .int) ∈ BW := bw_in (List.mem_of_getElem? (i := 1665) (by rfl)) (by rfl)
set_option maxRecDepth 100000 in
theorem ml_RX12_51 : Cond.methodLink RX12 51 yX12_letters ∈ BW := bw_in (List.mem_of_getElem? (i := 1662) (by rfl)) (by rfl)
set_option maxRecDepth 100000 in
theorem in_X12_letters : Cond.instanceMethod yX12_letters ∈ BW := bw_in (List.mem_of_getElem? (i := 1664) (by rfl)) (by rfl)
set_option maxRecDepth 100000 in
theorem sl_X12_letters : Cond.selects RX12 yX12_letters yX12_letters ∈ BW := bw_in (List.mem_of_getElem? (i := 48) (by rfl)) (by rfl)
set_option maxRecDepth 100000 in
theorem cd_X12_number : Cond.code yX12_number cX12_number 4 (some .int) ∈ BW := bw_in (List.mem_of_getElem? (i := 1679) (by rfl)) (by rfl)
set_option maxRecDepth 100000 in
theorem ml_RX12_79 : Cond.methodLink RX12 79 yX12_number ∈ BW := bw_in (List.mem_of_getElem? (i := 1676) (by rfl)) (by rfl)
set_option maxRecDepth 100000 in
theorem in_X12_number : Cond.instanceMethod yX12_number ∈ BW := bw_in (List.mem_of_getElem? (i := 1678) (by rfl)) (by rfl)
set_option maxRecDepth 100000 in
theorem sl_X12_number : Cond.selects RX12 yX12_number yX12_number ∈ BW := bw_in (List.mem_of_getElem? (i := 51) (by rfl)) (by rfl)
set_option maxRecDepth 100000 in
theorem cd_X12_name : Cond.code yX12_name cX12_name 9 none ∈ BW := bw_in (List.mem_of_getElem? (i := 1703) (by rfl)) (by rfl)
set_option maxRecDepth 100000 in
theorem ml_RX12_131 : Cond.methodLink RX12 131 yX12_name ∈ BW := bw_in (List.mem_of_getElem? (i := 1700) (by rfl)) (by rfl)
set_option maxRecDepth 100000 in
theorem in_X12_name : Cond.instanceMethod yX12_name ∈ BW := bw_in (List.mem_of_getElem? (i := 1702) (by rfl)) (by rfl)
set_option maxRecDepth 100000 in
theorem sl_X12_name : Cond.selects RX12 yX12_name yX12_name ∈ BW := bw_in (List.mem_of_getElem? (i := 55) (by rfl)) (by rfl)
set_option maxRecDepth 100000 in
theorem kc_RX12_135 : Cond.constant RX12 135 (99999) ∈ BW := bw_in (List.mem_of_getElem? (i := 1704) (by rfl)) (by rfl)
set_option maxRecDepth 100000 in
theorem cd_X12_blasts : Cond.code yX12_blasts cX12_blasts 1 (some .int) ∈ BW := bw_in (List.mem_of_getElem? (i := 1719) (by rfl)) (by rfl)
set_option maxRecDepth 100000 in
theorem ml_RX12_142 : Cond.methodLink RX12 142 yX12_blasts ∈ BW := bw_in (List.mem_of_getElem? (i := 1716) (by rfl)) (by rfl)
set_option maxRecDepth 100000 in
theorem in_X12_blasts : Cond.instanceMethod yX12_blasts ∈ BW := bw_in (List.mem_of_getElem? (i := 1718) (by rfl)) (by rfl)
set_option maxRecDepth 100000 in
theorem sl_X12_blasts : Cond.selects RX12 yX12_blasts yX12_blasts ∈ BW := bw_in (List.mem_of_getElem? (i := 58) (by rfl)) (by rfl)
set_option maxRecDepth 100000 in
theorem cd_X12_begins : Cond.code yX12_begins cX12_begins 2 none ∈ BW := bw_in (List.mem_of_getElem? (i := 1549) (by rfl)) (by rfl)
set_option maxRecDepth 100000 in
theorem ml_RX12_128 : Cond.methodLink RX12 128 yX12_begins ∈ BW := bw_in (List.mem_of_getElem? (i := 1546) (by rfl)) (by rfl)
set_option maxRecDepth 100000 in
theorem in_X12_begins : Cond.instanceMethod yX12_begins ∈ BW := bw_in (List.mem_of_getElem? (i := 1548) (by rfl)) (by rfl)
set_option maxRecDepth 100000 in
theorem sl_X12_begins : Cond.selects RX12 yX12_begins yX12_begins ∈ BW := bw_in (List.mem_of_getElem? (i := 41) (by rfl)) (by rfl)
set_option maxRecDepth 100000 in
theorem cd_X12_throwsIf : Cond.code yX12_throwsIf cX12_throwsIf 3 (some .boolean) ∈ BW := bw_in (List.mem_of_getElem? (i := 1728) (by rfl)) (by rfl)
set_option maxRecDepth 100000 in
theorem ml_RX12_185 : Cond.methodLink RX12 185 yX12_throwsIf ∈ BW := bw_in (List.mem_of_getElem? (i := 1725) (by rfl)) (by rfl)
set_option maxRecDepth 100000 in
theorem in_X12_throwsIf : Cond.instanceMethod yX12_throwsIf ∈ BW := bw_in (List.mem_of_getElem? (i := 1727) (by rfl)) (by rfl)
set_option maxRecDepth 100000 in
theorem sl_X12_throwsIf : Cond.selects RX12 yX12_throwsIf yX12_throwsIf ∈ BW := bw_in (List.mem_of_getElem? (i := 60) (by rfl)) (by rfl)
set_option maxRecDepth 100000 in
theorem fl_RX12_189 : Cond.fieldLink RX12 189 "BlastPlannerModel" "depth" "I" ∈ BW := bw_in (List.mem_of_getElem? (i := 1566) (by rfl)) (by rfl)
set_option maxRecDepth 100000 in
theorem fl_RX12_94 : Cond.fieldLink RX12 94 "BlastPlannerModel" "now" "[I" ∈ BW := bw_in (List.mem_of_getElem? (i := 1563) (by rfl)) (by rfl)
set_option maxRecDepth 100000 in
theorem fl_RX12_91 : Cond.fieldLink RX12 91 "BlastPlannerModel" "wasTold" "[I" ∈ BW := bw_in (List.mem_of_getElem? (i := 1562) (by rfl)) (by rfl)
set_option maxRecDepth 100000 in
theorem cd_X12_ofBlast : Cond.code yX12_ofBlast cX12_ofBlast 3 (some .int) ∈ BW := bw_in (List.mem_of_getElem? (i := 1764) (by rfl)) (by rfl)
set_option maxRecDepth 100000 in
theorem ml_RX12_192 : Cond.methodLink RX12 192 yX12_ofBlast ∈ BW := bw_in (List.mem_of_getElem? (i := 1761) (by rfl)) (by rfl)
set_option maxRecDepth 100000 in
theorem in_X12_ofBlast : Cond.instanceMethod yX12_ofBlast ∈ BW := bw_in (List.mem_of_getElem? (i := 1763) (by rfl)) (by rfl)
set_option maxRecDepth 100000 in
theorem sl_X12_ofBlast : Cond.selects RX12 yX12_ofBlast yX12_ofBlast ∈ BW := bw_in (List.mem_of_getElem? (i := 64) (by rfl)) (by rfl)
set_option maxRecDepth 100000 in
theorem cd_X12_starts : Cond.code yX12_starts cX12_starts 1 (some .int) ∈ BW := bw_in (List.mem_of_getElem? (i := 1748) (by rfl)) (by rfl)
set_option maxRecDepth 100000 in
theorem ml_RX12_195 : Cond.methodLink RX12 195 yX12_starts ∈ BW := bw_in (List.mem_of_getElem? (i := 1745) (by rfl)) (by rfl)
set_option maxRecDepth 100000 in
theorem in_X12_starts : Cond.instanceMethod yX12_starts ∈ BW := bw_in (List.mem_of_getElem? (i := 1747) (by rfl)) (by rfl)
set_option maxRecDepth 100000 in
theorem sl_X12_starts : Cond.selects RX12 yX12_starts yX12_starts ∈ BW := bw_in (List.mem_of_getElem? (i := 61) (by rfl)) (by rfl)
set_option maxRecDepth 100000 in
theorem cd_X12_noBlast : Cond.code yX12_noBlast cX12_noBlast 2 (some .boolean) ∈ BW := bw_in (List.mem_of_getElem? (i := 1756) (by rfl)) (by rfl)
set_option maxRecDepth 100000 in
theorem ml_RX12_198 : Cond.methodLink RX12 198 yX12_noBlast ∈ BW := bw_in (List.mem_of_getElem? (i := 1753) (by rfl)) (by rfl)
set_option maxRecDepth 100000 in
theorem in_X12_noBlast : Cond.instanceMethod yX12_noBlast ∈ BW := bw_in (List.mem_of_getElem? (i := 1755) (by rfl)) (by rfl)
set_option maxRecDepth 100000 in
theorem sl_X12_noBlast : Cond.selects RX12 yX12_noBlast yX12_noBlast ∈ BW := bw_in (List.mem_of_getElem? (i := 62) (by rfl)) (by rfl)
set_option maxRecDepth 100000 in
theorem cd_X12_charges : Cond.code yX12_charges cX12_charges 2 (some .int) ∈ BW := bw_in (List.mem_of_getElem? (i := 1760) (by rfl)) (by rfl)
set_option maxRecDepth 100000 in
theorem ml_RX12_202 : Cond.methodLink RX12 202 yX12_charges ∈ BW := bw_in (List.mem_of_getElem? (i := 1757) (by rfl)) (by rfl)
set_option maxRecDepth 100000 in
theorem in_X12_charges : Cond.instanceMethod yX12_charges ∈ BW := bw_in (List.mem_of_getElem? (i := 1759) (by rfl)) (by rfl)
set_option maxRecDepth 100000 in
theorem sl_X12_charges : Cond.selects RX12 yX12_charges yX12_charges ∈ BW := bw_in (List.mem_of_getElem? (i := 63) (by rfl)) (by rfl)
set_option maxRecDepth 100000 in
theorem cd_X12_noCharge : Cond.code yX12_noCharge cX12_noCharge 3 (some .boolean) ∈ BW := bw_in (List.mem_of_getElem? (i := 1772) (by rfl)) (by rfl)
set_option maxRecDepth 100000 in
theorem ml_RX12_206 : Cond.methodLink RX12 206 yX12_noCharge ∈ BW := bw_in (List.mem_of_getElem? (i := 1769) (by rfl)) (by rfl)
set_option maxRecDepth 100000 in
theorem in_X12_noCharge : Cond.instanceMethod yX12_noCharge ∈ BW := bw_in (List.mem_of_getElem? (i := 1771) (by rfl)) (by rfl)
set_option maxRecDepth 100000 in
theorem sl_X12_noCharge : Cond.selects RX12 yX12_noCharge yX12_noCharge ∈ BW := bw_in (List.mem_of_getElem? (i := 65) (by rfl)) (by rfl)
set_option maxRecDepth 100000 in
theorem cd_X12_chargeOf : Cond.code yX12_chargeOf cX12_chargeOf 3 (some .int) ∈ BW := bw_in (List.mem_of_getElem? (i := 1776) (by rfl)) (by rfl)
set_option maxRecDepth 100000 in
theorem ml_RX12_209 : Cond.methodLink RX12 209 yX12_chargeOf ∈ BW := bw_in (List.mem_of_getElem? (i := 1773) (by rfl)) (by rfl)
set_option maxRecDepth 100000 in
theorem in_X12_chargeOf : Cond.instanceMethod yX12_chargeOf ∈ BW := bw_in (List.mem_of_getElem? (i := 1775) (by rfl)) (by rfl)
set_option maxRecDepth 100000 in
theorem sl_X12_chargeOf : Cond.selects RX12 yX12_chargeOf yX12_chargeOf ∈ BW := bw_in (List.mem_of_getElem? (i := 66) (by rfl)) (by rfl)
set_option maxRecDepth 100000 in
theorem cd_X12_delayOf : Cond.code yX12_delayOf cX12_delayOf 3 (some .int) ∈ BW := bw_in (List.mem_of_getElem? (i := 1784) (by rfl)) (by rfl)
set_option maxRecDepth 100000 in
theorem ml_RX12_212 : Cond.methodLink RX12 212 yX12_delayOf ∈ BW := bw_in (List.mem_of_getElem? (i := 1781) (by rfl)) (by rfl)
set_option maxRecDepth 100000 in
theorem in_X12_delayOf : Cond.instanceMethod yX12_delayOf ∈ BW := bw_in (List.mem_of_getElem? (i := 1783) (by rfl)) (by rfl)
set_option maxRecDepth 100000 in
theorem sl_X12_delayOf : Cond.selects RX12 yX12_delayOf yX12_delayOf ∈ BW := bw_in (List.mem_of_getElem? (i := 67) (by rfl)) (by rfl)
set_option maxRecDepth 100000 in
theorem ml_RX12_215 : Cond.methodLink RX12 215 Lib.Math.min.name ∈ BW := bw_in (List.mem_of_getElem? (i := 1793) (by rfl)) (by rfl)
set_option maxRecDepth 100000 in
theorem st_math_min : Cond.static Lib.Math.min.name ∈ BW := bw_in (List.mem_of_getElem? (i := 635) (by rfl)) (by rfl)
set_option maxRecDepth 100000 in
theorem ni_math : Cond.initialized "java/lang/Math" ∈ BW := bw_in (List.mem_of_getElem? (i := 136) (by rfl)) (by rfl)
set_option maxRecDepth 100000 in
theorem cd_math_min : Cond.code Lib.Math.min.name Lib.Math.min.code 2 (some .int) ∈ BW := bw_in (List.mem_of_getElem? (i := 636) (by rfl)) (by rfl)
set_option maxRecDepth 100000 in
theorem ml_RX12_220 : Cond.methodLink RX12 220 Lib.Math.max.name ∈ BW := bw_in (List.mem_of_getElem? (i := 1794) (by rfl)) (by rfl)
set_option maxRecDepth 100000 in
theorem st_math_max : Cond.static Lib.Math.max.name ∈ BW := bw_in (List.mem_of_getElem? (i := 638) (by rfl)) (by rfl)
set_option maxRecDepth 100000 in
theorem cd_math_max : Cond.code Lib.Math.max.name Lib.Math.max.code 2 (some .int) ∈ BW := bw_in (List.mem_of_getElem? (i := 639) (by rfl)) (by rfl)
set_option maxRecDepth 100000 in
theorem cd_X12_windowFrom : Cond.code yX12_windowFrom cX12_windowFrom 6 (some .int) ∈ BW := bw_in (List.mem_of_getElem? (i := 1806) (by rfl)) (by rfl)
set_option maxRecDepth 100000 in
theorem ml_RX12_223 : Cond.methodLink RX12 223 yX12_windowFrom ∈ BW := bw_in (List.mem_of_getElem? (i := 1803) (by rfl)) (by rfl)
set_option maxRecDepth 100000 in
theorem in_X12_windowFrom : Cond.instanceMethod yX12_windowFrom ∈ BW := bw_in (List.mem_of_getElem? (i := 1805) (by rfl)) (by rfl)
set_option maxRecDepth 100000 in
theorem sl_X12_windowFrom : Cond.selects RX12 yX12_windowFrom yX12_windowFrom ∈ BW := bw_in (List.mem_of_getElem? (i := 69) (by rfl)) (by rfl)
set_option maxRecDepth 100000 in
theorem cd_X12_ofNear : Cond.code yX12_ofNear cX12_ofNear 3 (some .int) ∈ BW := bw_in (List.mem_of_getElem? (i := 1830) (by rfl)) (by rfl)
set_option maxRecDepth 100000 in
theorem ml_RX12_227 : Cond.methodLink RX12 227 yX12_ofNear ∈ BW := bw_in (List.mem_of_getElem? (i := 1827) (by rfl)) (by rfl)
set_option maxRecDepth 100000 in
theorem in_X12_ofNear : Cond.instanceMethod yX12_ofNear ∈ BW := bw_in (List.mem_of_getElem? (i := 1829) (by rfl)) (by rfl)
set_option maxRecDepth 100000 in
theorem sl_X12_ofNear : Cond.selects RX12 yX12_ofNear yX12_ofNear ∈ BW := bw_in (List.mem_of_getElem? (i := 73) (by rfl)) (by rfl)
set_option maxRecDepth 100000 in
theorem cd_X12_squared : Cond.code yX12_squared cX12_squared 3 (some .int) ∈ BW := bw_in (List.mem_of_getElem? (i := 1834) (by rfl)) (by rfl)
set_option maxRecDepth 100000 in
theorem ml_RX12_230 : Cond.methodLink RX12 230 yX12_squared ∈ BW := bw_in (List.mem_of_getElem? (i := 1831) (by rfl)) (by rfl)
set_option maxRecDepth 100000 in
theorem in_X12_squared : Cond.instanceMethod yX12_squared ∈ BW := bw_in (List.mem_of_getElem? (i := 1833) (by rfl)) (by rfl)
set_option maxRecDepth 100000 in
theorem sl_X12_squared : Cond.selects RX12 yX12_squared yX12_squared ∈ BW := bw_in (List.mem_of_getElem? (i := 74) (by rfl)) (by rfl)
set_option maxRecDepth 100000 in
theorem cd_X12_window : Cond.code yX12_window cX12_window 5 (some .int) ∈ BW := bw_in (List.mem_of_getElem? (i := 1802) (by rfl)) (by rfl)
set_option maxRecDepth 100000 in
theorem ml_RX12_233 : Cond.methodLink RX12 233 yX12_window ∈ BW := bw_in (List.mem_of_getElem? (i := 1799) (by rfl)) (by rfl)
set_option maxRecDepth 100000 in
theorem in_X12_window : Cond.instanceMethod yX12_window ∈ BW := bw_in (List.mem_of_getElem? (i := 1801) (by rfl)) (by rfl)
set_option maxRecDepth 100000 in
theorem sl_X12_window : Cond.selects RX12 yX12_window yX12_window ∈ BW := bw_in (List.mem_of_getElem? (i := 68) (by rfl)) (by rfl)
set_option maxRecDepth 100000 in
theorem cd_X12_farAway : Cond.code yX12_farAway cX12_farAway 3 (some .int) ∈ BW := bw_in (List.mem_of_getElem? (i := 1826) (by rfl)) (by rfl)
set_option maxRecDepth 100000 in
theorem ml_RX12_236 : Cond.methodLink RX12 236 yX12_farAway ∈ BW := bw_in (List.mem_of_getElem? (i := 1823) (by rfl)) (by rfl)
set_option maxRecDepth 100000 in
theorem in_X12_farAway : Cond.instanceMethod yX12_farAway ∈ BW := bw_in (List.mem_of_getElem? (i := 1825) (by rfl)) (by rfl)
set_option maxRecDepth 100000 in
theorem sl_X12_farAway : Cond.selects RX12 yX12_farAway yX12_farAway ∈ BW := bw_in (List.mem_of_getElem? (i := 72) (by rfl)) (by rfl)
set_option maxRecDepth 100000 in
theorem cd_X12_shakes : Cond.code yX12_shakes cX12_shakes 4 (some .int) ∈ BW := bw_in (List.mem_of_getElem? (i := 1822) (by rfl)) (by rfl)
set_option maxRecDepth 100000 in
theorem ml_RX12_239 : Cond.methodLink RX12 239 yX12_shakes ∈ BW := bw_in (List.mem_of_getElem? (i := 1819) (by rfl)) (by rfl)
set_option maxRecDepth 100000 in
theorem in_X12_shakes : Cond.instanceMethod yX12_shakes ∈ BW := bw_in (List.mem_of_getElem? (i := 1821) (by rfl)) (by rfl)
set_option maxRecDepth 100000 in
theorem sl_X12_shakes : Cond.selects RX12 yX12_shakes yX12_shakes ∈ BW := bw_in (List.mem_of_getElem? (i := 71) (by rfl)) (by rfl)
set_option maxRecDepth 100000 in
theorem cd_X12_noNear : Cond.code yX12_noNear cX12_noNear 2 (some .boolean) ∈ BW := bw_in (List.mem_of_getElem? (i := 1818) (by rfl)) (by rfl)
set_option maxRecDepth 100000 in
theorem ml_RX12_242 : Cond.methodLink RX12 242 yX12_noNear ∈ BW := bw_in (List.mem_of_getElem? (i := 1815) (by rfl)) (by rfl)
set_option maxRecDepth 100000 in
theorem in_X12_noNear : Cond.instanceMethod yX12_noNear ∈ BW := bw_in (List.mem_of_getElem? (i := 1817) (by rfl)) (by rfl)
set_option maxRecDepth 100000 in
theorem sl_X12_noNear : Cond.selects RX12 yX12_noNear yX12_noNear ∈ BW := bw_in (List.mem_of_getElem? (i := 70) (by rfl)) (by rfl)
set_option maxRecDepth 100000 in
theorem cd_X12_isTooStrong : Cond.code yX12_isTooStrong cX12_isTooStrong 3 (some .boolean) ∈ BW := bw_in (List.mem_of_getElem? (i := 1846) (by rfl)) (by rfl)
set_option maxRecDepth 100000 in
theorem ml_RX12_245 : Cond.methodLink RX12 245 yX12_isTooStrong ∈ BW := bw_in (List.mem_of_getElem? (i := 1843) (by rfl)) (by rfl)
set_option maxRecDepth 100000 in
theorem in_X12_isTooStrong : Cond.instanceMethod yX12_isTooStrong ∈ BW := bw_in (List.mem_of_getElem? (i := 1845) (by rfl)) (by rfl)
set_option maxRecDepth 100000 in
theorem sl_X12_isTooStrong : Cond.selects RX12 yX12_isTooStrong yX12_isTooStrong ∈ BW := bw_in (List.mem_of_getElem? (i := 75) (by rfl)) (by rfl)
set_option maxRecDepth 100000 in
theorem cd_X12_ofRoad : Cond.code yX12_ofRoad cX12_ofRoad 3 (some .int) ∈ BW := bw_in (List.mem_of_getElem? (i := 1874) (by rfl)) (by rfl)
set_option maxRecDepth 100000 in
theorem ml_RX12_248 : Cond.methodLink RX12 248 yX12_ofRoad ∈ BW := bw_in (List.mem_of_getElem? (i := 1871) (by rfl)) (by rfl)
set_option maxRecDepth 100000 in
theorem in_X12_ofRoad : Cond.instanceMethod yX12_ofRoad ∈ BW := bw_in (List.mem_of_getElem? (i := 1873) (by rfl)) (by rfl)
set_option maxRecDepth 100000 in
theorem sl_X12_ofRoad : Cond.selects RX12 yX12_ofRoad yX12_ofRoad ∈ BW := bw_in (List.mem_of_getElem? (i := 79) (by rfl)) (by rfl)
set_option maxRecDepth 100000 in
theorem cd_X12_isNear : Cond.code yX12_isNear cX12_isNear 20 (some .boolean) ∈ BW := bw_in (List.mem_of_getElem? (i := 1870) (by rfl)) (by rfl)
set_option maxRecDepth 100000 in
theorem ml_RX12_251 : Cond.methodLink RX12 251 yX12_isNear ∈ BW := bw_in (List.mem_of_getElem? (i := 1867) (by rfl)) (by rfl)
set_option maxRecDepth 100000 in
theorem in_X12_isNear : Cond.instanceMethod yX12_isNear ∈ BW := bw_in (List.mem_of_getElem? (i := 1869) (by rfl)) (by rfl)
set_option maxRecDepth 100000 in
theorem sl_X12_isNear : Cond.selects RX12 yX12_isNear yX12_isNear ∈ BW := bw_in (List.mem_of_getElem? (i := 78) (by rfl)) (by rfl)
set_option maxRecDepth 100000 in
theorem cd_X12_isShut : Cond.code yX12_isShut cX12_isShut 3 (some .boolean) ∈ BW := bw_in (List.mem_of_getElem? (i := 1866) (by rfl)) (by rfl)
set_option maxRecDepth 100000 in
theorem ml_RX12_254 : Cond.methodLink RX12 254 yX12_isShut ∈ BW := bw_in (List.mem_of_getElem? (i := 1863) (by rfl)) (by rfl)
set_option maxRecDepth 100000 in
theorem in_X12_isShut : Cond.instanceMethod yX12_isShut ∈ BW := bw_in (List.mem_of_getElem? (i := 1865) (by rfl)) (by rfl)
set_option maxRecDepth 100000 in
theorem sl_X12_isShut : Cond.selects RX12 yX12_isShut yX12_isShut ∈ BW := bw_in (List.mem_of_getElem? (i := 77) (by rfl)) (by rfl)
set_option maxRecDepth 100000 in
theorem cd_X12_noRoad : Cond.code yX12_noRoad cX12_noRoad 2 (some .boolean) ∈ BW := bw_in (List.mem_of_getElem? (i := 1862) (by rfl)) (by rfl)
set_option maxRecDepth 100000 in
theorem ml_RX12_257 : Cond.methodLink RX12 257 yX12_noRoad ∈ BW := bw_in (List.mem_of_getElem? (i := 1859) (by rfl)) (by rfl)
set_option maxRecDepth 100000 in
theorem in_X12_noRoad : Cond.instanceMethod yX12_noRoad ∈ BW := bw_in (List.mem_of_getElem? (i := 1861) (by rfl)) (by rfl)
set_option maxRecDepth 100000 in
theorem sl_X12_noRoad : Cond.selects RX12 yX12_noRoad yX12_noRoad ∈ BW := bw_in (List.mem_of_getElem? (i := 76) (by rfl)) (by rfl)
set_option maxRecDepth 100000 in
theorem cd_X12_shutBy : Cond.code yX12_shutBy cX12_shutBy 4 (some .int) ∈ BW := bw_in (List.mem_of_getElem? (i := 1882) (by rfl)) (by rfl)
set_option maxRecDepth 100000 in
theorem ml_RX12_260 : Cond.methodLink RX12 260 yX12_shutBy ∈ BW := bw_in (List.mem_of_getElem? (i := 1879) (by rfl)) (by rfl)
set_option maxRecDepth 100000 in
theorem in_X12_shutBy : Cond.instanceMethod yX12_shutBy ∈ BW := bw_in (List.mem_of_getElem? (i := 1881) (by rfl)) (by rfl)
set_option maxRecDepth 100000 in
theorem sl_X12_shutBy : Cond.selects RX12 yX12_shutBy yX12_shutBy ∈ BW := bw_in (List.mem_of_getElem? (i := 80) (by rfl)) (by rfl)
set_option maxRecDepth 100000 in
theorem cd_X12_isStill : Cond.code yX12_isStill cX12_isStill 5 (some .boolean) ∈ BW := bw_in (List.mem_of_getElem? (i := 1894) (by rfl)) (by rfl)
set_option maxRecDepth 100000 in
theorem ml_RX12_263 : Cond.methodLink RX12 263 yX12_isStill ∈ BW := bw_in (List.mem_of_getElem? (i := 1891) (by rfl)) (by rfl)
set_option maxRecDepth 100000 in
theorem in_X12_isStill : Cond.instanceMethod yX12_isStill ∈ BW := bw_in (List.mem_of_getElem? (i := 1893) (by rfl)) (by rfl)
set_option maxRecDepth 100000 in
theorem sl_X12_isStill : Cond.selects RX12 yX12_isStill yX12_isStill ∈ BW := bw_in (List.mem_of_getElem? (i := 81) (by rfl)) (by rfl)
set_option maxRecDepth 100000 in
theorem cd_X12_stepX : Cond.code yX12_stepX cX12_stepX 1 (some .int) ∈ BW := bw_in (List.mem_of_getElem? (i := 1913) (by rfl)) (by rfl)
set_option maxRecDepth 100000 in
theorem ml_RX12_266 : Cond.methodLink RX12 266 yX12_stepX ∈ BW := bw_in (List.mem_of_getElem? (i := 1911) (by rfl)) (by rfl)
set_option maxRecDepth 100000 in
theorem st_X12_stepX : Cond.static yX12_stepX ∈ BW := bw_in (List.mem_of_getElem? (i := 1912) (by rfl)) (by rfl)
set_option maxRecDepth 100000 in
theorem cd_X12_stepY : Cond.code yX12_stepY cX12_stepY 1 (some .int) ∈ BW := bw_in (List.mem_of_getElem? (i := 1916) (by rfl)) (by rfl)
set_option maxRecDepth 100000 in
theorem ml_RX12_269 : Cond.methodLink RX12 269 yX12_stepY ∈ BW := bw_in (List.mem_of_getElem? (i := 1914) (by rfl)) (by rfl)
set_option maxRecDepth 100000 in
theorem st_X12_stepY : Cond.static yX12_stepY ∈ BW := bw_in (List.mem_of_getElem? (i := 1915) (by rfl)) (by rfl)
set_option maxRecDepth 100000 in
theorem ml_RX12_272 : Cond.methodLink RX12 272 Lib.Math.abs.name ∈ BW := bw_in (List.mem_of_getElem? (i := 1917) (by rfl)) (by rfl)
set_option maxRecDepth 100000 in
theorem st_math_abs : Cond.static Lib.Math.abs.name ∈ BW := bw_in (List.mem_of_getElem? (i := 977) (by rfl)) (by rfl)
set_option maxRecDepth 100000 in
theorem cd_math_abs : Cond.code Lib.Math.abs.name Lib.Math.abs.code 1 (some .int) ∈ BW := bw_in (List.mem_of_getElem? (i := 978) (by rfl)) (by rfl)
set_option maxRecDepth 100000 in
theorem cd_X12_isDusty : Cond.code yX12_isDusty cX12_isDusty 11 (some .boolean) ∈ BW := bw_in (List.mem_of_getElem? (i := 1910) (by rfl)) (by rfl)
set_option maxRecDepth 100000 in
theorem ml_RX12_275 : Cond.methodLink RX12 275 yX12_isDusty ∈ BW := bw_in (List.mem_of_getElem? (i := 1907) (by rfl)) (by rfl)
set_option maxRecDepth 100000 in
theorem in_X12_isDusty : Cond.instanceMethod yX12_isDusty ∈ BW := bw_in (List.mem_of_getElem? (i := 1909) (by rfl)) (by rfl)
set_option maxRecDepth 100000 in
theorem sl_X12_isDusty : Cond.selects RX12 yX12_isDusty yX12_isDusty ∈ BW := bw_in (List.mem_of_getElem? (i := 83) (by rfl)) (by rfl)
set_option maxRecDepth 100000 in
theorem cd_X12_dusty : Cond.code yX12_dusty cX12_dusty 5 (some .int) ∈ BW := bw_in (List.mem_of_getElem? (i := 1906) (by rfl)) (by rfl)
set_option maxRecDepth 100000 in
theorem ml_RX12_278 : Cond.methodLink RX12 278 yX12_dusty ∈ BW := bw_in (List.mem_of_getElem? (i := 1903) (by rfl)) (by rfl)
set_option maxRecDepth 100000 in
theorem in_X12_dusty : Cond.instanceMethod yX12_dusty ∈ BW := bw_in (List.mem_of_getElem? (i := 1905) (by rfl)) (by rfl)
set_option maxRecDepth 100000 in
theorem sl_X12_dusty : Cond.selects RX12 yX12_dusty yX12_dusty ∈ BW := bw_in (List.mem_of_getElem? (i := 82) (by rfl)) (by rfl)
set_option maxRecDepth 100000 in
theorem cd_X12_time : Cond.code yX12_time cX12_time 2 (some .int) ∈ BW := bw_in (List.mem_of_getElem? (i := 1929) (by rfl)) (by rfl)
set_option maxRecDepth 100000 in
theorem ml_RX12_281 : Cond.methodLink RX12 281 yX12_time ∈ BW := bw_in (List.mem_of_getElem? (i := 1926) (by rfl)) (by rfl)
set_option maxRecDepth 100000 in
theorem in_X12_time : Cond.instanceMethod yX12_time ∈ BW := bw_in (List.mem_of_getElem? (i := 1928) (by rfl)) (by rfl)
set_option maxRecDepth 100000 in
theorem sl_X12_time : Cond.selects RX12 yX12_time yX12_time ∈ BW := bw_in (List.mem_of_getElem? (i := 84) (by rfl)) (by rfl)
set_option maxRecDepth 100000 in
theorem cd_X12_shakesSome : Cond.code yX12_shakesSome cX12_shakesSome 3 (some .boolean) ∈ BW := bw_in (List.mem_of_getElem? (i := 1953) (by rfl)) (by rfl)
set_option maxRecDepth 100000 in
theorem ml_RX12_284 : Cond.methodLink RX12 284 yX12_shakesSome ∈ BW := bw_in (List.mem_of_getElem? (i := 1950) (by rfl)) (by rfl)
set_option maxRecDepth 100000 in
theorem in_X12_shakesSome : Cond.instanceMethod yX12_shakesSome ∈ BW := bw_in (List.mem_of_getElem? (i := 1952) (by rfl)) (by rfl)
set_option maxRecDepth 100000 in
theorem sl_X12_shakesSome : Cond.selects RX12 yX12_shakesSome yX12_shakesSome ∈ BW := bw_in (List.mem_of_getElem? (i := 88) (by rfl)) (by rfl)
set_option maxRecDepth 100000 in
theorem cd_X12_disturbs : Cond.code yX12_disturbs cX12_disturbs 5 (some .boolean) ∈ BW := bw_in (List.mem_of_getElem? (i := 1957) (by rfl)) (by rfl)
set_option maxRecDepth 100000 in
theorem ml_RX12_287 : Cond.methodLink RX12 287 yX12_disturbs ∈ BW := bw_in (List.mem_of_getElem? (i := 1954) (by rfl)) (by rfl)
set_option maxRecDepth 100000 in
theorem in_X12_disturbs : Cond.instanceMethod yX12_disturbs ∈ BW := bw_in (List.mem_of_getElem? (i := 1956) (by rfl)) (by rfl)
set_option maxRecDepth 100000 in
theorem sl_X12_disturbs : Cond.selects RX12 yX12_disturbs yX12_disturbs ∈ BW := bw_in (List.mem_of_getElem? (i := 89) (by rfl)) (by rfl)
set_option maxRecDepth 100000 in
theorem cd_X12_isCrowded : Cond.code yX12_isCrowded cX12_isCrowded 4 (some .boolean) ∈ BW := bw_in (List.mem_of_getElem? (i := 1961) (by rfl)) (by rfl)
set_option maxRecDepth 100000 in
theorem ml_RX12_290 : Cond.methodLink RX12 290 yX12_isCrowded ∈ BW := bw_in (List.mem_of_getElem? (i := 1958) (by rfl)) (by rfl)
set_option maxRecDepth 100000 in
theorem in_X12_isCrowded : Cond.instanceMethod yX12_isCrowded ∈ BW := bw_in (List.mem_of_getElem? (i := 1960) (by rfl)) (by rfl)
set_option maxRecDepth 100000 in
theorem sl_X12_isCrowded : Cond.selects RX12 yX12_isCrowded yX12_isCrowded ∈ BW := bw_in (List.mem_of_getElem? (i := 90) (by rfl)) (by rfl)
set_option maxRecDepth 100000 in
theorem cd_X12_hasFired : Cond.code yX12_hasFired cX12_hasFired 2 (some .boolean) ∈ BW := bw_in (List.mem_of_getElem? (i := 1937) (by rfl)) (by rfl)
set_option maxRecDepth 100000 in
theorem ml_RX12_293 : Cond.methodLink RX12 293 yX12_hasFired ∈ BW := bw_in (List.mem_of_getElem? (i := 1934) (by rfl)) (by rfl)
set_option maxRecDepth 100000 in
theorem in_X12_hasFired : Cond.instanceMethod yX12_hasFired ∈ BW := bw_in (List.mem_of_getElem? (i := 1936) (by rfl)) (by rfl)
set_option maxRecDepth 100000 in
theorem sl_X12_hasFired : Cond.selects RX12 yX12_hasFired yX12_hasFired ∈ BW := bw_in (List.mem_of_getElem? (i := 85) (by rfl)) (by rfl)
set_option maxRecDepth 100000 in
theorem cd_X12_noMinute : Cond.code yX12_noMinute cX12_noMinute 2 (some .boolean) ∈ BW := bw_in (List.mem_of_getElem? (i := 1945) (by rfl)) (by rfl)
set_option maxRecDepth 100000 in
theorem ml_RX12_296 : Cond.methodLink RX12 296 yX12_noMinute ∈ BW := bw_in (List.mem_of_getElem? (i := 1942) (by rfl)) (by rfl)
set_option maxRecDepth 100000 in
theorem in_X12_noMinute : Cond.instanceMethod yX12_noMinute ∈ BW := bw_in (List.mem_of_getElem? (i := 1944) (by rfl)) (by rfl)
set_option maxRecDepth 100000 in
theorem sl_X12_noMinute : Cond.selects RX12 yX12_noMinute yX12_noMinute ∈ BW := bw_in (List.mem_of_getElem? (i := 86) (by rfl)) (by rfl)
set_option maxRecDepth 100000 in
theorem cd_X12_why : Cond.code yX12_why cX12_why 3 (some .int) ∈ BW := bw_in (List.mem_of_getElem? (i := 1949) (by rfl)) (by rfl)
set_option maxRecDepth 100000 in
theorem ml_RX12_299 : Cond.methodLink RX12 299 yX12_why ∈ BW := bw_in (List.mem_of_getElem? (i := 1946) (by rfl)) (by rfl)
set_option maxRecDepth 100000 in
theorem in_X12_why : Cond.instanceMethod yX12_why ∈ BW := bw_in (List.mem_of_getElem? (i := 1948) (by rfl)) (by rfl)
set_option maxRecDepth 100000 in
theorem sl_X12_why : Cond.selects RX12 yX12_why yX12_why ∈ BW := bw_in (List.mem_of_getElem? (i := 87) (by rfl)) (by rfl)
set_option maxRecDepth 100000 in
theorem cd_X12_startAt : Cond.code yX12_startAt cX12_startAt 2 (some .int) ∈ BW := bw_in (List.mem_of_getElem? (i := 1969) (by rfl)) (by rfl)
set_option maxRecDepth 100000 in
theorem ml_RX12_302 : Cond.methodLink RX12 302 yX12_startAt ∈ BW := bw_in (List.mem_of_getElem? (i := 1966) (by rfl)) (by rfl)
set_option maxRecDepth 100000 in
theorem in_X12_startAt : Cond.instanceMethod yX12_startAt ∈ BW := bw_in (List.mem_of_getElem? (i := 1968) (by rfl)) (by rfl)
set_option maxRecDepth 100000 in
theorem sl_X12_startAt : Cond.selects RX12 yX12_startAt yX12_startAt ∈ BW := bw_in (List.mem_of_getElem? (i := 91) (by rfl)) (by rfl)
set_option maxRecDepth 100000 in
theorem cd_X12_countOf : Cond.code yX12_countOf cX12_countOf 5 (some .int) ∈ BW := bw_in (List.mem_of_getElem? (i := 1981) (by rfl)) (by rfl)
set_option maxRecDepth 100000 in
theorem ml_RX12_305 : Cond.methodLink RX12 305 yX12_countOf ∈ BW := bw_in (List.mem_of_getElem? (i := 1978) (by rfl)) (by rfl)
set_option maxRecDepth 100000 in
theorem in_X12_countOf : Cond.instanceMethod yX12_countOf ∈ BW := bw_in (List.mem_of_getElem? (i := 1980) (by rfl)) (by rfl)
set_option maxRecDepth 100000 in
theorem sl_X12_countOf : Cond.selects RX12 yX12_countOf yX12_countOf ∈ BW := bw_in (List.mem_of_getElem? (i := 92) (by rfl)) (by rfl)
set_option maxRecDepth 100000 in
theorem cd_X12_next : Cond.code yX12_next cX12_next 4 (some .int) ∈ BW := bw_in (List.mem_of_getElem? (i := 1997) (by rfl)) (by rfl)
set_option maxRecDepth 100000 in
theorem ml_RX12_308 : Cond.methodLink RX12 308 yX12_next ∈ BW := bw_in (List.mem_of_getElem? (i := 1994) (by rfl)) (by rfl)
set_option maxRecDepth 100000 in
theorem in_X12_next : Cond.instanceMethod yX12_next ∈ BW := bw_in (List.mem_of_getElem? (i := 1996) (by rfl)) (by rfl)
set_option maxRecDepth 100000 in
theorem sl_X12_next : Cond.selects RX12 yX12_next yX12_next ∈ BW := bw_in (List.mem_of_getElem? (i := 93) (by rfl)) (by rfl)
set_option maxRecDepth 100000 in
theorem fl_RX12_100 : Cond.fieldLink RX12 100 "BlastPlannerModel" "past" "[I" ∈ BW := bw_in (List.mem_of_getElem? (i := 1565) (by rfl)) (by rfl)
set_option maxRecDepth 100000 in
theorem cd_X12_keeps : Cond.code yX12_keeps cX12_keeps 2 none ∈ BW := bw_in (List.mem_of_getElem? (i := 2013) (by rfl)) (by rfl)
set_option maxRecDepth 100000 in
theorem ml_RX12_311 : Cond.methodLink RX12 311 yX12_keeps ∈ BW := bw_in (List.mem_of_getElem? (i := 2010) (by rfl)) (by rfl)
set_option maxRecDepth 100000 in
theorem in_X12_keeps : Cond.instanceMethod yX12_keeps ∈ BW := bw_in (List.mem_of_getElem? (i := 2012) (by rfl)) (by rfl)
set_option maxRecDepth 100000 in
theorem sl_X12_keeps : Cond.selects RX12 yX12_keeps yX12_keeps ∈ BW := bw_in (List.mem_of_getElem? (i := 94) (by rfl)) (by rfl)
set_option maxRecDepth 100000 in
theorem fl_RX12_103 : Cond.fieldLink RX12 103 "BlastPlannerModel" "painted" "[Z" ∈ BW := bw_in (List.mem_of_getElem? (i := 1567) (by rfl)) (by rfl)
set_option maxRecDepth 100000 in
theorem cd_X12_paints : Cond.code yX12_paints cX12_paints 4 none ∈ BW := bw_in (List.mem_of_getElem? (i := 2037) (by rfl)) (by rfl)
set_option maxRecDepth 100000 in
theorem ml_RX12_314 : Cond.methodLink RX12 314 yX12_paints ∈ BW := bw_in (List.mem_of_getElem? (i := 2034) (by rfl)) (by rfl)
set_option maxRecDepth 100000 in
theorem in_X12_paints : Cond.instanceMethod yX12_paints ∈ BW := bw_in (List.mem_of_getElem? (i := 2036) (by rfl)) (by rfl)
set_option maxRecDepth 100000 in
theorem sl_X12_paints : Cond.selects RX12 yX12_paints yX12_paints ∈ BW := bw_in (List.mem_of_getElem? (i := 96) (by rfl)) (by rfl)
set_option maxRecDepth 100000 in
theorem cd_X12_paintedIn : Cond.code yX12_paintedIn cX12_paintedIn 5 (some .int) ∈ BW := bw_in (List.mem_of_getElem? (i := 2041) (by rfl)) (by rfl)
set_option maxRecDepth 100000 in
theorem ml_RX12_318 : Cond.methodLink RX12 318 yX12_paintedIn ∈ BW := bw_in (List.mem_of_getElem? (i := 2038) (by rfl)) (by rfl)
set_option maxRecDepth 100000 in
theorem in_X12_paintedIn : Cond.instanceMethod yX12_paintedIn ∈ BW := bw_in (List.mem_of_getElem? (i := 2040) (by rfl)) (by rfl)
set_option maxRecDepth 100000 in
theorem sl_X12_paintedIn : Cond.selects RX12 yX12_paintedIn yX12_paintedIn ∈ BW := bw_in (List.mem_of_getElem? (i := 97) (by rfl)) (by rfl)
set_option maxRecDepth 100000 in
theorem cd_X12_closedOf : Cond.code yX12_closedOf cX12_closedOf 2 (some .int) ∈ BW := bw_in (List.mem_of_getElem? (i := 2033) (by rfl)) (by rfl)
set_option maxRecDepth 100000 in
theorem ml_RX12_321 : Cond.methodLink RX12 321 yX12_closedOf ∈ BW := bw_in (List.mem_of_getElem? (i := 2030) (by rfl)) (by rfl)
set_option maxRecDepth 100000 in
theorem in_X12_closedOf : Cond.instanceMethod yX12_closedOf ∈ BW := bw_in (List.mem_of_getElem? (i := 2032) (by rfl)) (by rfl)
set_option maxRecDepth 100000 in
theorem sl_X12_closedOf : Cond.selects RX12 yX12_closedOf yX12_closedOf ∈ BW := bw_in (List.mem_of_getElem? (i := 95) (by rfl)) (by rfl)
set_option maxRecDepth 100000 in
theorem cd_X12_closedInAll : Cond.code yX12_closedInAll cX12_closedInAll 3 (some .int) ∈ BW := bw_in (List.mem_of_getElem? (i := 2049) (by rfl)) (by rfl)
set_option maxRecDepth 100000 in
theorem ml_RX12_324 : Cond.methodLink RX12 324 yX12_closedInAll ∈ BW := bw_in (List.mem_of_getElem? (i := 2046) (by rfl)) (by rfl)
set_option maxRecDepth 100000 in
theorem in_X12_closedInAll : Cond.instanceMethod yX12_closedInAll ∈ BW := bw_in (List.mem_of_getElem? (i := 2048) (by rfl)) (by rfl)
set_option maxRecDepth 100000 in
theorem sl_X12_closedInAll : Cond.selects RX12 yX12_closedInAll yX12_closedInAll ∈ BW := bw_in (List.mem_of_getElem? (i := 98) (by rfl)) (by rfl)
set_option maxRecDepth 100000 in
theorem cd_X12_beginsRun : Cond.code yX12_beginsRun cX12_beginsRun 2 (some .boolean) ∈ BW := bw_in (List.mem_of_getElem? (i := 2061) (by rfl)) (by rfl)
set_option maxRecDepth 100000 in
theorem ml_RX12_327 : Cond.methodLink RX12 327 yX12_beginsRun ∈ BW := bw_in (List.mem_of_getElem? (i := 2058) (by rfl)) (by rfl)
set_option maxRecDepth 100000 in
theorem in_X12_beginsRun : Cond.instanceMethod yX12_beginsRun ∈ BW := bw_in (List.mem_of_getElem? (i := 2060) (by rfl)) (by rfl)
set_option maxRecDepth 100000 in
theorem sl_X12_beginsRun : Cond.selects RX12 yX12_beginsRun yX12_beginsRun ∈ BW := bw_in (List.mem_of_getElem? (i := 99) (by rfl)) (by rfl)
set_option maxRecDepth 100000 in
theorem cd_X12_runAt : Cond.code yX12_runAt cX12_runAt 5 (some .int) ∈ BW := bw_in (List.mem_of_getElem? (i := 2069) (by rfl)) (by rfl)
set_option maxRecDepth 100000 in
theorem ml_RX12_330 : Cond.methodLink RX12 330 yX12_runAt ∈ BW := bw_in (List.mem_of_getElem? (i := 2066) (by rfl)) (by rfl)
set_option maxRecDepth 100000 in
theorem in_X12_runAt : Cond.instanceMethod yX12_runAt ∈ BW := bw_in (List.mem_of_getElem? (i := 2068) (by rfl)) (by rfl)
set_option maxRecDepth 100000 in
theorem sl_X12_runAt : Cond.selects RX12 yX12_runAt yX12_runAt ∈ BW := bw_in (List.mem_of_getElem? (i := 100) (by rfl)) (by rfl)
set_option maxRecDepth 100000 in
theorem fl_RX12_107 : Cond.fieldLink RX12 107 "BlastPlannerModel" "other" "[Z" ∈ BW := bw_in (List.mem_of_getElem? (i := 1568) (by rfl)) (by rfl)
set_option maxRecDepth 100000 in
theorem fl_RX12_110 : Cond.fieldLink RX12 110 "BlastPlannerModel" "byHour" "[I" ∈ BW := bw_in (List.mem_of_getElem? (i := 1569) (by rfl)) (by rfl)
set_option maxRecDepth 100000 in
theorem cd_X12_sirenOf : Cond.code yX12_sirenOf cX12_sirenOf 4 (some .int) ∈ BW := bw_in (List.mem_of_getElem? (i := 2109) (by rfl)) (by rfl)
set_option maxRecDepth 100000 in
theorem ml_RX12_333 : Cond.methodLink RX12 333 yX12_sirenOf ∈ BW := bw_in (List.mem_of_getElem? (i := 2106) (by rfl)) (by rfl)
set_option maxRecDepth 100000 in
theorem in_X12_sirenOf : Cond.instanceMethod yX12_sirenOf ∈ BW := bw_in (List.mem_of_getElem? (i := 2108) (by rfl)) (by rfl)
set_option maxRecDepth 100000 in
theorem sl_X12_sirenOf : Cond.selects RX12 yX12_sirenOf yX12_sirenOf ∈ BW := bw_in (List.mem_of_getElem? (i := 104) (by rfl)) (by rfl)
set_option maxRecDepth 100000 in
theorem cd_X12_timed : Cond.code yX12_timed cX12_timed 3 (some .int) ∈ BW := bw_in (List.mem_of_getElem? (i := 2093) (by rfl)) (by rfl)
set_option maxRecDepth 100000 in
theorem ml_RX12_339 : Cond.methodLink RX12 339 yX12_timed ∈ BW := bw_in (List.mem_of_getElem? (i := 2090) (by rfl)) (by rfl)
set_option maxRecDepth 100000 in
theorem in_X12_timed : Cond.instanceMethod yX12_timed ∈ BW := bw_in (List.mem_of_getElem? (i := 2092) (by rfl)) (by rfl)
set_option maxRecDepth 100000 in
theorem sl_X12_timed : Cond.selects RX12 yX12_timed yX12_timed ∈ BW := bw_in (List.mem_of_getElem? (i := 101) (by rfl)) (by rfl)
set_option maxRecDepth 100000 in
theorem cd_X12_noSiren : Cond.code yX12_noSiren cX12_noSiren 2 (some .boolean) ∈ BW := bw_in (List.mem_of_getElem? (i := 2101) (by rfl)) (by rfl)
set_option maxRecDepth 100000 in
theorem ml_RX12_342 : Cond.methodLink RX12 342 yX12_noSiren ∈ BW := bw_in (List.mem_of_getElem? (i := 2098) (by rfl)) (by rfl)
set_option maxRecDepth 100000 in
theorem in_X12_noSiren : Cond.instanceMethod yX12_noSiren ∈ BW := bw_in (List.mem_of_getElem? (i := 2100) (by rfl)) (by rfl)
set_option maxRecDepth 100000 in
theorem sl_X12_noSiren : Cond.selects RX12 yX12_noSiren yX12_noSiren ∈ BW := bw_in (List.mem_of_getElem? (i := 102) (by rfl)) (by rfl)
set_option maxRecDepth 100000 in
theorem fl_RX12_113 : Cond.fieldLink RX12 113 "BlastPlannerModel" "tried" "[I" ∈ BW := bw_in (List.mem_of_getElem? (i := 1570) (by rfl)) (by rfl)
set_option maxRecDepth 100000 in
theorem fl_RX12_119 : Cond.fieldLink RX12 119 "BlastPlannerModel" "shut" "[I" ∈ BW := bw_in (List.mem_of_getElem? (i := 1572) (by rfl)) (by rfl)
set_option maxRecDepth 100000 in
theorem fl_RX12_122 : Cond.fieldLink RX12 122 "BlastPlannerModel" "mayBe" "[Z" ∈ BW := bw_in (List.mem_of_getElem? (i := 1573) (by rfl)) (by rfl)
set_option maxRecDepth 100000 in
theorem fl_RX12_351 : Cond.fieldLink RX12 351 "BlastPlannerModel" "bestLength" "I" ∈ BW := bw_in (List.mem_of_getElem? (i := 1574) (by rfl)) (by rfl)
set_option maxRecDepth 100000 in
theorem cd_X12_cannotPlan : Cond.code yX12_cannotPlan cX12_cannotPlan 2 (some .boolean) ∈ BW := bw_in (List.mem_of_getElem? (i := 2129) (by rfl)) (by rfl)
set_option maxRecDepth 100000 in
theorem ml_RX12_360 : Cond.methodLink RX12 360 yX12_cannotPlan ∈ BW := bw_in (List.mem_of_getElem? (i := 2126) (by rfl)) (by rfl)
set_option maxRecDepth 100000 in
theorem in_X12_cannotPlan : Cond.instanceMethod yX12_cannotPlan ∈ BW := bw_in (List.mem_of_getElem? (i := 2128) (by rfl)) (by rfl)
set_option maxRecDepth 100000 in
theorem sl_X12_cannotPlan : Cond.selects RX12 yX12_cannotPlan yX12_cannotPlan ∈ BW := bw_in (List.mem_of_getElem? (i := 106) (by rfl)) (by rfl)
set_option maxRecDepth 100000 in
theorem fl_RX12_125 : Cond.fieldLink RX12 125 "BlastPlannerModel" "text" "[B" ∈ BW := bw_in (List.mem_of_getElem? (i := 1575) (by rfl)) (by rfl)
set_option maxRecDepth 100000 in
theorem fl_RX12_366 : Cond.fieldLink RX12 366 "BlastPlannerModel" "written" "I" ∈ BW := bw_in (List.mem_of_getElem? (i := 1576) (by rfl)) (by rfl)
set_option maxRecDepth 100000 in
theorem cd_X12_says : Cond.code yX12_says cX12_says 2 none ∈ BW := bw_in (List.mem_of_getElem? (i := 2161) (by rfl)) (by rfl)
set_option maxRecDepth 100000 in
theorem ml_RX12_372 : Cond.methodLink RX12 372 yX12_says ∈ BW := bw_in (List.mem_of_getElem? (i := 2158) (by rfl)) (by rfl)
set_option maxRecDepth 100000 in
theorem in_X12_says : Cond.instanceMethod yX12_says ∈ BW := bw_in (List.mem_of_getElem? (i := 2160) (by rfl)) (by rfl)
set_option maxRecDepth 100000 in
theorem sl_X12_says : Cond.selects RX12 yX12_says yX12_says ∈ BW := bw_in (List.mem_of_getElem? (i := 111) (by rfl)) (by rfl)
set_option maxRecDepth 100000 in
theorem fl_RX0_24 : Cond.fieldLink RX0 24 "BlastPlanner$Blast" "charges" "I" ∈ BW := bw_in (List.mem_of_getElem? (i := 372) (by rfl)) (by rfl)
set_option maxRecDepth 100000 in
theorem fl_RX0_9 : Cond.fieldLink RX0 9 "BlastPlanner$Blast" "sizes" "[I" ∈ BW := bw_in (List.mem_of_getElem? (i := 354) (by rfl)) (by rfl)
set_option maxRecDepth 100000 in
theorem fl_RX0_15 : Cond.fieldLink RX0 15 "BlastPlanner$Blast" "delays" "[I" ∈ BW := bw_in (List.mem_of_getElem? (i := 356) (by rfl)) (by rfl)
set_option maxRecDepth 100000 in
theorem ml_RX0_28 : Cond.methodLink RX0 28 Lib.Math.min.name ∈ BW := bw_in (List.mem_of_getElem? (i := 1057) (by rfl)) (by rfl)
set_option maxRecDepth 100000 in
theorem ml_RX0_34 : Cond.methodLink RX0 34 Lib.Math.max.name ∈ BW := bw_in (List.mem_of_getElem? (i := 1058) (by rfl)) (by rfl)
set_option maxRecDepth 100000 in
theorem fl_RX0_37 : Cond.fieldLink RX0 37 "BlastPlanner$Blast" "windowSum" "I" ∈ BW := bw_in (List.mem_of_getElem? (i := 376) (by rfl)) (by rfl)
set_option maxRecDepth 100000 in
theorem fl_RX0_40 : Cond.fieldLink RX0 40 "BlastPlanner$Blast" "windowFirst" "I" ∈ BW := bw_in (List.mem_of_getElem? (i := 379) (by rfl)) (by rfl)
set_option maxRecDepth 100000 in
theorem cd_X0_sumFromDelay : Cond.code yX0_sumFromDelay cX0_sumFromDelay 4 (some .int) ∈ BW := bw_in (List.mem_of_getElem? (i := 693) (by rfl)) (by rfl)
set_option maxRecDepth 100000 in
theorem ni_RX0 : Cond.initialized RX0 ∈ BW := bw_in (List.mem_of_getElem? (i := 126) (by rfl)) (by rfl)
set_option maxRecDepth 100000 in
theorem ml_RX0_43 : Cond.methodLink RX0 43 yX0_sumFromDelay ∈ BW := bw_in (List.mem_of_getElem? (i := 690) (by rfl)) (by rfl)
set_option maxRecDepth 100000 in
theorem in_X0_sumFromDelay : Cond.instanceMethod yX0_sumFromDelay ∈ BW := bw_in (List.mem_of_getElem? (i := 691) (by rfl)) (by rfl)
set_option maxRecDepth 100000 in
theorem sl_X0_sumFromDelay : Cond.selects RX0 yX0_sumFromDelay yX0_sumFromDelay ∈ BW := bw_in (List.mem_of_getElem? (i := 692) (by rfl)) (by rfl)
set_option maxRecDepth 100000 in
theorem cd_X11_quotient : Cond.code yX11_quotient cX11_quotient 2 (some .int) ∈ BW := bw_in (List.mem_of_getElem? (i := 593) (by rfl)) (by rfl)
set_option maxRecDepth 100000 in
theorem ni_RX11 : Cond.initialized RX11 ∈ BW := bw_in (List.mem_of_getElem? (i := 115) (by rfl)) (by rfl)
set_option maxRecDepth 100000 in
theorem mn_RX0_47 : Cond.methodLinkNest RX0 47 yX11_quotient "BlastPlanner" ∈ BW := bw_in (List.mem_of_getElem? (i := 698) (by rfl)) (by rfl)
set_option maxRecDepth 100000 in
theorem st_X11_quotient : Cond.static yX11_quotient ∈ BW := bw_in (List.mem_of_getElem? (i := 592) (by rfl)) (by rfl)
set_option maxRecDepth 100000 in
theorem fl_RX0_18 : Cond.fieldLink RX0 18 "BlastPlanner$Blast" "squaredDistances" "[I" ∈ BW := bw_in (List.mem_of_getElem? (i := 359) (by rfl)) (by rfl)
set_option maxRecDepth 100000 in
theorem fl_RX0_50 : Cond.fieldLink RX0 50 "BlastPlanner$Blast" "closedRoads" "I" ∈ BW := bw_in (List.mem_of_getElem? (i := 385) (by rfl)) (by rfl)
set_option maxRecDepth 100000 in
theorem fl_RX1_15 : Cond.fieldLink RX1 15 "BlastPlanner$FormattedText" "length" "I" ∈ BW := bw_in (List.mem_of_getElem? (i := 257) (by rfl)) (by rfl)
set_option maxRecDepth 100000 in
theorem fl_RX1_9 : Cond.fieldLink RX1 9 "BlastPlanner$FormattedText" "bytes" "[B" ∈ BW := bw_in (List.mem_of_getElem? (i := 255) (by rfl)) (by rfl)
set_option maxRecDepth 100000 in
theorem cd_X1_add : Cond.code yX1_add cX1_add 2 none ∈ BW := bw_in (List.mem_of_getElem? (i := 1498) (by rfl)) (by rfl)
set_option maxRecDepth 100000 in
theorem ni_RX1 : Cond.initialized RX1 ∈ BW := bw_in (List.mem_of_getElem? (i := 121) (by rfl)) (by rfl)
set_option maxRecDepth 100000 in
theorem ml_RX1_23 : Cond.methodLink RX1 23 yX1_add ∈ BW := bw_in (List.mem_of_getElem? (i := 1495) (by rfl)) (by rfl)
set_option maxRecDepth 100000 in
theorem in_X1_add : Cond.instanceMethod yX1_add ∈ BW := bw_in (List.mem_of_getElem? (i := 1497) (by rfl)) (by rfl)
set_option maxRecDepth 100000 in
theorem sl_X1_add : Cond.selects RX1 yX1_add yX1_add ∈ BW := bw_in (List.mem_of_getElem? (i := 37) (by rfl)) (by rfl)
set_option maxRecDepth 100000 in
theorem fl_RX2_16 : Cond.fieldLink RX2 16 "BlastPlanner$History" "depth" "I" ∈ BW := bw_in (List.mem_of_getElem? (i := 196) (by rfl)) (by rfl)
set_option maxRecDepth 100000 in
theorem fl_RX2_13 : Cond.fieldLink RX2 13 "BlastPlanner$History" "rows" "[[I" ∈ BW := bw_in (List.mem_of_getElem? (i := 194) (by rfl)) (by rfl)
set_option maxRecDepth 100000 in
theorem fl_RX2_20 : Cond.fieldLink RX2 20 "BlastPlanner$History" "next" "I" ∈ BW := bw_in (List.mem_of_getElem? (i := 195) (by rfl)) (by rfl)
set_option maxRecDepth 100000 in
theorem fl_RX2_23 : Cond.fieldLink RX2 23 "BlastPlanner$Site" "blastTotal" "I" ∈ BW := bw_in (List.mem_of_getElem? (i := 463) (by rfl)) (by rfl)
set_option maxRecDepth 100000 in
theorem ml_RX2_45 : Cond.methodLink RX2 45 Lib.Math.min.name ∈ BW := bw_in (List.mem_of_getElem? (i := 1300) (by rfl)) (by rfl)
set_option maxRecDepth 100000 in
theorem fl_RX2_28 : Cond.fieldLink RX2 28 "BlastPlanner$Site" "blasts" "[LBlastPlanner$Blast;" ∈ BW := bw_in (List.mem_of_getElem? (i := 433) (by rfl)) (by rfl)
set_option maxRecDepth 100000 in
theorem fl_RX2_32 : Cond.fieldLink RX2 32 "BlastPlanner$Site" "times" "[I" ∈ BW := bw_in (List.mem_of_getElem? (i := 447) (by rfl)) (by rfl)
set_option maxRecDepth 100000 in
theorem fl_RX2_36 : Cond.fieldLink RX2 36 "BlastPlanner$Blast" "fired" "Z" ∈ BW := bw_in (List.mem_of_getElem? (i := 389) (by rfl)) (by rfl)
set_option maxRecDepth 100000 in
theorem fl_RX2_42 : Cond.fieldLink RX2 42 "BlastPlanner$Blast" "delays" "[I" ∈ BW := bw_in (List.mem_of_getElem? (i := 357) (by rfl)) (by rfl)
set_option maxRecDepth 100000 in
theorem fl_RX3_18 : Cond.fieldLink RX3 18 "BlastPlanner$MinuteSet" "runs" "I" ∈ BW := bw_in (List.mem_of_getElem? (i := 274) (by rfl)) (by rfl)
set_option maxRecDepth 100000 in
theorem fl_RX3_11 : Cond.fieldLink RX3 11 "BlastPlanner$MinuteSet" "firsts" "[I" ∈ BW := bw_in (List.mem_of_getElem? (i := 270) (by rfl)) (by rfl)
set_option maxRecDepth 100000 in
theorem fl_RX3_15 : Cond.fieldLink RX3 15 "BlastPlanner$MinuteSet" "ends" "[I" ∈ BW := bw_in (List.mem_of_getElem? (i := 272) (by rfl)) (by rfl)
set_option maxRecDepth 100000 in
theorem ml_RX3_22 : Cond.methodLink RX3 22 Lib.Math.min.name ∈ BW := bw_in (List.mem_of_getElem? (i := 634) (by rfl)) (by rfl)
set_option maxRecDepth 100000 in
theorem ml_RX3_28 : Cond.methodLink RX3 28 Lib.Math.max.name ∈ BW := bw_in (List.mem_of_getElem? (i := 637) (by rfl)) (by rfl)
set_option maxRecDepth 100000 in
theorem fl_RX4_18 : Cond.fieldLink RX4 18 "BlastPlanner$Neighbour" "windows" "I" ∈ BW := bw_in (List.mem_of_getElem? (i := 311) (by rfl)) (by rfl)
set_option maxRecDepth 100000 in
theorem fl_RX4_9 : Cond.fieldLink RX4 9 "BlastPlanner$Neighbour" "quietFirst" "[I" ∈ BW := bw_in (List.mem_of_getElem? (i := 300) (by rfl)) (by rfl)
set_option maxRecDepth 100000 in
theorem fl_RX4_15 : Cond.fieldLink RX4 15 "BlastPlanner$Neighbour" "quietEnd" "[I" ∈ BW := bw_in (List.mem_of_getElem? (i := 302) (by rfl)) (by rfl)
set_option maxRecDepth 100000 in
theorem fl_RX5_12 : Cond.fieldLink RX5 12 "BlastPlanner$Parser" "tokens" "LBlastPlanner$Tokens;" ∈ BW := bw_in (List.mem_of_getElem? (i := 181) (by rfl)) (by rfl)
set_option maxRecDepth 100000 in
theorem fl_RX5_44 : Cond.fieldLink RX5 44 "BlastPlanner$Tokens" "position" "I" ∈ BW := bw_in (List.mem_of_getElem? (i := 163) (by rfl)) (by rfl)
set_option maxRecDepth 100000 in
theorem fl_RX5_112 : Cond.fieldLink RX5 112 "BlastPlanner$Site" "neighbourTotal" "I" ∈ BW := bw_in (List.mem_of_getElem? (i := 454) (by rfl)) (by rfl)
set_option maxRecDepth 100000 in
theorem fl_RX5_119 : Cond.fieldLink RX5 119 "BlastPlanner$Site" "neighbours" "[LBlastPlanner$Neighbour;" ∈ BW := bw_in (List.mem_of_getElem? (i := 427) (by rfl)) (by rfl)
set_option maxRecDepth 100000 in
theorem fl_RX5_123 : Cond.fieldLink RX5 123 "BlastPlanner$Site" "neighbourNames" "[I" ∈ BW := bw_in (List.mem_of_getElem? (i := 438) (by rfl)) (by rfl)
set_option maxRecDepth 100000 in
theorem fl_RX5_142 : Cond.fieldLink RX5 142 "BlastPlanner$Neighbour" "windows" "I" ∈ BW := bw_in (List.mem_of_getElem? (i := 312) (by rfl)) (by rfl)
set_option maxRecDepth 100000 in
theorem fl_RX5_157 : Cond.fieldLink RX5 157 "BlastPlanner$Site" "roadTotal" "I" ∈ BW := bw_in (List.mem_of_getElem? (i := 458) (by rfl)) (by rfl)
set_option maxRecDepth 100000 in
theorem fl_RX5_160 : Cond.fieldLink RX5 160 "BlastPlanner$Site" "roads" "[LBlastPlanner$Road;" ∈ BW := bw_in (List.mem_of_getElem? (i := 430) (by rfl)) (by rfl)
set_option maxRecDepth 100000 in
theorem fl_RX5_164 : Cond.fieldLink RX5 164 "BlastPlanner$Site" "roadNames" "[I" ∈ BW := bw_in (List.mem_of_getElem? (i := 440) (by rfl)) (by rfl)
set_option maxRecDepth 100000 in
theorem fl_RX5_181 : Cond.fieldLink RX5 181 "BlastPlanner$Site" "blastTotal" "I" ∈ BW := bw_in (List.mem_of_getElem? (i := 465) (by rfl)) (by rfl)
set_option maxRecDepth 100000 in
theorem fl_RX5_184 : Cond.fieldLink RX5 184 "BlastPlanner$Site" "blasts" "[LBlastPlanner$Blast;" ∈ BW := bw_in (List.mem_of_getElem? (i := 435) (by rfl)) (by rfl)
set_option maxRecDepth 100000 in
theorem fl_RX5_188 : Cond.fieldLink RX5 188 "BlastPlanner$Site" "blastNames" "[I" ∈ BW := bw_in (List.mem_of_getElem? (i := 442) (by rfl)) (by rfl)
set_option maxRecDepth 100000 in
theorem fl_RX5_202 : Cond.fieldLink RX5 202 "BlastPlanner$Blast" "charges" "I" ∈ BW := bw_in (List.mem_of_getElem? (i := 373) (by rfl)) (by rfl)
set_option maxRecDepth 100000 in
theorem fl_RX6_21 : Cond.fieldLink RX6 21 "BlastPlanner$PlanSearch" "known" "Z" ∈ BW := bw_in (List.mem_of_getElem? (i := 219) (by rfl)) (by rfl)
set_option maxRecDepth 100000 in
theorem fl_RX6_25 : Cond.fieldLink RX6 25 "BlastPlanner$PlanSearch" "openTotal" "I" ∈ BW := bw_in (List.mem_of_getElem? (i := 216) (by rfl)) (by rfl)
set_option maxRecDepth 100000 in
theorem fl_RX6_29 : Cond.fieldLink RX6 29 "BlastPlanner$Site" "blastTotal" "I" ∈ BW := bw_in (List.mem_of_getElem? (i := 462) (by rfl)) (by rfl)
set_option maxRecDepth 100000 in
theorem fl_RX6_37 : Cond.fieldLink RX6 37 "BlastPlanner$PlanSearch" "bestLength" "I" ∈ BW := bw_in (List.mem_of_getElem? (i := 217) (by rfl)) (by rfl)
set_option maxRecDepth 100000 in
theorem fl_RX6_18 : Cond.fieldLink RX6 18 "BlastPlanner$PlanSearch" "bestTimes" "[I" ∈ BW := bw_in (List.mem_of_getElem? (i := 214) (by rfl)) (by rfl)
set_option maxRecDepth 100000 in
theorem fl_RX6_15 : Cond.fieldLink RX6 15 "BlastPlanner$PlanSearch" "trial" "[I" ∈ BW := bw_in (List.mem_of_getElem? (i := 213) (by rfl)) (by rfl)
set_option maxRecDepth 100000 in
theorem fl_RX6_64 : Cond.fieldLink RX6 64 "BlastPlanner$Site" "roadTotal" "I" ∈ BW := bw_in (List.mem_of_getElem? (i := 457) (by rfl)) (by rfl)
set_option maxRecDepth 100000 in
theorem fl_RX6_67 : Cond.fieldLink RX6 67 "BlastPlanner$Site" "blasts" "[LBlastPlanner$Blast;" ∈ BW := bw_in (List.mem_of_getElem? (i := 434) (by rfl)) (by rfl)
set_option maxRecDepth 100000 in
theorem cd_X0_closesRoad : Cond.code yX0_closesRoad cX0_closesRoad 2 (some .boolean) ∈ BW := bw_in (List.mem_of_getElem? (i := 621) (by rfl)) (by rfl)
set_option maxRecDepth 100000 in
theorem ml_RX6_71 : Cond.methodLink RX6 71 yX0_closesRoad ∈ BW := bw_in (List.mem_of_getElem? (i := 1456) (by rfl)) (by rfl)
set_option maxRecDepth 100000 in
theorem in_X0_closesRoad : Cond.instanceMethod yX0_closesRoad ∈ BW := bw_in (List.mem_of_getElem? (i := 619) (by rfl)) (by rfl)
set_option maxRecDepth 100000 in
theorem sl_X0_closesRoad : Cond.selects RX0 yX0_closesRoad yX0_closesRoad ∈ BW := bw_in (List.mem_of_getElem? (i := 620) (by rfl)) (by rfl)
set_option maxRecDepth 100000 in
theorem fl_RX7_7 : Cond.fieldLink RX7 7 "BlastPlanner$Road" "x2" "I" ∈ BW := bw_in (List.mem_of_getElem? (i := 336) (by rfl)) (by rfl)
set_option maxRecDepth 100000 in
theorem fl_RX7_13 : Cond.fieldLink RX7 13 "BlastPlanner$Road" "x1" "I" ∈ BW := bw_in (List.mem_of_getElem? (i := 332) (by rfl)) (by rfl)
set_option maxRecDepth 100000 in
theorem fl_RX7_16 : Cond.fieldLink RX7 16 "BlastPlanner$Road" "y2" "I" ∈ BW := bw_in (List.mem_of_getElem? (i := 338) (by rfl)) (by rfl)
set_option maxRecDepth 100000 in
theorem fl_RX7_19 : Cond.fieldLink RX7 19 "BlastPlanner$Road" "y1" "I" ∈ BW := bw_in (List.mem_of_getElem? (i := 334) (by rfl)) (by rfl)
set_option maxRecDepth 100000 in
theorem cd_X11_squareSum : Cond.code yX11_squareSum cX11_squareSum 2 (some .int) ∈ BW := bw_in (List.mem_of_getElem? (i := 958) (by rfl)) (by rfl)
set_option maxRecDepth 100000 in
theorem mn_RX7_22 : Cond.methodLinkNest RX7 22 yX11_squareSum "BlastPlanner" ∈ BW := bw_in (List.mem_of_getElem? (i := 967) (by rfl)) (by rfl)
set_option maxRecDepth 100000 in
theorem st_X11_squareSum : Cond.static yX11_squareSum ∈ BW := bw_in (List.mem_of_getElem? (i := 957) (by rfl)) (by rfl)
set_option maxRecDepth 100000 in
theorem fl_RX8_15 : Cond.fieldLink RX8 15 "BlastPlanner$SirenList" "total" "I" ∈ BW := bw_in (List.mem_of_getElem? (i := 242) (by rfl)) (by rfl)
set_option maxRecDepth 100000 in
theorem fl_RX8_19 : Cond.fieldLink RX8 19 "BlastPlanner$Site" "blastTotal" "I" ∈ BW := bw_in (List.mem_of_getElem? (i := 460) (by rfl)) (by rfl)
set_option maxRecDepth 100000 in
theorem fl_RX8_24 : Cond.fieldLink RX8 24 "BlastPlanner$Site" "times" "[I" ∈ BW := bw_in (List.mem_of_getElem? (i := 445) (by rfl)) (by rfl)
set_option maxRecDepth 100000 in
theorem fl_RX8_9 : Cond.fieldLink RX8 9 "BlastPlanner$SirenList" "keys" "[I" ∈ BW := bw_in (List.mem_of_getElem? (i := 240) (by rfl)) (by rfl)
set_option maxRecDepth 100000 in
theorem fl_RX9_54 : Cond.fieldLink RX9 54 "BlastPlanner$Site" "neighbourTotal" "I" ∈ BW := bw_in (List.mem_of_getElem? (i := 453) (by rfl)) (by rfl)
set_option maxRecDepth 100000 in
theorem fl_RX9_58 : Cond.fieldLink RX9 58 "BlastPlanner$Site" "roadTotal" "I" ∈ BW := bw_in (List.mem_of_getElem? (i := 456) (by rfl)) (by rfl)
set_option maxRecDepth 100000 in
theorem fl_RX9_61 : Cond.fieldLink RX9 61 "BlastPlanner$Site" "blastTotal" "I" ∈ BW := bw_in (List.mem_of_getElem? (i := 461) (by rfl)) (by rfl)
set_option maxRecDepth 100000 in
theorem fl_RX9_64 : Cond.fieldLink RX9 64 "BlastPlanner$Site" "dayFirst" "I" ∈ BW := bw_in (List.mem_of_getElem? (i := 466) (by rfl)) (by rfl)
set_option maxRecDepth 100000 in
theorem fl_RX9_67 : Cond.fieldLink RX9 67 "BlastPlanner$Site" "dayLast" "I" ∈ BW := bw_in (List.mem_of_getElem? (i := 468) (by rfl)) (by rfl)
set_option maxRecDepth 100000 in
theorem fl_RX9_70 : Cond.fieldLink RX9 70 "BlastPlanner$Site" "step" "I" ∈ BW := bw_in (List.mem_of_getElem? (i := 470) (by rfl)) (by rfl)
set_option maxRecDepth 100000 in
theorem fl_RX9_73 : Cond.fieldLink RX9 73 "BlastPlanner$Site" "before" "I" ∈ BW := bw_in (List.mem_of_getElem? (i := 472) (by rfl)) (by rfl)
set_option maxRecDepth 100000 in
theorem fl_RX9_76 : Cond.fieldLink RX9 76 "BlastPlanner$Site" "after" "I" ∈ BW := bw_in (List.mem_of_getElem? (i := 474) (by rfl)) (by rfl)
set_option maxRecDepth 100000 in
theorem fl_RX9_79 : Cond.fieldLink RX9 79 "BlastPlanner$Site" "spacing" "I" ∈ BW := bw_in (List.mem_of_getElem? (i := 477) (by rfl)) (by rfl)
set_option maxRecDepth 100000 in
theorem fl_RX9_39 : Cond.fieldLink RX9 39 "BlastPlanner$Site" "times" "[I" ∈ BW := bw_in (List.mem_of_getElem? (i := 444) (by rfl)) (by rfl)
set_option maxRecDepth 100000 in
theorem fl_RX9_42 : Cond.fieldLink RX9 42 "BlastPlanner$Site" "windDirections" "[I" ∈ BW := bw_in (List.mem_of_getElem? (i := 449) (by rfl)) (by rfl)
set_option maxRecDepth 100000 in
theorem fl_RX9_45 : Cond.fieldLink RX9 45 "BlastPlanner$Site" "windSpeeds" "[I" ∈ BW := bw_in (List.mem_of_getElem? (i := 451) (by rfl)) (by rfl)
set_option maxRecDepth 100000 in
theorem fl_RX9_25 : Cond.fieldLink RX9 25 "BlastPlanner$Site" "blasts" "[LBlastPlanner$Blast;" ∈ BW := bw_in (List.mem_of_getElem? (i := 432) (by rfl)) (by rfl)
set_option maxRecDepth 100000 in
theorem fl_RX9_99 : Cond.fieldLink RX9 99 "BlastPlanner$Blast" "radius" "I" ∈ BW := bw_in (List.mem_of_getElem? (i := 370) (by rfl)) (by rfl)
set_option maxRecDepth 100000 in
theorem fl_RX9_102 : Cond.fieldLink RX9 102 "BlastPlanner$Blast" "heardBy" "I" ∈ BW := bw_in (List.mem_of_getElem? (i := 387) (by rfl)) (by rfl)
set_option maxRecDepth 100000 in
theorem fl_RX9_11 : Cond.fieldLink RX9 11 "BlastPlanner$Site" "neighbours" "[LBlastPlanner$Neighbour;" ∈ BW := bw_in (List.mem_of_getElem? (i := 426) (by rfl)) (by rfl)
set_option maxRecDepth 100000 in
theorem fl_RX9_105 : Cond.fieldLink RX9 105 "BlastPlanner$Neighbour" "x" "I" ∈ BW := bw_in (List.mem_of_getElem? (i := 304) (by rfl)) (by rfl)
set_option maxRecDepth 100000 in
theorem fl_RX9_108 : Cond.fieldLink RX9 108 "BlastPlanner$Blast" "x" "I" ∈ BW := bw_in (List.mem_of_getElem? (i := 364) (by rfl)) (by rfl)
set_option maxRecDepth 100000 in
theorem fl_RX9_109 : Cond.fieldLink RX9 109 "BlastPlanner$Neighbour" "y" "I" ∈ BW := bw_in (List.mem_of_getElem? (i := 306) (by rfl)) (by rfl)
set_option maxRecDepth 100000 in
theorem fl_RX9_112 : Cond.fieldLink RX9 112 "BlastPlanner$Blast" "y" "I" ∈ BW := bw_in (List.mem_of_getElem? (i := 367) (by rfl)) (by rfl)
set_option maxRecDepth 100000 in
theorem mn_RX9_113 : Cond.methodLinkNest RX9 113 yX11_squareSum "BlastPlanner" ∈ BW := bw_in (List.mem_of_getElem? (i := 956) (by rfl)) (by rfl)
set_option maxRecDepth 100000 in
theorem fl_RX9_117 : Cond.fieldLink RX9 117 "BlastPlanner$Blast" "squaredDistances" "[I" ∈ BW := bw_in (List.mem_of_getElem? (i := 360) (by rfl)) (by rfl)
set_option maxRecDepth 100000 in
theorem fl_RX9_120 : Cond.fieldLink RX9 120 "BlastPlanner$Blast" "closedRoads" "I" ∈ BW := bw_in (List.mem_of_getElem? (i := 384) (by rfl)) (by rfl)
set_option maxRecDepth 100000 in
theorem fl_RX9_19 : Cond.fieldLink RX9 19 "BlastPlanner$Site" "roads" "[LBlastPlanner$Road;" ∈ BW := bw_in (List.mem_of_getElem? (i := 429) (by rfl)) (by rfl)
set_option maxRecDepth 100000 in
theorem cd_X7_comesWithin : Cond.code yX7_comesWithin cX7_comesWithin 11 (some .boolean) ∈ BW := bw_in (List.mem_of_getElem? (i := 966) (by rfl)) (by rfl)
set_option maxRecDepth 100000 in
theorem ni_RX7 : Cond.initialized RX7 ∈ BW := bw_in (List.mem_of_getElem? (i := 125) (by rfl)) (by rfl)
set_option maxRecDepth 100000 in
theorem ml_RX9_123 : Cond.methodLink RX9 123 yX7_comesWithin ∈ BW := bw_in (List.mem_of_getElem? (i := 963) (by rfl)) (by rfl)
set_option maxRecDepth 100000 in
theorem in_X7_comesWithin : Cond.instanceMethod yX7_comesWithin ∈ BW := bw_in (List.mem_of_getElem? (i := 964) (by rfl)) (by rfl)
set_option maxRecDepth 100000 in
theorem sl_X7_comesWithin : Cond.selects RX7 yX7_comesWithin yX7_comesWithin ∈ BW := bw_in (List.mem_of_getElem? (i := 965) (by rfl)) (by rfl)
set_option maxRecDepth 100000 in
theorem fl_RX9_127 : Cond.fieldLink RX9 127 "BlastPlanner$Site" "WIND_X" "[I" ∈ BW := bw_in (List.mem_of_getElem? (i := 972) (by rfl)) (by rfl)
set_option maxRecDepth 100000 in
theorem fl_RX9_130 : Cond.fieldLink RX9 130 "BlastPlanner$Site" "WIND_Y" "[I" ∈ BW := bw_in (List.mem_of_getElem? (i := 974) (by rfl)) (by rfl)
set_option maxRecDepth 100000 in
theorem ml_RX9_133 : Cond.methodLink RX9 133 Lib.Math.abs.name ∈ BW := bw_in (List.mem_of_getElem? (i := 976) (by rfl)) (by rfl)
set_option maxRecDepth 100000 in
theorem cd_X0_measureWindow : Cond.code yX0_measureWindow cX0_measureWindow 3 none ∈ BW := bw_in (List.mem_of_getElem? (i := 689) (by rfl)) (by rfl)
set_option maxRecDepth 100000 in
theorem ml_RX9_139 : Cond.methodLink RX9 139 yX0_measureWindow ∈ BW := bw_in (List.mem_of_getElem? (i := 686) (by rfl)) (by rfl)
set_option maxRecDepth 100000 in
theorem in_X0_measureWindow : Cond.instanceMethod yX0_measureWindow ∈ BW := bw_in (List.mem_of_getElem? (i := 687) (by rfl)) (by rfl)
set_option maxRecDepth 100000 in
theorem sl_X0_measureWindow : Cond.selects RX0 yX0_measureWindow yX0_measureWindow ∈ BW := bw_in (List.mem_of_getElem? (i := 688) (by rfl)) (by rfl)
set_option maxRecDepth 100000 in
theorem fl_RX9_142 : Cond.fieldLink RX9 142 "BlastPlanner$Blast" "tooStrong" "I" ∈ BW := bw_in (List.mem_of_getElem? (i := 381) (by rfl)) (by rfl)
set_option maxRecDepth 100000 in
theorem fl_RX9_145 : Cond.fieldLink RX9 145 "BlastPlanner$Blast" "windowSum" "I" ∈ BW := bw_in (List.mem_of_getElem? (i := 377) (by rfl)) (by rfl)
set_option maxRecDepth 100000 in
theorem cd_X0_shakes : Cond.code yX0_shakes cX0_shakes 3 (some .int) ∈ BW := bw_in (List.mem_of_getElem? (i := 697) (by rfl)) (by rfl)
set_option maxRecDepth 100000 in
theorem ml_RX9_148 : Cond.methodLink RX9 148 yX0_shakes ∈ BW := bw_in (List.mem_of_getElem? (i := 694) (by rfl)) (by rfl)
set_option maxRecDepth 100000 in
theorem in_X0_shakes : Cond.instanceMethod yX0_shakes ∈ BW := bw_in (List.mem_of_getElem? (i := 695) (by rfl)) (by rfl)
set_option maxRecDepth 100000 in
theorem sl_X0_shakes : Cond.selects RX0 yX0_shakes yX0_shakes ∈ BW := bw_in (List.mem_of_getElem? (i := 696) (by rfl)) (by rfl)
set_option maxRecDepth 100000 in
theorem fl_RX9_151 : Cond.fieldLink RX9 151 "BlastPlanner$Neighbour" "limit" "I" ∈ BW := bw_in (List.mem_of_getElem? (i := 309) (by rfl)) (by rfl)
set_option maxRecDepth 100000 in
theorem mn_RX9_154 : Cond.methodLinkNest RX9 154 yX11_quotient "BlastPlanner" ∈ BW := bw_in (List.mem_of_getElem? (i := 591) (by rfl)) (by rfl)
set_option maxRecDepth 100000 in
theorem cd_X4_quietAt : Cond.code yX4_quietAt cX4_quietAt 3 (some .boolean) ∈ BW := bw_in (List.mem_of_getElem? (i := 1153) (by rfl)) (by rfl)
set_option maxRecDepth 100000 in
theorem ni_RX4 : Cond.initialized RX4 ∈ BW := bw_in (List.mem_of_getElem? (i := 124) (by rfl)) (by rfl)
set_option maxRecDepth 100000 in
theorem ml_RX9_165 : Cond.methodLink RX9 165 yX4_quietAt ∈ BW := bw_in (List.mem_of_getElem? (i := 1215) (by rfl)) (by rfl)
set_option maxRecDepth 100000 in
theorem in_X4_quietAt : Cond.instanceMethod yX4_quietAt ∈ BW := bw_in (List.mem_of_getElem? (i := 1151) (by rfl)) (by rfl)
set_option maxRecDepth 100000 in
theorem sl_X4_quietAt : Cond.selects RX4 yX4_quietAt yX4_quietAt ∈ BW := bw_in (List.mem_of_getElem? (i := 1152) (by rfl)) (by rfl)
set_option maxRecDepth 100000 in
theorem fl_RX9_169 : Cond.fieldLink RX9 169 "BlastPlanner$Blast" "fired" "Z" ∈ BW := bw_in (List.mem_of_getElem? (i := 391) (by rfl)) (by rfl)
set_option maxRecDepth 100000 in
theorem cd_X3_clear : Cond.code yX3_clear cX3_clear 1 none ∈ BW := bw_in (List.mem_of_getElem? (i := 617) (by rfl)) (by rfl)
set_option maxRecDepth 100000 in
theorem ni_RX3 : Cond.initialized RX3 ∈ BW := bw_in (List.mem_of_getElem? (i := 122) (by rfl)) (by rfl)
set_option maxRecDepth 100000 in
theorem ml_RX9_173 : Cond.methodLink RX9 173 yX3_clear ∈ BW := bw_in (List.mem_of_getElem? (i := 614) (by rfl)) (by rfl)
set_option maxRecDepth 100000 in
theorem in_X3_clear : Cond.instanceMethod yX3_clear ∈ BW := bw_in (List.mem_of_getElem? (i := 615) (by rfl)) (by rfl)
set_option maxRecDepth 100000 in
theorem sl_X3_clear : Cond.selects RX3 yX3_clear yX3_clear ∈ BW := bw_in (List.mem_of_getElem? (i := 616) (by rfl)) (by rfl)
set_option maxRecDepth 100000 in
theorem ml_RX9_178 : Cond.methodLink RX9 178 yX0_closesRoad ∈ BW := bw_in (List.mem_of_getElem? (i := 618) (by rfl)) (by rfl)
set_option maxRecDepth 100000 in
theorem cd_X9_closingFirst : Cond.code yX9_closingFirst cX9_closingFirst 2 (some .int) ∈ BW := bw_in (List.mem_of_getElem? (i := 625) (by rfl)) (by rfl)
set_option maxRecDepth 100000 in
theorem ni_RX9 : Cond.initialized RX9 ∈ BW := bw_in (List.mem_of_getElem? (i := 123) (by rfl)) (by rfl)
set_option maxRecDepth 100000 in
theorem ml_RX9_181 : Cond.methodLink RX9 181 yX9_closingFirst ∈ BW := bw_in (List.mem_of_getElem? (i := 622) (by rfl)) (by rfl)
set_option maxRecDepth 100000 in
theorem in_X9_closingFirst : Cond.instanceMethod yX9_closingFirst ∈ BW := bw_in (List.mem_of_getElem? (i := 623) (by rfl)) (by rfl)
set_option maxRecDepth 100000 in
theorem sl_X9_closingFirst : Cond.selects RX9 yX9_closingFirst yX9_closingFirst ∈ BW := bw_in (List.mem_of_getElem? (i := 624) (by rfl)) (by rfl)
set_option maxRecDepth 100000 in
theorem cd_X9_closingEnd : Cond.code yX9_closingEnd cX9_closingEnd 2 (some .int) ∈ BW := bw_in (List.mem_of_getElem? (i := 629) (by rfl)) (by rfl)
set_option maxRecDepth 100000 in
theorem ml_RX9_184 : Cond.methodLink RX9 184 yX9_closingEnd ∈ BW := bw_in (List.mem_of_getElem? (i := 626) (by rfl)) (by rfl)
set_option maxRecDepth 100000 in
theorem in_X9_closingEnd : Cond.instanceMethod yX9_closingEnd ∈ BW := bw_in (List.mem_of_getElem? (i := 627) (by rfl)) (by rfl)
set_option maxRecDepth 100000 in
theorem sl_X9_closingEnd : Cond.selects RX9 yX9_closingEnd yX9_closingEnd ∈ BW := bw_in (List.mem_of_getElem? (i := 628) (by rfl)) (by rfl)
set_option maxRecDepth 100000 in
theorem fl_RX10_19 : Cond.fieldLink RX10 19 "BlastPlanner$Tokens" "length" "I" ∈ BW := bw_in (List.mem_of_getElem? (i := 161) (by rfl)) (by rfl)
set_option maxRecDepth 100000 in
theorem fl_RX10_9 : Cond.fieldLink RX10 9 "BlastPlanner$Tokens" "bytes" "[B" ∈ BW := bw_in (List.mem_of_getElem? (i := 160) (by rfl)) (by rfl)
set_option maxRecDepth 100000 in
theorem fl_RX10_22 : Cond.fieldLink RX10 22 "BlastPlanner$Tokens" "position" "I" ∈ BW := bw_in (List.mem_of_getElem? (i := 164) (by rfl)) (by rfl)
set_option maxRecDepth 100000 in
theorem fl_RX10_15 : Cond.fieldLink RX10 15 "BlastPlanner$Tokens" "wrongOffset" "I" ∈ BW := bw_in (List.mem_of_getElem? (i := 165) (by rfl)) (by rfl)
set_option maxRecDepth 100000 in
theorem fl_RX10_25 : Cond.fieldLink RX10 25 "BlastPlanner$Tokens" "wrongKind" "I" ∈ BW := bw_in (List.mem_of_getElem? (i := 167) (by rfl)) (by rfl)
set_option maxRecDepth 100000 in
theorem cd_X10_skipSpaces : Cond.code yX10_skipSpaces cX10_skipSpaces 1 none ∈ BW := bw_in (List.mem_of_getElem? (i := 739) (by rfl)) (by rfl)
set_option maxRecDepth 100000 in
theorem ni_RX10 : Cond.initialized RX10 ∈ BW := bw_in (List.mem_of_getElem? (i := 117) (by rfl)) (by rfl)
set_option maxRecDepth 100000 in
theorem ml_RX10_28 : Cond.methodLink RX10 28 yX10_skipSpaces ∈ BW := bw_in (List.mem_of_getElem? (i := 736) (by rfl)) (by rfl)
set_option maxRecDepth 100000 in
theorem in_X10_skipSpaces : Cond.instanceMethod yX10_skipSpaces ∈ BW := bw_in (List.mem_of_getElem? (i := 738) (by rfl)) (by rfl)
set_option maxRecDepth 100000 in
theorem sl_X10_skipSpaces : Cond.selects RX10 yX10_skipSpaces yX10_skipSpaces ∈ BW := bw_in (List.mem_of_getElem? (i := 3) (by rfl)) (by rfl)
set_option maxRecDepth 100000 in
theorem cd_X10_endOfRun : Cond.code yX10_endOfRun cX10_endOfRun 4 (some .int) ∈ BW := bw_in (List.mem_of_getElem? (i := 752) (by rfl)) (by rfl)
set_option maxRecDepth 100000 in
theorem ml_RX10_31 : Cond.methodLink RX10 31 yX10_endOfRun ∈ BW := bw_in (List.mem_of_getElem? (i := 749) (by rfl)) (by rfl)
set_option maxRecDepth 100000 in
theorem in_X10_endOfRun : Cond.instanceMethod yX10_endOfRun ∈ BW := bw_in (List.mem_of_getElem? (i := 751) (by rfl)) (by rfl)
set_option maxRecDepth 100000 in
theorem sl_X10_endOfRun : Cond.selects RX10 yX10_endOfRun yX10_endOfRun ∈ BW := bw_in (List.mem_of_getElem? (i := 5) (by rfl)) (by rfl)
set_option maxRecDepth 100000 in
theorem cd_X10_fail : Cond.code yX10_fail cX10_fail 3 none ∈ BW := bw_in (List.mem_of_getElem? (i := 808) (by rfl)) (by rfl)
set_option maxRecDepth 100000 in
theorem ml_RX10_35 : Cond.methodLink RX10 35 yX10_fail ∈ BW := bw_in (List.mem_of_getElem? (i := 813) (by rfl)) (by rfl)
set_option maxRecDepth 100000 in
theorem in_X10_fail : Cond.instanceMethod yX10_fail ∈ BW := bw_in (List.mem_of_getElem? (i := 806) (by rfl)) (by rfl)
set_option maxRecDepth 100000 in
theorem sl_X10_fail : Cond.selects RX10 yX10_fail yX10_fail ∈ BW := bw_in (List.mem_of_getElem? (i := 807) (by rfl)) (by rfl)
set_option maxRecDepth 100000 in
theorem cd_X10_failed : Cond.code yX10_failed cX10_failed 1 (some .boolean) ∈ BW := bw_in (List.mem_of_getElem? (i := 731) (by rfl)) (by rfl)
set_option maxRecDepth 100000 in
theorem ml_RX10_52 : Cond.methodLink RX10 52 yX10_failed ∈ BW := bw_in (List.mem_of_getElem? (i := 822) (by rfl)) (by rfl)
set_option maxRecDepth 100000 in
theorem in_X10_failed : Cond.instanceMethod yX10_failed ∈ BW := bw_in (List.mem_of_getElem? (i := 729) (by rfl)) (by rfl)
set_option maxRecDepth 100000 in
theorem sl_X10_failed : Cond.selects RX10 yX10_failed yX10_failed ∈ BW := bw_in (List.mem_of_getElem? (i := 730) (by rfl)) (by rfl)
set_option maxRecDepth 100000 in
theorem cd_X10_hasRoom : Cond.code yX10_hasRoom cX10_hasRoom 2 (some .boolean) ∈ BW := bw_in (List.mem_of_getElem? (i := 554) (by rfl)) (by rfl)
set_option maxRecDepth 100000 in
theorem ml_RX11_72 : Cond.methodLink RX11 72 yX10_hasRoom ∈ BW := bw_in (List.mem_of_getElem? (i := 551) (by rfl)) (by rfl)
set_option maxRecDepth 100000 in
theorem in_X10_hasRoom : Cond.instanceMethod yX10_hasRoom ∈ BW := bw_in (List.mem_of_getElem? (i := 552) (by rfl)) (by rfl)
set_option maxRecDepth 100000 in
theorem sl_X10_hasRoom : Cond.selects RX10 yX10_hasRoom yX10_hasRoom ∈ BW := bw_in (List.mem_of_getElem? (i := 553) (by rfl)) (by rfl)
set_option maxRecDepth 100000 in
theorem cd_X10_addWord : Cond.code yX10_addWord cX10_addWord 3 none ∈ BW := bw_in (List.mem_of_getElem? (i := 558) (by rfl)) (by rfl)
set_option maxRecDepth 100000 in
theorem ml_RX11_78 : Cond.methodLink RX11 78 yX10_addWord ∈ BW := bw_in (List.mem_of_getElem? (i := 555) (by rfl)) (by rfl)
set_option maxRecDepth 100000 in
theorem in_X10_addWord : Cond.instanceMethod yX10_addWord ∈ BW := bw_in (List.mem_of_getElem? (i := 556) (by rfl)) (by rfl)
set_option maxRecDepth 100000 in
theorem sl_X10_addWord : Cond.selects RX10 yX10_addWord yX10_addWord ∈ BW := bw_in (List.mem_of_getElem? (i := 557) (by rfl)) (by rfl)
set_option maxRecDepth 100000 in
theorem cd_X9_startTotal : Cond.code yX9_startTotal cX9_startTotal 1 (some .int) ∈ BW := bw_in (List.mem_of_getElem? (i := 590) (by rfl)) (by rfl)
set_option maxRecDepth 100000 in
theorem ml_RX11_121 : Cond.methodLink RX11 121 yX9_startTotal ∈ BW := bw_in (List.mem_of_getElem? (i := 587) (by rfl)) (by rfl)
set_option maxRecDepth 100000 in
theorem in_X9_startTotal : Cond.instanceMethod yX9_startTotal ∈ BW := bw_in (List.mem_of_getElem? (i := 588) (by rfl)) (by rfl)
set_option maxRecDepth 100000 in
theorem sl_X9_startTotal : Cond.selects RX9 yX9_startTotal yX9_startTotal ∈ BW := bw_in (List.mem_of_getElem? (i := 589) (by rfl)) (by rfl)
set_option maxRecDepth 100000 in
theorem cd_X9_firstScheduled : Cond.code yX9_firstScheduled cX9_firstScheduled 5 (some .int) ∈ BW := bw_in (List.mem_of_getElem? (i := 601) (by rfl)) (by rfl)
set_option maxRecDepth 100000 in
theorem ml_RX11_254 : Cond.methodLink RX11 254 yX9_firstScheduled ∈ BW := bw_in (List.mem_of_getElem? (i := 598) (by rfl)) (by rfl)
set_option maxRecDepth 100000 in
theorem in_X9_firstScheduled : Cond.instanceMethod yX9_firstScheduled ∈ BW := bw_in (List.mem_of_getElem? (i := 599) (by rfl)) (by rfl)
set_option maxRecDepth 100000 in
theorem sl_X9_firstScheduled : Cond.selects RX9 yX9_firstScheduled yX9_firstScheduled ∈ BW := bw_in (List.mem_of_getElem? (i := 600) (by rfl)) (by rfl)
set_option maxRecDepth 100000 in
theorem cd_X9_startAt : Cond.code yX9_startAt cX9_startAt 2 (some .int) ∈ BW := bw_in (List.mem_of_getElem? (i := 1230) (by rfl)) (by rfl)
set_option maxRecDepth 100000 in
theorem ml_RX11_239 : Cond.methodLink RX11 239 yX9_startAt ∈ BW := bw_in (List.mem_of_getElem? (i := 1227) (by rfl)) (by rfl)
set_option maxRecDepth 100000 in
theorem in_X9_startAt : Cond.instanceMethod yX9_startAt ∈ BW := bw_in (List.mem_of_getElem? (i := 1228) (by rfl)) (by rfl)
set_option maxRecDepth 100000 in
theorem sl_X9_startAt : Cond.selects RX9 yX9_startAt yX9_startAt ∈ BW := bw_in (List.mem_of_getElem? (i := 1229) (by rfl)) (by rfl)
set_option maxRecDepth 100000 in
theorem cd_X2_record : Cond.code yX2_record cX2_record 7 none ∈ BW := bw_in (List.mem_of_getElem? (i := 1299) (by rfl)) (by rfl)
set_option maxRecDepth 100000 in
theorem ni_RX2 : Cond.initialized RX2 ∈ BW := bw_in (List.mem_of_getElem? (i := 118) (by rfl)) (by rfl)
set_option maxRecDepth 100000 in
theorem ml_RX11_388 : Cond.methodLink RX11 388 yX2_record ∈ BW := bw_in (List.mem_of_getElem? (i := 1296) (by rfl)) (by rfl)
set_option maxRecDepth 100000 in
theorem in_X2_record : Cond.instanceMethod yX2_record ∈ BW := bw_in (List.mem_of_getElem? (i := 1297) (by rfl)) (by rfl)
set_option maxRecDepth 100000 in
theorem sl_X2_record : Cond.selects RX2 yX2_record yX2_record ∈ BW := bw_in (List.mem_of_getElem? (i := 1298) (by rfl)) (by rfl)
set_option maxRecDepth 100000 in
theorem fl_RX11_26 : Cond.fieldLink RX11 26 "BlastPlanner" "plan" "LBlastPlanner$PlanSearch;" ∈ BW := bw_in (List.mem_of_getElem? (i := 518) (by rfl)) (by rfl)
set_option maxRecDepth 100000 in
theorem cd_X6_forget : Cond.code yX6_forget cX6_forget 1 none ∈ BW := bw_in (List.mem_of_getElem? (i := 702) (by rfl)) (by rfl)
set_option maxRecDepth 100000 in
theorem ni_RX6 : Cond.initialized RX6 ∈ BW := bw_in (List.mem_of_getElem? (i := 119) (by rfl)) (by rfl)
set_option maxRecDepth 100000 in
theorem ml_RX11_103 : Cond.methodLink RX11 103 yX6_forget ∈ BW := bw_in (List.mem_of_getElem? (i := 699) (by rfl)) (by rfl)
set_option maxRecDepth 100000 in
theorem in_X6_forget : Cond.instanceMethod yX6_forget ∈ BW := bw_in (List.mem_of_getElem? (i := 700) (by rfl)) (by rfl)
set_option maxRecDepth 100000 in
theorem sl_X6_forget : Cond.selects RX6 yX6_forget yX6_forget ∈ BW := bw_in (List.mem_of_getElem? (i := 701) (by rfl)) (by rfl)
set_option maxRecDepth 100000 in
theorem cd_X9_openTotal : Cond.code yX9_openTotal cX9_openTotal 3 (some .int) ∈ BW := bw_in (List.mem_of_getElem? (i := 1436) (by rfl)) (by rfl)
set_option maxRecDepth 100000 in
theorem ml_RX11_335 : Cond.methodLink RX11 335 yX9_openTotal ∈ BW := bw_in (List.mem_of_getElem? (i := 1433) (by rfl)) (by rfl)
set_option maxRecDepth 100000 in
theorem in_X9_openTotal : Cond.instanceMethod yX9_openTotal ∈ BW := bw_in (List.mem_of_getElem? (i := 1434) (by rfl)) (by rfl)
set_option maxRecDepth 100000 in
theorem sl_X9_openTotal : Cond.selects RX9 yX9_openTotal yX9_openTotal ∈ BW := bw_in (List.mem_of_getElem? (i := 1435) (by rfl)) (by rfl)
set_option maxRecDepth 100000 in
theorem cd_X12_before : Cond.code yX12_before cX12_before 5 (some .int) ∈ BW := bw_in (List.mem_of_getElem? (i := 2113) (by rfl)) (by rfl)
set_option maxRecDepth 100000 in
theorem ml_RX12_336 : Cond.methodLink RX12 336 yX12_before ∈ BW := bw_in (List.mem_of_getElem? (i := 2110) (by rfl)) (by rfl)
set_option maxRecDepth 100000 in
theorem in_X12_before : Cond.instanceMethod yX12_before ∈ BW := bw_in (List.mem_of_getElem? (i := 2112) (by rfl)) (by rfl)
set_option maxRecDepth 100000 in
theorem sl_X12_before : Cond.selects RX12 yX12_before yX12_before ∈ BW := bw_in (List.mem_of_getElem? (i := 105) (by rfl)) (by rfl)
set_option maxRecDepth 100000 in
theorem cd_X12_siren : Cond.code yX12_siren cX12_siren 4 (some .int) ∈ BW := bw_in (List.mem_of_getElem? (i := 2105) (by rfl)) (by rfl)
set_option maxRecDepth 100000 in
theorem ml_RX12_345 : Cond.methodLink RX12 345 yX12_siren ∈ BW := bw_in (List.mem_of_getElem? (i := 2102) (by rfl)) (by rfl)
set_option maxRecDepth 100000 in
theorem in_X12_siren : Cond.instanceMethod yX12_siren ∈ BW := bw_in (List.mem_of_getElem? (i := 2104) (by rfl)) (by rfl)
set_option maxRecDepth 100000 in
theorem sl_X12_siren : Cond.selects RX12 yX12_siren yX12_siren ∈ BW := bw_in (List.mem_of_getElem? (i := 103) (by rfl)) (by rfl)
set_option maxRecDepth 100000 in
theorem cd_X12_isTooClose : Cond.code yX12_isTooClose cX12_isTooClose 4 (some .boolean) ∈ BW := bw_in (List.mem_of_getElem? (i := 2145) (by rfl)) (by rfl)
set_option maxRecDepth 100000 in
theorem ml_RX12_357 : Cond.methodLink RX12 357 yX12_isTooClose ∈ BW := bw_in (List.mem_of_getElem? (i := 2142) (by rfl)) (by rfl)
set_option maxRecDepth 100000 in
theorem in_X12_isTooClose : Cond.instanceMethod yX12_isTooClose ∈ BW := bw_in (List.mem_of_getElem? (i := 2144) (by rfl)) (by rfl)
set_option maxRecDepth 100000 in
theorem sl_X12_isTooClose : Cond.selects RX12 yX12_isTooClose yX12_isTooClose ∈ BW := bw_in (List.mem_of_getElem? (i := 110) (by rfl)) (by rfl)
set_option maxRecDepth 100000 in
theorem cd_X1_addName : Cond.code yX1_addName cX1_addName 4 none ∈ BW := bw_in (List.mem_of_getElem? (i := 1494) (by rfl)) (by rfl)
set_option maxRecDepth 100000 in
theorem ml_RX1_19 : Cond.methodLink RX1 19 yX1_addName ∈ BW := bw_in (List.mem_of_getElem? (i := 1491) (by rfl)) (by rfl)
set_option maxRecDepth 100000 in
theorem in_X1_addName : Cond.instanceMethod yX1_addName ∈ BW := bw_in (List.mem_of_getElem? (i := 1493) (by rfl)) (by rfl)
set_option maxRecDepth 100000 in
theorem sl_X1_addName : Cond.selects RX1 yX1_addName yX1_addName ∈ BW := bw_in (List.mem_of_getElem? (i := 36) (by rfl)) (by rfl)
set_option maxRecDepth 100000 in
theorem cd_X1_addNumber : Cond.code yX1_addNumber cX1_addNumber 3 none ∈ BW := bw_in (List.mem_of_getElem? (i := 1506) (by rfl)) (by rfl)
set_option maxRecDepth 100000 in
theorem ml_RX1_34 : Cond.methodLink RX1 34 yX1_addNumber ∈ BW := bw_in (List.mem_of_getElem? (i := 1503) (by rfl)) (by rfl)
set_option maxRecDepth 100000 in
theorem in_X1_addNumber : Cond.instanceMethod yX1_addNumber ∈ BW := bw_in (List.mem_of_getElem? (i := 1505) (by rfl)) (by rfl)
set_option maxRecDepth 100000 in
theorem sl_X1_addNumber : Cond.selects RX1 yX1_addNumber yX1_addNumber ∈ BW := bw_in (List.mem_of_getElem? (i := 39) (by rfl)) (by rfl)
set_option maxRecDepth 100000 in
theorem cd_X9_weigh : Cond.code yX9_weigh cX9_weigh 3 none ∈ BW := bw_in (List.mem_of_getElem? (i := 685) (by rfl)) (by rfl)
set_option maxRecDepth 100000 in
theorem ml_RX2_51 : Cond.methodLink RX2 51 yX9_weigh ∈ BW := bw_in (List.mem_of_getElem? (i := 682) (by rfl)) (by rfl)
set_option maxRecDepth 100000 in
theorem in_X9_weigh : Cond.instanceMethod yX9_weigh ∈ BW := bw_in (List.mem_of_getElem? (i := 683) (by rfl)) (by rfl)
set_option maxRecDepth 100000 in
theorem sl_X9_weigh : Cond.selects RX9 yX9_weigh yX9_weigh ∈ BW := bw_in (List.mem_of_getElem? (i := 684) (by rfl)) (by rfl)
set_option maxRecDepth 100000 in
theorem cd_X3_insert : Cond.code yX3_insert cX3_insert 4 none ∈ BW := bw_in (List.mem_of_getElem? (i := 643) (by rfl)) (by rfl)
set_option maxRecDepth 100000 in
theorem ml_RX3_31 : Cond.methodLink RX3 31 yX3_insert ∈ BW := bw_in (List.mem_of_getElem? (i := 640) (by rfl)) (by rfl)
set_option maxRecDepth 100000 in
theorem in_X3_insert : Cond.instanceMethod yX3_insert ∈ BW := bw_in (List.mem_of_getElem? (i := 642) (by rfl)) (by rfl)
set_option maxRecDepth 100000 in
theorem sl_X3_insert : Cond.selects RX3 yX3_insert yX3_insert ∈ BW := bw_in (List.mem_of_getElem? (i := 0) (by rfl)) (by rfl)
set_option maxRecDepth 100000 in
theorem cd_X3_sizeWithin : Cond.code yX3_sizeWithin cX3_sizeWithin 5 (some .int) ∈ BW := bw_in (List.mem_of_getElem? (i := 651) (by rfl)) (by rfl)
set_option maxRecDepth 100000 in
theorem ml_RX3_35 : Cond.methodLink RX3 35 yX3_sizeWithin ∈ BW := bw_in (List.mem_of_getElem? (i := 648) (by rfl)) (by rfl)
set_option maxRecDepth 100000 in
theorem in_X3_sizeWithin : Cond.instanceMethod yX3_sizeWithin ∈ BW := bw_in (List.mem_of_getElem? (i := 649) (by rfl)) (by rfl)
set_option maxRecDepth 100000 in
theorem sl_X3_sizeWithin : Cond.selects RX3 yX3_sizeWithin yX3_sizeWithin ∈ BW := bw_in (List.mem_of_getElem? (i := 650) (by rfl)) (by rfl)
set_option maxRecDepth 100000 in
theorem cd_X10_begin : Cond.code yX10_begin cX10_begin 1 none ∈ BW := bw_in (List.mem_of_getElem? (i := 726) (by rfl)) (by rfl)
set_option maxRecDepth 100000 in
theorem ml_RX5_18 : Cond.methodLink RX5 18 yX10_begin ∈ BW := bw_in (List.mem_of_getElem? (i := 723) (by rfl)) (by rfl)
set_option maxRecDepth 100000 in
theorem in_X10_begin : Cond.instanceMethod yX10_begin ∈ BW := bw_in (List.mem_of_getElem? (i := 724) (by rfl)) (by rfl)
set_option maxRecDepth 100000 in
theorem sl_X10_begin : Cond.selects RX10 yX10_begin yX10_begin ∈ BW := bw_in (List.mem_of_getElem? (i := 725) (by rfl)) (by rfl)
set_option maxRecDepth 100000 in
theorem cd_X9_reset : Cond.code yX9_reset cX9_reset 2 none ∈ BW := bw_in (List.mem_of_getElem? (i := 425) (by rfl)) (by rfl)
set_option maxRecDepth 100000 in
theorem ml_RX5_21 : Cond.methodLink RX5 21 yX9_reset ∈ BW := bw_in (List.mem_of_getElem? (i := 727) (by rfl)) (by rfl)
set_option maxRecDepth 100000 in
theorem in_X9_reset : Cond.instanceMethod yX9_reset ∈ BW := bw_in (List.mem_of_getElem? (i := 423) (by rfl)) (by rfl)
set_option maxRecDepth 100000 in
theorem sl_X9_reset : Cond.selects RX9 yX9_reset yX9_reset ∈ BW := bw_in (List.mem_of_getElem? (i := 424) (by rfl)) (by rfl)
set_option maxRecDepth 100000 in
theorem ml_RX5_26 : Cond.methodLink RX5 26 yX10_failed ∈ BW := bw_in (List.mem_of_getElem? (i := 728) (by rfl)) (by rfl)
set_option maxRecDepth 100000 in
theorem cd_X10_atEnd : Cond.code yX10_atEnd cX10_atEnd 1 (some .boolean) ∈ BW := bw_in (List.mem_of_getElem? (i := 735) (by rfl)) (by rfl)
set_option maxRecDepth 100000 in
theorem ml_RX5_30 : Cond.methodLink RX5 30 yX10_atEnd ∈ BW := bw_in (List.mem_of_getElem? (i := 732) (by rfl)) (by rfl)
set_option maxRecDepth 100000 in
theorem in_X10_atEnd : Cond.instanceMethod yX10_atEnd ∈ BW := bw_in (List.mem_of_getElem? (i := 733) (by rfl)) (by rfl)
set_option maxRecDepth 100000 in
theorem sl_X10_atEnd : Cond.selects RX10 yX10_atEnd yX10_atEnd ∈ BW := bw_in (List.mem_of_getElem? (i := 734) (by rfl)) (by rfl)
set_option maxRecDepth 100000 in
theorem cd_X6_keep : Cond.code yX6_keep cX6_keep 4 none ∈ BW := bw_in (List.mem_of_getElem? (i := 1448) (by rfl)) (by rfl)
set_option maxRecDepth 100000 in
theorem ml_RX6_44 : Cond.methodLink RX6 44 yX6_keep ∈ BW := bw_in (List.mem_of_getElem? (i := 1445) (by rfl)) (by rfl)
set_option maxRecDepth 100000 in
theorem in_X6_keep : Cond.instanceMethod yX6_keep ∈ BW := bw_in (List.mem_of_getElem? (i := 1447) (by rfl)) (by rfl)
set_option maxRecDepth 100000 in
theorem sl_X6_keep : Cond.selects RX6 yX6_keep yX6_keep ∈ BW := bw_in (List.mem_of_getElem? (i := 33) (by rfl)) (by rfl)
set_option maxRecDepth 100000 in
theorem fl_RX6_9 : Cond.fieldLink RX6 9 "BlastPlanner$PlanSearch" "open" "[I" ∈ BW := bw_in (List.mem_of_getElem? (i := 212) (by rfl)) (by rfl)
set_option maxRecDepth 100000 in
theorem ml_RX6_48 : Cond.methodLink RX6 48 yX9_startTotal ∈ BW := bw_in (List.mem_of_getElem? (i := 1449) (by rfl)) (by rfl)
set_option maxRecDepth 100000 in
theorem ml_RX6_52 : Cond.methodLink RX6 52 yX9_startAt ∈ BW := bw_in (List.mem_of_getElem? (i := 1450) (by rfl)) (by rfl)
set_option maxRecDepth 100000 in
theorem ml_RX6_80 : Cond.methodLink RX6 80 yX9_closingFirst ∈ BW := bw_in (List.mem_of_getElem? (i := 1461) (by rfl)) (by rfl)
set_option maxRecDepth 100000 in
theorem ml_RX6_83 : Cond.methodLink RX6 83 yX9_closingEnd ∈ BW := bw_in (List.mem_of_getElem? (i := 1462) (by rfl)) (by rfl)
set_option maxRecDepth 100000 in
theorem ml_RX6_86 : Cond.methodLink RX6 86 Lib.Math.max.name ∈ BW := bw_in (List.mem_of_getElem? (i := 1463) (by rfl)) (by rfl)
set_option maxRecDepth 100000 in
theorem ml_RX6_92 : Cond.methodLink RX6 92 Lib.Math.min.name ∈ BW := bw_in (List.mem_of_getElem? (i := 1464) (by rfl)) (by rfl)
set_option maxRecDepth 100000 in
theorem cd_X8_insert : Cond.code yX8_insert cX8_insert 6 none ∈ BW := bw_in (List.mem_of_getElem? (i := 673) (by rfl)) (by rfl)
set_option maxRecDepth 100000 in
theorem ni_RX8 : Cond.initialized RX8 ∈ BW := bw_in (List.mem_of_getElem? (i := 120) (by rfl)) (by rfl)
set_option maxRecDepth 100000 in
theorem ml_RX8_27 : Cond.methodLink RX8 27 yX8_insert ∈ BW := bw_in (List.mem_of_getElem? (i := 670) (by rfl)) (by rfl)
set_option maxRecDepth 100000 in
theorem in_X8_insert : Cond.instanceMethod yX8_insert ∈ BW := bw_in (List.mem_of_getElem? (i := 672) (by rfl)) (by rfl)
set_option maxRecDepth 100000 in
theorem sl_X8_insert : Cond.selects RX8 yX8_insert yX8_insert ∈ BW := bw_in (List.mem_of_getElem? (i := 2) (by rfl)) (by rfl)
set_option maxRecDepth 100000 in
theorem fl_RX8_31 : Cond.fieldLink RX8 31 "BlastPlanner$Site" "after" "I" ∈ BW := bw_in (List.mem_of_getElem? (i := 475) (by rfl)) (by rfl)
set_option maxRecDepth 100000 in
theorem cd_X9_measureNeighbours : Cond.code yX9_measureNeighbours cX9_measureNeighbours 5 none ∈ BW := bw_in (List.mem_of_getElem? (i := 955) (by rfl)) (by rfl)
set_option maxRecDepth 100000 in
theorem ml_RX9_82 : Cond.methodLink RX9 82 yX9_measureNeighbours ∈ BW := bw_in (List.mem_of_getElem? (i := 952) (by rfl)) (by rfl)
set_option maxRecDepth 100000 in
theorem in_X9_measureNeighbours : Cond.instanceMethod yX9_measureNeighbours ∈ BW := bw_in (List.mem_of_getElem? (i := 954) (by rfl)) (by rfl)
set_option maxRecDepth 100000 in
theorem sl_X9_measureNeighbours : Cond.selects RX9 yX9_measureNeighbours yX9_measureNeighbours ∈ BW := bw_in (List.mem_of_getElem? (i := 16) (by rfl)) (by rfl)
set_option maxRecDepth 100000 in
theorem cd_X9_measureRoads : Cond.code yX9_measureRoads cX9_measureRoads 3 none ∈ BW := bw_in (List.mem_of_getElem? (i := 962) (by rfl)) (by rfl)
set_option maxRecDepth 100000 in
theorem ml_RX9_86 : Cond.methodLink RX9 86 yX9_measureRoads ∈ BW := bw_in (List.mem_of_getElem? (i := 959) (by rfl)) (by rfl)
set_option maxRecDepth 100000 in
theorem in_X9_measureRoads : Cond.instanceMethod yX9_measureRoads ∈ BW := bw_in (List.mem_of_getElem? (i := 961) (by rfl)) (by rfl)
set_option maxRecDepth 100000 in
theorem sl_X9_measureRoads : Cond.selects RX9 yX9_measureRoads yX9_measureRoads ∈ BW := bw_in (List.mem_of_getElem? (i := 17) (by rfl)) (by rfl)
set_option maxRecDepth 100000 in
theorem ml_RX9_96 : Cond.methodLink RX9 96 yX9_weigh ∈ BW := bw_in (List.mem_of_getElem? (i := 979) (by rfl)) (by rfl)
set_option maxRecDepth 100000 in
theorem fl_RX9_89 : Cond.fieldLink RX9 89 "BlastPlanner$Blast" "dusty" "[I" ∈ BW := bw_in (List.mem_of_getElem? (i := 362) (by rfl)) (by rfl)
set_option maxRecDepth 100000 in
theorem cd_X9_neighboursInDust : Cond.code yX9_neighboursInDust cX9_neighboursInDust 11 (some .int) ∈ BW := bw_in (List.mem_of_getElem? (i := 971) (by rfl)) (by rfl)
set_option maxRecDepth 100000 in
theorem ml_RX9_92 : Cond.methodLink RX9 92 yX9_neighboursInDust ∈ BW := bw_in (List.mem_of_getElem? (i := 968) (by rfl)) (by rfl)
set_option maxRecDepth 100000 in
theorem in_X9_neighboursInDust : Cond.instanceMethod yX9_neighboursInDust ∈ BW := bw_in (List.mem_of_getElem? (i := 970) (by rfl)) (by rfl)
set_option maxRecDepth 100000 in
theorem sl_X9_neighboursInDust : Cond.selects RX9 yX9_neighboursInDust yX9_neighboursInDust ∈ BW := bw_in (List.mem_of_getElem? (i := 18) (by rfl)) (by rfl)
set_option maxRecDepth 100000 in
theorem cd_X9_quietFor : Cond.code yX9_quietFor cX9_quietFor 4 (some .boolean) ∈ BW := bw_in (List.mem_of_getElem? (i := 1214) (by rfl)) (by rfl)
set_option maxRecDepth 100000 in
theorem ml_RX9_157 : Cond.methodLink RX9 157 yX9_quietFor ∈ BW := bw_in (List.mem_of_getElem? (i := 1211) (by rfl)) (by rfl)
set_option maxRecDepth 100000 in
theorem in_X9_quietFor : Cond.instanceMethod yX9_quietFor ∈ BW := bw_in (List.mem_of_getElem? (i := 1213) (by rfl)) (by rfl)
set_option maxRecDepth 100000 in
theorem sl_X9_quietFor : Cond.selects RX9 yX9_quietFor yX9_quietFor ∈ BW := bw_in (List.mem_of_getElem? (i := 25) (by rfl)) (by rfl)
set_option maxRecDepth 100000 in
theorem cd_X9_crowded : Cond.code yX9_crowded cX9_crowded 5 (some .boolean) ∈ BW := bw_in (List.mem_of_getElem? (i := 1219) (by rfl)) (by rfl)
set_option maxRecDepth 100000 in
theorem ml_RX9_161 : Cond.methodLink RX9 161 yX9_crowded ∈ BW := bw_in (List.mem_of_getElem? (i := 1216) (by rfl)) (by rfl)
set_option maxRecDepth 100000 in
theorem in_X9_crowded : Cond.instanceMethod yX9_crowded ∈ BW := bw_in (List.mem_of_getElem? (i := 1218) (by rfl)) (by rfl)
set_option maxRecDepth 100000 in
theorem sl_X9_crowded : Cond.selects RX9 yX9_crowded yX9_crowded ∈ BW := bw_in (List.mem_of_getElem? (i := 26) (by rfl)) (by rfl)
set_option maxRecDepth 100000 in
theorem cd_X3_add : Cond.code yX3_add cX3_add 7 none ∈ BW := bw_in (List.mem_of_getElem? (i := 633) (by rfl)) (by rfl)
set_option maxRecDepth 100000 in
theorem ml_RX9_187 : Cond.methodLink RX9 187 yX3_add ∈ BW := bw_in (List.mem_of_getElem? (i := 630) (by rfl)) (by rfl)
set_option maxRecDepth 100000 in
theorem in_X3_add : Cond.instanceMethod yX3_add ∈ BW := bw_in (List.mem_of_getElem? (i := 631) (by rfl)) (by rfl)
set_option maxRecDepth 100000 in
theorem sl_X3_add : Cond.selects RX3 yX3_add yX3_add ∈ BW := bw_in (List.mem_of_getElem? (i := 632) (by rfl)) (by rfl)
set_option maxRecDepth 100000 in
theorem cd_X9_collectClosed : Cond.code yX9_collectClosed cX9_collectClosed 4 none ∈ BW := bw_in (List.mem_of_getElem? (i := 613) (by rfl)) (by rfl)
set_option maxRecDepth 100000 in
theorem ml_RX9_191 : Cond.methodLink RX9 191 yX9_collectClosed ∈ BW := bw_in (List.mem_of_getElem? (i := 610) (by rfl)) (by rfl)
set_option maxRecDepth 100000 in
theorem in_X9_collectClosed : Cond.instanceMethod yX9_collectClosed ∈ BW := bw_in (List.mem_of_getElem? (i := 611) (by rfl)) (by rfl)
set_option maxRecDepth 100000 in
theorem sl_X9_collectClosed : Cond.selects RX9 yX9_collectClosed yX9_collectClosed ∈ BW := bw_in (List.mem_of_getElem? (i := 612) (by rfl)) (by rfl)
set_option maxRecDepth 100000 in
theorem cd_X3_size : Cond.code yX3_size cX3_size 1 (some .int) ∈ BW := bw_in (List.mem_of_getElem? (i := 647) (by rfl)) (by rfl)
set_option maxRecDepth 100000 in
theorem ml_RX9_195 : Cond.methodLink RX9 195 yX3_size ∈ BW := bw_in (List.mem_of_getElem? (i := 644) (by rfl)) (by rfl)
set_option maxRecDepth 100000 in
theorem in_X3_size : Cond.instanceMethod yX3_size ∈ BW := bw_in (List.mem_of_getElem? (i := 645) (by rfl)) (by rfl)
set_option maxRecDepth 100000 in
theorem sl_X3_size : Cond.selects RX3 yX3_size yX3_size ∈ BW := bw_in (List.mem_of_getElem? (i := 646) (by rfl)) (by rfl)
set_option maxRecDepth 100000 in
theorem cd_X10_nameUpTo : Cond.code yX10_nameUpTo cX10_nameUpTo 4 (some .int) ∈ BW := bw_in (List.mem_of_getElem? (i := 817) (by rfl)) (by rfl)
set_option maxRecDepth 100000 in
theorem ml_RX10_48 : Cond.methodLink RX10 48 yX10_nameUpTo ∈ BW := bw_in (List.mem_of_getElem? (i := 814) (by rfl)) (by rfl)
set_option maxRecDepth 100000 in
theorem in_X10_nameUpTo : Cond.instanceMethod yX10_nameUpTo ∈ BW := bw_in (List.mem_of_getElem? (i := 816) (by rfl)) (by rfl)
set_option maxRecDepth 100000 in
theorem sl_X10_nameUpTo : Cond.selects RX10 yX10_nameUpTo yX10_nameUpTo ∈ BW := bw_in (List.mem_of_getElem? (i := 7) (by rfl)) (by rfl)
set_option maxRecDepth 100000 in
theorem cd_X10_valueUpTo : Cond.code yX10_valueUpTo cX10_valueUpTo 4 (some .int) ∈ BW := bw_in (List.mem_of_getElem? (i := 826) (by rfl)) (by rfl)
set_option maxRecDepth 100000 in
theorem ml_RX10_56 : Cond.methodLink RX10 56 yX10_valueUpTo ∈ BW := bw_in (List.mem_of_getElem? (i := 823) (by rfl)) (by rfl)
set_option maxRecDepth 100000 in
theorem in_X10_valueUpTo : Cond.instanceMethod yX10_valueUpTo ∈ BW := bw_in (List.mem_of_getElem? (i := 825) (by rfl)) (by rfl)
set_option maxRecDepth 100000 in
theorem sl_X10_valueUpTo : Cond.selects RX10 yX10_valueUpTo yX10_valueUpTo ∈ BW := bw_in (List.mem_of_getElem? (i := 8) (by rfl)) (by rfl)
set_option maxRecDepth 100000 in
theorem cd_X9_closedTotal : Cond.code yX9_closedTotal cX9_closedTotal 4 (some .int) ∈ BW := bw_in (List.mem_of_getElem? (i := 609) (by rfl)) (by rfl)
set_option maxRecDepth 100000 in
theorem ml_RX11_283 : Cond.methodLink RX11 283 yX9_closedTotal ∈ BW := bw_in (List.mem_of_getElem? (i := 606) (by rfl)) (by rfl)
set_option maxRecDepth 100000 in
theorem in_X9_closedTotal : Cond.instanceMethod yX9_closedTotal ∈ BW := bw_in (List.mem_of_getElem? (i := 607) (by rfl)) (by rfl)
set_option maxRecDepth 100000 in
theorem sl_X9_closedTotal : Cond.selects RX9 yX9_closedTotal yX9_closedTotal ∈ BW := bw_in (List.mem_of_getElem? (i := 608) (by rfl)) (by rfl)
set_option maxRecDepth 100000 in
theorem cd_X8_gather : Cond.code yX8_gather cX8_gather 4 none ∈ BW := bw_in (List.mem_of_getElem? (i := 669) (by rfl)) (by rfl)
set_option maxRecDepth 100000 in
theorem ml_RX11_305 : Cond.methodLink RX11 305 yX8_gather ∈ BW := bw_in (List.mem_of_getElem? (i := 666) (by rfl)) (by rfl)
set_option maxRecDepth 100000 in
theorem in_X8_gather : Cond.instanceMethod yX8_gather ∈ BW := bw_in (List.mem_of_getElem? (i := 667) (by rfl)) (by rfl)
set_option maxRecDepth 100000 in
theorem sl_X8_gather : Cond.selects RX8 yX8_gather yX8_gather ∈ BW := bw_in (List.mem_of_getElem? (i := 668) (by rfl)) (by rfl)
set_option maxRecDepth 100000 in
theorem fl_RX11_309 : Cond.fieldLink RX11 309 "BlastPlanner$SirenList" "total" "I" ∈ BW := bw_in (List.mem_of_getElem? (i := 243) (by rfl)) (by rfl)
set_option maxRecDepth 100000 in
theorem cd_X2_restore : Cond.code yX2_restore cX2_restore 7 none ∈ BW := bw_in (List.mem_of_getElem? (i := 681) (by rfl)) (by rfl)
set_option maxRecDepth 100000 in
theorem ml_RX11_341 : Cond.methodLink RX11 341 yX2_restore ∈ BW := bw_in (List.mem_of_getElem? (i := 678) (by rfl)) (by rfl)
set_option maxRecDepth 100000 in
theorem in_X2_restore : Cond.instanceMethod yX2_restore ∈ BW := bw_in (List.mem_of_getElem? (i := 679) (by rfl)) (by rfl)
set_option maxRecDepth 100000 in
theorem sl_X2_restore : Cond.selects RX2 yX2_restore yX2_restore ∈ BW := bw_in (List.mem_of_getElem? (i := 680) (by rfl)) (by rfl)
set_option maxRecDepth 100000 in
theorem cd_X9_reasonAgainst : Cond.code yX9_reasonAgainst cX9_reasonAgainst 5 (some .int) ∈ BW := bw_in (List.mem_of_getElem? (i := 1210) (by rfl)) (by rfl)
set_option maxRecDepth 100000 in
theorem ml_RX11_235 : Cond.methodLink RX11 235 yX9_reasonAgainst ∈ BW := bw_in (List.mem_of_getElem? (i := 1207) (by rfl)) (by rfl)
set_option maxRecDepth 100000 in
theorem in_X9_reasonAgainst : Cond.instanceMethod yX9_reasonAgainst ∈ BW := bw_in (List.mem_of_getElem? (i := 1208) (by rfl)) (by rfl)
set_option maxRecDepth 100000 in
theorem sl_X9_reasonAgainst : Cond.selects RX9 yX9_reasonAgainst yX9_reasonAgainst ∈ BW := bw_in (List.mem_of_getElem? (i := 1209) (by rfl)) (by rfl)
set_option maxRecDepth 100000 in
theorem ml_RX11_279 : Cond.methodLink RX11 279 yX9_collectClosed ∈ BW := bw_in (List.mem_of_getElem? (i := 660) (by rfl)) (by rfl)
set_option maxRecDepth 100000 in
theorem fl_RX11_54 : Cond.fieldLink RX11 54 "BlastPlanner" "hourSums" "[I" ∈ BW := bw_in (List.mem_of_getElem? (i := 523) (by rfl)) (by rfl)
set_option maxRecDepth 100000 in
theorem ml_RX11_299 : Cond.methodLink RX11 299 yX3_sizeWithin ∈ BW := bw_in (List.mem_of_getElem? (i := 661) (by rfl)) (by rfl)
set_option maxRecDepth 100000 in
theorem cd_X1_addTime : Cond.code yX1_addTime cX1_addTime 2 none ∈ BW := bw_in (List.mem_of_getElem? (i := 1502) (by rfl)) (by rfl)
set_option maxRecDepth 100000 in
theorem ml_RX1_26 : Cond.methodLink RX1 26 yX1_addTime ∈ BW := bw_in (List.mem_of_getElem? (i := 1499) (by rfl)) (by rfl)
set_option maxRecDepth 100000 in
theorem in_X1_addTime : Cond.instanceMethod yX1_addTime ∈ BW := bw_in (List.mem_of_getElem? (i := 1501) (by rfl)) (by rfl)
set_option maxRecDepth 100000 in
theorem sl_X1_addTime : Cond.selects RX1 yX1_addTime yX1_addTime ∈ BW := bw_in (List.mem_of_getElem? (i := 38) (by rfl)) (by rfl)
set_option maxRecDepth 100000 in
theorem fl_RX1_29 : Cond.fieldLink RX1 29 "BlastPlanner$Blast" "windowSum" "I" ∈ BW := bw_in (List.mem_of_getElem? (i := 375) (by rfl)) (by rfl)
set_option maxRecDepth 100000 in
theorem fl_RX1_37 : Cond.fieldLink RX1 37 "BlastPlanner$Blast" "closedRoads" "I" ∈ BW := bw_in (List.mem_of_getElem? (i := 383) (by rfl)) (by rfl)
set_option maxRecDepth 100000 in
theorem cd_X10_takeNumber : Cond.code yX10_takeNumber cX10_takeNumber 5 (some .int) ∈ BW := bw_in (List.mem_of_getElem? (i := 821) (by rfl)) (by rfl)
set_option maxRecDepth 100000 in
theorem ml_RX5_73 : Cond.methodLink RX5 73 yX10_takeNumber ∈ BW := bw_in (List.mem_of_getElem? (i := 818) (by rfl)) (by rfl)
set_option maxRecDepth 100000 in
theorem in_X10_takeNumber : Cond.instanceMethod yX10_takeNumber ∈ BW := bw_in (List.mem_of_getElem? (i := 819) (by rfl)) (by rfl)
set_option maxRecDepth 100000 in
theorem sl_X10_takeNumber : Cond.selects RX10 yX10_takeNumber yX10_takeNumber ∈ BW := bw_in (List.mem_of_getElem? (i := 820) (by rfl)) (by rfl)
set_option maxRecDepth 100000 in
theorem fl_RX5_105 : Cond.fieldLink RX5 105 "BlastPlanner$Site" "windDirections" "[I" ∈ BW := bw_in (List.mem_of_getElem? (i := 450) (by rfl)) (by rfl)
set_option maxRecDepth 100000 in
theorem fl_RX5_109 : Cond.fieldLink RX5 109 "BlastPlanner$Site" "windSpeeds" "[I" ∈ BW := bw_in (List.mem_of_getElem? (i := 452) (by rfl)) (by rfl)
set_option maxRecDepth 100000 in
theorem cd_X10_takeName : Cond.code yX10_takeName cX10_takeName 6 (some .int) ∈ BW := bw_in (List.mem_of_getElem? (i := 812) (by rfl)) (by rfl)
set_option maxRecDepth 100000 in
theorem ml_RX5_126 : Cond.methodLink RX5 126 yX10_takeName ∈ BW := bw_in (List.mem_of_getElem? (i := 809) (by rfl)) (by rfl)
set_option maxRecDepth 100000 in
theorem in_X10_takeName : Cond.instanceMethod yX10_takeName ∈ BW := bw_in (List.mem_of_getElem? (i := 810) (by rfl)) (by rfl)
set_option maxRecDepth 100000 in
theorem sl_X10_takeName : Cond.selects RX10 yX10_takeName yX10_takeName ∈ BW := bw_in (List.mem_of_getElem? (i := 811) (by rfl)) (by rfl)
set_option maxRecDepth 100000 in
theorem fl_RX5_130 : Cond.fieldLink RX5 130 "BlastPlanner$Neighbour" "x" "I" ∈ BW := bw_in (List.mem_of_getElem? (i := 305) (by rfl)) (by rfl)
set_option maxRecDepth 100000 in
theorem fl_RX5_135 : Cond.fieldLink RX5 135 "BlastPlanner$Neighbour" "y" "I" ∈ BW := bw_in (List.mem_of_getElem? (i := 307) (by rfl)) (by rfl)
set_option maxRecDepth 100000 in
theorem kc_RX5_138 : Cond.constant RX5 138 (99999) ∈ BW := bw_in (List.mem_of_getElem? (i := 827) (by rfl)) (by rfl)
set_option maxRecDepth 100000 in
theorem fl_RX5_139 : Cond.fieldLink RX5 139 "BlastPlanner$Neighbour" "limit" "I" ∈ BW := bw_in (List.mem_of_getElem? (i := 308) (by rfl)) (by rfl)
set_option maxRecDepth 100000 in
theorem cd_X10_numberFollows : Cond.code yX10_numberFollows cX10_numberFollows 1 (some .boolean) ∈ BW := bw_in (List.mem_of_getElem? (i := 831) (by rfl)) (by rfl)
set_option maxRecDepth 100000 in
theorem ml_RX5_145 : Cond.methodLink RX5 145 yX10_numberFollows ∈ BW := bw_in (List.mem_of_getElem? (i := 828) (by rfl)) (by rfl)
set_option maxRecDepth 100000 in
theorem in_X10_numberFollows : Cond.instanceMethod yX10_numberFollows ∈ BW := bw_in (List.mem_of_getElem? (i := 829) (by rfl)) (by rfl)
set_option maxRecDepth 100000 in
theorem sl_X10_numberFollows : Cond.selects RX10 yX10_numberFollows yX10_numberFollows ∈ BW := bw_in (List.mem_of_getElem? (i := 830) (by rfl)) (by rfl)
set_option maxRecDepth 100000 in
theorem fl_RX5_167 : Cond.fieldLink RX5 167 "BlastPlanner$Road" "x1" "I" ∈ BW := bw_in (List.mem_of_getElem? (i := 333) (by rfl)) (by rfl)
set_option maxRecDepth 100000 in
theorem fl_RX5_172 : Cond.fieldLink RX5 172 "BlastPlanner$Road" "y1" "I" ∈ BW := bw_in (List.mem_of_getElem? (i := 335) (by rfl)) (by rfl)
set_option maxRecDepth 100000 in
theorem fl_RX5_175 : Cond.fieldLink RX5 175 "BlastPlanner$Road" "x2" "I" ∈ BW := bw_in (List.mem_of_getElem? (i := 337) (by rfl)) (by rfl)
set_option maxRecDepth 100000 in
theorem fl_RX5_178 : Cond.fieldLink RX5 178 "BlastPlanner$Road" "y2" "I" ∈ BW := bw_in (List.mem_of_getElem? (i := 339) (by rfl)) (by rfl)
set_option maxRecDepth 100000 in
theorem ml_RX5_115 : Cond.methodLink RX5 115 yX10_fail ∈ BW := bw_in (List.mem_of_getElem? (i := 805) (by rfl)) (by rfl)
set_option maxRecDepth 100000 in
theorem fl_RX5_191 : Cond.fieldLink RX5 191 "BlastPlanner$Blast" "x" "I" ∈ BW := bw_in (List.mem_of_getElem? (i := 365) (by rfl)) (by rfl)
set_option maxRecDepth 100000 in
theorem fl_RX5_194 : Cond.fieldLink RX5 194 "BlastPlanner$Blast" "y" "I" ∈ BW := bw_in (List.mem_of_getElem? (i := 368) (by rfl)) (by rfl)
set_option maxRecDepth 100000 in
theorem fl_RX5_195 : Cond.fieldLink RX5 195 "BlastPlanner$Blast" "radius" "I" ∈ BW := bw_in (List.mem_of_getElem? (i := 371) (by rfl)) (by rfl)
set_option maxRecDepth 100000 in
theorem fl_RX5_198 : Cond.fieldLink RX5 198 "BlastPlanner$Blast" "fired" "Z" ∈ BW := bw_in (List.mem_of_getElem? (i := 390) (by rfl)) (by rfl)
set_option maxRecDepth 100000 in
theorem ml_RX6_56 : Cond.methodLink RX6 56 yX9_reasonAgainst ∈ BW := bw_in (List.mem_of_getElem? (i := 1451) (by rfl)) (by rfl)
set_option maxRecDepth 100000 in
theorem cd_X6_newlyClosedOf : Cond.code yX6_newlyClosedOf cX6_newlyClosedOf 7 (some .int) ∈ BW := bw_in (List.mem_of_getElem? (i := 1460) (by rfl)) (by rfl)
set_option maxRecDepth 100000 in
theorem ml_RX6_77 : Cond.methodLink RX6 77 yX6_newlyClosedOf ∈ BW := bw_in (List.mem_of_getElem? (i := 1457) (by rfl)) (by rfl)
set_option maxRecDepth 100000 in
theorem in_X6_newlyClosedOf : Cond.instanceMethod yX6_newlyClosedOf ∈ BW := bw_in (List.mem_of_getElem? (i := 1459) (by rfl)) (by rfl)
set_option maxRecDepth 100000 in
theorem sl_X6_newlyClosedOf : Cond.selects RX6 yX6_newlyClosedOf yX6_newlyClosedOf ∈ BW := bw_in (List.mem_of_getElem? (i := 35) (by rfl)) (by rfl)
set_option maxRecDepth 100000 in
theorem cd_X11_sumHours : Cond.code yX11_sumHours cX11_sumHours 3 none ∈ BW := bw_in (List.mem_of_getElem? (i := 659) (by rfl)) (by rfl)
set_option maxRecDepth 100000 in
theorem ml_RX11_302 : Cond.methodLink RX11 302 yX11_sumHours ∈ BW := bw_in (List.mem_of_getElem? (i := 656) (by rfl)) (by rfl)
set_option maxRecDepth 100000 in
theorem in_X11_sumHours : Cond.instanceMethod yX11_sumHours ∈ BW := bw_in (List.mem_of_getElem? (i := 658) (by rfl)) (by rfl)
set_option maxRecDepth 100000 in
theorem sl_X11_sumHours : Cond.selects RX11 yX11_sumHours yX11_sumHours ∈ BW := bw_in (List.mem_of_getElem? (i := 1) (by rfl)) (by rfl)
set_option maxRecDepth 100000 in
theorem cd_X6_newlyClosed : Cond.code yX6_newlyClosed cX6_newlyClosed 6 (some .int) ∈ BW := bw_in (List.mem_of_getElem? (i := 1455) (by rfl)) (by rfl)
set_option maxRecDepth 100000 in
theorem ml_RX6_60 : Cond.methodLink RX6 60 yX6_newlyClosed ∈ BW := bw_in (List.mem_of_getElem? (i := 1452) (by rfl)) (by rfl)
set_option maxRecDepth 100000 in
theorem in_X6_newlyClosed : Cond.instanceMethod yX6_newlyClosed ∈ BW := bw_in (List.mem_of_getElem? (i := 1454) (by rfl)) (by rfl)
set_option maxRecDepth 100000 in
theorem sl_X6_newlyClosed : Cond.selects RX6 yX6_newlyClosed yX6_newlyClosed ∈ BW := bw_in (List.mem_of_getElem? (i := 34) (by rfl)) (by rfl)
