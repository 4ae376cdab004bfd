set_option maxRecDepth 100000 in
theorem jl_RL_120 : Cond.methodLink RL 120 yJ0_length_8abf5 ∈ BW := bw_in (List.mem_of_getElem? (i := 1487) (by rfl)) (by rfl)
set_option maxRecDepth 100000 in
theorem jl_RL_138 : Cond.methodLink RL 138 yJ0_charAt_5068e ∈ BW := bw_in (List.mem_of_getElem? (i := 1491) (by rfl)) (by rfl)
set_option maxRecDepth 100000 in
theorem ji_J0_charAt_5068e : Cond.instanceMethod yJ0_charAt_5068e ∈ BW := bw_in (List.mem_of_getElem? (i := 972) (by rfl)) (by rfl)
set_option maxRecDepth 100000 in
theorem js_RJ0_J0_charAt_5068e : Cond.selects RJ0 yJ0_charAt_5068e yJ0_charAt_5068e ∈ BW := bw_in (List.mem_of_getElem? (i := 973) (by rfl)) (by rfl)
set_option maxRecDepth 100000 in
theorem jc_J0_charAt_5068e : Cond.code yJ0_charAt_5068e cJ0_charAt_5068e 2 (some .char) ∈ BW := bw_in (List.mem_of_getElem? (i := 974) (by rfl)) (by rfl)
set_option maxRecDepth 100000 in
theorem cd_L_four : Cond.code yL_four cL_four 4 (some .int) ∈ BW := bw_in (List.mem_of_getElem? (i := 1490) (by rfl)) (by rfl)
set_option maxRecDepth 100000 in
theorem cd_L_text : Cond.code yL_text cL_text 3 (some .boolean) ∈ BW := bw_in (List.mem_of_getElem? (i := 1486) (by rfl)) (by rfl)
set_option maxRecDepth 100000 in
theorem st_L_four : Cond.static yL_four ∈ BW := bw_in (List.mem_of_getElem? (i := 1489) (by rfl)) (by rfl)
set_option maxRecDepth 100000 in
theorem ml_RL_125 : Cond.methodLink RL 125 yL_four ∈ BW := bw_in (List.mem_of_getElem? (i := 1488) (by rfl)) (by rfl)
set_option maxRecDepth 100000 in
theorem ni_RL : Cond.initialized RL ∈ BW := bw_in (List.mem_of_getElem? (i := 36) (by rfl)) (by rfl)
set_option maxRecDepth 100000 in
theorem cd_X11_append : Cond.code yX11_append cX11_append 7 (some .int) ∈ BW := bw_in (List.mem_of_getElem? (i := 1495) (by rfl)) (by rfl)
set_option maxRecDepth 100000 in
theorem ml_RL_131 : Cond.methodLink RL 131 yX11_append ∈ BW := bw_in (List.mem_of_getElem? (i := 1492) (by rfl)) (by rfl)
set_option maxRecDepth 100000 in
theorem in_X11_append : Cond.instanceMethod yX11_append ∈ BW := bw_in (List.mem_of_getElem? (i := 1493) (by rfl)) (by rfl)
set_option maxRecDepth 100000 in
theorem sl_X11_append : Cond.selects RX11 yX11_append yX11_append ∈ BW := bw_in (List.mem_of_getElem? (i := 1494) (by rfl)) (by rfl)
set_option maxRecDepth 100000 in
theorem cd_X11_truncate : Cond.code yX11_truncate cX11_truncate 3 (some .boolean) ∈ BW := bw_in (List.mem_of_getElem? (i := 1507) (by rfl)) (by rfl)
set_option maxRecDepth 100000 in
theorem ml_RL_135 : Cond.methodLink RL 135 yX11_truncate ∈ BW := bw_in (List.mem_of_getElem? (i := 1504) (by rfl)) (by rfl)
set_option maxRecDepth 100000 in
theorem in_X11_truncate : Cond.instanceMethod yX11_truncate ∈ BW := bw_in (List.mem_of_getElem? (i := 1505) (by rfl)) (by rfl)
set_option maxRecDepth 100000 in
theorem sl_X11_truncate : Cond.selects RX11 yX11_truncate yX11_truncate ∈ BW := bw_in (List.mem_of_getElem? (i := 1506) (by rfl)) (by rfl)
theorem dL_four_4 : decode cL_four 4 = .ok (.iload_n 3, 1) := by decide +kernel
theorem dL_four_5 : decode cL_four 5 = .ok (.iload_n 1, 1) := by decide +kernel
theorem dL_four_6 : decode cL_four 6 = .ok (.iconst 4, 1) := by decide +kernel
theorem dL_four_7 : decode cL_four 7 = .ok (.iadd, 1) := by decide +kernel
theorem dL_four_8 : decode cL_four 8 = .ok (.if_icmp .ge 32, 3) := by decide +kernel
theorem dL_four_11 : decode cL_four 11 = .ok (.iload_n 2, 1) := by decide +kernel
theorem dL_four_12 : decode cL_four 12 = .ok (.bipush 8, 2) := by decide +kernel
theorem dL_four_14 : decode cL_four 14 = .ok (.ishl, 1) := by decide +kernel
theorem dL_four_15 : decode cL_four 15 = .ok (.iload_n 3, 1) := by decide +kernel
theorem dL_four_16 : decode cL_four 16 = .ok (.aload_n 0, 1) := by decide +kernel
theorem dL_four_17 : decode cL_four 17 = .ok (.invokevirtual 120, 3) := by decide +kernel
theorem dL_four_32 : decode cL_four 32 = .ok (.ior, 1) := by decide +kernel
theorem dL_four_33 : decode cL_four 33 = .ok (.istore_n 2, 1) := by decide +kernel
theorem dL_four_34 : decode cL_four 34 = .ok (.iinc 3 1, 3) := by decide +kernel
theorem dL_four_37 : decode cL_four 37 = .ok (.goto (-33), 3) := by decide +kernel
theorem dL_four_20 : decode cL_four 20 = .ok (.if_icmp .ge 11, 3) := by decide +kernel
theorem dL_four_31 : decode cL_four 31 = .ok (.iconst 0, 1) := by decide +kernel
theorem dL_four_23 : decode cL_four 23 = .ok (.aload_n 0, 1) := by decide +kernel
theorem dL_four_24 : decode cL_four 24 = .ok (.iload_n 3, 1) := by decide +kernel
theorem dL_four_25 : decode cL_four 25 = .ok (.invokevirtual 138, 3) := by decide +kernel
theorem dL_four_28 : decode cL_four 28 = .ok (.goto 4, 3) := by decide +kernel
theorem dL_four_0 : decode cL_four 0 = .ok (.iconst 0, 1) := by decide +kernel
theorem dL_four_1 : decode cL_four 1 = .ok (.istore_n 2, 1) := by decide +kernel
theorem dL_four_2 : decode cL_four 2 = .ok (.iload_n 1, 1) := by decide +kernel
theorem dL_four_3 : decode cL_four 3 = .ok (.istore_n 3, 1) := by decide +kernel
theorem dL_four_40 : decode cL_four 40 = .ok (.iload_n 2, 1) := by decide +kernel
theorem dL_four_41 : decode cL_four 41 = .ok (.ireturn, 1) := by decide +kernel
theorem dL_text_2 : decode cL_text 2 = .ok (.iload_n 2, 1) := by decide +kernel
theorem dL_text_3 : decode cL_text 3 = .ok (.aload_n 1, 1) := by decide +kernel
theorem dL_text_4 : decode cL_text 4 = .ok (.invokevirtual 120, 3) := by decide +kernel
theorem dL_text_7 : decode cL_text 7 = .ok (.if_icmp .ge 58, 3) := by decide +kernel
theorem dL_text_10 : decode cL_text 10 = .ok (.aload_n 0, 1) := by decide +kernel
theorem dL_text_11 : decode cL_text 11 = .ok (.aload_n 1, 1) := by decide +kernel
theorem dL_text_12 : decode cL_text 12 = .ok (.iload_n 2, 1) := by decide +kernel
theorem dL_text_13 : decode cL_text 13 = .ok (.invokestatic 125, 3) := by decide +kernel
theorem dL_text_16 : decode cL_text 16 = .ok (.aload_n 1, 1) := by decide +kernel
theorem dL_text_17 : decode cL_text 17 = .ok (.iload_n 2, 1) := by decide +kernel
theorem dL_text_18 : decode cL_text 18 = .ok (.iconst 4, 1) := by decide +kernel
theorem dL_text_19 : decode cL_text 19 = .ok (.iadd, 1) := by decide +kernel
theorem dL_text_20 : decode cL_text 20 = .ok (.invokestatic 125, 3) := by decide +kernel
theorem dL_text_23 : decode cL_text 23 = .ok (.aload_n 1, 1) := by decide +kernel
theorem dL_text_24 : decode cL_text 24 = .ok (.iload_n 2, 1) := by decide +kernel
theorem dL_text_25 : decode cL_text 25 = .ok (.bipush 8, 2) := by decide +kernel
theorem dL_text_27 : decode cL_text 27 = .ok (.iadd, 1) := by decide +kernel
theorem dL_text_28 : decode cL_text 28 = .ok (.invokestatic 125, 3) := by decide +kernel
theorem dL_text_31 : decode cL_text 31 = .ok (.aload_n 1, 1) := by decide +kernel
theorem dL_text_32 : decode cL_text 32 = .ok (.iload_n 2, 1) := by decide +kernel
theorem dL_text_33 : decode cL_text 33 = .ok (.bipush 12, 2) := by decide +kernel
theorem dL_text_35 : decode cL_text 35 = .ok (.iadd, 1) := by decide +kernel
theorem dL_text_36 : decode cL_text 36 = .ok (.invokestatic 125, 3) := by decide +kernel
theorem dL_text_39 : decode cL_text 39 = .ok (.aload_n 1, 1) := by decide +kernel
theorem dL_text_40 : decode cL_text 40 = .ok (.iload_n 2, 1) := by decide +kernel
theorem dL_text_41 : decode cL_text 41 = .ok (.bipush 16, 2) := by decide +kernel
theorem dL_text_43 : decode cL_text 43 = .ok (.iadd, 1) := by decide +kernel
theorem dL_text_44 : decode cL_text 44 = .ok (.invokestatic 125, 3) := by decide +kernel
theorem dL_text_47 : decode cL_text 47 = .ok (.invokevirtual 131, 3) := by decide +kernel
theorem dL_text_50 : decode cL_text 50 = .ok (.iload_n 2, 1) := by decide +kernel
theorem dL_text_51 : decode cL_text 51 = .ok (.bipush 20, 2) := by decide +kernel
theorem dL_text_53 : decode cL_text 53 = .ok (.iadd, 1) := by decide +kernel
theorem dL_text_54 : decode cL_text 54 = .ok (.if_icmp .eq 5, 3) := by decide +kernel
theorem dL_text_59 : decode cL_text 59 = .ok (.iinc 2 20, 3) := by decide +kernel
theorem dL_text_62 : decode cL_text 62 = .ok (.goto (-60), 3) := by decide +kernel
theorem dL_text_0 : decode cL_text 0 = .ok (.iconst 0, 1) := by decide +kernel
theorem dL_text_1 : decode cL_text 1 = .ok (.istore_n 2, 1) := by decide +kernel
theorem dL_text_65 : decode cL_text 65 = .ok (.aload_n 0, 1) := by decide +kernel
theorem dL_text_66 : decode cL_text 66 = .ok (.aload_n 1, 1) := by decide +kernel
theorem dL_text_67 : decode cL_text 67 = .ok (.invokevirtual 120, 3) := by decide +kernel
theorem dL_text_70 : decode cL_text 70 = .ok (.invokevirtual 135, 3) := by decide +kernel
theorem dL_text_73 : decode cL_text 73 = .ok (.ireturn, 1) := by decide +kernel
/-! ===== the text goes into the planner's buffer ===== -/
theorem shl8 {x c : Nat} (hx : x < 8388608) (hc : c < 256) : (nI x <<< (nI 8 &&& 31)) ||| nI c = nI (x * 256 + c) := by
  have e : (nI 8 &&& 31 : Int32) = 8 := by decide
  rw [e]
  apply Int32.toBitVec_inj.1
  apply BitVec.eq_of_toNat_eq
  have h1 : (nI x).toBitVec = BitVec.ofNat 32 x := rfl
  have h2 : (nI c).toBitVec = BitVec.ofNat 32 c := rfl
  have h3 : (nI (x * 256 + c)).toBitVec = BitVec.ofNat 32 (x * 256 + c) := rfl
  rw [h3, Int32.toBitVec_or, h2]
  have h4 : (nI x <<< (8 : Int32)).toBitVec = BitVec.ofNat 32 x <<< 8 := rfl
  rw [h4, BitVec.toNat_or, BitVec.toNat_shiftLeft, BitVec.toNat_ofNat, BitVec.toNat_ofNat, BitVec.toNat_ofNat, Nat.mod_eq_of_lt (by omega : x < 2 ^ 32), Nat.mod_eq_of_lt (by omega : c < 2 ^ 32), Nat.mod_eq_of_lt (by omega : x * 256 + c < 2 ^ 32)]
  rw [Nat.mod_eq_of_lt (by rw [Nat.shiftLeft_eq]; omega), ← Nat.shiftLeft_add_eq_or_of_lt (i := 8) (by omega : c < 2 ^ 8), Nat.shiftLeft_eq]
theorem shr_nI {X : Nat} (hX : X < 2 ^ 31) : (nI X >>> (24 : Int32) = nI (X / 16777216)) ∧ (nI X >>> (16 : Int32) = nI (X / 65536)) ∧ (nI X >>> (8 : Int32) = nI (X / 256)) ∧ nI X >>> (0 : Int32) = nI X := by
  have hx : (BitVec.ofNat 32 X).toInt = (X : Int) := nI_toInt hX
  refine ⟨?_, ?_, ?_, ?_⟩
  · apply Int32.toInt_inj.1
    show (BitVec.sshiftRight (BitVec.ofNat 32 X) 24).toInt = _
    rw [BitVec.toInt_sshiftRight, hx, nI_toInt (by omega), Int.shiftRight_eq_div_pow]
    omega
  · apply Int32.toInt_inj.1
    show (BitVec.sshiftRight (BitVec.ofNat 32 X) 16).toInt = _
    rw [BitVec.toInt_sshiftRight, hx, nI_toInt (by omega), Int.shiftRight_eq_div_pow]
    omega
  · apply Int32.toInt_inj.1
    show (BitVec.sshiftRight (BitVec.ofNat 32 X) 8).toInt = _
    rw [BitVec.toInt_sshiftRight, hx, nI_toInt (by omega), Int.shiftRight_eq_div_pow]
    omega
  · apply Int32.toInt_inj.1
    show (BitVec.sshiftRight (BitVec.ofNat 32 X) 0).toInt = _
    rw [BitVec.toInt_sshiftRight, hx, nI_toInt hX, Int.shiftRight_eq_div_pow]
    omega
theorem low8 {Y : Nat} (hY : Y < 2 ^ 31) (h : Y % 256 < 128) : vp_nar .byte ((nI Y).toInt8.toInt32) = nI (Y % 256) := by
  show ((nI Y).toInt8.toInt32).toInt8.toInt32 = _
  apply Int32.toInt_inj.1
  rw [Int8.toInt_toInt32, Int32.toInt_toInt8, Int8.toInt_toInt32, Int32.toInt_toInt8, nI_toInt hY, nI_toInt (by omega)]
  rw [Int.bmod_def, Int.bmod_def]
  omega
/-- four letters in a word -/
def pkF (t : List Nat) (k : Nat) : Nat → Int32
  | 0 => nI 0
  | j + 1 => (pkF t k j <<< (nI 8 &&& 31)) ||| nI (t.getD (k + j) 0)
theorem Asc.getD {t : List Nat} (h : Asc t) (j : Nat) : t.getD j 0 < 128 := by
  rw [List.getD_eq_getElem?_getD]
  by_cases hj : j < t.length
  · rw [List.getElem?_eq_getElem hj]
    exact h _ (List.getElem_mem hj)
  · rw [List.getElem?_eq_none (by omega)]
    decide
theorem byt4 {a b c d : Nat} (ha : a < 128) (hb : b < 128) (hc : c < 128) (hd : d < 128) : byt (nI (((a * 256 + b) * 256 + c) * 256 + d)) 0 = nI a ∧ byt (nI (((a * 256 + b) * 256 + c) * 256 + d)) 1 = nI b ∧ byt (nI (((a * 256 + b) * 256 + c) * 256 + d)) 2 = nI c ∧ byt (nI (((a * 256 + b) * 256 + c) * 256 + d)) 3 = nI d := by
  have hs := shr_nI (X := ((a * 256 + b) * 256 + c) * 256 + d) (by omega)
  have e0 : (iI (24 - 8 * ((0 : Nat) : Int)) &&& 31 : Int32) = 24 := by decide
  have e1 : (iI (24 - 8 * ((1 : Nat) : Int)) &&& 31 : Int32) = 16 := by decide
  have e2 : (iI (24 - 8 * ((2 : Nat) : Int)) &&& 31 : Int32) = 8 := by decide
  have e3 : (iI (24 - 8 * ((3 : Nat) : Int)) &&& 31 : Int32) = 0 := by decide
  unfold byt
  rw [e0, e1, e2, e3, hs.1, hs.2.1, hs.2.2.1, hs.2.2.2, low8 (by omega) (by omega), low8 (by omega) (by omega), low8 (by omega) (by omega), low8 (by omega) (by omega)]
  refine ⟨?_, ?_, ?_, ?_⟩ <;> congr 1 <;> omega
theorem byt_pk {t : List Nat} (hA : Asc t) (k : Nat) : ∀ i, i < 4 → byt (pkF t k 4) i = nI (t.getD (k + i) 0) := by
  have h0 := hA.getD (k + 0)
  have h1 := hA.getD (k + 1)
  have h2 := hA.getD (k + 2)
  have h3 := hA.getD (k + 3)
  have e : pkF t k 4 = nI (((t.getD (k + 0) 0 * 256 + t.getD (k + 1) 0) * 256 + t.getD (k + 2) 0) * 256 + t.getD (k + 3) 0) := by
    show (((((((nI 0 <<< (nI 8 &&& 31)) ||| nI (t.getD (k + 0) 0)) <<< (nI 8 &&& 31)) ||| nI (t.getD (k + 1) 0)) <<< (nI 8 &&& 31)) ||| nI (t.getD (k + 2) 0)) <<< (nI 8 &&& 31)) ||| nI (t.getD (k + 3) 0) = _
    rw [shl8 (by omega) (by omega), shl8 (by omega) (by omega), shl8 (by omega) (by omega), shl8 (by omega) (by omega), Nat.zero_mul, Nat.zero_add]
  have hb := byt4 h0 h1 h2 h3
  intro i hi
  rw [e]
  match i, hi with
  | 0, _ => exact hb.1
  | 1, _ => exact hb.2.1
  | 2, _ => exact hb.2.2.1
  | 3, _ => exact hb.2.2.2
section VTX
variable {s : Nat} {R : Nat → Nat → Nat} {σ : SI} {N : Nat}
/-- twenty letters at a time -/
theorem c_append (hN : 2000 ≤ N) (hR : RO R s) {t : List Nat} (hA : Asc t) {n : Nat} (c : n + 20 ≤ 800) (e1 : σ 3 1 = nI n) : ∃ σ', f_X11_append N R σ 1 (pkF t n 4) (pkF t (n + 4) 4) (pkF t (n + 8) 4) (pkF t (n + 12) 4) (pkF t (n + 16) 4) = some (nI (n + 20), σ') ∧ σ' 3 1 = nI (n + 20) ∧ (∀ j, σ' 4 j = if n ≤ j ∧ j < n + 20 then nI (t.getD j 0) else σ 4 j) ∧ ∀ o j, o ≠ 4 → (o ≠ 3 ∨ j ≠ 1) → σ' o j = σ o j := by
  obtain ⟨σ1, p1, p2, p3, p4⟩ := c_addW hN hR (pkF t n 4) (n0 := n) (by omega) e1
  obtain ⟨σ2, q1, q2, q3, q4⟩ := c_addW hN hR (pkF t (n + 4) 4) (n0 := n + 4) (by omega) p2
  obtain ⟨σ3, r1, r2, r3, r4⟩ := c_addW hN hR (pkF t (n + 8) 4) (n0 := n + 4 + 4) (by omega) q2
  obtain ⟨σ4, u1, u2, u3, u4⟩ := c_addW hN hR (pkF t (n + 12) 4) (n0 := n + 4 + 4 + 4) (by omega) r2
  obtain ⟨σ5, v1, v2, v3, v4⟩ := c_addW hN hR (pkF t (n + 16) 4) (n0 := n + 4 + 4 + 4 + 4) (by omega) u2
  refine ⟨σ5, ?_, v2, fun j => ?_, fun o j h1 h2 => (v4 o j h1 h2).trans ((u4 o j h1 h2).trans ((r4 o j h1 h2).trans ((q4 o j h1 h2).trans (p4 o j h1 h2))))⟩
  · unfold f_X11_append f_X10_hasRoom
    rw [hR.r1_0, hR.r2_0, e1, show (20 : Int32) = nI 20 from rfl, nI_add, if_neg (by rw [show (800 : Int32) = nI 800 from rfl, nI_ltI (by omega) (by omega)]; omega), bd_some, if_neg (by decide), p1, bd_some, q1, bd_some, r1, bd_some, u1, bd_some, v1, bd_some, v2]
  · rw [v3, u3, r3, q3, p3]
    by_cases d5 : n + 4 + 4 + 4 + 4 ≤ j ∧ j < n + 4 + 4 + 4 + 4 + 4
    · rw [if_pos d5, if_pos (by omega), byt_pk hA (n + 16) _ (by omega), show n + 16 + (j - (n + 4 + 4 + 4 + 4)) = j by omega]
    · rw [if_neg d5]
      by_cases d4 : n + 4 + 4 + 4 ≤ j ∧ j < n + 4 + 4 + 4 + 4
      · rw [if_pos d4, if_pos (by omega), byt_pk hA (n + 12) _ (by omega), show n + 12 + (j - (n + 4 + 4 + 4)) = j by omega]
      · rw [if_neg d4]
        by_cases d3 : n + 4 + 4 ≤ j ∧ j < n + 4 + 4 + 4
        · rw [if_pos d3, if_pos (by omega), byt_pk hA (n + 8) _ (by omega), show n + 8 + (j - (n + 4 + 4)) = j by omega]
        · rw [if_neg d3]
          by_cases d2 : n + 4 ≤ j ∧ j < n + 4 + 4
          · rw [if_pos d2, if_pos (by omega), byt_pk hA (n + 4) _ (by omega), show n + 4 + (j - (n + 4)) = j by omega]
          · rw [if_neg d2]
            by_cases d1 : n ≤ j ∧ j < n + 4
            · rw [if_pos d1, if_pos (by omega), byt_pk hA n _ (by omega), show n + (j - n) = j by omega]
            · rw [if_neg d1, if_neg (by omega)]
theorem c_truncate (hR : RO R s) {k n : Nat} (hkn : k ≤ n) (hn : n < 1000) (e1 : σ 3 1 = nI n) : f_X11_truncate N R σ 1 (nI k) = some (1, up σ 3 1 (nI k)) := by
  unfold f_X11_truncate
  rw [hR.r1_0, hR.r2_0, e1, if_neg (nI_pos (by omega)), if_pos (nI_le hkn (by omega)), sq_eq]
end VTX
/-! ===== the law's own methods with the text ===== -/
def Qf (g : GL) (R : Nat → Nat → Nat) (L : Nat → Nat → Int64) (a v : Nat) (t : List Nat) (post : Option Value → SI → Prop) : Array Value → State → Outcome → State → Prop := fun _ st o tt => (∃ x σ', o = .returned x ∧ post x σ' ∧ Wd g 202 (mkS σ' R L) tt.heap ∧ TXt g a v t tt.heap) ∧ va_F (gA g) st tt
def Cfo (l : Launch) (g : GL) (d : Nat) (y : MethodName) (b : ByteArray) (nL : Nat) (ret : Option FieldType) (As : List Value) (σ : SI) (R : Nat → Nat → Nat) (L : Nat → Nat → Int64) (a v : Nat) (t : List Nat) (post : Option Value → SI → Prop) : Prop :=
  Met l y [Cond.code y b nL ret] (rmd d 0 0) (Pd l g As σ R L a v t) (Qf g R L a v t post) 0 0 (gA g)
section VTR
variable {l : Launch} {g : GL} {p : Program} {e : Jvm.Env} {R0 : Room} {s : State} {m : MethodId} {args : Array Value} {below : List Frame} {meth : Method} {c : Code} {H : Heap} {locs : List Loc} {cells slots : Nat} {Q : State → Prop}
variable {cc : ByteArray} {nL : Nat} {pc index : Nat} {ls : Array Slot} {rest : List Value} {σ : SI} {R : Nat → Nat → Nat} {L : Nat → Nat → Int64} {a v : Nat} {t : List Nat} {own : String}
theorem t_srecv (C : Cx l g p s m meth c cc nL own) (hT : TXt g a v t H) : ∃ cell : Cell, H[a]? = some cell ∧ cell.vm.isStatics = false ∧ s.vm.findClass RJ0 = some cell.cls := by
  obtain ⟨f, h1, -⟩ := hT
  exact va_recv C.2.2.2.2.1.2.1 h1 (q0 := 0) (q := (RJ0, TJ0, 4)) rfl rfl
theorem t_len (C : Cx l g p s m meth c cc nL RL) (hg : gZ g = 1) (S : S2 g s σ R L H locs) (hHs : gb g + 202 ≤ H.size) (hT : TXt g a v t H) (hn : t.length < 1000) (hroom : 3 ≤ R0.frames ∧ 148 ≤ R0.locals) (hsize : ls.size = nL) (hW : (rest.map fun v => v.category).sum ≤ 8) (hf : cells ≤ R0.cells ∧ slots ≤ R0.slots) (hdg : decode cc pc = .ok (.invokevirtual 120, 3))
    (kk : ∀ (H1 : Heap) (locs1 : List Loc), S2 g s σ R L H1 locs1 → gb g + 202 ≤ H1.size → TXt g a v t H1 → W p l e R0 s m args below meth c H1 locs1 cells slots Q (F0 m (pc + 3) ls (.int (nI t.length) :: rest))) : W p l e R0 s m args below meth c H locs cells slots Q (F0 m pc ls (.ref a :: rest)) := by
  refine y_callV (Cn := RJ0) (Z := H.size) C hg S hHs (Nat.le_refl _) (wc := []) (fun k q hq => by cases hq) (xc := [(a, v, t)]) (fun q hq => by rw [List.mem_singleton.mp hq]; exact hT.str C.2.2.2.2.1 hT.lt.1 hT.lt.2 (by omega)) (t_srecv C hT) (k_slength (q := (a, v, t)) (List.mem_singleton.mpr rfl)) ⟨jc_J0_length_8abf5, jn_RJ0, jl_RL_120, ji_J0_length_8abf5, js_RJ0_J0_length_8abf5⟩ ⟨by decide, by decide⟩ rfl ⟨by omega, by omega⟩ hsize rfl hW ⟨hf.1, hf.2⟩ hdg (fun w H1 locs1 hp hz hk S => ?_)
  obtain ⟨rfl, -⟩ := hp
  exact kk H1 locs1 S (by omega) (hT.kept hT.lt.1 hT.lt.2 hk)
theorem t_chA (C : Cx l g p s m meth c cc nL RL) (hg : gZ g = 1) (S : S2 g s σ R L H locs) (hHs : gb g + 202 ≤ H.size) (hT : TXt g a v t H) (hA : Asc t) (hn : t.length < 1000) {i : Nat} (hi : i < t.length) (hroom : 5 ≤ R0.frames ∧ 277 ≤ R0.locals) (hsize : ls.size = nL) (hW : (rest.map fun v => v.category).sum ≤ 8) (hf : cells ≤ R0.cells ∧ slots ≤ R0.slots) (hdg : decode cc pc = .ok (.invokevirtual 138, 3))
    (kk : ∀ (H1 : Heap) (locs1 : List Loc), S2 g s σ R L H1 locs1 → gb g + 202 ≤ H1.size → TXt g a v t H1 → W p l e R0 s m args below meth c H1 locs1 cells slots Q (F0 m (pc + 3) ls (.int (nI (t.getD i 0)) :: rest))) : W p l e R0 s m args below meth c H locs cells slots Q (F0 m pc ls (.int (nI i) :: .ref a :: rest)) := by
  refine y_callV (Cn := RJ0) (Z := H.size) C hg S hHs (Nat.le_refl _) (wc := []) (fun k q hq => by cases hq) (xc := [(a, v, t)]) (fun q hq => by rw [List.mem_singleton.mp hq]; exact hT.str C.2.2.2.2.1 hT.lt.1 hT.lt.2 (by omega)) (t_srecv C hT) (k_charAt (q := (a, v, t)) (List.mem_singleton.mpr rfl) hA (by show t.length < _; omega) hi) ⟨jc_J0_charAt_5068e, jn_RJ0, jl_RL_138, ji_J0_charAt_5068e, js_RJ0_J0_charAt_5068e⟩ ⟨by decide, by decide⟩ rfl ⟨by omega, by omega⟩ hsize rfl hW ⟨hf.1, hf.2⟩ hdg (fun w H1 locs1 hp hz hk S => ?_)
  obtain ⟨rfl, -⟩ := hp
  exact kk H1 locs1 S (by omega) (hT.kept hT.lt.1 hT.lt.2 hk)
/-- a class's method is called: what lies behind the cells stays -/
theorem d_callV (C : Cx l g p s m meth c cc nL own) (S : S2 g s σ R L H locs) {kc id d mc ms mL N : Nat} {Cn : String} {T : u_T} {ty0 : Nat → FieldType} {y : MethodName} {b : ByteArray} {ret : Option FieldType} {As st : List Value} {post : Option Value → Sg → Prop} (K : KC kc Cn T N ty0) (hid : Ok 202 id kc) (hM : Ct l (g0 g) d y b mL ret 202 202 mc ms (.ref (ga g id) :: As) (mkS σ R L) post)
    (hw : Cond.code y b mL ret ∈ BW ∧ Cond.initialized y.cls ∈ BW ∧ Cond.methodLink own index y ∈ BW ∧ Cond.instanceMethod y ∈ BW ∧ Cond.selects Cn y y ∈ BW) (hy : y.cls ≠ "java/lang/invoke/MethodHandle" ∧ y.cls ≠ "java/lang/invoke/VarHandle") (hlen : (parseMethodDescriptor y.desc).map (fun d => d.parameters.length) = some As.length)
    (hroom : d + 1 ≤ R0.frames ∧ 8 + (mL + 11) + 64 * d ≤ R0.locals) (hsize : ls.size = nL) (hst : st = As.reverse ++ .ref (ga g id) :: rest) (hW : (rest.map fun v => v.category).sum ≤ 8) (hf : cells + mc ≤ R0.cells ∧ slots + ms ≤ R0.slots) (hdg : decode cc pc = .ok (.invokevirtual index, 3))
    (kk : ∀ (v : Option Value) (σ' : Sg) (H1 : Heap) (locs1 : List Loc), post v σ' → StL g 202 s σ' H1 locs1 → H.size ≤ H1.size → (∀ q, gb g + 202 ≤ q → q < H.size → H1[q]? = H[q]?) → W p l e R0 s m args below meth c H1 locs1 (cells + mc) (slots + ms) Q (F0 m (pc + 3) ls (v.toList ++ rest))) : W p l e R0 s m args below meth c H locs cells slots Q (F0 m pc ls st) :=
  d_go (va_runV (Ts := []) ⟨C.1, C.2.1, C.2.2.1, C.2.2.2.1, fun w h => by cases h⟩ hM ⟨v_cb C hw.1 hw.2.1 hw.2.2.1 hy hlen hroom, C.2.2.2.2.1.w hw.2.2.2.1, C.2.2.2.2.1.w hw.2.2.2.2⟩ ⟨Pcc.blind, v_recv C S hid K.1 K.2.2.2.2, fun U hU hW => ⟨rfl, (C.2.2.2.2.1.warm hW).g0, by rw [hU]; show Low g H; exact StL.low C.2.2.2.2.2.1 S, by rw [hU]; exact S.1⟩⟩ rfl rfl hsize hst (lv_room hW) hdg hf) S kk
theorem d_callS (C : Cx l g p s m meth c cc nL RL) (S : S2 g s σ R L H locs) {d mL : Nat} {y : MethodName} {b : ByteArray} {ret : Option FieldType} {As st : List Value} {post : Option Value → SI → Prop} (hM : Cfo l g d y b mL ret As σ R L a v t post) (hT : TXt g a v t H)
    (hw : Cond.code y b mL ret ∈ BW ∧ Cond.initialized y.cls ∈ BW ∧ Cond.methodLink RL index y ∈ BW ∧ Cond.static y ∈ BW) (hy : y.cls ≠ "java/lang/invoke/MethodHandle" ∧ y.cls ≠ "java/lang/invoke/VarHandle") (hlen : (parseMethodDescriptor y.desc).map (fun d => d.parameters.length) = some As.length)
    (hroom : d + 1 ≤ R0.frames ∧ 8 + (mL + 11) + 64 * d ≤ R0.locals) (hsize : ls.size = nL) (hst : st = As.reverse ++ rest) (hW : (rest.map fun v => v.category).sum ≤ 8) (hf : cells ≤ R0.cells ∧ slots ≤ R0.slots) (hdg : decode cc pc = .ok (.invokestatic index, 3))
    (kk : ∀ (x : Option Value) (σ' : SI) (H1 : Heap) (locs1 : List Loc), post x σ' → S2 g s σ' R L H1 locs1 → H.size ≤ H1.size → TXt g a v t H1 → W p l e R0 s m args below meth c H1 locs1 cells slots Q (F0 m (pc + 3) ls (x.toList ++ rest))) : W p l e R0 s m args below meth c H locs cells slots Q (F0 m pc ls st) := by
  have hr := va_runS (p := p) (l := l) (e := e) (R := R0) (s := s) (m := m) (args := args) (below := below) (meth := meth) (c := c) (H := H) (locs := locs) (cells := cells) (slots := slots) (mc := 0) (ms := 0) (Ts := []) ⟨C.1, C.2.1, C.2.2.1, C.2.2.2.1, fun w h => by cases h⟩ hM ⟨v_cb C hw.1 hw.2.1 hw.2.2.1 hy hlen hroom, C.2.2.2.2.1.w hw.2.2.2⟩ ⟨Pd.blind, fun U hU hW => ⟨rfl, C.2.2.2.2.1.warm hW, by rw [hU]; exact StL.low C.2.2.2.2.2.1 S, by rw [hU]; exact S.1, by rw [hU]; exact hT⟩⟩ rfl rfl hsize hst (lv_room hW) hdg hf
  intro T hT X
  obtain ⟨x, st₀, tt, T', L', h0, X', hL, e1, e2, ⟨⟨x', σ', ho, hp, hw, hTx⟩, hF⟩, step⟩ := hr T hT X
  cases ho
  obtain ⟨t2, a1, b1⟩ := kk x σ' T'.heap (locs ++ L') hp (StL.lift S h0 e1 hw hF hL) (by rw [e1, ← h0]; exact hF.1) (by rw [e1]; exact hTx) T' rfl X'
  exact ⟨t2, step t2 a1, b1⟩
end VTR
section VTW
variable {l : Launch} {g : GL} {p : Program} {e : Jvm.Env} {R0 : Room} {s : State} {m : MethodId} {args : Array Value} {below : List Frame} {meth : Method} {c : Code} {cells slots : Nat} {Q : State → Prop} {σ : SI} {R : Nat → Nat → Nat} {L : Nat → Nat → Int64} {a v : Nat} {t : List Nat}
set_option maxHeartbeats 4000000 in
set_option maxRecDepth 100000 in
theorem n_fourL (C : Cx l g p s m meth c cL_four 4 RL) (hg : gZ g = 1) (hA : Asc t) (hn : t.length < 1000) {k : Nat} (hk : k < 1000) (hRf : 6 ≤ R0.frames) (hRl : 384 ≤ R0.locals) (hf : cells ≤ R0.cells ∧ slots ≤ R0.slots) : ∀ (n j : Nat) (H : Heap) (locs : List Loc) (ls : Array Slot), j + n = 4 → S2 g s σ R L H locs → gb g + 202 ≤ H.size → TXt g a v t H → lv_has ls 4 [(3, .int (nI (k + j))), (2, .int (pkF t k j)), (0, .ref a), (1, .int (nI k))] → (∀ (H' : Heap) (locs' : List Loc) (ls' : Array Slot), S2 g s σ R L H' locs' → gb g + 202 ≤ H'.size → TXt g a v t H' → lv_has ls' 4 [(3, .int (nI (k + 4))), (2, .int (pkF t k 4)), (0, .ref a), (1, .int (nI k))] → W p l e R0 s m args below meth c H' locs' cells slots Q (F0 m 40 ls' [])) → W p l e R0 s m args below meth c H locs cells slots Q (F0 m 4 ls []) := by
  have hx := C.1
  have hb := C.2.1
  intro n
  induction n with
  | zero =>
    intro j H locs ls hj S hHs hT hl kk
    obtain rfl : j = 4 := by omega
    refine lv_iload_n hx hb dL_four_4 rfl (lv_at hl 0 rfl) ?_
    refine lv_iload_n hx hb dL_four_5 rfl (lv_at hl 3 rfl) ?_
    refine lv_iconst (v := nI 4) hx hb dL_four_6 (by decide) ?_
    refine lv_iadd hx hb dL_four_7 ?_
    rw [nI_add]
    refine lv_icmp_ge (tgt := 40) hx hb dL_four_8 (by decide) (fun _ => ?_) (fun c => absurd (nI_le (Nat.le_refl _) (by omega)) c)
    exact kk H locs ls S hHs hT hl
  | succ n ih =>
    intro j H locs ls hj S hHs hT hl kk
    refine lv_iload_n hx hb dL_four_4 rfl (lv_at hl 0 rfl) ?_
    refine lv_iload_n hx hb dL_four_5 rfl (lv_at hl 3 rfl) ?_
    refine lv_iconst (v := nI 4) hx hb dL_four_6 (by decide) ?_
    refine lv_iadd hx hb dL_four_7 ?_
    rw [nI_add]
    refine lv_icmp_ge (tgt := 40) hx hb dL_four_8 (by decide) (fun c => absurd c (nI_ge (by omega) (by omega))) (fun _ => ?_)
    refine lv_iload_n hx hb dL_four_11 rfl (lv_at hl 1 rfl) ?_
    refine lv_bipush (v := nI 8) hx hb dL_four_12 (by decide) ?_
    refine lv_ishl hx hb dL_four_14 ?_
    refine lv_iload_n hx hb dL_four_15 rfl (lv_at hl 0 rfl) ?_
    refine lv_aload_n hx hb dL_four_16 rfl (lv_at hl 2 rfl) ?_
    refine t_len C hg S hHs hT hn ⟨by omega, by omega⟩ hl.1 (Nat.le_of_ble_eq_true rfl) ⟨by omega, by omega⟩ dL_four_17 (fun H locs S hHs hT => ?_)
    have tail : ∀ (H : Heap) (locs : List Loc), S2 g s σ R L H locs → gb g + 202 ≤ H.size → TXt g a v t H → W p l e R0 s m args below meth c H locs cells slots Q (F0 m 32 ls (.int (nI (t.getD (k + j) 0)) :: .int (pkF t k j <<< (nI 8 &&& 31)) :: [])) := by
      intro H locs S hHs hT
      refine lv_ior hx hb dL_four_32 ?_
      refine lv_istore_n (lv' := [(2, .int (pkF t k (j + 1))), (3, .int (nI (k + j))), (0, .ref a), (1, .int (nI k))]) hx hb dL_four_33 rfl hl (by decide) rfl (fun ls hl => ?_)
      refine lv_iinc (v := nI (k + (j + 1))) (lv' := [(3, .int (nI (k + (j + 1)))), (2, .int (pkF t k (j + 1))), (0, .ref a), (1, .int (nI k))]) hx hb dL_four_34 hl (k := 1) rfl (nI_1 (k + j)) (by decide) rfl (fun ls hl => ?_)
      refine lv_goto (tgt := 4) hx hb dL_four_37 (by decide) ?_
      exact ih (j + 1) H locs ls (by omega) S hHs hT hl kk
    refine lv_icmp_ge (tgt := 31) hx hb dL_four_20 (by decide) (fun c1 => ?_) (fun c1 => ?_)
    · refine lv_iconst (v := nI 0) hx hb dL_four_31 (by decide) ?_
      have h1 : t.length ≤ k + j := (nI_leI (by omega) (by omega)).mp c1
      have e0 : t.getD (k + j) 0 = 0 := by rw [List.getD_eq_getElem?_getD, List.getElem?_eq_none h1]; rfl
      rw [e0] at tail
      exact tail H locs S hHs hT
    · have h1 : k + j < t.length := Nat.lt_of_not_le fun q => c1 (nI_le q (by omega))
      refine lv_aload_n hx hb dL_four_23 rfl (lv_at hl 2 rfl) ?_
      refine lv_iload_n hx hb dL_four_24 rfl (lv_at hl 0 rfl) ?_
      refine t_chA C hg S hHs hT hA hn h1 ⟨by omega, by omega⟩ hl.1 (Nat.le_of_ble_eq_true rfl) ⟨by omega, by omega⟩ dL_four_25 (fun H locs S hHs hT => ?_)
      refine lv_goto (tgt := 32) hx hb dL_four_28 (by decide) ?_
      exact tail H locs S hHs hT
end VTW
set_option maxHeartbeats 4000000 in
set_option maxRecDepth 100000 in
theorem n_four {l : Launch} {g : GL} {σ : SI} {R : Nat → Nat → Nat} {L : Nat → Nat → Int64} {a v : Nat} {t : List Nat} {k : Nat} (hg : gZ g = 1) (ha : gb g + 203 ≤ a) (hA : Asc t) (hn : t.length < 1000) (hk : k < 1000) : Cfo l g 6 yL_four cL_four 4 (some .int) [.ref a, .int (nI k)] σ R L a v t (fun x σ' => x = some (.int (pkF t k 4)) ∧ σ' = σ) := by
  refine Met.ofW (cc := cL_four) (maxL := 4) (ret := some .int) (by decide) rfl ?_
  intro p e s m args below meth c s₁ B hml hv
  obtain ⟨rfl, hE, hLo, hWd, hT⟩ := hv
  have hr : meth.sig.returnType = some .int := B.returns
  have C : Cx l g p s m meth c cL_four 4 RL := ⟨B.exec, B.bytes, hml, findClass_of_methodNamed B.named, hE, hLo, B.notSynchronized⟩
  have S : S2 g s σ R L s.heap [] := ⟨hWd, va_S.rf⟩
  have hx := C.1
  have hb := C.2.1
  have hl := lv_entry ([.ref a, .int (nI k)]) (n := 4) (Nat.le_of_ble_eq_true rfl)
  rw [lg_entry_eq]
  generalize (lg_sl ([.ref a, .int (nI k)]) ++ List.replicate (4 - (lg_sl ([.ref a, .int (nI k)])).length) Slot.unset).toArray = ls at hl ⊢
  have hl : lv_has ls 4 [(0, .ref a), (1, .int (nI k))] := hl
  generalize hH0 : s.heap = H at S hT ⊢
  generalize hlc : ([] : List Loc) = locs at S ⊢
  have hHs : gb g + 202 ≤ H.size := by have := hT.lt.1; omega
  generalize hRm : (headSpec [Cond.code yL_four cL_four 4 (some .int)] (rmd 6 0 0)).room = R0
  have hRf : R0.frames = 6 := by rw [← hRm]; rfl
  have hRl : R0.locals = 384 := by rw [← hRm]; rfl
  have hRc : R0.cells = 0 := by rw [← hRm]; rfl
  have hRs : R0.slots = 0 := by rw [← hRm]; rfl
  refine lv_iconst (v := nI 0) hx hb dL_four_0 (by decide) ?_
  refine lv_istore_n (lv' := [(2, .int (nI 0)), (0, .ref a), (1, .int (nI k))]) hx hb dL_four_1 rfl hl (by decide) rfl (fun ls hl => ?_)
  refine lv_iload_n hx hb dL_four_2 rfl (lv_at hl 2 rfl) ?_
  refine lv_istore_n (lv' := [(3, .int (nI (k + 0))), (2, .int (pkF t k 0)), (0, .ref a), (1, .int (nI k))]) hx hb dL_four_3 rfl hl (by decide) rfl (fun ls hl => ?_)
  refine n_fourL C hg hA hn hk (by omega) (by omega) ⟨by omega, by omega⟩ 4 0 H locs ls rfl S hHs hT hl (fun H locs ls S hHs hT hl => ?_)
  refine lv_iload_n hx hb dL_four_40 rfl (lv_at hl 1 rfl) ?_
  exact W.iret C.1 C.2.1 hr (fun tt ht _ => ⟨⟨_, σ, rfl, ⟨rfl, rfl⟩, by rw [ht]; exact S.1, by rw [ht]; exact hT⟩, S.2.F ht⟩) S.2.2.2 dL_four_41 C.2.2.2.2.2.2
section VTV
variable {l : Launch} {g : GL} {p : Program} {e : Jvm.Env} {R0 : Room} {s : State} {m : MethodId} {args : Array Value} {below : List Frame} {meth : Method} {c : Code} {cells slots : Nat} {Q : State → Prop} {R : Nat → Nat → Nat} {L : Nat → Nat → Int64} {a v : Nat} {t : List Nat}
set_option maxHeartbeats 4000000 in
set_option maxRecDepth 100000 in
theorem n_textL {N s0 : Nat} (hN : 2000 ≤ N) (hR : RO R s0) (hSh : ShR R) (C : Cx l g p s m meth c cL_text 3 RL) (hg : gZ g = 1) (ha : gb g + 203 ≤ a) (hv : gb g + 202 ≤ v) (hA : Asc t) (hn : t.length ≤ 400) (hRf : 8 ≤ R0.frames) (hRl : 512 ≤ R0.locals) (hf : cells ≤ R0.cells ∧ slots ≤ R0.slots) : ∀ (n k : Nat) (σ : SI) (H : Heap) (locs : List Loc) (ls : Array Slot), S2 g s σ R L H locs → TXt g a v t H → lv_has ls 3 [(2, .int (nI k)), (0, .ref (ga g 1)), (1, .ref a)] → k < 500 → t.length ≤ k + 20 * n → σ 3 1 = nI k → (∀ j, j < k → σ 4 j = nI (t.getD j 0)) → (∀ (σ' : SI) (n : Nat) (H' : Heap) (locs' : List Loc) (ls' : Array Slot), S2 g s σ' R L H' locs' → TXt g a v t H' → lv_has ls' 3 [(2, .int (nI n)), (0, .ref (ga g 1)), (1, .ref a)] → n < 1000 → t.length ≤ n → σ' 3 1 = nI n → (∀ j, j < t.length → σ' 4 j = nI (t.getD j 0)) → (∀ o j, o ≠ 4 → (o ≠ 3 ∨ j ≠ 1) → σ' o j = σ o j) → W p l e R0 s m args below meth c H' locs' cells slots Q (F0 m 65 ls' [])) → W p l e R0 s m args below meth c H locs cells slots Q (F0 m 2 ls []) := by
  have hx := C.1
  have hb := C.2.1
  have hx1 : Ok 202 1 11 := ⟨by decide +kernel, by decide, by decide⟩
  have hn' : t.length < 1000 := by omega
  intro n
  induction n with
  | zero =>
    intro k σ H locs ls S hT hl hk hkn h3 h4 kk
    have hHs : gb g + 202 ≤ H.size := by have := hT.lt.1; omega
    refine lv_iload_n hx hb dL_text_2 rfl (lv_at hl 0 rfl) ?_
    refine lv_aload_n hx hb dL_text_3 rfl (lv_at hl 2 rfl) ?_
    refine t_len C hg S hHs hT hn' ⟨by omega, by omega⟩ hl.1 (Nat.le_of_ble_eq_true rfl) ⟨by omega, by omega⟩ dL_text_4 (fun H locs S hHs hT => ?_)
    refine lv_icmp_ge (tgt := 65) hx hb dL_text_7 (by decide) (fun _ => ?_) (fun c => absurd (nI_le (by omega) (by omega)) c)
    exact kk σ k H locs ls S hT hl (by omega) (by omega) h3 (fun j hj => h4 j (by omega)) (fun o j _ _ => rfl)
  | succ n ih =>
    intro k σ H locs ls S hT hl hk hkn h3 h4 kk
    have hHs : gb g + 202 ≤ H.size := by have := hT.lt.1; omega
    refine lv_iload_n hx hb dL_text_2 rfl (lv_at hl 0 rfl) ?_
    refine lv_aload_n hx hb dL_text_3 rfl (lv_at hl 2 rfl) ?_
    refine t_len C hg S hHs hT hn' ⟨by omega, by omega⟩ hl.1 (Nat.le_of_ble_eq_true rfl) ⟨by omega, by omega⟩ dL_text_4 (fun H locs S hHs hT => ?_)
    refine lv_icmp_ge (tgt := 65) hx hb dL_text_7 (by decide) (fun c1 => ?_) (fun c1 => ?_)
    · have h1 : t.length ≤ k := (nI_leI (by omega) (by omega)).mp c1
      exact kk σ k H locs ls S hT hl (by omega) (by omega) h3 (fun j hj => h4 j (by omega)) (fun o j _ _ => rfl)
    have h1 : k < t.length := Nat.lt_of_not_le fun q => c1 (nI_le q (by omega))
    refine lv_aload_n hx hb dL_text_10 rfl (lv_at hl 1 rfl) ?_
    refine lv_aload_n hx hb dL_text_11 rfl (lv_at hl 2 rfl) ?_
    refine lv_iload_n hx hb dL_text_12 rfl (lv_at hl 0 rfl) ?_
    refine d_callS C S (n_four (L := L) (v := v) (σ := σ) (R := R) hg ha hA hn' (k := k) (by omega)) hT ⟨cd_L_four, ni_RL, ml_RL_125, st_L_four⟩ ⟨by decide, by decide⟩ rfl ⟨by omega, by omega⟩ hl.1 rfl (Nat.le_of_ble_eq_true rfl) ⟨by omega, by omega⟩ dL_text_13 (fun x9 s9 H1 locs1 hp S hz9 hT => ?_)
    obtain ⟨hx9, e9⟩ := hp
    subst hx9
    rw [e9] at S
    clear hz9 e9
    generalize H1 = H at S hT ⊢
    generalize locs1 = locs at S ⊢
    refine lv_aload_n hx hb dL_text_16 rfl (lv_at hl 2 rfl) ?_
    refine lv_iload_n hx hb dL_text_17 rfl (lv_at hl 0 rfl) ?_
    refine lv_iconst (v := nI 4) hx hb dL_text_18 (by decide) ?_
    refine lv_iadd hx hb dL_text_19 ?_
    rw [nI_add]
    refine d_callS C S (n_four (L := L) (v := v) (σ := σ) (R := R) hg ha hA hn' (k := (k + 4)) (by omega)) hT ⟨cd_L_four, ni_RL, ml_RL_125, st_L_four⟩ ⟨by decide, by decide⟩ rfl ⟨by omega, by omega⟩ hl.1 rfl (Nat.le_of_ble_eq_true rfl) ⟨by omega, by omega⟩ dL_text_20 (fun x9 s9 H1 locs1 hp S hz9 hT => ?_)
    obtain ⟨hx9, e9⟩ := hp
    subst hx9
    rw [e9] at S
    clear hz9 e9
    generalize H1 = H at S hT ⊢
    generalize locs1 = locs at S ⊢
    refine lv_aload_n hx hb dL_text_23 rfl (lv_at hl 2 rfl) ?_
    refine lv_iload_n hx hb dL_text_24 rfl (lv_at hl 0 rfl) ?_
    refine lv_bipush (v := nI 8) hx hb dL_text_25 (by decide) ?_
    refine lv_iadd hx hb dL_text_27 ?_
    rw [nI_add]
    refine d_callS C S (n_four (L := L) (v := v) (σ := σ) (R := R) hg ha hA hn' (k := (k + 8)) (by omega)) hT ⟨cd_L_four, ni_RL, ml_RL_125, st_L_four⟩ ⟨by decide, by decide⟩ rfl ⟨by omega, by omega⟩ hl.1 rfl (Nat.le_of_ble_eq_true rfl) ⟨by omega, by omega⟩ dL_text_28 (fun x9 s9 H1 locs1 hp S hz9 hT => ?_)
    obtain ⟨hx9, e9⟩ := hp
    subst hx9
    rw [e9] at S
    clear hz9 e9
    generalize H1 = H at S hT ⊢
    generalize locs1 = locs at S ⊢
    refine lv_aload_n hx hb dL_text_31 rfl (lv_at hl 2 rfl) ?_
    refine lv_iload_n hx hb dL_text_32 rfl (lv_at hl 0 rfl) ?_
    refine lv_bipush (v := nI 12) hx hb dL_text_33 (by decide) ?_
    refine lv_iadd hx hb dL_text_35 ?_
    rw [nI_add]
    refine d_callS C S (n_four (L := L) (v := v) (σ := σ) (R := R) hg ha hA hn' (k := (k + 12)) (by omega)) hT ⟨cd_L_four, ni_RL, ml_RL_125, st_L_four⟩ ⟨by decide, by decide⟩ rfl ⟨by omega, by omega⟩ hl.1 rfl (Nat.le_of_ble_eq_true rfl) ⟨by omega, by omega⟩ dL_text_36 (fun x9 s9 H1 locs1 hp S hz9 hT => ?_)
    obtain ⟨hx9, e9⟩ := hp
    subst hx9
    rw [e9] at S
    clear hz9 e9
    generalize H1 = H at S hT ⊢
    generalize locs1 = locs at S ⊢
    refine lv_aload_n hx hb dL_text_39 rfl (lv_at hl 2 rfl) ?_
    refine lv_iload_n hx hb dL_text_40 rfl (lv_at hl 0 rfl) ?_
    refine lv_bipush (v := nI 16) hx hb dL_text_41 (by decide) ?_
    refine lv_iadd hx hb dL_text_43 ?_
    rw [nI_add]
    refine d_callS C S (n_four (L := L) (v := v) (σ := σ) (R := R) hg ha hA hn' (k := (k + 16)) (by omega)) hT ⟨cd_L_four, ni_RL, ml_RL_125, st_L_four⟩ ⟨by decide, by decide⟩ rfl ⟨by omega, by omega⟩ hl.1 rfl (Nat.le_of_ble_eq_true rfl) ⟨by omega, by omega⟩ dL_text_44 (fun x9 s9 H1 locs1 hp S hz9 hT => ?_)
    obtain ⟨hx9, e9⟩ := hp
    subst hx9
    rw [e9] at S
    clear hz9 e9
    generalize H1 = H at S hT ⊢
    generalize locs1 = locs at S ⊢
    obtain ⟨σ', ha1, ha2, ha3, ha4⟩ := c_append hN hR hA (n := k) (by omega) h3
    refine d_callV C S KX11 hx1 (ok_X11_append (l := l) (g := g0 g) (L := L) ha1 hSh hx1) ⟨cd_X11_append, ni_RX11, ml_RL_131, in_X11_append, sl_X11_append⟩ ⟨by decide, by decide⟩ rfl ⟨by omega, by omega⟩ hl.1 rfl (Nat.le_of_ble_eq_true rfl) ⟨by omega, by omega⟩ dL_text_47 (fun x9 s9 H1 locs1 hp S hz hk9 => ?_)
    obtain ⟨rfl, rfl⟩ := hp
    have hT2 : TXt g a v t H1 := by
      obtain ⟨f, q1, q2⟩ := hT
      have l0 := (q1 0 _ rfl).lt
      have l1 := (q1 1 _ rfl).lt
      exact TXt.upz ⟨f, q1, q2⟩ ha hv hk9
    refine lv_iload_n hx hb dL_text_50 rfl (lv_at hl 0 rfl) ?_
    refine lv_bipush (v := nI 20) hx hb dL_text_51 (by decide) ?_
    refine lv_iadd hx hb dL_text_53 ?_
    rw [nI_add]
    refine lv_icmp_eq (tgt := 59) hx hb dL_text_54 (by decide) (fun _ => ?_) (fun c => absurd rfl c)
    refine lv_iinc (v := nI (k + 20)) (lv' := [(2, .int (nI (k + 20))), (0, .ref (ga g 1)), (1, .ref a)]) hx hb dL_text_59 hl (k := 0) rfl (nI_add k 20) (by decide) rfl (fun ls hl => ?_)
    refine lv_goto (tgt := 2) hx hb dL_text_62 (by decide) ?_
    refine ih (k + 20) σ' H1 locs1 ls S hT2 hl (by omega) (by omega) ha2 (fun j hj => ?_) (fun σ2 n2 H2 locs2 ls2 S hT hl g1 g2 g3 g4 g5 => kk σ2 n2 H2 locs2 ls2 S hT hl g1 g2 g3 g4 (fun o j q1 q2 => (g5 o j q1 q2).trans (ha4 o j q1 q2)))
    rw [ha3 j]
    by_cases q : k ≤ j ∧ j < k + 20
    · rw [if_pos q]
    · rw [if_neg q]
      exact h4 j (by omega)
end VTV
set_option maxHeartbeats 4000000 in
set_option maxRecDepth 100000 in
theorem n_text {l : Launch} {g : GL} {σ : SI} {R : Nat → Nat → Nat} {L : Nat → Nat → Int64} {a v : Nat} {t : List Nat} {s0 : Nat} (hg : gZ g = 1) (ha : gb g + 203 ≤ a) (hA : Asc t) (hv : gb g + 202 ≤ v) (hn : t.length ≤ 400) (hR : RO R s0) (hSh : ShR R) (h31 : σ 3 1 = nI 0) : Cfo l g 8 yL_text cL_text 3 (some .boolean) [.ref (ga g 1), .ref a] σ R L a v t (fun x σ' => x = some (.int 1) ∧ σ' 3 1 = nI t.length ∧ (∀ j, j < t.length → σ' 4 j = nI (t.getD j 0)) ∧ ∀ o j, o ≠ 4 → (o ≠ 3 ∨ j ≠ 1) → σ' o j = σ o j) := by
  refine Met.ofW (cc := cL_text) (maxL := 3) (ret := some .boolean) (by decide) rfl ?_
  intro p e s m args below meth c s₁ B hml hv
  obtain ⟨rfl, hE, hLo, hWd, hT⟩ := hv
  have hr : meth.sig.returnType = some .boolean := B.returns
  have C : Cx l g p s m meth c cL_text 3 RL := ⟨B.exec, B.bytes, hml, findClass_of_methodNamed B.named, hE, hLo, B.notSynchronized⟩
  have S : S2 g s σ R L s.heap [] := ⟨hWd, va_S.rf⟩
  have hx := C.1
  have hb := C.2.1
  have hl := lv_entry ([.ref (ga g 1), .ref a]) (n := 3) (Nat.le_of_ble_eq_true rfl)
  rw [lg_entry_eq]
  generalize (lg_sl ([.ref (ga g 1), .ref a]) ++ List.replicate (3 - (lg_sl ([.ref (ga g 1), .ref a])).length) Slot.unset).toArray = ls at hl ⊢
  have hl : lv_has ls 3 [(0, .ref (ga g 1)), (1, .ref a)] := hl
  generalize hH0 : s.heap = H at S hT ⊢
  generalize hlc : ([] : List Loc) = locs at S ⊢
  have hHs : gb g + 202 ≤ H.size := by have := hT.lt.1; omega
  generalize hRm : (headSpec [Cond.code yL_text cL_text 3 (some .boolean)] (rmd 8 0 0)).room = R0
  have hRf : R0.frames = 8 := by rw [← hRm]; rfl
  have hRl : R0.locals = 512 := by rw [← hRm]; rfl
  have hRc : R0.cells = 0 := by rw [← hRm]; rfl
  have hRs : R0.slots = 0 := by rw [← hRm]; rfl
  have hx1 : Ok 202 1 11 := ⟨by decide +kernel, by decide, by decide⟩
  refine lv_iconst (v := nI 0) hx hb dL_text_0 (by decide) ?_
  refine lv_istore_n (lv' := [(2, .int (nI 0)), (0, .ref (ga g 1)), (1, .ref a)]) hx hb dL_text_1 rfl hl (by decide) rfl (fun ls hl => ?_)
  refine n_textL (N := 2000) (Nat.le_refl _) hR hSh C hg ha hv hA hn (by omega) (by omega) ⟨by omega, by omega⟩ 20 0 σ H locs ls S hT hl (by omega) (by omega) h31 (fun j hj => by omega) (fun σ' n H locs ls S hT hl hn9 hn2 h3 h4 hfr => ?_)
  have hHs : gb g + 202 ≤ H.size := by have := hT.lt.1; omega
  refine lv_aload_n hx hb dL_text_65 rfl (lv_at hl 1 rfl) ?_
  refine lv_aload_n hx hb dL_text_66 rfl (lv_at hl 2 rfl) ?_
  refine t_len C hg S hHs hT (by omega) ⟨by omega, by omega⟩ hl.1 (Nat.le_of_ble_eq_true rfl) ⟨by omega, by omega⟩ dL_text_67 (fun H locs S hHs hT => ?_)
  have hc := c_truncate (N := 2000) (s := s0) (R := R) (σ := σ') hR hn2 hn9 h3
  refine d_callV C S KX11 hx1 (ok_X11_truncate (l := l) (g := g0 g) (L := L) hc hSh hx1) ⟨cd_X11_truncate, ni_RX11, ml_RL_135, in_X11_truncate, sl_X11_truncate⟩ ⟨by decide, by decide⟩ rfl ⟨by omega, by omega⟩ hl.1 rfl (Nat.le_of_ble_eq_true rfl) ⟨by omega, by omega⟩ dL_text_70 (fun x9 s9 H1 locs1 hp S hz hk9 => ?_)
  obtain ⟨rfl, rfl⟩ := hp
  have hT2 : TXt g a v t H1 := hT.upz ha hv hk9
  have S : S2 g s (up σ' 3 1 (nI t.length)) R L H1 locs1 := S
  change W p l e R0 s m _ below meth c H1 locs1 _ _ _ (F0 m _ ls (Value.int (1 : Int32) :: []))
  exact W.zret C.1 C.2.1 hr rfl (fun tt ht _ => ⟨⟨_, up σ' 3 1 (nI t.length), rfl, ⟨rfl, if_pos ⟨rfl, rfl⟩, fun j hj => (show up σ' 3 1 (nI t.length) 4 j = σ' 4 j from if_neg (by omega)).trans (h4 j hj), fun o j q1 q2 => (show up σ' 3 1 (nI t.length) o j = σ' o j from if_neg (by omega)).trans (hfr o j q1 q2)⟩, by rw [ht]; exact S.1, by rw [ht]; exact hT2⟩, S.2.F ht⟩) S.2.2.2 dL_text_73 C.2.2.2.2.2.2
