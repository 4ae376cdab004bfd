/-! ===== the planner's reader: whole lines, and all of them ===== -/
section VPL
variable {N s : Nat} {R : Nat → Nat → Nat} {σ : SI} {tx : List Nat}
theorem sk_kw {w : Nat} (hw : w < 10) (r : List Nat) : Sk (kwL w ++ r) (kwL w ++ r) := by
  refine ⟨Or.inl rfl, fun c r2 h => ?_⟩
  have hl := kw_let w hw
  have hn := kw_nn w hw
  cases hk : kwL w with
  | nil => rw [hk] at hn; exact absurd hn (by decide)
  | cons x xs =>
    rw [hk, List.cons_append] at h
    have e := (List.cons.inj h).1
    have := hl x (by rw [hk]; exact List.mem_cons_self)
    omega
set_option maxHeartbeats 4000000 in
theorem l_day (hN : 2000 ≤ N) (hR : RO R s) {a b : Nat} (ha : a ≤ b) (hb : b < 1300) {rest : List Nat} (h : At σ tx (kwL 5 ++ 32 :: (dec a ++ 32 :: (dec b ++ 59 :: rest)))) : ∃ σ', f_X5_parseLine N R σ 2 108 = some ((), σ') ∧ At σ' tx (59 :: rest) ∧ (σ' 108 12 = nI a ∧ σ' 108 13 = nI b) ∧ ∀ o j, o ≠ 3 ∨ j ≠ 2 → ¬ (o = 108 ∧ j = 12) → ¬ (o = 108 ∧ j = 13) → σ' o j = σ o j := by
  obtain ⟨b1, x1, B1, w1⟩ := t_wordN hN hR (w := 0) (by decide) h (sk_kw (w := 5) (by decide) _) (kw_let 5 (by decide)) (nr_c (c := 32) (by decide) _) (by decide)
  obtain ⟨b2, x2, B2, w2⟩ := t_wordN hN hR (w := 2) (by decide) B1 (sk_kw (w := 5) (by decide) _) (kw_let 5 (by decide)) (nr_c (c := 32) (by decide) _) (by decide)
  obtain ⟨b3, x3, B3, w3⟩ := t_wordN hN hR (w := 3) (by decide) B2 (sk_kw (w := 5) (by decide) _) (kw_let 5 (by decide)) (nr_c (c := 32) (by decide) _) (by decide)
  obtain ⟨b4, x4, B4, w4⟩ := t_word hN hR (w := 5) (by decide) B3 (sk_kw (w := 5) (by decide) _) (nr_c (c := 32) (by decide) _)
  obtain ⟨b5, x5, B5, w5⟩ := t_num hN hR (v := a) (by omega) B4 (sk_dec (by omega) _) (nr_c (c := 32) (by decide) _) (lo := 0) (hi := 1439) (by omega) (by omega) (by omega)
  obtain ⟨b6, y6⟩ : ∃ x, x = up b5 108 12 (nI a) := ⟨_, rfl⟩
  have z6 : b6 108 12 = nI a := by rw [y6]; exact if_pos ⟨rfl, rfl⟩
  have w6 : ∀ o j, o ≠ 108 ∨ j ≠ 12 → b6 o j = b5 o j := fun o j h => by rw [y6]; exact if_neg (by omega)
  have B6 : At b6 tx _ := B5.of (fun o j h => w6 o j (by omega))
  obtain ⟨b7, x7, B7, w7⟩ := t_num hN hR (v := b) (by omega) B6 (sk_dec (by omega) _) (nr_c (c := 59) (by decide) _) (lo := a) (hi := 1439) (by omega) (by omega) (by omega)
  obtain ⟨b8, y8⟩ : ∃ x, x = up b7 108 13 (nI b) := ⟨_, rfl⟩
  have z8 : b8 108 13 = nI b := by rw [y8]; exact if_pos ⟨rfl, rfl⟩
  have w8 : ∀ o j, o ≠ 108 ∨ j ≠ 13 → b8 o j = b7 o j := fun o j h => by rw [y8]; exact if_neg (by omega)
  have B8 : At b8 tx _ := B7.of (fun o j h => w8 o j (by omega))
  refine ⟨b8, ?_, B8, ⟨(by rw [w8 108 12 (by omega), w7 108 12 (by omega), z6]), (by rw [z8])⟩, fun o j h1 h2 h3 => by rw [w8 o j (by omega), w7 o j (by omega), w6 o j (by omega), w5 o j (by omega), w4 o j (by omega), w3 o j (by omega), w2 o j (by omega), w1 o j (by omega)]⟩
  unfold f_X5_parseLine
  rw [hR.r2_0, x1, bd_some, if_pos rfl, x2, bd_some, if_pos rfl, x3, bd_some, if_pos rfl]
  unfold f_X5_parseSetting
  rw [hR.r2_0, x4, bd_some, if_neg (show ¬ (1 : Int32) = 0 from by decide)]
  rw [show (0 : Int32) = nI 0 from rfl, show (1439 : Int32) = nI 1439 from rfl, x5, bd_some, sq_eq, ← y6, z6, x7, bd_some, sq_eq, ← y8, bd_some]
set_option maxHeartbeats 4000000 in
theorem l_step (hN : 2000 ≤ N) (hR : RO R s) {a : Nat} (ha : 1 ≤ a ∧ a ≤ 240) {rest : List Nat} (h : At σ tx (kwL 6 ++ 32 :: (dec a ++ 59 :: rest))) : ∃ σ', f_X5_parseLine N R σ 2 108 = some ((), σ') ∧ At σ' tx (59 :: rest) ∧ (σ' 108 14 = nI a) ∧ ∀ o j, o ≠ 3 ∨ j ≠ 2 → ¬ (o = 108 ∧ j = 14) → σ' o j = σ o j := by
  obtain ⟨b1, x1, B1, w1⟩ := t_wordN hN hR (w := 0) (by decide) h (sk_kw (w := 6) (by decide) _) (kw_let 6 (by decide)) (nr_c (c := 32) (by decide) _) (by decide)
  obtain ⟨b2, x2, B2, w2⟩ := t_wordN hN hR (w := 2) (by decide) B1 (sk_kw (w := 6) (by decide) _) (kw_let 6 (by decide)) (nr_c (c := 32) (by decide) _) (by decide)
  obtain ⟨b3, x3, B3, w3⟩ := t_wordN hN hR (w := 3) (by decide) B2 (sk_kw (w := 6) (by decide) _) (kw_let 6 (by decide)) (nr_c (c := 32) (by decide) _) (by decide)
  obtain ⟨b4, x4, B4, w4⟩ := t_wordN hN hR (w := 5) (by decide) B3 (sk_kw (w := 6) (by decide) _) (kw_let 6 (by decide)) (nr_c (c := 32) (by decide) _) (by decide)
  obtain ⟨b5, x5, B5, w5⟩ := t_word hN hR (w := 6) (by decide) B4 (sk_kw (w := 6) (by decide) _) (nr_c (c := 32) (by decide) _)
  obtain ⟨b6, x6, B6, w6⟩ := t_num hN hR (v := a) (by omega) B5 (sk_dec (by omega) _) (nr_c (c := 59) (by decide) _) (lo := 1) (hi := 240) (by omega) (by omega) (by omega)
  obtain ⟨b7, y7⟩ : ∃ x, x = up b6 108 14 (nI a) := ⟨_, rfl⟩
  have z7 : b7 108 14 = nI a := by rw [y7]; exact if_pos ⟨rfl, rfl⟩
  have w7 : ∀ o j, o ≠ 108 ∨ j ≠ 14 → b7 o j = b6 o j := fun o j h => by rw [y7]; exact if_neg (by omega)
  have B7 : At b7 tx _ := B6.of (fun o j h => w7 o j (by omega))
  refine ⟨b7, ?_, B7, (by rw [z7]), fun o j h1 h2 => by rw [w7 o j (by omega), w6 o j (by omega), w5 o j (by omega), w4 o j (by omega), w3 o j (by omega), w2 o j (by omega), w1 o j (by omega)]⟩
  unfold f_X5_parseLine
  rw [hR.r2_0, x1, bd_some, if_pos rfl, x2, bd_some, if_pos rfl, x3, bd_some, if_pos rfl]
  unfold f_X5_parseSetting
  rw [hR.r2_0, x4, bd_some, if_pos rfl, x5, bd_some, if_neg (show ¬ (1 : Int32) = 0 from by decide)]
  rw [show (1 : Int32) = nI 1 from rfl, show (240 : Int32) = nI 240 from rfl, x6, bd_some, sq_eq, ← y7, bd_some]
set_option maxHeartbeats 4000000 in
theorem l_close (hN : 2000 ≤ N) (hR : RO R s) {a b : Nat} (ha : a ≤ 60) (hb : b ≤ 60) {rest : List Nat} (h : At σ tx (kwL 7 ++ 32 :: (dec a ++ 32 :: (dec b ++ 59 :: rest)))) : ∃ σ', f_X5_parseLine N R σ 2 108 = some ((), σ') ∧ At σ' tx (59 :: rest) ∧ (σ' 108 15 = nI a ∧ σ' 108 16 = nI b) ∧ ∀ o j, o ≠ 3 ∨ j ≠ 2 → ¬ (o = 108 ∧ j = 15) → ¬ (o = 108 ∧ j = 16) → σ' o j = σ o j := by
  obtain ⟨b1, x1, B1, w1⟩ := t_wordN hN hR (w := 0) (by decide) h (sk_kw (w := 7) (by decide) _) (kw_let 7 (by decide)) (nr_c (c := 32) (by decide) _) (by decide)
  obtain ⟨b2, x2, B2, w2⟩ := t_wordN hN hR (w := 2) (by decide) B1 (sk_kw (w := 7) (by decide) _) (kw_let 7 (by decide)) (nr_c (c := 32) (by decide) _) (by decide)
  obtain ⟨b3, x3, B3, w3⟩ := t_wordN hN hR (w := 3) (by decide) B2 (sk_kw (w := 7) (by decide) _) (kw_let 7 (by decide)) (nr_c (c := 32) (by decide) _) (by decide)
  obtain ⟨b4, x4, B4, w4⟩ := t_wordN hN hR (w := 5) (by decide) B3 (sk_kw (w := 7) (by decide) _) (kw_let 7 (by decide)) (nr_c (c := 32) (by decide) _) (by decide)
  obtain ⟨b5, x5, B5, w5⟩ := t_wordN hN hR (w := 6) (by decide) B4 (sk_kw (w := 7) (by decide) _) (kw_let 7 (by decide)) (nr_c (c := 32) (by decide) _) (by decide)
  obtain ⟨b6, x6, B6, w6⟩ := t_word hN hR (w := 7) (by decide) B5 (sk_kw (w := 7) (by decide) _) (nr_c (c := 32) (by decide) _)
  obtain ⟨b7, x7, B7, w7⟩ := t_num hN hR (v := a) (by omega) B6 (sk_dec (by omega) _) (nr_c (c := 32) (by decide) _) (lo := 0) (hi := 60) (by omega) (by omega) (by omega)
  obtain ⟨b8, y8⟩ : ∃ x, x = up b7 108 15 (nI a) := ⟨_, rfl⟩
  have z8 : b8 108 15 = nI a := by rw [y8]; exact if_pos ⟨rfl, rfl⟩
  have w8 : ∀ o j, o ≠ 108 ∨ j ≠ 15 → b8 o j = b7 o j := fun o j h => by rw [y8]; exact if_neg (by omega)
  have B8 : At b8 tx _ := B7.of (fun o j h => w8 o j (by omega))
  obtain ⟨b9, x9, B9, w9⟩ := t_num hN hR (v := b) (by omega) B8 (sk_dec (by omega) _) (nr_c (c := 59) (by decide) _) (lo := 0) (hi := 60) (by omega) (by omega) (by omega)
  obtain ⟨b10, y10⟩ : ∃ x, x = up b9 108 16 (nI b) := ⟨_, rfl⟩
  have z10 : b10 108 16 = nI b := by rw [y10]; exact if_pos ⟨rfl, rfl⟩
  have w10 : ∀ o j, o ≠ 108 ∨ j ≠ 16 → b10 o j = b9 o j := fun o j h => by rw [y10]; exact if_neg (by omega)
  have B10 : At b10 tx _ := B9.of (fun o j h => w10 o j (by omega))
  refine ⟨b10, ?_, B10, ⟨(by rw [w10 108 15 (by omega), w9 108 15 (by omega), z8]), (by rw [z10])⟩, fun o j h1 h2 h3 => by rw [w10 o j (by omega), w9 o j (by omega), w8 o j (by omega), w7 o j (by omega), w6 o j (by omega), w5 o j (by omega), w4 o j (by omega), w3 o j (by omega), w2 o j (by omega), w1 o j (by omega)]⟩
  unfold f_X5_parseLine
  rw [hR.r2_0, x1, bd_some, if_pos rfl, x2, bd_some, if_pos rfl, x3, bd_some, if_pos rfl]
  unfold f_X5_parseSetting
  rw [hR.r2_0, x4, bd_some, if_pos rfl, x5, bd_some, if_pos rfl, x6, bd_some, if_neg (show ¬ (1 : Int32) = 0 from by decide)]
  rw [show (0 : Int32) = nI 0 from rfl, show (60 : Int32) = nI 60 from rfl, x7, bd_some, sq_eq, ← y8, x9, bd_some, sq_eq, ← y10, bd_some]
set_option maxHeartbeats 4000000 in
theorem l_space (hN : 2000 ≤ N) (hR : RO R s) {a : Nat} (ha : a ≤ 240) {rest : List Nat} (h : At σ tx (kwL 8 ++ 32 :: (dec a ++ 59 :: rest))) : ∃ σ', f_X5_parseLine N R σ 2 108 = some ((), σ') ∧ At σ' tx (59 :: rest) ∧ (σ' 108 17 = nI a) ∧ ∀ o j, o ≠ 3 ∨ j ≠ 2 → ¬ (o = 108 ∧ j = 17) → σ' o j = σ o j := by
  obtain ⟨b1, x1, B1, w1⟩ := t_wordN hN hR (w := 0) (by decide) h (sk_kw (w := 8) (by decide) _) (kw_let 8 (by decide)) (nr_c (c := 32) (by decide) _) (by decide)
  obtain ⟨b2, x2, B2, w2⟩ := t_wordN hN hR (w := 2) (by decide) B1 (sk_kw (w := 8) (by decide) _) (kw_let 8 (by decide)) (nr_c (c := 32) (by decide) _) (by decide)
  obtain ⟨b3, x3, B3, w3⟩ := t_wordN hN hR (w := 3) (by decide) B2 (sk_kw (w := 8) (by decide) _) (kw_let 8 (by decide)) (nr_c (c := 32) (by decide) _) (by decide)
  obtain ⟨b4, x4, B4, w4⟩ := t_wordN hN hR (w := 5) (by decide) B3 (sk_kw (w := 8) (by decide) _) (kw_let 8 (by decide)) (nr_c (c := 32) (by decide) _) (by decide)
  obtain ⟨b5, x5, B5, w5⟩ := t_wordN hN hR (w := 6) (by decide) B4 (sk_kw (w := 8) (by decide) _) (kw_let 8 (by decide)) (nr_c (c := 32) (by decide) _) (by decide)
  obtain ⟨b6, x6, B6, w6⟩ := t_wordN hN hR (w := 7) (by decide) B5 (sk_kw (w := 8) (by decide) _) (kw_let 8 (by decide)) (nr_c (c := 32) (by decide) _) (by decide)
  obtain ⟨b7, x7, B7, w7⟩ := t_word hN hR (w := 8) (by decide) B6 (sk_kw (w := 8) (by decide) _) (nr_c (c := 32) (by decide) _)
  obtain ⟨b8, x8, B8, w8⟩ := t_num hN hR (v := a) (by omega) B7 (sk_dec (by omega) _) (nr_c (c := 59) (by decide) _) (lo := 0) (hi := 240) (by omega) (by omega) (by omega)
  obtain ⟨b9, y9⟩ : ∃ x, x = up b8 108 17 (nI a) := ⟨_, rfl⟩
  have z9 : b9 108 17 = nI a := by rw [y9]; exact if_pos ⟨rfl, rfl⟩
  have w9 : ∀ o j, o ≠ 108 ∨ j ≠ 17 → b9 o j = b8 o j := fun o j h => by rw [y9]; exact if_neg (by omega)
  have B9 : At b9 tx _ := B8.of (fun o j h => w9 o j (by omega))
  refine ⟨b9, ?_, B9, (by rw [z9]), fun o j h1 h2 => by rw [w9 o j (by omega), w8 o j (by omega), w7 o j (by omega), w6 o j (by omega), w5 o j (by omega), w4 o j (by omega), w3 o j (by omega), w2 o j (by omega), w1 o j (by omega)]⟩
  unfold f_X5_parseLine
  rw [hR.r2_0, x1, bd_some, if_pos rfl, x2, bd_some, if_pos rfl, x3, bd_some, if_pos rfl]
  unfold f_X5_parseSetting
  rw [hR.r2_0, x4, bd_some, if_pos rfl, x5, bd_some, if_pos rfl, x6, bd_some, if_pos rfl, x7, bd_some, if_neg (show ¬ (1 : Int32) = 0 from by decide)]
  rw [show (0 : Int32) = nI 0 from rfl, show (240 : Int32) = nI 240 from rfl, x8, bd_some, sq_eq, ← y9, bd_some]
set_option maxHeartbeats 4000000 in
theorem l_wind (hN : 2000 ≤ N) (hR : RO R s) {w : WDt} (hw : WdOk w) {rest : List Nat} (h : At σ tx (kwL 9 ++ 32 :: (dec w.1 ++ 32 :: (dec w.2.1 ++ 32 :: (dec w.2.2 ++ 59 :: rest))))) : ∃ σ', f_X5_parseLine N R σ 2 108 = some ((), σ') ∧ At σ' tx (59 :: rest) ∧ (∀ h, σ' 116 h = if w.1 = h then nI w.2.1 else σ 116 h) ∧ (∀ h, σ' 117 h = if w.1 = h then nI w.2.2 else σ 117 h) ∧ ∀ o j, o ≠ 3 ∨ j ≠ 2 → o ≠ 116 → o ≠ 117 → σ' o j = σ o j := by
  obtain ⟨w1, w2, w3, w4⟩ := hw
  have hkk : w.1 < 24 := by omega
  obtain ⟨b11, x11, B11, w11⟩ := t_wordN hN hR (w := 0) (by decide) h (sk_kw (w := 9) (by decide) _) (kw_let 9 (by decide)) (nr_c (c := 32) (by decide) _) (by decide)
  obtain ⟨b12, x12, B12, w12⟩ := t_wordN hN hR (w := 2) (by decide) B11 (sk_kw (w := 9) (by decide) _) (kw_let 9 (by decide)) (nr_c (c := 32) (by decide) _) (by decide)
  obtain ⟨b13, x13, B13, w13⟩ := t_wordN hN hR (w := 3) (by decide) B12 (sk_kw (w := 9) (by decide) _) (kw_let 9 (by decide)) (nr_c (c := 32) (by decide) _) (by decide)
  obtain ⟨b14, x14, B14, w14⟩ := t_wordN hN hR (w := 5) (by decide) B13 (sk_kw (w := 9) (by decide) _) (kw_let 9 (by decide)) (nr_c (c := 32) (by decide) _) (by decide)
  obtain ⟨b15, x15, B15, w15⟩ := t_wordN hN hR (w := 6) (by decide) B14 (sk_kw (w := 9) (by decide) _) (kw_let 9 (by decide)) (nr_c (c := 32) (by decide) _) (by decide)
  obtain ⟨b16, x16, B16, w16⟩ := t_wordN hN hR (w := 7) (by decide) B15 (sk_kw (w := 9) (by decide) _) (kw_let 9 (by decide)) (nr_c (c := 32) (by decide) _) (by decide)
  obtain ⟨b17, x17, B17, w17⟩ := t_wordN hN hR (w := 8) (by decide) B16 (sk_kw (w := 9) (by decide) _) (kw_let 9 (by decide)) (nr_c (c := 32) (by decide) _) (by decide)
  obtain ⟨b18, x18, B18, w18⟩ := t_word hN hR (w := 9) (by decide) B17 (sk_kw (w := 9) (by decide) _) (nr_c (c := 32) (by decide) _)
  obtain ⟨b19, x19, B19, w19⟩ := t_num hN hR (v := w.1) (by omega) B18 (sk_dec (by omega) _) (nr_c (c := 32) (by decide) _) (lo := 0) (hi := 23) (by omega) (by omega) (by omega)
  obtain ⟨b20, x20, B20, w20⟩ := t_num hN hR (v := w.2.1) (by omega) B19 (sk_dec (by omega) _) (nr_c (c := 32) (by decide) _) (lo := 0) (hi := 7) (by omega) (by omega) (by omega)
  obtain ⟨b21, x21, B21, w21⟩ := t_num hN hR (v := w.2.2) (by omega) B20 (sk_dec (by omega) _) (nr_c (c := 59) (by decide) _) (lo := 0) (hi := 20) (by omega) (by omega) (by omega)
  obtain ⟨c1, y1⟩ : ∃ x, x = up b21 116 w.1 (nI w.2.1) := ⟨_, rfl⟩
  obtain ⟨c2, y2⟩ : ∃ x, x = up c1 117 w.1 (nI w.2.2) := ⟨_, rfl⟩
  have f1 : ∀ o j, o ≠ 116 ∨ j ≠ w.1 → c1 o j = b21 o j := fun o j h => by rw [y1]; exact if_neg (by omega)
  have f2 : ∀ o j, o ≠ 117 ∨ j ≠ w.1 → c2 o j = c1 o j := fun o j h => by rw [y2]; exact if_neg (by omega)
  refine ⟨c2, ?_, B21.of (fun o j h => by rw [f2 o j (by omega), f1 o j (by omega)]), fun q => ?_, fun q => ?_, fun o j h1 h2 h3 => by rw [f2 o j (by omega), f1 o j (by omega), w21 o j (by omega), w20 o j (by omega), w19 o j (by omega), w18 o j (by omega), w17 o j (by omega), w16 o j (by omega), w15 o j (by omega), w14 o j (by omega), w13 o j (by omega), w12 o j (by omega), w11 o j (by omega)]⟩
  · unfold f_X5_parseLine
    rw [hR.r2_0, x11, bd_some, if_pos rfl, x12, bd_some, if_pos rfl, x13, bd_some, if_pos rfl]
    unfold f_X5_parseSetting
    rw [hR.r2_0, x14, bd_some, if_pos rfl, x15, bd_some, if_pos rfl, x16, bd_some, if_pos rfl, x17, bd_some, if_pos rfl, x18, bd_some, if_neg (show ¬ (1 : Int32) = 0 from by decide)]
    unfold f_X5_parseWind
    rw [hR.r2_0, show (23 : Int32) = nI 23 from rfl, show (7 : Int32) = nI 7 from rfl, show (20 : Int32) = nI 20 from rfl, show f_X10_takeNumber N R b18 3 0 (nI 23) = _ from x19, bd_some, show f_X10_takeNumber N R b19 3 0 (nI 7) = _ from x20, bd_some, show f_X10_takeNumber N R b20 3 0 (nI 20) = _ from x21, bd_some, t_failed B21, bd_some, if_pos rfl, if_neg (nI_pos (by omega)), if_neg (show ¬ (24 : Int32) ≤ nI w.1 from nI_ge (b := 24) hkk (by decide)), ck_nI hkk (by decide), D_si hR 7 (by decide), D_si hR 8 (by decide), nI_clamp (by omega), sq_eq, ← y1, ck_nI hkk (by decide), sq_eq, ← y2, bd_some, bd_some]
  · by_cases e : w.1 = q
    · rw [if_pos e, f2 116 q (by omega), y1, ← e]
      exact if_pos ⟨rfl, rfl⟩
    · rw [if_neg e, f2 116 q (by omega), f1 116 q (by omega), w21 116 q (by omega), w20 116 q (by omega), w19 116 q (by omega), w18 116 q (by omega), w17 116 q (by omega), w16 116 q (by omega), w15 116 q (by omega), w14 116 q (by omega), w13 116 q (by omega), w12 116 q (by omega), w11 116 q (by omega)]
  · by_cases e : w.1 = q
    · rw [if_pos e, y2, ← e]
      exact if_pos ⟨rfl, rfl⟩
    · rw [if_neg e, f2 117 q (by omega), f1 117 q (by omega), w21 117 q (by omega), w20 117 q (by omega), w19 117 q (by omega), w18 117 q (by omega), w17 117 q (by omega), w16 117 q (by omega), w15 117 q (by omega), w14 117 q (by omega), w13 117 q (by omega), w12 117 q (by omega), w11 117 q (by omega)]
set_option maxHeartbeats 4000000 in
theorem l_near (hN : 2000 ≤ N) (hR : RO R s) {d : NDt} (hd : NdOk d) {k : Nat} (hk : k < 2) {rest : List Nat} (h : At σ tx (kwL 0 ++ 32 :: (110 + k) :: 32 :: (dec d.1 ++ 32 :: (dec d.2.1 ++ 32 :: (dec d.2.2.1 ++ (prQ d.2.2.2 ++ 59 :: rest)))))) (h9 : σ 108 9 = nI k) (hnm : ∀ j, j < k → σ 112 j = nI (14 + j)) : ∃ σ', f_X5_parseLine N R σ 2 108 = some ((), σ') ∧ At σ' tx (59 :: rest) ∧ NC σ' k d ∧ σ' 108 9 = nI (k + 1) ∧ ∀ o j, o ≠ 3 ∨ j ≠ 2 → ¬ (o = 112 ∧ j = k) → ¬ (o = 108 ∧ j = 9) → o ≠ 118 + 3 * k → o ≠ 119 + 3 * k → o ≠ 120 + 3 * k → σ' o j = σ o j := by
  obtain ⟨b1, x1, B1, w1⟩ := t_word hN hR (w := 0) (by decide) h (sk_kw (w := 0) (by decide) _) (nr_c (c := 32) (by decide) _)
  obtain ⟨t, f, B, p1, p2, p3⟩ := c_near hN hR hd hk B1 (by rw [w1 108 9 (by omega)]; exact h9) (fun j hj => by rw [w1 112 j (by omega)]; exact hnm j hj) (σ 3 2)
  refine ⟨t, ?_, B, p1, p2, fun o j g0 g1 g2 g3 g4 g5 => by rw [p3 o j g0 g1 g2 g3 g4 g5, w1 o j (by omega)]⟩
  unfold f_X5_parseLine
  rw [hR.r2_0, x1, bd_some, if_neg (show ¬ (1 : Int32) = 0 from by decide), f, bd_some]
set_option maxHeartbeats 4000000 in
theorem l_road (hN : 2000 ≤ N) (hR : RO R s) {d : RDt} (hd : RdOk d) {k : Nat} (hk : k < 2) {rest : List Nat} (h : At σ tx (kwL 2 ++ 32 :: (114 + k) :: 32 :: (dec d.1 ++ 32 :: (dec d.2.1 ++ 32 :: (dec d.2.2.1 ++ 32 :: (dec d.2.2.2 ++ 59 :: rest)))))) (h9 : σ 108 10 = nI k) (hnm : ∀ j, j < k → σ 113 j = nI (18 + j)) : ∃ σ', f_X5_parseLine N R σ 2 108 = some ((), σ') ∧ At σ' tx (59 :: rest) ∧ RC σ' k d ∧ σ' 108 10 = nI (k + 1) ∧ ∀ o j, o ≠ 3 ∨ j ≠ 2 → ¬ (o = 113 ∧ j = k) → ¬ (o = 108 ∧ j = 10) → o ≠ 142 + k → σ' o j = σ o j := by
  obtain ⟨b1, x1, B1, w1⟩ := t_wordN hN hR (w := 0) (by decide) h (sk_kw (w := 2) (by decide) _) (kw_let 2 (by decide)) (nr_c (c := 32) (by decide) _) (by decide)
  obtain ⟨b2, x2, B2, w2⟩ := t_word hN hR (w := 2) (by decide) B1 (sk_kw (w := 2) (by decide) _) (nr_c (c := 32) (by decide) _)
  obtain ⟨t, f, B, p1, p2, p3⟩ := c_road hN hR hd hk B2 (by rw [w2 108 10 (by omega), w1 108 10 (by omega)]; exact h9) (fun j hj => by rw [w2 113 j (by omega), w1 113 j (by omega)]; exact hnm j hj) (σ 3 2)
  refine ⟨t, ?_, B, p1, p2, fun o j g0 g1 g2 g3 => by rw [p3 o j g0 g1 g2 g3, w2 o j (by omega), w1 o j (by omega)]⟩
  unfold f_X5_parseLine
  rw [hR.r2_0, x1, bd_some, if_pos rfl, x2, bd_some, if_neg (show ¬ (1 : Int32) = 0 from by decide), f, bd_some]
set_option maxHeartbeats 4000000 in
theorem l_blast (hN : 2000 ≤ N) (hR : RO R s) {d : BDt} (hd : BdOk d) {k : Nat} (hk : k < 3) {rest : List Nat} (h : At σ tx (kwL 3 ++ 32 :: (98 + k) :: 32 :: (dec d.1 ++ 32 :: (dec d.2.1 ++ 32 :: (dec d.2.2.1 ++ (prC d.2.2.2 ++ 59 :: rest)))))) (h9 : σ 108 11 = nI k) (hnm : ∀ j, j < k → σ 114 j = nI (2 + j)) : ∃ σ', f_X5_parseLine N R σ 2 108 = some ((), σ') ∧ At σ' tx (59 :: rest) ∧ BC σ' k d ∧ σ' 108 11 = nI (k + 1) ∧ ∀ o j, o ≠ 3 ∨ j ≠ 2 → ¬ (o = 114 ∧ j = k) → ¬ (o = 108 ∧ j = 11) → o ≠ 148 + 5 * k → o ≠ 149 + 5 * k → o ≠ 150 + 5 * k → σ' o j = σ o j := by
  obtain ⟨b1, x1, B1, w1⟩ := t_wordN hN hR (w := 0) (by decide) h (sk_kw (w := 3) (by decide) _) (kw_let 3 (by decide)) (nr_c (c := 32) (by decide) _) (by decide)
  obtain ⟨b2, x2, B2, w2⟩ := t_wordN hN hR (w := 2) (by decide) B1 (sk_kw (w := 3) (by decide) _) (kw_let 3 (by decide)) (nr_c (c := 32) (by decide) _) (by decide)
  obtain ⟨b3, x3, B3, w3⟩ := t_word hN hR (w := 3) (by decide) B2 (sk_kw (w := 3) (by decide) _) (nr_c (c := 32) (by decide) _)
  obtain ⟨t, f, B, p1, p2, p3⟩ := c_blast hN hR hd hk B3 (by rw [w3 108 11 (by omega), w2 108 11 (by omega), w1 108 11 (by omega)]; exact h9) (fun j hj => by rw [w3 114 j (by omega), w2 114 j (by omega), w1 114 j (by omega)]; exact hnm j hj) (σ 3 2)
  refine ⟨t, ?_, B, p1, p2, fun o j g0 g1 g2 g3 g4 g5 => by rw [p3 o j g0 g1 g2 g3 g4 g5, w3 o j (by omega), w2 o j (by omega), w1 o j (by omega)]⟩
  unfold f_X5_parseLine
  rw [hR.r2_0, x1, bd_some, if_pos rfl, x2, bd_some, if_pos rfl, x3, bd_some, if_neg (show ¬ (1 : Int32) = 0 from by decide), f, bd_some]
set_option maxHeartbeats 4000000 in
theorem p_step (hN : 2000 ≤ N) (hR : RO R s) {i n : Nat} (hi : i ≤ 800) {c : Nat} {r rest : List Nat} (h : At σ tx (c :: r)) (hr : NSp (c :: r)) {σ' : SI} (hl : f_X5_parseLine N R σ 2 108 = some ((), σ')) (h' : At σ' tx (59 :: rest)) : ∃ σ'', f_X5_parse_13 N R (n + 1) σ 2 108 (nI i) = f_X5_parse_13 N R n σ'' 2 108 (nI (i + 1)) ∧ At σ'' tx rest ∧ Mv σ' σ'' := by
  obtain ⟨t, f, B, q⟩ := t_semi hN hR h'
  refine ⟨t, ?_, B, q⟩
  rw [f_X5_parse_13, if_neg (show ¬ (800 : Int32) < nI i from nI_nlt (a := 800) hi (by omega)), hR.r2_0, t_failed h, bd_some, if_pos rfl, t_endF hN hR h hr, bd_some, if_pos rfl, hl, bd_some, f, bd_some, t_need 1 (by decide), bd_some, nI_1]
theorem p_end (hN : 2000 ≤ N) (hR : RO R s) {i n : Nat} (hi : i ≤ 800) (h : At σ tx []) : f_X5_parse_13 N R (n + 1) σ 2 108 (nI i) = some (1, σ) := by
  rw [f_X5_parse_13, if_neg (show ¬ (800 : Int32) < nI i from nI_nlt (a := 800) hi (by omega)), hR.r2_0, t_failed h, bd_some, if_pos rfl, t_endT hN hR h, bd_some, if_neg (by decide)]
  unfold f_X5_parse_65
  rw [hR.r2_0, t_failed h, bd_some, if_pos rfl]
theorem prN_eq (k : Nat) (d : NDt) (rest : List Nat) : prN k d ++ rest = kwL 0 ++ 32 :: (110 + k) :: 32 :: (dec d.1 ++ 32 :: (dec d.2.1 ++ 32 :: (dec d.2.2.1 ++ (prQ d.2.2.2 ++ 59 :: rest)))) := by
  unfold prN
  simp only [List.append_assoc]
  rfl
theorem prR_eq (k : Nat) (d : RDt) (rest : List Nat) : prR k d ++ rest = kwL 2 ++ 32 :: (114 + k) :: 32 :: (dec d.1 ++ 32 :: (dec d.2.1 ++ 32 :: (dec d.2.2.1 ++ 32 :: (dec d.2.2.2 ++ 59 :: rest)))) := by
  unfold prR
  simp only [List.append_assoc]
  rfl
theorem prB_eq (k : Nat) (d : BDt) (rest : List Nat) : prB k d ++ rest = kwL 3 ++ 32 :: (98 + k) :: 32 :: (dec d.1 ++ 32 :: (dec d.2.1 ++ 32 :: (dec d.2.2.1 ++ (prC d.2.2.2 ++ 59 :: rest)))) := by
  unfold prB
  simp only [List.append_assoc]
  rfl
theorem prW_eq (w : WDt) (rest : List Nat) : prW w ++ rest = kwL 9 ++ 32 :: (dec w.1 ++ 32 :: (dec w.2.1 ++ 32 :: (dec w.2.2 ++ 59 :: rest))) := by
  unfold prW
  simp only [List.append_assoc]
  rfl
theorem prS_eq (d : SDt) (rest : List Nat) : prS d ++ rest = kwL 5 ++ 32 :: (dec d.1 ++ 32 :: (dec d.2.1 ++ 59 :: (kwL 6 ++ 32 :: (dec d.2.2.1 ++ 59 :: (kwL 7 ++ 32 :: (dec d.2.2.2.1 ++ 32 :: (dec d.2.2.2.2.1 ++ 59 :: (kwL 8 ++ 32 :: (dec d.2.2.2.2.2 ++ 59 :: rest))))))))) := by
  unfold prS
  simp only [List.append_assoc]
  rfl

set_option maxHeartbeats 4000000 in
theorem p_near (hN : 2000 ≤ N) (hR : RO R s) {rest : List Nat} : ∀ (ds : List NDt) (k i m : Nat) (σ : SI), (∀ d ∈ ds, NdOk d) → k + ds.length ≤ 2 → i + ds.length ≤ 700 → At σ tx (prNs k ds ++ rest) → σ 108 9 = nI k → (∀ j, j < k → σ 112 j = nI (14 + j)) → ∃ σ', f_X5_parse_13 N R (m + ds.length) σ 2 108 (nI i) = f_X5_parse_13 N R m σ' 2 108 (nI (i + ds.length)) ∧ At σ' tx rest ∧ σ' 108 9 = nI (k + ds.length) ∧ (∀ j, j < ds.length → NC σ' (k + j) (ds.getD j (0, 0, 0, none))) ∧ ∀ o j, o ≠ 3 ∨ j ≠ 2 → ¬ (o = 112 ∧ k ≤ j) → ¬ (o = 108 ∧ j = 9) → ¬ (118 + 3 * k ≤ o ∧ o ≤ 123) → σ' o j = σ o j := by
  intro ds
  induction ds with
  | nil =>
    intro k i m σ hd hk hi h hc hn
    exact ⟨σ, rfl, h, hc, fun j hj => absurd hj (Nat.not_lt_zero j), fun o j _ _ _ _ => rfl⟩
  | cons d ds ih =>
    intro k i m σ hd hk hi h hc hn
    rw [List.length_cons] at hk hi
    have h0 : At σ tx (prN k d ++ (prNs (k + 1) ds ++ rest)) := by
      have e : prNs k (d :: ds) ++ rest = prN k d ++ (prNs (k + 1) ds ++ rest) := List.append_assoc _ _ _
      rw [← e]
      exact h
    rw [prN_eq] at h0
    obtain ⟨t1, f1, A1, g1, g2, g3⟩ := l_near hN hR (hd d List.mem_cons_self) (by omega) h0 hc hn
    obtain ⟨t2, f2, A2, m2⟩ := p_step (n := m + ds.length) (i := i) hN hR (by omega) (c := 110) (r := _) h0 (nsp_c (by decide) _) f1 A1
    have hnm : ∀ j, j < k + 1 → t2 112 j = nI (14 + j) := by
      intro j hj
      rw [m2 112 j (by omega)]
      by_cases q : j = k
      · rw [q]
        exact g1.1
      · rw [g3 112 j (by omega) (by omega) (by omega) (by omega) (by omega) (by omega)]
        exact hn j (by omega)
    obtain ⟨t3, f3, A3, h1, h2, h3⟩ := ih (k + 1) (i + 1) m t2 (fun x hx => hd x (List.mem_cons_of_mem _ hx)) (by omega) (by omega) A2 ((m2 108 9 (by omega)).trans g2) hnm
    refine ⟨t3, ?_, A3, by rw [h1, List.length_cons]; congr 1; omega, fun j hj => ?_, fun o j q0 q1 q2 q3 => by rw [h3 o j (by omega) (by omega) (by omega) (by omega), m2 o j (by omega), g3 o j (by omega) (by omega) (by omega) (by omega) (by omega) (by omega)]⟩
    · rw [List.length_cons, show m + (ds.length + 1) = m + ds.length + 1 by omega, f2, f3, show i + 1 + ds.length = i + (ds.length + 1) by omega]
    · match j, hj with
      | 0, _ =>
        have q : ∀ o j, (o = 112 ∧ j = k) ∨ o = 118 + 3 * k ∨ o = 119 + 3 * k ∨ o = 120 + 3 * k → t3 o j = t1 o j := fun o j hq => (h3 o j (by omega) (by omega) (by omega) (by omega)).trans (m2 o j (by omega))
        exact ⟨(q _ _ (by omega)).trans g1.1, (q _ _ (by omega)).trans g1.2.1, (q _ _ (by omega)).trans g1.2.2.1, (q _ _ (by omega)).trans g1.2.2.2.1, (q _ _ (by omega)).trans g1.2.2.2.2.1, fun x hx => ⟨(q _ _ (by omega)).trans (g1.2.2.2.2.2 x hx).1, (q _ _ (by omega)).trans (g1.2.2.2.2.2 x hx).2⟩⟩
      | j + 1, hj =>
        have := h2 j (by rw [List.length_cons] at hj; omega)
        rw [show k + (j + 1) = k + 1 + j by omega]
        exact this
set_option maxHeartbeats 4000000 in
theorem p_road (hN : 2000 ≤ N) (hR : RO R s) {rest : List Nat} : ∀ (ds : List RDt) (k i m : Nat) (σ : SI), (∀ d ∈ ds, RdOk d) → k + ds.length ≤ 2 → i + ds.length ≤ 700 → At σ tx (prRs k ds ++ rest) → σ 108 10 = nI k → (∀ j, j < k → σ 113 j = nI (18 + j)) → ∃ σ', f_X5_parse_13 N R (m + ds.length) σ 2 108 (nI i) = f_X5_parse_13 N R m σ' 2 108 (nI (i + ds.length)) ∧ At σ' tx rest ∧ σ' 108 10 = nI (k + ds.length) ∧ (∀ j, j < ds.length → RC σ' (k + j) (ds.getD j (0, 0, 0, 0))) ∧ ∀ o j, o ≠ 3 ∨ j ≠ 2 → ¬ (o = 113 ∧ k ≤ j) → ¬ (o = 108 ∧ j = 10) → ¬ (142 + k ≤ o ∧ o ≤ 143) → σ' o j = σ o j := by
  intro ds
  induction ds with
  | nil =>
    intro k i m σ hd hk hi h hc hn
    exact ⟨σ, rfl, h, hc, fun j hj => absurd hj (Nat.not_lt_zero j), fun o j _ _ _ _ => rfl⟩
  | cons d ds ih =>
    intro k i m σ hd hk hi h hc hn
    rw [List.length_cons] at hk hi
    have h0 : At σ tx (prR k d ++ (prRs (k + 1) ds ++ rest)) := by
      have e : prRs k (d :: ds) ++ rest = prR k d ++ (prRs (k + 1) ds ++ rest) := List.append_assoc _ _ _
      rw [← e]
      exact h
    rw [prR_eq] at h0
    obtain ⟨t1, f1, A1, g1, g2, g3⟩ := l_road hN hR (hd d List.mem_cons_self) (by omega) h0 hc hn
    obtain ⟨t2, f2, A2, m2⟩ := p_step (n := m + ds.length) (i := i) hN hR (by omega) (c := 114) (r := _) h0 (nsp_c (by decide) _) f1 A1
    have hnm : ∀ j, j < k + 1 → t2 113 j = nI (18 + j) := by
      intro j hj
      rw [m2 113 j (by omega)]
      by_cases q : j = k
      · rw [q]
        exact g1.1
      · rw [g3 113 j (by omega) (by omega) (by omega) (by omega)]
        exact hn j (by omega)
    obtain ⟨t3, f3, A3, h1, h2, h3⟩ := ih (k + 1) (i + 1) m t2 (fun x hx => hd x (List.mem_cons_of_mem _ hx)) (by omega) (by omega) A2 ((m2 108 10 (by omega)).trans g2) hnm
    refine ⟨t3, ?_, A3, by rw [h1, List.length_cons]; congr 1; omega, fun j hj => ?_, fun o j q0 q1 q2 q3 => by rw [h3 o j (by omega) (by omega) (by omega) (by omega), m2 o j (by omega), g3 o j (by omega) (by omega) (by omega) (by omega)]⟩
    · rw [List.length_cons, show m + (ds.length + 1) = m + ds.length + 1 by omega, f2, f3, show i + 1 + ds.length = i + (ds.length + 1) by omega]
    · match j, hj with
      | 0, _ =>
        have q : ∀ o j, (o = 113 ∧ j = k) ∨ o = 142 + k → t3 o j = t1 o j := fun o j hq => (h3 o j (by omega) (by omega) (by omega) (by omega)).trans (m2 o j (by omega))
        exact ⟨(q _ _ (by omega)).trans g1.1, (q _ _ (by omega)).trans g1.2.1, (q _ _ (by omega)).trans g1.2.2.1, (q _ _ (by omega)).trans g1.2.2.2.1, (q _ _ (by omega)).trans g1.2.2.2.2⟩
      | j + 1, hj =>
        have := h2 j (by rw [List.length_cons] at hj; omega)
        rw [show k + (j + 1) = k + 1 + j by omega]
        exact this
set_option maxHeartbeats 4000000 in
theorem p_blast (hN : 2000 ≤ N) (hR : RO R s) {rest : List Nat} : ∀ (ds : List BDt) (k i m : Nat) (σ : SI), (∀ d ∈ ds, BdOk d) → k + ds.length ≤ 3 → i + ds.length ≤ 700 → At σ tx (prBs k ds ++ rest) → σ 108 11 = nI k → (∀ j, j < k → σ 114 j = nI (2 + j)) → ∃ σ', f_X5_parse_13 N R (m + ds.length) σ 2 108 (nI i) = f_X5_parse_13 N R m σ' 2 108 (nI (i + ds.length)) ∧ At σ' tx rest ∧ σ' 108 11 = nI (k + ds.length) ∧ (∀ j, j < ds.length → BC σ' (k + j) (ds.getD j (0, 0, 0, []))) ∧ ∀ o j, o ≠ 3 ∨ j ≠ 2 → ¬ (o = 114 ∧ k ≤ j) → ¬ (o = 108 ∧ j = 11) → ¬ (148 + 5 * k ≤ o ∧ o ≤ 162) → σ' o j = σ o j := by
  intro ds
  induction ds with
  | nil =>
    intro k i m σ hd hk hi h hc hn
    exact ⟨σ, rfl, h, hc, fun j hj => absurd hj (Nat.not_lt_zero j), fun o j _ _ _ _ => rfl⟩
  | cons d ds ih =>
    intro k i m σ hd hk hi h hc hn
    rw [List.length_cons] at hk hi
    have h0 : At σ tx (prB k d ++ (prBs (k + 1) ds ++ rest)) := by
      have e : prBs k (d :: ds) ++ rest = prB k d ++ (prBs (k + 1) ds ++ rest) := List.append_assoc _ _ _
      rw [← e]
      exact h
    rw [prB_eq] at h0
    obtain ⟨t1, f1, A1, g1, g2, g3⟩ := l_blast hN hR (hd d List.mem_cons_self) (by omega) h0 hc hn
    obtain ⟨t2, f2, A2, m2⟩ := p_step (n := m + ds.length) (i := i) hN hR (by omega) (c := 98) (r := _) h0 (nsp_c (by decide) _) f1 A1
    have hnm : ∀ j, j < k + 1 → t2 114 j = nI (2 + j) := by
      intro j hj
      rw [m2 114 j (by omega)]
      by_cases q : j = k
      · rw [q]
        exact g1.1
      · rw [g3 114 j (by omega) (by omega) (by omega) (by omega) (by omega) (by omega)]
        exact hn j (by omega)
    obtain ⟨t3, f3, A3, h1, h2, h3⟩ := ih (k + 1) (i + 1) m t2 (fun x hx => hd x (List.mem_cons_of_mem _ hx)) (by omega) (by omega) A2 ((m2 108 11 (by omega)).trans g2) hnm
    refine ⟨t3, ?_, A3, by rw [h1, List.length_cons]; congr 1; omega, fun j hj => ?_, fun o j q0 q1 q2 q3 => by rw [h3 o j (by omega) (by omega) (by omega) (by omega), m2 o j (by omega), g3 o j (by omega) (by omega) (by omega) (by omega) (by omega) (by omega)]⟩
    · rw [List.length_cons, show m + (ds.length + 1) = m + ds.length + 1 by omega, f2, f3, show i + 1 + ds.length = i + (ds.length + 1) by omega]
    · match j, hj with
      | 0, _ =>
        have q : ∀ o j, (o = 114 ∧ j = k) ∨ o = 148 + 5 * k ∨ o = 149 + 5 * k ∨ o = 150 + 5 * k → t3 o j = t1 o j := fun o j hq => (h3 o j (by omega) (by omega) (by omega) (by omega)).trans (m2 o j (by omega))
        exact ⟨(q _ _ (by omega)).trans g1.1, (q _ _ (by omega)).trans g1.2.1, (q _ _ (by omega)).trans g1.2.2.1, (q _ _ (by omega)).trans g1.2.2.2.1, (q _ _ (by omega)).trans g1.2.2.2.2.1, (q _ _ (by omega)).trans g1.2.2.2.2.2.1, fun x hx => ⟨(q _ _ (by omega)).trans (g1.2.2.2.2.2.2 x hx).1, (q _ _ (by omega)).trans (g1.2.2.2.2.2.2 x hx).2⟩⟩
      | j + 1, hj =>
        have := h2 j (by rw [List.length_cons] at hj; omega)
        rw [show k + (j + 1) = k + 1 + j by omega]
        exact this
set_option maxHeartbeats 4000000 in
theorem p_wind (hN : 2000 ≤ N) (hR : RO R s) {rest : List Nat} : ∀ (ws : List WDt) (i m : Nat) (σ : SI), (∀ d ∈ ws, WdOk d) → i + ws.length ≤ 700 → At σ tx (prWs ws ++ rest) → ∃ σ', f_X5_parse_13 N R (m + ws.length) σ 2 108 (nI i) = f_X5_parse_13 N R m σ' 2 108 (nI (i + ws.length)) ∧ At σ' tx rest ∧ (∀ h, σ' 116 h = wF ws (σ 116 h) h) ∧ (∀ h, σ' 117 h = sF ws (σ 117 h) h) ∧ ∀ o j, o ≠ 3 ∨ j ≠ 2 → o ≠ 116 → o ≠ 117 → σ' o j = σ o j := by
  intro ws
  induction ws with
  | nil =>
    intro i m σ hd hi h
    exact ⟨σ, rfl, h, fun h => rfl, fun h => rfl, fun o j _ _ _ => rfl⟩
  | cons w ws ih =>
    intro i m σ hd hi h
    rw [List.length_cons] at hi
    have h0 : At σ tx (prW w ++ (prWs ws ++ rest)) := by
      have e : prWs (w :: ws) ++ rest = prW w ++ (prWs ws ++ rest) := List.append_assoc _ _ _
      rw [← e]
      exact h
    rw [prW_eq] at h0
    obtain ⟨t1, f1, A1, g1, g2, g3⟩ := l_wind hN hR (hd w List.mem_cons_self) h0
    obtain ⟨t2, f2, A2, m2⟩ := p_step (n := m + ws.length) (i := i) hN hR (by omega) (c := 119) (r := _) h0 (nsp_c (by decide) _) f1 A1
    obtain ⟨t3, f3, A3, h1, h2, h3⟩ := ih (i + 1) m t2 (fun x hx => hd x (List.mem_cons_of_mem _ hx)) (by omega) A2
    refine ⟨t3, ?_, A3, fun h => ?_, fun h => ?_, fun o j q1 q2 q3 => by rw [h3 o j q1 q2 q3, m2 o j (by omega), g3 o j q1 q2 q3]⟩
    · rw [List.length_cons, show m + (ws.length + 1) = m + ws.length + 1 by omega, f2, f3, show i + 1 + ws.length = i + (ws.length + 1) by omega]
    · rw [h1 h, m2 116 h (by omega), g1 h]
      rfl
    · rw [h2 h, m2 117 h (by omega), g2 h]
      rfl

end VPL
