/-! ===== the planner's reader, line by line ===== -/
/-- the references of the site that is drafted -/
def rX (R : Nat → Nat → Nat) (d : Nat) : Nat → Nat → Nat := fun o k => if o = 1 ∧ k = 8 then d else if o = 1 ∧ k = 9 then 146 - d else R o k
theorem rX_ne {R : Nat → Nat → Nat} {d o k : Nat} (h : o ≠ 1) : rX R d o k = R o k := by
  unfold rX
  rw [if_neg (by omega), if_neg (by omega)]
theorem rX_ro {R : Nat → Nat → Nat} {s d : Nat} (h : RO R s) (hd : d = 38 ∨ d = 108) : RO (rX R d) d :=
  ⟨hd, if_pos ⟨rfl, rfl⟩, by unfold rX; rw [if_neg (by omega), if_pos ⟨rfl, rfl⟩], fun o k q h7 => by
    by_cases ho : o = 1
    · unfold rX
      rw [if_neg (by omega), if_neg (by omega)]
      exact h.2.2.2 o k q h7
    · rw [rX_ne ho]
      exact h.2.2.2 o k q h7⟩
section VDS
variable {s : Nat} {R : Nat → Nat → Nat}
theorem D_si (h : RO R s) (k : Nat) (hk : k < 9) : R 108 k = 109 + k := by
  have e := (rX_ro h (d := 108) (Or.inr rfl)).si k hk
  rw [rX_ne (by decide)] at e
  exact e
theorem D_nb (h : RO R s) {n : Nat} (hn : n < 8) : R 109 n = 118 + 3 * n := by
  have e := (rX_ro h (d := 108) (Or.inr rfl)).nb n hn
  rw [rX_ne (by decide)] at e
  exact e
theorem D_nbA (h : RO R s) {n : Nat} (hn : n < 8) : R (118 + 3 * n) 0 = 119 + 3 * n ∧ R (118 + 3 * n) 1 = 120 + 3 * n := by
  have e := (rX_ro h (d := 108) (Or.inr rfl)).nbA n hn
  refine ⟨?_, ?_⟩
  · have := e 0 (by decide)
    rw [rX_ne (by omega)] at this
    exact this
  · have := e 1 (by decide)
    rw [rX_ne (by omega)] at this
    exact (show R (118 + 3 * n) 1 = 108 + 11 + 3 * n + 1 from this).trans (by omega)
theorem D_rd (h : RO R s) {n : Nat} (hn : n < 6) : R 110 n = 142 + n := by
  have e := (rX_ro h (d := 108) (Or.inr rfl)).rd n hn
  rw [rX_ne (by decide)] at e
  exact e
theorem D_bl (h : RO R s) {n : Nat} (hn : n < 6) : R 111 n = 148 + 5 * n := by
  have e := (rX_ro h (d := 108) (Or.inr rfl)).bl n hn
  rw [rX_ne (by decide)] at e
  exact e
theorem D_blA (h : RO R s) {n : Nat} (hn : n < 6) : R (148 + 5 * n) 0 = 149 + 5 * n ∧ R (148 + 5 * n) 1 = 150 + 5 * n := by
  have e := (rX_ro h (d := 108) (Or.inr rfl)).blA n hn
  refine ⟨?_, ?_⟩
  · have := e 0 (by decide)
    rw [rX_ne (by omega)] at this
    exact this
  · have := e 1 (by decide)
    rw [rX_ne (by omega)] at this
    exact (show R (148 + 5 * n) 1 = 108 + 41 + 5 * n + 1 from this).trans (by omega)
end VDS
theorem nsp_dec {v : Nat} (hv : v < 10000) (r : List Nat) : NSp (dec v ++ r) := by
  intro c r2 h
  have hm : c ∈ dec v := by
    cases hd : dec v with
    | nil => exact absurd hd dec_ne.1
    | cons x xs =>
      rw [hd, List.cons_append] at h
      cases h
      exact List.mem_cons_self
  have := dec_asc hv c hm
  omega
theorem sk_dec {v : Nat} (hv : v < 10000) (r : List Nat) : Sk (32 :: (dec v ++ r)) (dec v ++ r) := ⟨Or.inr rfl, nsp_dec hv r⟩
theorem sk_dec0 {v : Nat} (hv : v < 10000) (r : List Nat) : Sk (dec v ++ r) (dec v ++ r) := ⟨Or.inl rfl, nsp_dec hv r⟩
theorem nsp_c {c : Nat} (h : 32 < c ∧ c < 128) (r : List Nat) : NSp (c :: r) := fun x r2 e => by cases e; omega
theorem sk_c {c : Nat} (h : 32 < c ∧ c < 128) (r : List Nat) : Sk (32 :: (c :: r)) (c :: r) := ⟨Or.inr rfl, nsp_c h r⟩
theorem sk_c0 {c : Nat} (h : 32 < c ∧ c < 128) (r : List Nat) : Sk (c :: r) (c :: r) := ⟨Or.inl rfl, nsp_c h r⟩
theorem nr_c {c lo hi : Nat} (h : c < 128 ∧ (c < lo ∨ hi < c)) (r : List Nat) : NRun lo hi (c :: r) := fun x r2 e => by cases e; exact h
/-- what a neighbour, a road, a blast of the drafted site hold -/
def NC (σ : SI) (j : Nat) (d : NDt) : Prop := σ 112 j = nI (14 + j) ∧ σ (118 + 3 * j) 2 = nI d.1 ∧ σ (118 + 3 * j) 3 = nI d.2.1 ∧ σ (118 + 3 * j) 4 = nI d.2.2.1 ∧ σ (118 + 3 * j) 5 = nI (if d.2.2.2 = none then 0 else 1) ∧ ∀ q, d.2.2.2 = some q → σ (119 + 3 * j) 0 = nI q.1 ∧ σ (120 + 3 * j) 0 = nI q.2
def RC (σ : SI) (j : Nat) (d : RDt) : Prop := σ 113 j = nI (18 + j) ∧ σ (142 + j) 0 = nI d.1 ∧ σ (142 + j) 1 = nI d.2.1 ∧ σ (142 + j) 2 = nI d.2.2.1 ∧ σ (142 + j) 3 = nI d.2.2.2
def BC (σ : SI) (j : Nat) (d : BDt) : Prop := σ 114 j = nI (2 + j) ∧ σ (148 + 5 * j) 4 = nI d.1 ∧ σ (148 + 5 * j) 5 = nI d.2.1 ∧ σ (148 + 5 * j) 6 = nI d.2.2.1 ∧ σ (148 + 5 * j) 7 = nI d.2.2.2.length ∧ σ (148 + 5 * j) 13 = 0 ∧ ∀ c, c < d.2.2.2.length → σ (149 + 5 * j) c = nI (d.2.2.2.getD c (0, 0)).1 ∧ σ (150 + 5 * j) c = nI (d.2.2.2.getD c (0, 0)).2
section VLN
variable {N s : Nat} {R : Nat → Nat → Nat} {σ : SI} {tx : List Nat}

set_option maxHeartbeats 4000000 in
theorem c_road (hN : 2000 ≤ N) (hR : RO R s) {d : RDt} (hd : RdOk d) {k : Nat} (hk : k < 2) {rest : List Nat} (h : At σ tx (32 :: (114 + k) :: 32 :: (dec d.1 ++ 32 :: (dec d.2.1 ++ 32 :: (dec d.2.2.1 ++ 32 :: (dec d.2.2.2 ++ 59 :: rest)))))) (h9 : σ 108 10 = nI k) (hnm : ∀ j, j < k → σ 113 j = nI (18 + j)) (x : Int32) : ∃ σ', f_X5_parseRoad N R σ 2 108 x = some ((), σ') ∧ At σ' tx (59 :: rest) ∧ RC σ' k d ∧ σ' 108 10 = nI (k + 1) ∧ ∀ o j, o ≠ 3 ∨ j ≠ 2 → ¬ (o = 113 ∧ j = k) → ¬ (o = 108 ∧ j = 10) → o ≠ 142 + k → σ' o j = σ o j := by
  obtain ⟨d1, d2, d3, d4⟩ := hd
  obtain ⟨s1, e1, A1, m1⟩ := t_name hN hR (c := 114 + k) (by omega) h (sk_c (by omega) _) (nr_c (c := 32) (by decide) _) (q1 := 6) (arr := 113) (cnt := k) (by omega) (by decide) (by decide) (fun j hj => by rw [hnm j hj]; exact nI_ne' (by omega) (by omega) (by omega))
  rw [show 114 + k - 96 = 18 + k by omega] at e1
  obtain ⟨s2, u2⟩ : ∃ x, x = up s1 113 k (nI (18 + k)) := ⟨_, rfl⟩
  have he2 : s2 113 k = (nI (18 + k)) := by rw [u2]; exact if_pos ⟨rfl, rfl⟩
  have hf2 : ∀ o j, o ≠ 113 ∨ j ≠ k → s2 o j = s1 o j := fun o j h => by rw [u2]; exact if_neg (by omega)
  have A2 : At s2 tx _ := A1.of (fun o j h => hf2 o j (by omega))
  obtain ⟨s3, e3, A3, m3⟩ := t_num hN hR (v := d.1) (by omega) A2 (sk_dec (by omega) _) (nr_c (c := 32) (by decide) _) (lo := 0) (hi := 999) (by omega) (by omega) (by omega)
  obtain ⟨s4, u4⟩ : ∃ x, x = up s3 (142 + k) 0 (nI d.1) := ⟨_, rfl⟩
  have he4 : s4 (142 + k) 0 = (nI d.1) := by rw [u4]; exact if_pos ⟨rfl, rfl⟩
  have hf4 : ∀ o j, o ≠ (142 + k) ∨ j ≠ 0 → s4 o j = s3 o j := fun o j h => by rw [u4]; exact if_neg (by omega)
  have A4 : At s4 tx _ := A3.of (fun o j h => hf4 o j (by omega))
  obtain ⟨s5, e5, A5, m5⟩ := t_num hN hR (v := d.2.1) (by omega) A4 (sk_dec (by omega) _) (nr_c (c := 32) (by decide) _) (lo := 0) (hi := 999) (by omega) (by omega) (by omega)
  obtain ⟨s6, u6⟩ : ∃ x, x = up s5 (142 + k) 1 (nI d.2.1) := ⟨_, rfl⟩
  have he6 : s6 (142 + k) 1 = (nI d.2.1) := by rw [u6]; exact if_pos ⟨rfl, rfl⟩
  have hf6 : ∀ o j, o ≠ (142 + k) ∨ j ≠ 1 → s6 o j = s5 o j := fun o j h => by rw [u6]; exact if_neg (by omega)
  have A6 : At s6 tx _ := A5.of (fun o j h => hf6 o j (by omega))
  obtain ⟨s7, e7, A7, m7⟩ := t_num hN hR (v := d.2.2.1) (by omega) A6 (sk_dec (by omega) _) (nr_c (c := 32) (by decide) _) (lo := 0) (hi := 999) (by omega) (by omega) (by omega)
  obtain ⟨s8, u8⟩ : ∃ x, x = up s7 (142 + k) 2 (nI d.2.2.1) := ⟨_, rfl⟩
  have he8 : s8 (142 + k) 2 = (nI d.2.2.1) := by rw [u8]; exact if_pos ⟨rfl, rfl⟩
  have hf8 : ∀ o j, o ≠ (142 + k) ∨ j ≠ 2 → s8 o j = s7 o j := fun o j h => by rw [u8]; exact if_neg (by omega)
  have A8 : At s8 tx _ := A7.of (fun o j h => hf8 o j (by omega))
  obtain ⟨s9, e9, A9, m9⟩ := t_num hN hR (v := d.2.2.2) (by omega) A8 (sk_dec (by omega) _) (nr_c (c := 59) (by decide) _) (lo := 0) (hi := 999) (by omega) (by omega) (by omega)
  obtain ⟨s10, u10⟩ : ∃ x, x = up s9 (142 + k) 3 (nI d.2.2.2) := ⟨_, rfl⟩
  have he10 : s10 (142 + k) 3 = (nI d.2.2.2) := by rw [u10]; exact if_pos ⟨rfl, rfl⟩
  have hf10 : ∀ o j, o ≠ (142 + k) ∨ j ≠ 3 → s10 o j = s9 o j := fun o j h => by rw [u10]; exact if_neg (by omega)
  have A10 : At s10 tx _ := A9.of (fun o j h => hf10 o j (by omega))
  have hc : s10 108 10 = nI k := by rw [hf10 108 10 (by omega), m9 108 10 (by omega), hf8 108 10 (by omega), m7 108 10 (by omega), hf6 108 10 (by omega), m5 108 10 (by omega), hf4 108 10 (by omega), m3 108 10 (by omega), hf2 108 10 (by omega), m1 108 10 (by omega), h9]
  obtain ⟨s11, u11⟩ : ∃ x, x = up s10 108 10 (nI (k + 1)) := ⟨_, rfl⟩
  have he11 : s11 108 10 = (nI (k + 1)) := by rw [u11]; exact if_pos ⟨rfl, rfl⟩
  have hf11 : ∀ o j, o ≠ 108 ∨ j ≠ 10 → s11 o j = s10 o j := fun o j h => by rw [u11]; exact if_neg (by omega)
  have A11 : At s11 tx _ := A10.of (fun o j h => hf11 o j (by omega))
  refine ⟨s11, ?_, A11, ⟨(by rw [hf11 113 k (by omega), hf10 113 k (by omega), m9 113 k (by omega), hf8 113 k (by omega), m7 113 k (by omega), hf6 113 k (by omega), m5 113 k (by omega), hf4 113 k (by omega), m3 113 k (by omega), he2]), (by rw [hf11 (142 + k) 0 (by omega), hf10 (142 + k) 0 (by omega), m9 (142 + k) 0 (by omega), hf8 (142 + k) 0 (by omega), m7 (142 + k) 0 (by omega), hf6 (142 + k) 0 (by omega), m5 (142 + k) 0 (by omega), he4]), (by rw [hf11 (142 + k) 1 (by omega), hf10 (142 + k) 1 (by omega), m9 (142 + k) 1 (by omega), hf8 (142 + k) 1 (by omega), m7 (142 + k) 1 (by omega), he6]), (by rw [hf11 (142 + k) 2 (by omega), hf10 (142 + k) 2 (by omega), m9 (142 + k) 2 (by omega), he8]), (by rw [hf11 (142 + k) 3 (by omega), he10])⟩, he11, fun o j h1 h2 h3 h4 => by rw [hf11 o j (by omega), hf10 o j (by omega), m9 o j (by omega), hf8 o j (by omega), m7 o j (by omega), hf6 o j (by omega), m5 o j (by omega), hf4 o j (by omega), m3 o j (by omega), hf2 o j (by omega), m1 o j (by omega)]⟩
  unfold f_X5_parseRoad
  rw [h9, if_pos (show nI k < (6 : Int32) from nI_lt (b := 6) (by omega) (by decide)), ck_nI (by omega) (by decide), hR.r2_0, D_si hR 4 (by decide), D_si hR 1 (by decide), nI_clamp (by omega), D_rd hR (by omega), show (0 : Int32) = nI 0 from rfl, show (999 : Int32) = nI 999 from rfl, e1, bd_some, ck_nI (by omega) (by decide), sq_eq, ← u2, e3, bd_some, sq_eq, ← u4, e5, bd_some, sq_eq, ← u6, e7, bd_some, sq_eq, ← u8, e9, bd_some, sq_eq, ← u10]
  rw [sq_eq, hc, nI_1, ← u11]
theorem nr_prC {lo hi : Nat} (h : (32 < lo ∨ hi < 32) ∧ (59 < lo ∨ hi < 59)) (cs : List (Nat × Nat)) (rest : List Nat) : NRun lo hi (prC cs ++ 59 :: rest) := by
  cases cs with
  | nil => exact nr_c ⟨by decide, h.2⟩ _
  | cons c cs => exact nr_c (c := 32) ⟨by decide, h.1⟩ (dec c.1 ++ (kwL 21 ++ (dec c.2 ++ prC cs)) ++ 59 :: rest)
theorem prC_cons (c : Nat × Nat) (cs : List (Nat × Nat)) (rest : List Nat) : prC (c :: cs) ++ 59 :: rest = 32 :: (dec c.1 ++ 32 :: (kwL 4 ++ 32 :: (dec c.2 ++ (prC cs ++ 59 :: rest)))) := by
  show (kwL 11 ++ (dec c.1 ++ (kwL 21 ++ (dec c.2 ++ prC cs)))) ++ 59 :: rest = _
  simp only [List.append_assoc]
  rfl

set_option maxHeartbeats 4000000 in
theorem c_charge (hN : 2000 ≤ N) (hR : RO R s) {a : Nat × Nat} (ha : ChOk a) {k i : Nat} (hk : k < 3) (hi : i < 12) {r r2 : List Nat} (h : At σ tx r) (hs : Sk r (dec a.1 ++ 32 :: (kwL 4 ++ 32 :: (dec a.2 ++ r2)))) (hr2 : NRun 48 57 r2) (h7 : σ (148 + 5 * k) 7 = nI i) : ∃ σ', f_X5_parseCharge N R σ 2 (148 + 5 * k) = some ((), σ') ∧ At σ' tx r2 ∧ σ' (148 + 5 * k) 7 = nI (i + 1) ∧ σ' (149 + 5 * k) i = nI a.1 ∧ σ' (150 + 5 * k) i = nI a.2 ∧ ∀ o j, o ≠ 3 ∨ j ≠ 2 → ¬ (o = 148 + 5 * k ∧ j = 7) → ¬ ((o = 149 + 5 * k ∨ o = 150 + 5 * k) ∧ j = i) → σ' o j = σ o j := by
  obtain ⟨a1, a2, a3⟩ := ha
  obtain ⟨s1, e1, A1, m1⟩ := t_num hN hR (v := a.1) (by omega) h hs (nr_c (c := 32) (by decide) _) (lo := 1) (hi := 999) (by omega) (by omega) (by omega)
  obtain ⟨s2, e2, A2, m2⟩ := t_word hN hR (w := 4) (by decide) A1 (sk_c (c := 97) (by decide) _) (nr_c (c := 32) (by decide) _)
  have e3 := t_need (N := N) (R := R) (σ := s2) 1 (by decide)
  obtain ⟨s3, e4, A3, m3⟩ := t_num hN hR (v := a.2) (by omega) A2 (sk_dec (by omega) _) hr2 (lo := 0) (hi := 9999) (by omega) (by omega) (by omega)
  have h73 : s3 (148 + 5 * k) 7 = nI i := by rw [m3 (148 + 5 * k) 7 (by omega), m2 (148 + 5 * k) 7 (by omega), m1 (148 + 5 * k) 7 (by omega), h7]
  obtain ⟨s4, u4⟩ : ∃ x, x = up s3 (149 + 5 * k) i (nI a.1) := ⟨_, rfl⟩
  have he4 : s4 (149 + 5 * k) i = (nI a.1) := by rw [u4]; exact if_pos ⟨rfl, rfl⟩
  have hf4 : ∀ o j, o ≠ (149 + 5 * k) ∨ j ≠ i → s4 o j = s3 o j := fun o j h => by rw [u4]; exact if_neg (by omega)
  have A4 : At s4 tx _ := A3.of (fun o j h => hf4 o j (by omega))
  have h74 : s4 (148 + 5 * k) 7 = nI i := (hf4 _ _ (by omega)).trans h73
  obtain ⟨s5, u5⟩ : ∃ x, x = up s4 (150 + 5 * k) i (nI a.2) := ⟨_, rfl⟩
  have he5 : s5 (150 + 5 * k) i = (nI a.2) := by rw [u5]; exact if_pos ⟨rfl, rfl⟩
  have hf5 : ∀ o j, o ≠ (150 + 5 * k) ∨ j ≠ i → s5 o j = s4 o j := fun o j h => by rw [u5]; exact if_neg (by omega)
  have A5 : At s5 tx _ := A4.of (fun o j h => hf5 o j (by omega))
  have h75 : s5 (148 + 5 * k) 7 = nI i := (hf5 _ _ (by omega)).trans h74
  obtain ⟨s6, u6⟩ : ∃ x, x = up s5 (148 + 5 * k) 7 (nI (i + 1)) := ⟨_, rfl⟩
  have he6 : s6 (148 + 5 * k) 7 = (nI (i + 1)) := by rw [u6]; exact if_pos ⟨rfl, rfl⟩
  have hf6 : ∀ o j, o ≠ (148 + 5 * k) ∨ j ≠ 7 → s6 o j = s5 o j := fun o j h => by rw [u6]; exact if_neg (by omega)
  have A6 : At s6 tx _ := A5.of (fun o j h => hf6 o j (by omega))
  refine ⟨s6, ?_, A6, he6, (by rw [hf6 (149 + 5 * k) i (by omega), hf5 (149 + 5 * k) i (by omega), he4]), (by rw [hf6 (150 + 5 * k) i (by omega), he5]), fun o j h1 h2 h3 => by rw [hf6 o j (by omega), hf5 o j (by omega), hf4 o j (by omega), m3 o j (by omega), m2 o j (by omega), m1 o j (by omega)]⟩
  unfold f_X5_parseCharge
  rw [h7, if_pos (show nI i < (12 : Int32) from nI_lt (b := 12) hi (by decide)), hR.r2_0, show (1 : Int32) = nI 1 from rfl, show (999 : Int32) = nI 999 from rfl, show (9999 : Int32) = nI 9999 from rfl, show (0 : Int32) = nI 0 from rfl, e1, bd_some, e2, bd_some, show f_X10_need N R s2 3 1 = some ((), s2) from e3, bd_some, e4, bd_some]
  unfold f_X0_addCharge
  rw [h73, if_neg (show ¬ (12 : Int32) ≤ nI i from nI_ge (b := 12) hi (by decide)), ck_nI hi (by decide), (D_blA hR (by omega : k < 6)).1, (D_blA hR (by omega : k < 6)).2, nI_clamp (by omega), sq_eq, ← u4, h74, ck_nI hi (by decide), nI_clamp (by omega), sq_eq, ← u5, sq_eq, h75, nI_1, ← u6, bd_some]
set_option maxHeartbeats 4000000 in
theorem c_charges (hN : 2000 ≤ N) (hR : RO R s) {k : Nat} (hk : k < 3) {rest : List Nat} : ∀ (cs : List (Nat × Nat)) (i q n : Nat) (σ : SI), (∀ a ∈ cs, ChOk a) → i + cs.length ≤ 12 → q + cs.length ≤ 11 → cs.length < n → At σ tx (prC cs ++ 59 :: rest) → σ (148 + 5 * k) 7 = nI i → σ 108 11 = nI k → ∃ σ', f_X5_parseBlast_119 N R n σ 2 108 (148 + 5 * k) (nI q) = some ((), σ') ∧ At σ' tx (59 :: rest) ∧ σ' (148 + 5 * k) 7 = nI (i + cs.length) ∧ σ' 108 11 = nI (k + 1) ∧ (∀ c, c < cs.length → σ' (149 + 5 * k) (i + c) = nI (cs.getD c (0, 0)).1 ∧ σ' (150 + 5 * k) (i + c) = nI (cs.getD c (0, 0)).2) ∧ ∀ o j, o ≠ 3 ∨ j ≠ 2 → ¬ (o = 108 ∧ j = 11) → ¬ (o = 148 + 5 * k ∧ j = 7) → ¬ ((o = 149 + 5 * k ∨ o = 150 + 5 * k) ∧ i ≤ j) → σ' o j = σ o j := by
  intro cs
  induction cs with
  | nil =>
    intro i q n σ hc hi hq hn h h7 h11
    obtain ⟨n, rfl⟩ : ∃ w, n = w + 1 := ⟨n - 1, by omega⟩
    have hq : q + 0 ≤ 11 := hq
    have h : At σ tx (59 :: rest) := h
    obtain ⟨s1, e1, A1, m1⟩ := t_numN hN hR h (sk_c0 (c := 59) (by decide) _) (nr_c (c := 59) (by decide) _)
    obtain ⟨s2, u2⟩ : ∃ x, x = up s1 108 11 (nI (k + 1)) := ⟨_, rfl⟩
    have hf2 : ∀ o j, o ≠ 108 ∨ j ≠ 11 → s2 o j = s1 o j := fun o j h => by rw [u2]; exact if_neg (by omega)
    refine ⟨s2, ?_, A1.of (fun o j h => hf2 o j (by omega)), by rw [hf2 _ _ (by omega), m1 _ _ (by omega), h7]; rfl, by rw [u2]; exact if_pos ⟨rfl, rfl⟩, fun c hc => absurd hc (Nat.not_lt_zero c), fun o j h1 h2 h3 h4 => by rw [hf2 o j (by omega), m1 o j (by omega)]⟩
    rw [f_X5_parseBlast_119, if_neg (show ¬ (12 : Int32) ≤ nI q from nI_ge (b := 12) (by omega) (by decide)), hR.r2_0, t_failed h, bd_some, if_pos rfl, e1, bd_some, if_pos rfl]
    unfold f_X5_parseBlast_158
    rw [sq_eq, m1 108 11 (by omega), h11, nI_1, ← u2]
  | cons a cs ih =>
    intro i q n σ hc hi hq hn h h7 h11
    obtain ⟨n, rfl⟩ : ∃ w, n = w + 1 := ⟨n - 1, by omega⟩
    rw [List.length_cons] at hi hq hn
    have ha := hc a List.mem_cons_self
    rw [prC_cons] at h
    obtain ⟨s1, e1, A1, m1⟩ := t_numF hN hR (v := a.1) (by have := ha.2.1; omega) h (sk_dec (by have := ha.2.1; omega) _) (nr_c (c := 32) (by decide) _)
    obtain ⟨s2, e2, A2, g1, g2, g3, g4⟩ := c_charge hN hR ha hk (by omega : i < 12) A1 (sk_dec0 (by have := ha.2.1; omega) _) (nr_prC (by decide) cs rest) ((m1 _ _ (by omega)).trans h7)
    obtain ⟨s3, e3, A3, k1, k2, k3, k4⟩ := ih (i + 1) (q + 1) n s2 (fun x hx => hc x (List.mem_cons_of_mem _ hx)) (by omega) (by omega) (by omega) A2 g1 (by rw [g4 108 11 (by omega) (by omega) (by omega), m1 108 11 (by omega), h11])
    refine ⟨s3, ?_, A3, by rw [k1, List.length_cons]; congr 1; omega, k2, fun c hc => ?_, fun o j h1 h2 h3 h4 => by rw [k4 o j h1 h2 h3 (by omega), g4 o j h1 h3 (by omega), m1 o j (by omega)]⟩
    · rw [f_X5_parseBlast_119, if_neg (show ¬ (12 : Int32) ≤ nI q from nI_ge (b := 12) (by omega) (by decide)), hR.r2_0, t_failed h, bd_some, if_pos rfl, e1, bd_some, if_neg (by decide), e2, bd_some, nI_1]
      exact e3
    · match c, hc with
      | 0, _ => exact ⟨(k4 (149 + 5 * k) i (by omega) (by omega) (by omega) (by omega)).trans g2, (k4 (150 + 5 * k) i (by omega) (by omega) (by omega) (by omega)).trans g3⟩
      | c + 1, hc =>
        have := k3 c (by rw [List.length_cons] at hc; omega)
        rw [show i + (c + 1) = i + 1 + c by omega]
        exact this

set_option maxHeartbeats 4000000 in
theorem c_blast (hN : 2000 ≤ N) (hR : RO R s) {d : BDt} (hd : BdOk d) {k : Nat} (hk : k < 3) {rest : List Nat} (h : At σ tx (32 :: (98 + k) :: 32 :: (dec d.1 ++ 32 :: (dec d.2.1 ++ 32 :: (dec d.2.2.1 ++ (prC d.2.2.2 ++ 59 :: rest)))))) (h9 : σ 108 11 = nI k) (hnm : ∀ j, j < k → σ 114 j = nI (2 + j)) (x : Int32) : ∃ σ', f_X5_parseBlast N R σ 2 108 x = some ((), σ') ∧ At σ' tx (59 :: rest) ∧ BC σ' k d ∧ σ' 108 11 = nI (k + 1) ∧ ∀ o j, o ≠ 3 ∨ j ≠ 2 → ¬ (o = 114 ∧ j = k) → ¬ (o = 108 ∧ j = 11) → o ≠ 148 + 5 * k → o ≠ 149 + 5 * k → o ≠ 150 + 5 * k → σ' o j = σ o j := by
  obtain ⟨d1, d2, d3, d4, d5, d6, d7⟩ := hd
  obtain ⟨s1, e1, A1, m1⟩ := t_name hN hR (c := 98 + k) (by omega) h (sk_c (by omega) _) (nr_c (c := 32) (by decide) _) (q1 := 6) (arr := 114) (cnt := k) (by omega) (by decide) (by decide) (fun j hj => by rw [hnm j hj]; exact nI_ne' (by omega) (by omega) (by omega))
  rw [show 98 + k - 96 = 2 + k by omega] at e1
  obtain ⟨s2, u2⟩ : ∃ x, x = up s1 114 k (nI (2 + k)) := ⟨_, rfl⟩
  have he2 : s2 114 k = (nI (2 + k)) := by rw [u2]; exact if_pos ⟨rfl, rfl⟩
  have hf2 : ∀ o j, o ≠ 114 ∨ j ≠ k → s2 o j = s1 o j := fun o j h => by rw [u2]; exact if_neg (by omega)
  have A2 : At s2 tx _ := A1.of (fun o j h => hf2 o j (by omega))
  obtain ⟨s3, e3, A3, m3⟩ := t_num hN hR (v := d.1) (by omega) A2 (sk_dec (by omega) _) (nr_c (c := 32) (by decide) _) (lo := 0) (hi := 999) (by omega) (by omega) (by omega)
  obtain ⟨s4, u4⟩ : ∃ x, x = up s3 (148 + 5 * k) 4 (nI d.1) := ⟨_, rfl⟩
  have he4 : s4 (148 + 5 * k) 4 = (nI d.1) := by rw [u4]; exact if_pos ⟨rfl, rfl⟩
  have hf4 : ∀ o j, o ≠ (148 + 5 * k) ∨ j ≠ 4 → s4 o j = s3 o j := fun o j h => by rw [u4]; exact if_neg (by omega)
  have A4 : At s4 tx _ := A3.of (fun o j h => hf4 o j (by omega))
  obtain ⟨s5, e5, A5, m5⟩ := t_num hN hR (v := d.2.1) (by omega) A4 (sk_dec (by omega) _) (nr_c (c := 32) (by decide) _) (lo := 0) (hi := 999) (by omega) (by omega) (by omega)
  obtain ⟨s6, u6⟩ : ∃ x, x = up s5 (148 + 5 * k) 5 (nI d.2.1) := ⟨_, rfl⟩
  have he6 : s6 (148 + 5 * k) 5 = (nI d.2.1) := by rw [u6]; exact if_pos ⟨rfl, rfl⟩
  have hf6 : ∀ o j, o ≠ (148 + 5 * k) ∨ j ≠ 5 → s6 o j = s5 o j := fun o j h => by rw [u6]; exact if_neg (by omega)
  have A6 : At s6 tx _ := A5.of (fun o j h => hf6 o j (by omega))
  obtain ⟨s7, e7, A7, m7⟩ := t_num hN hR (v := d.2.2.1) (by omega) A6 (sk_dec (by omega) _) (nr_prC (by decide) _ _) (lo := 1) (hi := 500) (by omega) (by omega) (by omega)
  obtain ⟨s8, u8⟩ : ∃ x, x = up s7 (148 + 5 * k) 6 (nI d.2.2.1) := ⟨_, rfl⟩
  have he8 : s8 (148 + 5 * k) 6 = (nI d.2.2.1) := by rw [u8]; exact if_pos ⟨rfl, rfl⟩
  have hf8 : ∀ o j, o ≠ (148 + 5 * k) ∨ j ≠ 6 → s8 o j = s7 o j := fun o j h => by rw [u8]; exact if_neg (by omega)
  have A8 : At s8 tx _ := A7.of (fun o j h => hf8 o j (by omega))
  obtain ⟨s9, u9⟩ : ∃ x, x = up s8 (148 + 5 * k) 13 (nI 0) := ⟨_, rfl⟩
  have he9 : s9 (148 + 5 * k) 13 = (nI 0) := by rw [u9]; exact if_pos ⟨rfl, rfl⟩
  have hf9 : ∀ o j, o ≠ (148 + 5 * k) ∨ j ≠ 13 → s9 o j = s8 o j := fun o j h => by rw [u9]; exact if_neg (by omega)
  have A9 : At s9 tx _ := A8.of (fun o j h => hf9 o j (by omega))
  obtain ⟨s10, u10⟩ : ∃ x, x = up s9 (148 + 5 * k) 7 (nI 0) := ⟨_, rfl⟩
  have he10 : s10 (148 + 5 * k) 7 = (nI 0) := by rw [u10]; exact if_pos ⟨rfl, rfl⟩
  have hf10 : ∀ o j, o ≠ (148 + 5 * k) ∨ j ≠ 7 → s10 o j = s9 o j := fun o j h => by rw [u10]; exact if_neg (by omega)
  have A10 : At s10 tx _ := A9.of (fun o j h => hf10 o j (by omega))
  cases hcs : d.2.2.2 with
  | nil => rw [hcs] at d5; exact absurd d5 (by decide)
  | cons a cs =>
    rw [hcs] at d5 d6 d7 A10
    rw [List.length_cons] at d6
    rw [prC_cons] at A10
    obtain ⟨t1, f1, B1, g1, g2, g3, g4⟩ := c_charge hN hR (d7 a List.mem_cons_self) hk (i := 0) (by decide) A10 (sk_dec (by have := (d7 a List.mem_cons_self).2.1; omega) _) (nr_prC (by decide) cs rest) he10
    obtain ⟨t2, f2, B2, k1, k2, k3, k4⟩ := c_charges hN hR hk cs 1 0 N t1 (fun x hx => d7 x (List.mem_cons_of_mem _ hx)) (by omega) (by omega) (by omega) B1 g1 (by rw [g4 108 11 (by omega) (by omega) (by omega), hf10 108 11 (by omega), hf9 108 11 (by omega), hf8 108 11 (by omega), m7 108 11 (by omega), hf6 108 11 (by omega), m5 108 11 (by omega), hf4 108 11 (by omega), m3 108 11 (by omega), hf2 108 11 (by omega), m1 108 11 (by omega), h9])
    refine ⟨t2, ?_, B2, ⟨(by rw [k4 114 k (by omega) (by omega) (by omega) (by omega), g4 114 k (by omega) (by omega) (by omega)]; exact (by rw [hf10 114 k (by omega), hf9 114 k (by omega), hf8 114 k (by omega), m7 114 k (by omega), hf6 114 k (by omega), m5 114 k (by omega), hf4 114 k (by omega), m3 114 k (by omega), he2])), (by rw [k4 (148 + 5 * k) 4 (by omega) (by omega) (by omega) (by omega), g4 (148 + 5 * k) 4 (by omega) (by omega) (by omega)]; exact (by rw [hf10 (148 + 5 * k) 4 (by omega), hf9 (148 + 5 * k) 4 (by omega), hf8 (148 + 5 * k) 4 (by omega), m7 (148 + 5 * k) 4 (by omega), hf6 (148 + 5 * k) 4 (by omega), m5 (148 + 5 * k) 4 (by omega), he4])), (by rw [k4 (148 + 5 * k) 5 (by omega) (by omega) (by omega) (by omega), g4 (148 + 5 * k) 5 (by omega) (by omega) (by omega)]; exact (by rw [hf10 (148 + 5 * k) 5 (by omega), hf9 (148 + 5 * k) 5 (by omega), hf8 (148 + 5 * k) 5 (by omega), m7 (148 + 5 * k) 5 (by omega), he6])), (by rw [k4 (148 + 5 * k) 6 (by omega) (by omega) (by omega) (by omega), g4 (148 + 5 * k) 6 (by omega) (by omega) (by omega)]; exact (by rw [hf10 (148 + 5 * k) 6 (by omega), hf9 (148 + 5 * k) 6 (by omega), he8])), by rw [k1, hcs, List.length_cons]; congr 1; omega, (show t2 (148 + 5 * k) 13 = nI 0 from (by rw [k4 (148 + 5 * k) 13 (by omega) (by omega) (by omega) (by omega), g4 (148 + 5 * k) 13 (by omega) (by omega) (by omega)]; exact (by rw [hf10 (148 + 5 * k) 13 (by omega), he9]))), fun q hq => ?_⟩, k2, fun o j h1 h2 h3 h4 h5 h6 => by rw [k4 o j h1 h3 (by omega) (by omega), g4 o j h1 (by omega) (by omega), hf10 o j (by omega), hf9 o j (by omega), hf8 o j (by omega), m7 o j (by omega), hf6 o j (by omega), m5 o j (by omega), hf4 o j (by omega), m3 o j (by omega), hf2 o j (by omega), m1 o j (by omega)]⟩
    · unfold f_X5_parseBlast
      rw [h9, if_pos (show nI k < (6 : Int32) from nI_lt (b := 6) (by omega) (by decide)), ck_nI (by omega) (by decide), hR.r2_0, D_si hR 5 (by decide), D_si hR 2 (by decide), nI_clamp (by omega), D_bl hR (by omega), show (0 : Int32) = nI 0 from rfl, show (999 : Int32) = nI 999 from rfl, show (1 : Int32) = nI 1 from rfl, show (500 : Int32) = nI 500 from rfl, e1, bd_some, ck_nI (by omega) (by decide), sq_eq, ← u2, e3, bd_some, sq_eq, ← u4, e5, bd_some, sq_eq, ← u6, e7, bd_some, sq_eq, ← u8, sq_eq, ← u9, sq_eq, ← u10, f1, bd_some]
      exact f2
    · rw [hcs] at hq ⊢
      match q, hq with
      | 0, _ => exact ⟨(k4 (149 + 5 * k) 0 (by omega) (by omega) (by omega) (by omega)).trans g2, (k4 (150 + 5 * k) 0 (by omega) (by omega) (by omega) (by omega)).trans g3⟩
      | q + 1, hq =>
        have := k3 q (by rw [List.length_cons] at hq; omega)
        rw [Nat.add_comm 1 q] at this
        exact this
set_option maxHeartbeats 4000000 in
theorem c_near (hN : 2000 ≤ N) (hR : RO R s) {d : NDt} (hd : NdOk d) {k : Nat} (hk : k < 2) {rest : List Nat} (h : At σ tx (32 :: (110 + k) :: 32 :: (dec d.1 ++ 32 :: (dec d.2.1 ++ 32 :: (dec d.2.2.1 ++ (prQ d.2.2.2 ++ 59 :: rest)))))) (h9 : σ 108 9 = nI k) (hnm : ∀ j, j < k → σ 112 j = nI (14 + j)) (x : Int32) : ∃ σ', f_X5_parseNeighbour N R σ 2 108 x = some ((), σ') ∧ At σ' tx (59 :: rest) ∧ NC σ' k d ∧ σ' 108 9 = nI (k + 1) ∧ ∀ o j, o ≠ 3 ∨ j ≠ 2 → ¬ (o = 112 ∧ j = k) → ¬ (o = 108 ∧ j = 9) → o ≠ 118 + 3 * k → o ≠ 119 + 3 * k → o ≠ 120 + 3 * k → σ' o j = σ o j := by
  obtain ⟨d1, d2, d3, d4⟩ := hd
  obtain ⟨s1, e1, A1, m1⟩ := t_name hN hR (c := 110 + k) (by omega) h (sk_c (by omega) _) (nr_c (c := 32) (by decide) _) (q1 := 8) (arr := 112) (cnt := k) (by omega) (by decide) (by decide) (fun j hj => by rw [hnm j hj]; exact nI_ne' (by omega) (by omega) (by omega))
  rw [show 110 + k - 96 = 14 + k by omega] at e1
  have hnq : NRun 48 57 (prQ d.2.2.2 ++ 59 :: rest) := by
    cases d.2.2.2 with
    | none => exact nr_c (c := 59) (by decide) _
    | some q => exact nr_c (c := 32) (by decide) ((dec q.1 ++ (kwL 19 ++ dec q.2)) ++ 59 :: rest)
  obtain ⟨s2, u2⟩ : ∃ x, x = up s1 112 k (nI (14 + k)) := ⟨_, rfl⟩
  have he2 : s2 112 k = (nI (14 + k)) := by rw [u2]; exact if_pos ⟨rfl, rfl⟩
  have hf2 : ∀ o j, o ≠ 112 ∨ j ≠ k → s2 o j = s1 o j := fun o j h => by rw [u2]; exact if_neg (by omega)
  have A2 : At s2 tx _ := A1.of (fun o j h => hf2 o j (by omega))
  obtain ⟨s3, e3, A3, m3⟩ := t_num hN hR (v := d.1) (by omega) A2 (sk_dec (by omega) _) (nr_c (c := 32) (by decide) _) (lo := 0) (hi := 999) (by omega) (by omega) (by omega)
  obtain ⟨s4, u4⟩ : ∃ x, x = up s3 (118 + 3 * k) 2 (nI d.1) := ⟨_, rfl⟩
  have he4 : s4 (118 + 3 * k) 2 = (nI d.1) := by rw [u4]; exact if_pos ⟨rfl, rfl⟩
  have hf4 : ∀ o j, o ≠ (118 + 3 * k) ∨ j ≠ 2 → s4 o j = s3 o j := fun o j h => by rw [u4]; exact if_neg (by omega)
  have A4 : At s4 tx _ := A3.of (fun o j h => hf4 o j (by omega))
  obtain ⟨s5, e5, A5, m5⟩ := t_num hN hR (v := d.2.1) (by omega) A4 (sk_dec (by omega) _) (nr_c (c := 32) (by decide) _) (lo := 0) (hi := 999) (by omega) (by omega) (by omega)
  obtain ⟨s6, u6⟩ : ∃ x, x = up s5 (118 + 3 * k) 3 (nI d.2.1) := ⟨_, rfl⟩
  have he6 : s6 (118 + 3 * k) 3 = (nI d.2.1) := by rw [u6]; exact if_pos ⟨rfl, rfl⟩
  have hf6 : ∀ o j, o ≠ (118 + 3 * k) ∨ j ≠ 3 → s6 o j = s5 o j := fun o j h => by rw [u6]; exact if_neg (by omega)
  have A6 : At s6 tx _ := A5.of (fun o j h => hf6 o j (by omega))
  obtain ⟨s7, e7, A7, m7⟩ := t_num hN hR (v := d.2.2.1) (by omega) A6 (sk_dec (by omega) _) hnq (lo := 0) (hi := 99999) (by omega) (by omega) (by omega)
  obtain ⟨s8, u8⟩ : ∃ x, x = up s7 (118 + 3 * k) 4 (nI d.2.2.1) := ⟨_, rfl⟩
  have he8 : s8 (118 + 3 * k) 4 = (nI d.2.2.1) := by rw [u8]; exact if_pos ⟨rfl, rfl⟩
  have hf8 : ∀ o j, o ≠ (118 + 3 * k) ∨ j ≠ 4 → s8 o j = s7 o j := fun o j h => by rw [u8]; exact if_neg (by omega)
  have A8 : At s8 tx _ := A7.of (fun o j h => hf8 o j (by omega))
  obtain ⟨s9, u9⟩ : ∃ x, x = up s8 (118 + 3 * k) 5 (nI 0) := ⟨_, rfl⟩
  have he9 : s9 (118 + 3 * k) 5 = (nI 0) := by rw [u9]; exact if_pos ⟨rfl, rfl⟩
  have hf9 : ∀ o j, o ≠ (118 + 3 * k) ∨ j ≠ 5 → s9 o j = s8 o j := fun o j h => by rw [u9]; exact if_neg (by omega)
  have A9 : At s9 tx _ := A8.of (fun o j h => hf9 o j (by omega))
  have h9n : s9 108 9 = nI k := by rw [hf9 108 9 (by omega), hf8 108 9 (by omega), m7 108 9 (by omega), hf6 108 9 (by omega), m5 108 9 (by omega), hf4 108 9 (by omega), m3 108 9 (by omega), hf2 108 9 (by omega), m1 108 9 (by omega), h9]
  obtain ⟨n, hn⟩ : ∃ w, N = w + 2 := ⟨N - 2, by omega⟩
  have hun : ∀ (σ' : SI), f_X5_parseNeighbour_106 N R N s9 2 108 (118 + 3 * k) (nI 0) = some ((), σ') → f_X5_parseNeighbour N R σ 2 108 x = some ((), σ') := by
    intro σ' hh
    unfold f_X5_parseNeighbour
    rw [h9, if_pos (show nI k < (8 : Int32) from nI_lt (b := 8) (by omega) (by decide)), ck_nI (by omega) (by decide), hR.r2_0, D_si hR 3 (by decide), D_si hR 0 (by decide), nI_clamp (by omega), D_nb hR (by omega), show (0 : Int32) = nI 0 from rfl, show (999 : Int32) = nI 999 from rfl, show (99999 : Int32) = nI 99999 from rfl, e1, bd_some, ck_nI (by omega) (by decide), sq_eq, ← u2, e3, bd_some, sq_eq, ← u4, e5, bd_some, sq_eq, ← u6, e7, bd_some, sq_eq, ← u8, sq_eq, ← u9]
    exact hh
  cases hq : d.2.2.2 with
  | none =>
    rw [hq] at A9
    have A : At s9 tx (59 :: rest) := A9
    obtain ⟨t1, f1, B1, g1⟩ := t_numN hN hR A (sk_c0 (c := 59) (by decide) _) (nr_c (c := 59) (by decide) _)
    obtain ⟨t2, v2⟩ : ∃ x, x = up t1 108 9 (nI (k + 1)) := ⟨_, rfl⟩
    have hg2 : ∀ o j, o ≠ 108 ∨ j ≠ 9 → t2 o j = t1 o j := fun o j h => by rw [v2]; exact if_neg (by omega)
    refine ⟨t2, hun _ ?_, B1.of (fun o j h => hg2 o j (by omega)), ⟨(by rw [hg2 112 k (by omega), g1 112 k (by omega)]; exact (by rw [hf9 112 k (by omega), hf8 112 k (by omega), m7 112 k (by omega), hf6 112 k (by omega), m5 112 k (by omega), hf4 112 k (by omega), m3 112 k (by omega), he2])), (by rw [hg2 (118 + 3 * k) 2 (by omega), g1 (118 + 3 * k) 2 (by omega)]; exact (by rw [hf9 (118 + 3 * k) 2 (by omega), hf8 (118 + 3 * k) 2 (by omega), m7 (118 + 3 * k) 2 (by omega), hf6 (118 + 3 * k) 2 (by omega), m5 (118 + 3 * k) 2 (by omega), he4])), (by rw [hg2 (118 + 3 * k) 3 (by omega), g1 (118 + 3 * k) 3 (by omega)]; exact (by rw [hf9 (118 + 3 * k) 3 (by omega), hf8 (118 + 3 * k) 3 (by omega), m7 (118 + 3 * k) 3 (by omega), he6])), (by rw [hg2 (118 + 3 * k) 4 (by omega), g1 (118 + 3 * k) 4 (by omega)]; exact (by rw [hf9 (118 + 3 * k) 4 (by omega), he8])), (by rw [hq]; exact (show t2 (118 + 3 * k) 5 = nI 0 from (by rw [hg2 (118 + 3 * k) 5 (by omega), g1 (118 + 3 * k) 5 (by omega)]; exact (by rw [he9])))), fun q e => by rw [hq] at e; cases e⟩, by rw [v2]; exact if_pos ⟨rfl, rfl⟩, fun o j h1 h2 h3 h4 h5 h6 => by rw [hg2 o j (by omega), g1 o j (by omega), hf9 o j (by omega), hf8 o j (by omega), m7 o j (by omega), hf6 o j (by omega), m5 o j (by omega), hf4 o j (by omega), m3 o j (by omega), hf2 o j (by omega), m1 o j (by omega)]⟩
    rw [show f_X5_parseNeighbour_106 N R N s9 2 108 (118 + 3 * k) (nI 0) = f_X5_parseNeighbour_106 N R (n + 1 + 1) s9 2 108 (118 + 3 * k) (nI 0) from by rw [hn]]
    rw [f_X5_parseNeighbour_106, if_neg (by decide), hR.r2_0, t_failed A, bd_some, if_pos rfl, f1, bd_some, if_pos rfl]
    unfold f_X5_parseNeighbour_144
    rw [sq_eq, g1 108 9 (by omega), h9n, nI_1, ← v2]
  | some q =>
    obtain ⟨q1, q2, q3, q4⟩ := d4 q (by rw [hq]; exact Option.mem_some_self q)
    rw [hq] at A9
    have A : At s9 tx (32 :: (dec q.1 ++ 32 :: (kwL 1 ++ 32 :: (dec q.2 ++ 59 :: rest)))) := by
      have e : prQ (some q) ++ 59 :: rest = 32 :: (dec q.1 ++ 32 :: (kwL 1 ++ 32 :: (dec q.2 ++ 59 :: rest))) := by
        show (kwL 11 ++ (dec q.1 ++ (kwL 19 ++ dec q.2))) ++ 59 :: rest = _
        simp only [List.append_assoc]
        rfl
      rw [← e]
      exact A9
    obtain ⟨t1, f1, B1, g1⟩ := t_numF hN hR (v := q.1) (by omega) A (sk_dec (by omega) _) (nr_c (c := 32) (by decide) _)
    obtain ⟨t2, f2, B2, g2⟩ := t_num hN hR (v := q.1) (by omega) B1 (sk_dec0 (by omega) _) (nr_c (c := 32) (by decide) _) (lo := 0) (hi := 1439) (by omega) (by omega) (by omega)
    obtain ⟨t3, f3, B3, g3⟩ := t_word hN hR (w := 1) (by decide) B2 (sk_c (c := 116) (by decide) _) (nr_c (c := 32) (by decide) _)
    have f4 := t_need (N := N) (R := R) (σ := t3) 1 (by decide)
    obtain ⟨t4, f5, B4, g4⟩ := t_num hN hR (v := q.2) (by omega) B3 (sk_dec (by omega) _) (nr_c (c := 59) (by decide) _) (lo := q.1 + 1) (hi := 1440) (by omega) (by omega) (by omega)
    have c5 : s9 (118 + 3 * k) 5 = nI 0 := he9
    have c5a : t1 (118 + 3 * k) 5 = nI 0 := (g1 _ _ (by omega)).trans c5
    have c5b : t4 (118 + 3 * k) 5 = nI 0 := (g4 _ _ (by omega)).trans ((g3 _ _ (by omega)).trans ((g2 _ _ (by omega)).trans c5a))
    obtain ⟨t5, v5⟩ : ∃ x, x = up t4 (119 + 3 * k) 0 (nI q.1) := ⟨_, rfl⟩
    have hg5 : ∀ o j, o ≠ 119 + 3 * k ∨ j ≠ 0 → t5 o j = t4 o j := fun o j h => by rw [v5]; exact if_neg (by omega)
    have c5c : t5 (118 + 3 * k) 5 = nI 0 := (hg5 _ _ (by omega)).trans c5b
    obtain ⟨t6, v6⟩ : ∃ x, x = up t5 (120 + 3 * k) 0 (nI q.2) := ⟨_, rfl⟩
    have hg6 : ∀ o j, o ≠ 120 + 3 * k ∨ j ≠ 0 → t6 o j = t5 o j := fun o j h => by rw [v6]; exact if_neg (by omega)
    have c5d : t6 (118 + 3 * k) 5 = nI 0 := (hg6 _ _ (by omega)).trans c5c
    obtain ⟨t7, v7⟩ : ∃ x, x = up t6 (118 + 3 * k) 5 (nI (0 + 1)) := ⟨_, rfl⟩
    have hg7 : ∀ o j, o ≠ 118 + 3 * k ∨ j ≠ 5 → t7 o j = t6 o j := fun o j h => by rw [v7]; exact if_neg (by omega)
    have B7 : At t7 tx (59 :: rest) := B4.of (fun o j h => by rw [hg7 o j (by omega), hg6 o j (by omega), hg5 o j (by omega)])
    obtain ⟨t8, f8, B8, g8⟩ := t_numN hN hR B7 (sk_c0 (c := 59) (by decide) _) (nr_c (c := 59) (by decide) _)
    obtain ⟨t9, v9⟩ : ∃ x, x = up t8 108 9 (nI (k + 1)) := ⟨_, rfl⟩
    have hg9 : ∀ o j, o ≠ 108 ∨ j ≠ 9 → t9 o j = t8 o j := fun o j h => by rw [v9]; exact if_neg (by omega)
    refine ⟨t9, hun _ ?_, B8.of (fun o j h => hg9 o j (by omega)), ⟨(by rw [hg9 112 k (by omega), g8 112 k (by omega), hg7 112 k (by omega), hg6 112 k (by omega), hg5 112 k (by omega), g4 112 k (by omega), g3 112 k (by omega), g2 112 k (by omega), g1 112 k (by omega)]; exact (by rw [hf9 112 k (by omega), hf8 112 k (by omega), m7 112 k (by omega), hf6 112 k (by omega), m5 112 k (by omega), hf4 112 k (by omega), m3 112 k (by omega), he2])), (by rw [hg9 (118 + 3 * k) 2 (by omega), g8 (118 + 3 * k) 2 (by omega), hg7 (118 + 3 * k) 2 (by omega), hg6 (118 + 3 * k) 2 (by omega), hg5 (118 + 3 * k) 2 (by omega), g4 (118 + 3 * k) 2 (by omega), g3 (118 + 3 * k) 2 (by omega), g2 (118 + 3 * k) 2 (by omega), g1 (118 + 3 * k) 2 (by omega)]; exact (by rw [hf9 (118 + 3 * k) 2 (by omega), hf8 (118 + 3 * k) 2 (by omega), m7 (118 + 3 * k) 2 (by omega), hf6 (118 + 3 * k) 2 (by omega), m5 (118 + 3 * k) 2 (by omega), he4])), (by rw [hg9 (118 + 3 * k) 3 (by omega), g8 (118 + 3 * k) 3 (by omega), hg7 (118 + 3 * k) 3 (by omega), hg6 (118 + 3 * k) 3 (by omega), hg5 (118 + 3 * k) 3 (by omega), g4 (118 + 3 * k) 3 (by omega), g3 (118 + 3 * k) 3 (by omega), g2 (118 + 3 * k) 3 (by omega), g1 (118 + 3 * k) 3 (by omega)]; exact (by rw [hf9 (118 + 3 * k) 3 (by omega), hf8 (118 + 3 * k) 3 (by omega), m7 (118 + 3 * k) 3 (by omega), he6])), (by rw [hg9 (118 + 3 * k) 4 (by omega), g8 (118 + 3 * k) 4 (by omega), hg7 (118 + 3 * k) 4 (by omega), hg6 (118 + 3 * k) 4 (by omega), hg5 (118 + 3 * k) 4 (by omega), g4 (118 + 3 * k) 4 (by omega), g3 (118 + 3 * k) 4 (by omega), g2 (118 + 3 * k) 4 (by omega), g1 (118 + 3 * k) 4 (by omega)]; exact (by rw [hf9 (118 + 3 * k) 4 (by omega), he8])), ?_, fun q2 e => ?_⟩, by rw [v9]; exact if_pos ⟨rfl, rfl⟩, fun o j h1 h2 h3 h4 h5 h6 => by rw [hg9 o j (by omega), g8 o j (by omega), hg7 o j (by omega), hg6 o j (by omega), hg5 o j (by omega), g4 o j (by omega), g3 o j (by omega), g2 o j (by omega), g1 o j (by omega), hf9 o j (by omega), hf8 o j (by omega), m7 o j (by omega), hf6 o j (by omega), m5 o j (by omega), hf4 o j (by omega), m3 o j (by omega), hf2 o j (by omega), m1 o j (by omega)]⟩
    · rw [show f_X5_parseNeighbour_106 N R N s9 2 108 (118 + 3 * k) (nI 0) = f_X5_parseNeighbour_106 N R (n + 1 + 1) s9 2 108 (118 + 3 * k) (nI 0) from by rw [hn]]
      have hw : f_X5_parseWindow N R t1 2 (118 + 3 * k) = some ((), t7) := by
        unfold f_X5_parseWindow
        rw [c5a, if_pos (by decide), hR.r2_0, show (0 : Int32) = nI 0 from rfl, show (1439 : Int32) = nI 1439 from rfl, f2, bd_some, f3, bd_some, f4, bd_some, nI_1, show (1440 : Int32) = nI 1440 from rfl, f5, bd_some]
        unfold f_X4_addWindow
        rw [c5b, if_neg (by decide), ck_nI (by decide) (by decide), (D_nbA hR (by omega : k < 8)).1, (D_nbA hR (by omega : k < 8)).2, nI_clamp (by decide), sq_eq, ← v5, c5c, ck_nI (by decide) (by decide), nI_clamp (by decide), sq_eq, ← v6, sq_eq, c5d, nI_1, ← v7, bd_some]
      rw [f_X5_parseNeighbour_106, if_neg (by decide), hR.r2_0, t_failed A, bd_some, if_pos rfl, f1, bd_some, if_neg (by decide), hw, bd_some, f_X5_parseNeighbour_106, if_neg (by decide), hR.r2_0, t_failed B7, bd_some, if_pos rfl, f8, bd_some, if_pos rfl]
      unfold f_X5_parseNeighbour_144
      have h9m : t8 108 9 = nI k := by rw [g8 108 9 (by omega), hg7 108 9 (by omega), hg6 108 9 (by omega), hg5 108 9 (by omega), g4 108 9 (by omega), g3 108 9 (by omega), g2 108 9 (by omega), g1 108 9 (by omega), h9n]
      rw [sq_eq, h9m, nI_1, ← v9]
    · rw [hq, hg9 _ _ (by omega), g8 _ _ (by omega), v7]
      exact if_pos ⟨rfl, rfl⟩
    · rw [hq] at e
      cases e
      refine ⟨?_, ?_⟩
      · rw [hg9 _ _ (by omega), g8 _ _ (by omega), hg7 _ _ (by omega), hg6 _ _ (by omega), v5]
        exact if_pos ⟨rfl, rfl⟩
      · rw [hg9 _ _ (by omega), g8 _ _ (by omega), hg7 _ _ (by omega), v6]
        exact if_pos ⟨rfl, rfl⟩
end VLN
