/-! ===== the planner's reader, line by line ===== -/
/-- the references of the site that is drafted -/
def rX (R : Nat → Nat → Nat) (d : Nat) : Nat → Nat → Nat := fun o k => if o = 1 ∧ k = 8 then d else if o = 1 ∧ k = 9 then 146 - d else R o k
theorem rX_ne {R : Nat → Nat → Nat} {d o k : Nat} (h : o ≠ 1) : rX R d o k = R o k := by
  unfold rX
  rw [if_neg (by omega), if_neg (by omega)]
theorem rX_ro {R : Nat → Nat → Nat} {s d : Nat} (h : RO R s) (hd : d = 38 ∨ d = 108) : RO (rX R d) d :=
  ⟨hd, if_pos ⟨rfl, rfl⟩, by unfold rX; rw [if_neg (by omega), if_pos ⟨rfl, rfl⟩], fun o k q h7 => by
    by_cases ho : o = 1
    · unfold rX
      rw [if_neg (by omega), if_neg (by omega)]
      exact h.2.2.2 o k q h7
    · rw [rX_ne ho]
      exact h.2.2.2 o k q h7⟩
section VDS
variable {s : Nat} {R : Nat → Nat → Nat}
theorem D_si (h : RO R s) (k : Nat) (hk : k < 9) : R 108 k = 109 + k := by
  have e := (rX_ro h (d := 108) (Or.inr rfl)).si k hk
  rw [rX_ne (by decide)] at e
  exact e
theorem D_nb (h : RO R s) {n : Nat} (hn : n < 8) : R 109 n = 118 + 3 * n := by
  have e := (rX_ro h (d := 108) (Or.inr rfl)).nb n hn
  rw [rX_ne (by decide)] at e
  exact e
theorem D_nbA (h : RO R s) {n : Nat} (hn : n < 8) : R (118 + 3 * n) 0 = 119 + 3 * n ∧ R (118 + 3 * n) 1 = 120 + 3 * n := by
  have e := (rX_ro h (d := 108) (Or.inr rfl)).nbA n hn
  refine ⟨?_, ?_⟩
  · have := e 0 (by decide)
    rw [rX_ne (by omega)] at this
    exact this
  · have := e 1 (by decide)
    rw [rX_ne (by omega)] at this
    exact (show R (118 + 3 * n) 1 = 108 + 11 + 3 * n + 1 from this).trans (by omega)
theorem D_rd (h : RO R s) {n : Nat} (hn : n < 6) : R 110 n = 142 + n := by
  have e := (rX_ro h (d := 108) (Or.inr rfl)).rd n hn
  rw [rX_ne (by decide)] at e
  exact e
theorem D_bl (h : RO R s) {n : Nat} (hn : n < 6) : R 111 n = 148 + 5 * n := by
  have e := (rX_ro h (d := 108) (Or.inr rfl)).bl n hn
  rw [rX_ne (by decide)] at e
  exact e
theorem D_blA (h : RO R s) {n : Nat} (hn : n < 6) : R (148 + 5 * n) 0 = 149 + 5 * n ∧ R (148 + 5 * n) 1 = 150 + 5 * n := by
  have e := (rX_ro h (d := 108) (Or.inr rfl)).blA n hn
  refine ⟨?_, ?_⟩
  · have := e 0 (by decide)
    rw [rX_ne (by omega)] at this
    exact this
  · have := e 1 (by decide)
    rw [rX_ne (by omega)] at this
    exact (show R (148 + 5 * n) 1 = 108 + 41 + 5 * n + 1 from this).trans (by omega)
end VDS
theorem nsp_dec {v : Nat} (hv : v < 10000) (r : List Nat) : NSp (dec v ++ r) := by
  intro c r2 h
  have hm : c ∈ dec v := by
    cases hd : dec v with
    | nil => exact absurd hd dec_ne.1
    | cons x xs =>
      rw [hd, List.cons_append] at h
      cases h
      exact List.mem_cons_self
  have := dec_asc hv c hm
  omega
theorem sk_dec {v : Nat} (hv : v < 10000) (r : List Nat) : Sk (32 :: (dec v ++ r)) (dec v ++ r) := ⟨Or.inr rfl, nsp_dec hv r⟩
theorem sk_dec0 {v : Nat} (hv : v < 10000) (r : List Nat) : Sk (dec v ++ r) (dec v ++ r) := ⟨Or.inl rfl, nsp_dec hv r⟩
theorem nsp_c {c : Nat} (h : 32 < c ∧ c < 128) (r : List Nat) : NSp (c :: r) := fun x r2 e => by cases e; omega
theorem sk_c {c : Nat} (h : 32 < c ∧ c < 128) (r : List Nat) : Sk (32 :: (c :: r)) (c :: r) := ⟨Or.inr rfl, nsp_c h r⟩
theorem sk_c0 {c : Nat} (h : 32 < c ∧ c < 128) (r : List Nat) : Sk (c :: r) (c :: r) := ⟨Or.inl rfl, nsp_c h r⟩
theorem nr_c {c lo hi : Nat} (h : c < 128 ∧ (c < lo ∨ hi < c)) (r : List Nat) : NRun lo hi (c :: r) := fun x r2 e => by cases e; exact h
/-- what a neighbour, a road, a blast of the drafted site hold -/
def NC (σ : SI) (j : Nat) (d : NDt) : Prop := σ 112 j = nI (14 + j) ∧ σ (118 + 3 * j) 2 = nI d.1 ∧ σ (118 + 3 * j) 3 = nI d.2.1 ∧ σ (118 + 3 * j) 4 = nI d.2.2.1 ∧ σ (118 + 3 * j) 5 = nI (if d.2.2.2 = none then 0 else 1) ∧ ∀ q, d.2.2.2 = some q → σ (119 + 3 * j) 0 = nI q.1 ∧ σ (120 + 3 * j) 0 = nI q.2
def RC (σ : SI) (j : Nat) (d : RDt) : Prop := σ 113 j = nI (18 + j) ∧ σ (142 + j) 0 = nI d.1 ∧ σ (142 + j) 1 = nI d.2.1 ∧ σ (142 + j) 2 = nI d.2.2.1 ∧ σ (142 + j) 3 = nI d.2.2.2
def BC (σ : SI) (j : Nat) (d : BDt) : Prop := σ 114 j = nI (2 + j) ∧ σ (148 + 5 * j) 4 = nI d.1 ∧ σ (148 + 5 * j) 5 = nI d.2.1 ∧ σ (148 + 5 * j) 6 = nI d.2.2.1 ∧ σ (148 + 5 * j) 7 = nI d.2.2.2.length ∧ σ (148 + 5 * j) 13 = 0 ∧ ∀ c, c < d.2.2.2.length → σ (149 + 5 * j) c = nI (d.2.2.2.getD c (0, 0)).1 ∧ σ (150 + 5 * j) c = nI (d.2.2.2.getD c (0, 0)).2
section VLN
variable {N s : Nat} {R : Nat → Nat → Nat} {σ : SI} {tx : List Nat}

set_option maxHeartbeats 4000000 in
theorem c_road (hN : 2000 ≤ N) (hR : RO R s) {d : RDt} (hd : RdOk d) {k : Nat} (hk : k < 2) {rest : List Nat} (h : At σ tx (32 :: (114 + k) :: 32 :: (dec d.1 ++ 32 :: (dec d.2.1 ++ 32 :: (dec d.2.2.1 ++ 32 :: (dec d.2.2.2 ++ 59 :: rest)))))) (h9 : σ 108 10 = nI k) (hnm : ∀ j, j < k → σ 113 j = nI (18 + j)) (x : Int32) : ∃ σ', f_X5_parseRoad N R σ 2 108 x = some ((), σ') ∧ At σ' tx (59 :: rest) ∧ RC σ' k d ∧ σ' 108 10 = nI (k + 1) ∧ ∀ o j, o ≠ 3 ∨ j ≠ 2 → ¬ (o = 113 ∧ j = k) → ¬ (o = 108 ∧ j = 10) → o ≠ 142 + k → σ' o j = σ o j := by
  obtain ⟨d1, d2, d3, d4⟩ := hd
  obtain ⟨s1, e1, A1, m1⟩ := t_name hN hR (c := 114 + k) (by omega) h (sk_c (by omega) _) (nr_c (c := 32) (by decide) _) (q1 := 6) (arr := 113) (cnt := k) (by omega) (by decide) (by decide) (fun j hj => by rw [hnm j hj]; exact nI_ne' (by omega) (by omega) (by omega))
  rw [show 114 + k - 96 = 18 + k by omega] at e1
  obtain ⟨s2, u2⟩ : ∃ x, x = up s1 113 k (nI (18 + k)) := ⟨_, rfl⟩
  have he2 : s2 113 k = (nI (18 + k)) := by rw [u2]; exact if_pos ⟨rfl, rfl⟩
  have hf2 : ∀ o j, o ≠ 113 ∨ j ≠ k → s2 o j = s1 o j := fun o j h => by rw [u2]; exact if_neg (by omega)
  have A2 : At s2 tx _ := A1.of (fun o j h => hf2 o j (by omega))
  obtain ⟨s3, e3, A3, m3⟩ := t_num hN hR (v := d.1) (by omega) A2 (sk_dec (by omega) _) (nr_c (c := 32) (by decide) _) (lo := 0) (hi := 999) (by omega) (by omega) (by omega)
  obtain ⟨s4, u4⟩ : ∃ x, x = up s3 (142 + k) 0 (nI d.1) := ⟨_, rfl⟩
  have he4 : s4 (142 + k) 0 = (nI d.1) := by rw [u4]; exact if_pos ⟨rfl, rfl⟩
  have hf4 : ∀ o j, o ≠ (142 + k) ∨ j ≠ 0 → s4 o j = s3 o j := fun o j h => by rw [u4]; exact if_neg (by omega)
  have A4 : At s4 tx _ := A3.of (fun o j h => hf4 o j (by omega))
  obtain ⟨s5, e5, A5, m5⟩ := t_num hN hR (v := d.2.1) (by omega) A4 (sk_dec (by omega) _) (nr_c (c := 32) (by decide) _) (lo := 0) (hi := 999) (by omega) (by omega) (by omega)
  obtain ⟨s6, u6⟩ : ∃ x, x = up s5 (142 + k) 1 (nI d.2.1) := ⟨_, rfl⟩
  have he6 : s6 (142 + k) 1 = (nI d.2.1) := by rw [u6]; exact if_pos ⟨rfl, rfl⟩
  have hf6 : ∀ o j, o ≠ (142 + k) ∨ j ≠ 1 → s6 o j = s5 o j := fun o j h => by rw [u6]; exact if_neg (by omega)
  have A6 : At s6 tx _ := A5.of (fun o j h => hf6 o j (by omega))
  obtain ⟨s7, e7, A7, m7⟩ := t_num hN hR (v := d.2.2.1) (by omega) A6 (sk_dec (by omega) _) (nr_c (c := 32) (by decide) _) (lo := 0) (hi := 999) (by omega) (by omega) (by omega)
  obtain ⟨s8, u8⟩ : ∃ x, x = up s7 (142 + k) 2 (nI d.2.2.1) := ⟨_, rfl⟩
  have he8 : s8 (142 + k) 2 = (nI d.2.2.1) := by rw [u8]; exact if_pos ⟨rfl, rfl⟩
  have hf8 : ∀ o j, o ≠ (142 + k) ∨ j ≠ 2 → s8 o j = s7 o j := fun o j h => by rw [u8]; exact if_neg (by omega)
  have A8 : At s8 tx _ := A7.of (fun o j h => hf8 o j (by omega))
  obtain ⟨s9, e9, A9, m9⟩ := t_num hN hR (v := d.2.2.2) (by omega) A8 (sk_dec (by omega) _) (nr_c (c := 59) (by decide) _) (lo := 0) (hi := 999) (by omega) (by omega) (by omega)
  obtain ⟨s10, u10⟩ : ∃ x, x = up s9 (142 + k) 3 (nI d.2.2.2) := ⟨_, rfl⟩
  have he10 : s10 (142 + k) 3 = (nI d.2.2.2) := by rw [u10]; exact if_pos ⟨rfl, rfl⟩
  have hf10 : ∀ o j, o ≠ (142 + k) ∨ j ≠ 3 → s10 o j = s9 o j := fun o j h => by rw [u10]; exact if_neg (by omega)
  have A10 : At s10 tx _ := A9.of (fun o j h => hf10 o j (by omega))
  have hc : s10 108 10 = nI k := by rw [hf10 108 10 (by omega), m9 108 10 (by omega), hf8 108 10 (by omega), m7 108 10 (by omega), hf6 108 10 (by omega), m5 108 10 (by omega), hf4 108 10 (by omega), m3 108 10 (by omega), hf2 108 10 (by omega), m1 108 10 (by omega), h9]
  obtain ⟨s11, u11⟩ : ∃ x, x = up s10 108 10 (nI (k + 1)) := ⟨_, rfl⟩
  have he11 : s11 108 10 = (nI (k + 1)) := by rw [u11]; exact if_pos ⟨rfl, rfl⟩
  have hf11 : ∀ o j, o ≠ 108 ∨ j ≠ 10 → s11 o j = s10 o j := fun o j h => by rw [u11]; exact if_neg (by omega)
  have A11 : At s11 tx _ := A10.of (fun o j h => hf11 o j (by omega))
  refine ⟨s11, ?_, A11, ⟨(by rw [hf11 113 k (by omega), hf10 113 k (by omega), m9 113 k (by omega), hf8 113 k (by omega), m7 113 k (by omega), hf6 113 k (by omega), m5 113 k (by omega), hf4 113 k (by omega), m3 113 k (by omega), he2]), (by rw [hf11 (142 + k) 0 (by omega), hf10 (142 + k) 0 (by omega), m9 (142 + k) 0 (by omega), hf8 (142 + k) 0 (by omega), m7 (142 + k) 0 (by omega), hf6 (142 + k) 0 (by omega), m5 (142 + k) 0 (by omega), he4]), (by rw [hf11 (142 + k) 1 (by omega), hf10 (142 + k) 1 (by omega), m9 (142 + k) 1 (by omega), hf8 (142 + k) 1 (by omega), m7 (142 + k) 1 (by omega), he6]), (by rw [hf11 (142 + k) 2 (by omega), hf10 (142 + k) 2 (by omega), m9 (142 + k) 2 (by omega), he8]), (by rw [hf11 (142 + k) 3 (by omega), he10])⟩, he11, fun o j h1 h2 h3 h4 => by rw [hf11 o j (by omega), hf10 o j (by omega), m9 o j (by omega), hf8 o j (by omega), m7 o j (by omega), hf6 o j (by omega), m5 o j (by omega), hf4 o j (by omega), m3 o j (by omega), hf2 o j (by omega), m1 o j (by omega)]⟩
  unfold f_X5_parseRoad
  rw [h9, if_pos (show nI k < (6 : Int32) from nI_lt (b := 6) (by omega) (by decide)), ck_nI (by omega) (by decide), hR.r2_0, D_si hR 4 (by decide), D_si hR 1 (by decide), nI_clamp (by omega), D_rd hR (by omega), show (0 : Int32) = nI 0 from rfl, show (999 : Int32) = nI 999 from rfl, e1, bd_some, ck_nI (by omega) (by decide), sq_eq, ← u2, e3, bd_some, sq_eq, ← u4, e5, bd_some, sq_eq, ← u6, e7, bd_some, sq_eq, ← u8, e9, bd_some, sq_eq, ← u10]
  rw [sq_eq, hc, nI_1, ← u11]
end VLN
