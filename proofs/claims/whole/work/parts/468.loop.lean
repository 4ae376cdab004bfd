/-! ===== all lines, in step ===== -/
section LOOP
variable {N : Nat} {R : Nat → Nat → Nat} {s : Nat} {Q : Nat → Nat → Nat} {s2 : Nat} {B : Nat → Int32} {n D : Nat}
theorem TS.low {k k' : Nat} {ok : Bool} {σc σm : SI} (h : TS B n k ok σc σm) (hk : k' ≤ k) : TS B n k' ok σc σm := by
  obtain ⟨p, q, h1, h2, h3, h4⟩ := h
  refine ⟨p, q, h1, h2, fun z => ?_, h4⟩
  have := h3 z
  exact ⟨this.1, by omega, this.2.2⟩
theorem p65 {k : Nat} {ok : Bool} {σc σm : SI} (hR : RO R s) (h : TS B n k ok σc σm) : f_X5_parse_65 N R σc 2 = some (bI ok, σc) := by
  unfold f_X5_parse_65
  rw [hR.r2_0, h.failed.1, bd_some]
  cases ok
  · rw [Bool.not_false, bI_t, if_neg (by decide)]
    rfl
  · rw [Bool.not_true, bI_f, if_pos rfl]
    rfl
theorem T_loop (hN : 2000 ≤ N) (hR : RO R s) (hQ : RO Q s2) (hO : DO R D) : ∀ (f x k fc fm : Nat) (σc σm : SI), n - k ≤ f → x ≤ k → f + 2 < fc → f + 2 < fm → TS B n k true σc σm → DT σc σm D → ∃ (ok' : Bool) (σc' σm' : SI), f_X5_parse_13 N R fc σc 2 D (nI x) = some (bI ok', σc') ∧ bd (f_X12_blanks N Q σm 178) (fun _ σ => f_X12_load_68 N Q fm σ 178) = f_X12_load_97 N Q σm' 178 ∧ TS B n 0 ok' σc' σm' ∧ LC D σc σc' ∧ LM σm σm' ∧ (ok' = true → DT σc' σm' D) := by
  intro f
  induction f with
  | zero =>
    intro x k fc fm σc σm hf hx hfc hfm h d
    have hD := hO.1
    obtain ⟨fc, rfl⟩ : ∃ q, fc = q + 1 := ⟨fc - 1, by omega⟩
    obtain ⟨fm, rfl⟩ : ∃ q, fm = q + 1 := ⟨fm - 1, by omega⟩
    obtain ⟨σ1, μ1, p, e1, g1, T1, z2, z4, z5, hpn, hkp, spp, F1, G1⟩ := T_blanks hN hR hQ h
    obtain ⟨pc, pm, k1, k2, k3, -⟩ := id T1
    have h8 := k1.1
    obtain rfl : p = n := by omega
    rw [f_X5_parse_13, if_neg (show ¬ (800 : Int32) < nI x by rw [show (800 : Int32) = nI 800 from rfl, nI_ltI (by omega) (by have := k1.2.1; omega)]; omega), hR.r2_0, h.failed.1, bd_some, Bool.not_true, bI_f, if_pos rfl]
    unfold f_X10_atEnd
    rw [e1, bd_some, k1.2.2.1, z2, if_neg (show ¬ nI p < nI p by rw [nI_ltI (by omega) (by omega)]; omega), bd_some, if_neg (by decide), p65 hR T1, g1, bd_some, f_X12_load_68, T1.failed.2, bd_some, Bool.not_true, bI_f, if_pos rfl, k2.2.2.1, z4, if_pos (show nI p ≤ nI p by rw [nI_leI (by omega) (by omega)]; omega)]
    exact ⟨true, σ1, μ1, rfl, rfl, T1.low (by omega), LC.of F1, LM.of G1, fun _ => d.fr (by omega) F1 G1⟩
  | succ f ih =>
    intro x k fc fm σc σm hf hx hfc hfm h d
    have hD := hO.1
    obtain ⟨fc, rfl⟩ : ∃ q, fc = q + 1 := ⟨fc - 1, by omega⟩
    obtain ⟨fm, rfl⟩ : ∃ q, fm = q + 1 := ⟨fm - 1, by omega⟩
    obtain ⟨σ1, μ1, p, e1, g1, T1, z2, z4, z5, hpn, hkp, spp, F1, G1⟩ := T_blanks hN hR hQ h
    obtain ⟨pc, pm, k1, k2, k3, -⟩ := id T1
    have h8 := k1.1
    have d1 := d.fr (by omega) F1 G1
    rw [f_X5_parse_13, if_neg (show ¬ (800 : Int32) < nI x by rw [show (800 : Int32) = nI 800 from rfl, nI_ltI (by omega) (by omega)]; omega), hR.r2_0, h.failed.1, bd_some, Bool.not_true, bI_f, if_pos rfl]
    unfold f_X10_atEnd
    rw [e1, bd_some, k1.2.2.1, z2, g1, bd_some, f_X12_load_68, T1.failed.2, bd_some, Bool.not_true, bI_f, if_pos rfl, k2.2.2.1, z4]
    by_cases c : p < n
    · rw [if_pos (show nI p < nI n by rw [nI_ltI (by omega) (by omega)]; exact c), if_neg (show ¬ nI n ≤ nI p by rw [nI_leI (by omega) (by omega)]; omega), bd_some, if_pos rfl]
      obtain ⟨ok2, σ2, μ2, e2, g2, T2, F2, G2, v2⟩ := T_body hN hR hQ hO T1 d1 z2 z5 ⟨spp, by omega⟩
      obtain ⟨ok3, a, σ3, σ4, μ4, e3, e4, g4, T4, F4, G4, v4⟩ := T_semi hN hR hQ T2
      rw [e2, bd_some, e3, bd_some, e4, bd_some, g2, g4, bd_some, nI_1]
      cases ok3
      · obtain ⟨μ5, g5, T5, G5⟩ := M_blanks hN hQ T4
        obtain ⟨fc, rfl⟩ : ∃ q, fc = q + 1 := ⟨fc - 1, by omega⟩
        obtain ⟨fm, rfl⟩ : ∃ q, fm = q + 1 := ⟨fm - 1, by omega⟩
        have e5 : f_X5_parse_13 N R (fc + 1) σ4 2 D (nI (x + 1)) = some (0, σ4) := by
          rw [f_X5_parse_13, p65 hR T4, hR.r2_0, T4.failed.1, bd_some, Bool.not_false, bI_t, if_neg (show ¬ (1 : Int32) = 0 by decide), p65 hR T4]
          split <;> rfl
        rw [e5, g5, bd_some, f_X12_load_68, T5.failed.2, bd_some, Bool.not_false, bI_t, if_neg (by decide)]
        exact ⟨false, σ4, μ5, rfl, rfl, T5.low (by omega), (LC.of F1).tr (F2.tr (LC.of F4)), (LM.of G1).tr (G2.tr ((LM.of G4).tr (LM.of G5))), fun z => by cases z⟩
      · obtain ⟨ok5, σ5, μ5, i1, i2, T5, F5, G5, v5⟩ := ih (x + 1) (k + 1) fc fm σ4 μ4 (by omega) (by omega) (by omega) (by omega) T4 ((v2 (v4 rfl)).fr (by omega) F4 G4)
        exact ⟨ok5, σ5, μ5, i1, i2, T5, (LC.of F1).tr (F2.tr ((LC.of F4).tr F5)), (LM.of G1).tr (G2.tr ((LM.of G4).tr G5)), v5⟩
    · rw [if_neg (show ¬ nI p < nI n by rw [nI_ltI (by omega) (by omega)]; exact c), if_pos (show nI n ≤ nI p by rw [nI_leI (by omega) (by omega)]; omega), bd_some, if_neg (by decide), p65 hR T1]
      exact ⟨true, σ1, μ1, rfl, rfl, T1.low (by omega), LC.of F1, LM.of G1, fun _ => d1⟩
/-! the two fresh starts -/
theorem c_rs82 (hO : DO R D) : ∀ (m i fuel : Nat) (σ : SI), i + m = 6 → m < fuel → ∃ σ', f_X9_reset_82 N R fuel σ D (nI i) = some ((), σ') ∧ (∀ j, i ≤ j → j < 6 → σ' (D + 7) j = -1) ∧ ∀ o j, o ≠ D + 7 ∨ j < i → σ' o j = σ o j := by
  intro m
  induction m with
  | zero =>
    intro i fuel σ hi hfu
    obtain ⟨fuel, rfl⟩ : ∃ q, fuel = q + 1 := ⟨fuel - 1, by omega⟩
    refine ⟨σ, ?_, fun j a b => absurd b (by omega), fun _ _ _ => rfl⟩
    rw [f_X9_reset_82, if_pos (by rw [show (6 : Int32) = nI 6 from rfl, nI_leI (by omega) (by omega)]; omega)]
  | succ m ih =>
    intro i fuel σ hi hfu
    obtain ⟨fuel, rfl⟩ : ∃ q, fuel = q + 1 := ⟨fuel - 1, by omega⟩
    obtain ⟨σ', i1, i2, i3⟩ := ih (i + 1) fuel (up σ (D + 7) i (-1)) (by omega) (by omega)
    refine ⟨σ', ?_, fun j a b => ?_, fun o j q => (i3 o j (by omega)).trans (if_neg (by omega))⟩
    · rw [f_X9_reset_82, if_neg (by rw [show (6 : Int32) = nI 6 from rfl, nI_leI (by omega) (by omega)]; omega), ck_nI (by omega) (by decide), hO.2.1 6 (by omega), nI_clamp (by omega), sq_eq, nI_1]
      exact i1
    · by_cases c : j = i
      · rw [c, i3 _ _ (by omega), up_th]
      · exact i2 j (by omega) b
theorem c_rs54 (hN : 2000 ≤ N) (hO : DO R D) : ∀ (m i fuel : Nat) (σ : SI), i + m = 24 → m < fuel → ∃ σ', f_X9_reset_54 N R fuel σ D (nI i) = some ((), σ') ∧ (∀ j, j < 6 → σ' (D + 7) j = -1) ∧ (∀ j, i ≤ j → j < 24 → σ' (D + 8) j = -1 ∧ σ' (D + 9) j = 0) ∧ ∀ o j, (o ≠ D + 7 ∧ ((o ≠ D + 8 ∧ o ≠ D + 9) ∨ j < i)) → σ' o j = σ o j := by
  intro m
  induction m with
  | zero =>
    intro i fuel σ hi hfu
    obtain ⟨fuel, rfl⟩ : ∃ q, fuel = q + 1 := ⟨fuel - 1, by omega⟩
    obtain ⟨σ', i1, i2, i3⟩ := c_rs82 (N := N) hO 6 0 N σ (by omega) (by omega)
    refine ⟨σ', ?_, fun j a => i2 j (by omega) a, fun j a b => absurd b (by omega), fun o j q => i3 o j (by omega)⟩
    rw [f_X9_reset_54, if_pos (by rw [show (24 : Int32) = nI 24 from rfl, nI_leI (by omega) (by omega)]; omega)]
    exact i1
  | succ m ih =>
    intro i fuel σ hi hfu
    obtain ⟨fuel, rfl⟩ : ∃ q, fuel = q + 1 := ⟨fuel - 1, by omega⟩
    obtain ⟨σ', i1, i2, i3, i4⟩ := ih (i + 1) fuel (up (up σ (D + 8) i (-1)) (D + 9) i 0) (by omega) (by omega)
    refine ⟨σ', ?_, i2, fun j a b => ?_, fun o j q => (i4 o j (by omega)).trans ((if_neg (by omega)).trans (if_neg (by omega)))⟩
    · rw [f_X9_reset_54, if_neg (by rw [show (24 : Int32) = nI 24 from rfl, nI_leI (by omega) (by omega)]; omega), ck_nI (by omega) (by decide), hO.2.1 7 (by omega), nI_clamp (by omega), sq_eq, ck_nI (by omega) (by decide), hO.2.1 8 (by omega), sq_eq, nI_1]
      exact i1
    · by_cases c : j = i
      · subst c
        rw [i4 (D + 8) j (by omega), i4 (D + 9) j (by omega)]
        exact ⟨(if_neg (by omega)).trans up_th, up_th⟩
      · exact i3 j (by omega) b
theorem c_reset (hN : 2000 ≤ N) (hO : DO R D) (σ : SI) : ∃ σ', f_X9_reset N R σ D = some ((), σ') ∧ (σ' D 9 = 0 ∧ σ' D 10 = 0 ∧ σ' D 11 = 0 ∧ σ' D 12 = 480 ∧ σ' D 13 = 960 ∧ σ' D 14 = 60 ∧ σ' D 15 = 10 ∧ σ' D 16 = 5 ∧ σ' D 17 = 15) ∧ (∀ j, j < 6 → σ' (D + 7) j = -1) ∧ (∀ j, j < 24 → σ' (D + 8) j = -1 ∧ σ' (D + 9) j = 0) ∧ ∀ o j, o < D ∨ D + 70 ≤ o → σ' o j = σ o j := by
  unfold f_X9_reset
  obtain ⟨σ', i1, i2, i3, i4⟩ := c_rs54 (N := N) (R := R) hN hO 24 0 N (up (up (up (up (up (up (up (up (up σ D 9 0) D 10 0) D 11 0) D 12 480) D 13 960) D 14 60) D 15 10) D 16 5) D 17 15) (by omega) (by omega)
  refine ⟨σ', i1, ⟨?_, ?_, ?_, ?_, ?_, ?_, ?_, ?_, ?_⟩, i2, fun j hj => i3 j (by omega) hj, fun o j q => (i4 o j (by omega)).trans ?_⟩
  · exact (i4 _ _ (by omega)).trans ((if_neg (by omega)).trans ((if_neg (by omega)).trans ((if_neg (by omega)).trans ((if_neg (by omega)).trans ((if_neg (by omega)).trans ((if_neg (by omega)).trans ((if_neg (by omega)).trans ((if_neg (by omega)).trans up_th))))))))
  · exact (i4 _ _ (by omega)).trans ((if_neg (by omega)).trans ((if_neg (by omega)).trans ((if_neg (by omega)).trans ((if_neg (by omega)).trans ((if_neg (by omega)).trans ((if_neg (by omega)).trans ((if_neg (by omega)).trans up_th)))))))
  · exact (i4 _ _ (by omega)).trans ((if_neg (by omega)).trans ((if_neg (by omega)).trans ((if_neg (by omega)).trans ((if_neg (by omega)).trans ((if_neg (by omega)).trans ((if_neg (by omega)).trans up_th))))))
  · exact (i4 _ _ (by omega)).trans ((if_neg (by omega)).trans ((if_neg (by omega)).trans ((if_neg (by omega)).trans ((if_neg (by omega)).trans ((if_neg (by omega)).trans up_th)))))
  · exact (i4 _ _ (by omega)).trans ((if_neg (by omega)).trans ((if_neg (by omega)).trans ((if_neg (by omega)).trans ((if_neg (by omega)).trans up_th))))
  · exact (i4 _ _ (by omega)).trans ((if_neg (by omega)).trans ((if_neg (by omega)).trans ((if_neg (by omega)).trans up_th)))
  · exact (i4 _ _ (by omega)).trans ((if_neg (by omega)).trans ((if_neg (by omega)).trans up_th))
  · exact (i4 _ _ (by omega)).trans ((if_neg (by omega)).trans up_th)
  · exact (i4 _ _ (by omega)).trans up_th
  · exact (if_neg (by omega)).trans ((if_neg (by omega)).trans ((if_neg (by omega)).trans ((if_neg (by omega)).trans ((if_neg (by omega)).trans ((if_neg (by omega)).trans ((if_neg (by omega)).trans ((if_neg (by omega)).trans (if_neg (by omega)))))))))
def bgT (k : Nat) : Int32 := if k = 3 then 480 else if k = 4 then 960 else if k = 5 then 60 else if k = 6 then 10 else if k = 7 then 5 else if k = 8 then 15 else 0
theorem m_bg24 (hQ : RO Q s2) : ∀ (m i fuel : Nat) (σ : SI), i + m = 84 → m < fuel → (∀ k, k < 417 → σ 181 k = 0) → ∃ σ', f_X12_begins_24 N Q fuel σ 178 (nI i) = some ((), σ') ∧ (∀ k, k < 417 → σ' 181 k = bgT k) ∧ (∀ k, i ≤ k → k < 84 → σ' 184 k = if k % 14 = 0 then -1 else 0) ∧ ∀ o k, (o ≠ 181 ∨ 417 ≤ k) → (o ≠ 184 ∨ k < i ∨ 84 ≤ k) → σ' o k = σ o k := by
  intro m
  induction m with
  | zero =>
    intro i fuel σ hi hfu h0
    obtain ⟨fuel, rfl⟩ : ∃ q, fuel = q + 1 := ⟨fuel - 1, by omega⟩
    rw [f_X12_begins_24, if_pos (by rw [show (84 : Int32) = nI 84 from rfl, nI_leI (by omega) (by omega)]; omega), hQ.m11, show (3 : Int32) = nI 3 from rfl, show (4 : Int32) = nI 4 from rfl, show (5 : Int32).toNatClampNeg = 5 from rfl, show (6 : Int32) = nI 6 from rfl, show (7 : Int32) = nI 7 from rfl, show (8 : Int32) = nI 8 from rfl, ck_nI (by omega) (by decide), sq_eq, ck_nI (by omega) (by decide), sq_eq, show ck (5 : Int32) 417 = ck (nI 5) 417 from rfl, ck_nI (by omega) (by decide), sq_eq, ck_nI (by omega) (by decide), sq_eq, ck_nI (by omega) (by decide), sq_eq, ck_nI (by omega) (by decide), sq_eq, nI_clamp (by omega), nI_clamp (by omega), nI_clamp (by omega), nI_clamp (by omega), nI_clamp (by omega)]
    refine ⟨_, rfl, fun k hk => ?_, fun k a b => absurd b (by omega), fun o k q q' => (if_neg (by omega)).trans ((if_neg (by omega)).trans ((if_neg (by omega)).trans ((if_neg (by omega)).trans ((if_neg (by omega)).trans (if_neg (by omega))))))⟩
    unfold bgT up
    by_cases c3 : k = 3
    · subst c3; rfl
    by_cases c4 : k = 4
    · subst c4; rfl
    by_cases c5 : k = 5
    · subst c5; rfl
    by_cases c6 : k = 6
    · subst c6; rfl
    by_cases c7 : k = 7
    · subst c7; rfl
    by_cases c8 : k = 8
    · subst c8; rfl
    rw [if_neg (by omega), if_neg (by omega), if_neg (by omega), if_neg (by omega), if_neg (by omega), if_neg (by omega), if_neg c3, if_neg c4, if_neg c5, if_neg c6, if_neg c7, if_neg c8]
    exact h0 k hk
  | succ m ih =>
    intro i fuel σ hi hfu h0
    obtain ⟨fuel, rfl⟩ : ∃ q, fuel = q + 1 := ⟨fuel - 1, by omega⟩
    have em : nI i - nI i / (14 : Int32) * (14 : Int32) = nI (i % 14) := by
      rw [show (14 : Int32) = iI 14 from rfl, iI_nat, iI_div (by omega) (by omega), iI_mul, iI_sub, iI_nat]
      congr 1
      omega
    obtain ⟨σ', i1, i2, i3, i4⟩ := ih (i + 1) fuel (up σ 184 i (if i % 14 = 0 then -1 else 0)) (by omega) (by omega) (fun k hk => (if_neg (by omega)).trans (h0 k hk))
    refine ⟨σ', ?_, i2, fun k a b => ?_, fun o k q q' => (i4 o k q (by omega)).trans (if_neg (by omega))⟩
    · rw [f_X12_begins_24, if_neg (by rw [show (84 : Int32) = nI 84 from rfl, nI_leI (by omega) (by omega)]; omega), em, ck_nI (by omega) (by decide), ck_nI (by omega) (by decide), hQ.m14, nI_clamp (by omega), sq_eq, sq_eq, nI_1]
      by_cases c : i % 14 = 0
      · rw [if_pos (by rw [c]; rfl)]
        rw [if_pos c] at i1
        exact i1
      · rw [if_neg (by rw [show (0 : Int32) = nI 0 from rfl, nI_eq (by omega) (by omega)]; exact c)]
        rw [if_neg c] at i1
        exact i1
    · by_cases c : k = i
      · rw [c, i4 _ _ (by omega) (by omega), up_th]
      · exact i3 k (by omega) b
theorem m_bg2 (hN : 2000 ≤ N) (hQ : RO Q s2) : ∀ (m i fuel : Nat) (σ : SI), i + m = 417 → m < fuel → (∀ k, k < i → σ 181 k = 0) → ∃ σ', f_X12_begins_2 N Q fuel σ 178 (nI i) = some ((), σ') ∧ (∀ k, k < 417 → σ' 181 k = bgT k) ∧ (∀ k, k < 84 → σ' 184 k = if k % 14 = 0 then -1 else 0) ∧ ∀ o k, (o ≠ 181 ∨ 417 ≤ k) → (o ≠ 184 ∨ 84 ≤ k) → σ' o k = σ o k := by
  intro m
  induction m with
  | zero =>
    intro i fuel σ hi hfu h0
    obtain ⟨fuel, rfl⟩ : ∃ q, fuel = q + 1 := ⟨fuel - 1, by omega⟩
    obtain ⟨σ', i1, i2, i3, i4⟩ := m_bg24 (N := N) hQ 84 0 N σ (by omega) (by omega) (fun k hk => h0 k (by omega))
    refine ⟨σ', ?_, i2, fun k hk => i3 k (by omega) hk, fun o k q q' => i4 o k q (by omega)⟩
    rw [f_X12_begins_2, if_pos (by rw [show (417 : Int32) = nI 417 from rfl, nI_leI (by omega) (by omega)]; omega)]
    exact i1
  | succ m ih =>
    intro i fuel σ hi hfu h0
    obtain ⟨fuel, rfl⟩ : ∃ q, fuel = q + 1 := ⟨fuel - 1, by omega⟩
    obtain ⟨σ', i1, i2, i3, i4⟩ := ih (i + 1) fuel (up σ 181 i 0) (by omega) (by omega) (fun k hk => by
      by_cases c : k = i
      · rw [c]
        exact up_th
      · exact (if_neg (by omega)).trans (h0 k (by omega)))
    refine ⟨σ', ?_, i2, i3, fun o k q q' => (i4 o k q q').trans (if_neg (by omega))⟩
    rw [f_X12_begins_2, if_neg (by rw [show (417 : Int32) = nI 417 from rfl, nI_leI (by omega) (by omega)]; omega), ck_nI (by omega) (by decide), hQ.m11, nI_clamp (by omega), sq_eq, nI_1]
    exact i1
theorem m_ld35 (hN : 2000 ≤ N) (hQ : RO Q s2) : ∀ (m i fuel : Nat) (σ : SI), i + m = 417 → m < fuel → ∃ σ', f_X12_load_35 N Q fuel σ 178 (nI i) = bd (f_X12_blanks N Q σ' 178) (fun _ σ9 => f_X12_load_68 N Q N σ9 178) ∧ (∀ k, i ≤ k → k < 417 → σ' 182 k = σ 181 k) ∧ (∀ k, k < 417 → σ' 181 k = bgT k) ∧ (∀ k, k < 84 → σ' 184 k = if k % 14 = 0 then -1 else 0) ∧ ∀ o k, (o ≠ 181 ∨ 417 ≤ k) → (o ≠ 182 ∨ k < i) → (o ≠ 184 ∨ 84 ≤ k) → σ' o k = σ o k := by
  intro m
  induction m with
  | zero =>
    intro i fuel σ hi hfu
    obtain ⟨fuel, rfl⟩ : ∃ q, fuel = q + 1 := ⟨fuel - 1, by omega⟩
    obtain ⟨σ', i1, i2, i3, i4⟩ := m_bg2 (N := N) hN hQ 417 0 N σ (by omega) (by omega) (fun k hk => absurd hk (by omega))
    refine ⟨σ', ?_, fun k a b => absurd b (by omega), i2, i3, fun o k q q' q'' => i4 o k q q''⟩
    rw [f_X12_load_35, if_pos (by rw [show (417 : Int32) = nI 417 from rfl, nI_leI (by omega) (by omega)]; omega)]
    unfold f_X12_begins
    rw [show f_X12_begins_2 N Q N σ 178 0 = _ from i1, bd_some]
  | succ m ih =>
    intro i fuel σ hi hfu
    obtain ⟨fuel, rfl⟩ : ∃ q, fuel = q + 1 := ⟨fuel - 1, by omega⟩
    obtain ⟨σ', i1, i2, i3, i4, i5⟩ := ih (i + 1) fuel (up σ 182 i (σ 181 i)) (by omega) (by omega)
    refine ⟨σ', ?_, fun k a b => ?_, i3, i4, fun o k q q' q'' => (i5 o k q (by omega) q'').trans (if_neg (by omega))⟩
    · rw [f_X12_load_35, if_neg (by rw [show (417 : Int32) = nI 417 from rfl, nI_leI (by omega) (by omega)]; omega), ck_nI (by omega) (by decide), ck_nI (by omega) (by decide), hQ.m11, hQ.m12, nI_clamp (by omega), sq_eq, nI_1]
      exact i1
    · by_cases c : k = i
      · rw [c, i5 _ _ (by omega) (by omega) (by omega), up_th]
      · exact (i2 k (by omega) b).trans (if_neg (by omega))
theorem m_ld156 (hQ : RO Q s2) : ∀ (m i fuel : Nat) (σ : SI), i + m = 84 → m < fuel → ∃ σ', f_X12_load_156 N Q fuel σ 178 (nI i) = some (σ 181 2, σ') ∧ (∀ k, i ≤ k → k < 84 → σ' 183 k = σ 184 k) ∧ σ' 178 16 = 0 ∧ ∀ o k, (o ≠ 183 ∨ k < i ∨ 84 ≤ k) → (o ≠ 178 ∨ k ≠ 16) → σ' o k = σ o k := by
  intro m
  induction m with
  | zero =>
    intro i fuel σ hi hfu
    obtain ⟨fuel, rfl⟩ : ∃ q, fuel = q + 1 := ⟨fuel - 1, by omega⟩
    refine ⟨up σ 178 16 0, ?_, fun k a b => absurd b (by omega), up_th, fun o k q q' => if_neg (by omega)⟩
    unfold f_X12_load_156 f_X12_blasts
    rw [if_pos (by rw [show (84 : Int32) = nI 84 from rfl, nI_leI (by omega) (by omega)]; omega), sq_eq, show ck (2 : Int32) 417 = ck (nI 2) 417 from rfl, ck_nI (by omega) (by decide), bd_some, hQ.m11, show (2 : Int32).toNatClampNeg = 2 from rfl, show up σ 178 16 0 181 2 = σ 181 2 from if_neg (by omega)]
  | succ m ih =>
    intro i fuel σ hi hfu
    obtain ⟨fuel, rfl⟩ : ∃ q, fuel = q + 1 := ⟨fuel - 1, by omega⟩
    obtain ⟨σ', i1, i2, i3, i4⟩ := ih (i + 1) fuel (up σ 183 i (σ 184 i)) (by omega) (by omega)
    refine ⟨σ', ?_, fun k a b => ?_, i3, fun o k q q' => (i4 o k (by omega) q').trans (if_neg (by omega))⟩
    · rw [f_X12_load_156, if_neg (by rw [show (84 : Int32) = nI 84 from rfl, nI_leI (by omega) (by omega)]; omega), ck_nI (by omega) (by decide), ck_nI (by omega) (by decide), hQ.m13, hQ.m14, nI_clamp (by omega), sq_eq, nI_1, i1, show up σ 183 i (σ 184 i) 181 2 = σ 181 2 from if_neg (by omega)]
    · by_cases c : k = i
      · rw [c, i4 _ _ (by omega) (by omega), up_th]
      · exact (i2 k (by omega) b).trans (if_neg (by omega))
theorem m_ld127 (hQ : RO Q s2) : ∀ (m i fuel : Nat) (σ : SI), i + m = 417 → m < fuel → ∃ σ', f_X12_load_127 N Q fuel σ 178 (nI i) = some (0, σ') ∧ (∀ k, i ≤ k → k < 417 → σ' 181 k = σ 182 k) ∧ ∀ o k, (o ≠ 181 ∨ k < i ∨ 417 ≤ k) → σ' o k = σ o k := by
  intro m
  induction m with
  | zero =>
    intro i fuel σ hi hfu
    obtain ⟨fuel, rfl⟩ : ∃ q, fuel = q + 1 := ⟨fuel - 1, by omega⟩
    refine ⟨σ, ?_, fun k a b => absurd b (by omega), fun o k q => rfl⟩
    rw [f_X12_load_127, if_pos (by rw [show (417 : Int32) = nI 417 from rfl, nI_leI (by omega) (by omega)]; omega)]
  | succ m ih =>
    intro i fuel σ hi hfu
    obtain ⟨fuel, rfl⟩ : ∃ q, fuel = q + 1 := ⟨fuel - 1, by omega⟩
    obtain ⟨σ', i1, i2, i4⟩ := ih (i + 1) fuel (up σ 181 i (σ 182 i)) (by omega) (by omega)
    refine ⟨σ', ?_, fun k a b => ?_, fun o k q => (i4 o k (by omega)).trans (if_neg (by omega))⟩
    · rw [f_X12_load_127, if_neg (by rw [show (417 : Int32) = nI 417 from rfl, nI_leI (by omega) (by omega)]; omega), ck_nI (by omega) (by decide), ck_nI (by omega) (by decide), hQ.m11, hQ.m12, nI_clamp (by omega), sq_eq, nI_1]
      exact i1
    · by_cases c : k = i
      · rw [c, i4 _ _ (by omega), up_th]
      · exact (i2 k (by omega) b).trans (if_neg (by omega))
end LOOP
