/-! ===== a blast line, in step ===== -/
section BLAST
variable {N : Nat} {R : Nat → Nat → Nat} {s : Nat} {Q : Nat → Nat → Nat} {s2 : Nat} {σc σm : SI} {B : Nat → Int32} {n k D m c : Nat} {ok : Bool}
/-- one charge, with room for it -/
theorem T_charge (hN : 2000 ≤ N) (hR : RO R s) (hQ : RO Q s2) (hO : DO R D) (hm : m < 6) (h : TS B n k ok σc σm) (c7 : σc (D + 40 + 5 * m) 7 = nI c) (m9 : σm 181 (285 + 22 * m + 9) = nI c) (hc : c < 12) : ∃ (ok' : Bool) (a1 a2 b1 b2 : Int32) (σc' μ1 μ2 : SI), f_X5_parseCharge N R σc 2 (D + 40 + 5 * m) = some ((), σc') ∧ f_X12_number N Q σm 178 1 999 = some (a2, μ1) ∧ f_X12_after N Q (up μ1 181 (285 + 22 * m + 10 + c) a2) 178 4 0 9999 = some (b2, μ2) ∧ TS B n k ok' σc' (up (up μ2 184 (14 * m + 2 + c) b2) 181 (285 + 22 * m + 9) (nI (c + 1))) ∧ μ2 181 (285 + 22 * m + 9) = nI c ∧ (∀ o j, (o ≠ 3 ∨ (j ≠ 2 ∧ j ≠ 3 ∧ j ≠ 4)) → (o ≠ D + 40 + 5 * m ∨ j ≠ 7) → o ≠ D + 41 + 5 * m → o ≠ D + 42 + 5 * m → σc' o j = σc o j) ∧ (∀ o j, (o ≠ 178 ∨ (j ≠ 4 ∧ j ≠ 5 ∧ j ≠ 7 ∧ j ≠ 8)) → (o ≠ 181 ∨ j < 285 + 22 * m + 9 ∨ 285 + 22 * m + 22 ≤ j) → (o ≠ 184 ∨ j < 14 * m + 2 ∨ 14 * m + 14 ≤ j) → up (up μ2 184 (14 * m + 2 + c) b2) 181 (285 + 22 * m + 9) (nI (c + 1)) o j = σm o j) ∧ (ok' = true → ok = true ∧ (xB σc σm D m c → xB σc' (up (up μ2 184 (14 * m + 2 + c) b2) 181 (285 + 22 * m + 9) (nI (c + 1))) D m (c + 1))) := by
  have hD := hO.1
  obtain ⟨ok1, a1, a2, σ1, μ1, e1, g1, T1, F1, G1, v1⟩ := T_nu hN hR hQ h (l1 := 1) (l2 := 1) (x := 999) 1 999 (fun _ => by decide) (by decide)
  have T1' : TS B n k ok1 σ1 (up μ1 181 (285 + 22 * m + 10 + c) a2) := T1.upm (by omega)
  obtain ⟨ok2, x, σ2, σ3, μ3, e2, e3, g3, T3, F3, G3, v3⟩ := T_word hN hR hQ T1' (q := 4) (by omega)
  obtain ⟨ok4, b1, b2, σ4, μ4, e4, g4, T4, F4, G4, v4⟩ := T_nu hN hR hQ T3 (l1 := 0) (l2 := 0) (x := 9999) 0 9999 (fun _ => by decide) (by decide)
  have FF := F1.tr (F3.tr F4)
  have c5 : σ4 (D + 40 + 5 * m) 7 = nI c := (FF _ _ (by omega)).trans c7
  have m9' : μ4 181 (285 + 22 * m + 9) = nI c := (G4 _ _ (by omega)).trans ((G3 _ _ (by omega)).trans ((if_neg (by omega)).trans ((G1 _ _ (by omega)).trans m9)))
  refine ⟨ok4, a1, a2, b1, b2, up (up (up σ4 (D + 41 + 5 * m) c a1) (D + 42 + 5 * m) c b1) (D + 40 + 5 * m) 7 (nI (c + 1)), μ1, μ4, ?_, g1, ?_, ((((T4.upc (by omega)).upc (by omega)).upc (by omega)).upm (by omega)).upm (by omega), m9', fun o j q q1 q2 q3 => (if_neg (by omega)).trans ((if_neg (by omega)).trans ((if_neg (by omega)).trans (FF o j q))), fun o j q q1 q2 => (if_neg (by omega)).trans ((if_neg (by omega)).trans ((G4 o j q).trans ((G3 o j q).trans ((if_neg (by omega)).trans (G1 o j q))))), fun z => ?_⟩
  · unfold f_X5_parseCharge f_X0_addCharge
    rw [c7, if_pos (show nI c < (12 : Int32) by rw [show (12 : Int32) = nI 12 from rfl, nI_ltI (by omega) (by omega)]; exact hc), hR.r2_0, e1, bd_some, e2, bd_some, e3, bd_some, e4, bd_some, c5, if_neg (by rw [show (12 : Int32) = nI 12 from rfl, nI_leI (by omega) (by omega)]; omega), ck_nI (by omega) (by decide), nI_clamp (by omega), hO.2.2.2.2.2.2 m hm 0 (by omega), hO.2.2.2.2.2.2 m hm 1 (by omega), sq_eq, show up σ4 (D + 41 + 5 * m + 0) c a1 (D + 40 + 5 * m) 7 = nI c from (if_neg (by omega)).trans c5, ck_nI (by omega) (by decide), nI_clamp (by omega), sq_eq, show up (up σ4 (D + 41 + 5 * m + 0) c a1) (D + 41 + 5 * m + 1) c b1 (D + 40 + 5 * m) 7 = nI c from (if_neg (by omega)).trans ((if_neg (by omega)).trans c5), nI_1, sq_eq, bd_some, show D + 41 + 5 * m + 1 = D + 42 + 5 * m by omega]
    rfl
  · rw [g3]
    unfold f_X12_after_14
    rw [g4, bd_some]
  · have z4 := v4 z
    have z1 := v1 (v3 z4.1)
    refine ⟨z1.1, fun ⟨w1, w2, w3, w4⟩ => ⟨by omega, up_th, up_th, fun k hk => ?_⟩⟩
    have ca : ∀ j, up (up (up σ4 (D + 41 + 5 * m) c a1) (D + 42 + 5 * m) c b1) (D + 40 + 5 * m) 7 (nI (c + 1)) (D + 41 + 5 * m) j = if j = c then a1 else σc (D + 41 + 5 * m) j := fun j => by
      by_cases q : j = c
      · rw [if_pos q, q]
        exact (if_neg (by omega)).trans ((if_neg (by omega)).trans up_th)
      · rw [if_neg q]
        exact (if_neg (by omega)).trans ((if_neg (by omega)).trans ((if_neg (by omega)).trans (FF _ _ (by omega))))
    have cb : ∀ j, up (up (up σ4 (D + 41 + 5 * m) c a1) (D + 42 + 5 * m) c b1) (D + 40 + 5 * m) 7 (nI (c + 1)) (D + 42 + 5 * m) j = if j = c then b1 else σc (D + 42 + 5 * m) j := fun j => by
      by_cases q : j = c
      · rw [if_pos q, q]
        exact (if_neg (by omega)).trans up_th
      · rw [if_neg q]
        exact (if_neg (by omega)).trans ((if_neg (by omega)).trans ((if_neg (by omega)).trans (FF _ _ (by omega))))
    have ma : ∀ j, j ≠ 285 + 22 * m + 9 → up (up μ4 184 (14 * m + 2 + c) b2) 181 (285 + 22 * m + 9) (nI (c + 1)) 181 j = if j = 285 + 22 * m + 10 + c then a2 else σm 181 j := fun j hj => by
      by_cases q2 : j = 285 + 22 * m + 10 + c
      · rw [if_pos q2, q2]
        exact (if_neg (by omega)).trans ((if_neg (by omega)).trans ((G4 _ _ (by omega)).trans ((G3 _ _ (by omega)).trans up_th)))
      · rw [if_neg q2]
        exact (if_neg (by omega)).trans ((if_neg (by omega)).trans ((G4 _ _ (by omega)).trans ((G3 _ _ (by omega)).trans ((if_neg (by omega)).trans (G1 _ _ (by omega))))))
    have mb : ∀ j, up (up μ4 184 (14 * m + 2 + c) b2) 181 (285 + 22 * m + 9) (nI (c + 1)) 184 j = if j = 14 * m + 2 + c then b2 else σm 184 j := fun j => by
      by_cases q2 : j = 14 * m + 2 + c
      · rw [if_pos q2, q2]
        exact (if_neg (by omega)).trans up_th
      · rw [if_neg q2]
        exact (if_neg (by omega)).trans ((if_neg (by omega)).trans ((G4 _ _ (by omega)).trans ((G3 _ _ (by omega)).trans ((if_neg (by omega)).trans (G1 _ _ (by omega))))))
    rw [ca, cb, ma _ (by omega), mb]
    by_cases q : k = c
    · subst q
      rw [if_pos rfl, if_pos rfl, if_pos rfl, if_pos rfl]
      exact ⟨z1.2.1, z4.2.1, ⟨by omega, by omega⟩, by omega, by omega⟩
    · rw [if_neg q, if_neg q, if_neg (by omega), if_neg (by omega)]
      exact w4 k (by omega)
theorem C_charge_F (hN : 2000 ≤ N) (hR : RO R s) (hO : DO R D) (hm : m < 6) (h : TS B n k false σc σm) (c7 : σc (D + 40 + 5 * m) 7 = nI c) (hc : c < 12) : ∃ σc' : SI, f_X5_parseCharge N R σc 2 (D + 40 + 5 * m) = some ((), σc') ∧ TS B n k false σc' σm ∧ ∀ o j, (o ≠ 3 ∨ (j ≠ 2 ∧ j ≠ 3 ∧ j ≠ 4)) → (o ≠ D + 40 + 5 * m ∨ j ≠ 7) → o ≠ D + 41 + 5 * m → o ≠ D + 42 + 5 * m → σc' o j = σc o j := by
  have hD := hO.1
  obtain ⟨p, q', h1, h2, h3, h4⟩ := id h
  obtain ⟨σ1, e1, f1, g1⟩ := c_word hN hR (q := 4) (by omega) h1
  have T1 : TS B n k false σ1 σm := ⟨_, q', f1, h2, fun z => (by cases z), fun z => by rw [g1 3 3 (by omega), g1 3 4 (by omega)]; exact h4 z⟩
  have n0 : ∀ l x, f_X10_takeNumber N R σc 3 l x = some (-1, σc) := fun l x => by
    unfold f_X10_takeNumber
    rw [h.failed.1, bd_some, Bool.not_false, bI_t, if_neg (by decide)]
  have n1 : ∀ l x, f_X10_takeNumber N R σ1 3 l x = some (-1, σ1) := fun l x => by
    unfold f_X10_takeNumber
    rw [T1.failed.1, bd_some, Bool.not_false, bI_t, if_neg (by decide)]
  have c5 : σ1 (D + 40 + 5 * m) 7 = nI c := (g1 _ _ (by omega)).trans c7
  refine ⟨up (up (up σ1 (D + 41 + 5 * m) c (-1)) (D + 42 + 5 * m) c (-1)) (D + 40 + 5 * m) 7 (nI (c + 1)), ?_, ((T1.upc (by omega)).upc (by omega)).upc (by omega), fun o j q q1 q2 q3 => (if_neg (by omega)).trans ((if_neg (by omega)).trans ((if_neg (by omega)).trans (g1 o j (by omega))))⟩
  unfold f_X5_parseCharge f_X0_addCharge
  rw [c7, if_pos (show nI c < (12 : Int32) by rw [show (12 : Int32) = nI 12 from rfl, nI_ltI (by omega) (by omega)]; exact hc), hR.r2_0, n0, bd_some, e1, bd_some, c_need0 T1, bd_some, n1, bd_some, c5, if_neg (by rw [show (12 : Int32) = nI 12 from rfl, nI_leI (by omega) (by omega)]; omega), ck_nI (by omega) (by decide), nI_clamp (by omega), hO.2.2.2.2.2.2 m hm 0 (by omega), hO.2.2.2.2.2.2 m hm 1 (by omega), sq_eq, show up σ1 (D + 41 + 5 * m + 0) c (-1) (D + 40 + 5 * m) 7 = nI c from (if_neg (by omega)).trans c5, ck_nI (by omega) (by decide), nI_clamp (by omega), sq_eq, show up (up σ1 (D + 41 + 5 * m + 0) c (-1)) (D + 41 + 5 * m + 1) c (-1) (D + 40 + 5 * m) 7 = nI c from (if_neg (by omega)).trans ((if_neg (by omega)).trans c5), nI_1, sq_eq, bd_some, show D + 41 + 5 * m + 1 = D + 42 + 5 * m by omega]
  rfl
theorem B_end : f_X5_parseBlast_158 N R σc D = some ((), up σc D 11 (σc D 11 + 1)) := by
  unfold f_X5_parseBlast_158
  rw [sq_eq]
theorem B_fail (hR : RO R s) {x5 : Int32} (h : TS B n k false σc σm) {X : Nat} (fuel : Nat) : f_X5_parseBlast_119 N R (fuel + 1) σc 2 D X x5 = some ((), up σc D 11 (σc D 11 + 1)) := by
  rw [f_X5_parseBlast_119, hR.r2_0, B_end]
  by_cases c : (12 : Int32) ≤ x5
  · rw [if_pos c]
  · rw [if_neg c, h.failed.1, bd_some, Bool.not_false, bI_t, if_neg (show ¬ (1 : Int32) = 0 by decide), B_end]
/-- a number is the same after the blanks -/
theorem c_chskip (hN : 2000 ≤ N) (hR : RO R s) (h : TS B n k true σc σm) {σ1 : SI} (e : f_X10_skipSpaces N R σc 3 = some ((), σ1)) (F : FC σc σ1) {X : Nat} (hX : X ≠ 3) (hc : σc X 7 = nI c) (hc2 : c < 12) : f_X5_parseCharge N R σc 2 X = f_X5_parseCharge N R σ1 2 X := by
  obtain ⟨p, q, h1, h2, h3, h4⟩ := id h
  obtain ⟨e1, f1⟩ := c_skip hN hR h1
  obtain ⟨e2, -⟩ := c_skip hN hR f1
  have es : σ1 = up σc 3 2 (nI (sk B n p)) := by
    have := e.symm.trans e1
    injection this with this
    injection this
  subst es
  have es2 : up (up σc 3 2 (nI (sk B n p))) 3 2 (nI (sk B n (sk B n p))) = up σc 3 2 (nI (sk B n p)) := by rw [sk_sk, up_up]
  rw [es2] at e2
  have c4 : σc 3 4 = 0 := h.c1
  have d4 : up σc 3 2 (nI (sk B n p)) 3 4 = 0 := (if_neg (by omega)).trans c4
  have et : f_X10_takeNumber N R σc 3 1 999 = f_X10_takeNumber N R (up σc 3 2 (nI (sk B n p))) 3 1 999 := by
    unfold f_X10_takeNumber f_X10_failed
    rw [if_pos c4, if_pos d4, bd_some, bd_some, if_pos rfl, if_pos rfl, e1, e2, bd_some]
  unfold f_X5_parseCharge
  rw [hR.r2_0, show up σc 3 2 (nI (sk B n p)) X 7 = σc X 7 from if_neg (by omega), hc, if_pos (show nI c < (12 : Int32) by rw [show (12 : Int32) = nI 12 from rfl, nI_ltI (by omega) (by omega)]; exact hc2), if_pos (show nI c < (12 : Int32) by rw [show (12 : Int32) = nI 12 from rfl, nI_ltI (by omega) (by omega)]; exact hc2), et]
theorem T_charges (hN : 2000 ≤ N) (hR : RO R s) (hQ : RO Q s2) (hO : DO R D) (hm : m < 6) : ∀ (u c fc fm : Nat) (σc σm : SI), c + u = 12 → u + 2 < fc → u + 2 < fm → TS B n k true σc σm → xB σc σm D m c → (∃ p, p ≤ 800 ∧ σc 3 2 = nI p ∧ (c ≠ 0 → sk B n p = p)) → ∃ (ok' : Bool) (σc' σm' : SI), bd (f_X5_parseCharge N R σc 2 (D + 40 + 5 * m)) (fun _ σ => f_X5_parseBlast_119 N R fc σ 2 D (D + 40 + 5 * m) (nI c)) = some ((), σc') ∧ f_X12_blastLine_75 N Q fm σm 178 (nI m) (nI (285 + 22 * m)) = some ((), σm') ∧ TS B n k ok' σc' σm' ∧ (∀ o j, (o ≠ 3 ∨ (j ≠ 2 ∧ j ≠ 3 ∧ j ≠ 4)) → (o ≠ D + 40 + 5 * m ∨ j ≠ 7) → o ≠ D + 41 + 5 * m → o ≠ D + 42 + 5 * m → (o ≠ D ∨ j ≠ 11) → σc' o j = σc o j) ∧ (∀ o j, (o ≠ 178 ∨ (j ≠ 4 ∧ j ≠ 5 ∧ j ≠ 7 ∧ j ≠ 8)) → (o ≠ 181 ∨ (j < 285 + 22 * m + 9 ∨ 285 + 22 * m + 22 ≤ j) ∧ j ≠ 2) → (o ≠ 184 ∨ j < 14 * m + 2 ∨ 14 * m + 14 ≤ j) → σm' o j = σm o j) ∧ (ok' = true → (∃ c', 1 ≤ c' ∧ xB σc' σm' D m c') ∧ σc' D 11 = σc D 11 + 1 ∧ σm' 181 2 = σm 181 2 + 1) := by
  intro u
  induction u with
  | zero =>
    intro c fc fm σc σm hc hfc hfm h w hp
    have hD := hO.1
    obtain ⟨fc, rfl⟩ : ∃ q, fc = q + 1 := ⟨fc - 1, by omega⟩
    obtain ⟨fm, rfl⟩ : ∃ q, fm = q + 1 := ⟨fm - 1, by omega⟩
    obtain ⟨p, hp, hp2, hp3⟩ := hp
    obtain ⟨w1, w2, w3, w4⟩ := id w
    obtain rfl : c = 12 := by omega
    obtain ⟨pc, pm, h1, h2, h3, -⟩ := id h
    obtain ⟨rfl, -, -, -, m7, m8⟩ := h3 rfl
    obtain rfl : pm = p := (nI_eq (by have := h1.1; have := h1.2.1; omega) (by omega)).mp (h1.2.2.2.1.symm.trans hp2)
    have sp := hp3 (by omega)
    obtain ⟨μ1, g1, f2, b5, G1⟩ := m_blanks hN hQ h2
    rw [sp] at f2 b5
    have T1 : TS B n k true σc μ1 := ⟨pm, pm, h1, f2, fun z => ⟨rfl, (h3 z).2.1, (h3 z).2.2.1, (h3 z).2.2.2.1, (G1 _ _ (by omega)).trans m7, (G1 _ _ (by omega)).trans m8⟩, fun z => by cases z⟩
    have Tf := T1.fails (a := 0) (b := pm) (kd := 4) ⟨hp, by omega, by omega⟩
    have e4 : f_X5_parseCharge N R σc 2 (D + 40 + 5 * m) = some ((), up (up σc 3 3 (nI pm)) 3 4 (nI 4)) := by
      unfold f_X5_parseCharge
      rw [w3, if_neg (by decide), hR.r2_0, c_fail h.c1, bd_some, hp2]
      rfl
    have f2' := (Tf.failed (N := N) (R := Q)).2
    have a9 : nI (285 + 22 * m) + (9 : Int32) = nI (285 + 22 * m + 9) := by rw [show (9 : Int32) = nI 9 from rfl, nI_add]
    rw [e4, bd_some, B_fail hR Tf, f_X12_blastLine_75, a9, ck_nI (by omega) (by decide), g1, bd_some, hQ.m11, nI_clamp (by omega), w2, if_pos (by decide), m_must0 ((G1 _ _ (by omega)).trans m7), bd_some, b5, show f_X12_hasFailed N Q (up (up μ1 178 7 (nI pm)) 178 8 4) 178 = _ from f2', bd_some, Bool.not_false, bI_t, if_neg (by decide)]
    exact ⟨false, _, _, rfl, rfl, Tf.upc (by omega), fun o j q q1 q2 q3 q4 => (if_neg (by omega)).trans ((if_neg (by omega)).trans (if_neg (by omega))), fun o j q q1 q2 => (if_neg (by omega)).trans ((if_neg (by omega)).trans (G1 o j (by omega))), fun z => by cases z⟩
  | succ u ih =>
    intro c fc fm σc σm hc hfc hfm h w hp
    have hD := hO.1
    obtain ⟨fc, rfl⟩ : ∃ q, fc = q + 1 := ⟨fc - 1, by omega⟩
    obtain ⟨fm, rfl⟩ : ∃ q, fm = q + 1 := ⟨fm - 1, by omega⟩
    obtain ⟨σ1, μ1, p, e1, g1, T1, z2, z4, z5, hpn, hkp, spp, F1, G1⟩ := T_blanks hN hR hQ h
    have w' := w.fr (σc' := σ1) (σm' := μ1) (fun j _ _ => G1 _ _ (by omega)) (fun j _ _ => G1 _ _ (by omega)) (fun o j _ => F1 _ _ (by omega))
    obtain ⟨w1, w2, w3, w4⟩ := id w'
    obtain ⟨ok2, a1, a2, b1, b2, σ2, μ2, μ3, e2, g2, g3, T3, m9, F3, G3, v3⟩ := T_charge hN hR hQ hO hm T1 w3 w2 (by omega)
    have a9 : nI (285 + 22 * m) + (9 : Int32) = nI (285 + 22 * m + 9) := by rw [show (9 : Int32) = nI 9 from rfl, nI_add]
    have a10 : nI (285 + 22 * m) + (10 : Int32) + nI c = nI (285 + 22 * m + 10 + c) := by rw [show (10 : Int32) = nI 10 from rfl, nI_add, nI_add]
    have a14 : (14 : Int32) * nI m + (2 : Int32) + nI c = nI (14 * m + 2 + c) := by rw [show (14 : Int32) = nI 14 from rfl, show (2 : Int32) = nI 2 from rfl, nI_mul, nI_add, nI_add]
    have d12 : ¬ (12 : Int32) ≤ nI c := by rw [show (12 : Int32) = nI 12 from rfl, nI_leI (by omega) (by omega)]; omega
    have mc : σm 181 (285 + 22 * m + 9) = nI c := w.2.1
    rw [c_chskip hN hR h e1 F1 (by omega) w.2.2.1 (by omega), e2, bd_some, f_X12_blastLine_75, a9, ck_nI (by omega) (by decide), g1, bd_some, hQ.m11, hQ.m14, nI_clamp (by omega), mc, if_neg d12, m_must1, bd_some, T1.failed.2, bd_some, Bool.not_true, bI_f, if_pos rfl, g2, bd_some, a10, a14, ck_nI (by omega) (by decide), nI_clamp (by omega), sq_eq, g3, bd_some, ck_nI (by omega) (by decide), nI_clamp (by omega), sq_eq, ck_nI (by omega) (by decide), ck_nI (by omega) (by decide), show up μ3 184 (14 * m + 2 + c) b2 181 (285 + 22 * m + 9) = nI c from (if_neg (by omega)).trans m9, nI_1, sq_eq]
    have m2 : ∀ μ : SI, (∀ o j, (o ≠ 178 ∨ (j ≠ 4 ∧ j ≠ 5 ∧ j ≠ 7 ∧ j ≠ 8)) → μ o j = up (up μ3 184 (14 * m + 2 + c) b2) 181 (285 + 22 * m + 9) (nI (c + 1)) o j) → μ 181 2 = σm 181 2 := fun μ q => (q _ _ (by omega)).trans ((G3 _ _ (by omega) (by omega) (by omega)).trans (G1 _ _ (by omega)))
    cases ok2
    · obtain ⟨μ4, g4, T4, G4⟩ := M_fig0 hN hQ T3
      rw [B_fail hR T3, g4, bd_some, if_pos rfl, show (2 : Int32) = nI 2 from rfl, ck_nI (by omega) (by decide), ck_nI (by omega) (by decide), nI_clamp (by omega), sq_eq]
      exact ⟨false, _, _, rfl, rfl, (T4.upc (by omega)).upm (by omega), fun o j q q1 q2 q3 q4 => (if_neg (by omega)).trans ((F3 o j q q1 q2 q3).trans (F1 o j q)), fun o j q q1 q2 => (if_neg (by omega)).trans ((G4 o j q).trans ((G3 o j q (by omega) q2).trans (G1 o j q))), fun z => by cases z⟩
    · obtain ⟨b, σ4, μ4, p4, e4, g4, T4, y2, y5, hp4, F4, G4⟩ := T_fig hN hR hQ T3
      have w3' := ((v3 rfl).2 w').fr (σc' := σ4) (σm' := μ4) (fun j _ _ => G4 _ _ (by omega)) (fun j _ _ => G4 _ _ (by omega)) (fun o j _ => F4 _ _ (by omega))
      rw [f_X5_parseBlast_119, if_neg d12, hR.r2_0, T3.failed.1, bd_some, Bool.not_true, bI_f, if_pos rfl, e4, bd_some, g4, bd_some]
      cases b
      · rw [bI_f, if_pos rfl, if_pos rfl, B_end, show (2 : Int32) = nI 2 from rfl, ck_nI (by omega) (by decide), ck_nI (by omega) (by decide), nI_clamp (by omega), sq_eq]
        refine ⟨true, _, _, rfl, rfl, (T4.upc (by omega)).upm (by omega), fun o j q q1 q2 q3 q4 => (if_neg (by omega)).trans ((F4 o j q).trans ((F3 o j q q1 q2 q3).trans (F1 o j q))), fun o j q q1 q2 => (if_neg (by omega)).trans ((G4 o j q).trans ((G3 o j q (by omega) q2).trans (G1 o j q))), fun _ => ⟨⟨c + 1, by omega, w3'.fr (fun j _ _ => if_neg (by omega)) (fun j _ _ => if_neg (by omega)) (fun o j _ => if_neg (by omega))⟩, ?_, ?_⟩⟩
        · rw [up_th, F4 _ _ (by omega), F3 _ _ (by omega) (by omega) (by omega) (by omega), F1 _ _ (by omega)]
        · rw [up_th, m2 μ4 (fun o j q => G4 o j q)]
      · rw [bI_t, if_neg (by decide), if_neg (by decide), nI_1]
        obtain ⟨ok5, σ5, μ5, i1, i2, T5, F5, G5, v5⟩ := ih (c + 1) fc fm σ4 μ4 (by omega) (by omega) (by omega) T4 w3' ⟨p4, hp4.1, y2, fun _ => hp4.2⟩
        refine ⟨ok5, σ5, μ5, i1, i2, T5, fun o j q q1 q2 q3 q4 => (F5 o j q q1 q2 q3 q4).trans ((F4 o j q).trans ((F3 o j q q1 q2 q3).trans (F1 o j q))), fun o j q q1 q2 => (G5 o j q q1 q2).trans ((G4 o j q).trans ((G3 o j q (by omega) q2).trans (G1 o j q))), fun z => ?_⟩
        have v := v5 z
        refine ⟨v.1, ?_, ?_⟩
        · rw [v.2.1, F4 _ _ (by omega), F3 _ _ (by omega) (by omega) (by omega) (by omega), F1 _ _ (by omega)]
        · rw [v.2.2, m2 μ4 (fun o j q => G4 o j q)]
theorem T_blast (hN : 2000 ≤ N) (hR : RO R s) (hQ : RO Q s2) (hO : DO R D) (h : TS B n k true σc σm) (d : DT σc σm D) {m : Nat} (hm : m < 6) (e1m : σm 181 2 = nI m) (x2 : Int32) : ∃ (ok' : Bool) (σc' σm' : SI), f_X5_parseBlast N R σc 2 D x2 = some ((), σc') ∧ f_X12_blastLine N Q σm 178 = some ((), σm') ∧ TS B n k ok' σc' σm' ∧ LC D σc σc' ∧ LM σm σm' ∧ (ok' = true → DT σc' σm' D) := by
  have hD := hO.1
  obtain ⟨ds, dw, dn, dr, ⟨m', r1, r2, r3, r4, r5, r6⟩⟩ := d
  obtain rfl : m' = m := (nI_eq (by omega) (by omega)).mp (r2.symm.trans e1m)
  have nm : ∀ i, i < m' → ∃ L, NmR σm (285 + 22 * i) L ∧ σc (D + 6) i = nI (hnP (lf σm (285 + 22 * i)) L) := fun i hi => (r4 i hi).1.1
  obtain ⟨ok0, v, σ0, μ0, e0, g0, T0, F0, G0, v0⟩ := T_name hN hR hQ h (arr := D + 6) (q1 := 6) (base := 285) (st := 22) (idx := m') (b := 285 + 22 * m') (by omega) (by omega) (by omega) (by omega) nm
  have T0' : TS B n k ok0 (up σ0 (D + 6) m' v) μ0 := T0.upc (by omega)
  obtain ⟨ok1, a1, b1, σ1, μ1, e1, g1, T1, F1, G1, v1⟩ := T_nw hN hR hQ T0' (l := 0) (x := 999) 0 999 (by decide) (by decide) (D + 40 + 5 * m') 4 (285 + 22 * m' + 6) (by omega)
  obtain ⟨ok2, a2, b2, σ2, μ2, e2, g2, T2, F2, G2, v2⟩ := T_nw hN hR hQ T1 (l := 0) (x := 999) 0 999 (by decide) (by decide) (D + 40 + 5 * m') 5 (285 + 22 * m' + 7) (by omega)
  obtain ⟨ok3, a3, b3, σ3, μ3, e3, g3, T3, F3, G3, v3⟩ := T_nw hN hR hQ T2 (l := 1) (x := 500) 1 500 (by decide) (by decide) (D + 40 + 5 * m') 6 (285 + 22 * m' + 8) (by omega)
  have T4 : TS B n k ok3 (up (up (up σ3 (D + 40 + 5 * m') 6 a3) (D + 40 + 5 * m') 13 0) (D + 40 + 5 * m') 7 0) (up μ3 181 (285 + 22 * m' + 8) b3) := (T3.upc (by omega)).upc (by omega)
  have FF : ∀ c d, (c ≠ 3 ∨ (d ≠ 2 ∧ d ≠ 3 ∧ d ≠ 4)) → c ≠ D + 40 + 5 * m' → (c ≠ D + 6 ∨ d ≠ m') → up (up (up σ3 (D + 40 + 5 * m') 6 a3) (D + 40 + 5 * m') 13 0) (D + 40 + 5 * m') 7 0 c d = σc c d := fun c d q r r' => (if_neg (by omega)).trans ((if_neg (by omega)).trans ((F3 c d q (by omega)).trans ((F2 c d q (by omega)).trans ((F1 c d q (by omega)).trans ((if_neg (by omega)).trans (F0 c d q))))))
  have GG : ∀ c d, (c ≠ 178 ∨ (d ≠ 4 ∧ d ≠ 5 ∧ d ≠ 7 ∧ d ≠ 8)) → (c ≠ 181 ∨ d < 285 + 22 * m' ∨ 285 + 22 * m' + 9 ≤ d) → up μ3 181 (285 + 22 * m' + 8) b3 c d = σm c d := fun c d q r => (G3 c d q (by omega)).trans ((G2 c d q (by omega)).trans ((G1 c d q (by omega)).trans (G0 c d q (by omega))))
  have w0 : xB (up (up (up σ3 (D + 40 + 5 * m') 6 a3) (D + 40 + 5 * m') 13 0) (D + 40 + 5 * m') 7 0) (up μ3 181 (285 + 22 * m' + 8) b3) D m' 0 := ⟨by omega, (GG _ _ (by omega) (by omega)).trans (r5 m' (by omega) (by omega)), up_th, fun k hk => absurd hk (by omega)⟩
  have goal : ∃ (ok' : Bool) (σc' σm' : SI), bd (f_X5_parseCharge N R (up (up (up σ3 (D + 40 + 5 * m') 6 a3) (D + 40 + 5 * m') 13 0) (D + 40 + 5 * m') 7 0) 2 (D + 40 + 5 * m')) (fun _ σ => f_X5_parseBlast_119 N R N σ 2 D (D + 40 + 5 * m') 0) = some ((), σc') ∧ f_X12_blastLine_75 N Q N (up μ3 181 (285 + 22 * m' + 8) b3) 178 (nI m') (nI (285 + 22 * m')) = some ((), σm') ∧ TS B n k ok' σc' σm' ∧ (∀ o j, (o ≠ 3 ∨ (j ≠ 2 ∧ j ≠ 3 ∧ j ≠ 4)) → (o ≠ D + 40 + 5 * m' ∨ j ≠ 7) → o ≠ D + 41 + 5 * m' → o ≠ D + 42 + 5 * m' → (o ≠ D ∨ j ≠ 11) → σc' o j = up (up (up σ3 (D + 40 + 5 * m') 6 a3) (D + 40 + 5 * m') 13 0) (D + 40 + 5 * m') 7 0 o j) ∧ (∀ o j, (o ≠ 178 ∨ (j ≠ 4 ∧ j ≠ 5 ∧ j ≠ 7 ∧ j ≠ 8)) → (o ≠ 181 ∨ (j < 285 + 22 * m' + 9 ∨ 285 + 22 * m' + 22 ≤ j) ∧ j ≠ 2) → (o ≠ 184 ∨ j < 14 * m' + 2 ∨ 14 * m' + 14 ≤ j) → σm' o j = up μ3 181 (285 + 22 * m' + 8) b3 o j) ∧ (ok' = true → ok3 = true ∧ (∃ c', 1 ≤ c' ∧ xB σc' σm' D m' c') ∧ σc' D 11 = up (up (up σ3 (D + 40 + 5 * m') 6 a3) (D + 40 + 5 * m') 13 0) (D + 40 + 5 * m') 7 0 D 11 + 1 ∧ σm' 181 2 = up μ3 181 (285 + 22 * m' + 8) b3 181 2 + 1) := by
    cases ok3
    · obtain ⟨M, rfl⟩ : ∃ M, N = M + 1 := ⟨N - 1, by omega⟩
      obtain ⟨σ5, i1, i4, i6⟩ := C_charge_F hN hR hO hm T4 w0.2.2.1 (by omega)
      obtain ⟨μ4, g4, T5, G4⟩ := M_blanks hN hQ i4
      have a9 : nI (285 + 22 * m') + (9 : Int32) = nI (285 + 22 * m' + 9) := by rw [show (9 : Int32) = nI 9 from rfl, nI_add]
      rw [i1, bd_some, B_fail hR i4, f_X12_blastLine_75, a9, ck_nI (by omega) (by decide), g4, bd_some, hQ.m11, nI_clamp (by omega), w0.2.1, if_neg (by decide), m_must1, bd_some, T5.failed.2, bd_some, Bool.not_false, bI_t, if_neg (by decide)]
      exact ⟨false, _, _, rfl, rfl, T5.upc (by omega), fun o j q q1 q2 q3 q4 => (if_neg (by omega)).trans (i6 o j q q1 q2 q3), fun o j q q1 q2 => G4 o j q, fun z => by cases z⟩
    · obtain ⟨pa, qa, k1, k2, k3, k4⟩ := id T4
      obtain ⟨ok', σ', μ', i1, i2, i3, i4, i5, i6⟩ := T_charges hN hR hQ hO hm 12 0 N N _ _ (by omega) (by omega) (by omega) T4 w0 ⟨pa, by have := k1.1; have := k1.2.1; omega, k1.2.2.2.1, fun q => absurd rfl q⟩
      exact ⟨ok', σ', μ', i1, i2, i3, i4, i5, fun z => ⟨rfl, i6 z⟩⟩
  obtain ⟨ok', σ', μ', i1, i2, i3, i4, i5, i6⟩ := goal
  refine ⟨ok', σ', μ', ?_, ?_, i3, fun c d q r => (i4 c d q (by omega) (by omega) (by omega) (by omega)).trans (FF c d q (by omega) (by omega)), fun c d q r r' => (i5 c d q (by omega) (by omega)).trans (GG c d q (by omega)), fun z => ?_⟩
  · unfold f_X5_parseBlast
    rw [r3, if_pos (show nI m' < (6 : Int32) by rw [show (6 : Int32) = nI 6 from rfl, nI_ltI (by omega) (by omega)]; exact hm), hR.r2_0, hO.2.1 5 (by omega), hO.2.1 2 (by omega), nI_clamp (by omega), show D + 1 + 5 = D + 6 from rfl, show D + 1 + 2 = D + 3 from rfl, hO.2.2.2.2.2.1 m' hm, ck_nI (by omega) (by decide), e0, bd_some, ck_nI (by omega) (by decide), sq_eq, e1, bd_some, sq_eq, e2, bd_some, sq_eq, e3, bd_some, sq_eq, sq_eq, sq_eq]
    exact i1
  · have ee : ∀ j, j < 22 → (285 : Int32) + (22 : Int32) * nI m' + nI j = nI (285 + 22 * m' + j) := fun j hj => by
      rw [show (285 : Int32) = nI 285 from rfl, show (22 : Int32) = nI 22 from rfl, nI_mul, nI_add, nI_add]
    have e81 : (285 : Int32) + (22 : Int32) * nI m' = nI (285 + 22 * m') := by
      rw [show (285 : Int32) = nI 285 from rfl, show (22 : Int32) = nI 22 from rfl, nI_mul, nI_add]
    unfold f_X12_blastLine f_X12_blasts
    have g0' : f_X12_name N Q σm 178 (285 : Int32) (22 : Int32) (nI m') = some ((), μ0) := g0
    rw [hQ.m11, show (2 : Int32).toNatClampNeg = 2 from rfl, r2, show ck (2 : Int32) 417 = ck (nI 2) 417 from rfl, ck_nI (by omega) (by decide), bd_some, g0', bd_some, g1, bd_some, show (6 : Int32) = nI 6 from rfl, show (7 : Int32) = nI 7 from rfl, show (8 : Int32) = nI 8 from rfl, ee 6 (by omega), ee 7 (by omega), ee 8 (by omega), ck_nI (by omega) (by decide), nI_clamp (by omega), sq_eq, g2, bd_some, ck_nI (by omega) (by decide), nI_clamp (by omega), sq_eq, g3, bd_some, ck_nI (by omega) (by decide), nI_clamp (by omega), sq_eq, e81]
    exact i2
  · obtain ⟨w3, ⟨c', c1, xw⟩, x9, x0⟩ := i6 z
    have w3 := v3 w3
    have w2 := v2 w3.1
    have w1 := v1 w2.1
    obtain ⟨L, n1, n2⟩ := v0 w1.1
    have fc : ∀ c d, (c ≠ 3 ∨ (d ≠ 2 ∧ d ≠ 3 ∧ d ≠ 4)) → (c < D + 40 + 5 * m' ∨ D + 43 + 5 * m' ≤ c) → (c ≠ D + 6 ∨ d ≠ m') → (c ≠ D ∨ d ≠ 11) → σ' c d = σc c d := fun c d q r r' r'' => (i4 c d q (by omega) (by omega) (by omega) r'').trans (FF c d q (by omega) r')
    have fm : ∀ c d, c ≠ 178 → (c ≠ 181 ∨ (d ≠ 2 ∧ (d < 285 + 22 * m' ∨ 285 + 22 * m' + 22 ≤ d))) → (c ≠ 184 ∨ (d < 14 * m' + 2 ∨ 14 * m' + 14 ≤ d)) → μ' c d = σm c d := fun c d q r r' => (i5 c d (by omega) (by omega) (by omega)).trans (GG c d (by omega) (by omega))
    refine ⟨ds.fr (fun j _ _ => fm _ _ (by omega) (by omega) (by omega)) (fun j _ _ => fc _ _ (by omega) (by omega) (by omega) (by omega)), dw.fr (fun j _ _ => fm _ _ (by omega) (by omega) (by omega)) (fun o j _ => fc _ _ (by omega) (by omega) (by omega) (by omega)), dn.fr (fun j _ => fm _ _ (by omega) (by omega) (by omega)) (fun o j _ => fc _ _ (by omega) (by omega) (by omega) (by omega)), dr.fr (fun j _ => fm _ _ (by omega) (by omega) (by omega)) (fun o j _ => fc _ _ (by omega) (by omega) (by omega) (by omega)), ⟨m' + 1, by omega, ?_, ?_, fun i hi => ?_, fun i j1 j2 => (fm _ _ (by omega) (by omega) (by omega)).trans (r5 i (by omega) j2), fun i hi => ?_⟩⟩
    · rw [x0, GG 181 2 (by omega) (by omega), r2, nI_1]
    · rw [x9, FF D 11 (by omega) (by omega) (by omega), r3, nI_1]
    · by_cases ei : i = m'
      · subst ei
        have km : ∀ j, 285 + 22 * i ≤ j → j < 285 + 22 * i + 9 → μ' 181 j = up μ3 181 (285 + 22 * i + 8) b3 181 j := fun j j1 j2 => i5 _ _ (by omega) (by omega) (by omega)
        have kc : ∀ j, j < 7 → σ' (D + 40 + 5 * i) j = up σ3 (D + 40 + 5 * i) 6 a3 (D + 40 + 5 * i) j := fun j hj => (i4 _ _ (by omega) (by omega) (by omega) (by omega) (by omega)).trans ((if_neg (by omega)).trans (if_neg (by omega)))
        have nr := n1.fr (σ' := μ') (fun j j1 j2 => (km j (by omega) (by omega)).trans ((G3 181 j (by omega) (by omega)).trans ((G2 181 j (by omega) (by omega)).trans (G1 181 j (by omega) (by omega)))))
        refine ⟨⟨⟨L, nr.1, ?_⟩, ⟨?_, ?_, ?_, ?_⟩, ?_, ?_, ?_⟩, c', c1, xw⟩
        · rw [nr.2, ← n2]
          exact (i4 _ _ (by omega) (by omega) (by omega) (by omega) (by omega)).trans ((if_neg (by omega)).trans ((if_neg (by omega)).trans ((F3 _ _ (by omega) (by omega)).trans ((F2 _ _ (by omega) (by omega)).trans ((F1 _ _ (by omega) (by omega)).trans up_th)))))
        · rw [kc 4 (by omega), km _ (by omega) (by omega), F3 _ 4 (by omega) (by omega), F2 _ 4 (by omega) (by omega), G3 _ _ (by omega) (by omega), G2 _ _ (by omega) (by omega)]
          exact w1.2.1
        · rw [kc 5 (by omega), km _ (by omega) (by omega), F3 _ 5 (by omega) (by omega), G3 _ _ (by omega) (by omega)]
          exact w2.2.1
        · rw [kc 6 (by omega), km _ (by omega) (by omega)]
          exact w3.2.1
        · exact (i4 _ _ (by omega) (by omega) (by omega) (by omega) (by omega)).trans ((if_neg (by omega)).trans up_th)
        · rw [km _ (by omega) (by omega), G3 _ _ (by omega) (by omega), G2 _ _ (by omega) (by omega)]
          exact w1.2.2
        · rw [km _ (by omega) (by omega), G3 _ _ (by omega) (by omega)]
          exact w2.2.2
        · rw [km _ (by omega) (by omega)]
          exact w3.2.2
      · obtain ⟨g1, c, c2, g2⟩ := r4 i (by omega)
        exact ⟨g1.fr (fun j j1 j2 => fm _ _ (by omega) (by omega) (by omega)) (fun o j j1 => fc _ _ (by omega) (by omega) (by omega) (by omega)), c, c2, g2.fr (fun j j1 j2 => fm _ _ (by omega) (by omega) (by omega)) (fun j j1 j2 => fm _ _ (by omega) (by omega) (by omega)) (fun o j j1 => fc _ _ (by omega) (by omega) (by omega) (by omega))⟩
    · rw [fm _ _ (by omega) (by omega) (by omega), fm _ _ (by omega) (by omega) (by omega), fc _ _ (by omega) (by omega) (by omega) (by omega)]
      exact r6 i hi
end BLAST
