/-! ===== a near line, in step ===== -/
theorem i32_1 {x : Int32} (h : 0 ≤ x.toInt ∧ x.toInt ≤ 100000) : (x + 1).toInt = x.toInt + 1 := by
  have e : x + 1 = iI (x.toInt + 1) := by
    conv => lhs; rw [iI_of x]
    exact iI_add _ 1
  rw [e, iI_toInt (by omega)]
section NEAR
variable {N : Nat} {R : Nat → Nat → Nat} {s : Nat} {Q : Nat → Nat → Nat} {s2 : Nat} {σc σm : SI} {B : Nat → Int32} {n k D m c : Nat} {ok : Bool}
/-- one window, with room for it -/
theorem T_window (hN : 2000 ≤ N) (hR : RO R s) (hQ : RO Q s2) (hO : DO R D) (hm : m < 8) (h : TS B n k true σc σm) (w : xN σc σm D m c) (hc : c < 4) : ∃ (ok' : Bool) (a1 a2 b1 b2 : Int32) (σc' μ1 μ2 : SI), f_X5_parseWindow N R σc 2 (D + 10 + 3 * m) = some ((), σc') ∧ f_X12_number N Q σm 178 0 1439 = some (a2, μ1) ∧ f_X12_after N Q (up μ1 181 (81 + 18 * m + 10 + 2 * c) a2) 178 1 (a2 + 1) 1440 = some (b2, μ2) ∧ TS B n k ok' σc' (up (up μ2 181 (81 + 18 * m + 11 + 2 * c) b2) 181 (81 + 18 * m + 9) (nI (c + 1))) ∧ μ2 181 (81 + 18 * m + 9) = nI c ∧ (∀ o j, (o ≠ 3 ∨ (j ≠ 2 ∧ j ≠ 3 ∧ j ≠ 4)) → (o ≠ D + 10 + 3 * m ∨ j ≠ 5) → o ≠ D + 11 + 3 * m → o ≠ D + 12 + 3 * m → σc' o j = σc o j) ∧ (∀ o j, (o ≠ 178 ∨ (j ≠ 4 ∧ j ≠ 5 ∧ j ≠ 7 ∧ j ≠ 8)) → (o ≠ 181 ∨ j < 81 + 18 * m + 9 ∨ 81 + 18 * m + 18 ≤ j) → up (up μ2 181 (81 + 18 * m + 11 + 2 * c) b2) 181 (81 + 18 * m + 9) (nI (c + 1)) o j = σm o j) ∧ (ok' = true → xN σc' (up (up μ2 181 (81 + 18 * m + 11 + 2 * c) b2) 181 (81 + 18 * m + 9) (nI (c + 1))) D m (c + 1)) := by
  have hD := hO.1
  obtain ⟨w1, w2, w3, w4⟩ := w
  obtain ⟨ok1, a1, a2, σ1, μ1, e1, g1, T1, F1, G1, v1⟩ := T_nu hN hR hQ h (l1 := 0) (l2 := 0) (x := 1439) 0 1439 (fun _ => by decide) (by decide)
  have T1' : TS B n k ok1 σ1 (up μ1 181 (81 + 18 * m + 10 + 2 * c) a2) := T1.upm (by omega)
  obtain ⟨ok2, x, σ2, σ3, μ3, e2, e3, g3, T3, F3, G3, v3⟩ := T_word hN hR hQ T1' (q := 1) (by omega)
  obtain ⟨ok4, b1, b2, σ4, μ4, e4, g4, T4, F4, G4, v4⟩ := T_nu hN hR hQ T3 (l1 := a1 + 1) (l2 := a2 + 1) (x := 1440) (a2.toInt + 1) 1440 (fun z => by
    have := v1 (v3 z)
    rw [this.2.1]
    exact ⟨rfl, i32_1 (by omega), by omega, by omega⟩) (by decide)
  have FF := F1.tr (F3.tr F4)
  have c5 : σ4 (D + 10 + 3 * m) 5 = nI c := (FF _ _ (by omega)).trans w3
  have m9 : μ4 181 (81 + 18 * m + 9) = nI c := (G4 _ _ (by omega)).trans ((G3 _ _ (by omega)).trans ((if_neg (by omega)).trans ((G1 _ _ (by omega)).trans w2)))
  refine ⟨ok4, a1, a2, b1, b2, up (up (up σ4 (D + 11 + 3 * m) c a1) (D + 12 + 3 * m) c b1) (D + 10 + 3 * m) 5 (nI (c + 1)), μ1, μ4, ?_, g1, ?_, ((((T4.upc (by omega)).upc (by omega)).upc (by omega)).upm (by omega)).upm (by omega), m9, fun o j q q1 q2 q3 => (if_neg (by omega)).trans ((if_neg (by omega)).trans ((if_neg (by omega)).trans (FF o j q))), fun o j q q1 => (if_neg (by omega)).trans ((if_neg (by omega)).trans ((G4 o j q).trans ((G3 o j q).trans ((if_neg (by omega)).trans (G1 o j q))))), fun z => ?_⟩
  · unfold f_X5_parseWindow f_X4_addWindow
    rw [w3, if_pos (show nI c < (4 : Int32) by rw [show (4 : Int32) = nI 4 from rfl, nI_ltI (by omega) (by omega)]; exact hc), hR.r2_0, e1, bd_some, e2, bd_some, e3, bd_some, e4, bd_some, c5, if_neg (by rw [show (4 : Int32) = nI 4 from rfl, nI_leI (by omega) (by omega)]; omega), ck_nI (by omega) (by decide), nI_clamp (by omega), hO.2.2.2.1 m hm 0 (by omega), hO.2.2.2.1 m hm 1 (by omega), sq_eq, show up σ4 (D + 11 + 3 * m + 0) c a1 (D + 10 + 3 * m) 5 = nI c from (if_neg (by omega)).trans c5, ck_nI (by omega) (by decide), nI_clamp (by omega), sq_eq, show up (up σ4 (D + 11 + 3 * m + 0) c a1) (D + 11 + 3 * m + 1) c b1 (D + 10 + 3 * m) 5 = nI c from (if_neg (by omega)).trans ((if_neg (by omega)).trans c5), nI_1, sq_eq, bd_some, show D + 11 + 3 * m + 1 = D + 12 + 3 * m by omega]
    rfl
  · rw [g3]
    unfold f_X12_after_14
    rw [g4, bd_some]
  · have z4 := v4 z
    have z1 := v1 (v3 z4.1)
    refine ⟨by omega, up_th, up_th, fun k hk => ?_⟩
    have ca : ∀ j, up (up (up σ4 (D + 11 + 3 * m) c a1) (D + 12 + 3 * m) c b1) (D + 10 + 3 * m) 5 (nI (c + 1)) (D + 11 + 3 * m) j = if j = c then a1 else σc (D + 11 + 3 * m) j := fun j => by
      by_cases q : j = c
      · rw [if_pos q, q]
        exact (if_neg (by omega)).trans ((if_neg (by omega)).trans up_th)
      · rw [if_neg q]
        exact (if_neg (by omega)).trans ((if_neg (by omega)).trans ((if_neg (by omega)).trans (FF _ _ (by omega))))
    have cb : ∀ j, up (up (up σ4 (D + 11 + 3 * m) c a1) (D + 12 + 3 * m) c b1) (D + 10 + 3 * m) 5 (nI (c + 1)) (D + 12 + 3 * m) j = if j = c then b1 else σc (D + 12 + 3 * m) j := fun j => by
      by_cases q : j = c
      · rw [if_pos q, q]
        exact (if_neg (by omega)).trans up_th
      · rw [if_neg q]
        exact (if_neg (by omega)).trans ((if_neg (by omega)).trans ((if_neg (by omega)).trans (FF _ _ (by omega))))
    have ma : ∀ j, j ≠ 81 + 18 * m + 9 → up (up μ4 181 (81 + 18 * m + 11 + 2 * c) b2) 181 (81 + 18 * m + 9) (nI (c + 1)) 181 j = if j = 81 + 18 * m + 11 + 2 * c then b2 else if j = 81 + 18 * m + 10 + 2 * c then a2 else σm 181 j := fun j hj => by
      by_cases q : j = 81 + 18 * m + 11 + 2 * c
      · rw [if_pos q, q]
        exact (if_neg (by omega)).trans up_th
      · rw [if_neg q]
        by_cases q2 : j = 81 + 18 * m + 10 + 2 * c
        · rw [if_pos q2, q2]
          exact (if_neg (by omega)).trans ((if_neg (by omega)).trans ((G4 _ _ (by omega)).trans ((G3 _ _ (by omega)).trans up_th)))
        · rw [if_neg q2]
          exact (if_neg (by omega)).trans ((if_neg (by omega)).trans ((G4 _ _ (by omega)).trans ((G3 _ _ (by omega)).trans ((if_neg (by omega)).trans (G1 _ _ (by omega))))))
    rw [ca, cb, ma _ (by omega), ma _ (by omega)]
    by_cases q : k = c
    · subst q
      rw [if_pos rfl, if_pos rfl, if_pos rfl, if_neg (by omega), if_pos rfl]
      exact ⟨z1.2.1, z4.2.1, by omega, by omega, by omega⟩
    · rw [if_neg q, if_neg q, if_neg (by omega), if_neg (by omega), if_neg (by omega), if_neg (by omega)]
      exact w4 k (by omega)
theorem N_fail (hN : 2000 ≤ N) (hR : RO R s) (hO : DO R D) {x5 : Int32} (h : TS B n k false σc σm) (fuel : Nat) : f_X5_parseNeighbour_106 N R (fuel + 1) σc 2 D (D + 10 + 3 * m) x5 = some ((), up σc D 9 (σc D 9 + 1)) := by
  have z : f_X5_parseNeighbour_144 N R σc D = some ((), up σc D 9 (σc D 9 + 1)) := by
    unfold f_X5_parseNeighbour_144
    rw [sq_eq]
  rw [f_X5_parseNeighbour_106, hR.r2_0, z]
  by_cases c : (4 : Int32) < x5
  · rw [if_pos c]
  · rw [if_neg c, h.failed.1, bd_some, Bool.not_false, bI_t, if_neg (show ¬ (1 : Int32) = 0 by decide), z]
theorem T_windows (hN : 2000 ≤ N) (hR : RO R s) (hQ : RO Q s2) (hO : DO R D) (hm : m < 8) : ∀ (u c fc fm : Nat) (σc σm : SI), c + u = 4 → u + 2 < fc → u + 2 < fm → TS B n k true σc σm → xN σc σm D m c → ∃ (ok' : Bool) (σc' σm' : SI), f_X5_parseNeighbour_106 N R fc σc 2 D (D + 10 + 3 * m) (nI c) = some ((), σc') ∧ f_X12_nearLine_74 N Q fm σm 178 (nI (81 + 18 * m)) = some ((), σm') ∧ TS B n k ok' σc' σm' ∧ (∀ o j, (o ≠ 3 ∨ (j ≠ 2 ∧ j ≠ 3 ∧ j ≠ 4)) → (o ≠ D + 10 + 3 * m ∨ j ≠ 5) → o ≠ D + 11 + 3 * m → o ≠ D + 12 + 3 * m → (o ≠ D ∨ j ≠ 9) → σc' o j = σc o j) ∧ (∀ o j, (o ≠ 178 ∨ (j ≠ 4 ∧ j ≠ 5 ∧ j ≠ 7 ∧ j ≠ 8)) → (o ≠ 181 ∨ (j < 81 + 18 * m + 9 ∨ 81 + 18 * m + 18 ≤ j) ∧ j ≠ 0) → σm' o j = σm o j) ∧ (ok' = true → (∃ c', xN σc' σm' D m c') ∧ σc' D 9 = σc D 9 + 1 ∧ σm' 181 0 = σm 181 0 + 1) := by
  intro u
  induction u with
  | zero =>
    intro c fc fm σc σm hc hfc hfm h w
    have hD := hO.1
    obtain ⟨fc, rfl⟩ : ∃ q, fc = q + 1 := ⟨fc - 1, by omega⟩
    obtain ⟨fm, rfl⟩ : ∃ q, fm = q + 1 := ⟨fm - 1, by omega⟩
    obtain ⟨b, σ1, μ1, p, e1, g1, T1, z2, z5, hp, F1, G1⟩ := T_fig hN hR hQ h
    have w' := w.fr (σc' := σ1) (σm' := μ1) (fun j _ _ => G1 _ _ (by omega)) (fun o j _ => F1 _ _ (by omega))
    obtain ⟨w1, w2, w3, w4⟩ := id w'
    obtain rfl : c = 4 := by omega
    rw [f_X5_parseNeighbour_106, f_X12_nearLine_74, if_neg (by decide), hR.r2_0, h.failed.1, bd_some, Bool.not_true, bI_f, if_pos rfl, e1, bd_some, g1, bd_some]
    cases b
    · rw [bI_f, if_pos rfl, if_pos rfl, show (0 : Int32) = nI 0 from rfl, ck_nI (by omega) (by decide), ck_nI (by omega) (by decide), nI_clamp (by omega), hQ.m11, sq_eq]
      unfold f_X5_parseNeighbour_144
      rw [sq_eq]
      refine ⟨true, _, _, rfl, rfl, (T1.upc (by omega)).upm (by omega), fun o j q q1 q2 q3 q4 => (if_neg (by omega)).trans (F1 o j q), fun o j q q1 => (if_neg (by omega)).trans (G1 o j q), fun _ => ⟨⟨4, w'.fr (fun j _ _ => if_neg (by omega)) (fun o j _ => if_neg (by omega))⟩, ?_, ?_⟩⟩
      · rw [up_th, F1 _ _ (by omega)]
      · rw [up_th, G1 _ _ (by omega)]
    · rw [bI_t, if_neg (by decide), if_neg (by decide), show (9 : Int32) = nI 9 from rfl, nI_add, ck_nI (by omega) (by decide), nI_clamp (by omega), hQ.m11, w2, if_pos (by decide)]
      have Tf := T1.fails (a := 0) (b := p) (kd := 4) ⟨hp.1, by omega, by omega⟩
      have e4 : f_X5_parseWindow N R σ1 2 (D + 10 + 3 * m) = some ((), up (up σ1 3 3 (nI p)) 3 4 (nI 4)) := by
        unfold f_X5_parseWindow
        rw [w3, if_neg (by decide), hR.r2_0, c_fail T1.c1, bd_some, z2]
        rfl
      obtain ⟨fc, rfl⟩ : ∃ q, fc = q + 1 := ⟨fc - 1, by omega⟩
      rw [e4, bd_some, N_fail hN hR hO Tf, m_must0 T1.m1, bd_some, z5]
      have f2 := (Tf.failed (N := N) (R := Q)).2
      rw [show f_X12_hasFailed N Q (up (up μ1 178 7 (nI p)) 178 8 4) 178 = _ from f2, bd_some, Bool.not_false, bI_t, if_neg (by decide)]
      exact ⟨false, _, _, rfl, rfl, Tf.upc (by omega), fun o j q q1 q2 q3 q4 => (if_neg (by omega)).trans ((if_neg (by omega)).trans ((if_neg (by omega)).trans (F1 o j q))), fun o j q q1 => (if_neg (by omega)).trans ((if_neg (by omega)).trans (G1 o j q)), fun z => by cases z⟩
  | succ u ih =>
    intro c fc fm σc σm hc hfc hfm h w
    have hD := hO.1
    obtain ⟨fc, rfl⟩ : ∃ q, fc = q + 1 := ⟨fc - 1, by omega⟩
    obtain ⟨fm, rfl⟩ : ∃ q, fm = q + 1 := ⟨fm - 1, by omega⟩
    obtain ⟨b, σ1, μ1, p, e1, g1, T1, z2, z5, hp, F1, G1⟩ := T_fig hN hR hQ h
    have w' := w.fr (σc' := σ1) (σm' := μ1) (fun j _ _ => G1 _ _ (by omega)) (fun o j _ => F1 _ _ (by omega))
    obtain ⟨w1, w2, w3, w4⟩ := id w'
    rw [f_X5_parseNeighbour_106, f_X12_nearLine_74, if_neg (by rw [show (4 : Int32) = nI 4 from rfl, nI_ltI (by omega) (by omega)]; omega), hR.r2_0, h.failed.1, bd_some, Bool.not_true, bI_f, if_pos rfl, e1, bd_some, g1, bd_some]
    cases b
    · rw [bI_f, if_pos rfl, if_pos rfl, show (0 : Int32) = nI 0 from rfl, ck_nI (by omega) (by decide), ck_nI (by omega) (by decide), nI_clamp (by omega), hQ.m11, sq_eq]
      unfold f_X5_parseNeighbour_144
      rw [sq_eq]
      refine ⟨true, _, _, rfl, rfl, (T1.upc (by omega)).upm (by omega), fun o j q q1 q2 q3 q4 => (if_neg (by omega)).trans (F1 o j q), fun o j q q1 => (if_neg (by omega)).trans (G1 o j q), fun _ => ⟨⟨c, w'.fr (fun j _ _ => if_neg (by omega)) (fun o j _ => if_neg (by omega))⟩, ?_, ?_⟩⟩
      · rw [up_th, F1 _ _ (by omega)]
      · rw [up_th, G1 _ _ (by omega)]
    · have ee : ((81 + 18 * m : Nat) : Int) = 81 + 18 * m := by omega
      have a9 : nI (81 + 18 * m) + (9 : Int32) = nI (81 + 18 * m + 9) := by rw [show (9 : Int32) = nI 9 from rfl, nI_add]
      have a10 : nI (81 + 18 * m) + (10 : Int32) + (2 : Int32) * nI c = nI (81 + 18 * m + 10 + 2 * c) := by rw [show (10 : Int32) = nI 10 from rfl, show (2 : Int32) = nI 2 from rfl, nI_add, nI_mul, nI_add]
      obtain ⟨ok2, a1, a2, b1, b2, σ2, μ2, μ3, e2, g2, g3, T3, m9, F3, G3, v3⟩ := T_window hN hR hQ hO hm T1 w' (by omega)
      have d4 : ¬ (4 : Int32) ≤ nI c := by rw [show (4 : Int32) = nI 4 from rfl, nI_leI (by omega) (by omega)]; omega
      rw [bI_t, if_neg (by decide), if_neg (by decide), a9, ck_nI (by omega) (by decide), nI_clamp (by omega), hQ.m11, w2, if_neg d4, m_must1, bd_some, T1.failed.2, bd_some, Bool.not_true, bI_f, if_pos rfl, g2, bd_some, a10, nI_1, ck_nI (by omega) (by decide), nI_clamp (by omega), sq_eq, g3, bd_some, nI_1, ck_nI (by omega) (by decide), nI_clamp (by omega), sq_eq, ck_nI (by omega) (by decide), ck_nI (by omega) (by decide), show 81 + 18 * m + 10 + 2 * c + 1 = 81 + 18 * m + 11 + 2 * c by omega, show up μ3 181 (81 + 18 * m + 11 + 2 * c) b2 181 (81 + 18 * m + 9) = nI c from (if_neg (by omega)).trans m9, nI_1, sq_eq, e2, bd_some]
      cases ok2
      · obtain ⟨fc, rfl⟩ : ∃ q, fc = q + 1 := ⟨fc - 1, by omega⟩
        obtain ⟨fm, rfl⟩ : ∃ q, fm = q + 1 := ⟨fm - 1, by omega⟩
        obtain ⟨μ4, g4, T4, G4⟩ := M_fig0 hN hQ T3
        rw [N_fail hN hR hO T3, f_X12_nearLine_74, g4, bd_some, if_pos rfl, show (0 : Int32) = nI 0 from rfl, ck_nI (by omega) (by decide), ck_nI (by omega) (by decide), nI_clamp (by omega), hQ.m11, sq_eq]
        exact ⟨false, _, _, rfl, rfl, (T4.upc (by omega)).upm (by omega), fun o j q q1 q2 q3 q4 => (if_neg (by omega)).trans ((F3 o j q q1 q2 q3).trans (F1 o j q)), fun o j q q1 => (if_neg (by omega)).trans ((G4 o j q).trans ((G3 o j q (by omega)).trans (G1 o j q))), fun z => by cases z⟩
      · obtain ⟨ok3, σ4, μ4, i1, i2, T4, F4, G4, v4⟩ := ih (c + 1) fc fm _ _ (by omega) (by omega) (by omega) T3 (v3 rfl)
        refine ⟨ok3, σ4, μ4, i1, i2, T4, fun o j q q1 q2 q3 q4 => (F4 o j q q1 q2 q3 q4).trans ((F3 o j q q1 q2 q3).trans (F1 o j q)), fun o j q q1 => (G4 o j q q1).trans ((G3 o j q (by omega)).trans (G1 o j q)), fun z => ?_⟩
        have v := v4 z
        refine ⟨v.1, ?_, ?_⟩
        · rw [v.2.1, F3 D 9 (by omega) (by omega) (by omega) (by omega), F1 _ _ (by omega)]
        · rw [v.2.2, G3 181 0 (by omega) (by omega), G1 _ _ (by omega)]
theorem T_near (hN : 2000 ≤ N) (hR : RO R s) (hQ : RO Q s2) (hO : DO R D) (h : TS B n k true σc σm) (d : DT σc σm D) {m : Nat} (hm : m < 8) (e1m : σm 181 0 = nI m) (x2 : Int32) : ∃ (ok' : Bool) (σc' σm' : SI), f_X5_parseNeighbour N R σc 2 D x2 = some ((), σc') ∧ f_X12_nearLine N Q σm 178 = some ((), σm') ∧ TS B n k ok' σc' σm' ∧ LC D σc σc' ∧ LM σm σm' ∧ (ok' = true → DT σc' σm' D) := by
  have hD := hO.1
  obtain ⟨ds, dw, ⟨m', r1, r2, r3, r4, r5⟩, dr, db⟩ := d
  obtain rfl : m' = m := (nI_eq (by omega) (by omega)).mp (r2.symm.trans e1m)
  have nm : ∀ i, i < m' → ∃ L, NmR σm (81 + 18 * i) L ∧ σc (D + 4) i = nI (hnP (lf σm (81 + 18 * i)) L) := fun i hi => (r4 i hi).1.1
  obtain ⟨ok0, v, σ0, μ0, e0, g0, T0, F0, G0, v0⟩ := T_name hN hR hQ h (arr := D + 4) (q1 := 8) (base := 81) (st := 18) (idx := m') (b := 81 + 18 * m') (by omega) (by omega) (by omega) (by omega) nm
  have T0' : TS B n k ok0 (up σ0 (D + 4) m' v) μ0 := T0.upc (by omega)
  obtain ⟨ok1, a1, b1, σ1, μ1, e1, g1, T1, F1, G1, v1⟩ := T_nw hN hR hQ T0' (l := 0) (x := 999) 0 999 (by decide) (by decide) (D + 10 + 3 * m') 2 (81 + 18 * m' + 6) (by omega)
  obtain ⟨ok2, a2, b2, σ2, μ2, e2, g2, T2, F2, G2, v2⟩ := T_nw hN hR hQ T1 (l := 0) (x := 999) 0 999 (by decide) (by decide) (D + 10 + 3 * m') 3 (81 + 18 * m' + 7) (by omega)
  obtain ⟨ok3, a3, b3, σ3, μ3, e3, g3, T3, F3, G3, v3⟩ := T_nw hN hR hQ T2 (l := 0) (x := 99999) 0 99999 (by decide) (by decide) (D + 10 + 3 * m') 4 (81 + 18 * m' + 8) (by omega)
  have T4 : TS B n k ok3 (up (up σ3 (D + 10 + 3 * m') 4 a3) (D + 10 + 3 * m') 5 0) (up μ3 181 (81 + 18 * m' + 8) b3) := T3.upc (by omega)
  have FF : ∀ c d, (c ≠ 3 ∨ (d ≠ 2 ∧ d ≠ 3 ∧ d ≠ 4)) → c ≠ D + 10 + 3 * m' → (c ≠ D + 4 ∨ d ≠ m') → up (up σ3 (D + 10 + 3 * m') 4 a3) (D + 10 + 3 * m') 5 0 c d = σc c d := fun c d q r r' => (if_neg (by omega)).trans ((F3 c d q (by omega)).trans ((F2 c d q (by omega)).trans ((F1 c d q (by omega)).trans ((if_neg (by omega)).trans (F0 c d q)))))
  have GG : ∀ c d, (c ≠ 178 ∨ (d ≠ 4 ∧ d ≠ 5 ∧ d ≠ 7 ∧ d ≠ 8)) → (c ≠ 181 ∨ d < 81 + 18 * m' ∨ 81 + 18 * m' + 9 ≤ d) → up μ3 181 (81 + 18 * m' + 8) b3 c d = σm c d := fun c d q r => (G3 c d q (by omega)).trans ((G2 c d q (by omega)).trans ((G1 c d q (by omega)).trans (G0 c d q (by omega))))
  have w0 : xN (up (up σ3 (D + 10 + 3 * m') 4 a3) (D + 10 + 3 * m') 5 0) (up μ3 181 (81 + 18 * m' + 8) b3) D m' 0 := ⟨by omega, (GG _ _ (by omega) (by omega)).trans (r5 m' (by omega) (by omega)), up_th, fun k hk => absurd hk (by omega)⟩
  have goal : ∃ (ok' : Bool) (σc' σm' : SI), f_X5_parseNeighbour_106 N R N (up (up σ3 (D + 10 + 3 * m') 4 a3) (D + 10 + 3 * m') 5 0) 2 D (D + 10 + 3 * m') 0 = some ((), σc') ∧ f_X12_nearLine_74 N Q N (up μ3 181 (81 + 18 * m' + 8) b3) 178 (nI (81 + 18 * m')) = some ((), σm') ∧ TS B n k ok' σc' σm' ∧ (∀ o j, (o ≠ 3 ∨ (j ≠ 2 ∧ j ≠ 3 ∧ j ≠ 4)) → (o ≠ D + 10 + 3 * m' ∨ j ≠ 5) → o ≠ D + 11 + 3 * m' → o ≠ D + 12 + 3 * m' → (o ≠ D ∨ j ≠ 9) → σc' o j = up (up σ3 (D + 10 + 3 * m') 4 a3) (D + 10 + 3 * m') 5 0 o j) ∧ (∀ o j, (o ≠ 178 ∨ (j ≠ 4 ∧ j ≠ 5 ∧ j ≠ 7 ∧ j ≠ 8)) → (o ≠ 181 ∨ (j < 81 + 18 * m' + 9 ∨ 81 + 18 * m' + 18 ≤ j) ∧ j ≠ 0) → σm' o j = up μ3 181 (81 + 18 * m' + 8) b3 o j) ∧ (ok' = true → ok3 = true ∧ (∃ c', xN σc' σm' D m' c') ∧ σc' D 9 = up (up σ3 (D + 10 + 3 * m') 4 a3) (D + 10 + 3 * m') 5 0 D 9 + 1 ∧ σm' 181 0 = up μ3 181 (81 + 18 * m' + 8) b3 181 0 + 1) := by
    cases ok3
    · obtain ⟨M, rfl⟩ : ∃ M, N = M + 1 := ⟨N - 1, by omega⟩
      obtain ⟨μ4, g4, T5, G4⟩ := M_fig0 hN hQ T4
      rw [N_fail hN hR hO T4, f_X12_nearLine_74, g4, bd_some, if_pos rfl, show (0 : Int32) = nI 0 from rfl, ck_nI (by omega) (by decide), ck_nI (by omega) (by decide), nI_clamp (by omega), hQ.m11, sq_eq]
      exact ⟨false, _, _, rfl, rfl, (T5.upc (by omega)).upm (by omega), fun o j q q1 q2 q3 q4 => if_neg (by omega), fun o j q q1 => (if_neg (by omega)).trans (G4 o j q), fun z => by cases z⟩
    · obtain ⟨ok', σ', μ', i1, i2, i3, i4, i5, i6⟩ := T_windows hN hR hQ hO hm 4 0 N N _ _ (by omega) (by omega) (by omega) T4 w0
      exact ⟨ok', σ', μ', i1, i2, i3, i4, i5, fun z => ⟨rfl, i6 z⟩⟩
  obtain ⟨ok', σ', μ', i1, i2, i3, i4, i5, i6⟩ := goal
  refine ⟨ok', σ', μ', ?_, ?_, i3, fun c d q r => (i4 c d q (by omega) (by omega) (by omega) (by omega)).trans (FF c d q (by omega) (by omega)), fun c d q r r' => (i5 c d q (by omega)).trans (GG c d q (by omega)), fun z => ?_⟩
  · unfold f_X5_parseNeighbour
    rw [r3, if_pos (show nI m' < (8 : Int32) by rw [show (8 : Int32) = nI 8 from rfl, nI_ltI (by omega) (by omega)]; exact hm), hR.r2_0, hO.2.1 3 (by omega), hO.2.1 0 (by omega), nI_clamp (by omega), show D + 1 + 3 = D + 4 from rfl, show D + 1 + 0 = D + 1 from rfl, hO.2.2.1 m' hm, ck_nI (by omega) (by decide), e0, bd_some, ck_nI (by omega) (by decide), sq_eq, e1, bd_some, sq_eq, e2, bd_some, sq_eq, e3, bd_some, sq_eq, sq_eq]
    exact i1
  · have ee : ∀ j, j < 18 → (81 : Int32) + (18 : Int32) * nI m' + nI j = nI (81 + 18 * m' + j) := fun j hj => by
      rw [show (81 : Int32) = nI 81 from rfl, show (18 : Int32) = nI 18 from rfl, nI_mul, nI_add, nI_add]
    have e81 : (81 : Int32) + (18 : Int32) * nI m' = nI (81 + 18 * m') := by
      rw [show (81 : Int32) = nI 81 from rfl, show (18 : Int32) = nI 18 from rfl, nI_mul, nI_add]
    unfold f_X12_nearLine
    have g0' : f_X12_name N Q σm 178 (81 : Int32) (18 : Int32) (nI m') = some ((), μ0) := g0
    rw [hQ.m11, show (0 : Int32).toNatClampNeg = 0 from rfl, r2, g0', bd_some, g1, bd_some, show (6 : Int32) = nI 6 from rfl, show (7 : Int32) = nI 7 from rfl, show (8 : Int32) = nI 8 from rfl, ee 6 (by omega), ee 7 (by omega), ee 8 (by omega), show ck (0 : Int32) 417 = ck (nI 0) 417 from rfl, ck_nI (by omega) (by decide), ck_nI (by omega) (by decide), nI_clamp (by omega), sq_eq, g2, bd_some, ck_nI (by omega) (by decide), nI_clamp (by omega), sq_eq, g3, bd_some, ck_nI (by omega) (by decide), nI_clamp (by omega), sq_eq, e81]
    exact i2
  · obtain ⟨w3, ⟨c', xw⟩, x9, x0⟩ := i6 z
    have w3 := v3 w3
    have w2 := v2 w3.1
    have w1 := v1 w2.1
    obtain ⟨L, n1, n2⟩ := v0 w1.1
    have fc : ∀ c d, (c ≠ 3 ∨ (d ≠ 2 ∧ d ≠ 3 ∧ d ≠ 4)) → (c < D + 10 + 3 * m' ∨ D + 13 + 3 * m' ≤ c) → (c ≠ D + 4 ∨ d ≠ m') → (c ≠ D ∨ d ≠ 9) → σ' c d = σc c d := fun c d q r r' r'' => (i4 c d q (by omega) (by omega) (by omega) r'').trans (FF c d q (by omega) r')
    have fm : ∀ c d, c ≠ 178 → (c ≠ 181 ∨ (d ≠ 0 ∧ (d < 81 + 18 * m' ∨ 81 + 18 * m' + 18 ≤ d))) → μ' c d = σm c d := fun c d q r => (i5 c d (by omega) (by omega)).trans (GG c d (by omega) (by omega))
    refine ⟨ds.fr (fun j _ _ => fm _ _ (by omega) (by omega)) (fun j _ _ => fc _ _ (by omega) (by omega) (by omega) (by omega)), dw.fr (fun j _ _ => fm _ _ (by omega) (by omega)) (fun o j _ => fc _ _ (by omega) (by omega) (by omega) (by omega)), ⟨m' + 1, by omega, ?_, ?_, fun i hi => ?_, fun i j1 j2 => (fm _ _ (by omega) (by omega)).trans (r5 i (by omega) j2)⟩, dr.fr (fun j _ => fm _ _ (by omega) (by omega)) (fun o j _ => fc _ _ (by omega) (by omega) (by omega) (by omega)), db.fr (fun j _ => fm _ _ (by omega) (by omega)) (fun j => fm _ _ (by omega) (by omega)) (fun o j _ => fc _ _ (by omega) (by omega) (by omega) (by omega))⟩
    · rw [x0, GG 181 0 (by omega) (by omega), r2, nI_1]
    · rw [x9, FF D 9 (by omega) (by omega) (by omega), r3, nI_1]
    by_cases ei : i = m'
    · subst ei
      have km : ∀ j, 81 + 18 * i ≤ j → j < 81 + 18 * i + 9 → μ' 181 j = up μ3 181 (81 + 18 * i + 8) b3 181 j := fun j j1 j2 => i5 _ _ (by omega) (by omega)
      have kc : ∀ j, j < 5 → σ' (D + 10 + 3 * i) j = up σ3 (D + 10 + 3 * i) 4 a3 (D + 10 + 3 * i) j := fun j hj => (i4 _ _ (by omega) (by omega) (by omega) (by omega) (by omega)).trans (if_neg (by omega))
      have nr := n1.fr (σ' := μ') (fun j j1 j2 => (km j (by omega) (by omega)).trans ((G3 181 j (by omega) (by omega)).trans ((G2 181 j (by omega) (by omega)).trans (G1 181 j (by omega) (by omega)))))
      refine ⟨⟨⟨L, nr.1, ?_⟩, ?_, ?_, ?_, ?_⟩, c', xw⟩
      · rw [nr.2, ← n2]
        exact (i4 _ _ (by omega) (by omega) (by omega) (by omega) (by omega)).trans ((if_neg (by omega)).trans ((F3 _ _ (by omega) (by omega)).trans ((F2 _ _ (by omega) (by omega)).trans ((F1 _ _ (by omega) (by omega)).trans up_th))))
      · rw [kc 2 (by omega), kc 3 (by omega), kc 4 (by omega), km _ (by omega) (by omega), km (81 + 18 * i + 7) (by omega) (by omega), km (81 + 18 * i + 8) (by omega) (by omega), F3 _ 2 (by omega) (by omega), F2 _ 2 (by omega) (by omega), F3 _ 3 (by omega) (by omega), G3 _ (81 + 18 * i + 6) (by omega) (by omega), G2 _ (81 + 18 * i + 6) (by omega) (by omega), G3 _ (81 + 18 * i + 7) (by omega) (by omega)]
        exact ⟨w1.2.1, w2.2.1, w3.2.1⟩
      · rw [km _ (by omega) (by omega), G3 _ _ (by omega) (by omega), G2 _ _ (by omega) (by omega)]
        exact w1.2.2
      · rw [km _ (by omega) (by omega), G3 _ _ (by omega) (by omega)]
        exact w2.2.2
      · rw [km _ (by omega) (by omega)]
        exact w3.2.2
    · obtain ⟨g1, c, g2⟩ := r4 i (by omega)
      exact ⟨g1.fr (fun j j1 j2 => fm _ _ (by omega) (by omega)) (fun o j j1 => fc _ _ (by omega) (by omega) (by omega) (by omega)), c, g2.fr (fun j j1 j2 => fm _ _ (by omega) (by omega)) (fun o j j1 => fc _ _ (by omega) (by omega) (by omega) (by omega))⟩
end NEAR
