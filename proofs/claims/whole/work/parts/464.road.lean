/-! ===== a road line, in step ===== -/
/-- the references inside the draft -/
def DO (R : Nat → Nat → Nat) (D : Nat) : Prop := (D = 38 ∨ D = 108) ∧ (∀ k, k < 9 → R D k = D + 1 + k) ∧ (∀ n, n < 8 → R (D + 1) n = D + 10 + 3 * n) ∧ (∀ n, n < 8 → ∀ k, k < 2 → R (D + 10 + 3 * n) k = D + 11 + 3 * n + k) ∧ (∀ n, n < 6 → R (D + 2) n = D + 34 + n) ∧ (∀ n, n < 6 → R (D + 3) n = D + 40 + 5 * n) ∧ ∀ n, n < 6 → ∀ k, k < 4 → R (D + 40 + 5 * n) k = D + 41 + 5 * n + k
theorem RO.dO {R : Nat → Nat → Nat} {s : Nat} (h : RO R s) : DO R (146 - s) := by
  have hs := h.1
  have h2 : RO (fun o k => if o = 1 ∧ k = 8 then 146 - s else if o = 1 ∧ k = 9 then s else R o k) (146 - s) := by
    refine h.swap ?_ ?_ (fun o k q => ?_)
    · show _ = R 1 9
      rw [h.draft]
      rfl
    · show _ = R 1 8
      rw [h.site]
      rfl
    · exact (if_neg (by omega)).trans (if_neg (by omega))
  have e : ∀ o k, o ≠ 1 → (fun o k => if o = 1 ∧ k = 8 then 146 - s else if o = 1 ∧ k = 9 then s else R o k) o k = R o k := fun o k q => by
    dsimp only
    rw [if_neg (by omega), if_neg (by omega)]
  refine ⟨by omega, fun k hk => (e _ _ (by omega)).symm.trans (h2.si k hk), fun n hn => (e _ _ (by omega)).symm.trans (h2.nb n hn), fun n hn k hk => (e _ _ (by omega)).symm.trans (h2.nbA n hn k hk), fun n hn => (e _ _ (by omega)).symm.trans (h2.rd n hn), fun n hn => (e _ _ (by omega)).symm.trans (h2.bl n hn), fun n hn k hk => (e _ _ (by omega)).symm.trans (h2.blA n hn k hk)⟩
section ROAD
variable {N : Nat} {R : Nat → Nat → Nat} {s : Nat} {Q : Nat → Nat → Nat} {s2 : Nat} {σc σm : SI} {B : Nat → Int32} {n k D : Nat} {ok : Bool}
/-- a number, and where both put it -/
theorem T_nw (hN : 2000 ≤ N) (hR : RO R s) (hQ : RO Q s2) (h : TS B n k ok σc σm) {l x : Int32} (lo hi : Int) (hl : l.toInt = lo ∧ 0 ≤ lo ∧ lo ≤ 100000) (hh : x.toInt = hi ∧ 0 ≤ hi ∧ hi ≤ 100000) (o j i : Nat) (ho : o ≠ 3 ∧ o ≠ 4) : ∃ (ok' : Bool) (a b : Int32) (σ1 μ1 : SI), f_X10_takeNumber N R σc 3 l x = some (a, σ1) ∧ f_X12_number N Q σm 178 l x = some (b, μ1) ∧ TS B n k ok' (up σ1 o j a) (up μ1 181 i b) ∧ (∀ c d, (c ≠ 3 ∨ (d ≠ 2 ∧ d ≠ 3 ∧ d ≠ 4)) → (c ≠ o ∨ d ≠ j) → up σ1 o j a c d = σc c d) ∧ (∀ c d, (c ≠ 178 ∨ (d ≠ 4 ∧ d ≠ 5 ∧ d ≠ 7 ∧ d ≠ 8)) → (c ≠ 181 ∨ d ≠ i) → up μ1 181 i b c d = σm c d) ∧ (ok' = true → ok = true ∧ up σ1 o j a o j = up μ1 181 i b 181 i ∧ lo ≤ (up μ1 181 i b 181 i).toInt ∧ (up μ1 181 i b 181 i).toInt ≤ hi) := by
  obtain ⟨ok', a, b, σ1, μ1, e1, e2, T, F, G, v⟩ := T_nu hN hR hQ h (l1 := l) (l2 := l) (x := x) lo hi (fun _ => ⟨rfl, hl⟩) hh
  refine ⟨ok', a, b, σ1, μ1, e1, e2, (T.upc ho).upm (by omega), fun c d q r => (if_neg (by omega)).trans (F c d q), fun c d q r => (if_neg (by omega)).trans (G c d q), fun z => ?_⟩
  rw [up_th, up_th]
  exact v z
theorem T_road (hN : 2000 ≤ N) (hR : RO R s) (hQ : RO Q s2) (hO : DO R D) (h : TS B n k true σc σm) (d : DT σc σm D) {m : Nat} (hm : m < 6) (e1m : σm 181 1 = nI m) (x2 : Int32) : ∃ (ok' : Bool) (σc' σm' : SI), f_X5_parseRoad N R σc 2 D x2 = some ((), σc') ∧ f_X12_roadLine N Q σm 178 = some ((), σm') ∧ TS B n k ok' σc' σm' ∧ LC D σc σc' ∧ LM σm σm' ∧ (ok' = true → DT σc' σm' D) := by
  have hD := hO.1
  obtain ⟨ds, dw, dn, ⟨m', r1, r2, r3, r4⟩, db⟩ := d
  obtain rfl : m' = m := (nI_eq (by omega) (by omega)).mp (r2.symm.trans e1m)
  have nm : ∀ i, i < m' → ∃ L, NmR σm (225 + 10 * i) L ∧ σc (D + 5) i = nI (hnP (lf σm (225 + 10 * i)) L) := fun i hi => (r4 i hi).1
  obtain ⟨ok0, v, σ0, μ0, e0, g0, T0, F0, G0, v0⟩ := T_name hN hR hQ h (arr := D + 5) (q1 := 6) (base := 225) (st := 10) (idx := m') (b := 225 + 10 * m') (by omega) (by omega) (by omega) (by omega) nm
  have T0' : TS B n k ok0 (up σ0 (D + 5) m' v) μ0 := T0.upc (by omega)
  obtain ⟨ok1, a1, b1, σ1, μ1, e1, g1, T1, F1, G1, v1⟩ := T_nw hN hR hQ T0' (l := 0) (x := 999) 0 999 (by decide) (by decide) (D + 34 + m') 0 (225 + 10 * m' + 6) (by omega)
  obtain ⟨ok2, a2, b2, σ2, μ2, e2, g2, T2, F2, G2, v2⟩ := T_nw hN hR hQ T1 (l := 0) (x := 999) 0 999 (by decide) (by decide) (D + 34 + m') 1 (225 + 10 * m' + 7) (by omega)
  obtain ⟨ok3, a3, b3, σ3, μ3, e3, g3, T3, F3, G3, v3⟩ := T_nw hN hR hQ T2 (l := 0) (x := 999) 0 999 (by decide) (by decide) (D + 34 + m') 2 (225 + 10 * m' + 8) (by omega)
  obtain ⟨ok4, a4, b4, σ4, μ4, e4, g4, T4, F4, G4, v4⟩ := T_nw hN hR hQ T3 (l := 0) (x := 999) 0 999 (by decide) (by decide) (D + 34 + m') 3 (225 + 10 * m' + 9) (by omega)
  have FF : ∀ c d, (c ≠ 3 ∨ (d ≠ 2 ∧ d ≠ 3 ∧ d ≠ 4)) → c ≠ D + 34 + m' → (c ≠ D + 5 ∨ d ≠ m') → up σ4 (D + 34 + m') 3 a4 c d = σc c d := fun c d q r r' => (F4 c d q (by omega)).trans ((F3 c d q (by omega)).trans ((F2 c d q (by omega)).trans ((F1 c d q (by omega)).trans ((if_neg (by omega)).trans (F0 c d q)))))
  have GG : ∀ c d, (c ≠ 178 ∨ (d ≠ 4 ∧ d ≠ 5 ∧ d ≠ 7 ∧ d ≠ 8)) → (c ≠ 181 ∨ d < 225 + 10 * m' ∨ 225 + 10 * m' + 10 ≤ d) → up μ4 181 (225 + 10 * m' + 9) b4 c d = σm c d := fun c d q r => (G4 c d q (by omega)).trans ((G3 c d q (by omega)).trans ((G2 c d q (by omega)).trans ((G1 c d q (by omega)).trans (G0 c d q (by omega)))))
  have c10 : up σ4 (D + 34 + m') 3 a4 D 10 = nI m' := (FF D 10 (by omega) (by omega) (by omega)).trans r3
  have m1 : up μ4 181 (225 + 10 * m' + 9) b4 181 1 = nI m' := (GG 181 1 (by omega) (by omega)).trans r2
  refine ⟨ok4, up (up σ4 (D + 34 + m') 3 a4) D 10 (nI (m' + 1)), up (up μ4 181 (225 + 10 * m' + 9) b4) 181 1 (nI (m' + 1)), ?_, ?_, (T4.upc (by omega)).upm (by omega), fun c d q r => (if_neg (by omega)).trans (FF c d q (by omega) (by omega)), fun c d q r r' => (if_neg (by omega)).trans (GG c d q (by omega)), fun z => ?_⟩
  · unfold f_X5_parseRoad
    rw [r3, if_pos (show nI m' < (6 : Int32) by rw [show (6 : Int32) = nI 6 from rfl, nI_ltI (by omega) (by omega)]; exact hm), hR.r2_0, hO.2.1 4 (by omega), hO.2.1 1 (by omega), nI_clamp (by omega), show D + 1 + 4 = D + 5 from rfl, show D + 1 + 1 = D + 2 from rfl, hO.2.2.2.2.1 m' hm, ck_nI (by omega) (by decide), e0, bd_some, ck_nI (by omega) (by decide), sq_eq, e1, bd_some, sq_eq, e2, bd_some, sq_eq, e3, bd_some, sq_eq, e4, bd_some, sq_eq, c10, nI_1, sq_eq]
  · obtain ⟨M, rfl⟩ : ∃ M, N = M + 5 := ⟨N - 5, by omega⟩
    unfold f_X12_roadLine
    rw [hQ.m11, show (1 : Int32) = nI 1 from rfl, ck_nI (by omega) (by decide), nI_clamp (by omega), r2, show (225 : Int32) = nI 225 from rfl, show (10 : Int32) = nI 10 from rfl, g0, bd_some, show (6 : Int32) = nI 6 from rfl]
    have ee : ∀ j, j < 10 → (225 : Int32) + (10 : Int32) * nI m' + nI j = nI (225 + 10 * m' + j) := fun j hj => by
      rw [show (225 : Int32) = nI 225 from rfl, show (10 : Int32) = nI 10 from rfl, nI_mul, nI_add, nI_add]
    rw [f_X12_roadLine_20, if_neg (by decide), g1, bd_some, ee 6 (by omega), ck_nI (by omega) (by decide), hQ.m11, nI_clamp (by omega), sq_eq, nI_1]
    rw [f_X12_roadLine_20, if_neg (by decide), g2, bd_some, ee 7 (by omega), ck_nI (by omega) (by decide), hQ.m11, nI_clamp (by omega), sq_eq, nI_1]
    rw [f_X12_roadLine_20, if_neg (by decide), g3, bd_some, ee 8 (by omega), ck_nI (by omega) (by decide), hQ.m11, nI_clamp (by omega), sq_eq, nI_1]
    rw [f_X12_roadLine_20, if_neg (by decide), g4, bd_some, ee 9 (by omega), ck_nI (by omega) (by decide), hQ.m11, nI_clamp (by omega), sq_eq, nI_1]
    rw [f_X12_roadLine_20, if_pos (by decide), hQ.m11, show (1 : Int32) = nI 1 from rfl, ck_nI (by omega) (by decide), ck_nI (by omega) (by decide), nI_clamp (by omega), m1, nI_add, sq_eq]
  · have w4 := v4 z
    have w3 := v3 w4.1
    have w2 := v2 w3.1
    have w1 := v1 w2.1
    obtain ⟨L, n1, n2⟩ := v0 w1.1
    have fc : ∀ c d, (c ≠ 3 ∨ (d ≠ 2 ∧ d ≠ 3 ∧ d ≠ 4)) → c ≠ D + 34 + m' → (c ≠ D + 5 ∨ d ≠ m') → (c ≠ D ∨ d ≠ 10) → up (up σ4 (D + 34 + m') 3 a4) D 10 (nI (m' + 1)) c d = σc c d := fun c d q r r' r'' => (if_neg (by omega)).trans (FF c d q r r')
    have fm : ∀ c d, c ≠ 178 → (c ≠ 181 ∨ (d ≠ 1 ∧ (d < 225 + 10 * m' ∨ 225 + 10 * m' + 10 ≤ d))) → up (up μ4 181 (225 + 10 * m' + 9) b4) 181 1 (nI (m' + 1)) c d = σm c d := fun c d q r => (if_neg (by omega)).trans (GG c d (by omega) (by omega))
    refine ⟨ds.fr (fun j _ _ => fm _ _ (by omega) (by omega)) (fun j _ _ => fc _ _ (by omega) (by omega) (by omega) (by omega)), dw.fr (fun j _ _ => fm _ _ (by omega) (by omega)) (fun o j _ => fc _ _ (by omega) (by omega) (by omega) (by omega)), dn.fr (fun j _ => fm _ _ (by omega) (by omega)) (fun o j _ => fc _ _ (by omega) (by omega) (by omega) (by omega)), ⟨m' + 1, by omega, up_th, up_th, fun i hi => ?_⟩, db.fr (fun j _ => fm _ _ (by omega) (by omega)) (fun j => fm _ _ (by omega) (by omega)) (fun o j _ => fc _ _ (by omega) (by omega) (by omega) (by omega))⟩
    by_cases ei : i = m'
    · subst ei
      have nr := n1.fr (σ' := up (up μ4 181 (225 + 10 * i + 9) b4) 181 1 (nI (i + 1))) (fun j j1 j2 => (if_neg (by omega)).trans ((G4 181 j (by omega) (by omega)).trans ((G3 181 j (by omega) (by omega)).trans ((G2 181 j (by omega) (by omega)).trans (G1 181 j (by omega) (by omega))))))
      refine ⟨⟨L, nr.1, ?_⟩, fun j hj => ?_⟩
      · rw [nr.2, ← n2]
        exact (if_neg (by omega)).trans ((F4 _ _ (by omega) (by omega)).trans ((F3 _ _ (by omega) (by omega)).trans ((F2 _ _ (by omega) (by omega)).trans ((F1 _ _ (by omega) (by omega)).trans up_th))))
      · have kc : ∀ j, up (up σ4 (D + 34 + i) 3 a4) D 10 (nI (i + 1)) (D + 34 + i) j = up σ4 (D + 34 + i) 3 a4 (D + 34 + i) j := fun j => if_neg (by omega)
        have km : ∀ j, j ≠ 1 → up (up μ4 181 (225 + 10 * i + 9) b4) 181 1 (nI (i + 1)) 181 j = up μ4 181 (225 + 10 * i + 9) b4 181 j := fun j hj => if_neg (by omega)
        rw [kc, km _ (by omega)]
        match j, hj with
        | 0, _ =>
          rw [show 225 + 10 * i + 6 + 0 = 225 + 10 * i + 6 from rfl, F4 _ 0 (by omega) (by omega), F3 _ 0 (by omega) (by omega), F2 _ 0 (by omega) (by omega), G4 _ _ (by omega) (by omega), G3 _ _ (by omega) (by omega), G2 _ _ (by omega) (by omega)]
          exact w1.2
        | 1, _ =>
          rw [show 225 + 10 * i + 6 + 1 = 225 + 10 * i + 7 from rfl, F4 _ 1 (by omega) (by omega), F3 _ 1 (by omega) (by omega), G4 _ _ (by omega) (by omega), G3 _ _ (by omega) (by omega)]
          exact w2.2
        | 2, _ =>
          rw [show 225 + 10 * i + 6 + 2 = 225 + 10 * i + 8 from rfl, F4 _ 2 (by omega) (by omega), G4 _ _ (by omega) (by omega)]
          exact w3.2
        | 3, _ =>
          rw [show 225 + 10 * i + 6 + 3 = 225 + 10 * i + 9 from rfl]
          exact w4.2
        | j + 4, hj => exact absurd hj (by omega)
    · exact (r4 i (by omega)).fr (fun j j1 j2 => fm _ _ (by omega) (by omega)) (fun o j j1 => fc _ _ (by omega) (by omega) (by omega) (by omega))
end ROAD
