/-! ===== calls about sirens ===== -/
theorem ag_50 {N : Nat} (hN : 2000 ≤ N) : Ag_50 N Inv := by
  intro σ R hI
  obtain ⟨s, t, w, h⟩ := hI
  have hR := h.ro
  have hO := h.tok
  obtain ⟨σ1, T, K, g1, g2, g3, g4, g5⟩ := c_gather hN h
  have hc1 := h.same g5
  have sm2 : Same σ1 (up σ1 178 0 0) := same_up (by unfold Sc; omega)
  refine ⟨nI T, σ1, nI T, up σ1 178 0 0, ?_, ?_, ⟨s, t, w, hc1.same sm2⟩, rfl⟩
  · unfold f_X11_sirenCount
    rw [hR.r1_3, hR.site, g1, bd_some, g2.1]
  · unfold f_X12_sirenCount
    rw [sq_eq, m_timed hN hR (hc1.tv.same sm2) (hc1.wv.same sm2) hO h.wok, bd_some, show (3 : Int32) = iI 3 from rfl, iI_mul, ← g4, iI_nat]
theorem siren_ok {N : Nat} (hN : 2000 ≤ N) {σ : SI} {R : Nat → Nat → Nat} {s : Nat} {t w : Nat → Int} (h : Iv σ R s t w) (x : Int32) : ∃ (σ1 : SI), Same σ σ1 ∧ ((f_X11_sirenAt N R σ 1 x = some (.inr 1, σ1) ∧ f_X12_noSiren N R (up σ1 178 0 0) 178 x = some (1, up (up σ1 178 0 0) 178 0 1)) ∨ ∃ i, i < 3 * nB t ∧ tmd (tms w) i = true ∧ f_X11_sirenAt N R σ 1 x = some (.inl (iI (kc t (tms w) i)), σ1) ∧ f_X12_noSiren N R (up σ1 178 0 0) 178 x = some (0, up σ1 178 0 0) ∧ f_X12_siren N R (up σ1 178 0 0) 178 x = some (iI (km t (tms w) i), up σ1 178 0 0)) := by
  have hR := h.ro
  have hO := h.tok
  have hB := nB_c hO
  obtain ⟨σ1, T, K, g1, g2, g3, g4, g5⟩ := c_gather hN h
  have hr := cnt_r (fun b => decide (tms w b ≠ -1)) (nB t) 0
  have hr : 0 ≤ nT (tms w) (nB t) ∧ nT (tms w) (nB t) ≤ (nB t : Int) := hr
  have hc1 := h.same g5
  have sm2 : Same σ1 (up σ1 178 0 0) := same_up (by unfold Sc; omega)
  have hT := hc1.tv.same sm2
  have hV := hc1.wv.same sm2
  have a2 : x < 0 ↔ x.toInt < 0 := Int32.lt_iff_toInt_lt
  have a3 : x < nI T ↔ x.toInt < (T : Int) := by rw [Int32.lt_iff_toInt_lt, nI_toInt (by omega)]
  refine ⟨σ1, g5, ?_⟩
  by_cases c : 0 ≤ x.toInt ∧ x.toInt < T
  · obtain ⟨q, rfl, eq⟩ := i32_nI (x := x) (n := T) (by omega) (by omega)
    obtain ⟨i, i1, i2, i3, i4, i5⟩ := g3.at (by omega) (x := q) (by omega)
    refine Or.inr ⟨i, i1, i2, ?_, ?_, ?_⟩
    · unfold f_X11_sirenAt
      rw [hR.r1_3, hR.site, g1, bd_some, g2.1, if_neg (by rw [a2]; omega), if_pos (a3.mpr (by omega)), ck_nI (by omega) (by decide), hR.r27_0, nI_clamp (by omega), g2.2 q (by omega), i3]
    · rw [m_noSiren hN hR hT hV hO h.wok g4, if_pos c]
    · unfold f_X12_siren
      exact m_si2 (N := N) hN hR hT hV hO h.wok (by omega) i1 i2 i4 i5 (nB t) 0 N (by omega) (by omega) (by omega)
  · refine Or.inl ⟨?_, ?_⟩
    · unfold f_X11_sirenAt f_X11_sirenAt_26
      rw [hR.r1_3, hR.site, g1, bd_some, g2.1]
      by_cases d : x.toInt < 0
      · rw [if_pos (a2.mpr d)]
      · rw [if_neg (by rw [a2]; exact d), if_neg (by rw [a3]; omega)]
    · rw [m_noSiren hN hR hT hV hO h.wok g4, if_neg c]
theorem siren_v {t w : Nat → Int} (hO : TOk t) (hW : WOk t w) {i : Nat} (hi : i < 3 * nB t) (ht : tmd (tms w) i = true) : iI (kc t (tms w) i) / (32 : Int32) - (10 : Int32) = iI (smin t (tms w) i) ∧ iI (km t (tms w) i) / (100 : Int32) - (100 : Int32) = iI (smin t (tms w) i) ∧ iI (kc t (tms w) i) / (8 : Int32) - iI (kc t (tms w) i) / (8 : Int32) / (4 : Int32) * (4 : Int32) = nI (i % 3) ∧ iI (km t (tms w) i) / (10 : Int32) - iI (km t (tms w) i) / (10 : Int32) / (10 : Int32) * (10 : Int32) = nI (i % 3) ∧ iI (kc t (tms w) i) - iI (kc t (tms w) i) / (8 : Int32) * (8 : Int32) = nI (i / 3) ∧ iI (km t (tms w) i) - iI (km t (tms w) i) / (10 : Int32) * (10 : Int32) = nI (i / 3) := by
  have hB := nB_c hO
  have hz := tms_r hW (b := i / 3) (by omega) (of_decide_eq_true ht)
  have r1 := kc_r hO (tm := tms w) (i := i) (by omega) hz
  have r2 := km_r hO (tm := tms w) (i := i) (by omega) hz
  have e1 : kc t (tms w) i = ((smin t (tms w) i + 10) * 4 + ((i % 3 : Nat) : Int)) * 8 + ((i / 3 : Nat) : Int) := rfl
  have e2 : km t (tms w) i = 100 * (smin t (tms w) i + 100) + 10 * ((i % 3 : Nat) : Int) + ((i / 3 : Nat) : Int) := rfl
  generalize kc t (tms w) i = a at r1 e1 ⊢
  generalize km t (tms w) i = b at r2 e2 ⊢
  generalize smin t (tms w) i = m at e1 e2 ⊢
  have d1 : iI a / iI 32 = iI (a / 32) := iI_div (by omega) (by omega)
  have d2 : iI b / iI 100 = iI (b / 100) := iI_div (by omega) (by omega)
  have d3 : iI a / iI 8 = iI (a / 8) := iI_div (by omega) (by omega)
  have d4 : iI (a / 8) / iI 4 = iI (a / 8 / 4) := iI_div (by omega) (by omega)
  have d5 : iI b / iI 10 = iI (b / 10) := iI_div (by omega) (by omega)
  have d6 : iI (b / 10) / iI 10 = iI (b / 10 / 10) := iI_div (by omega) (by omega)
  have h3 : i % 3 < 3 := by omega
  have h4 : i / 3 < 6 := by omega
  rw [show (32 : Int32) = iI 32 from rfl, show (100 : Int32) = iI 100 from rfl, show (8 : Int32) = iI 8 from rfl, show (4 : Int32) = iI 4 from rfl, show (10 : Int32) = iI 10 from rfl, d1, d2, d3, d4, d5, d6, iI_nat, iI_nat]
  generalize i % 3 = u at e1 e2 h3 ⊢
  generalize i / 3 = v at e1 e2 h4 ⊢
  refine ⟨?_, ?_, ?_, ?_, ?_, ?_⟩
  · rw [iI_sub]
    congr 1
    omega
  · rw [iI_sub]
    congr 1
    omega
  · rw [iI_mul, iI_sub]
    congr 1
    omega
  · rw [iI_mul, iI_sub]
    congr 1
    omega
  · rw [iI_mul, iI_sub]
    congr 1
    omega
  · rw [iI_mul, iI_sub]
    congr 1
    omega
theorem ag_51 {N : Nat} (hN : 2000 ≤ N) : Ag_51 N Inv := by
  intro σ R a1 hI
  obtain ⟨s, t, w, h⟩ := hI
  have hO := h.tok
  obtain ⟨σ1, g5, hz⟩ := siren_ok hN h a1
  have hc1 := h.same g5
  have sm2 : Same σ1 (up σ1 178 0 0) := same_up (by unfold Sc; omega)
  rcases hz with ⟨g1, g2⟩ | ⟨i, i1, i2, g1, g2, g3⟩
  · refine ⟨.inr 1, σ1, 0, up (up σ1 178 0 0) 178 0 1, ?_, ?_, ⟨s, t, w, (hc1.same sm2).same (same_up (by unfold Sc; omega))⟩, fun v e => (by cases e), fun q e => (by cases e; exact ⟨rfl, up_th⟩)⟩
    · unfold f_X11_sirenMinute
      rw [g1, bdX_inr]
    · unfold f_X12_sirenMinute
      rw [sq_eq, g2, bd_some, if_neg (by decide)]
  · refine ⟨.inl (iI (smin t (tms w) i)), σ1, iI (smin t (tms w) i), up σ1 178 0 0, ?_, ?_, ⟨s, t, w, hc1.same sm2⟩, fun v e => (by cases e; exact ⟨up_th, rfl⟩), fun q e => (by cases e)⟩
    · unfold f_X11_sirenMinute f_X8_minuteOf
      rw [g1, bdX_inl, bd_some, (siren_v hO h.wok i1 i2).1]
    · unfold f_X12_sirenMinute
      rw [sq_eq, g2, bd_some, if_pos rfl, g3, bd_some, (siren_v hO h.wok i1 i2).2.1]
theorem ag_52 {N : Nat} (hN : 2000 ≤ N) : Ag_52 N Inv := by
  intro σ R a1 hI
  obtain ⟨s, t, w, h⟩ := hI
  have hO := h.tok
  obtain ⟨σ1, g5, hz⟩ := siren_ok hN h a1
  have hc1 := h.same g5
  have sm2 : Same σ1 (up σ1 178 0 0) := same_up (by unfold Sc; omega)
  rcases hz with ⟨g1, g2⟩ | ⟨i, i1, i2, g1, g2, g3⟩
  · refine ⟨.inr 1, σ1, 0, up (up σ1 178 0 0) 178 0 1, ?_, ?_, ⟨s, t, w, (hc1.same sm2).same (same_up (by unfold Sc; omega))⟩, fun v e => (by cases e), fun q e => (by cases e; exact ⟨rfl, up_th⟩)⟩
    · unfold f_X11_sirenKind
      rw [g1, bdX_inr]
    · unfold f_X12_sirenKind
      rw [sq_eq, g2, bd_some, if_neg (by decide)]
  · refine ⟨.inl (nI (i % 3)), σ1, nI (i % 3), up σ1 178 0 0, ?_, ?_, ⟨s, t, w, hc1.same sm2⟩, fun v e => (by cases e; exact ⟨up_th, rfl⟩), fun q e => (by cases e)⟩
    · unfold f_X11_sirenKind f_X8_kindOf
      rw [g1, bdX_inl, bd_some, (siren_v hO h.wok i1 i2).2.2.1]
    · unfold f_X12_sirenKind
      rw [sq_eq, g2, bd_some, if_pos rfl, g3, bd_some, (siren_v hO h.wok i1 i2).2.2.2.1]
theorem ag_53 {N : Nat} (hN : 2000 ≤ N) : Ag_53 N Inv := by
  intro σ R a1 hI
  obtain ⟨s, t, w, h⟩ := hI
  have hO := h.tok
  obtain ⟨σ1, g5, hz⟩ := siren_ok hN h a1
  have hc1 := h.same g5
  have sm2 : Same σ1 (up σ1 178 0 0) := same_up (by unfold Sc; omega)
  rcases hz with ⟨g1, g2⟩ | ⟨i, i1, i2, g1, g2, g3⟩
  · refine ⟨.inr 1, σ1, 0, up (up σ1 178 0 0) 178 0 1, ?_, ?_, ⟨s, t, w, (hc1.same sm2).same (same_up (by unfold Sc; omega))⟩, fun v e => (by cases e), fun q e => (by cases e; exact ⟨rfl, up_th⟩)⟩
    · unfold f_X11_sirenBlast
      rw [g1, bdX_inr]
    · unfold f_X12_sirenBlast
      rw [sq_eq, g2, bd_some, if_neg (by decide)]
  · refine ⟨.inl (nI (i / 3)), σ1, nI (i / 3), up σ1 178 0 0, ?_, ?_, ⟨s, t, w, hc1.same sm2⟩, fun v e => (by cases e; exact ⟨up_th, rfl⟩), fun q e => (by cases e)⟩
    · unfold f_X11_sirenBlast f_X8_blastOf
      rw [g1, bdX_inl, bd_some, (siren_v hO h.wok i1 i2).2.2.2.2.1]
    · unfold f_X12_sirenBlast
      rw [sq_eq, g2, bd_some, if_pos rfl, g3, bd_some, (siren_v hO h.wok i1 i2).2.2.2.2.2]
