/-! ===== calls about closed and quiet minutes ===== -/
theorem ag_41 {N : Nat} (hN : 2000 ≤ N) : Ag_41 N Inv := by
  intro σ R a1 hI
  obtain ⟨s, t, w, h⟩ := hI
  have hR := h.ro
  have hO := h.tok
  have hT := h.tv
  have hW := h.wv
  have q1 : Same σ (up σ 178 0 0) := same_up (by unfold Sc; omega)
  have hT1 := hT.same q1
  have hW1 := hW.same q1
  have h1 := h.same q1
  by_cases c1 : 0 ≤ a1.toInt ∧ a1.toInt < t 1
  rotate_left
  · refine ⟨.inr 0, σ, 0, up (up σ 178 0 0) 178 0 1, ?_, ?_, ⟨s, t, w, h1.same (same_up (by unfold Sc; omega))⟩, fun v e => (by cases e), fun q e => (by cases e; first | exact ⟨rfl, up_th⟩ | exact Or.inl ⟨rfl, up_th⟩ | exact Or.inr ⟨rfl, up_th⟩ | exact Or.inr (Or.inl ⟨rfl, up_th⟩) | exact Or.inr (Or.inr ⟨rfl, up_th⟩))⟩
    · unfold f_X11_closedMinutes
      rw [c_rd_bad h c1, bdX_inr]
    · unfold f_X12_closedMinutes
      rw [sq_eq, m_rd_bad hR hT1 hO c1, bd_some, if_neg (by decide)]
      try rfl
  obtain ⟨rd, rfl, e1⟩ := i32_nI (by omega) c1.2
  have l1 : (rd : Int) < t 1 := by omega
  have hB := nB_c hO
  obtain ⟨σ1, r, F, E, g1, hM, hr, hr6, hp, g2⟩ := c_collect hN h (o := 31) (Or.inl rfl) l1
  have sm1 : Same σ σ1 := ms_same (Or.inl rfl) g2
  have hc1 := h.same sm1
  have sm2 : Same σ1 (up σ1 178 0 0) := same_up (by unfold Sc; omega)
  have hTc := hc1.tv.same sm2
  have hWc := hc1.wv.same sm2
  obtain ⟨σ2, k1, k3⟩ := m_closedOf hN hR hTc hWc hO h.wok l1
  have sm3 : Same (up σ1 178 0 0) σ2 := fun o k q => k3 o k (by unfold Sc at q; omega)
  have hI2 := (hc1.same sm2).same sm3
  have k0 : σ2 178 0 = 0 := (k3 178 0 (by omega)).trans up_th
  refine ⟨.inl (iI (clo t (tms w) rd)), σ1, iI (clo t (tms w) rd), σ2, ?_, ?_, ⟨s, t, w, hI2⟩, fun v e => (by cases e; exact ⟨k0, rfl⟩), fun q e => (by cases e)⟩
  · unfold f_X11_closedMinutes
    rw [c_rd_ok h l1, bdX_inl, hR.site, hR.r1_5, g1, bd_some, c_size hN hR (Or.inl rfl) hr (by omega) hM hp, bd_some]
    rfl
  · unfold f_X12_closedMinutes
    rw [sq_eq, m_rd_ok hR hTc hO l1, bd_some, if_pos rfl, k1, bd_some]
theorem ag_43 {N : Nat} (hN : 2000 ≤ N) : Ag_43 N Inv := by
  intro σ R a1 a2 hI
  obtain ⟨s, t, w, h⟩ := hI
  have hR := h.ro
  have hO := h.tok
  have hT := h.tv
  have hW := h.wv
  have q1 : Same σ (up σ 178 0 0) := same_up (by unfold Sc; omega)
  have hT1 := hT.same q1
  have hW1 := hW.same q1
  have h1 := h.same q1
  by_cases c1 : 0 ≤ a1.toInt ∧ a1.toInt < t 1
  rotate_left
  · refine ⟨.inr 0, σ, 0, up (up σ 178 0 0) 178 0 1, ?_, ?_, ⟨s, t, w, h1.same (same_up (by unfold Sc; omega))⟩, fun v e => (by cases e), fun q e => (by cases e; first | exact ⟨rfl, up_th⟩ | exact Or.inl ⟨rfl, up_th⟩ | exact Or.inr ⟨rfl, up_th⟩ | exact Or.inr (Or.inl ⟨rfl, up_th⟩) | exact Or.inr (Or.inr ⟨rfl, up_th⟩))⟩
    · unfold f_X11_isClosed
      rw [c_rd_bad h c1, bdX_inr]
    · unfold f_X12_isClosed
      rw [sq_eq, m_rd_bad hR hT1 hO c1, bd_some, if_neg (by decide)]
      try rfl
  obtain ⟨rd, rfl, e1⟩ := i32_nI (by omega) c1.2
  have l1 : (rd : Int) < t 1 := by omega
  have hB := nB_c hO
  obtain ⟨σ1, r, F, E, g1, hM, hr, hr6, hp, g2⟩ := c_collect hN h (o := 31) (Or.inl rfl) l1
  have sm1 : Same σ σ1 := ms_same (Or.inl rfl) g2
  have hc1 := h.same sm1
  have sm2 : Same σ1 (up σ1 178 0 0) := same_up (by unfold Sc; omega)
  have hTc := hc1.tv.same sm2
  have hWc := hc1.wv.same sm2
  obtain ⟨σ2, k1, k2, k3⟩ := m_paints hN hR hTc hWc hO h.wok l1
  have sm3 : Same (up σ1 178 0 0) σ2 := fun o k q => k3 o k (by unfold Sc at q; omega)
  have hI2 := (hc1.same sm2).same sm3
  have k0 : σ2 178 0 = 0 := (k3 178 0 (by omega)).trans up_th
  have ea : f_X3_contains N R σ1 31 a2 = some (bI (anyN (fun i => decide (F i ≤ a2.toInt ∧ a2.toInt < E i)) 0 r), σ1) := by
    unfold f_X3_contains
    have e := c_contains (N := N) hR (o := 31) (Or.inl rfl) hr (by omega) hM (x := a2.toInt) ⟨i32_lo a2, i32_hi a2⟩ r 0 N (by omega) (by omega)
    rw [← iI_of a2] at e
    exact e
  refine ⟨.inl (bI (anyN (fun i => decide (F i ≤ a2.toInt ∧ a2.toInt < E i)) 0 r)), σ1, bI (anyN (fun i => decide (F i ≤ a2.toInt ∧ a2.toInt < E i)) 0 r), σ2, ?_, ?_, ⟨s, t, w, hI2⟩, fun v e => (by cases e; exact ⟨k0, rfl⟩), fun q e => (by cases e)⟩
  · unfold f_X11_isClosed
    rw [c_rd_ok h l1, bdX_inl, hR.site, hR.r1_5, g1, bd_some, ea, bd_some, cb_bI]
  · unfold f_X12_isClosed
    rw [sq_eq, m_rd_ok hR hTc hO l1, bd_some, if_pos rfl, k1, bd_some, m_in, bd_some, show (0 : Int32).toInt = 0 from rfl, show (1439 : Int32).toInt = 1439 from rfl]
    by_cases c : 0 ≤ a2.toInt ∧ a2.toInt ≤ 1439
    · obtain ⟨m, rfl, e2⟩ := i32_nI (x := a2) (n := 1440) (by omega) (by omega)
      have eb : anyN (fun i => decide (F i ≤ (nI m).toInt ∧ (nI m).toInt < E i)) 0 r = cov t (tms w) rd m := by
        rw [Bool.eq_iff_iff, anyN_iff, hp m (by omega), ← e2]
        refine ⟨fun ⟨i, _, i2, i3⟩ => ⟨i, by omega, of_decide_eq_true i3⟩, fun ⟨i, i1, i2⟩ => ⟨i, by omega, by omega, decide_eq_true i2⟩⟩
      rw [decide_eq_true c, bI_t, if_neg (by decide), ck_nI (by omega) (by decide), hR.m17, nI_clamp (by omega), k2 m (by omega), eb]
      cases cov t (tms w) rd m
      · rfl
      · rfl
    · have eb : anyN (fun i => decide (F i ≤ a2.toInt ∧ a2.toInt < E i)) 0 r = false := by
        cases hz : anyN (fun i => decide (F i ≤ a2.toInt ∧ a2.toInt < E i)) 0 r
        · rfl
        · obtain ⟨i, _, i2, i3⟩ := (anyN_iff _ _ _).mp hz
          have i3 := of_decide_eq_true i3
          have := hr.1 i (by omega)
          omega
      rw [decide_eq_false c, bI_f, if_pos rfl, eb]
      rfl
theorem ag_44 {N : Nat} (hN : 2000 ≤ N) : Ag_44 N Inv := by
  intro σ R a1 hI
  obtain ⟨s, t, w, h⟩ := hI
  have hR := h.ro
  have hO := h.tok
  have hT := h.tv
  have hW := h.wv
  have q1 : Same σ (up σ 178 0 0) := same_up (by unfold Sc; omega)
  have hT1 := hT.same q1
  have hW1 := hW.same q1
  have h1 := h.same q1
  by_cases c1 : 0 ≤ a1.toInt ∧ a1.toInt < t 1
  rotate_left
  · refine ⟨.inr 0, σ, 0, up (up σ 178 0 0) 178 0 1, ?_, ?_, ⟨s, t, w, h1.same (same_up (by unfold Sc; omega))⟩, fun v e => (by cases e), fun q e => (by cases e; first | exact ⟨rfl, up_th⟩ | exact Or.inl ⟨rfl, up_th⟩ | exact Or.inr ⟨rfl, up_th⟩ | exact Or.inr (Or.inl ⟨rfl, up_th⟩) | exact Or.inr (Or.inr ⟨rfl, up_th⟩))⟩
    · unfold f_X11_closures
      rw [c_rd_bad h c1, bdX_inr]
    · unfold f_X12_closures
      rw [sq_eq, m_rd_bad hR hT1 hO c1, bd_some, if_neg (by decide)]
      try rfl
  obtain ⟨rd, rfl, e1⟩ := i32_nI (by omega) c1.2
  have l1 : (rd : Int) < t 1 := by omega
  have hB := nB_c hO
  obtain ⟨σ1, r, F, E, g1, hM, hr, hr6, hp, g2⟩ := c_collect hN h (o := 31) (Or.inl rfl) l1
  have sm1 : Same σ σ1 := ms_same (Or.inl rfl) g2
  have hc1 := h.same sm1
  have sm2 : Same σ1 (up σ1 178 0 0) := same_up (by unfold Sc; omega)
  have hTc := hc1.tv.same sm2
  have hWc := hc1.wv.same sm2
  obtain ⟨σ2, k1, k2, k3⟩ := m_paints hN hR hTc hWc hO h.wok l1
  have sm3 : Same (up σ1 178 0 0) σ2 := fun o k q => k3 o k (by unfold Sc at q; omega)
  have hI2 := (hc1.same sm2).same sm3
  have k0 : σ2 178 0 = 0 := (k3 178 0 (by omega)).trans up_th
  have ec := m_closures (N := N) hR k2 1440 0 N 0 (by omega) (by omega)
  rw [bgn_cnt hr hp, Int.zero_add] at ec
  refine ⟨.inl (nI r), σ1, nI r, σ2, ?_, ?_, ⟨s, t, w, hI2⟩, fun v e => (by cases e; exact ⟨k0, rfl⟩), fun q e => (by cases e)⟩
  · unfold f_X11_closures
    rw [c_rd_ok h l1, bdX_inl, hR.site, hR.r1_5, g1, bd_some, hM.1]
  · unfold f_X12_closures
    rw [sq_eq, m_rd_ok hR hTc hO l1, bd_some, if_pos rfl, k1, bd_some, iI_nat r]
    exact ec
theorem ag_45 {N : Nat} (hN : 2000 ≤ N) : Ag_45 N Inv := by
  intro σ R a1 a2 hI
  obtain ⟨s, t, w, h⟩ := hI
  have hR := h.ro
  have hO := h.tok
  have hT := h.tv
  have hW := h.wv
  have q1 : Same σ (up σ 178 0 0) := same_up (by unfold Sc; omega)
  have hT1 := hT.same q1
  have hW1 := hW.same q1
  have h1 := h.same q1
  by_cases c1 : 0 ≤ a1.toInt ∧ a1.toInt < t 1
  rotate_left
  · refine ⟨.inr 0, σ, 0, up (up σ 178 0 0) 178 0 1, ?_, ?_, ⟨s, t, w, h1.same (same_up (by unfold Sc; omega))⟩, fun v e => (by cases e), fun q e => (by cases e; first | exact ⟨rfl, up_th⟩ | exact Or.inl ⟨rfl, up_th⟩ | exact Or.inr ⟨rfl, up_th⟩ | exact Or.inr (Or.inl ⟨rfl, up_th⟩) | exact Or.inr (Or.inr ⟨rfl, up_th⟩))⟩
    · unfold f_X11_closureStart
      rw [c_rd_bad h c1, bdX_inr]
    · unfold f_X12_closureStart
      rw [sq_eq, m_rd_bad hR hT1 hO c1, bd_some, if_neg (by decide)]
      try rfl
  obtain ⟨rd, rfl, e1⟩ := i32_nI (by omega) c1.2
  have l1 : (rd : Int) < t 1 := by omega
  have hB := nB_c hO
  obtain ⟨σ1, r, F, E, g1, hM, hr, hr6, hp, g2⟩ := c_collect hN h (o := 31) (Or.inl rfl) l1
  have sm1 : Same σ σ1 := ms_same (Or.inl rfl) g2
  have hc1 := h.same sm1
  have sm2 : Same σ1 (up σ1 178 0 0) := same_up (by unfold Sc; omega)
  have hTc := hc1.tv.same sm2
  have hWc := hc1.wv.same sm2
  obtain ⟨σ2, k1, k2, k3⟩ := m_paints hN hR hTc hWc hO h.wok l1
  have sm3 : Same (up σ1 178 0 0) σ2 := fun o k q => k3 o k (by unfold Sc at q; omega)
  have hI2 := (hc1.same sm2).same sm3
  have k0 : σ2 178 0 = 0 := (k3 178 0 (by omega)).trans up_th
  have er : f_X12_runAt N R (up σ1 178 0 0) 178 (nI rd) a2 = some (iI (if 0 ≤ a2.toInt ∧ a2.toInt < r then F a2.toInt.toNat else -1), σ2) := by
    unfold f_X12_runAt
    rw [k1, bd_some]
    exact m_runAt (N := N) hR k2 hr hr6 hp a2 1440 0 N 0 (by omega) (by omega) (by omega) (fun i hi => by omega) (fun i _ hi => by have := hr.1 i hi; omega) (by omega)
  have b2 : a2 < 0 ↔ a2.toInt < 0 := Int32.lt_iff_toInt_lt
  have b3 : nI r ≤ a2 ↔ (r : Int) ≤ a2.toInt := by rw [Int32.le_iff_toInt_le, nI_toInt (by omega)]
  refine ⟨.inl (iI (if 0 ≤ a2.toInt ∧ a2.toInt < r then F a2.toInt.toNat else -1)), σ1, iI (if 0 ≤ a2.toInt ∧ a2.toInt < r then F a2.toInt.toNat else -1), σ2, ?_, ?_, ⟨s, t, w, hI2⟩, fun v e => (by cases e; exact ⟨k0, rfl⟩), fun q e => (by cases e)⟩
  · unfold f_X11_closureStart
    rw [c_rd_ok h l1, bdX_inl, hR.site, hR.r1_5, g1, bd_some, hM.1]
    by_cases c : 0 ≤ a2.toInt ∧ a2.toInt < r
    · rw [if_neg (by rw [b2]; omega), if_neg (by rw [b3]; omega), if_pos c]
      unfold ck
      rw [if_pos (by omega), hR.r31_0, show a2.toNatClampNeg = a2.toInt.toNat from rfl, (hM.2 a2.toInt.toNat (by omega)).1]
    · rw [if_neg c]
      by_cases c2 : a2.toInt < 0
      · rw [if_pos (b2.mpr c2)]
        rfl
      · rw [if_neg (by rw [b2]; exact c2), if_pos (b3.mpr (by omega))]
        rfl
  · unfold f_X12_closureStart
    rw [sq_eq, m_rd_ok hR hTc hO l1, bd_some, if_pos rfl, er, bd_some]
theorem ag_46 {N : Nat} (hN : 2000 ≤ N) : Ag_46 N Inv := by
  intro σ R a1 a2 hI
  obtain ⟨s, t, w, h⟩ := hI
  have hR := h.ro
  have hO := h.tok
  have hT := h.tv
  have hW := h.wv
  have q1 : Same σ (up σ 178 0 0) := same_up (by unfold Sc; omega)
  have hT1 := hT.same q1
  have hW1 := hW.same q1
  have h1 := h.same q1
  by_cases c1 : 0 ≤ a1.toInt ∧ a1.toInt < t 1
  rotate_left
  · refine ⟨.inr 0, σ, 0, up (up σ 178 0 0) 178 0 1, ?_, ?_, ⟨s, t, w, h1.same (same_up (by unfold Sc; omega))⟩, fun v e => (by cases e), fun q e => (by cases e; first | exact ⟨rfl, up_th⟩ | exact Or.inl ⟨rfl, up_th⟩ | exact Or.inr ⟨rfl, up_th⟩ | exact Or.inr (Or.inl ⟨rfl, up_th⟩) | exact Or.inr (Or.inr ⟨rfl, up_th⟩))⟩
    · unfold f_X11_closureLength
      rw [c_rd_bad h c1, bdX_inr]
    · unfold f_X12_closureLength
      rw [sq_eq, m_rd_bad hR hT1 hO c1, bd_some, if_neg (by decide)]
      try rfl
  obtain ⟨rd, rfl, e1⟩ := i32_nI (by omega) c1.2
  have l1 : (rd : Int) < t 1 := by omega
  have hB := nB_c hO
  obtain ⟨σ1, r, F, E, g1, hM, hr, hr6, hp, g2⟩ := c_collect hN h (o := 31) (Or.inl rfl) l1
  have sm1 : Same σ σ1 := ms_same (Or.inl rfl) g2
  have hc1 := h.same sm1
  have sm2 : Same σ1 (up σ1 178 0 0) := same_up (by unfold Sc; omega)
  have hTc := hc1.tv.same sm2
  have hWc := hc1.wv.same sm2
  obtain ⟨σ2, k1, k2, k3⟩ := m_paints hN hR hTc hWc hO h.wok l1
  have sm3 : Same (up σ1 178 0 0) σ2 := fun o k q => k3 o k (by unfold Sc at q; omega)
  have hI2 := (hc1.same sm2).same sm3
  have k0 : σ2 178 0 = 0 := (k3 178 0 (by omega)).trans up_th
  have er : f_X12_runAt N R (up σ1 178 0 0) 178 (nI rd) a2 = some (iI (if 0 ≤ a2.toInt ∧ a2.toInt < r then F a2.toInt.toNat else -1), σ2) := by
    unfold f_X12_runAt
    rw [k1, bd_some]
    exact m_runAt (N := N) hR k2 hr hr6 hp a2 1440 0 N 0 (by omega) (by omega) (by omega) (fun i hi => by omega) (fun i _ hi => by have := hr.1 i hi; omega) (by omega)
  have b2 : a2 < 0 ↔ a2.toInt < 0 := Int32.lt_iff_toInt_lt
  have b3 : nI r ≤ a2 ↔ (r : Int) ≤ a2.toInt := by rw [Int32.le_iff_toInt_le, nI_toInt (by omega)]
  refine ⟨.inl (iI (if 0 ≤ a2.toInt ∧ a2.toInt < r then E a2.toInt.toNat - F a2.toInt.toNat else -1)), σ1, iI (if 0 ≤ a2.toInt ∧ a2.toInt < r then E a2.toInt.toNat - F a2.toInt.toNat else -1), σ2, ?_, ?_, ⟨s, t, w, hI2⟩, fun v e => (by cases e; exact ⟨k0, rfl⟩), fun q e => (by cases e)⟩
  · unfold f_X11_closureLength
    rw [c_rd_ok h l1, bdX_inl, hR.site, hR.r1_5, g1, bd_some, hM.1]
    by_cases c : 0 ≤ a2.toInt ∧ a2.toInt < r
    · rw [if_neg (by rw [b2]; omega), if_neg (by rw [b3]; omega), if_pos c]
      unfold ck
      rw [if_pos (by omega), if_pos (by omega), hR.r31_0, hR.r31_1, show a2.toNatClampNeg = a2.toInt.toNat from rfl, (hM.2 a2.toInt.toNat (by omega)).1, (hM.2 a2.toInt.toNat (by omega)).2, iI_sub]
    · rw [if_neg c]
      by_cases c2 : a2.toInt < 0
      · rw [if_pos (b2.mpr c2)]
        rfl
      · rw [if_neg (by rw [b2]; exact c2), if_pos (b3.mpr (by omega))]
        rfl
  · unfold f_X12_closureLength
    rw [sq_eq, m_rd_ok hR hTc hO l1, bd_some, if_pos rfl, er, bd_some]
    by_cases c : 0 ≤ a2.toInt ∧ a2.toInt < r
    · have h0 := hr.1 a2.toInt.toNat (by omega)
      have e := m_cl32 (N := N) hR k2 hr hp (i := a2.toInt.toNat) (by omega) (E a2.toInt.toNat - F a2.toInt.toNat).toNat (F a2.toInt.toNat).toNat N (by omega) (by omega) (by omega)
      rw [iI_nat, show (((F a2.toInt.toNat).toNat : Nat) : Int) = F a2.toInt.toNat by omega] at e
      rw [if_pos c, if_neg (by rw [show (-1 : Int32) = iI (-1) from rfl, iI_eq (by omega)]; omega), if_pos c]
      exact e
    · rw [if_neg c, if_neg c]
      rfl
theorem ag_47 {N : Nat} (hN : 2000 ≤ N) : Ag_47 N Inv := by
  intro σ R a1 a2 a3 hI
  obtain ⟨s, t, w, h⟩ := hI
  have hR := h.ro
  have hO := h.tok
  have hT := h.tv
  have hW := h.wv
  have q1 : Same σ (up σ 178 0 0) := same_up (by unfold Sc; omega)
  have hT1 := hT.same q1
  have hW1 := hW.same q1
  have h1 := h.same q1
  by_cases c1 : 0 ≤ a1.toInt ∧ a1.toInt < t 1
  rotate_left
  · refine ⟨.inr 0, σ, 0, up (up σ 178 0 0) 178 0 1, ?_, ?_, ⟨s, t, w, h1.same (same_up (by unfold Sc; omega))⟩, fun v e => (by cases e), fun q e => (by cases e; first | exact ⟨rfl, up_th⟩ | exact Or.inl ⟨rfl, up_th⟩ | exact Or.inr ⟨rfl, up_th⟩ | exact Or.inr (Or.inl ⟨rfl, up_th⟩) | exact Or.inr (Or.inr ⟨rfl, up_th⟩))⟩
    · unfold f_X11_openMinutes
      rw [c_rd_bad h c1, bdX_inr]
    · unfold f_X12_openMinutes
      rw [sq_eq, m_rd_bad hR hT1 hO c1, bd_some, if_neg (by decide)]
      try rfl
  obtain ⟨rd, rfl, e1⟩ := i32_nI (by omega) c1.2
  have l1 : (rd : Int) < t 1 := by omega
  by_cases c2 : (0 : Int32).toInt ≤ a2.toInt ∧ a2.toInt ≤ (1439 : Int32).toInt
  rotate_left
  · refine ⟨.inr 1, σ, 0, up (up σ 178 0 0) 178 0 2, ?_, ?_, ⟨s, t, w, h1.same (same_up (by unfold Sc; omega))⟩, fun v e => (by cases e), fun q e => (by cases e; first | exact ⟨rfl, up_th⟩ | exact Or.inl ⟨rfl, up_th⟩ | exact Or.inr ⟨rfl, up_th⟩ | exact Or.inr (Or.inl ⟨rfl, up_th⟩) | exact Or.inr (Or.inr ⟨rfl, up_th⟩))⟩
    · unfold f_X11_openMinutes
      rw [c_rd_ok h l1, bdX_inl, c_needRange, if_neg c2, bdX_inr]
    · unfold f_X12_openMinutes
      rw [sq_eq, m_rd_ok hR hT1 hO l1, bd_some, if_pos rfl, m_in, bd_some, decide_eq_false c2, bI_f, if_pos rfl, m_throws1, bd_some, if_neg (by decide)]
  by_cases c3 : a2.toInt ≤ a3.toInt ∧ a3.toInt ≤ (1439 : Int32).toInt
  rotate_left
  · refine ⟨.inr 1, σ, 0, up (up σ 178 0 0) 178 0 2, ?_, ?_, ⟨s, t, w, h1.same (same_up (by unfold Sc; omega))⟩, fun v e => (by cases e), fun q e => (by cases e; first | exact ⟨rfl, up_th⟩ | exact Or.inl ⟨rfl, up_th⟩ | exact Or.inr ⟨rfl, up_th⟩ | exact Or.inr (Or.inl ⟨rfl, up_th⟩) | exact Or.inr (Or.inr ⟨rfl, up_th⟩))⟩
    · unfold f_X11_openMinutes
      rw [c_rd_ok h l1, bdX_inl, c_needRange, if_pos c2, bdX_inl, c_needRange, if_neg c3, bdX_inr]
    · unfold f_X12_openMinutes
      rw [sq_eq, m_rd_ok hR hT1 hO l1, bd_some, if_pos rfl, m_in, bd_some, decide_eq_true c2, bI_t, if_neg (by decide), m_in, bd_some, decide_eq_false c3, bI_f, if_pos rfl, m_throws1, bd_some, if_neg (by decide)]
  have d0 : (0 : Int32).toInt = 0 := rfl
  have d1 : (1439 : Int32).toInt = 1439 := rfl
  rw [d0, d1] at c2
  rw [d1] at c3
  obtain ⟨x, rfl, e2⟩ := i32_nI (x := a2) (n := 1440) (by omega) (by omega)
  obtain ⟨y, rfl, e3⟩ := i32_nI (x := a3) (n := 1440) (by omega) (by omega)
  have hB := nB_c hO
  obtain ⟨σ1, r, F, E, g1, hM, hr, hr6, hp, g2⟩ := c_collect hN h (o := 31) (Or.inl rfl) l1
  have sm1 : Same σ σ1 := ms_same (Or.inl rfl) g2
  have hc1 := h.same sm1
  have sm2 : Same σ1 (up σ1 178 0 0) := same_up (by unfold Sc; omega)
  have hTc := hc1.tv.same sm2
  have hWc := hc1.wv.same sm2
  obtain ⟨σ2, k1, k2, k3⟩ := m_paints hN hR hTc hWc hO h.wok l1
  have sm3 : Same (up σ1 178 0 0) σ2 := fun o k q => k3 o k (by unfold Sc at q; omega)
  have hI2 := (hc1.same sm2).same sm3
  have k0 : σ2 178 0 = 0 := (k3 178 0 (by omega)).trans up_th
  have es : f_X3_sizeWithin N R σ1 31 (nI x) (nI (y + 1)) = some (iI (cnt (cov t (tms w) rd) x (y + 1 - x)), σ1) := by
    have e := c_sizeWithin (N := N) hN hR (o := 31) (Or.inl rfl) hr (by omega) hM hp (l := x) (len := y + 1 - x) (by omega)
    rw [show ((x : Nat) : Int) + ((y + 1 - x : Nat) : Int) = ((y + 1 : Nat) : Int) by omega, ← iI_nat, ← iI_nat] at e
    exact e
  have ep : f_X12_paintedIn N R σ2 178 (nI x) (nI y) = some (iI (cnt (cov t (tms w) rd) x (y + 1 - x)), σ2) := by
    unfold f_X12_paintedIn
    have e := m_pin (N := N) hR k2 (z := y + 1) (by omega) (y + 1 - x) x N 0 (by omega) (by omega)
    rw [Int.zero_add, show ((y + 1 : Nat) : Int) - 1 = ((y : Nat) : Int) by omega, ← iI_nat y] at e
    exact e
  refine ⟨.inl (iI ((y : Int) - x + 1 - cnt (cov t (tms w) rd) x (y + 1 - x))), σ1, iI ((y : Int) - x + 1 - cnt (cov t (tms w) rd) x (y + 1 - x)), σ2, ?_, ?_, ⟨s, t, w, hI2⟩, fun v e => (by cases e; exact ⟨k0, rfl⟩), fun q e => (by cases e)⟩
  · unfold f_X11_openMinutes
    rw [c_rd_ok h l1, bdX_inl, c_needRange, if_pos (show (0 : Int32).toInt ≤ Int32.toInt (nI x) ∧ Int32.toInt (nI x) ≤ (1439 : Int32).toInt from c2), bdX_inl, c_needRange, if_pos (show Int32.toInt (nI x) ≤ Int32.toInt (nI y) ∧ Int32.toInt (nI y) ≤ (1439 : Int32).toInt from c3), bdX_inl, hR.site, hR.r1_5, g1, bd_some, show nI y + (1 : Int32) = nI (y + 1) from nI_add y 1, es, bd_some, iI_nat, iI_nat, iI_sub, iI_sub]
    congr 5
    omega
  · unfold f_X12_openMinutes
    rw [sq_eq, m_rd_ok hR hTc hO l1, bd_some, if_pos rfl, m_in, bd_some, decide_eq_true (show (0 : Int32).toInt ≤ Int32.toInt (nI x) ∧ Int32.toInt (nI x) ≤ (1439 : Int32).toInt from c2), bI_t, if_neg (by decide), m_in, bd_some, decide_eq_true (show Int32.toInt (nI x) ≤ Int32.toInt (nI y) ∧ Int32.toInt (nI y) ≤ (1439 : Int32).toInt from c3), bI_t, if_neg (by decide), m_throws0, bd_some, if_pos rfl, k1, bd_some, ep, bd_some, iI_nat, iI_nat, show (1 : Int32) = iI 1 from rfl, iI_sub, iI_add, iI_sub]
theorem ag_48 {N : Nat} (hN : 2000 ≤ N) : Ag_48 N Inv := by
  intro σ R a1 a2 hI
  obtain ⟨s, t, w, h⟩ := hI
  have hR := h.ro
  have hO := h.tok
  have hT := h.tv
  have hW := h.wv
  have q1 : Same σ (up σ 178 0 0) := same_up (by unfold Sc; omega)
  have hT1 := hT.same q1
  have hW1 := hW.same q1
  have h1 := h.same q1
  by_cases c1 : 0 ≤ a1.toInt ∧ a1.toInt < t 1
  rotate_left
  · refine ⟨.inr 0, σ, 0, up (up σ 178 0 0) 178 0 1, ?_, ?_, ⟨s, t, w, h1.same (same_up (by unfold Sc; omega))⟩, fun v e => (by cases e), fun q e => (by cases e; first | exact ⟨rfl, up_th⟩ | exact Or.inl ⟨rfl, up_th⟩ | exact Or.inr ⟨rfl, up_th⟩ | exact Or.inr (Or.inl ⟨rfl, up_th⟩) | exact Or.inr (Or.inr ⟨rfl, up_th⟩))⟩
    · unfold f_X11_sharedMinutes
      rw [c_rd_bad h c1, bdX_inr]
    · unfold f_X12_sharedMinutes
      rw [sq_eq, m_rd_bad hR hT1 hO c1, bd_some, if_neg (by decide)]
      try rfl
  obtain ⟨rd, rfl, e1⟩ := i32_nI (by omega) c1.2
  have l1 : (rd : Int) < t 1 := by omega
  by_cases c2 : 0 ≤ a2.toInt ∧ a2.toInt < t 1
  rotate_left
  · refine ⟨.inr 0, σ, 0, up (up σ 178 0 0) 178 0 1, ?_, ?_, ⟨s, t, w, h1.same (same_up (by unfold Sc; omega))⟩, fun v e => (by cases e), fun q e => (by cases e; first | exact ⟨rfl, up_th⟩ | exact Or.inl ⟨rfl, up_th⟩ | exact Or.inr ⟨rfl, up_th⟩ | exact Or.inr (Or.inl ⟨rfl, up_th⟩) | exact Or.inr (Or.inr ⟨rfl, up_th⟩))⟩
    · unfold f_X11_sharedMinutes
      rw [c_rd_ok h l1, bdX_inl, c_rd_bad h c2, bdX_inr]
    · unfold f_X12_sharedMinutes
      rw [sq_eq, m_rd_ok hR hT1 hO l1, bd_some, if_pos rfl, m_rd_bad hR hT1 hO c2, bd_some, if_neg (by decide)]
      try rfl
  obtain ⟨rq, rfl, e2⟩ := i32_nI (by omega) c2.2
  have l2 : (rq : Int) < t 1 := by omega
  have hB := nB_c hO
  obtain ⟨σ1, r, F, E, g1, hM, hr, hr6, hp, g2⟩ := c_collect hN h (o := 31) (Or.inl rfl) l1
  have sm1 : Same σ σ1 := ms_same (Or.inl rfl) g2
  have hc1 := h.same sm1
  have sm2 : Same σ1 (up σ1 178 0 0) := same_up (by unfold Sc; omega)
  have hTc := hc1.tv.same sm2
  have hWc := hc1.wv.same sm2
  obtain ⟨σ3, r', F', E', a1, hM', hr', hr6', hp', a3⟩ := c_collect hN hc1 (o := 34) (Or.inr rfl) l2
  have sn1 : Same σ1 σ3 := ms_same (Or.inr rfl) a3
  have hc3 := hc1.same sn1
  have sn2 : Same σ3 (up σ3 178 0 0) := same_up (by unfold Sc; omega)
  have hTc := hc3.tv.same sn2
  have hWc := hc3.wv.same sn2
  have hM3 : MS σ3 31 r F E := hM.fr (fun x j q1 q2 => a3 x j (by omega))
  obtain ⟨σ4, k1, k2, k3⟩ := m_paints hN hR hTc hWc hO h.wok l2
  have sn3 : Same (up σ3 178 0 0) σ4 := fun o k q => k3 o k (by unfold Sc at q; omega)
  obtain ⟨σ5, b1, b2, b3⟩ := m_sh30 (N := N) hR (nI rd) 1440 0 N σ4 (by omega) (by omega) k2 (fun j hj => by omega)
  have sn4 : Same σ4 σ5 := fun o k q => b3 o k (by unfold Sc at q; omega)
  obtain ⟨σ6, p1, p2, p3⟩ := m_paints hN hR ((hTc.same sn3).same sn4) ((hWc.same sn3).same sn4) hO h.wok l1
  have sn5 : Same σ5 σ6 := fun o k q => p3 o k (by unfold Sc at q; omega)
  have hI2 := (((hc3.same sn2).same sn3).same sn4).same sn5
  have k0 : σ6 178 0 = 0 := (p3 178 0 (by omega)).trans ((b3 178 0 (by omega)).trans ((k3 178 0 (by omega)).trans up_th))
  have ec := c_sh41 (N := N) hN hR hr hr6 hM3 hr' hr6' hM' hp' r 0 N 0 (by omega) (by omega)
  rw [shared_p hr hp, Int.zero_add] at ec
  have em := m_sh65 (N := N) hR p2 (fun j hj => (p3 187 j (by omega)).trans (b2 j hj)) 1440 0 N 0 (by omega) (by omega)
  rw [Int.zero_add] at em
  refine ⟨.inl (iI (cnt (fun j => cov t (tms w) rd j && cov t (tms w) rq j) 0 1440)), σ3, iI (cnt (fun j => cov t (tms w) rd j && cov t (tms w) rq j) 0 1440), σ6, ?_, ?_, ⟨s, t, w, hI2⟩, fun v e => (by cases e; exact ⟨k0, rfl⟩), fun q e => (by cases e)⟩
  · unfold f_X11_sharedMinutes
    rw [c_rd_ok h l1, bdX_inl, c_rd_ok h l2, bdX_inl, hR.site, hR.r1_5, g1, bd_some, hR.r1_6, a1, bd_some]
    exact ec
  · unfold f_X12_sharedMinutes
    rw [sq_eq, m_rd_ok hR hTc hO l1, bd_some, if_pos rfl, m_rd_ok hR hTc hO l2, bd_some, if_pos rfl, k1, bd_some, l_0, b1, p1, bd_some]
    exact em
theorem ag_42 {N : Nat} (hN : 2000 ≤ N) : Ag_42 N Inv := by
  intro σ R hI
  obtain ⟨s, t, w, h⟩ := hI
  have hR := h.ro
  have hO := h.tok
  have hn := nR_c hO
  obtain ⟨σ1, g1, g2⟩ := c_total (N := N) hN (nR t) 0 N 0 σ h (by omega) (by omega)
  have sm1 : Same σ σ1 := ms_same (o := 31) (Or.inl rfl) g2
  have hc1 := h.same sm1
  have sm2 : Same σ1 (up σ1 178 0 0) := same_up (by unfold Sc; omega)
  obtain ⟨σ2, k1, k2⟩ := m_inAll (N := N) hN hR hO h.wok (nR t) 0 N 0 (up σ1 178 0 0) (by omega) (by omega) (hc1.tv.same sm2) (hc1.wv.same sm2)
  have sm3 : Same (up σ1 178 0 0) σ2 := fun o k q => k2 o k (by unfold Sc at q; omega)
  have g1 : f_X9_closedTotal_4 N R N σ s 31 (0 : Int32) (0 : Int32) = some (iI (0 + sumF (clo t (tms w)) 0 (nR t)), σ1) := g1
  have k1 : f_X12_closedInAll_4 N R N (up σ1 178 0 0) 178 (0 : Int32) (0 : Int32) = some (iI (0 + sumF (clo t (tms w)) 0 (nR t)), σ2) := k1
  refine ⟨iI (0 + sumF (clo t (tms w)) 0 (nR t)), σ1, iI (0 + sumF (clo t (tms w)) 0 (nR t)), σ2, ?_, ?_, ⟨s, t, w, (hc1.same sm2).same sm3⟩, rfl⟩
  · unfold f_X11_totalClosed f_X9_closedTotal
    rw [hR.site, hR.r1_5, g1, bd_some]
  · unfold f_X12_totalClosed f_X12_closedInAll
    rw [sq_eq, k1, bd_some]
theorem ag_49 {N : Nat} (hN : 2000 ≤ N) : Ag_49 N Inv := by
  intro σ R hI
  obtain ⟨s, t, w, h⟩ := hI
  have hR := h.ro
  have hO := h.tok
  have hn := nR_c hO
  obtain ⟨σ1, g1, g2, g3⟩ := c_sh2 (N := N) hN 24 0 N σ h (by omega) (by omega) (fun j hj => by omega)
  have hc1 := h.same g3
  have sm2 : Same σ1 (up σ1 178 0 0) := same_up (by unfold Sc; omega)
  obtain ⟨σ2, k1, k2⟩ := m_bh7 (N := N) hN hR hO h.wok 24 0 N (up σ1 178 0 0) (hc1.tv.same sm2) (hc1.wv.same sm2) (by omega) (by omega) (fun j hj => by omega)
  have e := c_bs (N := N) hR (S := hsum t (tms w) (nR t)) (fun h => by have := hsum_r t (tms w) h (nR t); omega) g2 24 0 N (-1) (by omega) (by omega) (by omega)
  rw [if_pos rfl] at e
  refine ⟨iI (lp (bsC (hsum t (tms w) (nR t))) 0 24 (-1)), σ1, iI (lp (bsC (hsum t (tms w) (nR t))) 0 24 (-1)), σ2, ?_, ?_, ⟨s, t, w, (hc1.same sm2).same k2⟩, rfl⟩
  · unfold f_X11_busiestHour f_X11_sumHours
    rw [l_0, g1, bd_some]
    exact e
  · unfold f_X12_busiestHour
    rw [sq_eq]
    exact k1
theorem ag_26 {N : Nat} (hN : 2000 ≤ N) : Ag_26 N Inv := by
  intro σ R a1 hI
  obtain ⟨s, t, w, h⟩ := hI
  have hR := h.ro
  have hO := h.tok
  have hT := h.tv
  have hW := h.wv
  have q1 : Same σ (up σ 178 0 0) := same_up (by unfold Sc; omega)
  have hT1 := hT.same q1
  have hW1 := hW.same q1
  have h1 := h.same q1
  by_cases c1 : 0 ≤ a1.toInt ∧ a1.toInt < t 0
  rotate_left
  · refine ⟨.inr 0, σ, 0, up (up σ 178 0 0) 178 0 1, ?_, ?_, ⟨s, t, w, h1.same (same_up (by unfold Sc; omega))⟩, fun v e => (by cases e), fun q e => (by cases e; first | exact ⟨rfl, up_th⟩ | exact Or.inl ⟨rfl, up_th⟩ | exact Or.inr ⟨rfl, up_th⟩ | exact Or.inr (Or.inl ⟨rfl, up_th⟩) | exact Or.inr (Or.inr ⟨rfl, up_th⟩))⟩
    · unfold f_X11_quietMinutes
      rw [c_nb_bad h c1, bdX_inr]
    · unfold f_X12_quietMinutes
      rw [sq_eq, m_nb_bad hR hT1 hO c1, bd_some, if_neg (by decide)]
      try rfl
  obtain ⟨q, rfl, e1⟩ := i32_nI (by omega) c1.2
  have l1 : (q : Int) < t 0 := by omega
  have h0 := hO.1
  have q0 : Same σ (up σ 31 2 0) := same_up (by unfold Sc; omega)
  have h4 := hO.n l1
  obtain ⟨σ1, g1, g2⟩ := c_qm (N := N) hN l1 (t (81 + 18 * q + 9)).toNat 0 N (up σ 31 2 0) 0 (fun _ => 0) (fun _ => 0) (h.same q0) (by omega) (by omega) ⟨up_th, fun i hi => by omega⟩ (Runs.nil _ _) (by omega) (fun mm _ => ⟨fun z => (by cases z), fun ⟨i, i1, _⟩ => by omega⟩)
  have sm1 : Same (up σ 31 2 0) σ1 := ms_same (o := 31) (Or.inl rfl) g2
  have hc1 := (h.same q0).same sm1
  have sm2 : Same σ1 (up σ1 178 0 0) := same_up (by unfold Sc; omega)
  have hTc := hc1.tv.same sm2
  have em := m_qm (N := N) hN hR hTc hO l1 1440 0 N 0 (by omega) (by omega)
  rw [Int.zero_add] at em
  refine ⟨.inl (iI (cnt (fun j => still t q (j : Int)) 0 1440)), σ1, iI (cnt (fun j => still t q (j : Int)) 0 1440), up σ1 178 0 0, ?_, ?_, ⟨s, t, w, hc1.same sm2⟩, fun v e => (by cases e; exact ⟨up_th, rfl⟩), fun q e => (by cases e)⟩
  · unfold f_X11_quietMinutes f_X3_clear
    rw [c_nb_ok h l1, bdX_inl, hR.r1_5, sq_eq, bd_some]
    exact g1
  · unfold f_X12_quietMinutes
    rw [sq_eq, m_nb_ok hR hTc hO l1, bd_some, if_pos rfl]
    exact em
