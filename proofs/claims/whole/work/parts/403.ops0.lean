/-! ===== calls that read ===== -/
theorem up_th {σ : SI} {o k : Nat} {v : Int32} : up σ o k v o k = v := if_pos ⟨rfl, rfl⟩
section IVP
variable {N : Nat} {R : Nat → Nat → Nat} {s : Nat} {t w : Nat → Int} {σ : SI}
theorem Iv.ro (h : Iv σ R s t w) : RO R s := h.1
theorem Iv.tv (h : Iv σ R s t w) : TV t σ := h.2.1
theorem Iv.wv (h : Iv σ R s t w) : WV w σ := h.2.2.1
theorem Iv.tok (h : Iv σ R s t w) : TOk t := h.2.2.2.1
theorem Iv.wok (h : Iv σ R s t w) : WOk t w := h.2.2.2.2.1
theorem Iv.cq (h : Iv σ R s t w) : Cq σ s t := h.2.2.2.2.2.1
theorem Iv.cs (h : Iv σ R s t w) : Cs σ s t w := h.2.2.2.2.2.2.1
theorem Iv.cd (h : Iv σ R s t w) : Cd σ s t := h.2.2.2.2.2.2.2.1
theorem Iv.cw (h : Iv σ R s t w) : Cw σ s t w := h.2.2.2.2.2.2.2.2.1
theorem Iv.ch (h : Iv σ R s t w) : Ch σ t := h.2.2.2.2.2.2.2.2.2.1
theorem Iv.cp (h : Iv σ R s t w) : Cp σ t w := h.2.2.2.2.2.2.2.2.2.2.1
theorem Iv.ctk (h : Iv σ R s t w) : Ctk σ := h.2.2.2.2.2.2.2.2.2.2.2.1
theorem Iv.ctx (h : Iv σ R s t w) : Ctx σ := h.2.2.2.2.2.2.2.2.2.2.2.2
theorem Iv.bl7 (h : Iv σ R s t w) {b : Nat} (hb : (b : Int) < t 2) : σ (s + 40 + 5 * b) 7 = iI (t (285 + 22 * b + 9)) := (h.cq.2.2.2.2 b hb).2.2.2.1
theorem TOk.b (hO : TOk t) {b : Nat} (hb : (b : Int) < t 2) : (0 ≤ t (285 + 22 * b + 6) ∧ t (285 + 22 * b + 6) ≤ 999) ∧ (0 ≤ t (285 + 22 * b + 7) ∧ t (285 + 22 * b + 7) ≤ 999) ∧ (1 ≤ t (285 + 22 * b + 8) ∧ t (285 + 22 * b + 8) ≤ 500) ∧ (1 ≤ t (285 + 22 * b + 9) ∧ t (285 + 22 * b + 9) ≤ 12) ∧ (∀ c : Nat, (c : Int) < t (285 + 22 * b + 9) → 1 ≤ t (285 + 22 * b + 10 + c) ∧ t (285 + 22 * b + 10 + c) ≤ 999) ∧ ∀ k : Nat, k < 6 → t (285 + 22 * b + k) = 0 ∨ 97 ≤ t (285 + 22 * b + k) ∧ t (285 + 22 * b + k) ≤ 122 := hO.2.2.2.2.2.2.2.2.2.2.2 b hb
theorem TOk.n (hO : TOk t) {n : Nat} (hn : (n : Int) < t 0) : (0 ≤ t (81 + 18 * n + 6) ∧ t (81 + 18 * n + 6) ≤ 999) ∧ (0 ≤ t (81 + 18 * n + 7) ∧ t (81 + 18 * n + 7) ≤ 999) ∧ (0 ≤ t (81 + 18 * n + 8) ∧ t (81 + 18 * n + 8) ≤ 99999) ∧ (0 ≤ t (81 + 18 * n + 9) ∧ t (81 + 18 * n + 9) ≤ 4) ∧ ∀ k : Nat, (k : Int) < t (81 + 18 * n + 9) → 0 ≤ t (81 + 18 * n + 10 + 2 * k) ∧ t (81 + 18 * n + 10 + 2 * k) < t (81 + 18 * n + 11 + 2 * k) ∧ t (81 + 18 * n + 11 + 2 * k) ≤ 1440 := hO.2.2.2.2.2.2.2.2.2.1 n hn
theorem TOk.r (hO : TOk t) {r : Nat} (hr : (r : Int) < t 1) : ∀ j : Nat, j < 4 → 0 ≤ t (225 + 10 * r + 6 + j) ∧ t (225 + 10 * r + 6 + j) ≤ 999 := hO.2.2.2.2.2.2.2.2.2.2.1 r hr
theorem TOk.h (hO : TOk t) {k : Nat} (hk : k < 24) : (t (9 + 3 * k) = 0 ∨ t (9 + 3 * k) = 1) ∧ (0 ≤ t (9 + 3 * k + 1) ∧ t (9 + 3 * k + 1) ≤ 7) ∧ 0 ≤ t (9 + 3 * k + 2) ∧ t (9 + 3 * k + 2) ≤ 20 := hO.2.2.2.2.2.2.2.2.1 k hk
theorem Iv.chg (h : Iv σ R s t w) {b : Nat} (hb : (b : Int) < t 2) : 1 ≤ t (285 + 22 * b + 9) ∧ t (285 + 22 * b + 9) ≤ 12 := (h.tok.b hb).2.2.2.1
theorem c_bl_ok (h : Iv σ R s t w) {b : Nat} (hb : (b : Int) < t 2) : f_X11_blastAt N R σ 1 (nI b) = some (.inl (s + 40 + 5 * b), σ) := by
  have h2 := h.tok.2.2.1
  rw [c_blastAt h.ro h.cq.1.2.2.1 h.tok, nI_toInt (by omega), if_pos (by omega)]
  rfl
theorem c_bl_bad (h : Iv σ R s t w) {x : Int32} (hb : ¬ (0 ≤ x.toInt ∧ x.toInt < t 2)) : f_X11_blastAt N R σ 1 x = some (.inr 0, σ) := by
  rw [c_blastAt h.ro h.cq.1.2.2.1 h.tok, if_neg hb]
theorem c_nd_ok (h : Iv σ R s t w) {b : Nat} (hb : (b : Int) < t 2) : f_X11_needBlast N R σ 1 (nI b) = some (.inl (), σ) := by
  have h2 := h.tok.2.2.1
  rw [c_needBlast h.ro h.cq.1.2.2.1 h.tok, nI_toInt (by omega), if_pos (by omega)]
theorem c_nd_bad (h : Iv σ R s t w) {x : Int32} (hb : ¬ (0 ≤ x.toInt ∧ x.toInt < t 2)) : f_X11_needBlast N R σ 1 x = some (.inr 0, σ) := by
  rw [c_needBlast h.ro h.cq.1.2.2.1 h.tok, if_neg hb]
theorem c_nb_ok (h : Iv σ R s t w) {b : Nat} (hb : (b : Int) < t 0) : f_X11_neighbourAt N R σ 1 (nI b) = some (.inl (s + 10 + 3 * b), σ) := by
  have h2 := h.tok.1
  rw [c_neighbourAt h.ro h.cq.1.1 h.tok, nI_toInt (by omega), if_pos (by omega)]
  rfl
theorem c_nb_bad (h : Iv σ R s t w) {x : Int32} (hb : ¬ (0 ≤ x.toInt ∧ x.toInt < t 0)) : f_X11_neighbourAt N R σ 1 x = some (.inr 0, σ) := by
  rw [c_neighbourAt h.ro h.cq.1.1 h.tok, if_neg hb]
theorem c_rd_ok (h : Iv σ R s t w) {b : Nat} (hb : (b : Int) < t 1) : f_X11_roadAt N R σ 1 (nI b) = some (.inl (s + 34 + b), σ) := by
  have h2 := h.tok.2.1
  rw [c_roadAt h.ro h.cq.1.2.1 h.tok, nI_toInt (by omega), if_pos (by omega)]
  rfl
theorem c_rd_bad (h : Iv σ R s t w) {x : Int32} (hb : ¬ (0 ≤ x.toInt ∧ x.toInt < t 1)) : f_X11_roadAt N R σ 1 x = some (.inr 0, σ) := by
  rw [c_roadAt h.ro h.cq.1.2.1 h.tok, if_neg hb]
theorem m_bl_ok (hR : RO R s) (hT : TV t σ) (hO : TOk t) {b : Nat} (hb : (b : Int) < t 2) : f_X12_noBlast N R σ 178 (nI b) = some (0, σ) := by
  have h2 := hO.2.2.1
  rw [m_noBlast hR hT hO, nI_toInt (by omega), if_pos (by omega)]
theorem m_bl_bad (hR : RO R s) (hT : TV t σ) (hO : TOk t) {x : Int32} (hb : ¬ (0 ≤ x.toInt ∧ x.toInt < t 2)) : f_X12_noBlast N R σ 178 x = some (1, up σ 178 0 1) := by
  rw [m_noBlast hR hT hO, if_neg hb]
theorem m_nb_ok (hR : RO R s) (hT : TV t σ) (hO : TOk t) {b : Nat} (hb : (b : Int) < t 0) : f_X12_noNear N R σ 178 (nI b) = some (0, σ) := by
  have h2 := hO.1
  rw [m_noNear hR hT hO, nI_toInt (by omega), if_pos (by omega)]
theorem m_nb_bad (hR : RO R s) (hT : TV t σ) (hO : TOk t) {x : Int32} (hb : ¬ (0 ≤ x.toInt ∧ x.toInt < t 0)) : f_X12_noNear N R σ 178 x = some (1, up σ 178 0 1) := by
  rw [m_noNear hR hT hO, if_neg hb]
theorem m_rd_ok (hR : RO R s) (hT : TV t σ) (hO : TOk t) {b : Nat} (hb : (b : Int) < t 1) : f_X12_noRoad N R σ 178 (nI b) = some (0, σ) := by
  have h2 := hO.2.1
  rw [m_noRoad hR hT hO, nI_toInt (by omega), if_pos (by omega)]
theorem m_rd_bad (hR : RO R s) (hT : TV t σ) (hO : TOk t) {x : Int32} (hb : ¬ (0 ≤ x.toInt ∧ x.toInt < t 1)) : f_X12_noRoad N R σ 178 x = some (1, up σ 178 0 1) := by
  rw [m_noRoad hR hT hO, if_neg hb]
end IVP

theorem ag_3 {N : Nat} (hN : 2000 ≤ N) : Ag_3 N Inv := by
  intro σ R hI
  obtain ⟨s, t, w, h⟩ := hI
  have hR := h.ro
  have hO := h.tok
  have hT := h.tv
  have hW := h.wv
  have q1 : Same σ (up σ 178 0 0) := same_up (by unfold Sc; omega)
  have hT1 := hT.same q1
  have hW1 := hW.same q1
  have h1 := h.same q1
  refine ⟨σ 178 9, σ, σ 178 9, up σ 178 0 0, ?_, ?_, ⟨s, t, w, h1⟩, rfl⟩
  · unfold f_X11_errorOffset
    rw [hR.r1_0, hR.r2_0, h.ctk.choose_spec.2.2.2.2.1]
  · unfold f_X12_errorOffset
    rw [sq_eq]
    rfl
theorem ag_4 {N : Nat} (hN : 2000 ≤ N) : Ag_4 N Inv := by
  intro σ R hI
  obtain ⟨s, t, w, h⟩ := hI
  have hR := h.ro
  have hO := h.tok
  have hT := h.tv
  have hW := h.wv
  have q1 : Same σ (up σ 178 0 0) := same_up (by unfold Sc; omega)
  have hT1 := hT.same q1
  have hW1 := hW.same q1
  have h1 := h.same q1
  refine ⟨σ 178 10, σ, σ 178 10, up σ 178 0 0, ?_, ?_, ⟨s, t, w, h1⟩, rfl⟩
  · unfold f_X11_errorKind
    rw [hR.r1_0, hR.r2_0, h.ctk.choose_spec.2.2.2.2.2]
  · unfold f_X12_errorKind
    rw [sq_eq]
    rfl
theorem ag_5 {N : Nat} (hN : 2000 ≤ N) : Ag_5 N Inv := by
  intro σ R hI
  obtain ⟨s, t, w, h⟩ := hI
  have hR := h.ro
  have hO := h.tok
  have hT := h.tv
  have hW := h.wv
  have q1 : Same σ (up σ 178 0 0) := same_up (by unfold Sc; omega)
  have hT1 := hT.same q1
  have hW1 := hW.same q1
  have h1 := h.same q1
  refine ⟨iI (t 2), σ, iI (t 2), up σ 178 0 0, ?_, ?_, ⟨s, t, w, h1⟩, rfl⟩
  · unfold f_X11_blastCount
    rw [hR.site, h.cq.1.2.2.1]
  · unfold f_X12_blastCount
    rw [sq_eq]
    rw [m_blasts hR hT1, bd_some]
theorem ag_6 {N : Nat} (hN : 2000 ≤ N) : Ag_6 N Inv := by
  intro σ R hI
  obtain ⟨s, t, w, h⟩ := hI
  have hR := h.ro
  have hO := h.tok
  have hT := h.tv
  have hW := h.wv
  have q1 : Same σ (up σ 178 0 0) := same_up (by unfold Sc; omega)
  have hT1 := hT.same q1
  have hW1 := hW.same q1
  have h1 := h.same q1
  refine ⟨iI (t 0), σ, iI (t 0), up σ 178 0 0, ?_, ?_, ⟨s, t, w, h1⟩, rfl⟩
  · unfold f_X11_neighbourCount
    rw [hR.site, h.cq.1.1]
  · unfold f_X12_neighbourCount
    rw [sq_eq]
    rw [show ck (0 : Int32) 417 = ck (α := Int32 × SI) (nI 0) 417 from rfl, ck_nI (by decide) (by decide), show (0 : Int32).toNatClampNeg = 0 from rfl, hR.m11, hT1]
theorem ag_7 {N : Nat} (hN : 2000 ≤ N) : Ag_7 N Inv := by
  intro σ R hI
  obtain ⟨s, t, w, h⟩ := hI
  have hR := h.ro
  have hO := h.tok
  have hT := h.tv
  have hW := h.wv
  have q1 : Same σ (up σ 178 0 0) := same_up (by unfold Sc; omega)
  have hT1 := hT.same q1
  have hW1 := hW.same q1
  have h1 := h.same q1
  refine ⟨iI (t 1), σ, iI (t 1), up σ 178 0 0, ?_, ?_, ⟨s, t, w, h1⟩, rfl⟩
  · unfold f_X11_roadCount
    rw [hR.site, h.cq.1.2.1]
  · unfold f_X12_roadCount
    rw [sq_eq]
    rw [show ck (1 : Int32) 417 = ck (α := Int32 × SI) (nI 1) 417 from rfl, ck_nI (by decide) (by decide), show (1 : Int32).toNatClampNeg = 1 from rfl, hR.m11, hT1]
theorem c_startTotal {N : Nat} {R : Nat → Nat → Nat} {s : Nat} {t w : Nat → Int} {σ : SI} (h : Iv σ R s t w) : f_X9_startTotal N R σ s = some (iI (nS t), σ) := by
  have hO := h.tok
  have h3 := hO.2.2.2.1
  have h5 := hO.2.2.2.2.1
  have h6 : (t 4 - t 3) / t 5 ≤ t 4 - t 3 := Int.ediv_le_self _ (by omega)
  have h7 : 0 ≤ (t 4 - t 3) / t 5 := Int.ediv_nonneg (by omega) (by omega)
  have hn : ¬ iI (t 5) = 0 := by rw [show (0 : Int32) = iI 0 from rfl, iI_eq (by omega)]; omega
  unfold f_X9_startTotal f_X11_quotient
  rw [h.cq.1.2.2.2.1, h.cq.1.2.2.2.2.1, h.cq.1.2.2.2.2.2.1, if_neg hn, cd_ne hn, bd_some, iI_sub, iI_div (by omega) (by omega), show (1 : Int32) = iI 1 from rfl, iI_add]
  unfold nS
  congr 3
  omega
theorem c_startAt {N : Nat} {R : Nat → Nat → Nat} {s : Nat} {t w : Nat → Int} {σ : SI} (h : Iv σ R s t w) (k : Nat) : f_X9_startAt N R σ s (nI k) = some (iI (stA t k), σ) := by
  unfold f_X9_startAt stA
  rw [h.cq.1.2.2.2.1, h.cq.1.2.2.2.2.2.1, iI_nat, iI_mul, iI_add, Int.mul_comm]
theorem ag_8 {N : Nat} (hN : 2000 ≤ N) : Ag_8 N Inv := by
  intro σ R hI
  obtain ⟨s, t, w, h⟩ := hI
  have hR := h.ro
  have hO := h.tok
  have hT := h.tv
  have hW := h.wv
  have q1 : Same σ (up σ 178 0 0) := same_up (by unfold Sc; omega)
  have hT1 := hT.same q1
  have hW1 := hW.same q1
  have h1 := h.same q1
  refine ⟨iI (nS t), σ, iI (nS t), up σ 178 0 0, ?_, ?_, ⟨s, t, w, h1⟩, rfl⟩
  · unfold f_X11_startCount
    rw [hR.site, c_startTotal h, bd_some]
  · unfold f_X12_startCount
    rw [sq_eq]
    rw [m_starts hR hT1 hO, bd_some]
theorem ag_9 {N : Nat} (hN : 2000 ≤ N) : Ag_9 N Inv := by
  intro σ R a1 hI
  obtain ⟨s, t, w, h⟩ := hI
  have hR := h.ro
  have hO := h.tok
  have hT := h.tv
  have hW := h.wv
  have q1 : Same σ (up σ 178 0 0) := same_up (by unfold Sc; omega)
  have hT1 := hT.same q1
  have hW1 := hW.same q1
  have h1 := h.same q1
  by_cases c1 : 0 ≤ a1.toInt ∧ a1.toInt < t 2
  rotate_left
  · refine ⟨.inr 0, σ, 0, up (up σ 178 0 0) 178 0 1, ?_, ?_, ⟨s, t, w, h1.same (same_up (by unfold Sc; omega))⟩, fun v e => (by cases e), fun q e => (by cases e; first | exact ⟨rfl, up_th⟩ | exact Or.inl ⟨rfl, up_th⟩ | exact Or.inr ⟨rfl, up_th⟩ | exact Or.inr (Or.inl ⟨rfl, up_th⟩) | exact Or.inr (Or.inr ⟨rfl, up_th⟩))⟩
    · unfold f_X11_chargeCount
      rw [c_bl_bad h c1, bdX_inr]
    · unfold f_X12_chargeCount
      rw [sq_eq, m_bl_bad hR hT1 hO c1, bd_some, if_neg (by decide)]
      try rfl
  obtain ⟨b, rfl, e1⟩ := i32_nI (by omega) c1.2
  have l1 : (b : Int) < t 2 := by omega
  refine ⟨.inl (iI (t (285 + 22 * b + 9))), σ, iI (t (285 + 22 * b + 9)), up σ 178 0 0, ?_, ?_, ⟨s, t, w, h1⟩, fun v e => (by cases e; exact ⟨by first | exact up_th | (simp only [up_th]), rfl⟩), fun q e => (by cases e)⟩
  · unfold f_X11_chargeCount
    rw [c_bl_ok h l1, bdX_inl]
    rw [h.bl7 l1]
  · unfold f_X12_chargeCount
    rw [sq_eq, m_bl_ok hR hT1 hO l1, bd_some, if_pos rfl]
    rw [m_charges hR hT1 (by have := hO.2.2.1; omega), bd_some]
theorem ag_10 {N : Nat} (hN : 2000 ≤ N) : Ag_10 N Inv := by
  intro σ R a1 a2 hI
  obtain ⟨s, t, w, h⟩ := hI
  have hR := h.ro
  have hO := h.tok
  have hT := h.tv
  have hW := h.wv
  have q1 : Same σ (up σ 178 0 0) := same_up (by unfold Sc; omega)
  have hT1 := hT.same q1
  have hW1 := hW.same q1
  have h1 := h.same q1
  by_cases c1 : 0 ≤ a1.toInt ∧ a1.toInt < t 2
  rotate_left
  · refine ⟨.inr 0, σ, 0, up (up σ 178 0 0) 178 0 1, ?_, ?_, ⟨s, t, w, h1.same (same_up (by unfold Sc; omega))⟩, fun v e => (by cases e), fun q e => (by cases e; first | exact ⟨rfl, up_th⟩ | exact Or.inl ⟨rfl, up_th⟩ | exact Or.inr ⟨rfl, up_th⟩ | exact Or.inr (Or.inl ⟨rfl, up_th⟩) | exact Or.inr (Or.inr ⟨rfl, up_th⟩))⟩
    · unfold f_X11_chargeSize
      rw [c_bl_bad h c1, bdX_inr]
    · unfold f_X12_chargeSize
      rw [sq_eq, m_bl_bad hR hT1 hO c1, bd_some, if_neg (by decide)]
      try rfl
  obtain ⟨b, rfl, e1⟩ := i32_nI (by omega) c1.2
  have l1 : (b : Int) < t 2 := by omega
  have hch := h.chg l1
  by_cases c2 : 0 ≤ a2.toInt ∧ a2.toInt < t (285 + 22 * b + 9)
  rotate_left
  · refine ⟨.inr 0, σ, 0, up (up σ 178 0 0) 178 0 1, ?_, ?_, ⟨s, t, w, h1.same (same_up (by unfold Sc; omega))⟩, fun v e => (by cases e), fun q e => (by cases e; first | exact ⟨rfl, up_th⟩ | exact Or.inl ⟨rfl, up_th⟩ | exact Or.inr ⟨rfl, up_th⟩ | exact Or.inr (Or.inl ⟨rfl, up_th⟩) | exact Or.inr (Or.inr ⟨rfl, up_th⟩))⟩
    · unfold f_X11_chargeSize
      rw [c_bl_ok h l1, bdX_inl, c_needCharge (h.bl7 l1) (by omega), if_neg c2, bdX_inr]
    · unfold f_X12_chargeSize
      rw [sq_eq, m_bl_ok hR hT1 hO l1, bd_some, if_pos rfl, m_noCharge hR hT1 (by have := hO.2.2.1; omega) (by omega), if_neg c2, bd_some, if_neg (by decide)]
      try rfl
  obtain ⟨c, rfl, e2⟩ := i32_nI (by omega) c2.2
  have l2 : (c : Int) < t (285 + 22 * b + 9) := by omega
  refine ⟨.inl (iI (sz t b c)), σ, iI (sz t b c), up σ 178 0 0, ?_, ?_, ⟨s, t, w, h1⟩, fun v e => (by cases e; exact ⟨by first | exact up_th | (simp only [up_th]), rfl⟩), fun q e => (by cases e)⟩
  · unfold f_X11_chargeSize
    rw [c_bl_ok h l1, bdX_inl, c_needCharge (h.bl7 l1) (by omega), if_pos c2, bdX_inl]
    rw [ck_nI (by omega) (by decide), hR.blA b (by have := hO.2.2.1; omega) 0 (by decide), nI_clamp (by omega), show s + 41 + 5 * b + 0 = s + 41 + 5 * b by omega, (h.cq.2.2.2.2 b l1).2.2.2.2.1 c l2]
    rfl
  · unfold f_X12_chargeSize
    rw [sq_eq, m_bl_ok hR hT1 hO l1, bd_some, if_pos rfl, m_noCharge hR hT1 (by have := hO.2.2.1; omega) (by omega), if_pos c2, bd_some, if_pos rfl]
    rw [m_chargeOf hR hT1 (by have := hO.2.2.1; omega) (by omega), bd_some]
theorem ag_11 {N : Nat} (hN : 2000 ≤ N) : Ag_11 N Inv := by
  intro σ R a1 a2 hI
  obtain ⟨s, t, w, h⟩ := hI
  have hR := h.ro
  have hO := h.tok
  have hT := h.tv
  have hW := h.wv
  have q1 : Same σ (up σ 178 0 0) := same_up (by unfold Sc; omega)
  have hT1 := hT.same q1
  have hW1 := hW.same q1
  have h1 := h.same q1
  by_cases c1 : 0 ≤ a1.toInt ∧ a1.toInt < t 2
  rotate_left
  · refine ⟨.inr 0, σ, 0, up (up σ 178 0 0) 178 0 1, ?_, ?_, ⟨s, t, w, h1.same (same_up (by unfold Sc; omega))⟩, fun v e => (by cases e), fun q e => (by cases e; first | exact ⟨rfl, up_th⟩ | exact Or.inl ⟨rfl, up_th⟩ | exact Or.inr ⟨rfl, up_th⟩ | exact Or.inr (Or.inl ⟨rfl, up_th⟩) | exact Or.inr (Or.inr ⟨rfl, up_th⟩))⟩
    · unfold f_X11_delay
      rw [c_bl_bad h c1, bdX_inr]
    · unfold f_X12_delay
      rw [sq_eq, m_bl_bad hR hT1 hO c1, bd_some, if_neg (by decide)]
      try rfl
  obtain ⟨b, rfl, e1⟩ := i32_nI (by omega) c1.2
  have l1 : (b : Int) < t 2 := by omega
  have hch := h.chg l1
  by_cases c2 : 0 ≤ a2.toInt ∧ a2.toInt < t (285 + 22 * b + 9)
  rotate_left
  · refine ⟨.inr 0, σ, 0, up (up σ 178 0 0) 178 0 1, ?_, ?_, ⟨s, t, w, h1.same (same_up (by unfold Sc; omega))⟩, fun v e => (by cases e), fun q e => (by cases e; first | exact ⟨rfl, up_th⟩ | exact Or.inl ⟨rfl, up_th⟩ | exact Or.inr ⟨rfl, up_th⟩ | exact Or.inr (Or.inl ⟨rfl, up_th⟩) | exact Or.inr (Or.inr ⟨rfl, up_th⟩))⟩
    · unfold f_X11_delay
      rw [c_bl_ok h l1, bdX_inl, c_needCharge (h.bl7 l1) (by omega), if_neg c2, bdX_inr]
    · unfold f_X12_delay
      rw [sq_eq, m_bl_ok hR hT1 hO l1, bd_some, if_pos rfl, m_noCharge hR hT1 (by have := hO.2.2.1; omega) (by omega), if_neg c2, bd_some, if_neg (by decide)]
      try rfl
  obtain ⟨c, rfl, e2⟩ := i32_nI (by omega) c2.2
  have l2 : (c : Int) < t (285 + 22 * b + 9) := by omega
  refine ⟨.inl (iI (dl w b c)), σ, iI (dl w b c), up σ 178 0 0, ?_, ?_, ⟨s, t, w, h1⟩, fun v e => (by cases e; exact ⟨by first | exact up_th | (simp only [up_th]), rfl⟩), fun q e => (by cases e)⟩
  · unfold f_X11_delay
    rw [c_bl_ok h l1, bdX_inl, c_needCharge (h.bl7 l1) (by omega), if_pos c2, bdX_inl]
    rw [ck_nI (by omega) (by decide), hR.blA b (by have := hO.2.2.1; omega) 1 (by decide), nI_clamp (by omega), show s + 41 + 5 * b + 1 = s + 42 + 5 * b by omega, (h.cs b l1).2.2 c l2]
    rfl
  · unfold f_X12_delay
    rw [sq_eq, m_bl_ok hR hT1 hO l1, bd_some, if_pos rfl, m_noCharge hR hT1 (by have := hO.2.2.1; omega) (by omega), if_pos c2, bd_some, if_pos rfl]
    rw [m_delayOf hR hW1 (by have := hO.2.2.1; omega) (by omega), bd_some]
theorem ag_28 {N : Nat} (hN : 2000 ≤ N) : Ag_28 N Inv := by
  intro σ R a1 hI
  obtain ⟨s, t, w, h⟩ := hI
  have hR := h.ro
  have hO := h.tok
  have hT := h.tv
  have hW := h.wv
  have q1 : Same σ (up σ 178 0 0) := same_up (by unfold Sc; omega)
  have hT1 := hT.same q1
  have hW1 := hW.same q1
  have h1 := h.same q1
  by_cases c1 : 0 ≤ a1.toInt ∧ a1.toInt < t 2
  rotate_left
  · refine ⟨.inr 0, σ, 0, up (up σ 178 0 0) 178 0 1, ?_, ?_, ⟨s, t, w, h1.same (same_up (by unfold Sc; omega))⟩, fun v e => (by cases e), fun q e => (by cases e; first | exact ⟨rfl, up_th⟩ | exact Or.inl ⟨rfl, up_th⟩ | exact Or.inr ⟨rfl, up_th⟩ | exact Or.inr (Or.inl ⟨rfl, up_th⟩) | exact Or.inr (Or.inr ⟨rfl, up_th⟩))⟩
    · unfold f_X11_timeOf
      rw [c_nd_bad h c1, bdX_inr]
    · unfold f_X12_timeOf
      rw [sq_eq, m_bl_bad hR hT1 hO c1, bd_some, if_neg (by decide)]
      try rfl
  obtain ⟨b, rfl, e1⟩ := i32_nI (by omega) c1.2
  have l1 : (b : Int) < t 2 := by omega
  refine ⟨.inl (iI (w (14 * b))), σ, iI (w (14 * b)), up σ 178 0 0, ?_, ?_, ⟨s, t, w, h1⟩, fun v e => (by cases e; exact ⟨by first | exact up_th | (simp only [up_th]), rfl⟩), fun q e => (by cases e)⟩
  · unfold f_X11_timeOf
    rw [c_nd_ok h l1, bdX_inl]
    rw [ck_nI (by have := hO.2.2.1; omega) (by decide), hR.site, hR.si 6 (by decide), nI_clamp (by have := hO.2.2.1; omega), show s + 1 + 6 = s + 7 by omega, (h.cs b l1).1]
  · unfold f_X12_timeOf
    rw [sq_eq, m_bl_ok hR hT1 hO l1, bd_some, if_pos rfl]
    rw [m_time hR hW1 (by have := hO.2.2.1; omega), bd_some]
theorem ag_29 {N : Nat} (hN : 2000 ≤ N) : Ag_29 N Inv := by
  intro σ R a1 hI
  obtain ⟨s, t, w, h⟩ := hI
  have hR := h.ro
  have hO := h.tok
  have hT := h.tv
  have hW := h.wv
  have q1 : Same σ (up σ 178 0 0) := same_up (by unfold Sc; omega)
  have hT1 := hT.same q1
  have hW1 := hW.same q1
  have h1 := h.same q1
  by_cases c1 : 0 ≤ a1.toInt ∧ a1.toInt < t 2
  rotate_left
  · refine ⟨.inr 0, σ, 0, up (up σ 178 0 0) 178 0 1, ?_, ?_, ⟨s, t, w, h1.same (same_up (by unfold Sc; omega))⟩, fun v e => (by cases e), fun q e => (by cases e; first | exact ⟨rfl, up_th⟩ | exact Or.inl ⟨rfl, up_th⟩ | exact Or.inr ⟨rfl, up_th⟩ | exact Or.inr (Or.inl ⟨rfl, up_th⟩) | exact Or.inr (Or.inr ⟨rfl, up_th⟩))⟩
    · unfold f_X11_isFired
      rw [c_bl_bad h c1, bdX_inr]
    · unfold f_X12_isFired
      rw [sq_eq, m_bl_bad hR hT1 hO c1, bd_some, if_neg (by decide)]
      try rfl
  obtain ⟨b, rfl, e1⟩ := i32_nI (by omega) c1.2
  have l1 : (b : Int) < t 2 := by omega
  refine ⟨.inl (iI (w (14 * b + 1))), σ, iI (w (14 * b + 1)), up σ 178 0 0, ?_, ?_, ⟨s, t, w, h1⟩, fun v e => (by cases e; exact ⟨by first | exact up_th | (simp only [up_th]), rfl⟩), fun q e => (by cases e)⟩
  · unfold f_X11_isFired
    rw [c_bl_ok h l1, bdX_inl]
    rw [(h.cs b l1).2.1]
    rcases (h.wok b l1).2.1 with e | e <;> rw [e]
    · exact cb_0
    · exact cb_1
  · unfold f_X12_isFired
    rw [sq_eq, m_bl_ok hR hT1 hO l1, bd_some, if_pos rfl]
    rw [m_hasFired hR hW1 (by have := hO.2.2.1; omega) (h.wok b l1).2.1, bd_some]
    rcases (h.wok b l1).2.1 with e | e <;> rw [e] <;> rfl
theorem ag_58 {N : Nat} (hN : 2000 ≤ N) : Ag_58 N Inv := by
  intro σ R hI
  obtain ⟨s, t, w, h⟩ := hI
  have hR := h.ro
  have hO := h.tok
  have hT := h.tv
  have hW := h.wv
  have q1 : Same σ (up σ 178 0 0) := same_up (by unfold Sc; omega)
  have hT1 := hT.same q1
  have hW1 := hW.same q1
  have h1 := h.same q1
  refine ⟨σ 178 16, σ, σ 178 16, up σ 178 0 0, ?_, ?_, ⟨s, t, w, h1⟩, rfl⟩
  · unfold f_X11_undoDepth
    rw [hR.r1_1]
    obtain ⟨d, nx, -, -, e1, e2, -⟩ := h.ch
    rw [e1, e2]
  · unfold f_X12_undoDepth
    rw [sq_eq]
    rfl
