/-! ===== actions: one time or one fired flag ===== -/
section ACT2
variable {N : Nat} {R : Nat → Nat → Nat} {s : Nat} {t w w' : Nat → Int} {σ : SI}
theorem act1 (hN : 2000 ≤ N) (h : Iv σ R s t w) : ∃ σ1, f_X11_recordAction N R σ 1 = some ((), σ1) ∧ σ1 23 5 = 0 ∧ (∀ o j, ¬ (5 ≤ o ∧ o ≤ 23) → σ1 o j = σ o j) ∧ ∀ σc : SI, (∀ o j, o < 38 ∨ 177 < o → (o ≠ 178 ∨ j ≠ 0) → σc o j = σ1 o j) → ∃ σk, f_X12_keeps N R σc 178 = some ((), σk) ∧ (∀ o j, o ≠ 185 → (o ≠ 178 ∨ j ≠ 16) → σk o j = σc o j) ∧ ∀ σ' : SI, (∀ o j, (5 ≤ o ∧ o ≤ 22) ∨ o = 185 ∨ (o = 178 ∧ j = 16) → σ' o j = σk o j) → Ch σ' t := by
  obtain ⟨d, nx, hd, hnx, hd0, h52, h51, hh⟩ := h.ch
  obtain ⟨σ1, g1, er, e1, e2, e3, fr⟩ := c_record hN h hd hnx h51 h52
  refine ⟨σ1, g1, e3, fun o j q => fr o j (by omega) (by omega) (by omega), fun σc hc => ?_⟩
  have hc16 : σc 178 16 = nI d := (hc 178 16 (by omega) (by omega)).trans ((fr 178 16 (by omega) (by omega) (by omega)).trans hd0)
  obtain ⟨σk, k1, k16, kp, kf⟩ := m_keeps (σ := σc) hN h.ro hd hc16
  refine ⟨σk, k1, kf, fun σ' hq => ?_⟩
  have a1 : ∀ o j, 5 ≤ o → o ≤ 22 → σ' o j = σ1 o j := fun o j q1 q2 => (hq o j (by omega)).trans ((kf o j (by omega) (by omega)).trans (hc o j (by omega) (by omega)))
  refine Ch_push h hd hnx hd0 h51 hh ((a1 5 1 (by omega) (by omega)).trans e1) ((a1 5 2 (by omega) (by omega)).trans e2) ((hq 178 16 (by omega)).trans k16) (fun b hb => ?_) (fun o j q1 q2 q3 => ?_) (fun j k hk hj => ?_)
  · obtain ⟨r1, r2, r3⟩ := er b hb
    refine ⟨(a1 _ _ (by omega) (by omega)).trans r1, (a1 _ _ (by omega) (by omega)).trans r2, fun c hc2 => (a1 _ _ (by omega) (by omega)).trans (r3 c hc2)⟩
  · exact (a1 o j (by omega) (by omega)).trans (fr o j q3 (by omega) (by omega))
  · have b1 : σc 183 k = σ 183 k := (hc 183 k (by omega) (by omega)).trans (fr 183 k (by omega) (by omega) (by omega))
    have b2 : ∀ q, σc 185 q = σ 185 q := fun q => (hc 185 q (by omega) (by omega)).trans (fr 185 q (by omega) (by omega) (by omega))
    rw [hq 185 _ (by omega), kp j k hk hj, b1, b2]
theorem act_one (hN : 2000 ≤ N) (h : Iv σ R s t w) {b e o1 k1 : Nat} (hb : (b : Int) < t 2) {v : Int} (he : e = 0 ∧ o1 = s + 7 ∧ k1 = b ∧ -1 ≤ v ∧ v ≤ 1439 ∨ e = 1 ∧ o1 = s + 40 + 5 * b ∧ k1 = 13 ∧ (v = 0 ∨ v = 1)) : ∃ σ1, f_X11_recordAction N R σ 1 = some ((), σ1) ∧ (∀ o j, ¬ (5 ≤ o ∧ o ≤ 23) → σ1 o j = σ o j) ∧ TV t (up (up σ1 o1 k1 (iI v)) 178 0 0) ∧ WV w (up (up σ1 o1 k1 (iI v)) 178 0 0) ∧ ∃ σk, f_X12_keeps N R (up (up σ1 o1 k1 (iI v)) 178 0 0) 178 = some ((), σk) ∧ WV w σk ∧ σk 178 0 = 0 ∧ Iv (up σk 183 (14 * b + e) (iI v)) R s t (fun k => if k = 14 * b + e then v else w k) := by
  have hO := h.tok
  have hs := h.ro.1
  have hB := nB_c hO
  obtain ⟨σ1, g1, g5, fr, g⟩ := act1 hN h
  have hu : ∀ o j, o ≠ o1 → (o ≠ 178 ∨ j ≠ 0) → up (up σ1 o1 k1 (iI v)) 178 0 0 o j = σ1 o j := fun o j q1 q2 => by
    unfold up
    rw [if_neg (by omega), if_neg (by omega)]
  obtain ⟨σk, k1', kf, kc⟩ := g (up (up σ1 o1 k1 (iI v)) 178 0 0) (fun o j q1 q2 => hu o j (by omega) q2)
  have kw : ∀ j, σk 183 j = iI (w j) := fun j => (kf 183 j (by omega) (by omega)).trans ((hu 183 j (by omega) (by omega)).trans ((fr 183 j (by omega)).trans (h.wv j)))
  refine ⟨σ1, g1, fr, fun k => (hu 181 k (by omega) (by omega)).trans ((fr 181 k (by omega)).trans (h.tv k)), fun k => (hu 183 k (by omega) (by omega)).trans ((fr 183 k (by omega)).trans (h.wv k)), σk, k1', kw, (kf 178 0 (by omega) (by omega)).trans up_th, ?_⟩
  have key : ∀ o j, 38 ≤ o → o ≤ 177 → up σk 183 (14 * b + e) (iI v) o j = if o = o1 ∧ j = k1 then iI v else σ o j := fun o j q1 q2 => by
    rw [show up σk 183 (14 * b + e) (iI v) o j = σk o j from if_neg (by omega), kf o j (by omega) (by omega), show up (up σ1 o1 k1 (iI v)) 178 0 0 o j = up σ1 o1 k1 (iI v) o j from if_neg (by omega)]
    unfold up
    rw [fr o j (by omega)]
  have hch : ∀ b : Nat, (b : Int) < t 2 → t (285 + 22 * b + 9) ≤ 12 := fun b hb => (hO.b hb).2.2.2.1.2
  refine Iv.ofW h (fun o k hk => ?_) (fun k => ?_) (fun b' hb' => ?_) (fun b' hb' => ?_) (Cw.c hO h.cw (fun b' hb' => ?_) (fun b' hb' c hc => ?_)) ?_ ?_
  · unfold Kp at hk
    rw [show up σk 183 (14 * b + e) (iI v) o k = σk o k from if_neg (by omega), kf o k (by omega) (by omega)]
    unfold up
    rw [if_neg (by omega), if_neg (by omega)]
    exact fr o k (by omega)
  · show _ = iI (if k = 14 * b + e then v else w k)
    unfold up
    by_cases c : k = 14 * b + e
    · rw [if_pos ⟨rfl, c⟩, if_pos c]
    · rw [if_neg (by omega), if_neg c]
      exact kw k
  · have hw := h.wok b' hb'
    have hc9 := hch b' hb'
    refine ⟨?_, ?_, fun c hc => ?_⟩
    · by_cases c : 14 * b' = 14 * b + e
      · rw [if_pos c]
        omega
      · rw [if_neg c]
        exact hw.1
    · by_cases c : 14 * b' + 1 = 14 * b + e
      · rw [if_pos c]
        omega
      · rw [if_neg c]
        exact hw.2.1
    · rw [if_neg (by omega)]
      exact hw.2.2 c hc
  · have hc := h.cs b' hb'
    have hc9 := hch b' hb'
    refine ⟨?_, ?_, fun c hc2 => ?_⟩
    · rw [key _ _ (by omega) (by omega)]
      show _ = iI (if 14 * b' = 14 * b + e then v else w (14 * b'))
      by_cases c : s + 7 = o1 ∧ b' = k1
      · rw [if_pos c, if_pos (by omega)]
      · rw [if_neg c, if_neg (by omega)]
        exact hc.1
    · rw [key _ _ (by omega) (by omega)]
      show _ = iI (if 14 * b' + 1 = 14 * b + e then v else w (14 * b' + 1))
      by_cases c : s + 40 + 5 * b' = o1 ∧ 13 = k1
      · rw [if_pos c, if_pos (by omega)]
      · rw [if_neg c, if_neg (by omega)]
        exact hc.2.1
    · rw [key _ _ (by omega) (by omega)]
      show _ = iI (if 14 * b' + 2 + c = 14 * b + e then v else w (14 * b' + 2 + c))
      rw [if_neg (by omega), if_neg (by omega)]
      exact hc.2.2 c hc2
  · rw [key _ _ (by omega) (by omega), key _ _ (by omega) (by omega), key _ _ (by omega) (by omega), if_neg (by omega), if_neg (by omega), if_neg (by omega)]
    exact ⟨rfl, rfl, rfl⟩
  · have := nC_c hO hb'
    exact if_neg (by omega)
  · exact kc _ (fun o j q => if_neg (by omega))
  · rw [show up σk 183 (14 * b + e) (iI v) 23 5 = σk 23 5 from if_neg (by omega), kf 23 5 (by omega) (by omega)]
    exact (hu 23 5 (by omega) (by omega)).trans g5
theorem c_needSched (h : Iv σ R s t w) {b : Nat} (hb : (b : Int) < t 2) : f_X11_needScheduled N R σ 1 (nI b) = if w (14 * b) ≠ -1 ∧ w (14 * b + 1) = 0 then some (.inl (), σ) else some (.inr 2, σ) := by
  have hB := nB_c h.tok
  have hc := h.cs b hb
  have hw := h.wok b hb
  unfold f_X11_needScheduled
  rw [ck_nI (by omega) (by decide), ck_nI (by omega) (by decide), h.ro.site, h.ro.si 6 (by decide), h.ro.si 2 (by decide), nI_clamp (by omega), show s + 1 + 6 = s + 7 by omega, show s + 1 + 2 = s + 3 by omega, h.ro.bl b (by omega), hc.1, hc.2.1]
  by_cases c1 : w (14 * b) = -1
  · rw [if_pos (by rw [c1]; rfl), if_neg (fun q => q.1 c1)]
    rfl
  · rw [if_neg (by rw [show (-1 : Int32) = iI (-1) from rfl, iI_eq (by omega)]; exact c1)]
    by_cases c2 : w (14 * b + 1) = 0
    · rw [if_pos (by rw [c2]; rfl), if_pos ⟨c1, c2⟩]
    · rw [if_neg (by rw [show (0 : Int32) = iI 0 from rfl, iI_eq (by omega)]; exact c2), if_neg (fun q => c2 q.2)]
      rfl
theorem nx_r (hO : TOk t) (x : Int) : -1 ≤ lp (nxS w x) 0 (nB t) (-1) ∧ lp (nxS w x) 0 (nB t) (-1) < nB t := by
  refine lp_inv (P := fun a => -1 ≤ a ∧ a < (nB t : Int)) _ _ _ (by omega) (fun j a _ h2 ha => ?_)
  unfold nxS
  split <;> omega
end ACT2
/-! ### CALLS -/
theorem ag_37 {N : Nat} (hN : 2000 ≤ N) : Ag_37 N Inv := by
  intro σ R a1 a2 hI
  obtain ⟨s, t, w, h⟩ := hI
  have hR := h.ro
  have hO := h.tok
  have hT := h.tv
  have hW := h.wv
  have q1 : Same σ (up σ 178 0 0) := same_up (by unfold Sc; omega)
  have hT1 := hT.same q1
  have hW1 := hW.same q1
  have h1 := h.same q1
  by_cases c1 : 0 ≤ a1.toInt ∧ a1.toInt < t 2
  rotate_left
  · refine ⟨.inr 0, σ, 0, up (up σ 178 0 0) 178 0 1, ?_, ?_, ⟨s, t, w, h1.same (same_up (by unfold Sc; omega))⟩, fun v e => (by cases e), fun q e => (by cases e; first | exact ⟨rfl, up_th⟩ | exact Or.inl ⟨rfl, up_th⟩ | exact Or.inr ⟨rfl, up_th⟩ | exact Or.inr (Or.inl ⟨rfl, up_th⟩) | exact Or.inr (Or.inr ⟨rfl, up_th⟩))⟩
    · unfold f_X11_schedule
      rw [c_bl_bad h c1, bdX_inr]
    · unfold f_X12_schedule
      rw [sq_eq, m_bl_bad hR hT1 hO c1, bd_some, if_neg (by decide)]
      try rfl
  obtain ⟨b, rfl, e1⟩ := i32_nI (by omega) c1.2
  have l1 : (b : Int) < t 2 := by omega
  by_cases c2 : 0 ≤ a2.toInt ∧ a2.toInt ≤ 1439
  rotate_left
  · refine ⟨.inr 1, σ, 0, up (up σ 178 0 0) 178 0 2, ?_, ?_, ⟨s, t, w, h1.same (same_up (by unfold Sc; omega))⟩, fun v e => (by cases e), fun q e => (by cases e; first | exact ⟨rfl, up_th⟩ | exact Or.inl ⟨rfl, up_th⟩ | exact Or.inr ⟨rfl, up_th⟩ | exact Or.inr (Or.inl ⟨rfl, up_th⟩) | exact Or.inr (Or.inr ⟨rfl, up_th⟩))⟩
    · unfold f_X11_schedule
      rw [c_bl_ok h l1, bdX_inl, c_needRange, if_neg (show ¬ ((0 : Int32).toInt ≤ a2.toInt ∧ a2.toInt ≤ (1439 : Int32).toInt) from c2), bdX_inr]
    · unfold f_X12_schedule
      rw [sq_eq, m_bl_ok hR hT1 hO l1, bd_some, if_pos rfl, m_noMinute, if_neg c2, bd_some, if_neg (by decide)]
      try rfl
  obtain ⟨m, rfl, e2⟩ := i32_nI (x := a2) (n := 1440) (by omega) (by omega)
  have l2 : (m : Int) < 1440 := by omega
  have hB := nB_c hO
  have hwb := h.wok b l1
  have hw1 := hwb.1
  have hwf := hwb.2.1
  have hf : σ (s + 40 + 5 * b) 13 = iI (w (14 * b + 1)) := (h.cs b l1).2.1
  by_cases cf : w (14 * b + 1) = 0
  rotate_left
  · refine ⟨.inr 2, σ, 0, up (up σ 178 0 0) 178 0 3, ?_, ?_, ⟨s, t, w, h1.same (same_up (by unfold Sc; omega))⟩, fun v e => (by cases e), fun q e => (by cases e; first | exact ⟨rfl, up_th⟩ | exact Or.inl ⟨rfl, up_th⟩ | exact Or.inr ⟨rfl, up_th⟩ | exact Or.inr (Or.inl ⟨rfl, up_th⟩) | exact Or.inr (Or.inr ⟨rfl, up_th⟩))⟩
    · unfold f_X11_schedule
      rw [c_bl_ok h l1, bdX_inl, c_needRange, if_pos (show (0 : Int32).toInt ≤ Int32.toInt (nI m) ∧ Int32.toInt (nI m) ≤ (1439 : Int32).toInt from c2), bdX_inl, hf, if_neg (by rw [show (0 : Int32) = iI 0 from rfl, iI_eq (by omega)]; exact cf)]
      rfl
    · unfold f_X12_schedule
      rw [sq_eq, m_bl_ok hR hT1 hO l1, bd_some, if_pos rfl, m_noMinute, if_pos c2, bd_some, if_pos rfl, m_hasFired hR hW1 (by omega) hwf, bd_some, if_neg (by rw [show (0 : Int32) = iI 0 from rfl, iI_eq (by omega)]; exact cf), m_throws1, bd_some, if_neg (by decide)]
  have eA := c_isAllowed hN h l1 (x := (m : Int)) (by omega)
  rw [← iI_nat] at eA
  have hwr := why_r t w (tms w) b (m : Int)
  by_cases ca : why t w (tms w) b (m : Int) = 0
  rotate_left
  · have eW := m_why hN hR hT1 hW1 hO h.wok l1 (x := (m : Int)) (by omega)
    rw [← iI_nat] at eW
    refine ⟨.inr 2, σ, 0, up (up σ 178 0 0) 178 0 3, ?_, ?_, ⟨s, t, w, h1.same (same_up (by unfold Sc; omega))⟩, fun v e => (by cases e), fun q e => (by cases e; first | exact ⟨rfl, up_th⟩ | exact Or.inl ⟨rfl, up_th⟩ | exact Or.inr ⟨rfl, up_th⟩ | exact Or.inr (Or.inl ⟨rfl, up_th⟩) | exact Or.inr (Or.inr ⟨rfl, up_th⟩))⟩
    · unfold f_X11_schedule
      rw [c_bl_ok h l1, bdX_inl, c_needRange, if_pos (show (0 : Int32).toInt ≤ Int32.toInt (nI m) ∧ Int32.toInt (nI m) ≤ (1439 : Int32).toInt from c2), bdX_inl, hf, if_pos (by rw [cf]; rfl), eA, bd_some, decide_eq_false ca, bI_f, if_pos rfl]
      rfl
    · unfold f_X12_schedule
      rw [sq_eq, m_bl_ok hR hT1 hO l1, bd_some, if_pos rfl, m_noMinute, if_pos c2, bd_some, if_pos rfl, m_hasFired hR hW1 (by omega) hwf, bd_some, if_pos (by rw [cf]; rfl), eW, bd_some, if_neg (by rw [show (0 : Int32) = iI 0 from rfl, iI_eq (by omega)]; exact ca), m_throws1, bd_some, if_neg (by decide)]
  obtain ⟨σ1, g1, fr, hTc, hWc, σk, k1, hWk, k0, hIv⟩ := act_one hN h l1 (e := 0) (o1 := s + 7) (k1 := b) (v := (m : Int)) (by omega)
  have eW : f_X12_why N R (up (up σ1 (s + 7) b (iI (m : Int))) 178 0 0) 178 (nI b) (nI m) = some (iI (why t w (tms w) b (m : Int)), up (up σ1 (s + 7) b (iI (m : Int))) 178 0 0) := by
    rw [iI_nat m]
    exact m_why hN hR hTc hWc hO h.wok l1 (x := (m : Int)) (by omega)
  refine ⟨.inl (iI (w (14 * b))), up σ1 (s + 7) b (iI (m : Int)), iI (w (14 * b)), up σk 183 (14 * b + 0) (iI (m : Int)), ?_, ?_, ⟨s, t, _, hIv⟩, fun v e => (by cases e; exact ⟨k0, rfl⟩), fun q e => (by cases e)⟩
  · unfold f_X11_schedule
    rw [c_bl_ok h l1, bdX_inl, c_needRange, if_pos (show (0 : Int32).toInt ≤ Int32.toInt (nI m) ∧ Int32.toInt (nI m) ≤ (1439 : Int32).toInt from c2), bdX_inl, hf, if_pos (by rw [cf]; rfl), eA, bd_some, decide_eq_true ca, bI_t, if_neg (by decide), ck_nI (by omega) (by decide), g1, bd_some, ck_nI (by omega) (by decide), sq_eq, hR.site, hR.si 6 (by decide), nI_clamp (by omega), show s + 1 + 6 = s + 7 by omega, (h.cs b l1).1, iI_nat m]
  · unfold f_X12_schedule
    rw [sq_eq, m_bl_ok hR hTc hO l1, bd_some, if_pos rfl, m_noMinute, if_pos c2, bd_some, if_pos rfl, m_hasFired hR hWc (by omega) hwf, bd_some, if_pos (by rw [cf]; rfl), eW, bd_some, if_pos (by rw [ca]; rfl), m_throws0, bd_some, if_pos rfl, k1, bd_some, m_time hR hWk (by omega), bd_some, show (14 : Int32) = nI 14 from rfl, nI_mul, show (0 : Int32) = nI 0 from rfl, nI_add, ck_nI (by omega) (by decide), sq_eq, nI_clamp (by omega), hR.m13, iI_nat m]
theorem ag_38 {N : Nat} (hN : 2000 ≤ N) : Ag_38 N Inv := by
  intro σ R a1 hI
  obtain ⟨s, t, w, h⟩ := hI
  have hR := h.ro
  have hO := h.tok
  have hT := h.tv
  have hW := h.wv
  have q1 : Same σ (up σ 178 0 0) := same_up (by unfold Sc; omega)
  have hT1 := hT.same q1
  have hW1 := hW.same q1
  have h1 := h.same q1
  by_cases c1 : 0 ≤ a1.toInt ∧ a1.toInt < t 2
  rotate_left
  · refine ⟨.inr 0, σ, 0, up (up σ 178 0 0) 178 0 1, ?_, ?_, ⟨s, t, w, h1.same (same_up (by unfold Sc; omega))⟩, fun v e => (by cases e), fun q e => (by cases e; first | exact ⟨rfl, up_th⟩ | exact Or.inl ⟨rfl, up_th⟩ | exact Or.inr ⟨rfl, up_th⟩ | exact Or.inr (Or.inl ⟨rfl, up_th⟩) | exact Or.inr (Or.inr ⟨rfl, up_th⟩))⟩
    · unfold f_X11_cancel
      rw [c_nd_bad h c1, bdX_inr]
    · unfold f_X12_cancel
      rw [sq_eq, m_bl_bad hR hT1 hO c1, bd_some, if_neg (by decide)]
      try rfl
  obtain ⟨b, rfl, e1⟩ := i32_nI (by omega) c1.2
  have l1 : (b : Int) < t 2 := by omega
  have hB := nB_c hO
  have hwb := h.wok b l1
  have hw1 := hwb.1
  have hwf := hwb.2.1
  by_cases ct : w (14 * b) = -1
  · refine ⟨.inr 2, σ, 0, up (up σ 178 0 0) 178 0 2, ?_, ?_, ⟨s, t, w, h1.same (same_up (by unfold Sc; omega))⟩, fun v e => (by cases e), fun q e => (by cases e; first | exact ⟨rfl, up_th⟩ | exact Or.inl ⟨rfl, up_th⟩ | exact Or.inr ⟨rfl, up_th⟩ | exact Or.inr (Or.inl ⟨rfl, up_th⟩) | exact Or.inr (Or.inr ⟨rfl, up_th⟩))⟩
    · unfold f_X11_cancel
      rw [c_nd_ok h l1, bdX_inl, c_needSched h l1, if_neg (fun q => q.1 ct), bdX_inr]
    · unfold f_X12_cancel
      rw [sq_eq, m_bl_ok hR hT1 hO l1, bd_some, if_pos rfl, m_time hR hW1 (by omega), bd_some, if_pos (by rw [ct]; rfl), m_throws1, bd_some, if_neg (by decide)]
  by_cases cf : w (14 * b + 1) = 0
  rotate_left
  · refine ⟨.inr 2, σ, 0, up (up σ 178 0 0) 178 0 2, ?_, ?_, ⟨s, t, w, h1.same (same_up (by unfold Sc; omega))⟩, fun v e => (by cases e), fun q e => (by cases e; first | exact ⟨rfl, up_th⟩ | exact Or.inl ⟨rfl, up_th⟩ | exact Or.inr ⟨rfl, up_th⟩ | exact Or.inr (Or.inl ⟨rfl, up_th⟩) | exact Or.inr (Or.inr ⟨rfl, up_th⟩))⟩
    · unfold f_X11_cancel
      rw [c_nd_ok h l1, bdX_inl, c_needSched h l1, if_neg (fun q => cf q.2), bdX_inr]
    · unfold f_X12_cancel
      rw [sq_eq, m_bl_ok hR hT1 hO l1, bd_some, if_pos rfl, m_time hR hW1 (by omega), bd_some, if_neg (by rw [show (-1 : Int32) = iI (-1) from rfl, iI_eq (by omega)]; exact ct), m_hasFired hR hW1 (by omega) hwf, bd_some, if_neg (by rw [show (0 : Int32) = iI 0 from rfl, iI_eq (by omega)]; exact cf), m_throws1, bd_some, if_neg (by decide)]
  obtain ⟨σ1, g1, fr, hTc, hWc, σk, k1, hWk, k0, hIv⟩ := act_one hN h l1 (e := 0) (o1 := s + 7) (k1 := b) (v := -1) (by omega)
  refine ⟨.inl (iI (w (14 * b))), up σ1 (s + 7) b (iI (-1)), iI (w (14 * b)), up σk 183 (14 * b + 0) (iI (-1)), ?_, ?_, ⟨s, t, _, hIv⟩, fun v e => (by cases e; exact ⟨k0, rfl⟩), fun q e => (by cases e)⟩
  · unfold f_X11_cancel
    rw [c_nd_ok h l1, bdX_inl, c_needSched h l1, if_pos ⟨ct, cf⟩, bdX_inl, ck_nI (by omega) (by decide), g1, bd_some, ck_nI (by omega) (by decide), sq_eq, hR.site, hR.si 6 (by decide), nI_clamp (by omega), show s + 1 + 6 = s + 7 by omega, (h.cs b l1).1]
    rfl
  · unfold f_X12_cancel
    rw [sq_eq, m_bl_ok hR hTc hO l1, bd_some, if_pos rfl, m_time hR hWc (by omega), bd_some, if_neg (by rw [show (-1 : Int32) = iI (-1) from rfl, iI_eq (by omega)]; exact ct), m_hasFired hR hWc (by omega) hwf, bd_some, if_pos (by rw [cf]; rfl), m_throws0, bd_some, if_pos rfl, k1, bd_some, m_time hR hWk (by omega), bd_some, show (14 : Int32) = nI 14 from rfl, nI_mul, show (0 : Int32) = nI 0 from rfl, nI_add, ck_nI (by omega) (by decide), sq_eq, nI_clamp (by omega), hR.m13]
    rfl
theorem ag_39 {N : Nat} (hN : 2000 ≤ N) : Ag_39 N Inv := by
  intro σ R a1 hI
  obtain ⟨s, t, w, h⟩ := hI
  have hR := h.ro
  have hO := h.tok
  have hT := h.tv
  have hW := h.wv
  have q1 : Same σ (up σ 178 0 0) := same_up (by unfold Sc; omega)
  have hT1 := hT.same q1
  have hW1 := hW.same q1
  have h1 := h.same q1
  by_cases c1 : 0 ≤ a1.toInt ∧ a1.toInt < t 2
  rotate_left
  · refine ⟨.inr 0, σ, 0, up (up σ 178 0 0) 178 0 1, ?_, ?_, ⟨s, t, w, h1.same (same_up (by unfold Sc; omega))⟩, fun v e => (by cases e), fun q e => (by cases e; first | exact ⟨rfl, up_th⟩ | exact Or.inl ⟨rfl, up_th⟩ | exact Or.inr ⟨rfl, up_th⟩ | exact Or.inr (Or.inl ⟨rfl, up_th⟩) | exact Or.inr (Or.inr ⟨rfl, up_th⟩))⟩
    · unfold f_X11_fire
      rw [c_bl_bad h c1, bdX_inr]
    · unfold f_X12_fire
      rw [sq_eq, m_bl_bad hR hT1 hO c1, bd_some, if_neg (by decide)]
      try rfl
  obtain ⟨b, rfl, e1⟩ := i32_nI (by omega) c1.2
  have l1 : (b : Int) < t 2 := by omega
  have hB := nB_c hO
  have hwb := h.wok b l1
  have hw1 := hwb.1
  have hwf := hwb.2.1
  by_cases ct : w (14 * b) = -1
  · refine ⟨.inr 2, σ, 0, up (up σ 178 0 0) 178 0 2, ?_, ?_, ⟨s, t, w, h1.same (same_up (by unfold Sc; omega))⟩, fun v e => (by cases e), fun q e => (by cases e; first | exact ⟨rfl, up_th⟩ | exact Or.inl ⟨rfl, up_th⟩ | exact Or.inr ⟨rfl, up_th⟩ | exact Or.inr (Or.inl ⟨rfl, up_th⟩) | exact Or.inr (Or.inr ⟨rfl, up_th⟩))⟩
    · unfold f_X11_fire
      rw [c_bl_ok h l1, bdX_inl, c_needSched h l1, if_neg (fun q => q.1 ct), bdX_inr]
    · unfold f_X12_fire
      rw [sq_eq, m_bl_ok hR hT1 hO l1, bd_some, if_pos rfl, m_time hR hW1 (by omega), bd_some, if_pos (by rw [ct]; rfl), m_throws1, bd_some, if_neg (by decide)]
  by_cases cf : w (14 * b + 1) = 0
  rotate_left
  · refine ⟨.inr 2, σ, 0, up (up σ 178 0 0) 178 0 2, ?_, ?_, ⟨s, t, w, h1.same (same_up (by unfold Sc; omega))⟩, fun v e => (by cases e), fun q e => (by cases e; first | exact ⟨rfl, up_th⟩ | exact Or.inl ⟨rfl, up_th⟩ | exact Or.inr ⟨rfl, up_th⟩ | exact Or.inr (Or.inl ⟨rfl, up_th⟩) | exact Or.inr (Or.inr ⟨rfl, up_th⟩))⟩
    · unfold f_X11_fire
      rw [c_bl_ok h l1, bdX_inl, c_needSched h l1, if_neg (fun q => cf q.2), bdX_inr]
    · unfold f_X12_fire
      rw [sq_eq, m_bl_ok hR hT1 hO l1, bd_some, if_pos rfl, m_time hR hW1 (by omega), bd_some, if_neg (by rw [show (-1 : Int32) = iI (-1) from rfl, iI_eq (by omega)]; exact ct), m_hasFired hR hW1 (by omega) hwf, bd_some, if_neg (by rw [show (0 : Int32) = iI 0 from rfl, iI_eq (by omega)]; exact cf), m_throws1, bd_some, if_neg (by decide)]
  have eC : f_X9_firstScheduled N R σ s (0 : Int32) = some (iI (lp (nxS w 0) 0 (nB t) (-1)), σ) := by
    unfold f_X9_firstScheduled
    exact c_next (N := N) h (x := 0) (by omega) (nB t) 0 N (-1) (by omega) (by omega) (by omega)
  have eM : ∀ {σ0 : SI}, TV t σ0 → WV w σ0 → f_X12_next N R σ0 178 (0 : Int32) = some (iI (lp (nxS w 0) 0 (nB t) (-1)), σ0) := fun {σ0} q1 q2 => by
    unfold f_X12_next
    exact m_next (N := N) hR q1 q2 hO h.wok (x := 0) (by omega) (nB t) 0 N (-1) (by omega) (by omega) (by omega)
  have hnr := nx_r (w := w) hO 0
  by_cases cn : lp (nxS w 0) 0 (nB t) (-1) = (b : Int)
  rotate_left
  · refine ⟨.inr 2, σ, 0, up (up σ 178 0 0) 178 0 2, ?_, ?_, ⟨s, t, w, h1.same (same_up (by unfold Sc; omega))⟩, fun v e => (by cases e), fun q e => (by cases e; first | exact ⟨rfl, up_th⟩ | exact Or.inl ⟨rfl, up_th⟩ | exact Or.inr ⟨rfl, up_th⟩ | exact Or.inr (Or.inl ⟨rfl, up_th⟩) | exact Or.inr (Or.inr ⟨rfl, up_th⟩))⟩
    · unfold f_X11_fire
      rw [c_bl_ok h l1, bdX_inl, c_needSched h l1, if_pos ⟨ct, cf⟩, bdX_inl, hR.site, eC, bd_some, if_neg (by rw [iI_nat b, iI_eq (by omega)]; exact cn)]
    · unfold f_X12_fire
      rw [sq_eq, m_bl_ok hR hT1 hO l1, bd_some, if_pos rfl, m_time hR hW1 (by omega), bd_some, if_neg (by rw [show (-1 : Int32) = iI (-1) from rfl, iI_eq (by omega)]; exact ct), m_hasFired hR hW1 (by omega) hwf, bd_some, if_pos (by rw [cf]; rfl), eM hT1 hW1, bd_some, if_neg (by rw [iI_nat b, iI_eq (by omega)]; exact cn), m_throws1, bd_some, if_neg (by decide)]
  obtain ⟨σ1, g1, fr, hTc, hWc, σk, k1, hWk, k0, hIv⟩ := act_one hN h l1 (e := 1) (o1 := s + 40 + 5 * b) (k1 := 13) (v := 1) (by omega)
  have hs := hR.1
  have et : up σ1 (s + 40 + 5 * b) 13 (iI 1) (s + 7) b = iI (w (14 * b)) := by
    rw [show up σ1 (s + 40 + 5 * b) 13 (iI 1) (s + 7) b = σ1 (s + 7) b from if_neg (by omega), fr _ _ (by omega)]
    exact (h.cs b l1).1
  have em : f_X12_time N R (up σk 183 (14 * b + 1) (iI 1)) 178 (nI b) = some (iI (w (14 * b)), up σk 183 (14 * b + 1) (iI 1)) := by
    have e0 := m_time (N := N) (n := b) hR hIv.wv (by omega)
    rw [if_neg (show ¬ 14 * b = 14 * b + 1 by omega)] at e0
    exact e0
  refine ⟨.inl (iI (w (14 * b))), up σ1 (s + 40 + 5 * b) 13 (iI 1), iI (w (14 * b)), up σk 183 (14 * b + 1) (iI 1), ?_, ?_, ⟨s, t, _, hIv⟩, fun v e => (by cases e; exact ⟨k0, rfl⟩), fun q e => (by cases e)⟩
  · unfold f_X11_fire
    rw [c_bl_ok h l1, bdX_inl, c_needSched h l1, if_pos ⟨ct, cf⟩, bdX_inl, hR.site, eC, bd_some, if_pos (by rw [iI_nat b, cn]), g1, bd_some, sq_eq, ck_nI (by omega) (by decide), hR.si 6 (by decide), nI_clamp (by omega), show s + 1 + 6 = s + 7 by omega, show (1 : Int32) = iI 1 from rfl, et]
  · unfold f_X12_fire
    rw [sq_eq, m_bl_ok hR hTc hO l1, bd_some, if_pos rfl, m_time hR hWc (by omega), bd_some, if_neg (by rw [show (-1 : Int32) = iI (-1) from rfl, iI_eq (by omega)]; exact ct), m_hasFired hR hWc (by omega) hwf, bd_some, if_pos (by rw [cf]; rfl), eM hTc hWc, bd_some, if_pos (by rw [iI_nat b, cn]), m_throws0, bd_some, if_pos rfl, k1, bd_some, show (14 : Int32) = nI 14 from rfl, nI_mul, show (1 : Int32) = nI 1 from rfl, nI_add, ck_nI (by omega) (by decide), sq_eq, nI_clamp (by omega), hR.m13]
    refine Eq.trans (congrArg (fun x => bd x _) em) ?_
    rfl
