/-! ===== calls about plans ===== -/
section PLO
variable {N : Nat} {R : Nat → Nat → Nat} {s : Nat} {t w w' : Nat → Int} {σ : SI}
theorem seekS_pl (hO : TOk t) (hW : WOk t w) (hne : (plS t w).1 ≠ -1) : ∀ o, o < nB t → (seekS t w (nB t) 0 (fun _ => -1) (-1, fun _ => -1)).2 o = (plS t w).2 o := fun o ho => by
  have h := seek_U (t := t) (w := w) hO (nB t) 0 (fun _ => -1) (tms w) (-1, fun _ => -1) (-1, tms w) (by omega) (fun o ho => ⟨fun q => by omega, fun _ => rfl⟩) ⟨rfl, fun q => absurd rfl q⟩
  exact (h.2 hne o ho).trans ((plS_eq hO hW).2 o ho).symm
theorem plS_r (hO : TOk t) (hW : WOk t w) : (-1 ≤ (plS t w).1 ∧ (plS t w).1 ≤ 8640) ∧ ((plS t w).1 ≠ -1 → ∀ o, o < nB t → -1 ≤ (plS t w).2 o ∧ (plS t w).2 o ≤ 1439) := by
  have e := plS_eq hO hW
  have g := plU_g hO hW
  rw [e.1]
  refine ⟨g.1, fun hne o ho => ?_⟩
  rw [e.2 o ho]
  exact ((g.2 hne) o ho).1
theorem open_e (hO : TOk t) : iI (t 2) - iI (nT (tms w) (nB t)) = nI (opL w 0 (nB t)).length := by
  have hB := nB_c hO
  have h := opL_len w (nB t) 0
  rw [iI_sub, iI_nat]
  congr 1
  unfold nT
  omega
theorem act2 (hN : 2000 ≤ N) (h : Iv σ R s t w) : ∃ σ1, f_X11_recordAction N R σ 1 = some ((), σ1) ∧ σ1 23 5 = 0 ∧ (∀ o j, ¬ (5 ≤ o ∧ o ≤ 23) → σ1 o j = σ o j) ∧ ∀ σc : SI, (∀ o j, (5 ≤ o ∧ o ≤ 22) ∨ o = 183 ∨ o = 185 ∨ (o = 178 ∧ j = 16) → σc o j = σ1 o j) → ∃ σk, f_X12_keeps N R σc 178 = some ((), σk) ∧ (∀ o j, o ≠ 185 → (o ≠ 178 ∨ j ≠ 16) → σk o j = σc o j) ∧ ∀ σ' : SI, (∀ o j, (5 ≤ o ∧ o ≤ 22) ∨ o = 185 ∨ (o = 178 ∧ j = 16) → σ' o j = σk o j) → Ch σ' t := by
  obtain ⟨d, nx, hd, hnx, hd0, h52, h51, hh⟩ := h.ch
  obtain ⟨σ1, g1, er, e1, e2, e3, fr⟩ := c_record hN h hd hnx h51 h52
  refine ⟨σ1, g1, e3, fun o j q => fr o j (by omega) (by omega) (by omega), fun σc hc => ?_⟩
  have hc16 : σc 178 16 = nI d := (hc 178 16 (by omega)).trans ((fr 178 16 (by omega) (by omega) (by omega)).trans hd0)
  obtain ⟨σk, k1, k16, kp, kf⟩ := m_keeps (σ := σc) hN h.ro hd hc16
  refine ⟨σk, k1, kf, fun σ' hq => ?_⟩
  have a1 : ∀ o j, 5 ≤ o → o ≤ 22 → σ' o j = σ1 o j := fun o j q1 q2 => (hq o j (by omega)).trans ((kf o j (by omega) (by omega)).trans (hc o j (by omega)))
  refine Ch_push h hd hnx hd0 h51 hh ((a1 5 1 (by omega) (by omega)).trans e1) ((a1 5 2 (by omega) (by omega)).trans e2) ((hq 178 16 (by omega)).trans k16) (fun b hb => ?_) (fun o j q1 q2 q3 => ?_) (fun j k hk hj => ?_)
  · obtain ⟨r1, r2, r3⟩ := er b hb
    refine ⟨(a1 _ _ (by omega) (by omega)).trans r1, (a1 _ _ (by omega) (by omega)).trans r2, fun c hc2 => (a1 _ _ (by omega) (by omega)).trans (r3 c hc2)⟩
  · exact (a1 o j (by omega) (by omega)).trans (fr o j q3 (by omega) (by omega))
  · have b1 : σc 183 k = σ 183 k := (hc 183 k (by omega)).trans (fr 183 k (by omega) (by omega) (by omega))
    have b2 : ∀ q, σc 185 q = σ 185 q := fun q => (hc 185 q (by omega)).trans (fr 185 q (by omega) (by omega) (by omega))
    rw [hq 185 _ (by omega), kp j k hk hj, b1, b2]
theorem c_ap40 (hR : RO R s) (hO : TOk t) (x1 : Int32) : ∀ (m k n : Nat) (σ : SI), σ s 11 = iI (t 2) → k + m = nB t → m < n → ∃ σ', f_X11_applyPlan_40 N R n σ 1 x1 (nI k) = some (.inl x1, σ') ∧ (∀ j, σ' (s + 7) j = if k ≤ j ∧ j < nB t then σ 26 j else σ (s + 7) j) ∧ ∀ o j, o ≠ s + 7 → σ' o j = σ o j := by
  have hB := nB_c hO
  have hs := hR.1
  intro m
  induction m with
  | zero =>
    intro k n σ h11 hk hm
    obtain ⟨n, rfl⟩ : ∃ q, n = q + 1 := ⟨n - 1, by omega⟩
    refine ⟨σ, ?_, fun j => by rw [if_neg (by omega)], fun _ _ _ => rfl⟩
    rw [f_X11_applyPlan_40, hR.site, h11, if_pos ((iI_leN (by omega)).mpr (by omega))]
  | succ m ih =>
    intro k n σ h11 hk hm
    obtain ⟨n, rfl⟩ : ∃ q, n = q + 1 := ⟨n - 1, by omega⟩
    obtain ⟨σ', g1, g2, g3⟩ := ih (k + 1) n (up σ (s + 7) k (σ 26 k)) ((if_neg (by omega)).trans h11) (by omega) (by omega)
    refine ⟨σ', ?_, fun j => ?_, fun o j ho => (g3 o j ho).trans (if_neg (by omega))⟩
    · rw [f_X11_applyPlan_40, hR.site, h11, if_neg (fun q => absurd ((iI_leN (by omega)).mp q) (by omega)), ck_nI (by omega) (by decide), ck_nI (by omega) (by decide), sq_eq, hR.r1_2, hR.r23_2, hR.si 6 (by decide), show s + 1 + 6 = s + 7 by omega, nI_clamp (by omega), nI_1]
      exact g1
    · rw [g2 j, show up σ (s + 7) k (σ 26 k) 26 j = σ 26 j from if_neg (by omega)]
      unfold up
      by_cases c : j = k
      · rw [if_neg (by omega), if_pos ⟨rfl, c⟩, if_pos (by omega), c]
      · by_cases d : k + 1 ≤ j ∧ j < nB t
        · rw [if_pos d, if_pos (by omega)]
        · rw [if_neg d, if_neg (by omega), if_neg (by omega)]
theorem m_ap58 (hR : RO R s) (hO : TOk t) (x1 : Int32) : ∀ (m k n : Nat) (σ : SI), TV t σ → k + m = nB t → m < n → ∃ σ', f_X12_applyPlan_58 N R n σ 178 x1 (nI k) = some (x1, σ') ∧ (∀ j, σ' 183 j = if j % 14 = 0 ∧ k ≤ j / 14 ∧ j / 14 < nB t then σ 190 (j / 14) else σ 183 j) ∧ ∀ o j, o ≠ 183 → σ' o j = σ o j := by
  have hB := nB_c hO
  intro m
  induction m with
  | zero =>
    intro k n σ hT hk hm
    obtain ⟨n, rfl⟩ : ∃ q, n = q + 1 := ⟨n - 1, by omega⟩
    refine ⟨σ, ?_, fun j => by rw [if_neg (by omega)], fun _ _ _ => rfl⟩
    rw [f_X12_applyPlan_58, m_blasts hR hT, bd_some, if_pos ((iI_leN (by omega)).mpr (by omega))]
  | succ m ih =>
    intro k n σ hT hk hm
    obtain ⟨n, rfl⟩ : ∃ q, n = q + 1 := ⟨n - 1, by omega⟩
    obtain ⟨σ', g1, g2, g3⟩ := ih (k + 1) n (up σ 183 (14 * k + 0) (σ 190 k)) (fun q => (if_neg (by omega)).trans (hT q)) (by omega) (by omega)
    refine ⟨σ', ?_, fun j => ?_, fun o j ho => (g3 o j ho).trans (if_neg (by omega))⟩
    · rw [f_X12_applyPlan_58, m_blasts hR hT, bd_some, if_neg (fun q => absurd ((iI_leN (by omega)).mp q) (by omega)), ck_nI (by omega) (by decide), show (14 : Int32) * nI k + (0 : Int32) = nI (14 * k + 0) from (by rw [show (14 : Int32) = nI 14 from rfl, show (0 : Int32) = nI 0 from rfl, nI_mul, nI_add]), ck_nI (by omega) (by decide), sq_eq, hR.m13, hR.m21, nI_clamp (by omega), nI_clamp (by omega), nI_1]
      exact g1
    · rw [g2 j, show up σ 183 (14 * k + 0) (σ 190 k) 190 (j / 14) = σ 190 (j / 14) from if_neg (by omega)]
      unfold up
      by_cases c : j = 14 * k + 0
      · rw [if_neg (by omega), if_pos ⟨rfl, c⟩, if_pos (by omega), show j / 14 = k by omega]
      · by_cases d : j % 14 = 0 ∧ k + 1 ≤ j / 14 ∧ j / 14 < nB t
        · rw [if_pos d, if_pos (by omega)]
        · rw [if_neg d, if_neg (by omega), if_neg (by omega)]
end PLO
theorem ag_54 {N : Nat} (hN : 2000 ≤ N) : Ag_54 N Inv := by
  intro σ R hI
  obtain ⟨s, t, w, h⟩ := hI
  have hR := h.ro
  have hO := h.tok
  have q1 : Same σ (up σ 178 0 0) := same_up (by unfold Sc; omega)
  by_cases hok : okP t w
  · obtain ⟨σ1, g1, h1, g2, g3, g4⟩ := c_find_ok hN h hok
    have sm2 : Same σ1 (up σ1 178 0 0) := same_up (by unfold Sc; omega)
    have hTc := h1.tv.same sm2
    have hWc := h1.wv.same sm2
    obtain ⟨σ2, k1, k2, k3, k4⟩ := m_lays hN hR hTc hWc hO h.wok hok.2
    refine ⟨.inl (iI (plS t w).1), σ1, iI (plS t w).1, σ2, ?_, ?_, ⟨s, t, w, (h1.same sm2).same k3⟩, fun v e => (by cases e; exact ⟨k4.trans up_th, rfl⟩), fun q e => (by cases e)⟩
    · unfold f_X11_planLength
      rw [g1, bdX_inl, hR.r1_2, g2]
    · unfold f_X12_planLength
      rw [sq_eq, (m_cannot hN hR hTc hWc hO h.wok 1).1 hok, bd_some, if_pos rfl, k1, bd_some, k2.2.1]
      rfl
  · refine ⟨.inr 2, σ, 0, up (up σ 178 0 0) 178 0 1, ?_, ?_, ⟨s, t, w, (h.same q1).same (same_up (by unfold Sc; omega))⟩, fun v e => (by cases e), fun q e => (by cases e; exact ⟨rfl, up_th⟩)⟩
    · unfold f_X11_planLength
      rw [c_find_bad hN h hok, bdX_inr]
    · unfold f_X12_planLength
      rw [sq_eq, (m_cannot hN hR (h.tv.same q1) (h.wv.same q1) hO h.wok 1).2 hok, bd_some, if_neg (by decide)]
theorem ag_55 {N : Nat} (hN : 2000 ≤ N) : Ag_55 N Inv := by
  intro σ R a1 hI
  obtain ⟨s, t, w, h⟩ := hI
  have hR := h.ro
  have hO := h.tok
  have hB := nB_c hO
  have q1 : Same σ (up σ 178 0 0) := same_up (by unfold Sc; omega)
  have hT1 := h.tv.same q1
  have hW1 := h.wv.same q1
  by_cases c1 : 0 ≤ a1.toInt ∧ a1.toInt < t 2
  rotate_left
  · refine ⟨.inr 0, σ, 0, up (up σ 178 0 0) 178 0 1, ?_, ?_, ⟨s, t, w, (h.same q1).same (same_up (by unfold Sc; omega))⟩, fun v e => (by cases e), fun q e => (by cases e; exact Or.inl ⟨rfl, up_th⟩)⟩
    · unfold f_X11_planTime
      rw [c_nd_bad h c1, bdX_inr]
    · unfold f_X12_planTime
      rw [sq_eq, m_bl_bad hR hT1 hO c1, bd_some, if_neg (by decide)]
  obtain ⟨b, rfl, e1⟩ := i32_nI (by omega) c1.2
  have l1 : (b : Int) < t 2 := by omega
  by_cases hok : okP t w
  · obtain ⟨σ1, g1, h1, g2, g3, g4⟩ := c_find_ok hN h hok
    have sm2 : Same σ1 (up σ1 178 0 0) := same_up (by unfold Sc; omega)
    have hTc := h1.tv.same sm2
    have hWc := h1.wv.same sm2
    obtain ⟨σ2, k1, k2, k3, k4⟩ := m_lays hN hR hTc hWc hO h.wok hok.2
    have hW2 := hWc.same k3
    have hz := (h.wok b l1).1
    have e2 : (plS t w).2 b = if tms w b ≠ -1 then tms w b else if (plS t w).1 = -1 then -1 else (seekS t w (nB t) 0 (fun _ => -1) (-1, fun _ => -1)).2 b := rfl
    have hpr := plS_r hO h.wok
    refine ⟨.inl (iI ((plS t w).2 b)), σ1, iI ((plS t w).2 b), σ2, ?_, ?_, ⟨s, t, w, (h1.same sm2).same k3⟩, fun v e => (by cases e; exact ⟨k4.trans up_th, rfl⟩), fun q e => (by cases e)⟩
    · unfold f_X11_planTime
      rw [c_nd_ok h l1, bdX_inl, g1, bdX_inl, ck_nI (by omega) (by decide), hR.r1_2, hR.r23_2, nI_clamp (by omega), g3 b (by omega)]
    · unfold f_X12_planTime
      rw [sq_eq, m_bl_ok hR hTc hO l1, bd_some, if_pos rfl, (m_cannot hN hR hTc hWc hO h.wok 2).1 hok, bd_some, if_pos rfl, k1, bd_some, m_time hR hW2 (by omega), bd_some, m_time hR hW2 (by omega), bd_some, k2.2.1, show (seekS t w (nB t) 0 (fun _ => -1) (-1, fun _ => -1)).1 = (plS t w).1 from rfl, e2]
      by_cases c : w (14 * b) = -1
      · rw [if_pos (by rw [c]; rfl), if_neg (show ¬ tms w b ≠ -1 from fun q => q c)]
        by_cases d : (plS t w).1 = -1
        · rw [if_pos (by rw [d]; rfl), if_pos d]
          rfl
        · rw [if_neg (by rw [show (-1 : Int32) = iI (-1) from rfl, iI_eq (by omega)]; exact d), if_neg d, ck_nI (by omega) (by decide), hR.m21, nI_clamp (by omega), k2.2.2 d b (by omega)]
      · rw [if_neg (by rw [show (-1 : Int32) = iI (-1) from rfl, iI_eq (by omega)]; exact c), if_pos (show tms w b ≠ -1 from c)]
        rfl
  · refine ⟨.inr 2, σ, 0, up (up σ 178 0 0) 178 0 2, ?_, ?_, ⟨s, t, w, (h.same q1).same (same_up (by unfold Sc; omega))⟩, fun v e => (by cases e), fun q e => (by cases e; exact Or.inr ⟨rfl, up_th⟩)⟩
    · unfold f_X11_planTime
      rw [c_nd_ok h l1, bdX_inl, c_find_bad hN h hok, bdX_inr]
    · unfold f_X12_planTime
      rw [sq_eq, m_bl_ok hR hT1 hO l1, bd_some, if_pos rfl, (m_cannot hN hR hT1 hW1 hO h.wok 2).2 hok, bd_some, if_neg (by decide)]
theorem ag_56 {N : Nat} (hN : 2000 ≤ N) : Ag_56 N Inv := by
  intro σ R hI
  obtain ⟨s, t, w, h⟩ := hI
  have hR := h.ro
  have hO := h.tok
  have hB := nB_c hO
  have hs := hR.1
  have q1 : Same σ (up σ 178 0 0) := same_up (by unfold Sc; omega)
  by_cases hok : okP t w
  rotate_left
  · refine ⟨.inr 2, σ, 0, up (up σ 178 0 0) 178 0 1, ?_, ?_, ⟨s, t, w, (h.same q1).same (same_up (by unfold Sc; omega))⟩, fun v e => (by cases e), fun q e => (by cases e; exact ⟨rfl, up_th⟩)⟩
    · unfold f_X11_applyPlan
      rw [c_find_bad hN h hok, bdX_inr]
    · unfold f_X12_applyPlan
      rw [sq_eq, (m_cannot hN hR (h.tv.same q1) (h.wv.same q1) hO h.wok 1).2 hok, bd_some, if_neg (by decide)]
  obtain ⟨σ1, g1, h1, g2, g3, g4⟩ := c_find_ok hN h hok
  have hpr := plS_r hO h.wok
  by_cases d : (plS t w).1 = -1
  · have sm2 : Same σ1 (up σ1 178 0 0) := same_up (by unfold Sc; omega)
    have hTc := h1.tv.same sm2
    have hWc := h1.wv.same sm2
    obtain ⟨σ2, k1, k2, k3, k4⟩ := m_lays hN hR hTc hWc hO h.wok hok.2
    have e24 : σ2 178 24 = -1 := k2.2.1.trans (congrArg iI d)
    refine ⟨.inr 2, σ1, 0, up σ2 178 0 1, ?_, ?_, ⟨s, t, w, ((h1.same sm2).same k3).same (same_up (by unfold Sc; omega))⟩, fun v e => (by cases e), fun q e => (by cases e; exact ⟨rfl, up_th⟩)⟩
    · unfold f_X11_applyPlan
      rw [g1, bdX_inl, hR.r1_2, g2, if_pos (by rw [d]; rfl)]
    · unfold f_X12_applyPlan
      rw [sq_eq, (m_cannot hN hR hTc hWc hO h.wok 1).1 hok, bd_some, if_pos rfl, k1, bd_some, if_pos e24, m_throws1, bd_some, if_neg (by decide)]
  obtain ⟨σr, r1, r2, r3, r4⟩ := act2 hN h1
  obtain ⟨σa, a1, a2, a3⟩ := c_ap40 (N := N) hR hO (nI (opL w 0 (nB t)).length) (nB t) 0 N σr ((r3 _ _ (by omega)).trans h1.cq.1.2.2.1) (by omega) (by omega)
  have fa : ∀ o j, ¬ (5 ≤ o ∧ o ≤ 23) → o ≠ s + 7 → σa o j = σ1 o j := fun o j q1 q2 => (a3 o j q2).trans (r3 o j q1)
  have fc : ∀ o j, ¬ (5 ≤ o ∧ o ≤ 23) → o ≠ s + 7 → (o ≠ 178 ∨ j ≠ 0) → up σa 178 0 0 o j = σ1 o j := fun o j q1 q2 q3 => (if_neg (by omega)).trans (fa o j q1 q2)
  have hTc : TV t (up σa 178 0 0) := fun k => (fc _ _ (by omega) (by omega) (by omega)).trans (h1.tv k)
  have hWc : WV w (up σa 178 0 0) := fun k => (fc _ _ (by omega) (by omega) (by omega)).trans (h1.wv k)
  obtain ⟨σ2, k1, k2, k3, k4⟩ := m_lays hN hR hTc hWc hO h.wok hok.2
  have hT2 := hTc.same k3
  have hW2 := hWc.same k3
  obtain ⟨σk, m1, m2, m3⟩ := r4 σ2 (fun o j q => by
    rw [k3 o j (by unfold Sc; omega)]
    exact (if_neg (by omega)).trans (a3 o j (by omega)))
  have hTk : TV t σk := fun k => (m2 _ _ (by omega) (by omega)).trans (hT2 k)
  obtain ⟨σ', p1, p2, p3⟩ := m_ap58 (N := N) hR hO (nI (opL w 0 (nB t)).length) (nB t) 0 N σk hTk (by omega) (by omega)
  have e24 : ¬ σ2 178 24 = -1 := by
    rw [k2.2.1, show (seekS t w (nB t) 0 (fun _ => -1) (-1, fun _ => -1)).1 = (plS t w).1 from rfl, show (-1 : Int32) = iI (-1) from rfl, iI_eq (by omega)]
    exact d
  have e190 : ∀ o, o < nB t → σk 190 o = iI ((plS t w).2 o) := fun o ho => by
    rw [m2 _ _ (by omega) (by omega), k2.2.2 d o ho, seekS_pl hO h.wok d o ho]
  obtain ⟨w', hw'⟩ : ∃ w' : Nat → Int, w' = fun k => if k % 14 = 0 ∧ k / 14 < nB t then (plS t w).2 (k / 14) else w k := ⟨_, rfl⟩
  have w0 : ∀ b, b < nB t → w' (14 * b) = (plS t w).2 b := fun b hb => by
    rw [hw']
    show (if 14 * b % 14 = 0 ∧ 14 * b / 14 < nB t then (plS t w).2 (14 * b / 14) else w (14 * b)) = _
    rw [if_pos (by omega), show 14 * b / 14 = b by omega]
  have w1 : ∀ b c, 0 < c → c < 14 → w' (14 * b + c) = w (14 * b + c) := fun b c h1 h2 => by
    rw [hw']
    exact if_neg (by omega)
  have hdl : ∀ b c, c < 12 → dl w' b c = dl w b c := fun b c hc => by
    unfold dl
    rw [show 14 * b + 2 + c = 14 * b + (2 + c) by omega]
    exact w1 b (2 + c) (by omega) (by omega)
  have k0 : σ' 178 0 = 0 := (p3 _ _ (by omega)).trans ((m2 _ _ (by omega) (by omega)).trans (k4.trans up_th))
  refine ⟨.inl (nI (opL w 0 (nB t)).length), σa, nI (opL w 0 (nB t)).length, σ', ?_, ?_, ⟨s, t, w', ?_⟩, fun v e => (by cases e; exact ⟨k0, rfl⟩), fun q e => (by cases e)⟩
  · unfold f_X11_applyPlan
    rw [g1, bdX_inl, hR.r1_2, g2, if_neg (by rw [show (-1 : Int32) = iI (-1) from rfl, iI_eq (by omega)]; exact d), hR.site, c_openTotal hN h1, bd_some, r1, bd_some]
    exact a1
  · unfold f_X12_applyPlan
    rw [sq_eq, (m_cannot hN hR hTc hWc hO h.wok 1).1 hok, bd_some, if_pos rfl, k1, bd_some, if_neg e24, m_throws0, bd_some, if_pos rfl, m_blasts hR hT2, bd_some, m_timed hN hR hT2 hW2 hO h.wok, bd_some, m1, bd_some, open_e hO]
    exact p1
  · have key : ∀ o j, 38 ≤ o → o ≤ 177 → σ' o j = σa o j := fun o j z1 z2 => by
      rw [p3 o j (by omega), m2 o j (by omega) (by omega), k3 o j (by unfold Sc; omega)]
      exact if_neg (by omega)
    refine Iv.ofW h1 (fun o k hk => ?_) (fun k => ?_) (fun b hb => ?_) (fun b hb => ?_) (Cw.c hO h1.cw (fun b hb => ?_) (fun b hb c hc => hdl b c (by have := nC_c hO hb; omega))) ?_ ?_
    · unfold Kp at hk
      rw [p3 o k (by omega), m2 o k (by omega) (by omega), k3 o k (by unfold Sc; omega)]
      exact fc o k (by omega) (by omega) (by omega)
    · rw [p2 k, hw']
      show _ = iI (if k % 14 = 0 ∧ k / 14 < nB t then (plS t w).2 (k / 14) else w k)
      by_cases c : k % 14 = 0 ∧ k / 14 < nB t
      · rw [if_pos (by omega), if_pos c, e190 _ c.2]
      · rw [if_neg (by omega), if_neg c]
        exact (m2 _ _ (by omega) (by omega)).trans (hW2 k)
    · have hw := h.wok b hb
      have := nC_c hO hb
      rw [w0 b (by omega), w1 b 1 (by omega) (by omega)]
      refine ⟨hpr.2 d b (by omega), hw.2.1, fun c hc => ?_⟩
      have e := hdl b c (by omega)
      unfold dl at e
      rw [e]
      exact hw.2.2 c hc
    · have hc := h1.cs b hb
      have := nC_c hO hb
      refine ⟨?_, ?_, fun c hc2 => ?_⟩
      · rw [key _ _ (by omega) (by omega), a2, if_pos (by omega), r3 _ _ (by omega), g3 b (by omega), w0 b (by omega)]
      · rw [key _ _ (by omega) (by omega), fa _ _ (by omega) (by omega), w1 b 1 (by omega) (by omega)]
        exact hc.2.1
      · rw [key _ _ (by omega) (by omega), fa _ _ (by omega) (by omega)]
        have e := hdl b c (by omega)
        unfold dl at e
        rw [e]
        exact hc.2.2 c hc2
    · rw [key _ _ (by omega) (by omega), key _ _ (by omega) (by omega), key _ _ (by omega) (by omega), fa _ _ (by omega) (by omega), fa _ _ (by omega) (by omega), fa _ _ (by omega) (by omega)]
      exact ⟨rfl, rfl, rfl⟩
    · exact m3 _ (fun o j q => p3 o j (by omega))
    · rw [p3 _ _ (by omega), m2 _ _ (by omega) (by omega), k3 _ _ (by unfold Sc; omega)]
      exact (if_neg (by omega)).trans ((a3 _ _ (by omega)).trans r2)
