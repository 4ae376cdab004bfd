/-! ===== what the planner answers ===== -/
section VAN
variable {N s : Nat} {R : Nat → Nat → Nat} {σ : SI} {t w : Nat → Int}
theorem r_size (h : Iv σ R s t w) {b : Nat} (l1 : (b : Int) < t 2) : f_X11_windowSize N R σ 1 (nI b) = some (.inl (iI (win t w b)), σ) := by
  unfold f_X11_windowSize
  rw [c_bl_ok h l1, bdX_inl, (h.cw b l1).1]
theorem r_start (h : Iv σ R s t w) {b : Nat} (l1 : (b : Int) < t 2) : f_X11_windowStart N R σ 1 (nI b) = some (.inl (iI (wst t w b)), σ) := by
  unfold f_X11_windowStart
  rw [c_bl_ok h l1, bdX_inl, (h.cw b l1).2.1]
theorem r_vib (h : Iv σ R s t w) {b n : Nat} (l1 : (b : Int) < t 2) (l2 : (n : Int) < t 0) : f_X11_vibration N R σ 1 (nI b) (nI n) = some (.inl (iI (shk t w b n)), σ) := by
  unfold f_X11_vibration
  rw [c_bl_ok h l1, bdX_inl, c_nb_ok h l2, bdX_inl]
  have hw := winG_r h.tok l1 (dl w b)
  rw [← win_G] at hw
  rw [(h.cw b l1).1, c_shakes h l1 l2 hw, bd_some]
  rfl
theorem r_closes (h : Iv σ R s t w) {b r : Nat} (l1 : (b : Int) < t 2) (l2 : (r : Int) < t 1) : f_X11_closes N R σ 1 (nI b) (nI r) = some (.inl (bI (shut t b r)), σ) := by
  unfold f_X11_closes
  rw [c_bl_ok h l1, bdX_inl, c_rd_ok h l2, bdX_inl, c_closesRoad h l1 l2, bd_some, cb_bI]
theorem r_quiet (hN : 2000 ≤ N) (h : Iv σ R s t w) {n x : Nat} (l1 : (n : Int) < t 0) (hx : x < 2000) : f_X11_isQuiet N R σ 1 (nI n) (nI x) = some (.inl (bI (still t n (x : Int))), σ) := by
  unfold f_X11_isQuiet
  rw [c_nb_ok h l1, bdX_inl, iI_nat x, c_quietAt hN h l1 (by omega), bd_some, cb_bI]
theorem r_dust (h : Iv σ R s t w) {b q : Nat} (l1 : (b : Int) < t 2) (hq : q < 24) : f_X11_dustAt N R σ 1 (nI b) (nI q) = some (.inl (bts (isD t b q) 0 (nN t) 0), σ) := by
  have c2 : (0 : Int32).toInt ≤ Int32.toInt (nI q) ∧ Int32.toInt (nI q) ≤ (23 : Int32).toInt := by
    rw [nI_toInt (by omega), show (0 : Int32).toInt = 0 from rfl, show (23 : Int32).toInt = 23 from rfl]
    omega
  unfold f_X11_dustAt
  rw [c_bl_ok h l1, bdX_inl, c_needRange, if_pos c2, bdX_inl, ck_nI (by omega) (by decide), h.ro.blA b (by have := h.tok.2.2.1; omega) 3 (by decide), nI_clamp (by omega), show s + 41 + 5 * b + 3 = s + 44 + 5 * b by omega, (h.cd b l1).2.2.2 q (by omega)]
theorem r_dustX (h : Iv σ R s t w) {b : Nat} (l1 : (b : Int) < t 2) : f_X11_dustAt N R σ 1 (nI b) (nI 24) = some (.inr 1, σ) := by
  unfold f_X11_dustAt
  rw [c_bl_ok h l1, bdX_inl, c_needRange, if_neg (by decide), bdX_inr]
theorem r_time (h : Iv σ R s t w) {b : Nat} (l1 : (b : Int) < t 2) : f_X11_timeOf N R σ 1 (nI b) = some (.inl (iI (w (14 * b))), σ) := by
  have hO := h.tok
  unfold f_X11_timeOf
  rw [c_nd_ok h l1, bdX_inl, ck_nI (by have := hO.2.2.1; omega) (by decide), h.ro.site, h.ro.si 6 (by decide), nI_clamp (by have := hO.2.2.1; omega), show s + 1 + 6 = s + 7 by omega, (h.cs b l1).1]
theorem r_reason (hN : 2000 ≤ N) (h : Iv σ R s t w) {b x : Nat} (l1 : (b : Int) < t 2) (hx : x ≤ 1439) : f_X11_reason N R σ 1 (nI b) (nI x) = some (.inl (iI (why t w (tms w) b (x : Int))), σ) := by
  have c2 : (0 : Int32).toInt ≤ Int32.toInt (nI x) ∧ Int32.toInt (nI x) ≤ (1439 : Int32).toInt := by
    rw [nI_toInt (by omega), show (0 : Int32).toInt = 0 from rfl, show (1439 : Int32).toInt = 1439 from rfl]
    omega
  unfold f_X11_reason
  rw [c_nd_ok h l1, bdX_inl, c_needRange, if_pos c2, bdX_inl, h.ro.site, iI_nat x, c_reasonT hN h l1 (by omega), bd_some]
theorem r_need (hN : 2000 ≤ N) (h : Iv σ R s t w) {b r : Nat} (l1 : (b : Int) < t 2) (l2 : (r : Int) < t 1) : f_X11_neededRadius N R σ 1 (nI b) (nI r) = some (.inl (nI (lst (fun q => near t b r (q : Int)) 0 1500)), σ) := by
  unfold f_X11_neededRadius
  rw [c_bl_ok h l1, bdX_inl, c_rd_ok h l2, bdX_inl]
  exact c_radius h l1 l2 11 0 1500 0 N (by decide) (by decide) (by decide) (by decide) (by omega)
end VAN
