/-! ===== the next blast, the input buffer, the formatted text ===== -/
theorem Iv.of {σ σ' : SI} {R : Nat → Nat → Nat} {s : Nat} {t w : Nat → Int} (h : Iv σ R s t w) (q : ∀ o k, (38 ≤ o ∧ o ≤ 177) ∨ (5 ≤ o ∧ o ≤ 22) ∨ (o = 23 ∧ (k = 4 ∨ k = 5)) ∨ o = 26 ∨ o = 181 ∨ o = 183 ∨ o = 185 ∨ (o = 178 ∧ k = 16) → σ' o k = σ o k) (hk : Ctk σ') (hx : Ctx σ') : Iv σ' R s t w := by
  obtain ⟨hR, hT, hW, hTo, hWo, ⟨c1, c2, c3, c4, c5⟩, hs, hd, hw, ⟨d, nx, h1, h2, h3, h4, h5, h6⟩, hp, -, -⟩ := h
  have hs0 := hR.1
  have eT := hTo.1
  have eR := hTo.2.1
  have eB := hTo.2.2.1
  have ez : ∀ o j, 38 ≤ o → o ≤ 177 → σ' o j = σ o j := fun o j _ _ => q o j (by omega)
  have e0 : ∀ j, σ' s j = σ s j := fun j => ez s j (by omega) (by omega)
  have ep : ∀ j, σ' 185 j = σ 185 j := fun j => q 185 j (by omega)
  refine ⟨hR, fun k => (q 181 k (by omega)).trans (hT k), fun k => (q 183 k (by omega)).trans (hW k), hTo, hWo, ⟨?_, ?_, ?_, ?_, ?_⟩, ?_, ?_, ?_, ⟨d, nx, h1, h2, ?_, ?_, ?_, ?_⟩, ?_, hk, hx⟩
  · simp only [e0]
    exact c1
  · intro h hh
    rw [ez (s + 8) h (by omega) (by omega), ez (s + 9) h (by omega) (by omega)]
    exact c2 h hh
  · intro n hn
    have := c3 n hn
    simp only [ez (s + 10 + 3 * n) _ (by omega) (by omega), ez (s + 11 + 3 * n) _ (by omega) (by omega), ez (s + 12 + 3 * n) _ (by omega) (by omega)]
    exact this
  · intro r hr j hj
    rw [ez (s + 34 + r) j (by omega) (by omega)]
    exact c4 r hr j hj
  · intro b hb
    have := c5 b hb
    simp only [ez (s + 40 + 5 * b) _ (by omega) (by omega), ez (s + 41 + 5 * b) _ (by omega) (by omega), ez (s + 6) _ (by omega) (by omega)]
    exact this
  · intro b hb
    have := hs b hb
    simp only [ez (s + 40 + 5 * b) _ (by omega) (by omega), ez (s + 42 + 5 * b) _ (by omega) (by omega), ez (s + 7) _ (by omega) (by omega)]
    exact this
  · intro b hb
    have := hd b hb
    simp only [ez (s + 40 + 5 * b) _ (by omega) (by omega), ez (s + 43 + 5 * b) _ (by omega) (by omega), ez (s + 44 + 5 * b) _ (by omega) (by omega)]
    exact this
  · intro b hb
    have := hw b hb
    simp only [ez (s + 40 + 5 * b) _ (by omega) (by omega)]
    exact this
  · exact (q 178 16 (by omega)).trans h3
  · exact (q 5 2 (by omega)).trans h4
  · exact (q 5 1 (by omega)).trans h5
  · intro j hj
    refine ⟨?_, fun b hb k hk => ?_⟩
    · simp only [ep]
      exact (h6 j hj).1
    · rw [ep, q (7 + (nx + 16 - d + j) % 16) _ (by omega)]
      exact (h6 j hj).2 b hb k hk
  · unfold Cp
    rw [q 23 5 (by omega), q 23 4 (by omega)]
    rcases hp with hp | hp
    · exact Or.inl hp
    · exact Or.inr ⟨hp.1, hp.2.1, fun b hb => (q 26 b (by omega)).trans (hp.2.2 b hb)⟩
section NX
variable {N : Nat} {R : Nat → Nat → Nat} {s : Nat} {t w : Nat → Int} {σ : SI}
/-- the first blast from a minute on -/
def nxS (w : Nat → Int) (x : Int) : Nat → Int → Int := fun i a => if w (14 * i) ≠ -1 ∧ w (14 * i + 1) = 0 ∧ x ≤ w (14 * i) ∧ (a = -1 ∨ w (14 * i) < w (14 * a.toNat)) then (i : Int) else a
theorem m_next (hR : RO R s) (hT : TV t σ) (hV : WV w σ) (hO : TOk t) (hW : WOk t w) {x : Int} (hx : -2147483648 ≤ x ∧ x ≤ 2147483647) : ∀ (m k n : Nat) (a : Int), k + m = nB t → m < n → (-1 ≤ a ∧ a < k) → f_X12_next_4 N R n σ 178 (iI x) (iI a) (nI k) = some (iI (lp (nxS w x) k m a), σ) := by
  have hn := nB_c hO
  intro m
  induction m with
  | zero =>
    intro k n a hk hm ha
    obtain ⟨n, rfl⟩ : ∃ q, n = q + 1 := ⟨n - 1, by omega⟩
    rw [f_X12_next_4, m_blasts hR hT, bd_some, if_pos ((iI_leN (by omega)).mpr (by omega)), lp_0]
  | succ m ih =>
    intro k n a hk hm ha
    obtain ⟨n, rfl⟩ : ∃ q, n = q + 1 := ⟨n - 1, by omega⟩
    have hw := hW k (by omega)
    have i1 := ih (k + 1) n a (by omega) (by omega) (by omega)
    have i2 := ih (k + 1) n (k : Int) (by omega) (by omega) (by omega)
    rw [← iI_nat] at i2
    rw [f_X12_next_4, m_blasts hR hT, bd_some, if_neg (fun q => absurd ((iI_leN (by omega)).mp q) (by omega)), m_time hR hV (by omega), bd_some, lp_s]
    dsimp only [f_X12_next_56, f_X12_next_58]
    rw [nI_1]
    by_cases c1 : w (14 * k) = -1
    · rw [if_pos (by rw [c1]; rfl), i1, show nxS w x k a = a from if_neg (fun q => q.1 c1)]
    · rw [if_neg (by rw [show (-1 : Int32) = iI (-1) from rfl, iI_eq (by omega)]; exact c1), m_hasFired hR hV (by omega) hw.2.1, bd_some]
      by_cases c2 : w (14 * k + 1) = 0
      · rw [if_pos (by rw [c2]; rfl), m_time hR hV (by omega), bd_some]
        by_cases c3 : w (14 * k) < x
        · rw [if_pos ((iI_lt (by omega)).mpr c3), i1, show nxS w x k a = a from if_neg (fun q => by have := q.2.2.1; omega)]
        · rw [if_neg (fun q => c3 ((iI_lt (by omega)).mp q))]
          by_cases c4 : a = -1
          · rw [if_pos (by rw [c4]; rfl), i2, show nxS w x k a = (k : Int) from if_pos ⟨c1, c2, by omega, Or.inl c4⟩]
          · have e2 : iI a = nI a.toNat := by rw [iI_nat]; congr 1; omega
            have hwa := (hW a.toNat (by omega)).1
            rw [if_neg (by rw [show (-1 : Int32) = iI (-1) from rfl, iI_eq (by omega)]; exact c4), m_time hR hV (by omega), bd_some, e2, m_time hR hV (by omega), bd_some, ← e2]
            by_cases c5 : w (14 * a.toNat) ≤ w (14 * k)
            · rw [if_pos ((iI_le (by omega)).mpr c5), i1, show nxS w x k a = a from if_neg (fun q => by have := q.2.2.2; omega)]
            · rw [if_neg (fun q => c5 ((iI_le (by omega)).mp q)), i2, show nxS w x k a = (k : Int) from if_pos ⟨c1, c2, by omega, Or.inr (by omega)⟩]
      · rw [if_neg (by rw [show (0 : Int32) = iI 0 from rfl, iI_eq (by omega)]; exact c2), i1, show nxS w x k a = a from if_neg (fun q => c2 q.2.1)]
theorem c_next (h : Iv σ R s t w) {x : Int} (hx : -2147483648 ≤ x ∧ x ≤ 2147483647) : ∀ (m k n : Nat) (a : Int), k + m = nB t → m < n → (-1 ≤ a ∧ a < k) → f_X9_firstScheduled_4 N R n σ s (iI x) (iI a) (nI k) = some (iI (lp (nxS w x) k m a), σ) := by
  have hO := h.tok
  have hn := nB_c hO
  intro m
  induction m with
  | zero =>
    intro k n a hk hm ha
    obtain ⟨n, rfl⟩ : ∃ q, n = q + 1 := ⟨n - 1, by omega⟩
    rw [f_X9_firstScheduled_4, h.cq.1.2.2.1, if_pos ((iI_leN (by omega)).mpr (by omega)), lp_0]
  | succ m ih =>
    intro k n a hk hm ha
    obtain ⟨n, rfl⟩ : ∃ q, n = q + 1 := ⟨n - 1, by omega⟩
    have hw := h.wok k (by omega)
    have i1 := ih (k + 1) n a (by omega) (by omega) (by omega)
    have i2 := ih (k + 1) n (k : Int) (by omega) (by omega) (by omega)
    rw [← iI_nat] at i2
    rw [f_X9_firstScheduled_4, h.cq.1.2.2.1, if_neg (fun q => absurd ((iI_leN (by omega)).mp q) (by omega)), h.ro.si 6 (by decide), show s + 1 + 6 = s + 7 by omega, h.ro.si 2 (by decide), show s + 1 + 2 = s + 3 by omega, nI_clamp (by omega), (h.cs k (by omega)).1, h.ro.bl k (by omega), (h.cs k (by omega)).2.1, lp_s]
    dsimp only [f_X9_firstScheduled_48, f_X9_firstScheduled_76, f_X9_firstScheduled_78]
    rw [nI_1, h.ro.si 6 (by decide), show s + 1 + 6 = s + 7 by omega]
    by_cases c1 : w (14 * k) = -1
    · rw [show nxS w x k a = a from if_neg (fun q => q.1 c1), ← i1, c1]
      simp only [ck_nI (show k < 6 by omega) (show 6 < 2 ^ 31 by decide), show iI (-1) = (-1 : Int32) from rfl, if_pos]
    · have n1 : ¬ iI (w (14 * k)) = (-1 : Int32) := by rw [show (-1 : Int32) = iI (-1) from rfl, iI_eq (by omega)]; exact c1
      rw [ck_nI (by omega) (by decide), if_neg n1, ck_nI (by omega) (by decide)]
      by_cases c2 : w (14 * k + 1) = 0
      · rw [c2, if_pos (show iI 0 = (0 : Int32) from rfl), ck_nI (by omega) (by decide)]
        by_cases c3 : w (14 * k) < x
        · rw [if_pos ((iI_lt (by omega)).mpr c3), if_pos rfl, i1, show nxS w x k a = a from if_neg (fun q => by have := q.2.2.1; omega)]
        · rw [if_neg (fun q => c3 ((iI_lt (by omega)).mp q)), if_neg (by decide)]
          by_cases c4 : a = -1
          · rw [if_pos (by rw [c4]; rfl), i2, show nxS w x k a = (k : Int) from if_pos ⟨c1, c2, by omega, Or.inl c4⟩]
          · have e2 : iI a = nI a.toNat := by rw [iI_nat]; congr 1; omega
            have hwa := (h.wok a.toNat (by omega)).1
            rw [if_neg (by rw [show (-1 : Int32) = iI (-1) from rfl, iI_eq (by omega)]; exact c4), ck_nI (by omega) (by decide), e2, ck_nI (by omega) (by decide), nI_clamp (by omega), (h.cs a.toNat (by omega)).1, ← e2]
            by_cases c5 : w (14 * a.toNat) ≤ w (14 * k)
            · rw [if_pos ((iI_le (by omega)).mpr c5), i1, show nxS w x k a = a from if_neg (fun q => by have := q.2.2.2; omega)]
            · rw [if_neg (fun q => c5 ((iI_le (by omega)).mp q)), i2, show nxS w x k a = (k : Int) from if_pos ⟨c1, c2, by omega, Or.inr (by omega)⟩]
      · rw [if_neg (by rw [show (0 : Int32) = iI 0 from rfl, iI_eq (by omega)]; exact c2), if_pos rfl, i1, show nxS w x k a = a from if_neg (fun q => c2 q.2.1)]
end NX


section BUF
variable {N : Nat} {R : Nat → Nat → Nat} {s : Nat} {t w : Nat → Int} {σ : SI}
theorem ag_36 {N : Nat} (hN : 2000 ≤ N) : Ag_36 N Inv := by
  intro σ R a1 hI
  obtain ⟨s, t, w, h⟩ := hI
  have q1 : Same σ (up σ 178 0 0) := same_up (by unfold Sc; omega)
  have hn := nB_c h.tok
  refine ⟨iI (lp (nxS w a1.toInt) 0 (nB t) (-1)), σ, iI (lp (nxS w a1.toInt) 0 (nB t) (-1)), up σ 178 0 0, ?_, ?_, ⟨s, t, w, h.same q1⟩, rfl⟩
  · unfold f_X11_nextBlast f_X9_firstScheduled
    have e := c_next (N := N) h (x := a1.toInt) ⟨i32_lo a1, i32_hi a1⟩ (nB t) 0 N (-1) (by omega) (by omega) (by omega)
    rw [← iI_of a1] at e
    rw [h.ro.site, show (-1 : Int32) = iI (-1) from rfl, l_0, e, bd_some]
  · unfold f_X12_nextBlast f_X12_next
    have e := m_next (N := N) h.ro (h.tv.same q1) (h.wv.same q1) h.tok h.wok (x := a1.toInt) ⟨i32_lo a1, i32_hi a1⟩ (nB t) 0 N (-1) (by omega) (by omega) (by omega)
    rw [← iI_of a1] at e
    have e : f_X12_next_4 N R N (up σ 178 0 0) 178 a1 (-1) 0 = some (iI (lp (nxS w a1.toInt) 0 (nB t) (-1)), up σ 178 0 0) := e
    rw [sq_eq, e, bd_some]
theorem ag_60 {N : Nat} (hN : 2000 ≤ N) : Ag_60 N Inv := by
  intro σ R a1 hI
  obtain ⟨s, t, w, h⟩ := hI
  have q1 : Same σ (up σ 178 0 0) := same_up (by unfold Sc; omega)
  obtain ⟨n, hn, e1, e2, e3⟩ := h.ctx
  have a2 : a1 < 0 ↔ a1.toInt < 0 := Int32.lt_iff_toInt_lt
  have a3 : nI n ≤ a1 ↔ (n : Int) ≤ a1.toInt := by rw [Int32.le_iff_toInt_le, nI_toInt (by omega)]
  have e2' : up σ 178 0 0 178 26 = nI n := e2
  have es : (nI n - 1).toInt = (n : Int) - 1 := by rw [iI_nat]; exact iI_sub1 _ (by omega)
  by_cases c : 0 ≤ a1.toInt ∧ a1.toInt < n
  · refine ⟨σ 30 a1.toInt.toNat, σ, σ 30 a1.toInt.toNat, up σ 178 0 0, ?_, ?_, ⟨s, t, w, h.same q1⟩, rfl⟩
    · unfold f_X11_formattedByte ck
      rw [h.ro.r1_4, e1, if_neg (by rw [a2]; omega), if_neg (by rw [a3]; omega), if_pos (by omega), h.ro.r29_0]
      rfl
    · unfold f_X12_formattedByte
      rw [sq_eq, e2', m_in, bd_some, es, show (0 : Int32).toInt = 0 from rfl, decide_eq_true (by omega), bI_t, if_neg (by decide)]
      unfold ck
      rw [if_pos (by omega), h.ro.m25, e3 a1.toInt.toNat (by omega)]
      rfl
  · refine ⟨-1, σ, -1, up σ 178 0 0, ?_, ?_, ⟨s, t, w, h.same q1⟩, rfl⟩
    · unfold f_X11_formattedByte
      rw [h.ro.r1_4, e1]
      by_cases c2 : a1.toInt < 0
      · rw [if_pos (a2.mpr c2)]
      · rw [if_neg (by rw [a2]; exact c2), if_pos (a3.mpr (by omega))]
    · unfold f_X12_formattedByte
      rw [sq_eq, e2', m_in, bd_some, es, show (0 : Int32).toInt = 0 from rfl, decide_eq_false (by omega), bI_f, if_pos rfl]
theorem ag_1 {N : Nat} (hN : 2000 ≤ N) : Ag_1 N Inv := by
  intro σ R a1 hI
  obtain ⟨s, t, w, h⟩ := hI
  have q1 : Same σ (up σ 178 0 0) := same_up (by unfold Sc; omega)
  obtain ⟨n, hn, e1, e2, e3, e4, e5⟩ := h.ctk
  have a2 : a1 < 0 ↔ a1.toInt < 0 := Int32.lt_iff_toInt_lt
  have a3 : a1 ≤ nI n ↔ a1.toInt ≤ (n : Int) := by rw [Int32.le_iff_toInt_le, nI_toInt (by omega)]
  by_cases c : 0 ≤ a1.toInt ∧ a1.toInt ≤ n
  · obtain ⟨k, rfl, ek⟩ := i32_nI (x := a1) (n := n + 1) (by omega) (by omega)
    refine ⟨1, up σ 3 1 (nI k), 1, up (up (up σ 3 1 (nI k)) 178 0 0) 178 3 (nI k), ?_, ?_, ⟨s, t, w, ?_⟩, rfl⟩
    · unfold f_X11_truncate
      rw [h.ro.r1_0, h.ro.r2_0, e1, if_neg (by rw [a2]; omega), if_pos (a3.mpr (by omega)), sq_eq]
    · unfold f_X12_truncate
      rw [sq_eq, if_neg (by rw [a2]; omega), show up (up σ 3 1 (nI k)) 178 0 0 178 3 = nI n from e2, if_pos (a3.mpr (by omega)), sq_eq]
    · refine h.of (fun o j q => ?_) ⟨k, by omega, rfl, rfl, fun j hj => e3 j (by omega), e4, e5⟩ ?_
      · unfold up
        rw [if_neg (by omega), if_neg (by omega), if_neg (by omega)]
      · obtain ⟨x, x1, x2, x3, x4⟩ := h.ctx
        exact ⟨x, x1, x2, x3, x4⟩
  · refine ⟨0, σ, 0, up σ 178 0 0, ?_, ?_, ⟨s, t, w, h.same q1⟩, rfl⟩
    · unfold f_X11_truncate
      rw [h.ro.r1_0, h.ro.r2_0, e1]
      by_cases c2 : a1.toInt < 0
      · rw [if_pos (a2.mpr c2)]
      · rw [if_neg (by rw [a2]; exact c2), if_neg (by rw [a3]; omega)]
    · unfold f_X12_truncate
      rw [sq_eq, show up σ 178 0 0 178 3 = nI n from e2]
      by_cases c2 : a1.toInt < 0
      · rw [if_pos (a2.mpr c2)]
      · rw [if_neg (by rw [a2]; exact c2), if_neg (by rw [a3]; omega)]
/-! append -/
/-- byte j of a word -/
def byt (x : Int32) (j : Nat) : Int32 := vp_nar .byte ((x >>> (iI (24 - 8 * (j : Int)) &&& 31)).toInt8.toInt32)
theorem c_addWord (hR : RO R s) (x : Int32) (n0 : Nat) (hn : n0 + 4 ≤ 800) : ∀ (m k n : Nat) (σ : SI), k + m = 4 → m < n → σ 3 1 = nI (n0 + k) → ∃ σ', f_X10_addWord_3 N R n σ 3 x (iI (24 - 8 * (k : Int))) = some ((), σ') ∧ σ' 3 1 = nI (n0 + 4) ∧ (∀ j, σ' 4 j = if n0 + k ≤ j ∧ j < n0 + 4 then byt x (j - n0) else σ 4 j) ∧ ∀ o j, o ≠ 4 → (o ≠ 3 ∨ j ≠ 1) → σ' o j = σ o j := by
  intro m
  induction m with
  | zero =>
    intro k n σ hk hm h1
    obtain ⟨n, rfl⟩ : ∃ q, n = q + 1 := ⟨n - 1, by omega⟩
    refine ⟨σ, ?_, by rw [h1, show k = 4 by omega], fun j => by rw [if_neg (by omega)], fun o j _ _ => rfl⟩
    rw [f_X10_addWord_3, if_pos]
    rw [show (0 : Int32) = iI 0 from rfl, iI_lt (by omega)]
    omega
  | succ m ih =>
    intro k n σ hk hm h1
    obtain ⟨n, rfl⟩ : ∃ q, n = q + 1 := ⟨n - 1, by omega⟩
    obtain ⟨σ', g1, g2, g3, g4⟩ := ih (k + 1) n (up (up σ 4 (n0 + k) (byt x k)) 3 1 (nI (n0 + (k + 1)))) (by omega) (by omega) up_th
    refine ⟨σ', ?_, g2, fun j => ?_, fun o j h2 h3 => ?_⟩
    · rw [f_X10_addWord_3, if_neg (by rw [show (0 : Int32) = iI 0 from rfl, iI_lt (by omega)]; omega), h1, if_neg (by rw [show (800 : Int32) = nI 800 from rfl, nI_leI (by omega) (by omega)]; omega), ck_nI (by omega) (by decide), hR.r3_0, nI_clamp (by omega), sq_eq, sq_eq, show iI (24 - 8 * (k : Int)) + (-8) = iI (24 - 8 * ((k + 1 : Nat) : Int)) from by rw [show (-8 : Int32) = iI (-8) from rfl, iI_add]; congr 1; omega]
      have e : up σ 4 (n0 + k) (vp_nar .byte ((x >>> (iI (24 - 8 * (k : Int)) &&& 31)).toInt8.toInt32)) 3 1 + 1 = nI (n0 + (k + 1)) := by
        rw [show up σ 4 (n0 + k) (vp_nar .byte ((x >>> (iI (24 - 8 * (k : Int)) &&& 31)).toInt8.toInt32)) 3 1 = σ 3 1 from if_neg (by omega), h1, nI_1]
        rfl
      rw [e]
      exact g1
    · rw [g3 j]
      unfold up
      by_cases c : j = n0 + k
      · rw [if_neg (by omega), if_neg (by omega), if_pos ⟨rfl, c⟩, if_pos (by omega), show j - n0 = k by omega]
      · by_cases c2 : n0 + (k + 1) ≤ j ∧ j < n0 + 4
        · rw [if_pos c2, if_pos (by omega)]
        · rw [if_neg c2, if_neg (by omega), if_neg (by omega), if_neg (by omega)]
    · rw [g4 o j h2 h3]
      unfold up
      rw [if_neg (by omega), if_neg (by omega)]
theorem c_addW (hN : 2000 ≤ N) (hR : RO R s) (x : Int32) {n0 : Nat} (hn : n0 + 4 ≤ 800) (h1 : σ 3 1 = nI n0) : ∃ σ', f_X10_addWord N R σ 3 x = some ((), σ') ∧ σ' 3 1 = nI (n0 + 4) ∧ (∀ j, σ' 4 j = if n0 ≤ j ∧ j < n0 + 4 then byt x (j - n0) else σ 4 j) ∧ ∀ o j, o ≠ 4 → (o ≠ 3 ∨ j ≠ 1) → σ' o j = σ o j := by
  unfold f_X10_addWord
  exact c_addWord hR x n0 hn 4 0 N σ (by decide) (by omega) h1
theorem m_app (hR : RO R s) {n0 : Nat} (hn : n0 + 20 ≤ 800) : ∀ (m k n : Nat) (σ : SI), k + m = 20 → m < n → σ 178 3 = nI n0 → ∃ σ', f_X12_append_60 N R n σ 178 (nI k) = some (nI (n0 + 20), σ') ∧ σ' 178 3 = nI (n0 + 20) ∧ (∀ j, σ' 179 j = if n0 + k ≤ j ∧ j < n0 + 20 then byt (σ 180 ((j - n0) / 4)) ((j - n0) % 4) else σ 179 j) ∧ ∀ o j, o ≠ 179 → (o ≠ 178 ∨ j ≠ 3) → σ' o j = σ o j := by
  intro m
  induction m with
  | zero =>
    intro k n σ hk hm h1
    obtain ⟨n, rfl⟩ : ∃ q, n = q + 1 := ⟨n - 1, by omega⟩
    refine ⟨up σ 178 3 (nI (n0 + 20)), ?_, up_th, fun j => ?_, fun o j h2 h3 => ?_⟩
    · rw [f_X12_append_60, if_pos (by rw [show k = 20 by omega]; decide), sq_eq, h1, show (20 : Int32) = nI 20 from rfl, nI_add, up_th]
    · rw [if_neg (by omega)]
      unfold up
      rw [if_neg (by omega)]
    · unfold up
      rw [if_neg (by omega)]
  | succ m ih =>
    intro k n σ hk hm h1
    obtain ⟨n, rfl⟩ : ∃ q, n = q + 1 := ⟨n - 1, by omega⟩
    obtain ⟨σ', g1, g2, g3, g4⟩ := ih (k + 1) n (up σ 179 (n0 + k) (byt (σ 180 (k / 4)) (k % 4))) (by omega) (by omega) (by rw [show up σ 179 (n0 + k) (byt (σ 180 (k / 4)) (k % 4)) 178 3 = σ 178 3 from if_neg (by omega)]; exact h1)
    have e4 : nI k / (4 : Int32) = nI (k / 4) := by
      rw [iI_nat, show (4 : Int32) = iI 4 from rfl, iI_div (by omega) (by omega), iI_nat]
      congr 1
    have em : (24 : Int32) - (8 : Int32) * (nI k - nI (k / 4) * (4 : Int32)) = iI (24 - 8 * ((k % 4 : Nat) : Int)) := by
      rw [iI_nat, iI_nat, show (4 : Int32) = iI 4 from rfl, show (8 : Int32) = iI 8 from rfl, show (24 : Int32) = iI 24 from rfl, iI_mul, iI_sub, iI_mul, iI_sub]
      congr 1
      omega
    refine ⟨σ', ?_, g2, fun j => ?_, fun o j h2 h3 => ?_⟩
    · rw [f_X12_append_60, if_neg (by rw [show (20 : Int32) = nI 20 from rfl, nI_leI (by omega) (by omega)]; omega), e4, em, ck_nI (by omega) (by decide), h1, nI_add, ck_nI (by omega) (by decide), sq_eq, hR.m1, hR.m2, nI_clamp (by omega), nI_clamp (by omega), nI_1]
      exact g1
    · have e5 : up σ 179 (n0 + k) (byt (σ 180 (k / 4)) (k % 4)) 180 ((j - n0) / 4) = σ 180 ((j - n0) / 4) := if_neg (by omega)
      rw [g3 j, e5]
      unfold up
      by_cases c : j = n0 + k
      · rw [if_neg (by omega), if_pos ⟨rfl, c⟩, if_pos (by omega), show j - n0 = k by omega]
      · by_cases c2 : n0 + (k + 1) ≤ j ∧ j < n0 + 20
        · rw [if_pos c2, if_pos (by omega)]
        · rw [if_neg c2, if_neg (by omega), if_neg (by omega)]
    · rw [g4 o j h2 h3]
      unfold up
      rw [if_neg (by omega)]
theorem ag_0 {N : Nat} (hN : 2000 ≤ N) : Ag_0 N Inv := by
  intro σ R a1 a2 a3 a4 a5 hI
  obtain ⟨s, t, w, h⟩ := hI
  obtain ⟨n, hn, e1, e2, e3, e4, e5⟩ := h.ctk
  have hR := h.ro
  by_cases c : n + 20 ≤ 800
  · obtain ⟨σ1, p1, p2, p3, p4⟩ := c_addW hN hR a1 (n0 := n) (by omega) e1
    obtain ⟨σ2, q1, q2, q3, q4⟩ := c_addW hN hR a2 (n0 := n + 4) (by omega) p2
    obtain ⟨σ3, r1, r2, r3, r4⟩ := c_addW hN hR a3 (n0 := n + 4 + 4) (by omega) q2
    obtain ⟨σ4, u1, u2, u3, u4⟩ := c_addW hN hR a4 (n0 := n + 4 + 4 + 4) (by omega) r2
    obtain ⟨σ5, v1, v2, v3, v4⟩ := c_addW hN hR a5 (n0 := n + 4 + 4 + 4 + 4) (by omega) u2
    have hall : ∀ o j, o ≠ 4 → (o ≠ 3 ∨ j ≠ 1) → σ5 o j = σ o j := fun o j h1 h2 => (v4 o j h1 h2).trans ((u4 o j h1 h2).trans ((r4 o j h1 h2).trans ((q4 o j h1 h2).trans (p4 o j h1 h2))))
    have hbyt : ∀ j, σ5 4 j = if n ≤ j ∧ j < n + 20 then byt (if (j - n) / 4 = 0 then a1 else if (j - n) / 4 = 1 then a2 else if (j - n) / 4 = 2 then a3 else if (j - n) / 4 = 3 then a4 else a5) ((j - n) % 4) else σ 4 j := by
      intro j
      rw [v3, u3, r3, q3, p3]
      by_cases c0 : n ≤ j ∧ j < n + 20
      · rw [if_pos c0]
        by_cases d5 : n + 4 + 4 + 4 + 4 ≤ j ∧ j < n + 4 + 4 + 4 + 4 + 4
        · rw [if_pos d5, if_neg (by omega), if_neg (by omega), if_neg (by omega), if_neg (by omega)]
          congr 1
          omega
        · rw [if_neg d5]
          by_cases d4 : n + 4 + 4 + 4 ≤ j ∧ j < n + 4 + 4 + 4 + 4
          · rw [if_pos d4, if_neg (by omega), if_neg (by omega), if_neg (by omega), if_pos (by omega)]
            congr 1
            omega
          · rw [if_neg d4]
            by_cases d3 : n + 4 + 4 ≤ j ∧ j < n + 4 + 4 + 4
            · rw [if_pos d3, if_neg (by omega), if_neg (by omega), if_pos (by omega)]
              congr 1
              omega
            · rw [if_neg d3]
              by_cases d2 : n + 4 ≤ j ∧ j < n + 4 + 4
              · rw [if_pos d2, if_neg (by omega), if_pos (by omega)]
                congr 1
                omega
              · rw [if_neg d2, if_pos (by omega), if_pos (by omega)]
                congr 1
                omega
      · rw [if_neg c0, if_neg (by omega), if_neg (by omega), if_neg (by omega), if_neg (by omega), if_neg (by omega)]
    -- the reference's five words
    let τ : SI := up (up (up (up (up (up σ5 178 0 0) 180 0 a1) 180 1 a2) 180 2 a3) 180 3 a4) 180 4 a5
    have t3 : τ 178 3 = nI n := by
      show up (up (up (up (up (up σ5 178 0 0) 180 0 a1) 180 1 a2) 180 2 a3) 180 3 a4) 180 4 a5 178 3 = nI n
      unfold up
      rw [if_neg (by omega), if_neg (by omega), if_neg (by omega), if_neg (by omega), if_neg (by omega), if_neg (by omega), hall 178 3 (by omega) (by omega), e2]
    obtain ⟨σ6, w1, w2, w3, w4⟩ := m_app (N := N) hR c 20 0 N τ (by decide) (by omega) t3
    have tau : ∀ o j, o ≠ 180 → (o ≠ 178 ∨ j ≠ 0) → τ o j = σ5 o j := by
      intro o j h1 h2
      show up (up (up (up (up (up σ5 178 0 0) 180 0 a1) 180 1 a2) 180 2 a3) 180 3 a4) 180 4 a5 o j = σ5 o j
      unfold up
      rw [if_neg (by omega), if_neg (by omega), if_neg (by omega), if_neg (by omega), if_neg (by omega), if_neg (by omega)]
    refine ⟨nI (n + 20), σ5, nI (n + 20), σ6, ?_, ?_, ⟨s, t, w, ?_⟩, rfl⟩
    · unfold f_X11_append f_X10_hasRoom
      rw [hR.r1_0, hR.r2_0, e1, show (20 : Int32) = nI 20 from rfl, nI_add, if_neg (by rw [show (800 : Int32) = nI 800 from rfl, nI_ltI (by omega) (by omega)]; omega), bd_some, if_neg (by decide), p1, bd_some, q1, bd_some, r1, bd_some, u1, bd_some, v1, bd_some, v2]
    · unfold f_X12_append
      rw [sq_eq, show up σ5 178 0 0 178 3 = nI n from by rw [show up σ5 178 0 0 178 3 = σ5 178 3 from if_neg (by omega), hall 178 3 (by omega) (by omega), e2], show (20 : Int32) = nI 20 from rfl, nI_add, if_pos (by rw [show (800 : Int32) = nI 800 from rfl, nI_leI (by omega) (by omega)]; omega),
        show ck (0 : Int32) 5 = ck (α := Int32 × SI) (nI 0) 5 from rfl, ck_nI (by decide) (by decide), sq_eq, show ck (1 : Int32) 5 = ck (α := Int32 × SI) (nI 1) 5 from rfl, ck_nI (by decide) (by decide), sq_eq, show ck (2 : Int32) 5 = ck (α := Int32 × SI) (nI 2) 5 from rfl, ck_nI (by decide) (by decide), sq_eq, show ck (3 : Int32) 5 = ck (α := Int32 × SI) (nI 3) 5 from rfl, ck_nI (by decide) (by decide), sq_eq, show ck (4 : Int32) 5 = ck (α := Int32 × SI) (nI 4) 5 from rfl, ck_nI (by decide) (by decide), sq_eq, hR.m2]
      exact w1
    · refine h.of (fun o j q => ?_) ⟨n + 20, c, ?_, w2, fun j hj => ?_, ?_, ?_⟩ ?_
      · rw [w4 o j (by omega) (by omega), tau o j (by omega) (by omega), hall o j (by omega) (by omega)]
      · rw [w4 3 1 (by omega) (by omega), tau 3 1 (by omega) (by omega), v2]
      · rw [w4 4 j (by omega) (by omega), tau 4 j (by omega) (by omega), hbyt j, w3 j]
        by_cases c0 : n ≤ j ∧ j < n + 20
        · rw [if_pos c0, if_pos (show n + 0 ≤ j ∧ j < n + 20 by omega)]
          congr 1
          have hq : (j - n) / 4 < 5 := by omega
          show _ = up (up (up (up (up (up σ5 178 0 0) 180 0 a1) 180 1 a2) 180 2 a3) 180 3 a4) 180 4 a5 180 ((j - n) / 4)
          unfold up
          rcases (show (j - n) / 4 = 0 ∨ (j - n) / 4 = 1 ∨ (j - n) / 4 = 2 ∨ (j - n) / 4 = 3 ∨ (j - n) / 4 = 4 by omega) with e | e | e | e | e <;> rw [e] <;> rfl
        · rw [if_neg c0, if_neg (show ¬ (n + 0 ≤ j ∧ j < n + 20) by omega), tau 179 j (by omega) (by omega), hall 179 j (by omega) (by omega)]
          exact e3 j (by omega)
      · rw [w4 3 3 (by omega) (by omega), tau 3 3 (by omega) (by omega), hall 3 3 (by omega) (by omega), w4 178 9 (by omega) (by omega), tau 178 9 (by omega) (by omega), hall 178 9 (by omega) (by omega)]
        exact e4
      · rw [w4 3 4 (by omega) (by omega), tau 3 4 (by omega) (by omega), hall 3 4 (by omega) (by omega), w4 178 10 (by omega) (by omega), tau 178 10 (by omega) (by omega), hall 178 10 (by omega) (by omega)]
        exact e5
      · obtain ⟨x, x1, x2, x3, x4⟩ := h.ctx
        have ez : ∀ o j, (o = 29 ∨ o = 30 ∨ o = 193 ∨ (o = 178 ∧ j = 26)) → σ6 o j = σ o j := fun o j q => by rw [w4 o j (by omega) (by omega), tau o j (by omega) (by omega), hall o j (by omega) (by omega)]
        exact ⟨x, x1, (ez 29 1 (by omega)).trans x2, (ez 178 26 (by omega)).trans x3, fun j hj => by rw [ez 30 j (by omega), ez 193 j (by omega)]; exact x4 j hj⟩
  · have q1 : Same σ (up σ 178 0 0) := same_up (by unfold Sc; omega)
    refine ⟨-1, σ, -1, up σ 178 0 0, ?_, ?_, ⟨s, t, w, h.same q1⟩, rfl⟩
    · unfold f_X11_append f_X10_hasRoom
      rw [hR.r1_0, hR.r2_0, e1, show (20 : Int32) = nI 20 from rfl, nI_add, if_pos (by rw [show (800 : Int32) = nI 800 from rfl, nI_ltI (by omega) (by omega)]; omega), bd_some, if_pos rfl]
    · unfold f_X12_append
      rw [sq_eq, show up σ 178 0 0 178 3 = nI n from e2, show (20 : Int32) = nI 20 from rfl, nI_add, if_neg (by rw [show (800 : Int32) = nI 800 from rfl, nI_leI (by omega) (by omega)]; omega)]
end BUF

