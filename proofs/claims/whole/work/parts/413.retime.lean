/-! ===== delays set anew; blasts as they were ===== -/
section RT
variable {N : Nat} {R : Nat → Nat → Nat} {s : Nat} {t w w' : Nat → Int} {σ : SI}
def rtW (t w : Nat → Int) (b g : Nat) : Nat → Int := fun k => if 14 * b + 2 ≤ k ∧ k < 14 * b + 2 + nC t b then ((g * (k - (14 * b + 2)) : Nat) : Int) else w k
theorem dl_rt {b g c : Nat} (hc : c < nC t b) : dl (rtW t w b g) b c = ((g * c : Nat) : Int) := by
  unfold dl rtW
  rw [if_pos (by omega), show 14 * b + 2 + c - (14 * b + 2) = c by omega]
theorem c_spread (hR : RO R s) (hO : TOk t) {b g : Nat} (hb : (b : Int) < t 2) : ∀ (m k n : Nat) (σ : SI), k + m = nC t b → m < n → σ (s + 40 + 5 * b) 7 = iI (t (285 + 22 * b + 9)) → ∃ σ', f_X0_spreadDelays_2 N R n σ (s + 40 + 5 * b) (nI g) (nI k) = some ((), σ') ∧ (∀ c, σ' (s + 42 + 5 * b) c = if k ≤ c ∧ c < nC t b then nI (g * c) else σ (s + 42 + 5 * b) c) ∧ ∀ o j, o ≠ s + 42 + 5 * b → σ' o j = σ o j := by
  have hn := nC_c hO hb
  have h2 := hO.2.2.1
  intro m
  induction m with
  | zero =>
    intro k n σ hk hm e7
    obtain ⟨n, rfl⟩ : ∃ q, n = q + 1 := ⟨n - 1, by omega⟩
    refine ⟨σ, ?_, fun c => by rw [if_neg (by omega)], fun _ _ _ => rfl⟩
    rw [f_X0_spreadDelays_2, e7, if_pos ((iI_leN (by omega)).mpr (by omega))]
  | succ m ih =>
    intro k n σ hk hm e7
    obtain ⟨n, rfl⟩ : ∃ q, n = q + 1 := ⟨n - 1, by omega⟩
    obtain ⟨σ', g1, g2, g3⟩ := ih (k + 1) n (up σ (s + 42 + 5 * b) k (nI (k * g))) (by omega) (by omega) ((if_neg (by omega)).trans e7)
    refine ⟨σ', ?_, fun c => ?_, fun o j q => (g3 o j q).trans (if_neg (by omega))⟩
    · rw [f_X0_spreadDelays_2, e7, if_neg (fun q => absurd ((iI_leN (by omega)).mp q) (by omega)), ck_nI (by omega) (by decide), sq_eq, hR.blA b (by omega) 1 (by decide), nI_clamp (by omega), show s + 41 + 5 * b + 1 = s + 42 + 5 * b by omega, nI_mul, nI_1]
      exact g1
    · rw [g2 c]
      unfold up
      by_cases e : c = k
      · rw [if_neg (by omega), if_pos ⟨rfl, e⟩, if_pos (by omega), e, Nat.mul_comm]
      · by_cases e2 : k + 1 ≤ c ∧ c < nC t b
        · rw [if_pos e2, if_pos (by omega)]
        · rw [if_neg e2, if_neg (by omega), if_neg (by omega)]
theorem m_rt58 (hR : RO R s) (hO : TOk t) {b g : Nat} (hb : (b : Int) < t 2) : ∀ (m k n : Nat) (σ : SI), k + m = nC t b → m < n → TV t σ → ∃ σ', f_X12_retime_58 N R n σ 178 (nI b) (nI g) (nI k) = bd (f_X12_window N R σ' 178 (nI b) (-1)) (fun a σ => some (a, σ)) ∧ (∀ j, σ' 183 j = if 14 * b + 2 + k ≤ j ∧ j < 14 * b + 2 + nC t b then nI (g * (j - (14 * b + 2))) else σ 183 j) ∧ ∀ o j, o ≠ 183 → σ' o j = σ o j := by
  have hn := nC_c hO hb
  have h2 := hO.2.2.1
  intro m
  induction m with
  | zero =>
    intro k n σ hk hm hT
    obtain ⟨n, rfl⟩ : ∃ q, n = q + 1 := ⟨n - 1, by omega⟩
    refine ⟨σ, ?_, fun j => by rw [if_neg (by omega)], fun _ _ _ => rfl⟩
    rw [f_X12_retime_58, m_charges hR hT (by omega), bd_some, if_pos ((iI_leN (by omega)).mpr (by omega))]
  | succ m ih =>
    intro k n σ hk hm hT
    obtain ⟨n, rfl⟩ : ∃ q, n = q + 1 := ⟨n - 1, by omega⟩
    obtain ⟨σ', g1, g2, g3⟩ := ih (k + 1) n (up σ 183 (14 * b + 2 + k) (nI (g * k))) (by omega) (by omega) (fun q => (if_neg (by omega)).trans (hT q))
    refine ⟨σ', ?_, fun j => ?_, fun o j q => (g3 o j q).trans (if_neg (by omega))⟩
    · rw [f_X12_retime_58, m_charges hR hT (by omega), bd_some, if_neg (fun q => absurd ((iI_leN (by omega)).mp q) (by omega)), show (14 : Int32) = nI 14 from rfl, show (2 : Int32) = nI 2 from rfl, nI_mul, nI_add, nI_add, ck_nI (by omega) (by decide), sq_eq, hR.m13, nI_clamp (by omega), nI_mul, nI_1]
      exact g1
    · rw [g2 j]
      unfold up
      by_cases e : j = 14 * b + 2 + k
      · rw [if_neg (by omega), if_pos ⟨rfl, e⟩, if_pos (by omega), show j - (14 * b + 2) = k by omega]
      · by_cases e2 : 14 * b + 2 + (k + 1) ≤ j ∧ j < 14 * b + 2 + nC t b
        · rw [if_pos e2, if_pos (by omega)]
        · rw [if_neg e2, if_neg (by omega), if_neg (by omega)]
theorem act_rt (hN : 2000 ≤ N) (h : Iv σ R s t w) {b g : Nat} (hb : (b : Int) < t 2) (hg : g ≤ 800) : ∃ σ1 σ2 σ3 σk σ', f_X11_recordAction N R σ 1 = some ((), σ1) ∧ f_X0_spreadDelays N R σ1 (s + 40 + 5 * b) (nI g) = some ((), σ2) ∧ f_X9_weigh N R σ2 s (s + 40 + 5 * b) = some ((), σ3) ∧ σ3 (s + 40 + 5 * b) 8 = iI (win t (rtW t w b g) b) ∧ TV t (up σ3 178 0 0) ∧ WV w (up σ3 178 0 0) ∧ f_X12_keeps N R (up σ3 178 0 0) 178 = some ((), σk) ∧ f_X12_retime_58 N R N σk 178 (nI b) (nI g) 0 = some (iI (win t (rtW t w b g) b), σ') ∧ σ' 178 0 = 0 ∧ Iv σ' R s t (rtW t w b g) := by
  have hO := h.tok
  have hs := h.ro.1
  have hB := nB_c hO
  have hn := nC_c hO hb
  have h0 := hO.1
  have hch : ∀ b : Nat, (b : Int) < t 2 → t (285 + 22 * b + 9) = (nC t b : Int) ∧ nC t b ≤ 12 := fun b hb => ⟨(nC_c hO hb).1, (nC_c hO hb).2.1⟩
  have hgc : ∀ c, c < nC t b → g * c ≤ 800 * 11 := fun c hc => Nat.mul_le_mul hg (by omega)
  obtain ⟨σ1, g1, g5, fr, gg⟩ := act1 hN h
  obtain ⟨σ2, i1, i2, i3⟩ := c_spread (N := N) (g := g) h.ro hO hb (nC t b) 0 N σ1 (by omega) (by omega) ((fr _ _ (by omega)).trans (h.bl7 hb))
  have f2 : ∀ o j, ¬ (5 ≤ o ∧ o ≤ 23) → o ≠ s + 42 + 5 * b → σ2 o j = σ o j := fun o j q1 q2 => (i3 o j q2).trans (fr o j q1)
  have W : Wc σ2 s t (rtW t w b g) b := by
    refine ⟨(f2 _ _ (by omega) (by omega)).trans h.cq.1.1, fun n hn => (f2 _ _ (by omega) (by omega)).trans (h.cq.2.2.1 n hn).2.2.1, (f2 _ _ (by omega) (by omega)).trans (h.bl7 hb), fun c hc => (f2 _ _ (by omega) (by omega)).trans ((h.cq.2.2.2.2 b hb).2.2.2.2.1 c (by omega)), fun c hc => ?_, fun n hn => (f2 _ _ (by omega) (by omega)).trans ((h.cd b hb).2.2.1 n hn), fun c hc => ?_⟩
    · rw [i2, if_pos (by omega), dl_rt hc, iI_nat]
    · rw [dl_rt hc]
      have := hgc c hc
      omega
  obtain ⟨σ3, j1, j2, j3, j4, j5⟩ := c_weigh hN h.ro hO hb W
  have f3 : ∀ o j, ¬ (5 ≤ o ∧ o ≤ 23) → o ≠ s + 42 + 5 * b → (o ≠ s + 40 + 5 * b ∨ j < 8 ∨ 10 < j) → σ3 o j = σ o j := fun o j q1 q2 q3 => (j5 o j q3).trans (f2 o j q1 q2)
  obtain ⟨σk, k1, kf, kc⟩ := gg (up σ3 178 0 0) (fun o j q1 q2 => (show up σ3 178 0 0 o j = σ3 o j from if_neg (by omega)).trans ((j5 o j (by omega)).trans (i3 o j (by omega))))
  have fk : ∀ o j, ¬ (5 ≤ o ∧ o ≤ 23) → o ≠ s + 42 + 5 * b → (o ≠ s + 40 + 5 * b ∨ j < 8 ∨ 10 < j) → o ≠ 185 → (o ≠ 178 ∨ j ≠ 16 ∧ j ≠ 0) → σk o j = σ o j := fun o j q1 q2 q3 q4 q5 => (kf o j q4 (by omega)).trans ((show up σ3 178 0 0 o j = σ3 o j from if_neg (by omega)).trans (f3 o j q1 q2 q3))
  have hTk : TV t σk := fun k => (fk 181 k (by omega) (by omega) (by omega) (by omega) (by omega)).trans (h.tv k)
  obtain ⟨σ', m1, m2, m3⟩ := m_rt58 (N := N) (g := g) h.ro hO hb (nC t b) 0 N σk (by omega) (by omega) hTk
  have hT' : TV t σ' := fun k => (m3 181 k (by omega)).trans (hTk k)
  have hV' : WV (rtW t w b g) σ' := fun k => by
    rw [m2 k]
    unfold rtW
    by_cases c : 14 * b + 2 ≤ k ∧ k < 14 * b + 2 + nC t b
    · rw [if_pos (by omega), if_pos c, iI_nat]
    · rw [if_neg (by omega), if_neg c]
      exact (fk 183 k (by omega) (by omega) (by omega) (by omega) (by omega)).trans (h.wv k)
  have hdl : ∀ b' : Nat, b' ≠ b → ∀ c, c < 12 → dl (rtW t w b g) b' c = dl w b' c := fun b' q c hc => by
    unfold dl rtW
    exact if_neg (by omega)
  have hW' : WOk t (rtW t w b g) := fun b' hb' => by
    have hw := h.wok b' hb'
    have h9 := hch b' hb'
    refine ⟨?_, ?_, fun c hc => ?_⟩
    · rw [show rtW t w b g (14 * b') = w (14 * b') from if_neg (by omega)]
      exact hw.1
    · rw [show rtW t w b g (14 * b' + 1) = w (14 * b' + 1) from if_neg (by omega)]
      exact hw.2.1
    · by_cases q : b' = b
      · subst q
        have e := dl_rt (t := t) (w := w) (b := b') (g := g) (c := c) (by omega)
        unfold dl at e
        rw [e]
        have := hgc c (by omega)
        omega
      · have e := hdl b' q c (by omega)
        unfold dl at e
        rw [e]
        exact hw.2.2 c hc
  have key : ∀ o j, 38 ≤ o → o ≤ 177 → σ' o j = σ3 o j := fun o j q1 q2 => (m3 o j (by omega)).trans ((kf o j (by omega) (by omega)).trans (if_neg (by omega)))
  refine ⟨σ1, σ2, σ3, σk, σ', g1, ?_, j1, j2, fun k => (show up σ3 178 0 0 181 k = σ3 181 k from if_neg (by omega)).trans ((f3 _ _ (by omega) (by omega) (by omega)).trans (h.tv k)), fun k => (show up σ3 178 0 0 183 k = σ3 183 k from if_neg (by omega)).trans ((f3 _ _ (by omega) (by omega) (by omega)).trans (h.wv k)), k1, ?_, (m3 178 0 (by omega)).trans ((kf 178 0 (by omega) (by omega)).trans up_th), ?_⟩
  · unfold f_X0_spreadDelays
    exact i1
  · rw [l_0, m1, m_window hN h.ro hT' hV' hO hW' hb, bd_some]
  refine Iv.ofW h (fun o k hk => ?_) hV' hW' (fun b' hb' => ?_) (fun b' hb' => ?_) ?_ ?_
  · unfold Kp at hk
    exact (m3 o k (by omega)).trans (fk o k (by omega) (by omega) (by omega) (by omega) (by omega))
  · have hc := h.cs b' hb'
    have h9 := hch b' hb'
    refine ⟨?_, ?_, fun c hc2 => ?_⟩
    · rw [key _ _ (by omega) (by omega), f3 _ _ (by omega) (by omega) (by omega), show rtW t w b g (14 * b') = w (14 * b') from if_neg (by omega)]
      exact hc.1
    · rw [key _ _ (by omega) (by omega), f3 _ _ (by omega) (by omega) (by omega), show rtW t w b g (14 * b' + 1) = w (14 * b' + 1) from if_neg (by omega)]
      exact hc.2.1
    · rw [key _ _ (by omega) (by omega)]
      by_cases q : b' = b
      · subst q
        exact (j5 _ _ (by omega)).trans (W.2.2.2.2.1 c (by omega))
      · rw [f3 _ _ (by omega) (by omega) (by omega)]
        refine (hc.2.2 c hc2).trans ?_
        have e := hdl b' q c (by omega)
        unfold dl at e
        rw [e]
  · by_cases q : b' = b
    · subst q
      rw [key _ _ (by omega) (by omega), key _ _ (by omega) (by omega), key _ _ (by omega) (by omega)]
      exact ⟨j2, j3, j4⟩
    · have h9 := hch b' hb'
      have e : ∀ c, c < nC t b' → dl (rtW t w b g) b' c = dl w b' c := fun c hc => hdl b' q c (by omega)
      rw [key _ _ (by omega) (by omega), key _ _ (by omega) (by omega), key _ _ (by omega) (by omega), f3 _ _ (by omega) (by omega) (by omega), f3 _ _ (by omega) (by omega) (by omega), f3 _ _ (by omega) (by omega) (by omega), win_c e, wst_c e, tst_c e]
      exact h.cw b' hb'
  · exact kc _ (fun o j q => m3 o j (by omega))
  · exact (m3 23 5 (by omega)).trans ((kf 23 5 (by omega) (by omega)).trans ((show up σ3 178 0 0 23 5 = σ3 23 5 from if_neg (by omega)).trans ((j5 23 5 (by omega)).trans ((i3 23 5 (by omega)).trans g5))))
/-! undo -/
/-- cells that a restored blast needs, as they are -/
def Sf (σ : SI) (s : Nat) (t : Nat → Int) : Prop := σ s 9 = iI (t 0) ∧ σ s 11 = iI (t 2) ∧ (∀ n : Nat, (n : Int) < t 0 → σ (s + 10 + 3 * n) 4 = iI (t (81 + 18 * n + 8))) ∧ ∀ b : Nat, (b : Int) < t 2 → σ (s + 40 + 5 * b) 7 = iI (t (285 + 22 * b + 9)) ∧ (∀ c : Nat, c < nC t b → σ (s + 41 + 5 * b) c = iI (sz t b c)) ∧ ∀ n : Nat, (n : Int) < t 0 → σ (s + 43 + 5 * b) n = iI (dist t b n)
theorem Sf.fr (hO : TOk t) (h : Sf σ s t) {σ' : SI} (q : ∀ o k, o = s ∨ (s + 10 ≤ o ∧ o ≤ s + 33) ∨ (s + 40 ≤ o ∧ o ≤ s + 69 ∧ ((o - (s + 40)) % 5 = 0 ∧ k = 7 ∨ (o - (s + 40)) % 5 = 1 ∨ (o - (s + 40)) % 5 = 3)) → σ' o k = σ o k) : Sf σ' s t := by
  obtain ⟨h1, h2, h3, h4⟩ := h
  have a0 := hO.1
  have a2 := hO.2.2.1
  refine ⟨(q _ _ (by omega)).trans h1, (q _ _ (by omega)).trans h2, fun n hn => (q _ _ (by omega)).trans (h3 n hn), fun b hb => ?_⟩
  obtain ⟨k1, k2, k3⟩ := h4 b hb
  exact ⟨(q _ _ (by omega)).trans k1, fun c hc => (q _ _ (by omega)).trans (k2 c hc), fun n hn => (q _ _ (by omega)).trans (k3 n hn)⟩
theorem Iv.sf (h : Iv σ R s t w) : Sf σ s t := by
  refine ⟨h.cq.1.1, h.cq.1.2.2.1, fun n hn => (h.cq.2.2.1 n hn).2.2.1, fun b hb => ⟨h.bl7 hb, fun c hc => (h.cq.2.2.2.2 b hb).2.2.2.2.1 c (by have := nC_c h.tok hb; omega), fun n hn => (h.cd b hb).2.2.1 n hn⟩⟩
theorem c_rest92 (hR : RO R s) {row b : Nat} (hb : b < 6) (hrow : 7 ≤ row ∧ row ≤ 22) {K : SI → Nat → Nat → Int32 → Option (Unit × SI)} (x3 : Int32) : ∀ (m k n : Nat) (σ : SI), k + m = 12 → m < n → ∃ σ', f_X2_restore_92 N R K n σ s row x3 (s + 40 + 5 * b) (nI (14 * b)) (nI k) = bd (f_X9_weigh N R σ' s (s + 40 + 5 * b)) (fun _ σ18 => K σ18 s row (x3 + 1)) ∧ (∀ j, σ' (s + 42 + 5 * b) j = if k ≤ j ∧ j < 12 then σ row (14 * b + 2 + j) else σ (s + 42 + 5 * b) j) ∧ ∀ o j, o ≠ s + 42 + 5 * b → σ' o j = σ o j := by
  have hs := hR.1
  intro m
  induction m with
  | zero =>
    intro k n σ hk hm
    obtain ⟨n, rfl⟩ : ∃ q, n = q + 1 := ⟨n - 1, by omega⟩
    refine ⟨σ, ?_, fun j => by rw [if_neg (by omega)], fun o j _ => rfl⟩
    rw [f_X2_restore_92, if_pos (by rw [show k = 12 by omega]; decide)]
  | succ m ih =>
    intro k n σ hk hm
    obtain ⟨n, rfl⟩ : ∃ q, n = q + 1 := ⟨n - 1, by omega⟩
    obtain ⟨σ', g1, g2, g3⟩ := ih (k + 1) n (up σ (s + 42 + 5 * b) k (σ row (14 * b + 2 + k))) (by omega) (by omega)
    refine ⟨σ', ?_, fun j => ?_, fun o j ho => (g3 o j ho).trans (if_neg (by omega))⟩
    · rw [f_X2_restore_92, if_neg (by rw [show (12 : Int32) = nI 12 from rfl, nI_leI (by omega) (by omega)]; omega), show (2 : Int32) = nI 2 from rfl, nI_add, nI_add, ck_nI (by omega) (by decide), ck_nI (by omega) (by decide), sq_eq, nI_clamp (by omega), nI_clamp (by omega), hR.blA b hb 1 (by decide), show s + 41 + 5 * b + 1 = s + 42 + 5 * b by omega, nI_1]
      exact g1
    · rw [g2 j, show up σ (s + 42 + 5 * b) k (σ row (14 * b + 2 + k)) row (14 * b + 2 + j) = σ row (14 * b + 2 + j) from if_neg (by omega)]
      unfold up
      by_cases c : j = k
      · rw [if_neg (by omega), if_pos ⟨rfl, c⟩, if_pos (by omega), c]
      · by_cases c2 : k + 1 ≤ j ∧ j < 12
        · rw [if_pos c2, if_pos (by omega)]
        · rw [if_neg c2, if_neg (by omega), if_neg (by omega)]
theorem c_rest38 (hN : 2000 ≤ N) (hR : RO R s) (hO : TOk t) {row : Nat} (hrow : 7 ≤ row ∧ row ≤ 22) (hW : WOk t w) : ∀ (m k n : Nat) (σ : SI), k + m = nB t → m < n → Sf σ s t → (∀ b : Nat, k ≤ b → (b : Int) < t 2 → ∀ q : Nat, (q : Int) < 2 + t (285 + 22 * b + 9) → σ row (14 * b + q) = iI (w (14 * b + q))) → ∃ σ', f_X2_restore_38 N R n σ s row (nI k) = some ((), σ') ∧ (∀ b, k ≤ b → b < nB t → σ' (s + 7) b = iI (w (14 * b)) ∧ σ' (s + 40 + 5 * b) 13 = iI (w (14 * b + 1)) ∧ (∀ c, c < nC t b → σ' (s + 42 + 5 * b) c = iI (dl w b c)) ∧ σ' (s + 40 + 5 * b) 8 = iI (win t w b) ∧ σ' (s + 40 + 5 * b) 9 = iI (wst t w b) ∧ σ' (s + 40 + 5 * b) 10 = bts (tst t w b) 0 (nN t) 0) ∧ ∀ o j, ¬ (o = s + 7 ∧ k ≤ j) → ¬ (s + 40 + 5 * k ≤ o ∧ o ≤ s + 69 ∧ ((o - (s + 40)) % 5 = 0 ∧ (8 ≤ j ∧ j ≤ 10 ∨ j = 13) ∨ (o - (s + 40)) % 5 = 2)) → σ' o j = σ o j := by
  have hs := hR.1
  have hB := nB_c hO
  have h0 := hO.1
  intro m
  induction m with
  | zero =>
    intro k n σ hk hm S hr
    obtain ⟨n, rfl⟩ : ∃ q, n = q + 1 := ⟨n - 1, by omega⟩
    refine ⟨σ, ?_, fun b q1 q2 => by omega, fun _ _ _ _ => rfl⟩
    rw [f_X2_restore_38, S.2.1, if_pos ((iI_leN (by omega)).mpr (by omega))]
  | succ m ih =>
    intro k n σ hk hm S hr
    obtain ⟨n, rfl⟩ : ∃ q, n = q + 1 := ⟨n - 1, by omega⟩
    have hkb : (k : Int) < t 2 := by omega
    have hn := nC_c hO hkb
    have hw := hW k hkb
    have r0 := hr k (by omega) hkb 0 (by omega)
    have r1 := hr k (by omega) hkb 1 (by omega)
    rw [Nat.add_zero] at r0
    have h14 : nI k * (14 : Int32) = nI (14 * k) := by
      rw [show (14 : Int32) = nI 14 from rfl, nI_mul, Nat.mul_comm]
    obtain ⟨σa, a1, a2, a3⟩ := c_rest92 (N := N) hR (row := row) (b := k) (by omega) hrow (K := fun σ x1 x2 x3 => f_X2_restore_38 N R n σ x1 x2 x3) (nI k) 12 0 N (up (up σ (s + 7) k (iI (w (14 * k)))) (s + 40 + 5 * k) 13 (iI (w (14 * k + 1)))) (by decide) (by omega)
    have fa : ∀ o j, o ≠ s + 42 + 5 * k → ¬ (o = s + 7 ∧ j = k) → ¬ (o = s + 40 + 5 * k ∧ j = 13) → σa o j = σ o j := fun o j q1 q2 q3 => by
      rw [a3 o j q1]
      unfold up
      rw [if_neg q3, if_neg q2]
    have Sa : Sf σa s t := S.fr hO (fun o j q => fa o j (by omega) (by omega) (by omega))
    have W : Wc σa s t w k := by
      obtain ⟨s1, s2, s3, s4⟩ := Sa
      obtain ⟨u1, u2, u3⟩ := s4 k hkb
      refine ⟨s1, s3, u1, u2, fun c hc => ?_, u3, fun c hc => dl_r hO hW hkb hc⟩
      rw [a2 c, if_pos (by omega)]
      have e := hr k (by omega) hkb (2 + c) (by omega)
      unfold dl up
      rw [if_neg (by omega), if_neg (by omega)]
      rw [show 14 * k + (2 + c) = 14 * k + 2 + c by omega] at e
      exact e
    obtain ⟨σb, b1, b2, b3, b4, b5⟩ := c_weigh hN hR hO hkb W
    have fb : ∀ o j, o ≠ s + 42 + 5 * k → ¬ (o = s + 7 ∧ j = k) → ¬ (o = s + 40 + 5 * k ∧ (j = 13 ∨ 8 ≤ j ∧ j ≤ 10)) → σb o j = σ o j := fun o j q1 q2 q3 => (b5 o j (by omega)).trans (fa o j q1 q2 (by omega))
    obtain ⟨σ', i1, i2, i3⟩ := ih (k + 1) n σb (by omega) (by omega) (S.fr hO (fun o j q => fb o j (by omega) (by omega) (by omega))) (fun b q1 q2 q q3 => (fb _ _ (by omega) (by omega) (by omega)).trans (hr b (by omega) q2 q q3))
    refine ⟨σ', ?_, fun b q1 q2 => ?_, fun o j q1 q2 => ?_⟩
    · rw [f_X2_restore_38, S.2.1, if_neg (fun q => absurd ((iI_leN (by omega)).mp q) (by omega)), ck_nI (by omega) (by decide), h14, ck_nI (by omega) (by decide), ck_nI (by omega) (by decide), sq_eq, nI_clamp (by omega), nI_clamp (by omega), hR.si 6 (by decide), hR.si 2 (by decide), show s + 1 + 6 = s + 7 by omega, show s + 1 + 2 = s + 3 by omega, hR.bl k (by omega), r0, show (1 : Int32) = nI 1 from rfl, nI_add, ck_nI (by omega) (by decide), nI_clamp (by omega), show up σ (s + 7) k (iI (w (14 * k))) row (14 * k + 1) = σ row (14 * k + 1) from if_neg (by omega), r1]
      rcases hw.2.1 with e | e
      · rw [e] at a1
        rw [e, if_pos (show iI 0 = (0 : Int32) from rfl), sq_eq]
        refine a1.trans ?_
        rw [b1, bd_some, nI_1]
        exact i1
      · rw [e] at a1
        rw [e, if_neg (show ¬ iI 1 = (0 : Int32) by decide), sq_eq]
        refine a1.trans ?_
        rw [b1, bd_some, nI_1]
        exact i1
    · by_cases c : b = k
      · subst c
        have z : ∀ o j, ¬ (o = s + 7 ∧ b + 1 ≤ j) → o < s + 45 + 5 * b → σ' o j = σb o j := fun o j q1 q2 => i3 o j q1 (by omega)
        refine ⟨?_, ?_, fun c hc => ?_, ?_, ?_, ?_⟩
        · rw [z _ _ (by omega) (by omega), b5 _ _ (by omega), a3 _ _ (by omega)]
          unfold up
          rw [if_neg (by omega), if_pos ⟨rfl, rfl⟩]
        · rw [z _ _ (by omega) (by omega), b5 _ _ (by omega), a3 _ _ (by omega)]
          exact up_th
        · rw [z _ _ (by omega) (by omega), b5 _ _ (by omega)]
          exact W.2.2.2.2.1 c hc
        · rw [z _ _ (by omega) (by omega)]
          exact b2
        · rw [z _ _ (by omega) (by omega)]
          exact b3
        · rw [z _ _ (by omega) (by omega)]
          exact b4
      · exact i2 b (by omega) q2
    · exact (i3 o j (by omega) (by omega)).trans (fb o j (by omega) (by omega) (by omega))
theorem m_undo26 (hR : RO R s) {d : Nat} (hd : d < 16) : ∀ (m k n : Nat) (σ : SI), k + m = 84 → m < n → σ 178 16 = nI d → ∃ σ', f_X12_undo_26 N R n σ 178 (nI k) = some (nI d, σ') ∧ (∀ j, σ' 183 j = if k ≤ j ∧ j < 84 then σ 185 (84 * d + j) else σ 183 j) ∧ ∀ o j, o ≠ 183 → σ' o j = σ o j := by
  intro m
  induction m with
  | zero =>
    intro k n σ hk hm h1
    obtain ⟨n, rfl⟩ : ∃ q, n = q + 1 := ⟨n - 1, by omega⟩
    refine ⟨σ, ?_, fun j => by rw [if_neg (by omega)], fun o j _ => rfl⟩
    rw [f_X12_undo_26, if_pos (by rw [show k = 84 by omega]; decide), h1]
  | succ m ih =>
    intro k n σ hk hm h1
    obtain ⟨n, rfl⟩ : ∃ q, n = q + 1 := ⟨n - 1, by omega⟩
    obtain ⟨σ', g1, g2, g3⟩ := ih (k + 1) n (up σ 183 k (σ 185 (84 * d + k))) (by omega) (by omega) ((if_neg (by omega)).trans h1)
    refine ⟨σ', ?_, fun j => ?_, fun o j ho => (g3 o j ho).trans (if_neg (by omega))⟩
    · rw [f_X12_undo_26, if_neg (by rw [show (84 : Int32) = nI 84 from rfl, nI_leI (by omega) (by omega)]; omega), h1, show (84 : Int32) = nI 84 from rfl, nI_mul, nI_add, ck_nI (by omega) (by decide), ck_nI (by omega) (by decide), sq_eq, hR.m15, hR.m13, nI_clamp (by omega), nI_clamp (by omega), nI_1]
      exact g1
    · rw [g2 j, show up σ 183 k (σ 185 (84 * d + k)) 185 (84 * d + j) = σ 185 (84 * d + j) from if_neg (by omega)]
      unfold up
      by_cases c : j = k
      · rw [if_neg (by omega), if_pos ⟨rfl, c⟩, if_pos (by omega), c]
      · by_cases c2 : k + 1 ≤ j ∧ j < 84
        · rw [if_pos c2, if_pos (by omega)]
        · rw [if_neg c2, if_neg (by omega), if_neg (by omega)]
end RT
theorem ag_57 {N : Nat} (hN : 2000 ≤ N) : Ag_57 N Inv := by
  intro σ R hI
  obtain ⟨s, t, w, h⟩ := hI
  have hR := h.ro
  have hO := h.tok
  have hs := hR.1
  have hB := nB_c hO
  have q1 : Same σ (up σ 178 0 0) := same_up (by unfold Sc; omega)
  obtain ⟨d, nx, hd, hnx, hd0, h52, h51, hh⟩ := h.ch
  by_cases c0 : d = 0
  · subst c0
    refine ⟨-1, σ, -1, up σ 178 0 0, ?_, ?_, ⟨s, t, w, h.same q1⟩, rfl⟩
    · unfold f_X11_undo
      rw [hR.r1_1, h52, if_pos (show nI 0 = (0 : Int32) from rfl)]
    · unfold f_X12_undo
      rw [sq_eq, show up σ 178 0 0 178 16 = nI 0 from hd0, if_pos (show nI 0 = (0 : Int32) from rfl)]
  obtain ⟨d, rfl⟩ : ∃ q, d = q + 1 := ⟨d - 1, by omega⟩
  obtain ⟨w', hw'⟩ : ∃ w' : Nat → Int, w' = fun k => if k < 84 then (σ 185 (84 * d + k)).toInt else w k := ⟨_, rfl⟩
  have e' : ∀ k, k < 84 → w' k = (σ 185 (84 * d + k)).toInt := fun k hk => by rw [hw']; exact if_pos hk
  obtain ⟨o1, o2⟩ := hh d (by omega)
  have hch : ∀ b : Nat, (b : Int) < t 2 → t (285 + 22 * b + 9) ≤ 12 := fun b hb => (hO.b hb).2.2.2.1.2
  have hW' : WOk t w' := fun b hb => by
    have a := o1 b hb
    have := hch b hb
    dsimp only at a
    rw [e' _ (by omega), e' _ (by omega)]
    refine ⟨a.1, a.2.1, fun c hc => ?_⟩
    rw [e' _ (by omega)]
    exact a.2.2 c hc
  have hnx' : (nx + 16 - (d + 1) + d) % 16 = (nx + 15) % 16 := by omega
  rw [hnx'] at o2
  have hrow : ∀ b : Nat, (b : Int) < t 2 → ∀ q : Nat, (q : Int) < 2 + t (285 + 22 * b + 9) → σ (7 + (nx + 15) % 16) (14 * b + q) = iI (w' (14 * b + q)) := fun b hb q hq => by
    have := hch b hb
    rw [o2 b hb q hq, e' _ (by omega)]
    exact iI_of _
  have f0 : ∀ o j, o ≠ 5 → up (up σ 5 1 (nI ((nx + 15) % 16))) 5 2 (nI d) o j = σ o j := fun o j q => by
    unfold up
    rw [if_neg (by omega), if_neg (by omega)]
  obtain ⟨σ1, g1, g2, g3⟩ := c_rest38 hN hR hO (row := 7 + (nx + 15) % 16) (by omega) hW' (nB t) 0 N (up (up σ 5 1 (nI ((nx + 15) % 16))) 5 2 (nI d)) (by omega) (by omega) (h.sf.fr hO (fun o k q => f0 o k (by omega))) (fun b _ hb q hq => (f0 _ _ (by omega)).trans (hrow b hb q hq))
  have f1 : ∀ o j, ¬ (38 ≤ o ∧ o ≤ 177) → o ≠ 5 → σ1 o j = σ o j := fun o j q1 q2 => (g3 o j (by omega) (by omega)).trans (f0 o j q2)
  have h16 : up (up σ1 23 5 0) 178 0 0 178 16 = nI (d + 1) := by
    unfold up
    rw [if_neg (by omega), if_neg (by omega), f1 _ _ (by omega) (by omega)]
    exact hd0
  obtain ⟨σ2, i1, i2, i3⟩ := m_undo26 (N := N) hR (d := d) (by omega) 84 0 N (up (up (up σ1 23 5 0) 178 0 0) 178 16 (nI d)) (by omega) (by omega) up_th
  have f2 : ∀ o j, o ≠ 183 → (o ≠ 178 ∨ j ≠ 0 ∧ j ≠ 16) → (o ≠ 23 ∨ j ≠ 5) → σ2 o j = σ1 o j := fun o j q1 q2 q3 => by
    rw [i3 o j q1]
    unfold up
    rw [if_neg (by omega), if_neg (by omega), if_neg (by omega)]
  have e1 : σ1 5 1 = nI ((nx + 15) % 16) := (g3 5 1 (by omega) (by omega)).trans (by unfold up; rw [if_neg (by omega), if_pos ⟨rfl, rfl⟩])
  have e2 : σ1 5 2 = nI d := (g3 5 2 (by omega) (by omega)).trans up_th
  refine ⟨nI d, up σ1 23 5 0, nI d, σ2, ?_, ?_, ⟨s, t, w', ?_⟩, rfl⟩
  · unfold f_X11_undo f_X2_restore f_X6_forget
    have a1 : nI nx + (16 : Int32) - 1 = nI (nx + 15) := by
      rw [show (16 : Int32) = nI 16 from rfl, show (1 : Int32) = nI 1 from rfl, nI_add, nI_sub (by omega)]
      rfl
    have a2 : nI (nx + 15) / (16 : Int32) = nI ((nx + 15) / 16) := by
      rw [iI_nat, show (16 : Int32) = iI 16 from rfl, iI_div (by omega) (by omega), iI_nat]
      congr 1
    have a3 : nI (nx + 15) - nI ((nx + 15) / 16) * (16 : Int32) = nI ((nx + 15) % 16) := by
      rw [show (16 : Int32) = nI 16 from rfl, nI_mul, nI_sub (by omega)]
      congr 1
      omega
    have a4 : up σ 5 1 (nI ((nx + 15) % 16)) 5 2 - 1 = nI d := by
      rw [show up σ 5 1 (nI ((nx + 15) % 16)) 5 2 = σ 5 2 from if_neg (by omega), h52, show (1 : Int32) = nI 1 from rfl, nI_sub (by omega)]
      rfl
    have a5 : up (up σ 5 1 (nI ((nx + 15) % 16))) 5 2 (nI d) 5 1 = nI ((nx + 15) % 16) := by
      unfold up
      rw [if_neg (by omega), if_pos ⟨rfl, rfl⟩]
    rw [hR.r1_1, h52, if_neg (by rw [show (0 : Int32) = nI 0 from rfl, nI_eq (by omega) (by omega)]; omega), h51, a1, a2, a3, sq_eq, a4, sq_eq, a5, ck_nI (by omega) (by decide), hR.site, hR.r5_0, nI_clamp (by omega), hR.r6 _ (by omega), l_0, g1, bd_some, hR.r1_2, sq_eq, bd_some, show up σ1 23 5 (nI 0) 5 2 = σ1 5 2 from if_neg (by omega), e2]
  · unfold f_X12_undo
    rw [sq_eq, h16, if_neg (by rw [show (0 : Int32) = nI 0 from rfl, nI_eq (by omega) (by omega)]; omega), show (1 : Int32) = nI 1 from rfl, nI_sub (by omega), sq_eq]
    exact i1
  · refine Iv.ofW h (fun o k hk => ?_) (fun k => ?_) hW' (fun b hb => ?_) (fun b hb => ?_) ?_ ?_
    · unfold Kp at hk
      rw [f2 o k (by omega) (by omega) (by omega), g3 o k (by omega) (by omega)]
      exact f0 o k (by omega)
    · rw [i2 k, hw']
      show _ = iI (if k < 84 then (σ 185 (84 * d + k)).toInt else w k)
      by_cases c : k < 84
      · rw [if_pos (by omega), if_pos c]
        have : up (up (up σ1 23 5 0) 178 0 0) 178 16 (nI d) 185 (84 * d + k) = σ 185 (84 * d + k) := by
          unfold up
          rw [if_neg (by omega), if_neg (by omega), if_neg (by omega)]
          exact f1 _ _ (by omega) (by omega)
        rw [this]
        exact iI_of _
      · rw [if_neg (by omega), if_neg c]
        have : up (up (up σ1 23 5 0) 178 0 0) 178 16 (nI d) 183 k = σ 183 k := by
          unfold up
          rw [if_neg (by omega), if_neg (by omega), if_neg (by omega)]
          exact f1 _ _ (by omega) (by omega)
        rw [this]
        exact h.wv k
    · obtain ⟨r1, r2, r3, -, -, -⟩ := g2 b (by omega) (by omega)
      refine ⟨(f2 _ _ (by omega) (by omega) (by omega)).trans r1, (f2 _ _ (by omega) (by omega) (by omega)).trans r2, fun c hc => (f2 _ _ (by omega) (by omega) (by omega)).trans (r3 c (by have := nC_c hO hb; omega))⟩
    · obtain ⟨-, -, -, r4, r5, r6⟩ := g2 b (by omega) (by omega)
      exact ⟨(f2 _ _ (by omega) (by omega) (by omega)).trans r4, (f2 _ _ (by omega) (by omega) (by omega)).trans r5, (f2 _ _ (by omega) (by omega) (by omega)).trans r6⟩
    · refine ⟨d, (nx + 15) % 16, by omega, by omega, ?_, (f2 _ _ (by omega) (by omega) (by omega)).trans e2, (f2 _ _ (by omega) (by omega) (by omega)).trans e1, fun j hj => ?_⟩
      · exact (i3 178 16 (by omega)).trans up_th
      · obtain ⟨p1, p2⟩ := hh j (by omega)
        have ep : ∀ k, σ2 185 k = σ 185 k := fun k => (f2 _ _ (by omega) (by omega) (by omega)).trans (f1 _ _ (by omega) (by omega))
        refine ⟨?_, fun b hb q hq => ?_⟩
        · simp only [ep]
          exact p1
        · rw [ep, f2 _ _ (by omega) (by omega) (by omega), f1 _ _ (by omega) (by omega), show ((nx + 15) % 16 + 16 - d + j) % 16 = (nx + 16 - (d + 1) + j) % 16 by omega]
          exact p2 b hb q hq
    · rw [i3 23 5 (by omega)]
      unfold up
      rw [if_neg (by omega), if_neg (by omega), if_pos ⟨rfl, rfl⟩]
/-! ### CALLS -/
theorem ag_40 {N : Nat} (hN : 2000 ≤ N) : Ag_40 N Inv := by
  intro σ R a1 a2 hI
  obtain ⟨s, t, w, h⟩ := hI
  have hR := h.ro
  have hO := h.tok
  have hT := h.tv
  have hW := h.wv
  have q1 : Same σ (up σ 178 0 0) := same_up (by unfold Sc; omega)
  have hT1 := hT.same q1
  have hW1 := hW.same q1
  have h1 := h.same q1
  by_cases c1 : 0 ≤ a1.toInt ∧ a1.toInt < t 2
  rotate_left
  · refine ⟨.inr 0, σ, 0, up (up σ 178 0 0) 178 0 1, ?_, ?_, ⟨s, t, w, h1.same (same_up (by unfold Sc; omega))⟩, fun v e => (by cases e), fun q e => (by cases e; first | exact ⟨rfl, up_th⟩ | exact Or.inl ⟨rfl, up_th⟩ | exact Or.inr ⟨rfl, up_th⟩ | exact Or.inr (Or.inl ⟨rfl, up_th⟩) | exact Or.inr (Or.inr ⟨rfl, up_th⟩))⟩
    · unfold f_X11_retime
      rw [c_bl_bad h c1, bdX_inr]
    · unfold f_X12_retime
      rw [sq_eq, m_bl_bad hR hT1 hO c1, bd_some, if_neg (by decide)]
      try rfl
  obtain ⟨b, rfl, e1⟩ := i32_nI (by omega) c1.2
  have l1 : (b : Int) < t 2 := by omega
  by_cases c2 : 0 ≤ a2.toInt ∧ a2.toInt ≤ 800
  rotate_left
  · refine ⟨.inr 1, σ, 0, up (up σ 178 0 0) 178 0 2, ?_, ?_, ⟨s, t, w, h1.same (same_up (by unfold Sc; omega))⟩, fun v e => (by cases e), fun q e => (by cases e; first | exact ⟨rfl, up_th⟩ | exact Or.inl ⟨rfl, up_th⟩ | exact Or.inr ⟨rfl, up_th⟩ | exact Or.inr (Or.inl ⟨rfl, up_th⟩) | exact Or.inr (Or.inr ⟨rfl, up_th⟩))⟩
    · unfold f_X11_retime
      rw [c_bl_ok h l1, bdX_inl, c_needRange, if_neg (show ¬ ((0 : Int32).toInt ≤ a2.toInt ∧ a2.toInt ≤ (800 : Int32).toInt) from c2), bdX_inr]
    · unfold f_X12_retime
      rw [sq_eq, m_bl_ok hR hT1 hO l1, bd_some, if_pos rfl, m_in, bd_some, decide_eq_false (show ¬ ((0 : Int32).toInt ≤ a2.toInt ∧ a2.toInt ≤ (800 : Int32).toInt) from c2), bI_f, if_pos rfl, m_throws1, bd_some, if_neg (by decide)]
      try rfl
  obtain ⟨g, rfl, e2⟩ := i32_nI (x := a2) (n := 801) (by omega) (by omega)
  have l2 : (g : Int) < 801 := by omega
  have hB := nB_c hO
  have hwb := h.wok b l1
  have hwf := hwb.2.1
  have hf : σ (s + 40 + 5 * b) 13 = iI (w (14 * b + 1)) := (h.cs b l1).2.1
  by_cases cf : w (14 * b + 1) = 0
  rotate_left
  · have cf1 : w (14 * b + 1) = 1 := by omega
    refine ⟨.inr 2, σ, 0, up (up σ 178 0 0) 178 0 3, ?_, ?_, ⟨s, t, w, h1.same (same_up (by unfold Sc; omega))⟩, fun v e => (by cases e), fun q e => (by cases e; first | exact ⟨rfl, up_th⟩ | exact Or.inl ⟨rfl, up_th⟩ | exact Or.inr ⟨rfl, up_th⟩ | exact Or.inr (Or.inl ⟨rfl, up_th⟩) | exact Or.inr (Or.inr ⟨rfl, up_th⟩))⟩
    · unfold f_X11_retime
      rw [c_bl_ok h l1, bdX_inl, c_needRange, if_pos (show (0 : Int32).toInt ≤ Int32.toInt (nI g) ∧ Int32.toInt (nI g) ≤ (800 : Int32).toInt from c2), bdX_inl, hf, if_neg (by rw [show (0 : Int32) = iI 0 from rfl, iI_eq (by omega)]; exact cf)]
    · unfold f_X12_retime
      rw [sq_eq, m_bl_ok hR hT1 hO l1, bd_some, if_pos rfl, m_in, bd_some, decide_eq_true (show (0 : Int32).toInt ≤ Int32.toInt (nI g) ∧ Int32.toInt (nI g) ≤ (800 : Int32).toInt from c2), bI_t, if_neg (by decide), m_throws0, bd_some, if_pos rfl, m_hasFired hR hW1 (by omega) hwf, bd_some, cf1, show iI 1 = (1 : Int32) from rfl, m_throws1, bd_some, if_neg (by decide)]
  obtain ⟨σ1, σ2, σ3, σk, σ', g1, g2, g3, g4, hTc, hWc, k1, k2, k3, hIv⟩ := act_rt hN h l1 (g := g) (by omega)
  refine ⟨.inl (iI (win t (rtW t w b g) b)), σ3, iI (win t (rtW t w b g) b), σ', ?_, ?_, ⟨s, t, _, hIv⟩, fun v e => (by cases e; exact ⟨k3, rfl⟩), fun q e => (by cases e)⟩
  · unfold f_X11_retime
    rw [c_bl_ok h l1, bdX_inl, c_needRange, if_pos (show (0 : Int32).toInt ≤ Int32.toInt (nI g) ∧ Int32.toInt (nI g) ≤ (800 : Int32).toInt from c2), bdX_inl, hf, if_pos (by rw [cf]; rfl), g1, bd_some, g2, bd_some, hR.site, g3, bd_some, g4]
  · unfold f_X12_retime
    rw [sq_eq, m_bl_ok hR hTc hO l1, bd_some, if_pos rfl, m_in, bd_some, decide_eq_true (show (0 : Int32).toInt ≤ Int32.toInt (nI g) ∧ Int32.toInt (nI g) ≤ (800 : Int32).toInt from c2), bI_t, if_neg (by decide), m_throws0, bd_some, if_pos rfl, m_hasFired hR hWc (by omega) hwf, bd_some, cf, show iI 0 = (0 : Int32) from rfl, m_throws0, bd_some, if_pos rfl, k1, bd_some]
    exact k2
