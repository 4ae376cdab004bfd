/-! ===== actions: what is kept before one, and the times after one ===== -/
/-- cells that an action doesn't touch -/
def Kp (s o k : Nat) : Prop := o = s ∨ o = s + 6 ∨ (s + 8 ≤ o ∧ o ≤ s + 39) ∨ (s + 40 ≤ o ∧ o ≤ s + 69 ∧ (((o - (s + 40)) % 5 = 0 ∧ (4 ≤ k ∧ k ≤ 7 ∨ k = 11 ∨ k = 12)) ∨ (o - (s + 40)) % 5 = 1 ∨ (o - (s + 40)) % 5 = 3 ∨ (o - (s + 40)) % 5 = 4)) ∨ o = 181 ∨ (o = 3 ∧ k ≠ 2) ∨ o = 4 ∨ (o = 178 ∧ (k = 3 ∨ k = 9 ∨ k = 10 ∨ k = 26)) ∨ o = 179 ∨ o = 29 ∨ o = 30 ∨ o = 193
theorem Iv.ofW {σ σ' : SI} {R : Nat → Nat → Nat} {s : Nat} {t w w' : Nat → Int} (h : Iv σ R s t w) (q : ∀ o k, Kp s o k → σ' o k = σ o k) (hV : WV w' σ') (hW' : WOk t w') (hs' : Cs σ' s t w') (hw' : Cw σ' s t w') (hc' : Ch σ' t) (hp' : σ' 23 5 = 0) : Iv σ' R s t w' := by
  obtain ⟨hR, hT, hW, hTo, hWo, ⟨c1, c2, c3, c4, c5⟩, hs, hd, hw, -, hp, ⟨n, n1, n2, n3, n4, n5, n6⟩, ⟨x, x1, x2, x3, x4⟩⟩ := h
  have hs0 := hR.1
  have eT := hTo.1
  have eR := hTo.2.1
  have eB := hTo.2.2.1
  have q : ∀ o k, (o = s ∨ o = s + 6 ∨ (s + 8 ≤ o ∧ o ≤ s + 39) ∨ (s + 40 ≤ o ∧ o ≤ s + 69 ∧ (((o - (s + 40)) % 5 = 0 ∧ (4 ≤ k ∧ k ≤ 7 ∨ k = 11 ∨ k = 12)) ∨ (o - (s + 40)) % 5 = 1 ∨ (o - (s + 40)) % 5 = 3 ∨ (o - (s + 40)) % 5 = 4)) ∨ o = 181 ∨ (o = 3 ∧ k ≠ 2) ∨ o = 4 ∨ (o = 178 ∧ (k = 3 ∨ k = 9 ∨ k = 10 ∨ k = 26)) ∨ o = 179 ∨ o = 29 ∨ o = 30 ∨ o = 193) → σ' o k = σ o k := q
  refine ⟨hR, fun k => (q 181 k (by omega)).trans (hT k), hV, hTo, hW', ⟨?_, ?_, ?_, ?_, ?_⟩, hs', ?_, hw', hc', Or.inl hp', ⟨n, n1, ?_, ?_, ?_, ?_, ?_⟩, ⟨x, x1, ?_, ?_, ?_⟩⟩
  · have qs : ∀ j, σ' s j = σ s j := fun j => q s j (by omega)
    simp only [qs]
    exact c1
  · intro h hh
    rw [q (s + 8) h (by omega), q (s + 9) h (by omega)]
    exact c2 h hh
  · intro n hn
    have := c3 n hn
    have a1 : ∀ j, σ' (s + 10 + 3 * n) j = σ (s + 10 + 3 * n) j := fun j => q _ _ (by omega)
    have a2 : ∀ j, σ' (s + 11 + 3 * n) j = σ (s + 11 + 3 * n) j := fun j => q _ _ (by omega)
    have a3 : ∀ j, σ' (s + 12 + 3 * n) j = σ (s + 12 + 3 * n) j := fun j => q _ _ (by omega)
    simp only [a1, a2, a3]
    exact this
  · intro r hr j hj
    rw [q (s + 34 + r) j (by omega)]
    exact c4 r hr j hj
  · intro b hb
    have := c5 b hb
    rw [q (s + 40 + 5 * b) 4 (by omega), q (s + 40 + 5 * b) 5 (by omega), q (s + 40 + 5 * b) 6 (by omega), q (s + 40 + 5 * b) 7 (by omega), q (s + 6) b (by omega)]
    refine ⟨this.1, this.2.1, this.2.2.1, this.2.2.2.1, fun c hc => ?_, this.2.2.2.2.2⟩
    rw [q (s + 41 + 5 * b) c (by omega)]
    exact this.2.2.2.2.1 c hc
  · intro b hb
    have := hd b hb
    rw [q (s + 40 + 5 * b) 11 (by omega), q (s + 40 + 5 * b) 12 (by omega)]
    refine ⟨this.1, this.2.1, fun n hn => ?_, fun h hh => ?_⟩
    · rw [q (s + 43 + 5 * b) n (by omega)]
      exact this.2.2.1 n hn
    · rw [q (s + 44 + 5 * b) h (by omega)]
      exact this.2.2.2 h hh
  · exact (q 3 1 (by omega)).trans n2
  · exact (q 178 3 (by omega)).trans n3
  · intro j hj
    rw [q 4 j (by omega), q 179 j (by omega)]
    exact n4 j hj
  · rw [q 3 3 (by omega), q 178 9 (by omega)]
    exact n5
  · rw [q 3 4 (by omega), q 178 10 (by omega)]
    exact n6
  · exact (q 29 1 (by omega)).trans x2
  · exact (q 178 26 (by omega)).trans x3
  · intro j hj
    rw [q 30 j (by omega), q 193 j (by omega)]
    exact x4 j hj
section ACT
variable {N : Nat} {R : Nat → Nat → Nat} {s : Nat} {t w w' : Nat → Int} {σ : SI}
theorem fromD_c {b : Nat} (h : ∀ c, c < nC t b → dl w' b c = dl w b c) (d : Int) : fromD t w' b d = fromD t w b d := by
  unfold fromD
  exact lp_congr _ _ _ (fun j a _ h2 => by rw [h j (by omega)])
theorem win_c {b : Nat} (h : ∀ c, c < nC t b → dl w' b c = dl w b c) : win t w' b = win t w b := by
  unfold win
  exact lp_congr _ _ _ (fun j a _ h2 => by rw [h j (by omega), fromD_c h])
theorem wst_c {b : Nat} (h : ∀ c, c < nC t b → dl w' b c = dl w b c) : wst t w' b = wst t w b := by
  unfold wst
  exact lp_congr _ _ _ (fun j a _ h2 => by rw [h j (by omega), fromD_c h, win_c h])
theorem tst_c {b : Nat} (h : ∀ c, c < nC t b → dl w' b c = dl w b c) : tst t w' b = tst t w b := by
  funext n
  unfold tst shk
  rw [win_c h]
theorem Cw.c (hO : TOk t) (hw : Cw σ s t w) {σ' : SI} (hq : ∀ b : Nat, (b : Int) < t 2 → σ' (s + 40 + 5 * b) 8 = σ (s + 40 + 5 * b) 8 ∧ σ' (s + 40 + 5 * b) 9 = σ (s + 40 + 5 * b) 9 ∧ σ' (s + 40 + 5 * b) 10 = σ (s + 40 + 5 * b) 10) (h : ∀ b : Nat, (b : Int) < t 2 → ∀ c, c < nC t b → dl w' b c = dl w b c) : Cw σ' s t w' := by
  intro b hb
  obtain ⟨q1, q2, q3⟩ := hq b hb
  rw [q1, q2, q3, win_c (h b hb), wst_c (h b hb), tst_c (h b hb)]
  exact hw b hb
/-! the class keeps a row -/
theorem c_rec66 (hR : RO R s) {row b : Nat} (hb : b < 6) (hrow : 7 ≤ row ∧ row ≤ 22) {K : SI → Nat → Nat → Nat → Int32 → Option (Unit × SI)} (x3 : Int32) : ∀ (m k n : Nat) (σ : SI), k + m = 12 → m < n → ∃ σ', f_X2_record_66 N R K n σ 5 s row x3 (s + 40 + 5 * b) (nI (14 * b)) (nI k) = K σ' 5 s row (x3 + 1) ∧ (∀ j, σ' row j = if 14 * b + 2 + k ≤ j ∧ j < 14 * b + 14 then σ (s + 42 + 5 * b) (j - (14 * b + 2)) else σ row j) ∧ ∀ o j, o ≠ row → σ' o j = σ o j := by
  have hs := hR.1
  intro m
  induction m with
  | zero =>
    intro k n σ hk hm
    obtain ⟨n, rfl⟩ : ∃ q, n = q + 1 := ⟨n - 1, by omega⟩
    refine ⟨σ, ?_, fun j => by rw [if_neg (by omega)], fun o j _ => rfl⟩
    rw [f_X2_record_66, if_pos (by rw [show k = 12 by omega]; decide)]
  | succ m ih =>
    intro k n σ hk hm
    obtain ⟨n, rfl⟩ : ∃ q, n = q + 1 := ⟨n - 1, by omega⟩
    obtain ⟨σ', g1, g2, g3⟩ := ih (k + 1) n (up σ row (14 * b + 2 + k) (σ (s + 42 + 5 * b) k)) (by omega) (by omega)
    refine ⟨σ', ?_, fun j => ?_, fun o j ho => ?_⟩
    · rw [f_X2_record_66, if_neg (by rw [show (12 : Int32) = nI 12 from rfl, nI_leI (by omega) (by omega)]; omega), ck_nI (by omega) (by decide), show (2 : Int32) = nI 2 from rfl, nI_add, nI_add, ck_nI (by omega) (by decide), sq_eq, nI_clamp (by omega), nI_clamp (by omega), hR.blA b hb 1 (by decide), show s + 41 + 5 * b + 1 = s + 42 + 5 * b by omega, nI_1]
      exact g1
    · rw [g2 j]
      have e : up σ row (14 * b + 2 + k) (σ (s + 42 + 5 * b) k) (s + 42 + 5 * b) (j - (14 * b + 2)) = σ (s + 42 + 5 * b) (j - (14 * b + 2)) := if_neg (by omega)
      rw [e]
      unfold up
      by_cases c : j = 14 * b + 2 + k
      · rw [if_neg (by omega), if_pos ⟨rfl, c⟩, if_pos (by omega), show j - (14 * b + 2) = k by omega]
      · by_cases c2 : 14 * b + 2 + (k + 1) ≤ j ∧ j < 14 * b + 14
        · rw [if_pos c2, if_pos (by omega)]
        · rw [if_neg c2, if_neg (by omega), if_neg (by omega)]
    · rw [g3 o j ho]
      unfold up
      rw [if_neg (by omega)]
theorem c_rec12 (hN : 2000 ≤ N) (hR : RO R s) (hO : TOk t) {row d nx : Nat} (hd : d ≤ 16) (hnx : nx < 16) (hrow : 7 ≤ row ∧ row ≤ 22) : ∀ (m k n : Nat) (σ : SI), k + m = nB t → m < n → σ s 11 = iI (t 2) → σ 5 1 = nI nx → σ 5 2 = nI d → (∀ b : Nat, (b : Int) < t 2 → σ (s + 40 + 5 * b) 13 = 0 ∨ σ (s + 40 + 5 * b) 13 = 1) → ∃ σ', f_X2_record_12 N R n σ 5 s row (nI k) = some ((), σ') ∧ (∀ b, k ≤ b → b < nB t → σ' row (14 * b) = σ (s + 7) b ∧ σ' row (14 * b + 1) = σ (s + 40 + 5 * b) 13 ∧ ∀ c, c < 12 → σ' row (14 * b + 2 + c) = σ (s + 42 + 5 * b) c) ∧ (∀ j, j < 14 * k → σ' row j = σ row j) ∧ σ' 5 1 = nI ((nx + 1) % 16) ∧ σ' 5 2 = nI (if d = 16 then 16 else d + 1) ∧ ∀ o j, o ≠ row → (o ≠ 5 ∨ j = 0 ∨ 2 < j) → σ' o j = σ o j := by
  have hs := hR.1
  have hn := nB_c hO
  intro m
  induction m with
  | zero =>
    intro k n σ hk hm h11 h1 h2 hf
    obtain ⟨n, rfl⟩ : ∃ q, n = q + 1 := ⟨n - 1, by omega⟩
    refine ⟨up (up σ 5 1 (nI ((nx + 1) % 16))) 5 2 (nI (if d = 16 then 16 else d + 1)), ?_, fun b h3 h4 => by omega, fun j _ => ?_, ?_, up_th, fun o j h3 h4 => ?_⟩
    · have e1 : nI (nx + 1) / (16 : Int32) = nI ((nx + 1) / 16) := by
        rw [iI_nat, show (16 : Int32) = iI 16 from rfl, iI_div (by omega) (by omega), iI_nat]
        congr 1
      have e2 : nI (nx + 1) - nI ((nx + 1) / 16) * (16 : Int32) = nI ((nx + 1) % 16) := by
        rw [show (16 : Int32) = nI 16 from rfl, nI_mul, nI_sub (by omega)]
        congr 1
        omega
      rw [f_X2_record_12, h11, if_pos ((iI_leN (by omega)).mpr (by omega)), h1, nI_1, e1, e2, sq_eq, sq_eq]
      have e3 : up σ 5 1 (nI ((nx + 1) % 16)) 5 2 + 1 = nI (d + 1) := by
        rw [show up σ 5 1 (nI ((nx + 1) % 16)) 5 2 = σ 5 2 from if_neg (by omega), h2, nI_1]
      rw [e3]
      by_cases c : d = 16
      · subst c
        rfl
      · rw [if_neg (by rw [show (16 : Int32) = nI 16 from rfl, nI_ltI (by omega) (by omega)]; omega), if_neg c]
    · unfold up
      rw [if_neg (by omega), if_neg (by omega)]
    · unfold up
      rw [if_neg (by omega), if_pos ⟨rfl, rfl⟩]
    · unfold up
      rw [if_neg (by omega), if_neg (by omega)]
  | succ m ih =>
    intro k n σ hk hm h11 h1 h2 hf
    obtain ⟨n, rfl⟩ : ∃ q, n = q + 1 := ⟨n - 1, by omega⟩
    have hfk := hf k (by omega)
    have h14 : nI k * (14 : Int32) = nI (14 * k) := by
      rw [show (14 : Int32) = nI 14 from rfl, nI_mul, Nat.mul_comm]
    -- the two ints and the delays
    obtain ⟨σ2, g1, g2, g3⟩ := c_rec66 (N := N) hR (row := row) (b := k) (by omega) hrow (K := fun σ x0 x1 x2 x3 => f_X2_record_12 N R n σ x0 x1 x2 x3) (nI k) 12 0 N (up (up σ row (14 * k) (σ (s + 7) k)) row (14 * k + 1) (σ (s + 40 + 5 * k) 13)) (by decide) (by omega)
    have hk2 : ∀ o j, o ≠ row → σ2 o j = σ o j := fun o j ho => by
      rw [g3 o j ho]
      unfold up
      rw [if_neg (by omega), if_neg (by omega)]
    obtain ⟨σ', i1, i2, i3, i4, i5, i6⟩ := ih (k + 1) n σ2 (by omega) (by omega) (by rw [hk2 s 11 (by omega)]; exact h11) (by rw [hk2 5 1 (by omega)]; exact h1) (by rw [hk2 5 2 (by omega)]; exact h2) (fun b hb => by rw [hk2 (s + 40 + 5 * b) 13 (by omega)]; exact hf b hb)
    refine ⟨σ', ?_, fun b h3 h4 => ?_, fun j hj => ?_, i4, i5, fun o j h3 h4 => ?_⟩
    · rw [f_X2_record_12, h11, if_neg (fun q => absurd ((iI_leN (by omega)).mp q) (by omega)), ck_nI (by omega) (by decide), ck_nI (by omega) (by decide), h14, ck_nI (by omega) (by decide), sq_eq, nI_clamp (by omega), nI_clamp (by omega), hR.si 6 (by decide), hR.si 2 (by decide), show s + 1 + 6 = s + 7 by omega, show s + 1 + 2 = s + 3 by omega, hR.bl k (by omega), show up σ row (14 * k) (σ (s + 7) k) (s + 40 + 5 * k) 13 = σ (s + 40 + 5 * k) 13 from if_neg (by omega), show (1 : Int32) = nI 1 from rfl, nI_add, ck_nI (by omega) (by decide), ck_nI (by omega) (by decide), sq_eq, sq_eq, nI_clamp (by omega)]
      rcases hfk with e | e
      · rw [e] at g1
        rw [e, if_pos rfl, show (0 : Int32) = nI 0 from rfl]
        refine g1.trans ?_
        rw [nI_1]
        exact i1
      · rw [e] at g1
        rw [e, if_neg (by decide)]
        refine Eq.trans ?_ (g1.trans ?_)
        · rfl
        · rw [nI_1]
          exact i1
    · by_cases c : b = k
      · subst c
        refine ⟨?_, ?_, fun c hc => ?_⟩
        · rw [i3 _ (by omega), g2, if_neg (by omega)]
          unfold up
          rw [if_neg (by omega), if_pos ⟨rfl, rfl⟩]
        · rw [i3 _ (by omega), g2, if_neg (by omega)]
          unfold up
          rw [if_pos ⟨rfl, rfl⟩]
        · rw [i3 _ (by omega), g2, if_pos (by omega)]
          unfold up
          rw [if_neg (by omega), if_neg (by omega), show 14 * b + 2 + c - (14 * b + 2) = c by omega]
      · obtain ⟨j1, j2, j3⟩ := i2 b (by omega) h4
        refine ⟨j1.trans (hk2 _ _ (by omega)), j2.trans (hk2 _ _ (by omega)), fun c hc => (j3 c hc).trans (hk2 _ _ (by omega))⟩
    · rw [i3 j (by omega), g2, if_neg (by omega)]
      unfold up
      rw [if_neg (by omega), if_neg (by omega)]
    · rw [i6 o j h3 h4, hk2 o j h3]
theorem c_record (hN : 2000 ≤ N) (h : Iv σ R s t w) {d nx : Nat} (hd : d ≤ 16) (hnx : nx < 16) (h1 : σ 5 1 = nI nx) (h2 : σ 5 2 = nI d) : ∃ σ', f_X11_recordAction N R σ 1 = some ((), σ') ∧ (∀ b, b < nB t → σ' (7 + nx) (14 * b) = σ (s + 7) b ∧ σ' (7 + nx) (14 * b + 1) = σ (s + 40 + 5 * b) 13 ∧ ∀ c, c < 12 → σ' (7 + nx) (14 * b + 2 + c) = σ (s + 42 + 5 * b) c) ∧ σ' 5 1 = nI ((nx + 1) % 16) ∧ σ' 5 2 = nI (if d = 16 then 16 else d + 1) ∧ σ' 23 5 = 0 ∧ ∀ o j, o ≠ 7 + nx → (o ≠ 5 ∨ j = 0 ∨ 2 < j) → (o ≠ 23 ∨ j ≠ 5) → σ' o j = σ o j := by
  have hn := nB_c h.tok
  obtain ⟨σ1, g1, g2, -, g4, g5, g6⟩ := c_rec12 hN h.ro h.tok (row := 7 + nx) hd hnx (by omega) (nB t) 0 N σ (by omega) (by omega) h.cq.1.2.2.1 h1 h2 (fun b hb => by
    rw [(h.cs b hb).2.1]
    rcases (h.wok b hb).2.1 with e | e <;> rw [e]
    · exact Or.inl rfl
    · exact Or.inr rfl)
  refine ⟨up σ1 23 5 0, ?_, fun b hb => ?_, ?_, ?_, up_th, fun o j h3 h4 h5 => ?_⟩
  · unfold f_X11_recordAction f_X2_record f_X6_forget
    rw [h.ro.r1_1, h.ro.site, h1, ck_nI hnx (by decide), h.ro.r5_0, nI_clamp (by omega), h.ro.r6 nx hnx, l_0, g1, bd_some, h.ro.r1_2, sq_eq, bd_some]
  · obtain ⟨j1, j2, j3⟩ := g2 b (by omega) hb
    unfold up
    rw [if_neg (by omega), if_neg (by omega)]
    refine ⟨j1, j2, fun c hc => ?_⟩
    rw [if_neg (by omega)]
    exact j3 c hc
  · unfold up
    rw [if_neg (by omega)]
    exact g4
  · unfold up
    rw [if_neg (by omega)]
    exact g5
  · unfold up
    rw [if_neg (by omega)]
    exact g6 o j h3 h4
/-! the reference keeps its row -/
theorem m_keep52 (hR : RO R s) {d : Nat} (hd : d < 16) : ∀ (m k n : Nat) (σ : SI), k + m = 84 → m < n → σ 178 16 = nI d → ∃ σ', f_X12_keeps_52 N R n σ 178 (nI k) = some ((), σ') ∧ σ' 178 16 = nI (d + 1) ∧ (∀ j, σ' 185 j = if 84 * d + k ≤ j ∧ j < 84 * d + 84 then σ 183 (j - 84 * d) else σ 185 j) ∧ ∀ o j, o ≠ 185 → (o ≠ 178 ∨ j ≠ 16) → σ' o j = σ o j := by
  intro m
  induction m with
  | zero =>
    intro k n σ hk hm h1
    obtain ⟨n, rfl⟩ : ∃ q, n = q + 1 := ⟨n - 1, by omega⟩
    refine ⟨up σ 178 16 (nI (d + 1)), ?_, up_th, fun j => ?_, fun o j h2 h3 => ?_⟩
    · rw [f_X12_keeps_52, if_pos (by rw [show k = 84 by omega]; decide), h1, nI_1, sq_eq]
    · rw [if_neg (by omega)]
      unfold up
      rw [if_neg (by omega)]
    · unfold up
      rw [if_neg (by omega)]
  | succ m ih =>
    intro k n σ hk hm h1
    obtain ⟨n, rfl⟩ : ∃ q, n = q + 1 := ⟨n - 1, by omega⟩
    obtain ⟨σ', g1, g2, g3, g4⟩ := ih (k + 1) n (up σ 185 (84 * d + k) (σ 183 k)) (by omega) (by omega) (by rw [show up σ 185 (84 * d + k) (σ 183 k) 178 16 = σ 178 16 from if_neg (by omega)]; exact h1)
    refine ⟨σ', ?_, g2, fun j => ?_, fun o j h2 h3 => ?_⟩
    · rw [f_X12_keeps_52, if_neg (by rw [show (84 : Int32) = nI 84 from rfl, nI_leI (by omega) (by omega)]; omega), ck_nI (by omega) (by decide), h1, show (84 : Int32) = nI 84 from rfl, nI_mul, nI_add, ck_nI (by omega) (by decide), sq_eq, hR.m15, hR.m13, nI_clamp (by omega), nI_clamp (by omega), nI_1]
      exact g1
    · rw [g3 j, show up σ 185 (84 * d + k) (σ 183 k) 183 (j - 84 * d) = σ 183 (j - 84 * d) from if_neg (by omega)]
      unfold up
      by_cases c : j = 84 * d + k
      · rw [if_neg (by omega), if_pos ⟨rfl, c⟩, if_pos (by omega), show j - 84 * d = k by omega]
      · by_cases c2 : 84 * d + (k + 1) ≤ j ∧ j < 84 * d + 84
        · rw [if_pos c2, if_pos (by omega)]
        · rw [if_neg c2, if_neg (by omega), if_neg (by omega)]
    · rw [g4 o j h2 h3]
      unfold up
      rw [if_neg (by omega)]
theorem m_keep12 (hN : 2000 ≤ N) (hR : RO R s) : ∀ (m k n : Nat) (σ : SI), k + m = 1344 → 84 ≤ k → m < n → σ 178 16 = 16 → ∃ σ1, f_X12_keeps_12 N R n σ 178 (nI k) = f_X12_keeps_50 N R σ1 178 ∧ σ1 178 16 = nI 15 ∧ (∀ j, σ1 185 j = if k ≤ j + 84 ∧ j + 84 < 1344 then σ 185 (j + 84) else σ 185 j) ∧ ∀ o j, o ≠ 185 → (o ≠ 178 ∨ j ≠ 16) → σ1 o j = σ o j := by
  intro m
  induction m with
  | zero =>
    intro k n σ hk h84 hm h1
    obtain ⟨n, rfl⟩ : ∃ q, n = q + 1 := ⟨n - 1, by omega⟩
    refine ⟨up σ 178 16 (nI 15), ?_, up_th, fun j => ?_, fun o j h2 h3 => ?_⟩
    · rw [f_X12_keeps_12, if_pos (by rw [show k = 1344 by omega]; decide), h1, sq_eq]
      rfl
    · rw [if_neg (by omega)]
      unfold up
      rw [if_neg (by omega)]
    · unfold up
      rw [if_neg (by omega)]
  | succ m ih =>
    intro k n σ hk h84 hm h1
    obtain ⟨n, rfl⟩ : ∃ q, n = q + 1 := ⟨n - 1, by omega⟩
    obtain ⟨σ', g1, g2, g3, g4⟩ := ih (k + 1) n (up σ 185 (k - 84) (σ 185 k)) (by omega) (by omega) (by omega) (by rw [show up σ 185 (k - 84) (σ 185 k) 178 16 = σ 178 16 from if_neg (by omega)]; exact h1)
    refine ⟨σ', ?_, g2, fun j => ?_, fun o j h2 h3 => ?_⟩
    · rw [f_X12_keeps_12, if_neg (by rw [show (1344 : Int32) = nI 1344 from rfl, nI_leI (by omega) (by omega)]; omega), ck_nI (by omega) (by decide), show (84 : Int32) = nI 84 from rfl, nI_sub h84, ck_nI (by omega) (by decide), sq_eq, hR.m15, nI_clamp (by omega), nI_clamp (by omega), nI_1]
      exact g1
    · rw [g3 j]
      unfold up
      by_cases c : j = k - 84
      · rw [if_neg (by omega), if_pos ⟨rfl, c⟩, if_pos (by omega), show j + 84 = k by omega]
      · by_cases c2 : k + 1 ≤ j + 84 ∧ j + 84 < 1344
        · rw [if_pos c2, if_neg (by omega), if_pos (by omega)]
        · rw [if_neg c2, if_neg (by omega), if_neg (by omega)]
    · rw [g4 o j h2 h3]
      unfold up
      rw [if_neg (by omega)]
theorem m_keeps (hN : 2000 ≤ N) (hR : RO R s) {d : Nat} (hd : d ≤ 16) (h1 : σ 178 16 = nI d) : ∃ σ', f_X12_keeps N R σ 178 = some ((), σ') ∧ σ' 178 16 = nI (if d = 16 then 16 else d + 1) ∧ (∀ j k, k < 84 → j < (if d = 16 then 16 else d + 1) → σ' 185 (84 * j + k) = if j + 1 = (if d = 16 then 16 else d + 1) then σ 183 k else σ 185 (84 * (if d = 16 then j + 1 else j) + k)) ∧ ∀ o j, o ≠ 185 → (o ≠ 178 ∨ j ≠ 16) → σ' o j = σ o j := by
  by_cases c : d = 16
  · subst c
    obtain ⟨σ1, g1, g2, g3, g4⟩ := m_keep12 hN hR 1260 84 N σ (by decide) (by decide) (by omega) h1
    obtain ⟨σ2, i1, i2, i3, i4⟩ := m_keep52 (N := N) hR (d := 15) (by decide) 84 0 N σ1 (by decide) (by omega) g2
    refine ⟨σ2, ?_, i2, fun j k hk hj => ?_, fun o j h2 h3 => (i4 o j h2 h3).trans (g4 o j h2 h3)⟩
    · unfold f_X12_keeps
      rw [h1, if_pos (show nI 16 = (16 : Int32) from rfl)]
      refine Eq.trans g1 ?_
      unfold f_X12_keeps_50
      exact i1
    · rw [if_pos rfl] at hj ⊢
      rw [if_pos rfl, i3]
      by_cases c2 : j + 1 = 16
      · rw [if_pos (by omega), if_pos c2, g4 183 _ (by omega) (by omega), show 84 * j + k - 84 * 15 = k by omega]
      · rw [if_neg (by omega), if_neg c2, g3, if_pos (by omega)]
        congr 1
        omega
  · obtain ⟨σ2, i1, i2, i3, i4⟩ := m_keep52 (N := N) hR (d := d) (by omega) 84 0 N σ (by decide) (by omega) h1
    refine ⟨σ2, ?_, by rw [if_neg c]; exact i2, fun j k hk hj => ?_, i4⟩
    · unfold f_X12_keeps f_X12_keeps_50
      rw [h1, if_neg (by rw [show (16 : Int32) = nI 16 from rfl, nI_eq (by omega) (by omega)]; exact c)]
      exact i1
    · rw [if_neg c] at hj ⊢
      rw [if_neg c, i3]
      by_cases c2 : j + 1 = d + 1
      · rw [if_pos (by omega), if_pos c2]
        congr 1
        omega
      · rw [if_neg (by omega), if_neg c2]
/-- both have kept the same -/
theorem Ch_push (h : Iv σ R s t w) {d nx : Nat} (hd : d ≤ 16) (hnx : nx < 16) (hd0 : σ 178 16 = nI d) (hn0 : σ 5 1 = nI nx)
    (hh : ∀ j : Nat, j < d → WOk t (fun k => (σ 185 (84 * j + k)).toInt) ∧ ∀ b : Nat, (b : Int) < t 2 → ∀ q : Nat, (q : Int) < 2 + t (285 + 22 * b + 9) → σ (7 + (nx + 16 - d + j) % 16) (14 * b + q) = σ 185 (84 * j + (14 * b + q)))
    {σ' : SI} (e1 : σ' 5 1 = nI ((nx + 1) % 16)) (e2 : σ' 5 2 = nI (if d = 16 then 16 else d + 1)) (e3 : σ' 178 16 = nI (if d = 16 then 16 else d + 1))
    (er : ∀ b, b < nB t → σ' (7 + nx) (14 * b) = σ (s + 7) b ∧ σ' (7 + nx) (14 * b + 1) = σ (s + 40 + 5 * b) 13 ∧ ∀ c, c < 12 → σ' (7 + nx) (14 * b + 2 + c) = σ (s + 42 + 5 * b) c)
    (eo : ∀ o j, 7 ≤ o → o ≤ 22 → o ≠ 7 + nx → σ' o j = σ o j)
    (ep : ∀ j k, k < 84 → j < (if d = 16 then 16 else d + 1) → σ' 185 (84 * j + k) = if j + 1 = (if d = 16 then 16 else d + 1) then σ 183 k else σ 185 (84 * (if d = 16 then j + 1 else j) + k)) : Ch σ' t := by
  have hO := h.tok
  have hB := nB_c hO
  refine ⟨if d = 16 then 16 else d + 1, (nx + 1) % 16, by split <;> omega, by omega, e3, e2, e1, fun j hj => ?_⟩
  have hch : ∀ b : Nat, (b : Int) < t 2 → t (285 + 22 * b + 9) ≤ 12 := fun b hb => (hO.b hb).2.2.2.1.2
  by_cases c : j + 1 = (if d = 16 then 16 else d + 1)
  · have e : ∀ k, k < 84 → σ' 185 (84 * j + k) = σ 183 k := fun k hk => by rw [ep j k hk hj, if_pos c]
    refine ⟨fun b hb => ?_, fun b hb q hq => ?_⟩
    · have hw := h.wok b hb
      have e0 := e (14 * b) (by omega)
      have e1' := e (14 * b + 1) (by omega)
      dsimp only
      rw [e0, e1', h.wv, h.wv, iI_toInt (by omega), iI_toInt (by rcases hw.2.1 with e | e <;> rw [e] <;> omega)]
      refine ⟨hw.1, hw.2.1, fun c hc => ?_⟩
      have := hch b hb
      have hr := hw.2.2 c hc
      rw [e (14 * b + 2 + c) (by omega), h.wv, iI_toInt (by omega)]
      exact hr
    · have := hch b hb
      rw [e _ (by omega), h.wv]
      have ei : 7 + ((nx + 1) % 16 + 16 - (if d = 16 then 16 else d + 1) + j) % 16 = 7 + nx := by
        by_cases c16 : d = 16
        · rw [if_pos c16] at c ⊢
          omega
        · rw [if_neg c16] at c ⊢
          omega
      rw [ei]
      obtain ⟨r1, r2, r3⟩ := er b (by omega)
      have hcs := h.cs b hb
      rcases (show q = 0 ∨ q = 1 ∨ 2 ≤ q by omega) with rfl | rfl | hq2
      · rw [Nat.add_zero, r1]
        exact hcs.1
      · rw [r2]
        exact hcs.2.1
      · have := r3 (q - 2) (by omega)
        rw [show 14 * b + 2 + (q - 2) = 14 * b + q by omega] at this
        rw [this, hcs.2.2 (q - 2) (by omega)]
        rw [show 14 * b + 2 + (q - 2) = 14 * b + q by omega]
  · have hj2 : (if d = 16 then j + 1 else j) < d := by
      by_cases c16 : d = 16
      · rw [if_pos c16] at c hj ⊢
        omega
      · rw [if_neg c16] at c hj ⊢
        omega
    have e : ∀ k, k < 84 → σ' 185 (84 * j + k) = σ 185 (84 * (if d = 16 then j + 1 else j) + k) := fun k hk => by rw [ep j k hk hj, if_neg c]
    have ei : (((nx + 1) % 16 + 16 - (if d = 16 then 16 else d + 1) + j) % 16) = (nx + 16 - d + (if d = 16 then j + 1 else j)) % 16 := by
      by_cases c16 : d = 16
      · rw [if_pos c16, if_pos c16]
        rw [if_pos c16] at c hj
        omega
      · rw [if_neg c16, if_neg c16]
        rw [if_neg c16] at c hj
        omega
    have en : 7 + (nx + 16 - d + (if d = 16 then j + 1 else j)) % 16 ≠ 7 + nx := by
      by_cases c16 : d = 16
      · rw [if_pos c16] at hj2 ⊢
        omega
      · rw [if_neg c16] at hj2 ⊢
        omega
    obtain ⟨o1, o2⟩ := hh _ hj2
    refine ⟨fun b hb => ?_, fun b hb q hq => ?_⟩
    · have := hch b hb
      have ob := o1 b hb
      dsimp only at ob ⊢
      rw [e (14 * b) (by omega), e (14 * b + 1) (by omega)]
      refine ⟨ob.1, ob.2.1, fun c hc => ?_⟩
      rw [e (14 * b + 2 + c) (by omega)]
      exact ob.2.2 c hc
    · have := hch b hb
      rw [e _ (by omega), ei, eo _ _ (by omega) (by omega) en]
      exact o2 b hb q hq
end ACT

