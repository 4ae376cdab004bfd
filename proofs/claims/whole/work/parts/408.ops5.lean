/-! ===== reasons, start minutes ===== -/
theorem iI_abs {z : Int} (h : -2147483647 ≤ z ∧ z ≤ 2147483647) : (if 0 ≤ iI z then iI z else 0 - iI z) = iI (if z < 0 then -z else z) := by
  have g := iI_le (a := 0) (b := z) (by omega)
  rw [show (0 : Int32) = iI 0 from rfl]
  by_cases c : z < 0
  · rw [if_neg (fun q => by have := g.mp q; omega), if_pos c, iI_sub, Int.zero_sub]
  · rw [if_pos (g.mpr (by omega)), if_neg c]
theorem anyN_s (p : Nat → Bool) (k m : Nat) : anyN p k (m + 1) = (p k || anyN p (k + 1) m) := rfl
section WHY
variable {N : Nat} {R : Nat → Nat → Nat} {s : Nat} {t w : Nat → Int} {σ : SI}
theorem m_shakesSome (hN : 2000 ≤ N) (hR : RO R s) (hT : TV t σ) (hV : WV w σ) (hO : TOk t) (hW : WOk t w) {b : Nat} (hb : (b : Int) < t 2) : ∀ (m k n : Nat), k + m = nN t → m < n → f_X12_shakesSome_2 N R n σ 178 (nI b) (nI k) = some (bI (anyN (tst t w b) k m), σ) := by
  have hn := nN_c hO
  intro m
  induction m with
  | zero =>
    intro k n hk hm
    obtain ⟨n, rfl⟩ : ∃ q, n = q + 1 := ⟨n - 1, by omega⟩
    rw [f_X12_shakesSome_2, ck0, hR.m11, cl0, hT, if_pos ((iI_leN (by omega)).mpr (by omega))]
    rfl
  | succ m ih =>
    intro k n hk hm
    obtain ⟨n, rfl⟩ : ∃ q, n = q + 1 := ⟨n - 1, by omega⟩
    rw [f_X12_shakesSome_2, ck0, hR.m11, cl0, hT, if_neg (fun q => absurd ((iI_leN (by omega)).mp q) (by omega)), m_isTooStrong hN hR hT hV hO hW hb (by omega), bd_some, anyN_s, nI_1]
    cases tst t w b k
    · rw [bI_f, if_pos rfl, ih (k + 1) n (by omega) (by omega), Bool.false_or]
    · rw [bI_t, if_neg (by decide), Bool.true_or]
      rfl
def dsp (t : Nat → Int) (b : Nat) (m : Int) : Nat → Bool := fun n => still t n m && heard t b n
theorem heard_r (hO : TOk t) {b : Nat} (hb : (b : Int) < t 2) : 0 ≤ (3 * t (285 + 22 * b + 8)) * (3 * t (285 + 22 * b + 8)) ∧ (3 * t (285 + 22 * b + 8)) * (3 * t (285 + 22 * b + 8)) ≤ 2250000 := by
  have h := (hO.b hb).2.2.1
  have h1 := mul_c (a := 3 * t (285 + 22 * b + 8)) (b := 3 * t (285 + 22 * b + 8)) (A := 1500) (B := 1500) (C := 2250000) (by omega) (by omega) rfl
  exact ⟨sq_0 _, h1.2⟩
theorem m_disturbs (hN : 2000 ≤ N) (hR : RO R s) (hT : TV t σ) (hO : TOk t) {b : Nat} (hb : (b : Int) < t 2) {x : Int} (hx : 0 ≤ x ∧ x ≤ 1439) : ∀ (m k n : Nat), k + m = nN t → m < n → f_X12_disturbs_13 N R n σ 178 (nI b) (iI x) (iI (3 * t (285 + 22 * b + 8))) (nI k) = some (bI (anyN (dsp t b x) k m), σ) := by
  have hn := nN_c hO
  have h2 := hO.2.2.1
  have hh := heard_r hO hb
  intro m
  induction m with
  | zero =>
    intro k n hk hm
    obtain ⟨n, rfl⟩ : ∃ q, n = q + 1 := ⟨n - 1, by omega⟩
    rw [f_X12_disturbs_13, ck0, hR.m11, cl0, hT, if_pos ((iI_leN (by omega)).mpr (by omega))]
    rfl
  | succ m ih =>
    intro k n hk hm
    obtain ⟨n, rfl⟩ : ∃ q, n = q + 1 := ⟨n - 1, by omega⟩
    have hd := dist_r hO hb (n := k) (by omega)
    rw [f_X12_disturbs_13, ck0, hR.m11, cl0, hT, if_neg (fun q => absurd ((iI_leN (by omega)).mp q) (by omega)), m_isStill hN hR hT hO (by omega) (by omega), bd_some, anyN_s]
    dsimp only [f_X12_disturbs_49]
    rw [nI_1]
    unfold dsp heard
    cases still t k x
    · rw [bI_f, if_pos rfl, ih (k + 1) n (by omega) (by omega), Bool.false_and, Bool.false_or]
      rfl
    · rw [bI_t, if_neg (by decide), m_farAway hR hT (by omega) (by omega), bd_some, iI_mul, Bool.true_and]
      by_cases c : (3 * t (285 + 22 * b + 8)) * (3 * t (285 + 22 * b + 8)) < dist t b k
      · rw [if_pos ((iI_lt (by omega)).mpr c), ih (k + 1) n (by omega) (by omega), decide_eq_false (by omega), Bool.false_or]
        rfl
      · rw [if_neg (fun q => c ((iI_lt (by omega)).mp q)), decide_eq_true (by omega), Bool.true_or]
        rfl
def crp (t tm : Nat → Int) (b : Nat) (m : Int) : Nat → Bool := fun o => decide (o ≠ b ∧ tm o ≠ -1 ∧ (if tm o - m < 0 then -(tm o - m) else tm o - m) < t 8)
theorem abs_r {z : Int} (h : -1440 ≤ z ∧ z ≤ 1440) : 0 ≤ (if z < 0 then -z else z) ∧ (if z < 0 then -z else z) ≤ 1440 := by split <;> omega
theorem m_crowded (hR : RO R s) (hT : TV t σ) (hV : WV w σ) (hO : TOk t) (hW : WOk t w) {b : Nat} (hb : (b : Int) < t 2) {x : Int} (hx : 0 ≤ x ∧ x ≤ 1439) : ∀ (m k n : Nat), k + m = nB t → m < n → f_X12_isCrowded_2 N R n σ 178 (nI b) (iI x) (nI k) = some (bI (anyN (crp t (tms w) b x) k m), σ) := by
  have hn := nB_c hO
  have h8 := hO.2.2.2.2.2.2.2.1
  intro m
  induction m with
  | zero =>
    intro k n hk hm
    obtain ⟨n, rfl⟩ : ∃ q, n = q + 1 := ⟨n - 1, by omega⟩
    rw [f_X12_isCrowded_2, m_blasts hR hT, bd_some, if_pos ((iI_leN (by omega)).mpr (by omega))]
    rfl
  | succ m ih =>
    intro k n hk hm
    obtain ⟨n, rfl⟩ : ∃ q, n = q + 1 := ⟨n - 1, by omega⟩
    have hw := (hW k (by omega)).1
    rw [f_X12_isCrowded_2, m_blasts hR hT, bd_some, if_neg (fun q => absurd ((iI_leN (by omega)).mp q) (by omega)), anyN_s]
    dsimp only [f_X12_isCrowded_46]
    rw [nI_1]
    unfold crp tms
    by_cases c : k = b
    · rw [if_pos (by rw [c]), ih (k + 1) n (by omega) (by omega), decide_eq_false (by omega), Bool.false_or]
      rfl
    · rw [if_neg (by rw [nI_eq (by omega) (by omega)]; exact c), m_time hR hV (by omega), bd_some]
      by_cases c2 : w (14 * k) = -1
      · rw [if_pos (by rw [c2]; rfl), ih (k + 1) n (by omega) (by omega), decide_eq_false (by omega), Bool.false_or]
        rfl
      · have hab := abs_r (z := w (14 * k) - x) (by omega)
        rw [if_neg (by rw [show (-1 : Int32) = iI (-1) from rfl, iI_eq (by omega)]; exact c2), m_time hR hV (by omega), bd_some, show (8 : Int32) = nI 8 from rfl, ck_nI (by decide) (by decide), nI_clamp (by decide), hR.m11, hT, iI_sub, iI_abs (by omega)]
        by_cases c3 : t 8 ≤ (if w (14 * k) - x < 0 then -(w (14 * k) - x) else w (14 * k) - x)
        · rw [if_pos ((iI_le (by omega)).mpr c3), ih (k + 1) n (by omega) (by omega), decide_eq_false (by omega), Bool.false_or]
          rfl
        · rw [if_neg (fun q => c3 ((iI_le (by omega)).mp q)), decide_eq_true ⟨c, c2, by omega⟩, Bool.true_or]
          rfl
theorem m_why (hN : 2000 ≤ N) (hR : RO R s) (hT : TV t σ) (hV : WV w σ) (hO : TOk t) (hW : WOk t w) {b : Nat} (hb : (b : Int) < t 2) {x : Int} (hx : 0 ≤ x ∧ x ≤ 1439) : f_X12_why N R σ 178 (nI b) (iI x) = some (iI (why t w (tms w) b x), σ) := by
  have hn := nN_c hO
  have hnb := nB_c hO
  have h2 := hO.2.2.1
  have h3 := hO.2.2.2.1
  unfold f_X12_why
  rw [show (3 : Int32) = nI 3 from rfl, show (4 : Int32) = nI 4 from rfl, ck_nI (by decide) (by decide), ck_nI (by decide) (by decide), nI_clamp (by decide), nI_clamp (by decide), hR.m11, hT, hT, m_inI (by omega), bd_some]
  unfold why
  by_cases c : x < t 3 ∨ t 4 < x
  · rw [decide_eq_false (by omega), bI_f, if_pos rfl, if_pos c]
    rfl
  · rw [decide_eq_true (by omega), bI_t, if_neg (by decide), if_neg c]
    have e1 := m_shakesSome hN hR hT hV hO hW hb (nN t) 0 N (by omega) (by omega)
    unfold f_X12_shakesSome
    rw [l_0, e1, bd_some]
    cases anyN (tst t w b) 0 (nN t)
    · rw [bI_f, if_pos (show (0 : Int32) = nI 0 from rfl), if_neg (by decide)]
      have e2 := m_disturbs hN hR hT hO hb hx (nN t) 0 N (by omega) (by omega)
      unfold f_X12_disturbs
      rw [m_bl8 hR hT (by omega), bd_some, show (3 : Int32) = iI 3 from rfl, iI_mul, l_0, e2, bd_some]
      rw [show anyN (fun n => still t n x && heard t b n) 0 (nN t) = anyN (dsp t b x) 0 (nN t) from rfl]
      cases anyN (dsp t b x) 0 (nN t)
      · rw [bI_f, if_pos (show (0 : Int32) = nI 0 from rfl), if_neg (by decide)]
        have e60 : iI x / (60 : Int32) = nI (x / 60).toNat := by
          rw [show (60 : Int32) = iI 60 from rfl, iI_div (by omega) (by omega), iI_nat]
          congr 1
          omega
        rw [e60, m_dusty hN hR hT hO hb (by omega), bd_some]
        by_cases c4 : bts (isD t b (x / 60).toNat) 0 (nN t) 0 = 0
        · have c5 := (bts_zero _ hn.2).mp c4
          rw [c4, if_pos (show (0 : Int32) = nI 0 from rfl), c5, if_neg (by decide)]
          have e3 := m_crowded (N := N) hR hT hV hO hW hb hx (nB t) 0 N (by omega) (by omega)
          unfold f_X12_isCrowded
          rw [l_0, e3, bd_some]
          unfold crowd
          rw [show (fun o => decide (o ≠ b ∧ tms w o ≠ -1 ∧ (if tms w o - x < 0 then -(tms w o - x) else tms w o - x) < t 8)) = crp t (tms w) b x from rfl]
          cases anyN (crp t (tms w) b x) 0 (nB t)
          · rfl
          · rfl
        · have c5 : anyN (isD t b (x / 60).toNat) 0 (nN t) = true := by
            cases hz : anyN (isD t b (x / 60).toNat) 0 (nN t)
            · exact absurd ((bts_zero _ hn.2).mpr hz) c4
            · rfl
          rw [if_neg (show ¬ bts (isD t b (x / 60).toNat) 0 (nN t) 0 = nI 0 from c4), c5, if_pos rfl]
          rfl
      · rw [bI_t, if_neg (by decide), if_pos rfl]
        rfl
    · rw [bI_t, if_neg (by decide), if_pos rfl]
      rfl
/-! the class's -/
theorem c_quietFor (hN : 2000 ≤ N) (h : Iv σ R s t w) {b : Nat} (hb : (b : Int) < t 2) {x : Int} (hx : 0 ≤ x ∧ x ≤ 1439) : ∀ (m k n : Nat), k + m = nN t → m < n → f_X9_quietFor_2 N R n σ s (s + 40 + 5 * b) (iI x) (nI k) = some (bI (anyN (dsp t b x) k m), σ) := by
  have hO := h.tok
  have hn := nN_c hO
  intro m
  induction m with
  | zero =>
    intro k n hk hm
    obtain ⟨n, rfl⟩ : ∃ q, n = q + 1 := ⟨n - 1, by omega⟩
    rw [f_X9_quietFor_2, h.cq.1.1, if_pos ((iI_leN (by omega)).mpr (by omega))]
    rfl
  | succ m ih =>
    intro k n hk hm
    obtain ⟨n, rfl⟩ : ∃ q, n = q + 1 := ⟨n - 1, by omega⟩
    rw [f_X9_quietFor_2, h.cq.1.1, if_neg (fun q => absurd ((iI_leN (by omega)).mp q) (by omega)), (h.cd b hb).2.1, bts_bit _ hn.2 (by omega), anyN_s]
    dsimp only [f_X9_quietFor_36]
    rw [nI_1]
    unfold dsp
    cases heard t b k
    · rw [bI_f, if_pos rfl, ih (k + 1) n (by omega) (by omega), Bool.and_false, Bool.false_or]
      rfl
    · rw [bI_t, if_neg (by decide), ck_nI (by omega) (by decide), h.ro.si 0 (by decide), Nat.add_zero, h.ro.nb _ (by rw [nI_clamp (by omega)]; omega), nI_clamp (by omega), c_quietAt hN h (by omega) (by omega), bd_some]
      cases still t k x
      · rw [bI_f, if_pos rfl, ih (k + 1) n (by omega) (by omega), Bool.false_and, Bool.false_or]
        rfl
      · rw [bI_t, if_neg (by decide)]
        rfl
theorem c_crowded (h : Iv σ R s t w) {b tc : Nat} (hb : (b : Int) < t 2) {tm : Nat → Int} (htm : ∀ o : Nat, (o : Int) < t 2 → σ tc o = iI (tm o) ∧ -1 ≤ tm o ∧ tm o ≤ 1439) {x : Int} (hx : 0 ≤ x ∧ x ≤ 1439) : ∀ (m k n : Nat), k + m = nB t → m < n → f_X9_crowded_3 N R n σ s (nI b) (iI x) tc (nI k) = some (bI (anyN (crp t tm b x) k m), σ) := by
  have hO := h.tok
  have hn := nB_c hO
  have h8 := hO.2.2.2.2.2.2.2.1
  intro m
  induction m with
  | zero =>
    intro k n hk hm
    obtain ⟨n, rfl⟩ : ∃ q, n = q + 1 := ⟨n - 1, by omega⟩
    rw [f_X9_crowded_3, h.cq.1.2.2.1, if_pos ((iI_leN (by omega)).mpr (by omega))]
    rfl
  | succ m ih =>
    intro k n hk hm
    obtain ⟨n, rfl⟩ : ∃ q, n = q + 1 := ⟨n - 1, by omega⟩
    obtain ⟨e, hw⟩ := htm k (by omega)
    rw [f_X9_crowded_3, h.cq.1.2.2.1, if_neg (fun q => absurd ((iI_leN (by omega)).mp q) (by omega)), anyN_s]
    dsimp only [f_X9_crowded_44]
    rw [nI_1]
    unfold crp
    by_cases c : k = b
    · rw [if_pos (by rw [c]), ih (k + 1) n (by omega) (by omega), decide_eq_false (by omega), Bool.false_or]
      rfl
    · rw [if_neg (by rw [nI_eq (by omega) (by omega)]; exact c), ck_nI (by omega) (by decide), ck_nI (by omega) (by decide), nI_clamp (by omega), e]
      by_cases c2 : tm k = -1
      · rw [if_pos (by rw [c2]; rfl), ih (k + 1) n (by omega) (by omega), decide_eq_false (by omega), Bool.false_or]
        rfl
      · have hab := abs_r (z := tm k - x) (by omega)
        rw [if_neg (by rw [show (-1 : Int32) = iI (-1) from rfl, iI_eq (by omega)]; exact c2), h.cq.1.2.2.2.2.2.2.2.2, iI_sub, iI_abs (by omega)]
        by_cases c3 : t 8 ≤ (if tm k - x < 0 then -(tm k - x) else tm k - x)
        · rw [if_pos ((iI_le (by omega)).mpr c3), ih (k + 1) n (by omega) (by omega), decide_eq_false (by omega), Bool.false_or]
          rfl
        · rw [if_neg (fun q => c3 ((iI_le (by omega)).mp q)), decide_eq_true ⟨c, c2, by omega⟩, Bool.true_or]
          rfl
theorem c_reason (hN : 2000 ≤ N) (h : Iv σ R s t w) {b tc : Nat} (hb : (b : Int) < t 2) {tm : Nat → Int} (htm : ∀ o : Nat, (o : Int) < t 2 → σ tc o = iI (tm o) ∧ -1 ≤ tm o ∧ tm o ≤ 1439) {x : Int} (hx : 0 ≤ x ∧ x ≤ 1439) : f_X9_reasonAgainst N R σ s (nI b) (iI x) tc = some (iI (why t w tm b x), σ) := by
  have hO := h.tok
  have hn := nN_c hO
  have hnb := nB_c hO
  have h2 := hO.2.2.1
  have h3 := hO.2.2.2.1
  unfold f_X9_reasonAgainst why
  rw [h.cq.1.2.2.2.1, h.cq.1.2.2.2.2.1]
  by_cases c1 : x < t 3
  · rw [if_pos ((iI_lt (by omega)).mpr c1), if_pos (Or.inl c1)]
    rfl
  · rw [if_neg (fun q => c1 ((iI_lt (by omega)).mp q))]
    by_cases c2 : x ≤ t 4
    · rw [if_pos ((iI_le (by omega)).mpr c2), if_neg (show ¬ (x < t 3 ∨ t 4 < x) by omega), ck_nI (by omega) (by decide), nI_clamp (by omega), h.ro.si 2 (by decide), show s + 1 + 2 = s + 3 by omega, h.ro.bl b (by omega), (h.cw b hb).2.2]
      by_cases c3 : bts (tst t w b) 0 (nN t) 0 = 0
      · rw [if_pos c3, if_neg (by rw [(bts_zero _ hn.2).mp c3]; decide)]
        have e2 := c_quietFor hN h hb hx (nN t) 0 N (by omega) (by omega)
        unfold f_X9_quietFor
        rw [l_0, e2, bd_some]
        rw [show anyN (fun n => still t n x && heard t b n) 0 (nN t) = anyN (dsp t b x) 0 (nN t) from rfl]
        cases anyN (dsp t b x) 0 (nN t)
        · have e60 : iI x / (60 : Int32) = nI (x / 60).toNat := by
            rw [show (60 : Int32) = iI 60 from rfl, iI_div (by omega) (by omega), iI_nat]
            congr 1
            omega
          rw [bI_f, if_pos (show (0 : Int32) = nI 0 from rfl), if_neg (show ¬ (false = true) by decide), e60, ck_nI (by omega) (by decide), h.ro.blA b (by omega) 3 (by decide), nI_clamp (by omega), show s + 41 + 5 * b + 3 = s + 44 + 5 * b by omega, (h.cd b hb).2.2.2 _ (by omega)]
          by_cases c4 : bts (isD t b (x / 60).toNat) 0 (nN t) 0 = 0
          · rw [if_pos (show bts (isD t b (x / 60).toNat) 0 (nN t) 0 = nI 0 from c4), if_neg (by rw [(bts_zero _ hn.2).mp c4]; decide)]
            have e3 := c_crowded (N := N) h hb htm hx (nB t) 0 N (by omega) (by omega)
            unfold f_X9_crowded
            rw [l_0, e3, bd_some]
            unfold crowd
            rw [show (fun o => decide (o ≠ b ∧ tm o ≠ -1 ∧ (if tm o - x < 0 then -(tm o - x) else tm o - x) < t 8)) = crp t tm b x from rfl]
            cases anyN (crp t tm b x) 0 (nB t)
            · rfl
            · rfl
          · have c5 : anyN (isD t b (x / 60).toNat) 0 (nN t) = true := by
              cases hz : anyN (isD t b (x / 60).toNat) 0 (nN t)
              · exact absurd ((bts_zero _ hn.2).mpr hz) c4
              · rfl
            rw [if_neg (show ¬ bts (isD t b (x / 60).toNat) 0 (nN t) 0 = nI 0 from c4), c5, if_pos rfl]
            rfl
        · rw [bI_t, if_neg (by decide), if_pos rfl]
          rfl
      · have c5 : anyN (tst t w b) 0 (nN t) = true := by
          cases hz : anyN (tst t w b) 0 (nN t)
          · exact absurd ((bts_zero _ hn.2).mpr hz) c3
          · rfl
        rw [if_neg c3, c5, if_pos rfl]
        rfl
    · rw [if_neg (fun q => c2 ((iI_le (by omega)).mp q)), if_pos (show x < t 3 ∨ t 4 < x by omega)]
      rfl
theorem tms_ok (h : Iv σ R s t w) : ∀ o : Nat, (o : Int) < t 2 → σ (s + 7) o = iI (tms w o) ∧ -1 ≤ tms w o ∧ tms w o ≤ 1439 := fun o ho => ⟨(h.cs o ho).1, (h.wok o ho).1⟩
theorem c_reasonT (hN : 2000 ≤ N) (h : Iv σ R s t w) {b : Nat} (hb : (b : Int) < t 2) {x : Int} (hx : 0 ≤ x ∧ x ≤ 1439) : f_X9_reasonAgainst N R σ s (nI b) (iI x) (R s 6) = some (iI (why t w (tms w) b x), σ) := by
  rw [h.ro.si 6 (by decide), show s + 1 + 6 = s + 7 by omega]
  exact c_reason hN h hb (tms_ok h) hx
theorem why_r (t w tm : Nat → Int) (b : Nat) (m : Int) : 0 ≤ why t w tm b m ∧ why t w tm b m ≤ 5 := by
  unfold why
  repeat' split
  all_goals omega
theorem c_isAllowed (hN : 2000 ≤ N) (h : Iv σ R s t w) {b : Nat} (hb : (b : Int) < t 2) {x : Int} (hx : 0 ≤ x ∧ x ≤ 1439) : f_X11_isAllowed N R σ 1 (nI b) (iI x) = some (bI (decide (why t w (tms w) b x = 0)), σ) := by
  have hr := why_r t w (tms w) b x
  unfold f_X11_isAllowed
  rw [h.ro.site, c_reasonT hN h hb hx, bd_some]
  by_cases c : why t w (tms w) b x = 0
  · rw [if_pos (by rw [c]; rfl), decide_eq_true c]
    rfl
  · rw [if_neg (by rw [show (0 : Int32) = iI 0 from rfl, iI_eq (by omega)]; exact c), decide_eq_false c]
    rfl
theorem stA_r (hO : TOk t) {k : Nat} (hk : k < nS t) : 0 ≤ stA t k ∧ stA t k ≤ 1439 := by
  have h3 := hO.2.2.2.1
  have h5 := hO.2.2.2.2.1
  have h7 : 0 ≤ (t 4 - t 3) / t 5 := Int.ediv_nonneg (by omega) (by omega)
  unfold nS at hk
  have h1 : t 5 * ((t 4 - t 3) / t 5) ≤ t 4 - t 3 := Int.mul_ediv_self_le (by omega)
  have h2 : t 5 * (k : Int) ≤ t 5 * ((t 4 - t 3) / t 5) := Int.mul_le_mul_of_nonneg_left (by omega) (by omega)
  have h4 : 0 ≤ t 5 * (k : Int) := Int.mul_nonneg (by omega) (by omega)
  unfold stA
  omega
theorem nS_r (hO : TOk t) : 1 ≤ nS t ∧ nS t ≤ 1440 := by
  have h3 := hO.2.2.2.1
  have h5 := hO.2.2.2.2.1
  have h6 : (t 4 - t 3) / t 5 ≤ t 4 - t 3 := Int.ediv_le_self _ (by omega)
  have h7 : 0 ≤ (t 4 - t 3) / t 5 := Int.ediv_nonneg (by omega) (by omega)
  unfold nS
  omega
def ers (t w : Nat → Int) (b : Nat) (x : Int) : Nat → Nat → Int
  | _, 0 => -1
  | k, m + 1 => if x ≤ stA t k ∧ why t w (tms w) b (stA t k) = 0 then stA t k else ers t w b x (k + 1) m
theorem c_ers (hN : 2000 ≤ N) (h : Iv σ R s t w) {b : Nat} (hb : (b : Int) < t 2) {x : Int} (hx : 0 ≤ x ∧ x ≤ 1439) : ∀ (m k n : Nat), k + m = nS t → m < n → f_X11_earliest_25 N R n σ 1 (nI b) (iI x) (iI (nS t)) (nI k) = some (.inl (iI (ers t w b x k m)), σ) := by
  have hO := h.tok
  have hS := nS_r hO
  intro m
  induction m with
  | zero =>
    intro k n hk hm
    obtain ⟨n, rfl⟩ : ∃ q, n = q + 1 := ⟨n - 1, by omega⟩
    rw [f_X11_earliest_25, if_pos ((iI_leN (by omega)).mpr (by omega))]
    rfl
  | succ m ih =>
    intro k n hk hm
    obtain ⟨n, rfl⟩ : ∃ q, n = q + 1 := ⟨n - 1, by omega⟩
    have hs := stA_r hO (k := k) (by omega)
    rw [f_X11_earliest_25, if_neg (fun q => absurd ((iI_leN (by omega)).mp q) (by omega)), h.ro.site, c_startAt h, bd_some, ers]
    dsimp only [f_X11_earliest_61]
    rw [nI_1]
    by_cases c : x ≤ stA t k
    · rw [if_neg (fun q => absurd ((iI_lt (by omega)).mp q) (by omega)), c_isAllowed hN h hb hs, bd_some]
      by_cases c2 : why t w (tms w) b (stA t k) = 0
      · rw [decide_eq_true c2, bI_t, if_neg (by decide), if_pos ⟨c, c2⟩]
      · rw [decide_eq_false c2, bI_f, if_pos rfl, if_neg (fun q => c2 q.2), ih (k + 1) n (by omega) (by omega)]
    · rw [if_pos ((iI_lt (by omega)).mpr (by omega)), if_neg (fun q => c q.1), ih (k + 1) n (by omega) (by omega)]
theorem m_ers (hN : 2000 ≤ N) (hR : RO R s) (hT : TV t σ) (hV : WV w σ) (hO : TOk t) (hW : WOk t w) {b : Nat} (hb : (b : Int) < t 2) {x : Int} (hx : 0 ≤ x ∧ x ≤ 1439) : ∀ (m k n : Nat), k + m = nS t → m < n → f_X12_earliest_25 N R n σ 178 (nI b) (iI x) (nI k) = some (iI (ers t w b x k m), σ) := by
  have hS := nS_r hO
  intro m
  induction m with
  | zero =>
    intro k n hk hm
    obtain ⟨n, rfl⟩ : ∃ q, n = q + 1 := ⟨n - 1, by omega⟩
    rw [f_X12_earliest_25, m_starts hR hT hO, bd_some, if_pos ((iI_leN (by omega)).mpr (by omega))]
    rfl
  | succ m ih =>
    intro k n hk hm
    obtain ⟨n, rfl⟩ : ∃ q, n = q + 1 := ⟨n - 1, by omega⟩
    have hs := stA_r hO (k := k) (by omega)
    have hy := why_r t w (tms w) b (stA t k)
    rw [f_X12_earliest_25, m_starts hR hT hO, bd_some, if_neg (fun q => absurd ((iI_leN (by omega)).mp q) (by omega)), m_startAt hR hT, bd_some, ers]
    dsimp only [f_X12_earliest_61]
    rw [nI_1]
    by_cases c : x ≤ stA t k
    · rw [if_neg (fun q => absurd ((iI_lt (by omega)).mp q) (by omega)), m_startAt hR hT, bd_some, m_why hN hR hT hV hO hW hb hs, bd_some]
      by_cases c2 : why t w (tms w) b (stA t k) = 0
      · rw [if_pos (by rw [c2]; rfl), m_startAt hR hT, bd_some, if_pos ⟨c, c2⟩]
      · rw [if_neg (by rw [show (0 : Int32) = iI 0 from rfl, iI_eq (by omega)]; exact c2), if_neg (fun q => c2 q.2), ih (k + 1) n (by omega) (by omega)]
    · rw [if_pos ((iI_lt (by omega)).mpr (by omega)), if_neg (fun q => c q.1), ih (k + 1) n (by omega) (by omega)]
def lts (t w : Nat → Int) (b : Nat) (x : Int) : Nat → Int
  | 0 => -1
  | m + 1 => if stA t m ≤ x ∧ why t w (tms w) b (stA t m) = 0 then stA t m else lts t w b x m
theorem c_lts (hN : 2000 ≤ N) (h : Iv σ R s t w) {b : Nat} (hb : (b : Int) < t 2) {x : Int} (hx : 0 ≤ x ∧ x ≤ 1439) : ∀ (m n : Nat), m ≤ nS t → m < n → f_X11_latest_24 N R n σ 1 (nI b) (iI x) (iI ((m : Int) - 1)) = some (.inl (iI (lts t w b x m)), σ) := by
  have hO := h.tok
  have hS := nS_r hO
  intro m
  induction m with
  | zero =>
    intro n hk hm
    obtain ⟨n, rfl⟩ : ∃ q, n = q + 1 := ⟨n - 1, by omega⟩
    rw [f_X11_latest_24, if_pos (by decide)]
    rfl
  | succ m ih =>
    intro n hk hm
    obtain ⟨n, rfl⟩ : ∃ q, n = q + 1 := ⟨n - 1, by omega⟩
    have hs := stA_r hO (k := m) (by omega)
    have e : iI (((m + 1 : Nat) : Int) - 1) = nI m := by rw [iI_nat]; congr 1; omega
    have e2 : nI m + (-1) = iI ((m : Int) - 1) := by rw [iI_nat, show (-1 : Int32) = iI (-1) from rfl, iI_add]; rfl
    rw [f_X11_latest_24, e, if_neg (nI_pos (by omega)), h.ro.site, c_startAt h, bd_some, lts]
    dsimp only [f_X11_latest_57]
    rw [e2]
    by_cases c : stA t m ≤ x
    · rw [if_neg (fun q => absurd ((iI_lt (by omega)).mp q) (by omega)), c_isAllowed hN h hb hs, bd_some]
      by_cases c2 : why t w (tms w) b (stA t m) = 0
      · rw [decide_eq_true c2, bI_t, if_neg (by decide), if_pos ⟨c, c2⟩]
      · rw [decide_eq_false c2, bI_f, if_pos rfl, if_neg (fun q => c2 q.2), ih n (by omega) (by omega)]
    · rw [if_pos ((iI_lt (by omega)).mpr (by omega)), if_neg (fun q => c q.1), ih n (by omega) (by omega)]
theorem m_lts (hN : 2000 ≤ N) (hR : RO R s) (hT : TV t σ) (hV : WV w σ) (hO : TOk t) (hW : WOk t w) {b : Nat} (hb : (b : Int) < t 2) {x : Int} (hx : 0 ≤ x ∧ x ≤ 1439) : ∀ (m n : Nat), m ≤ nS t → m < n → f_X12_latest_30 N R n σ 178 (nI b) (iI x) (iI ((m : Int) - 1)) = some (iI (lts t w b x m), σ) := by
  have hS := nS_r hO
  intro m
  induction m with
  | zero =>
    intro n hk hm
    obtain ⟨n, rfl⟩ : ∃ q, n = q + 1 := ⟨n - 1, by omega⟩
    rw [f_X12_latest_30, if_pos (by decide)]
    rfl
  | succ m ih =>
    intro n hk hm
    obtain ⟨n, rfl⟩ : ∃ q, n = q + 1 := ⟨n - 1, by omega⟩
    have hs := stA_r hO (k := m) (by omega)
    have hy := why_r t w (tms w) b (stA t m)
    have e : iI (((m + 1 : Nat) : Int) - 1) = nI m := by rw [iI_nat]; congr 1; omega
    have e2 : nI m + (-1) = iI ((m : Int) - 1) := by rw [iI_nat, show (-1 : Int32) = iI (-1) from rfl, iI_add]; rfl
    rw [f_X12_latest_30, e, if_neg (nI_pos (by omega)), m_startAt hR hT, bd_some, lts]
    dsimp only [f_X12_latest_62]
    rw [e2]
    by_cases c : stA t m ≤ x
    · rw [if_neg (fun q => absurd ((iI_lt (by omega)).mp q) (by omega)), m_startAt hR hT, bd_some, m_why hN hR hT hV hO hW hb hs, bd_some]
      by_cases c2 : why t w (tms w) b (stA t m) = 0
      · rw [if_pos (by rw [c2]; rfl), m_startAt hR hT, bd_some, if_pos ⟨c, c2⟩]
      · rw [if_neg (by rw [show (0 : Int32) = iI 0 from rfl, iI_eq (by omega)]; exact c2), if_neg (fun q => c2 q.2), ih n (by omega) (by omega)]
    · rw [if_pos ((iI_lt (by omega)).mpr (by omega)), if_neg (fun q => c q.1), ih n (by omega) (by omega)]
def crS (t w : Nat → Int) (b : Nat) (r : Int) : Nat → Int → Int := fun k a => if why t w (tms w) b (stA t k) = r then a + 1 else a
theorem c_cr (hN : 2000 ≤ N) (h : Iv σ R s t w) {b : Nat} (hb : (b : Int) < t 2) {r : Int} (hr : 0 ≤ r ∧ r ≤ 5) : ∀ (m k n : Nat) (a : Int), k + m = nS t → m < n → f_X11_startsWithReason_14 N R n σ 1 (nI b) (iI r) (iI a) (iI (nS t)) (nI k) = some (iI (lp (crS t w b r) k m a), σ) := by
  have hO := h.tok
  have hS := nS_r hO
  intro m
  induction m with
  | zero =>
    intro k n a hk hm
    obtain ⟨n, rfl⟩ : ∃ q, n = q + 1 := ⟨n - 1, by omega⟩
    rw [f_X11_startsWithReason_14, if_pos ((iI_leN (by omega)).mpr (by omega))]
    rfl
  | succ m ih =>
    intro k n a hk hm
    obtain ⟨n, rfl⟩ : ∃ q, n = q + 1 := ⟨n - 1, by omega⟩
    have hs := stA_r hO (k := k) (by omega)
    have hy := why_r t w (tms w) b (stA t k)
    rw [f_X11_startsWithReason_14, if_neg (fun q => absurd ((iI_leN (by omega)).mp q) (by omega)), h.ro.site, c_startAt h, bd_some, c_reasonT hN h hb hs, bd_some, lp_s]
    dsimp only [f_X11_startsWithReason_52]
    rw [nI_1, show iI a + 1 = iI (a + 1) from by rw [show (1 : Int32) = iI 1 from rfl, iI_add]]
    unfold crS
    by_cases c : why t w (tms w) b (stA t k) = r
    · rw [if_pos (by rw [c]), if_pos c]
      exact ih (k + 1) n (a + 1) (by omega) (by omega)
    · rw [if_neg (by rw [iI_eq (by omega)]; exact c), if_neg c]
      exact ih (k + 1) n a (by omega) (by omega)
theorem m_cr (hN : 2000 ≤ N) (hR : RO R s) (hT : TV t σ) (hV : WV w σ) (hO : TOk t) (hW : WOk t w) {b : Nat} (hb : (b : Int) < t 2) {r : Int} (hr : 0 ≤ r ∧ r ≤ 5) : ∀ (m k n : Nat) (a : Int), k + m = nS t → m < n → f_X12_countOf_5 N R n σ 178 (nI b) (iI r) (iI a) (nI k) = some (iI (lp (crS t w b r) k m a), σ) := by
  have hS := nS_r hO
  intro m
  induction m with
  | zero =>
    intro k n a hk hm
    obtain ⟨n, rfl⟩ : ∃ q, n = q + 1 := ⟨n - 1, by omega⟩
    rw [f_X12_countOf_5, m_starts hR hT hO, bd_some, if_pos ((iI_leN (by omega)).mpr (by omega))]
    rfl
  | succ m ih =>
    intro k n a hk hm
    obtain ⟨n, rfl⟩ : ∃ q, n = q + 1 := ⟨n - 1, by omega⟩
    have hs := stA_r hO (k := k) (by omega)
    have hy := why_r t w (tms w) b (stA t k)
    rw [f_X12_countOf_5, m_starts hR hT hO, bd_some, if_neg (fun q => absurd ((iI_leN (by omega)).mp q) (by omega)), m_startAt hR hT, bd_some, m_why hN hR hT hV hO hW hb hs, bd_some, lp_s, nI_1, show iI a + 1 = iI (a + 1) from by rw [show (1 : Int32) = iI 1 from rfl, iI_add], show iI a + 0 = iI a from by rw [show (0 : Int32) = iI 0 from rfl, iI_add, Int.add_zero]]
    unfold crS
    by_cases c : why t w (tms w) b (stA t k) = r
    · rw [if_pos (by rw [c]), if_pos c]
      exact ih (k + 1) n (a + 1) (by omega) (by omega)
    · rw [if_neg (by rw [iI_eq (by omega)]; exact c), if_neg c]
      exact ih (k + 1) n a (by omega) (by omega)
/-- the longest run: the greatest, the present one -/
def lgS (t w : Nat → Int) (b : Nat) : Nat → Int × Int → Int × Int := fun k a => if why t w (tms w) b (stA t k) = 0 then (mx a.1 (a.2 + 1), a.2 + 1) else (mx a.1 0, 0)
theorem c_lg (hN : 2000 ≤ N) (h : Iv σ R s t w) {b : Nat} (hb : (b : Int) < t 2) : ∀ (m k n : Nat) (a : Int × Int), k + m = nS t → m < n → (0 ≤ a.1 ∧ a.1 ≤ 1440) ∧ (0 ≤ a.2 ∧ a.2 ≤ k) → f_X11_longestAllowed_21 N R n σ 1 (nI b) (iI a.1) (iI a.2) (iI (nS t)) (nI k) = some (.inl (iI (lp (lgS t w b) k m a).1), σ) := by
  have hO := h.tok
  have hS := nS_r hO
  intro m
  induction m with
  | zero =>
    intro k n a hk hm ha
    obtain ⟨n, rfl⟩ : ∃ q, n = q + 1 := ⟨n - 1, by omega⟩
    rw [f_X11_longestAllowed_21, if_pos ((iI_leN (by omega)).mpr (by omega))]
    rfl
  | succ m ih =>
    intro k n a hk hm ha
    obtain ⟨n, rfl⟩ : ∃ q, n = q + 1 := ⟨n - 1, by omega⟩
    have hs := stA_r hO (k := k) (by omega)
    rw [f_X11_longestAllowed_21, if_neg (fun q => absurd ((iI_leN (by omega)).mp q) (by omega)), h.ro.site, c_startAt h, bd_some, c_isAllowed hN h hb hs, bd_some, lp_s, nI_1, show iI a.2 + 1 = iI (a.2 + 1) from by rw [show (1 : Int32) = iI 1 from rfl, iI_add], show (0 : Int32) = iI 0 from rfl, iI_maxR (by omega), iI_maxR (by omega)]
    unfold lgS
    by_cases c : why t w (tms w) b (stA t k) = 0
    · rw [decide_eq_true c, bI_t, if_neg (by decide), if_pos c]
      exact ih (k + 1) n (mx a.1 (a.2 + 1), a.2 + 1) (by omega) (by omega) (by unfold mx; refine ⟨?_, by dsimp only; omega⟩; dsimp only; split <;> omega)
    · rw [decide_eq_false c, bI_f, if_pos (show (0 : Int32) = iI 0 from rfl), if_neg c]
      exact ih (k + 1) n (mx a.1 0, 0) (by omega) (by omega) (by unfold mx; refine ⟨?_, by dsimp only; omega⟩; dsimp only; split <;> omega)
theorem m_lg (hN : 2000 ≤ N) (hR : RO R s) (hT : TV t σ) (hV : WV w σ) (hO : TOk t) (hW : WOk t w) {b : Nat} (hb : (b : Int) < t 2) : ∀ (m k n : Nat) (a : Int × Int), k + m = nS t → m < n → (0 ≤ a.1 ∧ a.1 ≤ 1440) ∧ (0 ≤ a.2 ∧ a.2 ≤ k) → f_X12_longestAllowed_22 N R n σ 178 (nI b) (iI a.2) (iI a.1) (nI k) = some (iI (lp (lgS t w b) k m a).1, σ) := by
  have hS := nS_r hO
  intro m
  induction m with
  | zero =>
    intro k n a hk hm ha
    obtain ⟨n, rfl⟩ : ∃ q, n = q + 1 := ⟨n - 1, by omega⟩
    rw [f_X12_longestAllowed_22, m_starts hR hT hO, bd_some, if_pos ((iI_leN (by omega)).mpr (by omega))]
    rfl
  | succ m ih =>
    intro k n a hk hm ha
    obtain ⟨n, rfl⟩ : ∃ q, n = q + 1 := ⟨n - 1, by omega⟩
    have hs := stA_r hO (k := k) (by omega)
    have hy := why_r t w (tms w) b (stA t k)
    rw [f_X12_longestAllowed_22, m_starts hR hT hO, bd_some, if_neg (fun q => absurd ((iI_leN (by omega)).mp q) (by omega)), m_startAt hR hT, bd_some, m_why hN hR hT hV hO hW hb hs, bd_some, lp_s, nI_1, show iI a.2 + 1 = iI (a.2 + 1) from by rw [show (1 : Int32) = iI 1 from rfl, iI_add], show (0 : Int32) = iI 0 from rfl, iI_maxR (by omega), iI_maxR (by omega)]
    unfold lgS
    by_cases c : why t w (tms w) b (stA t k) = 0
    · rw [if_pos (by rw [c]), if_pos c]
      exact ih (k + 1) n (mx a.1 (a.2 + 1), a.2 + 1) (by omega) (by omega) (by unfold mx; refine ⟨?_, by dsimp only; omega⟩; dsimp only; split <;> omega)
    · rw [if_neg (by rw [iI_eq (by omega)]; exact c), if_neg c]
      exact ih (k + 1) n (mx a.1 0, 0) (by omega) (by omega) (by unfold mx; refine ⟨?_, by dsimp only; omega⟩; dsimp only; split <;> omega)
end WHY

theorem ag_30 {N : Nat} (hN : 2000 ≤ N) : Ag_30 N Inv := by
  intro σ R a1 a2 hI
  obtain ⟨s, t, w, h⟩ := hI
  have hR := h.ro
  have hO := h.tok
  have hT := h.tv
  have hW := h.wv
  have q1 : Same σ (up σ 178 0 0) := same_up (by unfold Sc; omega)
  have hT1 := hT.same q1
  have hW1 := hW.same q1
  have h1 := h.same q1
  by_cases c1 : 0 ≤ a1.toInt ∧ a1.toInt < t 2
  rotate_left
  · refine ⟨.inr 0, σ, 0, up (up σ 178 0 0) 178 0 1, ?_, ?_, ⟨s, t, w, h1.same (same_up (by unfold Sc; omega))⟩, fun v e => (by cases e), fun q e => (by cases e; first | exact ⟨rfl, up_th⟩ | exact Or.inl ⟨rfl, up_th⟩ | exact Or.inr ⟨rfl, up_th⟩ | exact Or.inr (Or.inl ⟨rfl, up_th⟩) | exact Or.inr (Or.inr ⟨rfl, up_th⟩))⟩
    · unfold f_X11_reason
      rw [c_nd_bad h c1, bdX_inr]
    · unfold f_X12_reason
      rw [sq_eq, m_bl_bad hR hT1 hO c1, bd_some, if_neg (by decide)]
      try rfl
  obtain ⟨b, rfl, e1⟩ := i32_nI (by omega) c1.2
  have l1 : (b : Int) < t 2 := by omega
  by_cases c2 : 0 ≤ a2.toInt ∧ a2.toInt ≤ 1439
  rotate_left
  · refine ⟨.inr 1, σ, 0, up (up σ 178 0 0) 178 0 2, ?_, ?_, ⟨s, t, w, h1.same (same_up (by unfold Sc; omega))⟩, fun v e => (by cases e), fun q e => (by cases e; first | exact ⟨rfl, up_th⟩ | exact Or.inl ⟨rfl, up_th⟩ | exact Or.inr ⟨rfl, up_th⟩ | exact Or.inr (Or.inl ⟨rfl, up_th⟩) | exact Or.inr (Or.inr ⟨rfl, up_th⟩))⟩
    · unfold f_X11_reason
      rw [c_nd_ok h l1, bdX_inl, c_needRange, if_neg (show ¬ ((0 : Int32).toInt ≤ a2.toInt ∧ a2.toInt ≤ (1439 : Int32).toInt) from c2), bdX_inr]
    · unfold f_X12_reason
      rw [sq_eq, m_bl_ok hR hT1 hO l1, bd_some, if_pos rfl, m_noMinute, if_neg c2, bd_some, if_neg (by decide)]
      try rfl
  obtain ⟨x, rfl, e2⟩ := i32_nI (x := a2) (n := 1440) (by omega) (by omega)
  have l2 : (x : Int) < 1440 := by omega
  refine ⟨.inl (iI (why t w (tms w) b (x : Int))), σ, iI (why t w (tms w) b (x : Int)), up σ 178 0 0, ?_, ?_, ⟨s, t, w, h1⟩, fun v e => (by cases e; exact ⟨by first | exact up_th | (simp only [up_th]), rfl⟩), fun q e => (by cases e)⟩
  · unfold f_X11_reason
    rw [c_nd_ok h l1, bdX_inl, c_needRange, if_pos (show (0 : Int32).toInt ≤ Int32.toInt (nI x) ∧ Int32.toInt (nI x) ≤ (1439 : Int32).toInt from c2), bdX_inl]
    rw [hR.site, iI_nat x, c_reasonT hN h l1 (by omega), bd_some]
  · unfold f_X12_reason
    rw [sq_eq, m_bl_ok hR hT1 hO l1, bd_some, if_pos rfl, m_noMinute, if_pos c2, bd_some, if_pos rfl]
    rw [iI_nat x, m_why hN hR hT1 hW1 hO h.wok l1 (by omega), bd_some]
theorem ag_31 {N : Nat} (hN : 2000 ≤ N) : Ag_31 N Inv := by
  intro σ R a1 a2 hI
  obtain ⟨s, t, w, h⟩ := hI
  have hR := h.ro
  have hO := h.tok
  have hT := h.tv
  have hW := h.wv
  have q1 : Same σ (up σ 178 0 0) := same_up (by unfold Sc; omega)
  have hT1 := hT.same q1
  have hW1 := hW.same q1
  have h1 := h.same q1
  by_cases c1 : 0 ≤ a1.toInt ∧ a1.toInt < t 2
  rotate_left
  · refine ⟨.inr 0, σ, 0, up (up σ 178 0 0) 178 0 1, ?_, ?_, ⟨s, t, w, h1.same (same_up (by unfold Sc; omega))⟩, fun v e => (by cases e), fun q e => (by cases e; first | exact ⟨rfl, up_th⟩ | exact Or.inl ⟨rfl, up_th⟩ | exact Or.inr ⟨rfl, up_th⟩ | exact Or.inr (Or.inl ⟨rfl, up_th⟩) | exact Or.inr (Or.inr ⟨rfl, up_th⟩))⟩
    · unfold f_X11_earliest
      rw [c_nd_bad h c1, bdX_inr]
    · unfold f_X12_earliest
      rw [sq_eq, m_bl_bad hR hT1 hO c1, bd_some, if_neg (by decide)]
      try rfl
  obtain ⟨b, rfl, e1⟩ := i32_nI (by omega) c1.2
  have l1 : (b : Int) < t 2 := by omega
  by_cases c2 : 0 ≤ a2.toInt ∧ a2.toInt ≤ 1439
  rotate_left
  · refine ⟨.inr 1, σ, 0, up (up σ 178 0 0) 178 0 2, ?_, ?_, ⟨s, t, w, h1.same (same_up (by unfold Sc; omega))⟩, fun v e => (by cases e), fun q e => (by cases e; first | exact ⟨rfl, up_th⟩ | exact Or.inl ⟨rfl, up_th⟩ | exact Or.inr ⟨rfl, up_th⟩ | exact Or.inr (Or.inl ⟨rfl, up_th⟩) | exact Or.inr (Or.inr ⟨rfl, up_th⟩))⟩
    · unfold f_X11_earliest
      rw [c_nd_ok h l1, bdX_inl, c_needRange, if_neg (show ¬ ((0 : Int32).toInt ≤ a2.toInt ∧ a2.toInt ≤ (1439 : Int32).toInt) from c2), bdX_inr]
    · unfold f_X12_earliest
      rw [sq_eq, m_bl_ok hR hT1 hO l1, bd_some, if_pos rfl, m_noMinute, if_neg c2, bd_some, if_neg (by decide)]
      try rfl
  obtain ⟨x, rfl, e2⟩ := i32_nI (x := a2) (n := 1440) (by omega) (by omega)
  have l2 : (x : Int) < 1440 := by omega
  refine ⟨.inl (iI (ers t w b (x : Int) 0 (nS t))), σ, iI (ers t w b (x : Int) 0 (nS t)), up σ 178 0 0, ?_, ?_, ⟨s, t, w, h1⟩, fun v e => (by cases e; exact ⟨by first | exact up_th | (simp only [up_th]), rfl⟩), fun q e => (by cases e)⟩
  · unfold f_X11_earliest
    rw [c_nd_ok h l1, bdX_inl, c_needRange, if_pos (show (0 : Int32).toInt ≤ Int32.toInt (nI x) ∧ Int32.toInt (nI x) ≤ (1439 : Int32).toInt from c2), bdX_inl]
    rw [hR.site, c_startTotal h, bd_some, iI_nat x]
    exact c_ers hN h l1 (by omega) (nS t) 0 N (by omega) (by have := nS_r hO; omega)
  · unfold f_X12_earliest
    rw [sq_eq, m_bl_ok hR hT1 hO l1, bd_some, if_pos rfl, m_noMinute, if_pos c2, bd_some, if_pos rfl]
    rw [iI_nat x]
    exact m_ers hN hR hT1 hW1 hO h.wok l1 (by omega) (nS t) 0 N (by omega) (by have := nS_r hO; omega)
theorem ag_32 {N : Nat} (hN : 2000 ≤ N) : Ag_32 N Inv := by
  intro σ R a1 a2 hI
  obtain ⟨s, t, w, h⟩ := hI
  have hR := h.ro
  have hO := h.tok
  have hT := h.tv
  have hW := h.wv
  have q1 : Same σ (up σ 178 0 0) := same_up (by unfold Sc; omega)
  have hT1 := hT.same q1
  have hW1 := hW.same q1
  have h1 := h.same q1
  by_cases c1 : 0 ≤ a1.toInt ∧ a1.toInt < t 2
  rotate_left
  · refine ⟨.inr 0, σ, 0, up (up σ 178 0 0) 178 0 1, ?_, ?_, ⟨s, t, w, h1.same (same_up (by unfold Sc; omega))⟩, fun v e => (by cases e), fun q e => (by cases e; first | exact ⟨rfl, up_th⟩ | exact Or.inl ⟨rfl, up_th⟩ | exact Or.inr ⟨rfl, up_th⟩ | exact Or.inr (Or.inl ⟨rfl, up_th⟩) | exact Or.inr (Or.inr ⟨rfl, up_th⟩))⟩
    · unfold f_X11_latest
      rw [c_nd_bad h c1, bdX_inr]
    · unfold f_X12_latest
      rw [sq_eq, m_bl_bad hR hT1 hO c1, bd_some, if_neg (by decide)]
      try rfl
  obtain ⟨b, rfl, e1⟩ := i32_nI (by omega) c1.2
  have l1 : (b : Int) < t 2 := by omega
  by_cases c2 : 0 ≤ a2.toInt ∧ a2.toInt ≤ 1439
  rotate_left
  · refine ⟨.inr 1, σ, 0, up (up σ 178 0 0) 178 0 2, ?_, ?_, ⟨s, t, w, h1.same (same_up (by unfold Sc; omega))⟩, fun v e => (by cases e), fun q e => (by cases e; first | exact ⟨rfl, up_th⟩ | exact Or.inl ⟨rfl, up_th⟩ | exact Or.inr ⟨rfl, up_th⟩ | exact Or.inr (Or.inl ⟨rfl, up_th⟩) | exact Or.inr (Or.inr ⟨rfl, up_th⟩))⟩
    · unfold f_X11_latest
      rw [c_nd_ok h l1, bdX_inl, c_needRange, if_neg (show ¬ ((0 : Int32).toInt ≤ a2.toInt ∧ a2.toInt ≤ (1439 : Int32).toInt) from c2), bdX_inr]
    · unfold f_X12_latest
      rw [sq_eq, m_bl_ok hR hT1 hO l1, bd_some, if_pos rfl, m_noMinute, if_neg c2, bd_some, if_neg (by decide)]
      try rfl
  obtain ⟨x, rfl, e2⟩ := i32_nI (x := a2) (n := 1440) (by omega) (by omega)
  have l2 : (x : Int) < 1440 := by omega
  refine ⟨.inl (iI (lts t w b (x : Int) (nS t))), σ, iI (lts t w b (x : Int) (nS t)), up σ 178 0 0, ?_, ?_, ⟨s, t, w, h1⟩, fun v e => (by cases e; exact ⟨by first | exact up_th | (simp only [up_th]), rfl⟩), fun q e => (by cases e)⟩
  · unfold f_X11_latest
    rw [c_nd_ok h l1, bdX_inl, c_needRange, if_pos (show (0 : Int32).toInt ≤ Int32.toInt (nI x) ∧ Int32.toInt (nI x) ≤ (1439 : Int32).toInt from c2), bdX_inl]
    rw [hR.site, c_startTotal h, bd_some, iI_nat x, show (1 : Int32) = iI 1 from rfl, iI_sub]
    exact c_lts hN h l1 (by omega) (nS t) N (by omega) (by have := nS_r hO; omega)
  · unfold f_X12_latest
    rw [sq_eq, m_bl_ok hR hT1 hO l1, bd_some, if_pos rfl, m_noMinute, if_pos c2, bd_some, if_pos rfl]
    rw [m_starts hR hT1 hO, bd_some, iI_nat x, show (1 : Int32) = iI 1 from rfl, iI_sub]
    exact m_lts hN hR hT1 hW1 hO h.wok l1 (by omega) (nS t) N (by omega) (by have := nS_r hO; omega)
theorem ag_33 {N : Nat} (hN : 2000 ≤ N) : Ag_33 N Inv := by
  intro σ R a1 a2 hI
  obtain ⟨s, t, w, h⟩ := hI
  have hR := h.ro
  have hO := h.tok
  have hT := h.tv
  have hW := h.wv
  have q1 : Same σ (up σ 178 0 0) := same_up (by unfold Sc; omega)
  have hT1 := hT.same q1
  have hW1 := hW.same q1
  have h1 := h.same q1
  by_cases c1 : 0 ≤ a1.toInt ∧ a1.toInt < t 2
  rotate_left
  · refine ⟨.inr 0, σ, 0, up (up σ 178 0 0) 178 0 1, ?_, ?_, ⟨s, t, w, h1.same (same_up (by unfold Sc; omega))⟩, fun v e => (by cases e), fun q e => (by cases e; first | exact ⟨rfl, up_th⟩ | exact Or.inl ⟨rfl, up_th⟩ | exact Or.inr ⟨rfl, up_th⟩ | exact Or.inr (Or.inl ⟨rfl, up_th⟩) | exact Or.inr (Or.inr ⟨rfl, up_th⟩))⟩
    · unfold f_X11_reasonCount
      rw [c_nd_bad h c1, bdX_inr]
    · unfold f_X12_reasonCount
      rw [sq_eq, m_bl_bad hR hT1 hO c1, bd_some, if_neg (by decide)]
      try rfl
  obtain ⟨b, rfl, e1⟩ := i32_nI (by omega) c1.2
  have l1 : (b : Int) < t 2 := by omega
  by_cases c2 : 0 ≤ a2.toInt ∧ a2.toInt ≤ 5
  rotate_left
  · refine ⟨.inr 1, σ, 0, up (up σ 178 0 0) 178 0 2, ?_, ?_, ⟨s, t, w, h1.same (same_up (by unfold Sc; omega))⟩, fun v e => (by cases e), fun q e => (by cases e; first | exact ⟨rfl, up_th⟩ | exact Or.inl ⟨rfl, up_th⟩ | exact Or.inr ⟨rfl, up_th⟩ | exact Or.inr (Or.inl ⟨rfl, up_th⟩) | exact Or.inr (Or.inr ⟨rfl, up_th⟩))⟩
    · unfold f_X11_reasonCount
      rw [c_nd_ok h l1, bdX_inl, c_needRange, if_neg (show ¬ ((0 : Int32).toInt ≤ a2.toInt ∧ a2.toInt ≤ (5 : Int32).toInt) from c2), bdX_inr]
    · unfold f_X12_reasonCount
      rw [sq_eq, m_bl_ok hR hT1 hO l1, bd_some, if_pos rfl, m_in, bd_some, decide_eq_false (show ¬ ((0 : Int32).toInt ≤ a2.toInt ∧ a2.toInt ≤ (5 : Int32).toInt) from c2), bI_f, if_pos rfl, m_throws1, bd_some, if_neg (by decide)]
      try rfl
  obtain ⟨r, rfl, e2⟩ := i32_nI (x := a2) (n := 6) (by omega) (by omega)
  have l2 : (r : Int) < 6 := by omega
  refine ⟨.inl (iI (lp (crS t w b (r : Int)) 0 (nS t) 0)), σ, iI (lp (crS t w b (r : Int)) 0 (nS t) 0), up σ 178 0 0, ?_, ?_, ⟨s, t, w, h1⟩, fun v e => (by cases e; exact ⟨by first | exact up_th | (simp only [up_th]), rfl⟩), fun q e => (by cases e)⟩
  · unfold f_X11_reasonCount
    rw [c_nd_ok h l1, bdX_inl, c_needRange, if_pos (show (0 : Int32).toInt ≤ Int32.toInt (nI r) ∧ Int32.toInt (nI r) ≤ (5 : Int32).toInt from c2), bdX_inl]
    unfold f_X11_startsWithReason
    rw [hR.site, c_startTotal h, bd_some, iI_nat r]
    have e := c_cr hN h l1 (r := (r : Int)) (by omega) (nS t) 0 N 0 (by omega) (by have := nS_r hO; omega)
    rw [show (nI 0) = iI 0 from rfl] at e
    rw [show (0 : Int32) = iI 0 from rfl, e, bd_some]
  · unfold f_X12_reasonCount
    rw [sq_eq, m_bl_ok hR hT1 hO l1, bd_some, if_pos rfl, m_in, bd_some, decide_eq_true (show (0 : Int32).toInt ≤ Int32.toInt (nI r) ∧ Int32.toInt (nI r) ≤ (5 : Int32).toInt from c2), bI_t, if_neg (by decide), m_throws0, bd_some, if_pos rfl]
    unfold f_X12_countOf
    have e : f_X12_countOf_5 N R N (up σ 178 0 0) 178 (nI b) (iI (r : Int)) 0 0 = some (iI (lp (crS t w b (r : Int)) 0 (nS t) 0), up σ 178 0 0) := m_cr hN hR hT1 hW1 hO h.wok l1 (r := (r : Int)) (by omega) (nS t) 0 N 0 (by omega) (by have := nS_r hO; omega)
    rw [iI_nat r, e, bd_some]
theorem ag_34 {N : Nat} (hN : 2000 ≤ N) : Ag_34 N Inv := by
  intro σ R a1 hI
  obtain ⟨s, t, w, h⟩ := hI
  have hR := h.ro
  have hO := h.tok
  have hT := h.tv
  have hW := h.wv
  have q1 : Same σ (up σ 178 0 0) := same_up (by unfold Sc; omega)
  have hT1 := hT.same q1
  have hW1 := hW.same q1
  have h1 := h.same q1
  by_cases c1 : 0 ≤ a1.toInt ∧ a1.toInt < t 2
  rotate_left
  · refine ⟨.inr 0, σ, 0, up (up σ 178 0 0) 178 0 1, ?_, ?_, ⟨s, t, w, h1.same (same_up (by unfold Sc; omega))⟩, fun v e => (by cases e), fun q e => (by cases e; first | exact ⟨rfl, up_th⟩ | exact Or.inl ⟨rfl, up_th⟩ | exact Or.inr ⟨rfl, up_th⟩ | exact Or.inr (Or.inl ⟨rfl, up_th⟩) | exact Or.inr (Or.inr ⟨rfl, up_th⟩))⟩
    · unfold f_X11_longestAllowed
      rw [c_nd_bad h c1, bdX_inr]
    · unfold f_X12_longestAllowed
      rw [sq_eq, m_bl_bad hR hT1 hO c1, bd_some, if_neg (by decide)]
      try rfl
  obtain ⟨b, rfl, e1⟩ := i32_nI (by omega) c1.2
  have l1 : (b : Int) < t 2 := by omega
  refine ⟨.inl (iI (lp (lgS t w b) 0 (nS t) (0, 0)).1), σ, iI (lp (lgS t w b) 0 (nS t) (0, 0)).1, up σ 178 0 0, ?_, ?_, ⟨s, t, w, h1⟩, fun v e => (by cases e; exact ⟨by first | exact up_th | (simp only [up_th]), rfl⟩), fun q e => (by cases e)⟩
  · unfold f_X11_longestAllowed
    rw [c_nd_ok h l1, bdX_inl]
    rw [hR.site, c_startTotal h, bd_some]
    exact c_lg hN h l1 (nS t) 0 N (0, 0) (by omega) (by have := nS_r hO; omega) (by dsimp only; omega)
  · unfold f_X12_longestAllowed
    rw [sq_eq, m_bl_ok hR hT1 hO l1, bd_some, if_pos rfl]
    exact m_lg hN hR hT1 hW1 hO h.wok l1 (nS t) 0 N (0, 0) (by omega) (by have := nS_r hO; omega) (by dsimp only; omega)
theorem ag_35 {N : Nat} (hN : 2000 ≤ N) : Ag_35 N Inv := by
  intro σ R a1 hI
  obtain ⟨s, t, w, h⟩ := hI
  have hR := h.ro
  have hO := h.tok
  have hT := h.tv
  have hW := h.wv
  have q1 : Same σ (up σ 178 0 0) := same_up (by unfold Sc; omega)
  have hT1 := hT.same q1
  have hW1 := hW.same q1
  have h1 := h.same q1
  by_cases c1 : 0 ≤ a1.toInt ∧ a1.toInt < t 2
  rotate_left
  · refine ⟨.inr 0, σ, 0, up (up σ 178 0 0) 178 0 1, ?_, ?_, ⟨s, t, w, h1.same (same_up (by unfold Sc; omega))⟩, fun v e => (by cases e), fun q e => (by cases e; first | exact ⟨rfl, up_th⟩ | exact Or.inl ⟨rfl, up_th⟩ | exact Or.inr ⟨rfl, up_th⟩ | exact Or.inr (Or.inl ⟨rfl, up_th⟩) | exact Or.inr (Or.inr ⟨rfl, up_th⟩))⟩
    · unfold f_X11_allowedCount
      rw [c_nd_bad h c1, bdX_inr]
    · unfold f_X12_allowedCount
      rw [sq_eq, m_bl_bad hR hT1 hO c1, bd_some, if_neg (by decide)]
      try rfl
  obtain ⟨b, rfl, e1⟩ := i32_nI (by omega) c1.2
  have l1 : (b : Int) < t 2 := by omega
  refine ⟨.inl (iI (lp (crS t w b 0) 0 (nS t) 0)), σ, iI (lp (crS t w b 0) 0 (nS t) 0), up σ 178 0 0, ?_, ?_, ⟨s, t, w, h1⟩, fun v e => (by cases e; exact ⟨by first | exact up_th | (simp only [up_th]), rfl⟩), fun q e => (by cases e)⟩
  · unfold f_X11_allowedCount
    rw [c_nd_ok h l1, bdX_inl]
    unfold f_X11_startsWithReason
    rw [hR.site, c_startTotal h, bd_some]
    have e := c_cr hN h l1 (r := 0) (by omega) (nS t) 0 N 0 (by omega) (by have := nS_r hO; omega)
    rw [show (nI 0) = iI 0 from rfl] at e
    rw [show (0 : Int32) = iI 0 from rfl, e, bd_some]
  · unfold f_X12_allowedCount
    rw [sq_eq, m_bl_ok hR hT1 hO l1, bd_some, if_pos rfl]
    unfold f_X12_countOf
    have e : f_X12_countOf_5 N R N (up σ 178 0 0) 178 (nI b) 0 0 0 = some (iI (lp (crS t w b 0) 0 (nS t) 0), up σ 178 0 0) := m_cr hN hR hT1 hW1 hO h.wok l1 (r := 0) (by omega) (nS t) 0 N 0 (by omega) (by have := nS_r hO; omega)
    rw [e, bd_some]
