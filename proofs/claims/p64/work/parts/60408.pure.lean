/-! ===== reasons, start minutes ===== -/
theorem iI_abs {z : Int} (h : -2147483647 ≤ z ∧ z ≤ 2147483647) : (if 0 ≤ iI z then iI z else 0 - iI z) = iI (if z < 0 then -z else z) := by
  have g := iI_le (a := 0) (b := z) (by omega)
  rw [show (0 : Int32) = iI 0 from rfl]
  by_cases c : z < 0
  · rw [if_neg (fun q => by have := g.mp q; omega), if_pos c, iI_sub, Int.zero_sub]
  · rw [if_pos (g.mpr (by omega)), if_neg c]
theorem anyN_s (p : Nat → Bool) (k m : Nat) : anyN p k (m + 1) = (p k || anyN p (k + 1) m) := rfl
section WHY
variable {N : Nat} {R : Nat → Nat → Nat} {s : Nat} {t w : Nat → Int} {σ : SI}
def dsp (t : Nat → Int) (b : Nat) (m : Int) : Nat → Bool := fun n => still t n m && heard t b n
theorem heard_r (hO : TOk t) {b : Nat} (hb : (b : Int) < t 2) : 0 ≤ (3 * t (285 + 22 * b + 8)) * (3 * t (285 + 22 * b + 8)) ∧ (3 * t (285 + 22 * b + 8)) * (3 * t (285 + 22 * b + 8)) ≤ 2250000 := by
  have h := (hO.b hb).2.2.1
  have h1 := mul_c (a := 3 * t (285 + 22 * b + 8)) (b := 3 * t (285 + 22 * b + 8)) (A := 1500) (B := 1500) (C := 2250000) (by omega) (by omega) rfl
  exact ⟨sq_0 _, h1.2⟩
def crp (t tm : Nat → Int) (b : Nat) (m : Int) : Nat → Bool := fun o => decide (o ≠ b ∧ tm o ≠ -1 ∧ (if tm o - m < 0 then -(tm o - m) else tm o - m) < t 8)
theorem abs_r {z : Int} (h : -1440 ≤ z ∧ z ≤ 1440) : 0 ≤ (if z < 0 then -z else z) ∧ (if z < 0 then -z else z) ≤ 1440 := by split <;> omega
/-! the class's -/
theorem c_quietFor (hN : 2000 ≤ N) (h : Iv σ R s t w) {b : Nat} (hb : (b : Int) < t 2) {x : Int} (hx : 0 ≤ x ∧ x ≤ 1439) : ∀ (m k n : Nat), k + m = nN t → m < n → f_X9_quietFor_2 N R n σ s (s + 40 + 5 * b) (iI x) (nI k) = some (bI (anyN (dsp t b x) k m), σ) := by
  have hO := h.tok
  have hn := nN_c hO
  intro m
  induction m with
  | zero =>
    intro k n hk hm
    obtain ⟨n, rfl⟩ : ∃ q, n = q + 1 := ⟨n - 1, by omega⟩
    rw [f_X9_quietFor_2, h.cq.1.1, if_pos ((iI_leN (by omega)).mpr (by omega))]
    rfl
  | succ m ih =>
    intro k n hk hm
    obtain ⟨n, rfl⟩ : ∃ q, n = q + 1 := ⟨n - 1, by omega⟩
    rw [f_X9_quietFor_2, h.cq.1.1, if_neg (fun q => absurd ((iI_leN (by omega)).mp q) (by omega)), (h.cd b hb).2.1, bts_bit _ hn.2 (by omega), anyN_s]
    dsimp only [f_X9_quietFor_36]
    rw [nI_1]
    unfold dsp
    cases heard t b k
    · rw [bI_f, if_pos rfl, ih (k + 1) n (by omega) (by omega), Bool.and_false, Bool.false_or]
      rfl
    · rw [bI_t, if_neg (by decide), ck_nI (by omega) (by decide), h.ro.si 0 (by decide), Nat.add_zero, h.ro.nb _ (by rw [nI_clamp (by omega)]; omega), nI_clamp (by omega), c_quietAt hN h (by omega) (by omega), bd_some]
      cases still t k x
      · rw [bI_f, if_pos rfl, ih (k + 1) n (by omega) (by omega), Bool.false_and, Bool.false_or]
        rfl
      · rw [bI_t, if_neg (by decide)]
        rfl
theorem c_crowded (h : Iv σ R s t w) {b tc : Nat} (hb : (b : Int) < t 2) {tm : Nat → Int} (htm : ∀ o : Nat, (o : Int) < t 2 → σ tc o = iI (tm o) ∧ -1 ≤ tm o ∧ tm o ≤ 1439) {x : Int} (hx : 0 ≤ x ∧ x ≤ 1439) : ∀ (m k n : Nat), k + m = nB t → m < n → f_X9_crowded_3 N R n σ s (nI b) (iI x) tc (nI k) = some (bI (anyN (crp t tm b x) k m), σ) := by
  have hO := h.tok
  have hn := nB_c hO
  have h8 := hO.2.2.2.2.2.2.2.1
  intro m
  induction m with
  | zero =>
    intro k n hk hm
    obtain ⟨n, rfl⟩ : ∃ q, n = q + 1 := ⟨n - 1, by omega⟩
    rw [f_X9_crowded_3, h.cq.1.2.2.1, if_pos ((iI_leN (by omega)).mpr (by omega))]
    rfl
  | succ m ih =>
    intro k n hk hm
    obtain ⟨n, rfl⟩ : ∃ q, n = q + 1 := ⟨n - 1, by omega⟩
    obtain ⟨e, hw⟩ := htm k (by omega)
    rw [f_X9_crowded_3, h.cq.1.2.2.1, if_neg (fun q => absurd ((iI_leN (by omega)).mp q) (by omega)), anyN_s]
    dsimp only [f_X9_crowded_44]
    rw [nI_1]
    unfold crp
    by_cases c : k = b
    · rw [if_pos (by rw [c]), ih (k + 1) n (by omega) (by omega), decide_eq_false (by omega), Bool.false_or]
      rfl
    · rw [if_neg (by rw [nI_eq (by omega) (by omega)]; exact c), ck_nI (by omega) (by decide), ck_nI (by omega) (by decide), nI_clamp (by omega), e]
      by_cases c2 : tm k = -1
      · rw [if_pos (by rw [c2]; rfl), ih (k + 1) n (by omega) (by omega), decide_eq_false (by omega), Bool.false_or]
        rfl
      · have hab := abs_r (z := tm k - x) (by omega)
        rw [if_neg (by rw [show (-1 : Int32) = iI (-1) from rfl, iI_eq (by omega)]; exact c2), h.cq.1.2.2.2.2.2.2.2.2, iI_sub, iI_abs (by omega)]
        by_cases c3 : t 8 ≤ (if tm k - x < 0 then -(tm k - x) else tm k - x)
        · rw [if_pos ((iI_le (by omega)).mpr c3), ih (k + 1) n (by omega) (by omega), decide_eq_false (by omega), Bool.false_or]
          rfl
        · rw [if_neg (fun q => c3 ((iI_le (by omega)).mp q)), decide_eq_true ⟨c, c2, by omega⟩, Bool.true_or]
          rfl
theorem c_reason (hN : 2000 ≤ N) (h : Iv σ R s t w) {b tc : Nat} (hb : (b : Int) < t 2) {tm : Nat → Int} (htm : ∀ o : Nat, (o : Int) < t 2 → σ tc o = iI (tm o) ∧ -1 ≤ tm o ∧ tm o ≤ 1439) {x : Int} (hx : 0 ≤ x ∧ x ≤ 1439) : f_X9_reasonAgainst N R σ s (nI b) (iI x) tc = some (iI (why t w tm b x), σ) := by
  have hO := h.tok
  have hn := nN_c hO
  have hnb := nB_c hO
  have h2 := hO.2.2.1
  have h3 := hO.2.2.2.1
  unfold f_X9_reasonAgainst why
  rw [h.cq.1.2.2.2.1, h.cq.1.2.2.2.2.1]
  by_cases c1 : x < t 3
  · rw [if_pos ((iI_lt (by omega)).mpr c1), if_pos (Or.inl c1)]
    rfl
  · rw [if_neg (fun q => c1 ((iI_lt (by omega)).mp q))]
    by_cases c2 : x ≤ t 4
    · rw [if_pos ((iI_le (by omega)).mpr c2), if_neg (show ¬ (x < t 3 ∨ t 4 < x) by omega), ck_nI (by omega) (by decide), nI_clamp (by omega), h.ro.si 2 (by decide), show s + 1 + 2 = s + 3 by omega, h.ro.bl b (by omega), (h.cw b hb).2.2]
      by_cases c3 : bts (tst t w b) 0 (nN t) 0 = 0
      · rw [if_pos c3, if_neg (by rw [(bts_zero _ hn.2).mp c3]; decide)]
        have e2 := c_quietFor hN h hb hx (nN t) 0 N (by omega) (by omega)
        unfold f_X9_quietFor
        rw [l_0, e2, bd_some]
        rw [show anyN (fun n => still t n x && heard t b n) 0 (nN t) = anyN (dsp t b x) 0 (nN t) from rfl]
        cases anyN (dsp t b x) 0 (nN t)
        · have e60 : iI x / (60 : Int32) = nI (x / 60).toNat := by
            rw [show (60 : Int32) = iI 60 from rfl, iI_div (by omega) (by omega), iI_nat]
            congr 1
            omega
          rw [bI_f, if_pos (show (0 : Int32) = nI 0 from rfl), if_neg (show ¬ (false = true) by decide), e60, ck_nI (by omega) (by decide), h.ro.blA b (by omega) 3 (by decide), nI_clamp (by omega), show s + 41 + 5 * b + 3 = s + 44 + 5 * b by omega, (h.cd b hb).2.2.2 _ (by omega)]
          by_cases c4 : bts (isD t b (x / 60).toNat) 0 (nN t) 0 = 0
          · rw [if_pos (show bts (isD t b (x / 60).toNat) 0 (nN t) 0 = nI 0 from c4), if_neg (by rw [(bts_zero _ hn.2).mp c4]; decide)]
            have e3 := c_crowded (N := N) h hb htm hx (nB t) 0 N (by omega) (by omega)
            unfold f_X9_crowded
            rw [l_0, e3, bd_some]
            unfold crowd
            rw [show (fun o => decide (o ≠ b ∧ tm o ≠ -1 ∧ (if tm o - x < 0 then -(tm o - x) else tm o - x) < t 8)) = crp t tm b x from rfl]
            cases anyN (crp t tm b x) 0 (nB t)
            · rfl
            · rfl
          · have c5 : anyN (isD t b (x / 60).toNat) 0 (nN t) = true := by
              cases hz : anyN (isD t b (x / 60).toNat) 0 (nN t)
              · exact absurd ((bts_zero _ hn.2).mpr hz) c4
              · rfl
            rw [if_neg (show ¬ bts (isD t b (x / 60).toNat) 0 (nN t) 0 = nI 0 from c4), c5, if_pos rfl]
            rfl
        · rw [bI_t, if_neg (by decide), if_pos rfl]
          rfl
      · have c5 : anyN (tst t w b) 0 (nN t) = true := by
          cases hz : anyN (tst t w b) 0 (nN t)
          · exact absurd ((bts_zero _ hn.2).mpr hz) c3
          · rfl
        rw [if_neg c3, c5, if_pos rfl]
        rfl
    · rw [if_neg (fun q => c2 ((iI_le (by omega)).mp q)), if_pos (show x < t 3 ∨ t 4 < x by omega)]
      rfl
theorem tms_ok (h : Iv σ R s t w) : ∀ o : Nat, (o : Int) < t 2 → σ (s + 7) o = iI (tms w o) ∧ -1 ≤ tms w o ∧ tms w o ≤ 1439 := fun o ho => ⟨(h.cs o ho).1, (h.wok o ho).1⟩
theorem c_reasonT (hN : 2000 ≤ N) (h : Iv σ R s t w) {b : Nat} (hb : (b : Int) < t 2) {x : Int} (hx : 0 ≤ x ∧ x ≤ 1439) : f_X9_reasonAgainst N R σ s (nI b) (iI x) (R s 6) = some (iI (why t w (tms w) b x), σ) := by
  rw [h.ro.si 6 (by decide), show s + 1 + 6 = s + 7 by omega]
  exact c_reason hN h hb (tms_ok h) hx
theorem why_r (t w tm : Nat → Int) (b : Nat) (m : Int) : 0 ≤ why t w tm b m ∧ why t w tm b m ≤ 5 := by
  unfold why
  repeat' split
  all_goals omega
theorem stA_r (hO : TOk t) {k : Nat} (hk : k < nS t) : 0 ≤ stA t k ∧ stA t k ≤ 1439 := by
  have h3 := hO.2.2.2.1
  have h5 := hO.2.2.2.2.1
  have h7 : 0 ≤ (t 4 - t 3) / t 5 := Int.ediv_nonneg (by omega) (by omega)
  unfold nS at hk
  have h1 : t 5 * ((t 4 - t 3) / t 5) ≤ t 4 - t 3 := Int.mul_ediv_self_le (by omega)
  have h2 : t 5 * (k : Int) ≤ t 5 * ((t 4 - t 3) / t 5) := Int.mul_le_mul_of_nonneg_left (by omega) (by omega)
  have h4 : 0 ≤ t 5 * (k : Int) := Int.mul_nonneg (by omega) (by omega)
  unfold stA
  omega
theorem nS_r (hO : TOk t) : 1 ≤ nS t ∧ nS t ≤ 1440 := by
  have h3 := hO.2.2.2.1
  have h5 := hO.2.2.2.2.1
  have h6 : (t 4 - t 3) / t 5 ≤ t 4 - t 3 := Int.ediv_le_self _ (by omega)
  have h7 : 0 ≤ (t 4 - t 3) / t 5 := Int.ediv_nonneg (by omega) (by omega)
  unfold nS
  omega
def ers (t w : Nat → Int) (b : Nat) (x : Int) : Nat → Nat → Int
  | _, 0 => -1
  | k, m + 1 => if x ≤ stA t k ∧ why t w (tms w) b (stA t k) = 0 then stA t k else ers t w b x (k + 1) m
def lts (t w : Nat → Int) (b : Nat) (x : Int) : Nat → Int
  | 0 => -1
  | m + 1 => if stA t m ≤ x ∧ why t w (tms w) b (stA t m) = 0 then stA t m else lts t w b x m
def crS (t w : Nat → Int) (b : Nat) (r : Int) : Nat → Int → Int := fun k a => if why t w (tms w) b (stA t k) = r then a + 1 else a
/-- the longest run: the greatest, the present one -/
def lgS (t w : Nat → Int) (b : Nat) : Nat → Int × Int → Int × Int := fun k a => if why t w (tms w) b (stA t k) = 0 then (mx a.1 (a.2 + 1), a.2 + 1) else (mx a.1 0, 0)
end WHY

