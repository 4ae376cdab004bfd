/-! ===== quiet windows, dust, least radius, gaps ===== -/
theorem lp_or_t (q : Nat → Bool) : ∀ (m k : Nat), lp (fun k a => a || q k) k m true = true := by
  intro m
  induction m with
  | zero => intro k; rfl
  | succ m ih => intro k; exact ih (k + 1)
section QD
variable {N : Nat} {R : Nat → Nat → Nat} {s : Nat} {t w : Nat → Int} {σ : SI}
def stq (t : Nat → Int) (n : Nat) (m : Int) (k : Nat) : Bool := decide (t (81 + 18 * n + 10 + 2 * k) ≤ m ∧ m < t (81 + 18 * n + 11 + 2 * k))
theorem still_q (t : Nat → Int) (n : Nat) (m : Int) : still t n m = lp (fun k a => a || stq t n m k) 0 (t (81 + 18 * n + 9)).toNat false := rfl
theorem c_quiet2 (h : Iv σ R s t w) {q : Nat} (hq : (q : Int) < t 0) {x : Int} (hx : -2147483648 ≤ x ∧ x ≤ 2147483647) : ∀ (m k n : Nat), k + m = (t (81 + 18 * q + 9)).toNat → m < n → f_X4_quietAt_2 N R n σ (s + 10 + 3 * q) (iI x) (nI k) = some (bI (lp (fun k a => a || stq t q x k) k m false), σ) := by
  have hO := h.tok
  have h0 := hO.1
  have hw := (hO.n hq).2.2.2.1
  have hk4 := (hO.n hq).2.2.2.2
  have e5 := (h.cq.2.2.1 q hq).2.2.2.1
  have ek := (h.cq.2.2.1 q hq).2.2.2.2
  intro m
  induction m with
  | zero =>
    intro k n hk hm
    obtain ⟨n, rfl⟩ : ∃ q, n = q + 1 := ⟨n - 1, by omega⟩
    rw [f_X4_quietAt_2, e5, if_pos ((iI_leN (by omega)).mpr (by omega))]
    rfl
  | succ m ih =>
    intro k n hk hm
    obtain ⟨n, rfl⟩ : ∃ q, n = q + 1 := ⟨n - 1, by omega⟩
    have hr := hk4 k (by omega)
    rw [f_X4_quietAt_2, e5, if_neg (fun q => absurd ((iI_leN (by omega)).mp q) (by omega)), lp_s, ck_nI (by omega) (by decide), h.ro.nbA q (by omega) 0 (by decide), h.ro.nbA q (by omega) 1 (by decide), nI_clamp (by omega), Nat.add_zero, show s + 11 + 3 * q + 1 = s + 12 + 3 * q by omega, (ek k (by omega)).1]
    by_cases c1 : x < t (81 + 18 * q + 10 + 2 * k)
    · rw [if_pos ((iI_lt (by omega)).mpr c1)]
      dsimp only [f_X4_quietAt_32]
      rw [nI_1, ih (k + 1) n (by omega) (by omega), show stq t q x k = false from decide_eq_false (by omega), Bool.false_or]
    · rw [if_neg (fun q => c1 ((iI_lt (by omega)).mp q)), ck_nI (by omega) (by decide), (ek k (by omega)).2]
      by_cases c2 : t (81 + 18 * q + 11 + 2 * k) ≤ x
      · rw [if_pos ((iI_le (by omega)).mpr c2)]
        dsimp only [f_X4_quietAt_32]
        rw [nI_1, ih (k + 1) n (by omega) (by omega), show stq t q x k = false from decide_eq_false (by omega), Bool.false_or]
      · rw [if_neg (fun q => c2 ((iI_le (by omega)).mp q)), show stq t q x k = true from decide_eq_true (by omega), Bool.or_true, lp_or_t]
        rfl
theorem c_quietAt (hN : 2000 ≤ N) (h : Iv σ R s t w) {q : Nat} (hq : (q : Int) < t 0) {x : Int} (hx : -2147483648 ≤ x ∧ x ≤ 2147483647) : f_X4_quietAt N R σ (s + 10 + 3 * q) (iI x) = some (bI (still t q x), σ) := by
  have hw := (h.tok.n hq).2.2.2.1
  unfold f_X4_quietAt
  exact c_quiet2 h hq hx (t (81 + 18 * q + 9)).toNat 0 N (by omega) (by omega)
/-! dust -/
theorem wXY_r (d : Int) : (-1 ≤ wX d ∧ wX d ≤ 1) ∧ -1 ≤ wY d ∧ wY d ≤ 1 := by
  unfold wX wY
  constructor
  · split
    · omega
    · split <;> omega
  · split
    · omega
    · split <;> omega
theorem dustX {dx dy x y sp : Int} (h : (-999 ≤ dx ∧ dx ≤ 999) ∧ (-999 ≤ dy ∧ dy ≤ 999) ∧ (-1 ≤ x ∧ x ≤ 1) ∧ (-1 ≤ y ∧ y ≤ 1) ∧ 0 ≤ sp ∧ sp ≤ 20) :
    (if iI dx * iI x + iI dy * iI y ≤ 0 then some ((0 : Int32), σ) else if iI dx * iI x + iI dy * iI y < (if 0 ≤ iI dx * iI y - iI dy * iI x then iI dx * iI y - iI dy * iI x else 0 - (iI dx * iI y - iI dy * iI x)) then some ((0 : Int32), σ) else if ((50 : Int32) * iI sp) * ((50 : Int32) * iI sp) < iI dx * iI dx + iI dy * iI dy then some ((0 : Int32), σ) else some ((1 : Int32), σ)) =
      some (bI (decide (0 < dx * x + dy * y ∧ (if dx * y - dy * x < 0 then -(dx * y - dy * x) else dx * y - dy * x) ≤ dx * x + dy * y ∧ dx * dx + dy * dy ≤ (50 * sp) * (50 * sp))), σ) := by
  obtain ⟨h1, h2, h3, h4, h5⟩ := h
  have a1 := mul_c (a := dx) (b := x) (A := 999) (B := 1) (C := 999) (by omega) (by omega) rfl
  have a2 := mul_c (a := dy) (b := y) (A := 999) (B := 1) (C := 999) (by omega) (by omega) rfl
  have a3 := mul_c (a := dx) (b := y) (A := 999) (B := 1) (C := 999) (by omega) (by omega) rfl
  have a4 := mul_c (a := dy) (b := x) (A := 999) (B := 1) (C := 999) (by omega) (by omega) rfl
  have a5 := mul_c (a := dx) (b := dx) (A := 999) (B := 999) (C := 998001) (by omega) (by omega) rfl
  have a6 := mul_c (a := dy) (b := dy) (A := 999) (B := 999) (C := 998001) (by omega) (by omega) rfl
  have a7 := mul_c (a := 50 * sp) (b := 50 * sp) (A := 1000) (B := 1000) (C := 1000000) (by omega) (by omega) rfl
  simp only [show (50 : Int32) = iI 50 from rfl, show (0 : Int32) = iI 0 from rfl, show (1 : Int32) = iI 1 from rfl, iI_mul, iI_add, iI_sub]
  generalize dx * x = A1 at *
  generalize dy * y = A2 at *
  generalize dx * y = A3 at *
  generalize dy * x = A4 at *
  generalize dx * dx = A5 at *
  generalize dy * dy = A6 at *
  generalize 50 * sp * (50 * sp) = A7 at *
  have g1 := iI_le (a := A1 + A2) (b := 0) (by omega)
  by_cases c1 : A1 + A2 ≤ 0
  · rw [if_pos (g1.mpr c1), decide_eq_false (by omega)]
    rfl
  · rw [if_neg (fun q => c1 (g1.mp q))]
    have e : (if iI 0 ≤ iI (A3 - A4) then iI (A3 - A4) else iI (0 - (A3 - A4))) = iI (if A3 - A4 < 0 then -(A3 - A4) else A3 - A4) := by
      have g2 := iI_le (a := 0) (b := A3 - A4) (by omega)
      by_cases c2 : A3 - A4 < 0
      · rw [if_neg (fun q => by have := g2.mp q; omega), if_pos c2, Int.zero_sub]
      · rw [if_pos (g2.mpr (by omega)), if_neg c2]
    rw [e]
    have hb : -2000 ≤ (if A3 - A4 < 0 then -(A3 - A4) else A3 - A4) ∧ (if A3 - A4 < 0 then -(A3 - A4) else A3 - A4) ≤ 2000 := by split <;> omega
    generalize (if A3 - A4 < 0 then -(A3 - A4) else A3 - A4) = B at *
    have g3 := iI_lt (a := A1 + A2) (b := B) (by omega)
    have g4 := iI_lt (a := A7) (b := A5 + A6) (by omega)
    by_cases c3 : A1 + A2 < B
    · rw [if_pos (g3.mpr c3), decide_eq_false (by omega)]
      rfl
    · rw [if_neg (fun q => c3 (g3.mp q))]
      by_cases c4 : A7 < A5 + A6
      · rw [if_pos (g4.mpr c4), decide_eq_false (by omega)]
        rfl
      · rw [if_neg (fun q => c4 (g4.mp q)), decide_eq_true (by omega)]
        rfl
def dhs (t : Nat → Int) (b : Nat) : Nat → Bool := fun q => !decide (bts (isD t b q) 0 (nN t) 0 = 0)
end QD

