/-! ===== near, as the law asks it ===== -/
theorem geo_cr (px py ex ey : Int) : (px * ex + py * ey) * ex - px * (ex * ex + ey * ey) = -(ey * (px * ey - py * ex)) ∧ (px * ex + py * ey) * ey - py * (ex * ex + ey * ey) = ex * (px * ey - py * ex) := by
  refine ⟨?_, ?_⟩
  · simp only [Int.add_mul, Int.mul_add, Int.mul_sub]
    simp only [Int.mul_assoc, Int.mul_comm, Int.mul_left_comm]
    omega
  · simp only [Int.add_mul, Int.mul_add, Int.mul_sub]
    simp only [Int.mul_assoc, Int.mul_comm, Int.mul_left_comm]
    omega
theorem geo_sq (a b c : Int) : (a * c) * (a * c) + (b * c) * (b * c) = (a * a + b * b) * (c * c) := by
  simp only [Int.add_mul]
  simp only [Int.mul_assoc, Int.mul_comm, Int.mul_left_comm]
theorem sq_nn (a : Int) : 0 ≤ a * a := by
  have e : (a.natAbs : Int) * (a.natAbs : Int) = a * a := Int.natAbs_mul_self
  rw [← e]
  exact Int.mul_nonneg (Int.natCast_nonneg _) (Int.natCast_nonneg _)
theorem le_mulI {a b c : Int} (hc : 0 < c) : a * c ≤ b * c ↔ a ≤ b := ⟨fun h => Int.le_of_mul_le_mul_right h hc, fun h => Int.mul_le_mul_of_nonneg_right h (Int.le_of_lt hc)⟩
theorem sq0_of {a b : Int} (h : a * a + b * b = 0) : a = 0 ∧ b = 0 := by
  have h1 := sq_nn a
  have h2 := sq_nn b
  have ha : a * a = 0 := by omega
  have hb : b * b = 0 := by omega
  exact ⟨by rcases Int.mul_eq_zero.mp ha with h | h <;> exact h, by rcases Int.mul_eq_zero.mp hb with h | h <;> exact h⟩
theorem geo_near (px py ex ey r A S sc T : Int) (hA : A = ex * ex + ey * ey) (hS : S = px * ex + py * ey) (hsc : sc = if A < 1 then 1 else A) (hT : T = if A = 0 then 0 else if (if S < A then S else A) < 0 then 0 else (if S < A then S else A)) : nearX px py ex ey r = true ↔ (T * ex - px * sc) * (T * ex - px * sc) + (T * ey - py * sc) * (T * ey - py * sc) ≤ r * r * sc * sc := by
  have hA0 : 0 ≤ A := by rw [hA]; have := sq_nn ex; have := sq_nn ey; omega
  unfold nearX
  rw [← hS, ← hA]
  by_cases cA : A = 0
  · obtain ⟨e1, e2⟩ := sq0_of (hA.symm.trans cA)
    have hS0 : S = 0 := by rw [hS, e1, e2, Int.mul_zero, Int.mul_zero]; rfl
    have hsc2 : sc = 1 := by rw [hsc]; exact if_pos (by omega)
    have hT2 : T = 0 := by rw [hT]; exact if_pos cA
    rw [if_pos (by omega), hT2, hsc2, e1, e2]
    simp only [Int.mul_one, Int.zero_mul, Int.zero_sub, Int.neg_mul_neg, decide_eq_true_eq]
  · have hp : 0 < A := by omega
    have hpp : 0 < A * A := Int.mul_pos hp hp
    have e3 : r * r * A * A = (r * r) * (A * A) := Int.mul_assoc _ _ _
    have hsc2 : sc = A := by rw [hsc]; exact if_neg (by omega)
    rw [hsc2, e3]
    rw [if_neg cA] at hT
    by_cases c1 : S ≤ 0
    · have hT0 : T = 0 := by
        rw [hT, show (if S < A then S else A) = S from if_pos (by omega)]
        by_cases z : S < 0
        · exact if_pos z
        · rw [show (if S < 0 then 0 else S) = S from if_neg z]
          omega
      rw [if_pos c1, hT0]
      simp only [Int.zero_mul, Int.zero_sub, Int.neg_mul_neg, decide_eq_true_eq]
      rw [geo_sq, le_mulI hpp]
    · rw [if_neg c1]
      by_cases c2 : A ≤ S
      · have hTA : T = A := by
          rw [hT, if_neg (by omega : ¬ S < A), if_neg (by omega)]
        have x1 : A * ex - px * A = (ex - px) * A := by rw [Int.sub_mul, Int.mul_comm A ex]
        have x2 : A * ey - py * A = (ey - py) * A := by rw [Int.sub_mul, Int.mul_comm A ey]
        rw [if_pos c2, hTA, x1, x2, geo_sq, le_mulI hpp, decide_eq_true_eq, sq_sw px, sq_sw py]
      · have hTS : T = S := by
          rw [hT, if_pos (by omega : S < A), if_neg (by omega)]
        have g := geo_cr px py ex ey
        rw [← hS, ← hA] at g
        have e4 : ey * (px * ey - py * ex) * (ey * (px * ey - py * ex)) + ex * (px * ey - py * ex) * (ex * (px * ey - py * ex)) = (px * ey - py * ex) * (px * ey - py * ex) * A := by
          rw [geo_sq, hA, Int.mul_comm, Int.add_comm (ey * ey)]
        have e5 : (r * r) * (A * A) = r * r * A * A := (Int.mul_assoc _ _ _).symm
        rw [if_neg c2, hTS, g.1, g.2, Int.neg_mul_neg, e4, e5, le_mulI hp, decide_eq_true_eq]
