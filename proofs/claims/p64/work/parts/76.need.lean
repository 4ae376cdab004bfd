/-! ===== the least radius ===== -/
theorem lst_spec (p : Nat → Bool) : ∀ (m k : Nat), p (k + m) = true → lst p k m ≤ k + m ∧ p (lst p k m) = true ∧ ∀ j, k ≤ j → j < lst p k m → p j = false := by
  intro m
  induction m with
  | zero => intro k h; exact ⟨Nat.le_refl _, h, fun j h1 h2 => absurd h2 (Nat.not_lt.mpr h1)⟩
  | succ m ih =>
    intro k h
    show (if p k then k else lst p (k + 1) m) ≤ k + (m + 1) ∧ p (if p k then k else lst p (k + 1) m) = true ∧ ∀ j, k ≤ j → j < (if p k then k else lst p (k + 1) m) → p j = false
    cases hk : p k with
    | true =>
      rw [if_pos rfl]
      exact ⟨by omega, hk, fun j h1 h2 => absurd h2 (Nat.not_lt.mpr h1)⟩
    | false =>
      rw [if_neg (by decide)]
      obtain ⟨h1, h2, h3⟩ := ih (k + 1) (by rw [show k + 1 + m = k + (m + 1) by omega]; exact h)
      refine ⟨by omega, h2, fun j j1 j2 => ?_⟩
      by_cases q : j = k
      · rw [q]; exact hk
      · exact h3 j (by omega) j2
theorem geo_lag (px py ex ey : Int) : (px * ey - py * ex) * (px * ey - py * ex) + (px * ex + py * ey) * (px * ex + py * ey) = (px * px + py * py) * (ex * ex + ey * ey) := by
  simp only [Int.add_mul, Int.mul_add, Int.mul_sub, Int.sub_mul]
  simp only [Int.mul_assoc, Int.mul_comm, Int.mul_left_comm]
  omega
section VND
variable {sd : SDt} {ws : List WDt} {ns : List NDt} {rs : List RDt} {bs : List BDt}
theorem near_all (hok : QOk sd ws ns rs bs) {b r : Nat} (hb : b < bs.length) (hr : r < rs.length) : near (tQ sd ws ns rs bs) b r ((0 + 1500 : Nat) : Int) = true := by
  have hr2 := hok.2.2.2.1.1
  obtain ⟨q1, q2, -⟩ := hok.2.2.2.2.2 _ (getD_mem (x := (0, 0, 0, [])) hb)
  obtain ⟨y1, y2, y3, y4⟩ := hok.2.2.2.1.2 _ (getD_mem (x := (0, 0, 0, 0)) hr)
  have t2 := T_b hok hb
  have u6 : tQ sd ws ns rs bs (225 + 10 * r + 6) = ((rs.getD r (0, 0, 0, 0)).1 : Int) := tQ_r r 6 (by omega) (by decide)
  have u7 : tQ sd ws ns rs bs (225 + 10 * r + 7) = ((rs.getD r (0, 0, 0, 0)).2.1 : Int) := tQ_r r 7 (by omega) (by decide)
  have u8 : tQ sd ws ns rs bs (225 + 10 * r + 8) = ((rs.getD r (0, 0, 0, 0)).2.2.1 : Int) := tQ_r r 8 (by omega) (by decide)
  have u9 : tQ sd ws ns rs bs (225 + 10 * r + 9) = ((rs.getD r (0, 0, 0, 0)).2.2.2 : Int) := tQ_r r 9 (by omega) (by decide)
  unfold near
  rw [t2.1, t2.2.1, u6, u7, u8, u9]
  generalize (rs.getD r (0, 0, 0, 0)).1 = x1 at y1 ⊢
  generalize (rs.getD r (0, 0, 0, 0)).2.1 = z1 at y2 ⊢
  generalize (rs.getD r (0, 0, 0, 0)).2.2.1 = x2 at y3 ⊢
  generalize (rs.getD r (0, 0, 0, 0)).2.2.2 = z2 at y4 ⊢
  generalize (bs.getD b (0, 0, 0, [])).1 = bx at q1 ⊢
  generalize (bs.getD b (0, 0, 0, [])).2.1 = bz at q2 ⊢
  have m1 := mul_c (a := (bx : Int) - x1) (b := (bx : Int) - x1) (A := 299) (B := 299) (C := 89401) (by omega) (by omega) rfl
  have m2 := mul_c (a := (bz : Int) - z1) (b := (bz : Int) - z1) (A := 299) (B := 299) (C := 89401) (by omega) (by omega) rfl
  have m3 := mul_c (a := (bx : Int) - x1 - ((x2 : Int) - x1)) (b := (bx : Int) - x1 - ((x2 : Int) - x1)) (A := 299) (B := 299) (C := 89401) (by omega) (by omega) rfl
  have m4 := mul_c (a := (bz : Int) - z1 - ((z2 : Int) - z1)) (b := (bz : Int) - z1 - ((z2 : Int) - z1)) (A := 299) (B := 299) (C := 89401) (by omega) (by omega) rfl
  have hl := geo_lag ((bx : Int) - x1) ((bz : Int) - z1) ((x2 : Int) - x1) ((z2 : Int) - z1)
  have hs := sq_nn (((bx : Int) - x1) * ((x2 : Int) - x1) + ((bz : Int) - z1) * ((z2 : Int) - z1))
  have n1 := sq_nn ((x2 : Int) - x1)
  have n2 := sq_nn ((z2 : Int) - z1)
  unfold nearX
  split
  · exact decide_eq_true (by omega)
  · split
    · exact decide_eq_true (by omega)
    · refine decide_eq_true ?_
      have h1 : (((bx : Int) - x1) * ((bx : Int) - x1) + ((bz : Int) - z1) * ((bz : Int) - z1)) * (((x2 : Int) - x1) * ((x2 : Int) - x1) + ((z2 : Int) - z1) * ((z2 : Int) - z1)) ≤ (((0 + 1500 : Nat) : Int) * ((0 + 1500 : Nat) : Int)) * (((x2 : Int) - x1) * ((x2 : Int) - x1) + ((z2 : Int) - z1) * ((z2 : Int) - z1)) := Int.mul_le_mul_of_nonneg_right (by omega) (by omega)
      exact Int.le_trans (by omega) h1
end VND
