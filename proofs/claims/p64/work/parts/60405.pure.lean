/-! ===== roads, sets of roads and neighbours ===== -/
def lI (z : Int) : Int64 := Int64.ofInt z
theorem lI_add (a b : Int) : lI a + lI b = lI (a + b) := (Int64.ofInt_add a b).symm
theorem lI_sub (a b : Int) : lI a - lI b = lI (a - b) := (Int64.ofInt_sub a b).symm
theorem lI_mul (a b : Int) : lI a * lI b = lI (a * b) := (Int64.ofInt_mul a b).symm
theorem lI_toInt {z : Int} (h : -9223372036854775808 ≤ z ∧ z ≤ 9223372036854775807) : (lI z).toInt = z := Int64.toInt_ofInt_of_le (by omega) (by omega)
theorem iI_toL {z : Int} (h : -2147483648 ≤ z ∧ z ≤ 2147483647) : (iI z).toInt64 = lI z := by
  apply Int64.toInt_inj.mp
  rw [Int32.toInt_toInt64, iI_toInt h, lI_toInt (by omega)]
theorem lg_pos {a b : Int} (h : (-9223372036854775808 ≤ a ∧ a ≤ 9223372036854775807) ∧ -9223372036854775808 ≤ b ∧ b ≤ 9223372036854775807) : 0 < lg_cmp (lI a) (lI b) ↔ b < a := by
  unfold lg_cmp
  simp only [gt_iff_lt, Int64.lt_iff_toInt_lt, ← Int64.toInt_inj, lI_toInt h.1, lI_toInt h.2]
  by_cases c : b < a
  · rw [if_pos c]
    exact ⟨fun _ => c, fun _ => by decide⟩
  · rw [if_neg c]
    refine ⟨fun q => ?_, fun q => absurd q c⟩
    split at q
    · exact absurd q (by decide)
    · exact absurd q (by decide)
theorem lg_neg {a b : Int} (h : (-9223372036854775808 ≤ a ∧ a ≤ 9223372036854775807) ∧ -9223372036854775808 ≤ b ∧ b ≤ 9223372036854775807) : lg_cmp (lI a) (lI b) < 0 ↔ a < b := by
  unfold lg_cmp
  simp only [gt_iff_lt, Int64.lt_iff_toInt_lt, ← Int64.toInt_inj, lI_toInt h.1, lI_toInt h.2]
  by_cases c : b < a
  · rw [if_pos c]
    exact ⟨fun q => absurd q (by decide), fun q => by omega⟩
  · rw [if_neg c]
    by_cases e : a = b
    · rw [if_pos e]
      exact ⟨fun q => absurd q (by decide), fun q => by omega⟩
    · rw [if_neg e]
      exact ⟨fun _ => by omega, fun _ => by decide⟩
theorem mul_b {a b : Int} {A B : Nat} (ha : a.natAbs ≤ A) (hb : b.natAbs ≤ B) : (a * b).natAbs ≤ A * B := by
  rw [Int.natAbs_mul]
  exact Nat.mul_le_mul ha hb
theorem mul_c {a b : Int} {A B C : Nat} (ha : -(A : Int) ≤ a ∧ a ≤ A) (hb : -(B : Int) ≤ b ∧ b ≤ B) (hC : A * B = C) : -(C : Int) ≤ a * b ∧ a * b ≤ C := by
  have h := mul_b (a := a) (b := b) (A := A) (B := B) (by omega) (by omega)
  rw [hC] at h
  generalize a * b = z at h ⊢
  omega
theorem sq_0 (a : Int) : 0 ≤ a * a := by
  rcases Int.le_total 0 a with q | q
  · exact Int.mul_nonneg q q
  · exact Int.mul_nonneg_of_nonpos_of_nonpos q q
section NEAR
variable {N : Nat} {R : Nat → Nat → Nat} {s : Nat} {t w : Nat → Int} {σ : SI}
theorem near_facts {px py ex ey rad : Int} (h : (-999 ≤ px ∧ px ≤ 999) ∧ (-999 ≤ py ∧ py ≤ 999) ∧ (-999 ≤ ex ∧ ex ≤ 999) ∧ (-999 ≤ ey ∧ ey ≤ 999) ∧ 0 ≤ rad ∧ rad ≤ 1500) :
    ((-998001 ≤ px * ex ∧ px * ex ≤ 998001) ∧ (-998001 ≤ py * ey ∧ py * ey ≤ 998001) ∧ (-998001 ≤ ex * ex ∧ ex * ex ≤ 998001) ∧ -998001 ≤ ey * ey ∧ ey * ey ≤ 998001) ∧ ((-998001 ≤ px * px ∧ px * px ≤ 998001) ∧ (-998001 ≤ py * py ∧ py * py ≤ 998001) ∧ (-998001 ≤ px * ey ∧ px * ey ≤ 998001) ∧ -998001 ≤ py * ex ∧ py * ex ≤ 998001) ∧ (-2250000 ≤ rad * rad ∧ rad * rad ≤ 2250000) ∧ ((-3992004 ≤ (px - ex) * (px - ex) ∧ (px - ex) * (px - ex) ≤ 3992004) ∧ -3992004 ≤ (py - ey) * (py - ey) ∧ (py - ey) * (py - ey) ≤ 3992004) ∧ (-3984023984004 ≤ (px * ey - py * ex) * (px * ey - py * ex) ∧ (px * ey - py * ex) * (px * ey - py * ex) ≤ 3984023984004) ∧ -4491004500000 ≤ rad * rad * (ex * ex + ey * ey) ∧ rad * rad * (ex * ex + ey * ey) ≤ 4491004500000 := by
  obtain ⟨h1, h2, h3, h4, h5⟩ := h
  have a1 := mul_c (a := px) (b := ex) (A := 999) (B := 999) (C := 998001) (by omega) (by omega) rfl
  have a2 := mul_c (a := py) (b := ey) (A := 999) (B := 999) (C := 998001) (by omega) (by omega) rfl
  have a3 := mul_c (a := ex) (b := ex) (A := 999) (B := 999) (C := 998001) (by omega) (by omega) rfl
  have a4 := mul_c (a := ey) (b := ey) (A := 999) (B := 999) (C := 998001) (by omega) (by omega) rfl
  have a5 := mul_c (a := px) (b := px) (A := 999) (B := 999) (C := 998001) (by omega) (by omega) rfl
  have a6 := mul_c (a := py) (b := py) (A := 999) (B := 999) (C := 998001) (by omega) (by omega) rfl
  have a7 := mul_c (a := px) (b := ey) (A := 999) (B := 999) (C := 998001) (by omega) (by omega) rfl
  have a8 := mul_c (a := py) (b := ex) (A := 999) (B := 999) (C := 998001) (by omega) (by omega) rfl
  have a9 := mul_c (a := rad) (b := rad) (A := 1500) (B := 1500) (C := 2250000) (by omega) (by omega) rfl
  have b1 := mul_c (a := px - ex) (b := px - ex) (A := 1998) (B := 1998) (C := 3992004) (by omega) (by omega) rfl
  have b2 := mul_c (a := py - ey) (b := py - ey) (A := 1998) (B := 1998) (C := 3992004) (by omega) (by omega) rfl
  generalize px * ey = A1 at a7 ⊢
  generalize py * ex = A2 at a8 ⊢
  generalize rad * rad = A3 at a9 ⊢
  generalize ex * ex = A4 at a3 ⊢
  generalize ey * ey = A5 at a4 ⊢
  have b3 := mul_c (a := A1 - A2) (b := A1 - A2) (A := 1996002) (B := 1996002) (C := 3984023984004) (by omega) (by omega) (by decide)
  have b4 := mul_c (a := A3) (b := A4 + A5) (A := 2250000) (B := 1996002) (C := 4491004500000) (by omega) (by omega) (by decide)
  exact ⟨⟨a1, a2, a3, a4⟩, ⟨a5, a6, a7, a8⟩, a9, ⟨b1, b2⟩, b3, b4⟩
theorem nearM {px py ex ey rad : Int} (h : (-999 ≤ px ∧ px ≤ 999) ∧ (-999 ≤ py ∧ py ≤ 999) ∧ (-999 ≤ ex ∧ ex ≤ 999) ∧ (-999 ≤ ey ∧ ey ≤ 999) ∧ 0 ≤ rad ∧ rad ≤ 1500) :
    (if 0 < lg_cmp (lI px * lI ex + lI py * lI ey) (0 : Int64) then (if lg_cmp (lI px * lI ex + lI py * lI ey) (lI ex * lI ex + lI ey * lI ey) < 0 then (if 0 < lg_cmp ((lI px * lI ey - lI py * lI ex) * (lI px * lI ey - lI py * lI ex)) (lI rad * lI rad * (lI ex * lI ex + lI ey * lI ey)) then some ((0 : Int32), σ) else some ((1 : Int32), σ)) else (if 0 < lg_cmp ((lI px - lI ex) * (lI px - lI ex) + (lI py - lI ey) * (lI py - lI ey)) (lI rad * lI rad) then some ((0 : Int32), σ) else some ((1 : Int32), σ))) else (if 0 < lg_cmp (lI px * lI px + lI py * lI py) (lI rad * lI rad) then some ((0 : Int32), σ) else some ((1 : Int32), σ))) = some (bI (nearX px py ex ey rad), σ) := by
  obtain ⟨⟨a1, a2, a3, a4⟩, ⟨a5, a6, a7, a8⟩, a9, ⟨b1, b2⟩, b3, b4⟩ := near_facts h
  simp only [lI_mul, lI_add, lI_sub, show (0 : Int64) = lI 0 from rfl]
  have g1 := lg_pos (a := px * ex + py * ey) (b := 0) (by omega)
  have g2 := lg_neg (a := px * ex + py * ey) (b := ex * ex + ey * ey) (by omega)
  have g3 := lg_pos (a := (px * ey - py * ex) * (px * ey - py * ex)) (b := rad * rad * (ex * ex + ey * ey)) (by omega)
  have g4 := lg_pos (a := (px - ex) * (px - ex) + (py - ey) * (py - ey)) (b := rad * rad) (by omega)
  have g5 := lg_pos (a := px * px + py * py) (b := rad * rad) (by omega)
  unfold nearX
  by_cases c1 : px * ex + py * ey ≤ 0
  · rw [if_neg (fun q => by have := g1.mp q; omega), if_pos c1]
    by_cases c2 : px * px + py * py ≤ rad * rad
    · rw [if_neg (fun q => by have := g5.mp q; omega), decide_eq_true c2]
      rfl
    · rw [if_pos (g5.mpr (by omega)), decide_eq_false c2]
      rfl
  · rw [if_pos (g1.mpr (by omega)), if_neg c1]
    by_cases c3 : ex * ex + ey * ey ≤ px * ex + py * ey
    · rw [if_neg (fun q => by have := g2.mp q; omega), if_pos c3]
      by_cases c2 : (px - ex) * (px - ex) + (py - ey) * (py - ey) ≤ rad * rad
      · rw [if_neg (fun q => by have := g4.mp q; omega), decide_eq_true c2]
        rfl
      · rw [if_pos (g4.mpr (by omega)), decide_eq_false c2]
        rfl
    · rw [if_pos (g2.mpr (by omega)), if_neg c3]
      by_cases c2 : (px * ey - py * ex) * (px * ey - py * ex) ≤ rad * rad * (ex * ex + ey * ey)
      · rw [if_neg (fun q => by have := g3.mp q; omega), decide_eq_true c2]
        rfl
      · rw [if_pos (g3.mpr (by omega)), decide_eq_false c2]
        rfl
theorem nearC {x1 y1 px py ex ey rad : Int} (h : (-999 ≤ px ∧ px ≤ 999) ∧ (-999 ≤ py ∧ py ≤ 999) ∧ (-999 ≤ ex ∧ ex ≤ 999) ∧ (-999 ≤ ey ∧ ey ≤ 999) ∧ 0 ≤ rad ∧ rad ≤ 1500) {α : Type} (x y : α) :
    (if 0 < iI px * iI ex + iI py * iI ey then (if iI px * iI ex + iI py * iI ey < iI ex * iI ex + iI ey * iI ey then (if 0 < lg_cmp ((lI px * lI ey - lI py * lI ex) * (lI px * lI ey - lI py * lI ex)) ((iI rad * iI rad).toInt64 * (iI ex * iI ex + iI ey * iI ey).toInt64) then x else y) else (if iI rad * iI rad < iI (px - ex) * iI (px - ex) + iI (py - ey) * iI (py - ey) then x else y)) else (if iI rad * iI rad < iI px * iI px + iI py * iI py then x else y)) = if nearX px py ex ey rad then y else x := by
  obtain ⟨⟨a1, a2, a3, a4⟩, ⟨a5, a6, a7, a8⟩, a9, ⟨b1, b2⟩, b3, b4⟩ := near_facts h
  simp only [iI_mul, iI_add, lI_mul, lI_sub, show (0 : Int32) = iI 0 from rfl]
  rw [iI_toL (z := rad * rad) (by omega), iI_toL (z := ex * ex + ey * ey) (by omega), lI_mul]
  have g1 := iI_lt (a := 0) (b := px * ex + py * ey) (by omega)
  have g2 := iI_lt (a := px * ex + py * ey) (b := ex * ex + ey * ey) (by omega)
  have g3 := lg_pos (a := (px * ey - py * ex) * (px * ey - py * ex)) (b := rad * rad * (ex * ex + ey * ey)) (by omega)
  have g4 := iI_lt (a := rad * rad) (b := (px - ex) * (px - ex) + (py - ey) * (py - ey)) (by omega)
  have g5 := iI_lt (a := rad * rad) (b := px * px + py * py) (by omega)
  unfold nearX
  by_cases c1 : px * ex + py * ey ≤ 0
  · rw [if_neg (fun q => by have := g1.mp q; omega), if_pos c1]
    by_cases c2 : px * px + py * py ≤ rad * rad
    · rw [if_neg (fun q => by have := g5.mp q; omega), decide_eq_true c2]
      rfl
    · rw [if_pos (g5.mpr (by omega)), decide_eq_false c2]
      rfl
  · rw [if_pos (g1.mpr (by omega)), if_neg c1]
    by_cases c3 : ex * ex + ey * ey ≤ px * ex + py * ey
    · rw [if_neg (fun q => by have := g2.mp q; omega), if_pos c3]
      by_cases c2 : (px - ex) * (px - ex) + (py - ey) * (py - ey) ≤ rad * rad
      · rw [if_neg (fun q => by have := g4.mp q; omega), decide_eq_true c2]
        rfl
      · rw [if_pos (g4.mpr (by omega)), decide_eq_false c2]
        rfl
    · rw [if_pos (g2.mpr (by omega)), if_neg c3]
      by_cases c2 : (px * ey - py * ex) * (px * ey - py * ex) ≤ rad * rad * (ex * ex + ey * ey)
      · rw [if_neg (fun q => by have := g3.mp q; omega), decide_eq_true c2]
        rfl
      · rw [if_pos (show iI 0 < _ from g3.mpr (by omega)), decide_eq_false c2]
        rfl
/-- a road of a site that is read: its four ints are the row's -/
theorem c_comesWithin {o : Nat} (hO : TOk t) {b r : Nat} (hb : (b : Int) < t 2) (hr : (r : Int) < t 1) (hq : ∀ j : Nat, j < 4 → σ o j = iI (t (225 + 10 * r + 6 + j))) {rad : Int} (hd : 0 ≤ rad ∧ rad ≤ 1500) : f_X7_comesWithin N R σ o (iI (t (285 + 22 * b + 6))) (iI (t (285 + 22 * b + 7))) (iI rad) = some (bI (near t b r rad), σ) := by
  have e1 := hO.b hb
  have r0 : 0 ≤ t (225 + 10 * r + 6) ∧ t (225 + 10 * r + 6) ≤ 999 := hO.r hr 0 (by decide)
  have r1 : 0 ≤ t (225 + 10 * r + 7) ∧ t (225 + 10 * r + 7) ≤ 999 := hO.r hr 1 (by decide)
  have r2 : 0 ≤ t (225 + 10 * r + 8) ∧ t (225 + 10 * r + 8) ≤ 999 := hO.r hr 2 (by decide)
  have r3 : 0 ≤ t (225 + 10 * r + 9) ∧ t (225 + 10 * r + 9) ≤ 999 := hO.r hr 3 (by decide)
  have q0 : σ o 0 = iI (t (225 + 10 * r + 6)) := hq 0 (by decide)
  have q1 : σ o 1 = iI (t (225 + 10 * r + 7)) := hq 1 (by decide)
  have q2 : σ o 2 = iI (t (225 + 10 * r + 8)) := hq 2 (by decide)
  have q3 : σ o 3 = iI (t (225 + 10 * r + 9)) := hq 3 (by decide)
  unfold f_X7_comesWithin f_X11_squareSum
  simp only [bd_some, q0, q1, q2, q3, iI_sub]
  rw [iI_toL (z := t (285 + 22 * b + 6) - t (225 + 10 * r + 6)) (by omega), iI_toL (z := t (285 + 22 * b + 7) - t (225 + 10 * r + 7)) (by omega), iI_toL (z := t (225 + 10 * r + 8) - t (225 + 10 * r + 6)) (by omega), iI_toL (z := t (225 + 10 * r + 9) - t (225 + 10 * r + 7)) (by omega)]
  rw [show t (285 + 22 * b + 6) - t (225 + 10 * r + 8) = (t (285 + 22 * b + 6) - t (225 + 10 * r + 6)) - (t (225 + 10 * r + 8) - t (225 + 10 * r + 6)) by omega, show t (285 + 22 * b + 7) - t (225 + 10 * r + 9) = (t (285 + 22 * b + 7) - t (225 + 10 * r + 7)) - (t (225 + 10 * r + 9) - t (225 + 10 * r + 7)) by omega]
  have g := nearC (x1 := 0) (y1 := 0) (px := t (285 + 22 * b + 6) - t (225 + 10 * r + 6)) (py := t (285 + 22 * b + 7) - t (225 + 10 * r + 7)) (ex := t (225 + 10 * r + 8) - t (225 + 10 * r + 6)) (ey := t (225 + 10 * r + 9) - t (225 + 10 * r + 7)) (rad := rad) (by omega) (some ((0 : Int32), σ)) (some ((1 : Int32), σ))
  rw [g]
  unfold near bI
  cases nearX (t (285 + 22 * b + 6) - t (225 + 10 * r + 6)) (t (285 + 22 * b + 7) - t (225 + 10 * r + 7)) (t (225 + 10 * r + 8) - t (225 + 10 * r + 6)) (t (225 + 10 * r + 9) - t (225 + 10 * r + 7)) rad <;> rfl
/-! what a set of bits says -/
theorem bts_pad (p : Nat → Bool) : ∀ (m k M : Nat) (a : Int32), bts p k m a = bts (fun i => decide (i < k + m) && p i) k (m + M) a := by
  intro m
  induction m with
  | zero =>
    intro k M a
    rw [show bts p k 0 a = a from rfl]
    have : ∀ (M k' : Nat), k ≤ k' → bts (fun i => decide (i < k + 0) && p i) k' M a = a := by
      intro M
      induction M with
      | zero => intro k' _; rfl
      | succ M ih =>
        intro k' hk
        rw [bts_s, decide_eq_false (by omega), Bool.false_and, if_neg (by decide)]
        exact ih (k' + 1) (by omega)
    rw [Nat.zero_add, this M k (Nat.le_refl k)]
  | succ m ih =>
    intro k M a
    rw [show m + 1 + M = (m + M) + 1 by omega, bts_s, bts_s, ih (k + 1) M]
    rw [decide_eq_true (by omega), Bool.true_and, show k + 1 + m = k + (m + 1) by omega]
theorem bts_ext {p q : Nat → Bool} : ∀ (m k : Nat) (a : Int32), (∀ j, k ≤ j → j < k + m → p j = q j) → bts p k m a = bts q k m a := by
  intro m k a h
  refine lp_congr m k a (fun j x h1 h2 => ?_)
  rw [h j h1 h2]
def b8 (b0 b1 b2 b3 b4 b5 b6 b7 : Bool) : Nat → Bool := fun i => match i with | 0 => b0 | 1 => b1 | 2 => b2 | 3 => b3 | 4 => b4 | 5 => b5 | 6 => b6 | 7 => b7 | _ => false
theorem bts_dec : ∀ b0 b1 b2 b3 b4 b5 b6 b7 : Bool, (∀ r, r < 8 → ((bts (b8 b0 b1 b2 b3 b4 b5 b6 b7) 0 8 0 >>> (nI r &&& 31)) &&& (1 : Int32)) = bI (b8 b0 b1 b2 b3 b4 b5 b6 b7 r)) ∧ (bts (b8 b0 b1 b2 b3 b4 b5 b6 b7) 0 8 0 = 0 ↔ (b0 || b1 || b2 || b3 || b4 || b5 || b6 || b7) = false) := by decide +kernel
theorem bts_8 (p : Nat → Bool) (m : Nat) (hm : m ≤ 8) : bts p 0 m 0 = bts (b8 (decide (0 < m) && p 0) (decide (1 < m) && p 1) (decide (2 < m) && p 2) (decide (3 < m) && p 3) (decide (4 < m) && p 4) (decide (5 < m) && p 5) (decide (6 < m) && p 6) (decide (7 < m) && p 7)) 0 8 0 := by
  rw [bts_pad p m 0 (8 - m) 0, show m + (8 - m) = 8 by omega]
  refine bts_ext 8 0 0 (fun j _ h2 => ?_)
  rw [Nat.zero_add]
  match j, h2 with
  | 0, _ => rfl
  | 1, _ => rfl
  | 2, _ => rfl
  | 3, _ => rfl
  | 4, _ => rfl
  | 5, _ => rfl
  | 6, _ => rfl
  | 7, _ => rfl
  | j + 8, h => exact absurd h (by omega)
theorem bts_bit (p : Nat → Bool) {m r : Nat} (hm : m ≤ 8) (hr : r < m) : ((bts p 0 m 0 >>> (nI r &&& 31)) &&& (1 : Int32)) = bI (p r) := by
  rw [bts_8 p m hm, (bts_dec _ _ _ _ _ _ _ _).1 r (by omega)]
  congr 1
  match r, hr with
  | 0, h => exact (congrArg (· && p 0) (decide_eq_true h)).trans (Bool.true_and _)
  | 1, h => exact (congrArg (· && p 1) (decide_eq_true h)).trans (Bool.true_and _)
  | 2, h => exact (congrArg (· && p 2) (decide_eq_true h)).trans (Bool.true_and _)
  | 3, h => exact (congrArg (· && p 3) (decide_eq_true h)).trans (Bool.true_and _)
  | 4, h => exact (congrArg (· && p 4) (decide_eq_true h)).trans (Bool.true_and _)
  | 5, h => exact (congrArg (· && p 5) (decide_eq_true h)).trans (Bool.true_and _)
  | 6, h => exact (congrArg (· && p 6) (decide_eq_true h)).trans (Bool.true_and _)
  | 7, h => exact (congrArg (· && p 7) (decide_eq_true h)).trans (Bool.true_and _)
  | r + 8, h => exact absurd h (by omega)
theorem anyN_iff (p : Nat → Bool) : ∀ (m k : Nat), anyN p k m = true ↔ ∃ j, k ≤ j ∧ j < k + m ∧ p j = true := by
  intro m
  induction m with
  | zero =>
    intro k
    exact ⟨fun h => (by cases h), fun ⟨j, h1, h2, _⟩ => (by omega)⟩
  | succ m ih =>
    intro k
    show (p k || anyN p (k + 1) m) = true ↔ _
    rw [Bool.or_eq_true, ih (k + 1)]
    constructor
    · rintro (h | ⟨j, h1, h2, h3⟩)
      · exact ⟨k, by omega, by omega, h⟩
      · exact ⟨j, by omega, by omega, h3⟩
    · rintro ⟨j, h1, h2, h3⟩
      by_cases e : j = k
      · subst e
        exact Or.inl h3
      · exact Or.inr ⟨j, by omega, by omega, h3⟩
theorem bts_zero (p : Nat → Bool) {m : Nat} (hm : m ≤ 8) : bts p 0 m 0 = 0 ↔ anyN p 0 m = false := by
  rw [bts_8 p m hm, (bts_dec _ _ _ _ _ _ _ _).2]
  rw [← Bool.not_eq_true, ← Bool.not_eq_true, anyN_iff]
  simp only [Bool.or_eq_true, Bool.and_eq_true, decide_eq_true_eq]
  constructor
  · rintro h ⟨j, -, h2, h3⟩
    apply h
    have hj : j < 8 := by omega
    rcases (show j = 0 ∨ j = 1 ∨ j = 2 ∨ j = 3 ∨ j = 4 ∨ j = 5 ∨ j = 6 ∨ j = 7 by omega) with rfl | rfl | rfl | rfl | rfl | rfl | rfl | rfl <;> simp_all
  · intro h q
    apply h
    rcases q with ((((((q | q) | q) | q) | q) | q) | q) | q
    all_goals exact ⟨_, Nat.zero_le _, by omega, q.2⟩
theorem c_closesRoad (h : Iv σ R s t w) {b r : Nat} (hb : (b : Int) < t 2) (hr : (r : Int) < t 1) : f_X0_closesRoad N R σ (s + 40 + 5 * b) (nI r) = some (bI (shut t b r), σ) := by
  have hn := nR_c h.tok
  unfold f_X0_closesRoad
  rw [(h.cd b hb).1, bts_bit _ (by omega) (by omega)]
  cases shut t b r
  · rw [bI_f, if_pos rfl]
  · rw [bI_t, if_neg (by decide)]
end NEAR

