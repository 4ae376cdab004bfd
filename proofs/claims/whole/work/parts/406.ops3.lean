/-! ===== quiet windows, dust, least radius, gaps ===== -/
theorem lp_or_t (q : Nat → Bool) : ∀ (m k : Nat), lp (fun k a => a || q k) k m true = true := by
  intro m
  induction m with
  | zero => intro k; rfl
  | succ m ih => intro k; exact ih (k + 1)
section QD
variable {N : Nat} {R : Nat → Nat → Nat} {s : Nat} {t w : Nat → Int} {σ : SI}
def stq (t : Nat → Int) (n : Nat) (m : Int) (k : Nat) : Bool := decide (t (81 + 18 * n + 10 + 2 * k) ≤ m ∧ m < t (81 + 18 * n + 11 + 2 * k))
theorem still_q (t : Nat → Int) (n : Nat) (m : Int) : still t n m = lp (fun k a => a || stq t n m k) 0 (t (81 + 18 * n + 9)).toNat false := rfl
theorem m_still5 (hR : RO R s) (hT : TV t σ) (hO : TOk t) {q : Nat} (hq : (q : Int) < t 0) {x : Int} (hx : -2147483648 ≤ x ∧ x ≤ 2147483647) : ∀ (m k n : Nat) (a : Bool), k + m = (t (81 + 18 * q + 9)).toNat → m < n → f_X12_isStill_5 N R n σ 178 (nI q) (iI x) (bI a) (nI k) = some (bI (lp (fun k a => a || stq t q x k) k m a), σ) := by
  have h0 := hO.1
  have hw := (hO.n hq).2.2.2.1
  have hk4 := (hO.n hq).2.2.2.2
  intro m
  induction m with
  | zero =>
    intro k n a hk hm
    obtain ⟨n, rfl⟩ : ∃ q, n = q + 1 := ⟨n - 1, by omega⟩
    rw [f_X12_isStill_5, m_near9 hR hT (by omega), bd_some, if_pos ((iI_leN (by omega)).mpr (by omega)), cb_bI]
    rfl
  | succ m ih =>
    intro k n a hk hm
    obtain ⟨n, rfl⟩ : ∃ q, n = q + 1 := ⟨n - 1, by omega⟩
    have hr := hk4 k (by omega)
    rw [f_X12_isStill_5, m_near9 hR hT (by omega), bd_some, if_neg (fun q => absurd ((iI_leN (by omega)).mp q) (by omega)), lp_s]
    cases a
    · have e1 := m_ofNear (N := N) (n := q) (q := 10 + 2 * k) hR hT (by omega) (by omega)
      have e2 := m_ofNear (N := N) (n := q) (q := 10 + 2 * k + 1) hR hT (by omega) (by omega)
      rw [show 81 + 18 * q + (10 + 2 * k) = 81 + 18 * q + 10 + 2 * k by omega] at e1
      rw [show 81 + 18 * q + (10 + 2 * k + 1) = 81 + 18 * q + 11 + 2 * k by omega] at e2
      rw [bI_f, if_pos rfl, show (10 : Int32) = nI 10 from rfl, show (2 : Int32) = nI 2 from rfl, nI_mul, nI_add, e1, bd_some]
      by_cases c1 : x < t (81 + 18 * q + 10 + 2 * k)
      · rw [if_pos ((iI_lt (by omega)).mpr c1)]
        dsimp only [f_X12_isStill_59]
        rw [nI_1, show (0 : Int32) = bI false from rfl, ih (k + 1) n false (by omega) (by omega)]
        rw [show stq t q x k = false from decide_eq_false (by omega), Bool.false_or]
      · rw [if_neg (fun q => c1 ((iI_lt (by omega)).mp q)), show (1 : Int32) = nI 1 from rfl, nI_add (10 + 2 * k) 1, e2, bd_some]
        by_cases c2 : t (81 + 18 * q + 11 + 2 * k) ≤ x
        · rw [if_pos ((iI_le (by omega)).mpr c2)]
          dsimp only [f_X12_isStill_59]
          rw [show nI k + 1 = nI (k + 1) from nI_1 k, show (0 : Int32) = bI false from rfl, ih (k + 1) n false (by omega) (by omega)]
          rw [show stq t q x k = false from decide_eq_false (by omega), Bool.false_or]
        · rw [if_neg (fun q => c2 ((iI_le (by omega)).mp q))]
          dsimp only [f_X12_isStill_55]
          rw [show nI k + 1 = nI (k + 1) from nI_1 k, show (1 : Int32) = bI true from rfl, ih (k + 1) n true (by omega) (by omega)]
          rw [show stq t q x k = true from decide_eq_true (by omega), Bool.or_true]
    · rw [bI_t, if_neg (by decide)]
      dsimp only [f_X12_isStill_55]
      rw [nI_1, show (1 : Int32) = bI true from rfl, ih (k + 1) n true (by omega) (by omega)]
      rfl
theorem m_isStill (hN : 2000 ≤ N) (hR : RO R s) (hT : TV t σ) (hO : TOk t) {q : Nat} (hq : (q : Int) < t 0) {x : Int} (hx : -2147483648 ≤ x ∧ x ≤ 2147483647) : f_X12_isStill N R σ 178 (nI q) (iI x) = some (bI (still t q x), σ) := by
  have hw := (hO.n hq).2.2.2.1
  unfold f_X12_isStill
  exact m_still5 hR hT hO hq hx (t (81 + 18 * q + 9)).toNat 0 N false (by omega) (by omega)
theorem c_quiet2 (h : Iv σ R s t w) {q : Nat} (hq : (q : Int) < t 0) {x : Int} (hx : -2147483648 ≤ x ∧ x ≤ 2147483647) : ∀ (m k n : Nat), k + m = (t (81 + 18 * q + 9)).toNat → m < n → f_X4_quietAt_2 N R n σ (s + 10 + 3 * q) (iI x) (nI k) = some (bI (lp (fun k a => a || stq t q x k) k m false), σ) := by
  have hO := h.tok
  have h0 := hO.1
  have hw := (hO.n hq).2.2.2.1
  have hk4 := (hO.n hq).2.2.2.2
  have e5 := (h.cq.2.2.1 q hq).2.2.2.1
  have ek := (h.cq.2.2.1 q hq).2.2.2.2
  intro m
  induction m with
  | zero =>
    intro k n hk hm
    obtain ⟨n, rfl⟩ : ∃ q, n = q + 1 := ⟨n - 1, by omega⟩
    rw [f_X4_quietAt_2, e5, if_pos ((iI_leN (by omega)).mpr (by omega))]
    rfl
  | succ m ih =>
    intro k n hk hm
    obtain ⟨n, rfl⟩ : ∃ q, n = q + 1 := ⟨n - 1, by omega⟩
    have hr := hk4 k (by omega)
    rw [f_X4_quietAt_2, e5, if_neg (fun q => absurd ((iI_leN (by omega)).mp q) (by omega)), lp_s, ck_nI (by omega) (by decide), h.ro.nbA q (by omega) 0 (by decide), h.ro.nbA q (by omega) 1 (by decide), nI_clamp (by omega), Nat.add_zero, show s + 11 + 3 * q + 1 = s + 12 + 3 * q by omega, (ek k (by omega)).1]
    by_cases c1 : x < t (81 + 18 * q + 10 + 2 * k)
    · rw [if_pos ((iI_lt (by omega)).mpr c1)]
      dsimp only [f_X4_quietAt_32]
      rw [nI_1, ih (k + 1) n (by omega) (by omega), show stq t q x k = false from decide_eq_false (by omega), Bool.false_or]
    · rw [if_neg (fun q => c1 ((iI_lt (by omega)).mp q)), ck_nI (by omega) (by decide), (ek k (by omega)).2]
      by_cases c2 : t (81 + 18 * q + 11 + 2 * k) ≤ x
      · rw [if_pos ((iI_le (by omega)).mpr c2)]
        dsimp only [f_X4_quietAt_32]
        rw [nI_1, ih (k + 1) n (by omega) (by omega), show stq t q x k = false from decide_eq_false (by omega), Bool.false_or]
      · rw [if_neg (fun q => c2 ((iI_le (by omega)).mp q)), show stq t q x k = true from decide_eq_true (by omega), Bool.or_true, lp_or_t]
        rfl
theorem c_quietAt (hN : 2000 ≤ N) (h : Iv σ R s t w) {q : Nat} (hq : (q : Int) < t 0) {x : Int} (hx : -2147483648 ≤ x ∧ x ≤ 2147483647) : f_X4_quietAt N R σ (s + 10 + 3 * q) (iI x) = some (bI (still t q x), σ) := by
  have hw := (h.tok.n hq).2.2.2.1
  unfold f_X4_quietAt
  exact c_quiet2 h hq hx (t (81 + 18 * q + 9)).toNat 0 N (by omega) (by omega)
/-! dust -/
theorem m_stepX {d : Int} (h : 0 ≤ d ∧ d ≤ 7) : f_X12_stepX N R σ (iI d) = some (iI (wX d), σ) := by
  rcases (show d = 0 ∨ d = 1 ∨ d = 2 ∨ d = 3 ∨ d = 4 ∨ d = 5 ∨ d = 6 ∨ d = 7 by omega) with rfl | rfl | rfl | rfl | rfl | rfl | rfl | rfl <;> rfl
theorem m_stepY {d : Int} (h : 0 ≤ d ∧ d ≤ 7) : f_X12_stepY N R σ (iI d) = some (iI (wY d), σ) := by
  rcases (show d = 0 ∨ d = 1 ∨ d = 2 ∨ d = 3 ∨ d = 4 ∨ d = 5 ∨ d = 6 ∨ d = 7 by omega) with rfl | rfl | rfl | rfl | rfl | rfl | rfl | rfl <;> rfl
theorem wXY_r (d : Int) : (-1 ≤ wX d ∧ wX d ≤ 1) ∧ -1 ≤ wY d ∧ wY d ≤ 1 := by
  unfold wX wY
  constructor
  · split
    · omega
    · split <;> omega
  · split
    · omega
    · split <;> omega
theorem dustX {dx dy x y sp : Int} (h : (-999 ≤ dx ∧ dx ≤ 999) ∧ (-999 ≤ dy ∧ dy ≤ 999) ∧ (-1 ≤ x ∧ x ≤ 1) ∧ (-1 ≤ y ∧ y ≤ 1) ∧ 0 ≤ sp ∧ sp ≤ 20) :
    (if iI dx * iI x + iI dy * iI y ≤ 0 then some ((0 : Int32), σ) else if iI dx * iI x + iI dy * iI y < (if 0 ≤ iI dx * iI y - iI dy * iI x then iI dx * iI y - iI dy * iI x else 0 - (iI dx * iI y - iI dy * iI x)) then some ((0 : Int32), σ) else if ((50 : Int32) * iI sp) * ((50 : Int32) * iI sp) < iI dx * iI dx + iI dy * iI dy then some ((0 : Int32), σ) else some ((1 : Int32), σ)) =
      some (bI (decide (0 < dx * x + dy * y ∧ (if dx * y - dy * x < 0 then -(dx * y - dy * x) else dx * y - dy * x) ≤ dx * x + dy * y ∧ dx * dx + dy * dy ≤ (50 * sp) * (50 * sp))), σ) := by
  obtain ⟨h1, h2, h3, h4, h5⟩ := h
  have a1 := mul_c (a := dx) (b := x) (A := 999) (B := 1) (C := 999) (by omega) (by omega) rfl
  have a2 := mul_c (a := dy) (b := y) (A := 999) (B := 1) (C := 999) (by omega) (by omega) rfl
  have a3 := mul_c (a := dx) (b := y) (A := 999) (B := 1) (C := 999) (by omega) (by omega) rfl
  have a4 := mul_c (a := dy) (b := x) (A := 999) (B := 1) (C := 999) (by omega) (by omega) rfl
  have a5 := mul_c (a := dx) (b := dx) (A := 999) (B := 999) (C := 998001) (by omega) (by omega) rfl
  have a6 := mul_c (a := dy) (b := dy) (A := 999) (B := 999) (C := 998001) (by omega) (by omega) rfl
  have a7 := mul_c (a := 50 * sp) (b := 50 * sp) (A := 1000) (B := 1000) (C := 1000000) (by omega) (by omega) rfl
  simp only [show (50 : Int32) = iI 50 from rfl, show (0 : Int32) = iI 0 from rfl, show (1 : Int32) = iI 1 from rfl, iI_mul, iI_add, iI_sub]
  generalize dx * x = A1 at *
  generalize dy * y = A2 at *
  generalize dx * y = A3 at *
  generalize dy * x = A4 at *
  generalize dx * dx = A5 at *
  generalize dy * dy = A6 at *
  generalize 50 * sp * (50 * sp) = A7 at *
  have g1 := iI_le (a := A1 + A2) (b := 0) (by omega)
  by_cases c1 : A1 + A2 ≤ 0
  · rw [if_pos (g1.mpr c1), decide_eq_false (by omega)]
    rfl
  · rw [if_neg (fun q => c1 (g1.mp q))]
    have e : (if iI 0 ≤ iI (A3 - A4) then iI (A3 - A4) else iI (0 - (A3 - A4))) = iI (if A3 - A4 < 0 then -(A3 - A4) else A3 - A4) := by
      have g2 := iI_le (a := 0) (b := A3 - A4) (by omega)
      by_cases c2 : A3 - A4 < 0
      · rw [if_neg (fun q => by have := g2.mp q; omega), if_pos c2, Int.zero_sub]
      · rw [if_pos (g2.mpr (by omega)), if_neg c2]
    rw [e]
    have hb : -2000 ≤ (if A3 - A4 < 0 then -(A3 - A4) else A3 - A4) ∧ (if A3 - A4 < 0 then -(A3 - A4) else A3 - A4) ≤ 2000 := by split <;> omega
    generalize (if A3 - A4 < 0 then -(A3 - A4) else A3 - A4) = B at *
    have g3 := iI_lt (a := A1 + A2) (b := B) (by omega)
    have g4 := iI_lt (a := A7) (b := A5 + A6) (by omega)
    by_cases c3 : A1 + A2 < B
    · rw [if_pos (g3.mpr c3), decide_eq_false (by omega)]
      rfl
    · rw [if_neg (fun q => c3 (g3.mp q))]
      by_cases c4 : A7 < A5 + A6
      · rw [if_pos (g4.mpr c4), decide_eq_false (by omega)]
        rfl
      · rw [if_neg (fun q => c4 (g4.mp q)), decide_eq_true (by omega)]
        rfl
theorem m_isDusty (hR : RO R s) (hT : TV t σ) (hO : TOk t) {b n k : Nat} (hb : (b : Int) < t 2) (hn : (n : Int) < t 0) (hk : k < 24) : f_X12_isDusty N R σ 178 (nI b) (nI n) (nI k) = some (bI (isD t b k n), σ) := by
  have h2 := hO.2.2.1
  have h0 := hO.1
  have e1 := hO.b hb
  have e2 := hO.n hn
  have e3 := hO.h hk
  have hx := wXY_r (t (9 + 3 * k + 1))
  unfold f_X12_isDusty f_X12_squared
  rw [show (9 : Int32) = nI 9 from rfl, show (3 : Int32) = nI 3 from rfl, show (1 : Int32) = nI 1 from rfl, show (2 : Int32) = nI 2 from rfl, nI_mul, nI_add, nI_add, nI_add, ck_nI (by omega) (by decide), nI_clamp (by omega), hR.m11, hT]
  rcases e3.1 with e | e
  · rw [e, if_pos (show iI 0 = 0 from rfl)]
    unfold isD
    dsimp only
    rw [decide_eq_false (by omega)]
    rfl
  · rw [e, if_neg (by decide), m_near6 hR hT (by omega), bd_some, m_bl6 hR hT (by omega), bd_some, m_near7 hR hT (by omega), bd_some, m_bl7 hR hT (by omega), bd_some, ck_nI (by omega) (by decide), nI_clamp (by omega), hT, m_stepX (by omega), bd_some, ck_nI (by omega) (by decide), hT, m_stepY (by omega), bd_some, ck_nI (by omega) (by decide), nI_clamp (by omega), hT, bd_some]
    simp only [iI_sub]
    have g := dustX (σ := σ) (dx := t (81 + 18 * n + 6) - t (285 + 22 * b + 6)) (dy := t (81 + 18 * n + 7) - t (285 + 22 * b + 7)) (x := wX (t (9 + 3 * k + 1))) (y := wY (t (9 + 3 * k + 1))) (sp := t (9 + 3 * k + 2)) (by omega)
    rw [show (nI 1 : Int32) = 1 from rfl]
    refine g.trans ?_
    unfold isD dist
    dsimp only
    congr 3
    rw [e]
    refine decide_eq_decide.mpr ⟨fun q => ⟨by decide, q⟩, fun q => q.2⟩
theorem m_dusty5 (hR : RO R s) (hT : TV t σ) (hO : TOk t) {b q : Nat} (hb : (b : Int) < t 2) (hq : q < 24) : ∀ (m k n : Nat) (acc : Int32), k + m = nN t → m < n → f_X12_dusty_5 N R n σ 178 (nI b) (nI q) acc (nI k) = some (bts (isD t b q) k m acc, σ) := by
  have hn := nN_c hO
  intro m
  induction m with
  | zero =>
    intro k n acc hk hm
    obtain ⟨n, rfl⟩ : ∃ q, n = q + 1 := ⟨n - 1, by omega⟩
    rw [f_X12_dusty_5, ck0, hR.m11, cl0, hT, if_pos ((iI_leN (by omega)).mpr (by omega))]
    rfl
  | succ m ih =>
    intro k n acc hk hm
    obtain ⟨n, rfl⟩ : ∃ q, n = q + 1 := ⟨n - 1, by omega⟩
    rw [f_X12_dusty_5, ck0, hR.m11, cl0, hT, if_neg (fun q => absurd ((iI_leN (by omega)).mp q) (by omega)), m_isDusty hR hT hO hb (by omega) hq, bd_some, bts_s, or_z, nI_1]
    cases isD t b q k
    · rw [bI_f, if_pos rfl, ih (k + 1) n _ (by omega) (by omega), if_neg (by decide)]
    · rw [bI_t, if_neg (by decide), ih (k + 1) n _ (by omega) (by omega), if_pos rfl]
theorem m_dusty (hN : 2000 ≤ N) (hR : RO R s) (hT : TV t σ) (hO : TOk t) {b q : Nat} (hb : (b : Int) < t 2) (hq : q < 24) : f_X12_dusty N R σ 178 (nI b) (nI q) = some (bts (isD t b q) 0 (nN t) 0, σ) := by
  have hn := nN_c hO
  unfold f_X12_dusty
  exact m_dusty5 hR hT hO hb hq (nN t) 0 N 0 (by omega) (by omega)
def dhs (t : Nat → Int) (b : Nat) : Nat → Bool := fun q => !decide (bts (isD t b q) 0 (nN t) 0 = 0)
theorem m_dustHours (hN : 2000 ≤ N) (hR : RO R s) (hT : TV t σ) (hO : TOk t) {b : Nat} (hb : (b : Int) < t 2) : ∀ (m k n : Nat) (acc : Int32), k + m = 24 → m < n → f_X12_dustHours_19 N R n σ 178 (nI b) acc (nI k) = some (bts (dhs t b) k m acc, σ) := by
  intro m
  induction m with
  | zero =>
    intro k n acc hk hm
    obtain ⟨n, rfl⟩ : ∃ q, n = q + 1 := ⟨n - 1, by omega⟩
    rw [f_X12_dustHours_19, if_pos (by rw [show k = 24 by omega]; decide)]
    rfl
  | succ m ih =>
    intro k n acc hk hm
    obtain ⟨n, rfl⟩ : ∃ q, n = q + 1 := ⟨n - 1, by omega⟩
    rw [f_X12_dustHours_19, if_neg (by rw [show (24 : Int32) = nI 24 from rfl, nI_leI (by omega) (by omega)]; omega), m_dusty hN hR hT hO hb (by omega), bd_some, bts_s, or_z, nI_1]
    by_cases c : bts (isD t b k) 0 (nN t) 0 = 0
    · rw [if_pos c, ih (k + 1) n _ (by omega) (by omega), show dhs t b k = false by unfold dhs; rw [decide_eq_true c]; rfl, if_neg (by decide)]
    · rw [if_neg c, ih (k + 1) n _ (by omega) (by omega), show dhs t b k = true by unfold dhs; rw [decide_eq_false c]; rfl, if_pos rfl]
theorem c_dustHours (h : Iv σ R s t w) {b : Nat} (hb : (b : Int) < t 2) : ∀ (m k n : Nat) (acc : Int32), k + m = 24 → m < n → f_X11_dustHours_11 N R n σ (s + 40 + 5 * b) acc (nI k) = some (.inl (bts (dhs t b) k m acc), σ) := by
  have h2 := h.tok.2.2.1
  intro m
  induction m with
  | zero =>
    intro k n acc hk hm
    obtain ⟨n, rfl⟩ : ∃ q, n = q + 1 := ⟨n - 1, by omega⟩
    rw [f_X11_dustHours_11, if_pos (by rw [show k = 24 by omega]; decide)]
    rfl
  | succ m ih =>
    intro k n acc hk hm
    obtain ⟨n, rfl⟩ : ∃ q, n = q + 1 := ⟨n - 1, by omega⟩
    rw [f_X11_dustHours_11, if_neg (by rw [show (24 : Int32) = nI 24 from rfl, nI_leI (by omega) (by omega)]; omega), ck_nI (by omega) (by decide), h.ro.blA b (by omega) 3 (by decide), nI_clamp (by omega), show s + 41 + 5 * b + 3 = s + 44 + 5 * b by omega, (h.cd b hb).2.2.2 k (by omega), bts_s]
    dsimp only [f_X11_dustHours_35]
    rw [nI_1]
    by_cases c : bts (isD t b k) 0 (nN t) 0 = 0
    · rw [if_pos c, ih (k + 1) n _ (by omega) (by omega), show dhs t b k = false by unfold dhs; rw [decide_eq_true c]; rfl, if_neg (by decide)]
    · rw [if_neg c, ih (k + 1) n _ (by omega) (by omega), show dhs t b k = true by unfold dhs; rw [decide_eq_false c]; rfl, if_pos rfl]
end QD

theorem ag_23 {N : Nat} (hN : 2000 ≤ N) : Ag_23 N Inv := by
  intro σ R a1 a2 hI
  obtain ⟨s, t, w, h⟩ := hI
  have hR := h.ro
  have hO := h.tok
  have hT := h.tv
  have hW := h.wv
  have q1 : Same σ (up σ 178 0 0) := same_up (by unfold Sc; omega)
  have hT1 := hT.same q1
  have hW1 := hW.same q1
  have h1 := h.same q1
  by_cases c1 : 0 ≤ a1.toInt ∧ a1.toInt < t 0
  rotate_left
  · refine ⟨.inr 0, σ, 0, up (up σ 178 0 0) 178 0 1, ?_, ?_, ⟨s, t, w, h1.same (same_up (by unfold Sc; omega))⟩, fun v e => (by cases e), fun q e => (by cases e; first | exact ⟨rfl, up_th⟩ | exact Or.inl ⟨rfl, up_th⟩ | exact Or.inr ⟨rfl, up_th⟩ | exact Or.inr (Or.inl ⟨rfl, up_th⟩) | exact Or.inr (Or.inr ⟨rfl, up_th⟩))⟩
    · unfold f_X11_isQuiet
      rw [c_nb_bad h c1, bdX_inr]
    · unfold f_X12_isQuiet
      rw [sq_eq, m_nb_bad hR hT1 hO c1, bd_some, if_neg (by decide)]
      try rfl
  obtain ⟨n, rfl, e1⟩ := i32_nI (by omega) c1.2
  have l1 : (n : Int) < t 0 := by omega
  refine ⟨.inl (bI (still t n a2.toInt)), σ, bI (still t n a2.toInt), up σ 178 0 0, ?_, ?_, ⟨s, t, w, h1⟩, fun v e => (by cases e; exact ⟨by first | exact up_th | (simp only [up_th]), rfl⟩), fun q e => (by cases e)⟩
  · unfold f_X11_isQuiet
    rw [c_nb_ok h l1, bdX_inl]
    rw [iI_of a2, c_quietAt hN h l1 ⟨i32_lo a2, i32_hi a2⟩, bd_some, cb_bI, ← iI_of a2]
  · unfold f_X12_isQuiet
    rw [sq_eq, m_nb_ok hR hT1 hO l1, bd_some, if_pos rfl]
    rw [iI_of a2, m_isStill hN hR hT1 hO l1 ⟨i32_lo a2, i32_hi a2⟩, bd_some, ← iI_of a2]
    cases still t n a2.toInt
    · rw [bI_f, if_pos rfl]
    · rw [bI_t, if_neg (by decide)]
theorem ag_24 {N : Nat} (hN : 2000 ≤ N) : Ag_24 N Inv := by
  intro σ R a1 a2 hI
  obtain ⟨s, t, w, h⟩ := hI
  have hR := h.ro
  have hO := h.tok
  have hT := h.tv
  have hW := h.wv
  have q1 : Same σ (up σ 178 0 0) := same_up (by unfold Sc; omega)
  have hT1 := hT.same q1
  have hW1 := hW.same q1
  have h1 := h.same q1
  by_cases c1 : 0 ≤ a1.toInt ∧ a1.toInt < t 2
  rotate_left
  · refine ⟨.inr 0, σ, 0, up (up σ 178 0 0) 178 0 1, ?_, ?_, ⟨s, t, w, h1.same (same_up (by unfold Sc; omega))⟩, fun v e => (by cases e), fun q e => (by cases e; first | exact ⟨rfl, up_th⟩ | exact Or.inl ⟨rfl, up_th⟩ | exact Or.inr ⟨rfl, up_th⟩ | exact Or.inr (Or.inl ⟨rfl, up_th⟩) | exact Or.inr (Or.inr ⟨rfl, up_th⟩))⟩
    · unfold f_X11_dustAt
      rw [c_bl_bad h c1, bdX_inr]
    · unfold f_X12_dustAt
      rw [sq_eq, m_bl_bad hR hT1 hO c1, bd_some, if_neg (by decide)]
      try rfl
  obtain ⟨b, rfl, e1⟩ := i32_nI (by omega) c1.2
  have l1 : (b : Int) < t 2 := by omega
  by_cases c2 : 0 ≤ a2.toInt ∧ a2.toInt ≤ 23
  rotate_left
  · refine ⟨.inr 1, σ, 0, up (up σ 178 0 0) 178 0 2, ?_, ?_, ⟨s, t, w, h1.same (same_up (by unfold Sc; omega))⟩, fun v e => (by cases e), fun q e => (by cases e; first | exact ⟨rfl, up_th⟩ | exact Or.inl ⟨rfl, up_th⟩ | exact Or.inr ⟨rfl, up_th⟩ | exact Or.inr (Or.inl ⟨rfl, up_th⟩) | exact Or.inr (Or.inr ⟨rfl, up_th⟩))⟩
    · unfold f_X11_dustAt
      rw [c_bl_ok h l1, bdX_inl, c_needRange, if_neg (show ¬ ((0 : Int32).toInt ≤ a2.toInt ∧ a2.toInt ≤ (23 : Int32).toInt) from c2), bdX_inr]
    · unfold f_X12_dustAt
      rw [sq_eq, m_bl_ok hR hT1 hO l1, bd_some, if_pos rfl, m_in, bd_some, decide_eq_false (show ¬ ((0 : Int32).toInt ≤ a2.toInt ∧ a2.toInt ≤ (23 : Int32).toInt) from c2), bI_f, if_pos rfl, m_throws1, bd_some, if_neg (by decide)]
      try rfl
  obtain ⟨q, rfl, e2⟩ := i32_nI (x := a2) (n := 24) (by omega) (by omega)
  have l2 : (q : Int) < 24 := by omega
  refine ⟨.inl (bts (isD t b q) 0 (nN t) 0), σ, bts (isD t b q) 0 (nN t) 0, up σ 178 0 0, ?_, ?_, ⟨s, t, w, h1⟩, fun v e => (by cases e; exact ⟨by first | exact up_th | (simp only [up_th]), rfl⟩), fun q e => (by cases e)⟩
  · unfold f_X11_dustAt
    rw [c_bl_ok h l1, bdX_inl, c_needRange, if_pos (show (0 : Int32).toInt ≤ Int32.toInt (nI q) ∧ Int32.toInt (nI q) ≤ (23 : Int32).toInt from c2), bdX_inl]
    rw [ck_nI (by omega) (by decide), hR.blA b (by have := hO.2.2.1; omega) 3 (by decide), nI_clamp (by omega), show s + 41 + 5 * b + 3 = s + 44 + 5 * b by omega, (h.cd b l1).2.2.2 q (by omega)]
  · unfold f_X12_dustAt
    rw [sq_eq, m_bl_ok hR hT1 hO l1, bd_some, if_pos rfl, m_in, bd_some, decide_eq_true (show (0 : Int32).toInt ≤ Int32.toInt (nI q) ∧ Int32.toInt (nI q) ≤ (23 : Int32).toInt from c2), bI_t, if_neg (by decide), m_throws0, bd_some, if_pos rfl]
    rw [m_dusty hN hR hT1 hO l1 (by omega), bd_some]
theorem ag_27 {N : Nat} (hN : 2000 ≤ N) : Ag_27 N Inv := by
  intro σ R a1 hI
  obtain ⟨s, t, w, h⟩ := hI
  have hR := h.ro
  have hO := h.tok
  have hT := h.tv
  have hW := h.wv
  have q1 : Same σ (up σ 178 0 0) := same_up (by unfold Sc; omega)
  have hT1 := hT.same q1
  have hW1 := hW.same q1
  have h1 := h.same q1
  by_cases c1 : 0 ≤ a1.toInt ∧ a1.toInt < t 2
  rotate_left
  · refine ⟨.inr 0, σ, 0, up (up σ 178 0 0) 178 0 1, ?_, ?_, ⟨s, t, w, h1.same (same_up (by unfold Sc; omega))⟩, fun v e => (by cases e), fun q e => (by cases e; first | exact ⟨rfl, up_th⟩ | exact Or.inl ⟨rfl, up_th⟩ | exact Or.inr ⟨rfl, up_th⟩ | exact Or.inr (Or.inl ⟨rfl, up_th⟩) | exact Or.inr (Or.inr ⟨rfl, up_th⟩))⟩
    · unfold f_X11_dustHours
      rw [c_bl_bad h c1, bdX_inr]
    · unfold f_X12_dustHours
      rw [sq_eq, m_bl_bad hR hT1 hO c1, bd_some, if_neg (by decide)]
      try rfl
  obtain ⟨b, rfl, e1⟩ := i32_nI (by omega) c1.2
  have l1 : (b : Int) < t 2 := by omega
  refine ⟨.inl (bts (dhs t b) 0 24 0), σ, bts (dhs t b) 0 24 0, up σ 178 0 0, ?_, ?_, ⟨s, t, w, h1⟩, fun v e => (by cases e; exact ⟨by first | exact up_th | (simp only [up_th]), rfl⟩), fun q e => (by cases e)⟩
  · unfold f_X11_dustHours
    rw [c_bl_ok h l1, bdX_inl]
    exact c_dustHours h l1 24 0 N 0 (by decide) (by omega)
  · unfold f_X12_dustHours
    rw [sq_eq, m_bl_ok hR hT1 hO l1, bd_some, if_pos rfl]
    exact m_dustHours hN hR hT1 hO l1 24 0 N 0 (by decide) (by omega)
