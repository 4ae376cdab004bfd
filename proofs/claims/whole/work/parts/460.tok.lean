/-! ===== the text, token by token ===== -/
theorem up_self {σ : SI} {o k : Nat} {v : Int32} (h : σ o k = v) : up σ o k v = σ := by
  funext a j
  unfold up
  by_cases c : a = o ∧ j = k
  · rw [if_pos c, c.1, c.2, h]
  · rw [if_neg c]
theorem up_up (σ : SI) (o k : Nat) (v w : Int32) : up (up σ o k v) o k w = up σ o k w := by
  funext a j
  unfold up
  by_cases c : a = o ∧ j = k
  · rw [if_pos c, if_pos c]
  · rw [if_neg c, if_neg c, if_neg c]
def blk (B : Nat → Int32) (n p : Nat) : Bool := decide (p < n) && (decide (B p = 32) || (decide (B p = 9) || decide (B p = 10)))
def skF (B : Nat → Int32) (n : Nat) : Nat → Nat → Nat
  | 0, p => p
  | f + 1, p => if blk B n p then skF B n f (p + 1) else p
def sk (B : Nat → Int32) (n p : Nat) : Nat := skF B n (n - p) p
theorem skF_s (B : Nat → Int32) (n f p : Nat) : skF B n (f + 1) p = if blk B n p then skF B n f (p + 1) else p := rfl
theorem skF_r {B : Nat → Int32} {n : Nat} : ∀ f p, f = n - p → p ≤ skF B n f p ∧ (p ≤ n → skF B n f p ≤ n) ∧ blk B n (skF B n f p) = false := by
  intro f
  induction f with
  | zero =>
    intro p h
    refine ⟨Nat.le_refl _, fun q => q, ?_⟩
    show blk B n p = false
    unfold blk
    rw [decide_eq_false (by omega), Bool.false_and]
  | succ f ih =>
    intro p h
    rw [skF_s]
    cases hb : blk B n p
    · rw [if_neg (by decide)]
      exact ⟨Nat.le_refl _, fun q => q, hb⟩
    · rw [if_pos rfl]
      have := ih (p + 1) (by omega)
      exact ⟨by omega, fun q => this.2.1 (by omega), this.2.2⟩
theorem sk_r {B : Nat → Int32} {n p : Nat} : p ≤ sk B n p ∧ (p ≤ n → sk B n p ≤ n) ∧ blk B n (sk B n p) = false := skF_r (n - p) p rfl
theorem sk_id {B : Nat → Int32} {n p : Nat} (h : blk B n p = false) : sk B n p = p := by
  unfold sk
  cases hm : n - p with
  | zero => rfl
  | succ f =>
    rw [skF_s]
    rw [h, if_neg (by decide)]
theorem sk_sk {B : Nat → Int32} {n p : Nat} : sk B n (sk B n p) = sk B n p := sk_id sk_r.2.2
def isC (B : Nat → Int32) (n : Nat) (lo hi : Int32) (p : Nat) : Bool := decide (p < n) && (decide (lo ≤ B p) && decide (B p ≤ hi))
def erF (B : Nat → Int32) (n : Nat) (lo hi : Int32) : Nat → Nat → Nat
  | 0, p => p
  | f + 1, p => if isC B n lo hi p then erF B n lo hi f (p + 1) else p
def er (B : Nat → Int32) (n : Nat) (lo hi : Int32) (p : Nat) : Nat := erF B n lo hi (n - p) p
theorem erF_s (B : Nat → Int32) (n : Nat) (lo hi : Int32) (f p : Nat) : erF B n lo hi (f + 1) p = if isC B n lo hi p then erF B n lo hi f (p + 1) else p := rfl
theorem erF_r {B : Nat → Int32} {n : Nat} {lo hi : Int32} : ∀ f p, f = n - p → p ≤ erF B n lo hi f p ∧ (p ≤ n → erF B n lo hi f p ≤ n) ∧ isC B n lo hi (erF B n lo hi f p) = false ∧ ∀ j, p ≤ j → j < erF B n lo hi f p → isC B n lo hi j = true := by
  intro f
  induction f with
  | zero =>
    intro p h
    refine ⟨Nat.le_refl _, fun q => q, ?_, fun j h1 h2 => absurd (show j < p from h2) (by omega)⟩
    show isC B n lo hi p = false
    unfold isC
    rw [decide_eq_false (by omega), Bool.false_and]
  | succ f ih =>
    intro p h
    rw [erF_s]
    cases hb : isC B n lo hi p
    · rw [if_neg (by decide)]
      exact ⟨Nat.le_refl _, fun q => q, hb, fun j h1 h2 => by omega⟩
    · rw [if_pos rfl]
      have := ih (p + 1) (by omega)
      refine ⟨by omega, fun q => this.2.1 (by omega), this.2.2.1, fun j h1 h2 => ?_⟩
      by_cases e : j = p
      · rw [e]
        exact hb
      · exact this.2.2.2 j (by omega) h2
theorem er_r {B : Nat → Int32} {n p : Nat} {lo hi : Int32} : p ≤ er B n lo hi p ∧ (p ≤ n → er B n lo hi p ≤ n) ∧ isC B n lo hi (er B n lo hi p) = false ∧ ∀ j, p ≤ j → j < er B n lo hi p → isC B n lo hi j = true := erF_r (n - p) p rfl
theorem isC_n {B : Nat → Int32} {n p : Nat} {lo hi : Int32} (h : isC B n lo hi p = true) : p < n ∧ lo.toInt ≤ (B p).toInt ∧ (B p).toInt ≤ hi.toInt := by
  unfold isC at h
  rw [Bool.and_eq_true, Bool.and_eq_true, decide_eq_true_eq, decide_eq_true_eq, decide_eq_true_eq, Int32.le_iff_toInt_le, Int32.le_iff_toInt_le] at h
  exact h
def mtF (B : Nat → Int32) (q p : Nat) : Nat → Nat → Bool
  | _, 0 => true
  | i, m + 1 => decide (B (p + i) = chS q (nI i)) && mtF B q p (i + 1) m
theorem mtF_s (B : Nat → Int32) (q p i m : Nat) : mtF B q p i (m + 1) = (decide (B (p + i) = chS q (nI i)) && mtF B q p (i + 1) m) := rfl
def lnN (q : Nat) : Nat := strLen.getD q 0
def wm (B : Nat → Int32) (n q p : Nat) : Bool := decide (er B n 97 122 p - p = lnN q) && mtF B q p 0 (lnN q)
theorem lnS_q : ∀ q, q < 13 → lnS q = nI (lnN q) ∧ 1 ≤ lnN q ∧ lnN q ≤ 6 := by decide
def valI (B : Nat → Int32) : Nat → Nat → Int → Int
  | _, 0, v => v
  | p, m + 1, v => valI B (p + 1) m (10 * v + ((B p).toInt - 48))
theorem valI_s (B : Nat → Int32) : ∀ (m p : Nat) (v : Int), valI B p (m + 1) v = 10 * valI B p m v + ((B (p + m)).toInt - 48) := by
  intro m
  induction m with
  | zero => intro p v; rfl
  | succ m ih =>
    intro p v
    show valI B (p + 1) (m + 1) (10 * v + ((B p).toInt - 48)) = _
    rw [ih (p + 1), show p + 1 + m = p + (m + 1) by omega]
    rfl
theorem valI_r {B : Nat → Int32} : ∀ (m p : Nat) (v : Int), 0 ≤ v → (∀ j, p ≤ j → j < p + m → 48 ≤ (B j).toInt ∧ (B j).toInt ≤ 57) → 0 ≤ valI B p m v ∧ valI B p m v + 1 ≤ 10 ^ m * (v + 1) := by
  intro m
  induction m with
  | zero =>
    intro p v hv _
    show 0 ≤ v ∧ v + 1 ≤ 10 ^ 0 * (v + 1)
    rw [Int.pow_zero, Int.one_mul]
    omega
  | succ m ih =>
    intro p v hv h
    have h0 := h p (by omega) (by omega)
    have h1 := ih (p + 1) (10 * v + ((B p).toInt - 48)) (by omega) (fun j h1 h2 => h j (by omega) (by omega))
    refine ⟨h1.1, Int.le_trans h1.2 ?_⟩
    rw [Int.pow_succ, Int.mul_assoc]
    exact Int.mul_le_mul_of_nonneg_left (by omega) (Int.le_of_lt (Int.pow_pos (by decide)))
theorem valI_5 {B : Nat → Int32} {p m : Nat} (hm : m ≤ 5) (h : ∀ j, p ≤ j → j < p + m → 48 ≤ (B j).toInt ∧ (B j).toInt ≤ 57) : 0 ≤ valI B p m 0 ∧ valI B p m 0 ≤ 99999 := by
  have h1 := valI_r m p 0 (by omega) h
  have h2 : (10 : Int) ^ m ≤ 100000 := by
    match m, hm with
    | 0, _ => decide
    | 1, _ => decide
    | 2, _ => decide
    | 3, _ => decide
    | 4, _ => decide
    | 5, _ => decide
    | m + 6, h => exact absurd h (by omega)
  omega
section TOK
variable {N : Nat} {R : Nat → Nat → Nat} {s : Nat} {t w : Nat → Int} {σ : SI} {B : Nat → Int32} {n p : Nat}
def CTk (σ : SI) (B : Nat → Int32) (n p : Nat) : Prop := n ≤ 800 ∧ p ≤ n ∧ σ 3 1 = nI n ∧ σ 3 2 = nI p ∧ ∀ j, j < n → σ 4 j = B j
def MTk (σ : SI) (B : Nat → Int32) (n p : Nat) : Prop := n ≤ 800 ∧ p ≤ 801 ∧ σ 178 6 = nI n ∧ σ 178 4 = nI p ∧ ∀ j, j < n → σ 179 j = B j
theorem CTk.fr (h : CTk σ B n p) {σ' : SI} {q : Nat} (hq : q ≤ n) (e : σ' 3 2 = nI q) (f : ∀ o j, (o = 3 ∧ j = 1) ∨ o = 4 → σ' o j = σ o j) : CTk σ' B n q := ⟨h.1, hq, (f _ _ (by omega)).trans h.2.2.1, e, fun j hj => (f _ _ (by omega)).trans (h.2.2.2.2 j hj)⟩
theorem MTk.fr (h : MTk σ B n p) {σ' : SI} {q : Nat} (hq : q ≤ 801) (e : σ' 178 4 = nI q) (f : ∀ o j, (o = 178 ∧ j = 6) ∨ o = 179 → σ' o j = σ o j) : MTk σ' B n q := ⟨h.1, hq, (f _ _ (by omega)).trans h.2.2.1, e, fun j hj => (f _ _ (by omega)).trans (h.2.2.2.2 j hj)⟩
theorem c_skF (hR : RO R s) : ∀ (f p fuel : Nat) (σ : SI), CTk σ B n p → f = n - p → f < fuel → f_X10_skipSpaces_0 N R fuel σ 3 = some ((), up σ 3 2 (nI (skF B n f p))) := by
  intro f
  induction f with
  | zero =>
    intro p fuel σ ⟨h1, h2, h3, h4, h5⟩ hf hfu
    obtain ⟨fuel, rfl⟩ : ∃ q, fuel = q + 1 := ⟨fuel - 1, by omega⟩
    rw [f_X10_skipSpaces_0, h3, h4, if_pos (by rw [nI_leI (by omega) (by omega)]; omega)]
    unfold skF
    rw [up_self h4]
  | succ f ih =>
    intro p fuel σ h hf hfu
    obtain ⟨h1, h2, h3, h4, h5⟩ := id h
    obtain ⟨fuel, rfl⟩ : ∃ q, fuel = q + 1 := ⟨fuel - 1, by omega⟩
    have i1 := ih (p + 1) fuel (up σ 3 2 (nI (p + 1))) (h.fr (by omega) up_th (fun o j q => if_neg (by omega))) (by omega) (by omega)
    rw [up_up] at i1
    rw [f_X10_skipSpaces_0, h3, h4, if_neg (by rw [nI_leI (by omega) (by omega)]; omega), ck_nI (by omega) (by decide), ck_nI (by omega) (by decide), ck_nI (by omega) (by decide), hR.r3_0, nI_clamp (by omega), h5 p (by omega)]
    dsimp only [f_X10_skipSpaces_53]
    rw [sq_eq, h4, nI_1, i1]
    rw [skF_s]
    unfold blk
    rw [decide_eq_true (show p < n by omega), Bool.true_and]
    by_cases c1 : B p = 32
    · rw [if_pos c1, decide_eq_true c1, Bool.true_or, if_pos rfl]
    · rw [if_neg c1, decide_eq_false c1, Bool.false_or]
      by_cases c2 : B p = 9
      · rw [if_pos c2, decide_eq_true c2, Bool.true_or, if_pos rfl]
      · rw [if_neg c2, decide_eq_false c2, Bool.false_or]
        by_cases c3 : B p = 10
        · rw [if_pos c3, decide_eq_true c3, if_pos rfl]
        · rw [if_neg c3, decide_eq_false c3, if_neg (by decide), up_self h4]
theorem c_skip (hN : 2000 ≤ N) (hR : RO R s) (h : CTk σ B n p) : f_X10_skipSpaces N R σ 3 = some ((), up σ 3 2 (nI (sk B n p))) ∧ CTk (up σ 3 2 (nI (sk B n p))) B n (sk B n p) := by
  refine ⟨?_, h.fr (sk_r.2.1 h.2.1) up_th (fun o j q => if_neg (by omega))⟩
  unfold f_X10_skipSpaces
  exact c_skF hR (n - p) p N σ h rfl (by have := h.1; omega)
theorem c_er (hR : RO R s) {lo hi : Int32} (h : CTk σ B n p) : ∀ (f p fuel : Nat), p ≤ n → f = n - p → f < fuel → f_X10_endOfRun_5 N R fuel σ 3 lo hi (nI p) = some (nI (erF B n lo hi f p), σ) := by
  obtain ⟨h1, -, h3, -, h5⟩ := h
  intro f
  induction f with
  | zero =>
    intro p fuel hp hf hfu
    obtain ⟨fuel, rfl⟩ : ∃ q, fuel = q + 1 := ⟨fuel - 1, by omega⟩
    rw [f_X10_endOfRun_5, h3, if_pos (by rw [nI_leI (by omega) (by omega)]; omega)]
    rfl
  | succ f ih =>
    intro p fuel hp hf hfu
    obtain ⟨fuel, rfl⟩ : ∃ q, fuel = q + 1 := ⟨fuel - 1, by omega⟩
    rw [f_X10_endOfRun_5, h3, if_neg (by rw [nI_leI (by omega) (by omega)]; omega), ck_nI (by omega) (by decide), ck_nI (by omega) (by decide), hR.r3_0, nI_clamp (by omega), h5 p (by omega), nI_1, ih (p + 1) fuel (by omega) (by omega) (by omega)]
    rw [erF_s]
    unfold isC
    rw [decide_eq_true (show p < n by omega), Bool.true_and]
    by_cases c1 : B p < lo
    · rw [if_pos c1, decide_eq_false (show ¬ lo ≤ B p from fun q => by rw [Int32.le_iff_toInt_le] at q; rw [Int32.lt_iff_toInt_lt] at c1; omega), Bool.false_and, if_neg (by decide)]
    · rw [if_neg c1, decide_eq_true (show lo ≤ B p by rw [Int32.le_iff_toInt_le]; rw [Int32.lt_iff_toInt_lt] at c1; omega), Bool.true_and]
      by_cases c2 : hi < B p
      · rw [if_pos c2, decide_eq_false (show ¬ B p ≤ hi from fun q => by rw [Int32.le_iff_toInt_le] at q; rw [Int32.lt_iff_toInt_lt] at c2; omega), if_neg (by decide)]
      · rw [if_neg c2, decide_eq_true (show B p ≤ hi by rw [Int32.le_iff_toInt_le]; rw [Int32.lt_iff_toInt_lt] at c2; omega), if_pos rfl]
theorem c_run (hN : 2000 ≤ N) (hR : RO R s) {lo hi : Int32} (h : CTk σ B n p) : f_X10_endOfRun N R σ 3 lo hi = some (nI (er B n lo hi p), σ) := by
  unfold f_X10_endOfRun
  rw [h.2.2.2.1]
  exact c_er hR h (n - p) p N h.2.1 rfl (by have := h.1; omega)
theorem c_tw30 (hR : RO R s) {q e : Nat} (hq : q < 13) (h : CTk σ B n p) (hpe : p + lnN q ≤ n) : ∀ (m i fuel : Nat), i + m = lnN q → m < fuel → f_X10_tookWord_30 N R fuel σ 3 q (nI e) (nI i) = if mtF B q p i m then some (1, up σ 3 2 (nI e)) else some (0, σ) := by
  obtain ⟨h1, h2, h3, h4, h5⟩ := h
  have hl := lnS_q q hq
  intro m
  induction m with
  | zero =>
    intro i fuel hi hfu
    obtain ⟨fuel, rfl⟩ : ∃ q, fuel = q + 1 := ⟨fuel - 1, by omega⟩
    rw [f_X10_tookWord_30, hl.1, if_pos (by rw [nI_leI (by omega) (by omega)]; omega), sq_eq]
    unfold mtF
    rw [if_pos rfl]
  | succ m ih =>
    intro i fuel hi hfu
    obtain ⟨fuel, rfl⟩ : ∃ q, fuel = q + 1 := ⟨fuel - 1, by omega⟩
    rw [f_X10_tookWord_30, hl.1, if_neg (by rw [nI_leI (by omega) (by omega)]; omega), h4, nI_add, ck_nI (by omega) (by decide), show strLen.getD q 0 = lnN q from rfl, ck_nI (by omega) (by omega), hR.r3_0, nI_clamp (by omega), h5 (p + i) (by omega), nI_1, ih (i + 1) fuel (by omega) (by omega)]
    rw [mtF_s]
    by_cases c : B (p + i) = chS q (nI i)
    · rw [if_pos c, decide_eq_true c, Bool.true_and]
    · rw [if_neg c, decide_eq_false c, Bool.false_and, if_neg (by decide)]
/-- where a word test ends -/
def wE (B : Nat → Int32) (n q p : Nat) : Nat := if wm B n q (sk B n p) then er B n 97 122 (sk B n p) else sk B n p
theorem wE_r (hp : p ≤ n) (q : Nat) : p ≤ wE B n q p ∧ wE B n q p ≤ n ∧ sk B n p ≤ wE B n q p := by
  have h1 := sk_r (B := B) (n := n) (p := p)
  have h2 := er_r (B := B) (n := n) (p := sk B n p) (lo := 97) (hi := 122)
  unfold wE
  split
  · exact ⟨by omega, h2.2.1 (h1.2.1 hp), h2.1⟩
  · exact ⟨h1.1, h1.2.1 hp, Nat.le_refl _⟩
theorem c_word (hN : 2000 ≤ N) (hR : RO R s) {q : Nat} (hq : q < 13) (h : CTk σ B n p) : ∃ σ', f_X10_tookWord N R σ 3 q = some (bI (wm B n q (sk B n p)), σ') ∧ CTk σ' B n (wE B n q p) ∧ ∀ o j, o ≠ 3 ∨ j ≠ 2 → σ' o j = σ o j := by
  obtain ⟨g1, g2⟩ := c_skip hN hR h
  have hl := lnS_q q hq
  have h2 := er_r (B := B) (n := n) (p := sk B n p) (lo := 97) (hi := 122)
  have h3 := h2.2.1 g2.2.1
  have h8 := h.1
  have hw := wE_r (B := B) (n := n) h.2.1 q
  refine ⟨up σ 3 2 (nI (wE B n q p)), ?_, h.fr hw.2.1 up_th (fun o j z => if_neg (by omega)), fun o j z => if_neg (by omega)⟩
  unfold f_X10_tookWord
  rw [g1, bd_some, c_run hN hR g2, bd_some, g2.2.2.2.1, nI_sub h2.1, hl.1]
  unfold wE wm
  by_cases c : er B n 97 122 (sk B n p) - sk B n p = lnN q
  · have e := c_tw30 (N := N) hR hq (e := er B n 97 122 (sk B n p)) g2 (by omega) (lnN q) 0 N (by omega) (by omega)
    rw [if_pos (by rw [c]), l_0, e, decide_eq_true c, Bool.true_and, up_up]
    cases mtF B q (sk B n p) 0 (lnN q)
    · rw [if_neg (by decide), if_neg (by decide)]
      rfl
    · rw [if_pos rfl, if_pos rfl]
      rfl
  · rw [if_neg (by rw [nI_eq (by omega) (by omega)]; exact c), decide_eq_false c, Bool.false_and, if_neg (by decide)]
    rfl
theorem c_val (hR : RO R s) (h : CTk σ B n p) {e : Nat} (he : e ≤ n) : ∀ (m q fuel : Nat) (v : Int), q + m = e → m < fuel → f_X10_valueUpTo_7 N R fuel σ 3 (nI e) (iI v) (nI q) = some (iI (valI B q m v), σ) := by
  obtain ⟨h1, -, -, -, h5⟩ := h
  intro m
  induction m with
  | zero =>
    intro q fuel v hq hfu
    obtain ⟨fuel, rfl⟩ : ∃ q, fuel = q + 1 := ⟨fuel - 1, by omega⟩
    rw [f_X10_valueUpTo_7, if_pos (by rw [nI_leI (by omega) (by omega)]; omega)]
    rfl
  | succ m ih =>
    intro q fuel v hq hfu
    obtain ⟨fuel, rfl⟩ : ∃ q, fuel = q + 1 := ⟨fuel - 1, by omega⟩
    have e : iI v * (10 : Int32) + B q - (48 : Int32) = iI (10 * v + ((B q).toInt - 48)) := by
      rw [show (10 : Int32) = iI 10 from rfl, show (48 : Int32) = iI 48 from rfl, iI_of (B q), iI_mul, iI_add, iI_sub, ← iI_of (B q)]
      congr 1
      omega
    rw [f_X10_valueUpTo_7, if_neg (by rw [nI_leI (by omega) (by omega)]; omega), ck_nI (by omega) (by decide), hR.r3_0, nI_clamp (by omega), h5 q (by omega), e, nI_1]
    exact ih (q + 1) fuel _ (by omega) (by omega)
/-- the number that stands next, as both read it -/
def nE (B : Nat → Int32) (n p : Nat) : Nat := er B n 48 57 (sk B n p)
def nV (B : Nat → Int32) (n p : Nat) : Int := valI B (sk B n p) (nE B n p - sk B n p) 0
def nG (B : Nat → Int32) (n p : Nat) (lo hi : Int) : Prop := sk B n p < nE B n p ∧ nE B n p - sk B n p ≤ 5 ∧ lo ≤ nV B n p ∧ nV B n p ≤ hi
def nK (B : Nat → Int32) (n p : Nat) : Nat := if nE B n p = sk B n p then 1 else 2
theorem nE_r : sk B n p ≤ nE B n p ∧ (p ≤ n → nE B n p ≤ n) ∧ ∀ j, sk B n p ≤ j → j < nE B n p → j < n ∧ 48 ≤ (B j).toInt ∧ (B j).toInt ≤ 57 := by
  have h1 := sk_r (B := B) (n := n) (p := p)
  have h2 := er_r (B := B) (n := n) (p := sk B n p) (lo := 48) (hi := 57)
  exact ⟨h2.1, fun q => h2.2.1 (h1.2.1 q), fun j j1 j2 => isC_n (h2.2.2.2 j j1 j2)⟩
theorem nV_r (h : nE B n p - sk B n p ≤ 5) : 0 ≤ nV B n p ∧ nV B n p ≤ 99999 := by
  have h1 := nE_r (B := B) (n := n) (p := p)
  exact valI_5 h (fun j j1 j2 => (h1.2.2 j j1 (by omega)).2)
theorem c_fail (h : σ 3 4 = 0) (a b : Int32) : f_X10_fail N R σ 3 a b = some ((), up (up σ 3 3 a) 3 4 b) := by
  unfold f_X10_fail
  rw [if_pos h, sq_eq, sq_eq]
theorem c_num_ok (hN : 2000 ≤ N) (hR : RO R s) (h : CTk σ B n p) (h0 : σ 3 4 = 0) {lo hi : Int} (hl : 0 ≤ lo ∧ lo ≤ 100000) (hh : 0 ≤ hi ∧ hi ≤ 100000) : (nG B n p lo hi → ∃ σ', f_X10_takeNumber N R σ 3 (iI lo) (iI hi) = some (iI (nV B n p), σ') ∧ CTk σ' B n (nE B n p) ∧ ∀ o j, o ≠ 3 ∨ j ≠ 2 → σ' o j = σ o j) ∧ (¬ nG B n p lo hi → ∃ σ', f_X10_takeNumber N R σ 3 (iI lo) (iI hi) = some (-1, σ') ∧ CTk σ' B n (sk B n p) ∧ σ' 3 3 = nI (sk B n p) ∧ σ' 3 4 = nI (nK B n p) ∧ ∀ o j, o ≠ 3 ∨ j < 2 ∨ 4 < j → σ' o j = σ o j) := by
  obtain ⟨g1, g2⟩ := c_skip hN hR h
  have hE := nE_r (B := B) (n := n) (p := p)
  have hEn := hE.2.1 h.2.1
  have h8 := h.1
  have z4 : up σ 3 2 (nI (sk B n p)) 3 4 = 0 := (if_neg (by omega)).trans h0
  have bad : ∀ (a b : Nat), f_X10_fail N R (up σ 3 2 (nI (sk B n p))) 3 (nI a) (nI b) = some ((), up (up (up σ 3 2 (nI (sk B n p))) 3 3 (nI a)) 3 4 (nI b)) := fun a b => c_fail z4 _ _
  have e74 : f_X10_takeNumber_74 N R (up σ 3 2 (nI (sk B n p))) 3 = some (-1, up (up (up σ 3 2 (nI (sk B n p))) 3 3 (nI (sk B n p))) 3 4 (nI 2)) := by
    unfold f_X10_takeNumber_74
    rw [g2.2.2.2.1, show (2 : Int32) = nI 2 from rfl, bad, bd_some]
  have row : f_X10_takeNumber N R σ 3 (iI lo) (iI hi) = @ite _ (nG B n p lo hi) (Classical.propDecidable _) (some (iI (nV B n p), up σ 3 2 (nI (nE B n p)))) (some (-1, up (up (up σ 3 2 (nI (sk B n p))) 3 3 (nI (sk B n p))) 3 4 (nI (nK B n p)))) := by
    unfold f_X10_takeNumber f_X10_failed
    rw [if_pos h0, bd_some, if_pos rfl, g1, bd_some, c_run hN hR g2, bd_some, g2.2.2.2.1, show er B n 48 57 (sk B n p) = nE B n p from rfl, e74]
    unfold nK
    by_cases c1 : nE B n p = sk B n p
    · rw [if_pos (by rw [c1]), show (1 : Int32) = nI 1 from rfl, bad, bd_some, if_neg (fun q => by have := q.1; omega), if_pos c1]
    · rw [if_neg (by rw [nI_eq (by omega) (by omega)]; exact c1), nI_sub hE.1, if_neg c1]
      by_cases c2 : nE B n p - sk B n p ≤ 5
      · have hv := nV_r c2
        have ev : f_X10_valueUpTo N R (up σ 3 2 (nI (sk B n p))) 3 (nI (nE B n p)) = some (iI (nV B n p), up σ 3 2 (nI (sk B n p))) := by
          unfold f_X10_valueUpTo
          rw [g2.2.2.2.1]
          exact c_val (N := N) hR g2 hEn (nE B n p - sk B n p) (sk B n p) N 0 (by omega) (by omega)
        rw [if_pos (by rw [show (5 : Int32) = nI 5 from rfl, nI_leI (by omega) (by omega)]; exact c2), ev, bd_some]
        by_cases c3 : nV B n p < lo
        · rw [if_pos ((iI_lt (by omega)).mpr c3), if_neg (fun q => by have := q.2.2.1; omega), e74]
        · rw [if_neg (fun q => c3 ((iI_lt (by omega)).mp q))]
          by_cases c4 : nV B n p ≤ hi
          · rw [if_pos ((iI_le (by omega)).mpr c4), sq_eq, up_up, if_pos ⟨by omega, c2, by omega, c4⟩]
          · rw [if_neg (fun q => c4 ((iI_le (by omega)).mp q)), if_neg (fun q => c4 q.2.2.2), e74]
      · rw [if_neg (by rw [show (5 : Int32) = nI 5 from rfl, nI_leI (by omega) (by omega)]; exact c2), if_pos (show (-1 : Int32) < iI lo by rw [show (-1 : Int32) = iI (-1) from rfl]; exact (iI_lt (by omega)).mpr (by omega)), if_neg (fun q => c2 q.2.1)]
  rw [row]
  refine ⟨fun c => ?_, fun c => ?_⟩
  · rw [if_pos c]
    exact ⟨_, rfl, h.fr hEn up_th (fun o j z => if_neg (by omega)), fun o j z => if_neg (by omega)⟩
  · rw [if_neg c]
    refine ⟨_, rfl, h.fr (sk_r.2.1 h.2.1) ((if_neg (by omega)).trans ((if_neg (by omega)).trans up_th)) (fun o j z => (if_neg (by omega)).trans ((if_neg (by omega)).trans (if_neg (by omega)))), (if_neg (by omega)).trans up_th, up_th, fun o j z => (if_neg (by omega)).trans ((if_neg (by omega)).trans (if_neg (by omega)))⟩
/-! the reference's tokens -/
theorem m_isAt (hR : RO R s) (h : MTk σ B n p) (lo hi : Int32) : f_X12_isAt N R σ 178 lo hi = some (bI (isC B n lo hi p), σ) := by
  obtain ⟨h1, h2, h3, h4, h5⟩ := h
  unfold f_X12_isAt isC
  rw [h3, h4]
  by_cases c : p < n
  · rw [if_neg (by rw [nI_leI (by omega) (by omega)]; omega), ck_nI (by omega) (by decide), ck_nI (by omega) (by decide), hR.m1, nI_clamp (by omega), h5 p c, decide_eq_true c, Bool.true_and]
    by_cases c1 : B p < lo
    · rw [if_pos c1, decide_eq_false (show ¬ lo ≤ B p from fun q => by rw [Int32.le_iff_toInt_le] at q; rw [Int32.lt_iff_toInt_lt] at c1; omega), Bool.false_and]
      rfl
    · rw [if_neg c1, decide_eq_true (show lo ≤ B p by rw [Int32.le_iff_toInt_le]; rw [Int32.lt_iff_toInt_lt] at c1; omega), Bool.true_and]
      by_cases c2 : hi < B p
      · rw [if_pos c2, decide_eq_false (show ¬ B p ≤ hi from fun q => by rw [Int32.le_iff_toInt_le] at q; rw [Int32.lt_iff_toInt_lt] at c2; omega)]
        rfl
      · rw [if_neg c2, decide_eq_true (show B p ≤ hi by rw [Int32.le_iff_toInt_le]; rw [Int32.lt_iff_toInt_lt] at c2; omega)]
        rfl
  · rw [if_pos (by rw [nI_leI (by omega) (by omega)]; omega), decide_eq_false c, Bool.false_and]
    rfl
theorem blk_C : blk B n p = (isC B n 9 10 p || isC B n 32 32 p) := by
  unfold blk isC
  have e1 : (9 : Int32).toInt = 9 := rfl
  have e2 : (10 : Int32).toInt = 10 := rfl
  have e3 : (32 : Int32).toInt = 32 := rfl
  rw [Bool.eq_iff_iff]
  simp only [Bool.and_eq_true, Bool.or_eq_true, decide_eq_true_eq, Int32.le_iff_toInt_le, ← Int32.toInt_inj, e1, e2, e3]
  omega
theorem m_skF (hR : RO R s) : ∀ (f p fuel : Nat) (σ : SI), MTk σ B n p → f = n - p → f < fuel → f_X12_blanks_0 N R fuel σ 178 = some ((), up (up σ 178 4 (nI (skF B n f p))) 178 5 (nI (skF B n f p))) := by
  intro f
  induction f with
  | zero =>
    intro p fuel σ h hf hfu
    obtain ⟨fuel, rfl⟩ : ∃ q, fuel = q + 1 := ⟨fuel - 1, by omega⟩
    have z : ∀ lo hi, isC B n lo hi p = false := fun lo hi => by
      unfold isC
      rw [decide_eq_false (by omega), Bool.false_and]
    rw [f_X12_blanks_0, m_isAt hR h, bd_some, z, bI_f, if_pos rfl, m_isAt hR h, bd_some, z, bI_f, if_pos rfl, sq_eq, h.2.2.2.1]
    unfold skF
    rw [up_self h.2.2.2.1]
  | succ f ih =>
    intro p fuel σ h hf hfu
    obtain ⟨fuel, rfl⟩ : ∃ q, fuel = q + 1 := ⟨fuel - 1, by omega⟩
    have h1 := h.1
    have i1 := ih (p + 1) fuel (up σ 178 4 (nI (p + 1))) (h.fr (by omega) up_th (fun o j q => if_neg (by omega))) (by omega) (by omega)
    rw [up_up] at i1
    rw [f_X12_blanks_0, m_isAt hR h, bd_some, m_isAt hR h, bd_some]
    dsimp only [f_X12_blanks_22]
    rw [sq_eq, sq_eq, h.2.2.2.1, nI_1, i1]
    rw [skF_s]
    rw [blk_C]
    cases isC B n 9 10 p
    · rw [bI_f, if_pos rfl, Bool.false_or]
      cases isC B n 32 32 p
      · rw [bI_f, if_pos rfl, if_neg (by decide), up_self h.2.2.2.1]
      · rw [bI_t, if_neg (by decide), if_pos rfl]
    · rw [bI_t, if_neg (by decide), Bool.true_or, if_pos rfl]
theorem sk_801 (h : p ≤ 801) (hn : n ≤ 800) : sk B n p ≤ 801 := by
  by_cases c : p ≤ n
  · have := (sk_r (B := B) (n := n) (p := p)).2.1 c
    omega
  · have e : sk B n p = p := sk_id (by unfold blk; rw [decide_eq_false (by omega), Bool.false_and])
    rw [e]
    exact h
theorem m_blanks (hN : 2000 ≤ N) (hR : RO R s) (h : MTk σ B n p) : ∃ σ', f_X12_blanks N R σ 178 = some ((), σ') ∧ MTk σ' B n (sk B n p) ∧ σ' 178 5 = nI (sk B n p) ∧ ∀ o j, o ≠ 178 ∨ (j ≠ 4 ∧ j ≠ 5) → σ' o j = σ o j := by
  have h1 := h.1
  refine ⟨_, m_skF hR (n - p) p N σ h rfl (by omega), h.fr (sk_801 h.2.1 h.1) ((if_neg (by omega)).trans up_th) (fun o j q => (if_neg (by omega)).trans (if_neg (by omega))), up_th, fun o j q => (if_neg (by omega)).trans (if_neg (by omega))⟩
theorem m_er (hR : RO R s) (h : MTk σ B n p) : ∀ (f q fuel : Nat), q ≤ 801 → f = n - q → f < fuel → f_X12_letters_9 N R fuel σ 178 (nI q) = some (nI (erF B n 97 122 f q) - nI p, σ) := by
  obtain ⟨h1, h2, h3, h4, h5⟩ := h
  intro f
  induction f with
  | zero =>
    intro q fuel hq hf hfu
    obtain ⟨fuel, rfl⟩ : ∃ q, fuel = q + 1 := ⟨fuel - 1, by omega⟩
    rw [f_X12_letters_9, h3, if_pos (by rw [nI_leI (by omega) (by omega)]; omega)]
    unfold f_X12_letters_45
    rw [h4]
    rfl
  | succ f ih =>
    intro q fuel hq hf hfu
    obtain ⟨fuel, rfl⟩ : ∃ q, fuel = q + 1 := ⟨fuel - 1, by omega⟩
    rw [f_X12_letters_9, h3, if_neg (by rw [nI_leI (by omega) (by omega)]; omega), ck_nI (by omega) (by decide), ck_nI (by omega) (by decide), hR.m1, nI_clamp (by omega), h5 q (by omega), nI_1, ih (q + 1) fuel (by omega) (by omega) (by omega)]
    rw [erF_s]
    unfold isC f_X12_letters_45
    rw [h4, decide_eq_true (show q < n by omega), Bool.true_and]
    by_cases c1 : B q < 97
    · rw [if_pos c1, decide_eq_false (show ¬ (97 : Int32) ≤ B q from fun z => by rw [Int32.le_iff_toInt_le] at z; rw [Int32.lt_iff_toInt_lt] at c1; omega), Bool.false_and, if_neg (by decide)]
    · rw [if_neg c1, decide_eq_true (show (97 : Int32) ≤ B q by rw [Int32.le_iff_toInt_le]; rw [Int32.lt_iff_toInt_lt] at c1; omega), Bool.true_and]
      by_cases c2 : 122 < B q
      · rw [if_pos c2, decide_eq_false (show ¬ B q ≤ 122 from fun z => by rw [Int32.le_iff_toInt_le] at z; rw [Int32.lt_iff_toInt_lt] at c2; omega), if_neg (by decide)]
      · rw [if_neg c2, decide_eq_true (show B q ≤ 122 by rw [Int32.le_iff_toInt_le]; rw [Int32.lt_iff_toInt_lt] at c2; omega), if_pos rfl]
theorem m_letters (hN : 2000 ≤ N) (hR : RO R s) (h : MTk σ B n p) : ∃ σ', f_X12_letters N R σ 178 = some (nI (er B n 97 122 (sk B n p) - sk B n p), σ') ∧ MTk σ' B n (sk B n p) ∧ σ' 178 5 = nI (sk B n p) ∧ ∀ o j, o ≠ 178 ∨ (j ≠ 4 ∧ j ≠ 5) → σ' o j = σ o j := by
  obtain ⟨σ1, g1, g2, g3, g4⟩ := m_blanks hN hR h
  have h1 := h.1
  refine ⟨σ1, ?_, g2, g3, g4⟩
  unfold f_X12_letters
  rw [g1, bd_some, g2.2.2.2.1]
  refine (m_er (N := N) hR g2 (n - sk B n p) (sk B n p) N g2.2.1 rfl (by omega)).trans ?_
  show some (nI (er B n 97 122 (sk B n p)) - nI (sk B n p), σ1) = _
  rw [nI_sub (er_r (B := B) (n := n) (p := sk B n p) (lo := 97) (hi := 122)).1]
theorem m_tw26 (hR : RO R s) {q : Nat} (hq : q < 13) (h : MTk σ B n p) (hpe : p + lnN q ≤ n) : ∀ (m i fuel : Nat), i + m = lnN q → m + 1 < fuel → f_X12_takesWord_26 N R fuel σ 178 q (1 : Int32) (nI i) = if mtF B q p i m then some (1, up σ 178 4 (nI (p + lnN q))) else some (0, σ) := by
  obtain ⟨h1, h2, h3, h4, h5⟩ := h
  have hl := lnS_q q hq
  intro m
  induction m with
  | zero =>
    intro i fuel hi hfu
    obtain ⟨fuel, rfl⟩ : ∃ q, fuel = q + 1 := ⟨fuel - 1, by omega⟩
    rw [f_X12_takesWord_26, if_neg (by decide), hl.1, if_pos (by rw [nI_leI (by omega) (by omega)]; omega)]
    unfold mtF f_X12_takesWord_69
    rw [if_pos rfl, if_neg (by decide), sq_eq, h4, hl.1, nI_add, cb_1]
  | succ m ih =>
    intro i fuel hi hfu
    obtain ⟨fuel, rfl⟩ : ∃ q, fuel = q + 1 := ⟨fuel - 1, by omega⟩
    have z : f_X12_takesWord_26 N R fuel σ 178 q (0 : Int32) (nI (i + 1)) = some (0, σ) := by
      obtain ⟨fuel, rfl⟩ : ∃ q, fuel = q + 1 := ⟨fuel - 1, by omega⟩
      rw [f_X12_takesWord_26, if_pos rfl]
      unfold f_X12_takesWord_69
      rw [if_pos rfl, cb_0]
    rw [f_X12_takesWord_26, if_neg (by decide), hl.1, if_neg (by rw [nI_leI (by omega) (by omega)]; omega), h4, nI_add, ck_nI (by omega) (by decide), show strLen.getD q 0 = lnN q from rfl, ck_nI (by omega) (by omega), hR.m1, nI_clamp (by omega), h5 (p + i) (by omega), nI_1, ih (i + 1) fuel (by omega) (by omega), z]
    rw [mtF_s]
    by_cases c : B (p + i) = chS q (nI i)
    · rw [if_pos c, decide_eq_true c, Bool.true_and]
    · rw [if_neg c, decide_eq_false c, Bool.false_and, if_neg (by decide)]
theorem m_tw0 (hN : 2000 ≤ N) (σ : SI) (q : Nat) : f_X12_takesWord_22 N R σ 178 q = some (0, σ) := by
  obtain ⟨N', rfl⟩ : ∃ q, N = q + 1 := ⟨N - 1, by omega⟩
  unfold f_X12_takesWord_22
  rw [f_X12_takesWord_26, if_pos rfl]
  unfold f_X12_takesWord_69
  rw [if_pos rfl, cb_0]
theorem m_word (hN : 2000 ≤ N) (hR : RO R s) {q : Nat} (hq : q < 13) (h : MTk σ B n p) (hp : p ≤ n) (h0 : σ 178 7 = -1) : ∃ σ', f_X12_takesWord N R σ 178 q = some (bI (wm B n q (sk B n p)), σ') ∧ MTk σ' B n (wE B n q p) ∧ σ' 178 5 = nI (sk B n p) ∧ ∀ o j, o ≠ 178 ∨ (j ≠ 4 ∧ j ≠ 5) → σ' o j = σ o j := by
  obtain ⟨σ1, g1, g2, g3, g4⟩ := m_letters hN hR h
  have hl := lnS_q q hq
  have h2 := er_r (B := B) (n := n) (p := sk B n p) (lo := 97) (hi := 122)
  have h3 := h2.2.1 (sk_r.2.1 hp)
  have h8 := h.1
  unfold f_X12_takesWord f_X12_hasFailed
  rw [h0, if_pos rfl, bd_some, if_pos rfl, g1, bd_some, hl.1, m_tw0 hN]
  unfold wE wm
  by_cases c : er B n 97 122 (sk B n p) - sk B n p = lnN q
  · have e := m_tw26 (N := N) hR hq g2 (by omega) (lnN q) 0 N (by omega) (by omega)
    rw [if_pos (by rw [c]), l_0, e, decide_eq_true c, Bool.true_and]
    cases mtF B q (sk B n p) 0 (lnN q)
    · rw [if_neg (by decide), if_neg (by decide)]
      exact ⟨σ1, rfl, g2, g3, g4⟩
    · rw [if_pos rfl, if_pos rfl, show sk B n p + lnN q = er B n 97 122 (sk B n p) by omega]
      exact ⟨_, rfl, g2.fr (by omega) up_th (fun o j z => if_neg (by omega)), (if_neg (by omega)).trans g3, fun o j z => (if_neg (by omega)).trans (g4 o j z)⟩
  · rw [if_neg (by rw [nI_eq (by omega) (by omega)]; exact c), decide_eq_false c, Bool.false_and, if_neg (by decide)]
    exact ⟨σ1, rfl, g2, g3, g4⟩
theorem m_must1 (k : Int32) : f_X12_must N R σ 178 1 k = some ((), σ) := by
  unfold f_X12_must
  rw [if_neg (by decide)]
theorem m_must0 (h0 : σ 178 7 = -1) (k : Int32) : f_X12_must N R σ 178 0 k = some ((), up (up σ 178 7 (σ 178 5)) 178 8 k) := by
  unfold f_X12_must f_X12_hasFailed
  rw [if_pos rfl, h0, if_pos rfl, bd_some, if_pos rfl, sq_eq, sq_eq]
theorem m_mustF (h0 : ¬ σ 178 7 = -1) (b k : Int32) : f_X12_must N R σ 178 b k = some ((), σ) := by
  unfold f_X12_must f_X12_hasFailed
  by_cases c : b = 0
  · rw [if_pos c, if_neg h0, bd_some, if_neg (by decide)]
  · rw [if_neg c]
theorem m_fig (hN : 2000 ≤ N) (hR : RO R s) (h : MTk σ B n p) : ∃ σ', f_X12_isFigure N R σ 178 = some (bI (decide (σ 178 7 = -1) && isC B n 48 57 (sk B n p)), σ') ∧ MTk σ' B n (sk B n p) ∧ σ' 178 5 = nI (sk B n p) ∧ ∀ o j, o ≠ 178 ∨ (j ≠ 4 ∧ j ≠ 5) → σ' o j = σ o j := by
  obtain ⟨σ1, g1, g2, g3, g4⟩ := m_blanks hN hR h
  refine ⟨σ1, ?_, g2, g3, g4⟩
  unfold f_X12_isFigure f_X12_hasFailed
  rw [g1, bd_some, g4 178 7 (by omega)]
  by_cases c : σ 178 7 = -1
  · rw [if_pos c, bd_some, if_pos rfl, m_isAt hR g2, bd_some, decide_eq_true c, Bool.true_and]
    cases isC B n 48 57 (sk B n p)
    · rfl
    · rfl
  · rw [if_neg c, bd_some, if_neg (by decide), decide_eq_false c, Bool.false_and]
    rfl
theorem m_n20 (hR : RO R s) {a e : Nat} {lo hi : Int32} (hn : n ≤ 800) (hae : a ≤ e ∧ e ≤ n) (hd : ∀ j, a ≤ j → j < e → isC B n 48 57 j = true) (he : isC B n 48 57 e = false) : ∀ (m i fuel : Nat) (σ : SI), a + i + m = e → m < fuel → MTk σ B n (a + i) → σ 178 5 = nI a → ∃ σ1, MTk σ1 B n e ∧ (∀ o j, o ≠ 178 ∨ j ≠ 4 → σ1 o j = σ o j) ∧ f_X12_number_20 N R fuel σ 178 lo hi (iI (valI B a (if i < 5 then i else 5) 0)) = bd (f_X12_must N R σ1 178 (if 5 < e - a then 0 else bI (decide (lo.toInt ≤ (iI (valI B a (if e - a < 5 then e - a else 5) 0)).toInt ∧ (iI (valI B a (if e - a < 5 then e - a else 5) 0)).toInt ≤ hi.toInt))) 2) (fun _ σ' => some (iI (valI B a (if e - a < 5 then e - a else 5) 0), σ')) := by
  intro m
  induction m with
  | zero =>
    intro i fuel σ hm hfu h hb
    obtain ⟨fuel, rfl⟩ : ∃ q, fuel = q + 1 := ⟨fuel - 1, by omega⟩
    have ei : a + i = e := by omega
    refine ⟨σ, by rw [← ei]; exact h, fun _ _ _ => rfl, ?_⟩
    have hz : isC B n 48 57 (a + i) = false := by rw [ei]; exact he
    rw [f_X12_number_20, m_isAt hR h, bd_some, hz, bI_f, if_pos rfl, h.2.2.2.1, hb, nI_sub (by omega), show a + i - a = i by omega, show e - a = i by omega]
    by_cases c : 5 < i
    · rw [if_pos (by rw [show (5 : Int32) = nI 5 from rfl, nI_ltI (by omega) (by omega)]; exact c), if_pos c]
    · rw [if_neg (by rw [show (5 : Int32) = nI 5 from rfl, nI_ltI (by omega) (by omega)]; exact c), if_neg c, m_in, bd_some]
      cases decide (lo.toInt ≤ (iI (valI B a (if i < 5 then i else 5) 0)).toInt ∧ (iI (valI B a (if i < 5 then i else 5) 0)).toInt ≤ hi.toInt)
      · rw [bI_f, if_pos rfl]
      · rw [bI_t, if_neg (by decide)]
  | succ m ih =>
    intro i fuel σ hm hfu h hb
    obtain ⟨fuel, rfl⟩ : ∃ q, fuel = q + 1 := ⟨fuel - 1, by omega⟩
    obtain ⟨σ1, i1, i2, i3⟩ := ih (i + 1) fuel (up σ 178 4 (nI (a + (i + 1)))) (by omega) (by omega) (h.fr (by omega) up_th (fun o j q => if_neg (by omega))) ((if_neg (by omega)).trans hb)
    refine ⟨σ1, i1, fun o j q => (i2 o j q).trans (if_neg (by omega)), ?_⟩
    rw [f_X12_number_20, m_isAt hR h, bd_some, hd (a + i) (by omega) (by omega), bI_t, if_neg (by decide), h.2.2.2.1, hb, nI_sub (by omega), show a + i - a = i by omega]
    dsimp only [f_X12_number_62]
    rw [sq_eq, h.2.2.2.1, nI_1, show a + i + 1 = a + (i + 1) by omega]
    by_cases c : 5 ≤ i
    · rw [if_pos (by rw [show (5 : Int32) = nI 5 from rfl, nI_leI (by omega) (by omega)]; exact c), if_neg (by omega)]
      rw [if_neg (by omega)] at i3
      exact i3
    · have ev : (10 : Int32) * iI (valI B a i 0) + B (a + i) - (48 : Int32) = iI (valI B a (i + 1) 0) := by
        rw [valI_s, show (10 : Int32) = iI 10 from rfl, show (48 : Int32) = iI 48 from rfl, iI_of (B (a + i)), iI_mul, iI_add, iI_sub, ← iI_of (B (a + i))]
        congr 1
        omega
      rw [if_neg (by rw [show (5 : Int32) = nI 5 from rfl, nI_leI (by omega) (by omega)]; exact c), if_pos (by omega), ck_nI (by omega) (by decide), hR.m1, nI_clamp (by omega), h.2.2.2.2 (a + i) (by omega), ev]
      have ei : (if i + 1 < 5 then i + 1 else 5) = i + 1 := by
        by_cases q : i + 1 < 5
        · rw [if_pos q]
        · rw [if_neg q]
          omega
      rw [ei] at i3
      exact i3
theorem m_num_ok (hN : 2000 ≤ N) (hR : RO R s) (h : MTk σ B n p) (hp : p ≤ n) (h0 : σ 178 7 = -1) {lo hi : Int} (hl : 0 ≤ lo ∧ lo ≤ 100000) (hh : 0 ≤ hi ∧ hi ≤ 100000) : (nG B n p lo hi → ∃ σ', f_X12_number N R σ 178 (iI lo) (iI hi) = some (iI (nV B n p), σ') ∧ MTk σ' B n (nE B n p) ∧ ∀ o j, o ≠ 178 ∨ (j ≠ 4 ∧ j ≠ 5) → σ' o j = σ o j) ∧ (¬ nG B n p lo hi → ∃ x σ', f_X12_number N R σ 178 (iI lo) (iI hi) = some (x, σ') ∧ MTk σ' B n (nE B n p) ∧ σ' 178 7 = nI (sk B n p) ∧ σ' 178 8 = nI (nK B n p) ∧ ∀ o j, o ≠ 178 ∨ j < 4 ∨ j = 6 ∨ 8 < j → σ' o j = σ o j) := by
  obtain ⟨σ1, g1, g2, g3, g4⟩ := m_fig hN hR h
  have hE := nE_r (B := B) (n := n) (p := p)
  have hEn := hE.2.1 hp
  have h8 := h.1
  have hsk := (sk_r (B := B) (n := n) (p := p)).2.1 hp
  have her := er_r (B := B) (n := n) (p := sk B n p) (lo := 48) (hi := 57)
  have z7 : σ1 178 7 = -1 := (g4 178 7 (by omega)).trans h0
  rw [decide_eq_true h0, Bool.true_and] at g1
  unfold f_X12_number f_X12_hasFailed
  rw [h0, if_pos rfl, bd_some, if_pos rfl, g1, bd_some]
  by_cases c1 : nE B n p = sk B n p
  · -- no digit
    have hc : isC B n 48 57 (sk B n p) = false := by
      have := her.2.2.1
      rw [show er B n 48 57 (sk B n p) = sk B n p from c1] at this
      exact this
    have hng : ¬ nG B n p lo hi := fun q => by have := q.1; omega
    refine ⟨fun q => absurd q hng, fun _ => ?_⟩
    have g2' : MTk (up (up σ1 178 7 (nI (sk B n p))) 178 8 1) B n (sk B n p) := g2.fr g2.2.1 ((if_neg (by omega)).trans ((if_neg (by omega)).trans g2.2.2.2.1)) (fun o j q => (if_neg (by omega)).trans (if_neg (by omega)))
    obtain ⟨σ2, i1, i2, i3⟩ := m_n20 (N := N) hR (lo := iI lo) (hi := iI hi) h.1 ⟨Nat.le_refl _, hsk⟩ (fun j j1 j2 => by omega) hc 0 0 N _ (by omega) (by omega) g2' ((if_neg (by omega)).trans ((if_neg (by omega)).trans g3))
    have f7 : σ2 178 7 = nI (sk B n p) := (i2 _ _ (by omega)).trans ((if_neg (by omega)).trans up_th)
    have e20 : f_X12_number_20 N R N (up (up σ1 178 7 (nI (sk B n p))) 178 8 1) 178 (iI lo) (iI hi) (0 : Int32) = some (iI (valI B (sk B n p) (if sk B n p - sk B n p < 5 then sk B n p - sk B n p else 5) 0), σ2) := by
      refine i3.trans ?_
      rw [m_mustF (by rw [f7, show (-1 : Int32) = iI (-1) from rfl, iI_nat, iI_eq (by omega)]; omega), bd_some]
    refine ⟨iI (valI B (sk B n p) (if sk B n p - sk B n p < 5 then sk B n p - sk B n p else 5) 0), σ2, ?_, by rw [c1]; exact i1, f7, ?_, fun o j q => (i2 o j (by omega)).trans ((if_neg (by omega)).trans ((if_neg (by omega)).trans (g4 o j (by omega))))⟩
    · rw [hc, bI_f, m_must0 z7, bd_some, g3]
      exact e20
    · rw [i2 _ _ (by omega), up_th]
      unfold nK
      rw [if_pos c1]
      rfl
  · have hc : isC B n 48 57 (sk B n p) = true := her.2.2.2 _ (Nat.le_refl _) (by have := hE.1; show sk B n p < nE B n p; omega)
    obtain ⟨σ2, i1, i2, i3⟩ := m_n20 (N := N) hR (lo := iI lo) (hi := iI hi) h.1 ⟨hE.1, hEn⟩ her.2.2.2 her.2.2.1 (nE B n p - sk B n p) 0 N σ1 (by omega) (by omega) g2 g3
    have f7 : σ2 178 7 = -1 := (i2 _ _ (by omega)).trans z7
    have f5 : σ2 178 5 = nI (sk B n p) := (i2 _ _ (by omega)).trans g3
    have i3 : f_X12_number_20 N R N σ1 178 (iI lo) (iI hi) (0 : Int32) = _ := i3
    rw [hc, bI_t, m_must1, bd_some, i3]
    by_cases c2 : nE B n p - sk B n p ≤ 5
    · have hv := nV_r c2
      have e5 : (if nE B n p - sk B n p < 5 then nE B n p - sk B n p else 5) = nE B n p - sk B n p := by
        by_cases q : nE B n p - sk B n p < 5
        · rw [if_pos q]
        · rw [if_neg q]
          omega
      rw [if_neg (by omega), e5, show valI B (sk B n p) (nE B n p - sk B n p) 0 = nV B n p from rfl, iI_toInt (by omega), iI_toInt (by omega), iI_toInt (by omega)]
      by_cases c3 : lo ≤ nV B n p ∧ nV B n p ≤ hi
      · have hg : nG B n p lo hi := ⟨by omega, c2, c3⟩
        refine ⟨fun _ => ⟨σ2, ?_, i1, fun o j q => (i2 o j (by omega)).trans (g4 o j q)⟩, fun q => absurd hg q⟩
        rw [decide_eq_true c3, bI_t, m_must1, bd_some]
      · refine ⟨fun q => absurd q.2.2 c3, fun _ => ⟨iI (nV B n p), up (up σ2 178 7 (nI (sk B n p))) 178 8 2, by rw [decide_eq_false c3, bI_f, m_must0 f7, bd_some, f5], i1.fr i1.2.1 ((if_neg (by omega)).trans ((if_neg (by omega)).trans i1.2.2.2.1)) (fun o j q => (if_neg (by omega)).trans (if_neg (by omega))), (if_neg (by omega)).trans up_th, ?_, fun o j q => (if_neg (by omega)).trans ((if_neg (by omega)).trans ((i2 o j (by omega)).trans (g4 o j (by omega))))⟩⟩
        rw [up_th]
        unfold nK
        rw [if_neg c1]
        rfl
    · refine ⟨fun q => absurd q.2.1 c2, fun _ => ⟨iI (valI B (sk B n p) (if nE B n p - sk B n p < 5 then nE B n p - sk B n p else 5) 0), up (up σ2 178 7 (nI (sk B n p))) 178 8 2, by rw [if_pos (by omega), m_must0 f7, bd_some, f5], i1.fr i1.2.1 ((if_neg (by omega)).trans ((if_neg (by omega)).trans i1.2.2.2.1)) (fun o j q => (if_neg (by omega)).trans (if_neg (by omega))), (if_neg (by omega)).trans up_th, ?_, fun o j q => (if_neg (by omega)).trans ((if_neg (by omega)).trans ((i2 o j (by omega)).trans (g4 o j (by omega))))⟩⟩
      rw [up_th]
      unfold nK
      rw [if_neg c1]
      rfl
end TOK
