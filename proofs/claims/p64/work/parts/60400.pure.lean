/-! ===== the pure side: ints as integers ===== -/
def iI (z : Int) : Int32 := Int32.ofInt z
theorem iI_add (a b : Int) : iI a + iI b = iI (a + b) := (Int32.ofInt_add a b).symm
theorem iI_sub (a b : Int) : iI a - iI b = iI (a - b) := (Int32.ofInt_sub a b).symm
theorem iI_mul (a b : Int) : iI a * iI b = iI (a * b) := (Int32.ofInt_mul a b).symm
theorem iI_neg (a : Int) : - iI a = iI (-a) := (Int32.ofInt_neg a).symm
theorem iI_nat (n : Nat) : nI n = iI n := Int32.ofInt_eq_ofNat.symm
theorem iI_toInt {z : Int} (h : -2147483648 ≤ z ∧ z ≤ 2147483647) : (iI z).toInt = z := Int32.toInt_ofInt_of_le (by omega) (by omega)
theorem iI_of (x : Int32) : x = iI x.toInt := (Int32.ofInt_toInt x).symm
theorem i32_lo (x : Int32) : -2147483648 ≤ x.toInt := by have := Int32.le_toInt x; omega
theorem i32_hi (x : Int32) : x.toInt ≤ 2147483647 := by have := Int32.toInt_lt x; omega
theorem iI_le {a b : Int} (h : (-2147483648 ≤ a ∧ a ≤ 2147483647) ∧ -2147483648 ≤ b ∧ b ≤ 2147483647) : iI a ≤ iI b ↔ a ≤ b := by rw [Int32.le_iff_toInt_le, iI_toInt h.1, iI_toInt h.2]
theorem iI_lt {a b : Int} (h : (-2147483648 ≤ a ∧ a ≤ 2147483647) ∧ -2147483648 ≤ b ∧ b ≤ 2147483647) : iI a < iI b ↔ a < b := by rw [Int32.lt_iff_toInt_lt, iI_toInt h.1, iI_toInt h.2]
theorem iI_eq {a b : Int} (h : (-2147483648 ≤ a ∧ a ≤ 2147483647) ∧ -2147483648 ≤ b ∧ b ≤ 2147483647) : iI a = iI b ↔ a = b := by rw [← Int32.toInt_inj, iI_toInt h.1, iI_toInt h.2]
theorem iI_clamp {z : Int} (h : 0 ≤ z ∧ z ≤ 2147483647) : (iI z).toNatClampNeg = z.toNat := by
  show (iI z).toInt.toNat = z.toNat
  rw [iI_toInt (by omega)]
theorem iI_div {a b : Int} (ha : 0 ≤ a ∧ a ≤ 2147483647) (hb : 0 < b ∧ b ≤ 2147483647) : iI a / iI b = iI (a / b) := by
  apply Int32.toInt_inj.mp
  have h1 := iI_toInt (z := a) (by omega)
  have h2 := iI_toInt (z := b) (by omega)
  rw [Int32.toInt_div_of_ne_left _ _ (by
    intro e
    have := congrArg Int32.toInt e
    rw [h1] at this
    have h3 : Int32.minValue.toInt = -2147483648 := by decide
    omega), h1, h2, Int.tdiv_eq_ediv_of_nonneg ha.1]
  have h4 : a / b ≤ a := Int.ediv_le_self _ ha.1
  have h5 : 0 ≤ a / b := Int.ediv_nonneg ha.1 (by omega)
  rw [iI_toInt (by omega)]
theorem ck_iI {α : Type} {z : Int} {len : Nat} {x : Option α} (h : 0 ≤ z ∧ z < len) (hl : len < 2 ^ 31) : ck (iI z) len x = x := by
  unfold ck
  rw [if_pos]
  rw [iI_toInt (by omega)]
  exact h
theorem bd_some {α β : Type} (a : β) (σ : SI) (k : β → SI → Option α) : bd (some (a, σ)) k = k a σ := rfl
theorem bdX_inl {α β : Type} (a : β) (σ : SI) (k : β → SI → Option ((α ⊕ Nat) × SI)) : bdX (some (.inl a, σ)) k = k a σ := rfl
theorem bdX_inr {α β : Type} (a : Nat) (σ : SI) (k : β → SI → Option ((α ⊕ Nat) × SI)) : bdX (some (.inr a, σ)) k = some (.inr a, σ) := rfl
theorem sq_eq {α : Type} (x : SI) (k : SI → Option α) : sq x k = k x := rfl
theorem cd_ne {α : Type} {y : Int32} {x : Option α} (h : ¬ y = 0) : cd y x = x := if_neg h
theorem cb_0 {α : Type} {x : Option α} : cb 0 x = x := if_pos (Or.inl rfl)
theorem cb_1 {α : Type} {x : Option α} : cb 1 x = x := if_pos (Or.inr rfl)
/-- a truth as an int -/
def bI (p : Bool) : Int32 := if p then 1 else 0
theorem bI_0 {p : Bool} : bI p = 0 ↔ p = false := by cases p <;> decide
theorem bI_t : bI true = 1 := rfl
theorem bI_f : bI false = 0 := rfl
theorem cb_bI {α : Type} {p : Bool} {x : Option α} : cb (bI p) x = x := by cases p; exact cb_0; exact cb_1
theorem nI_mul (a b : Nat) : nI a * nI b = nI (a * b) := (Int32.ofNat_mul a b).symm
theorem nI_sub {a b : Nat} (h : b ≤ a) : nI a - nI b = nI (a - b) := by
  rw [iI_nat, iI_nat, iI_nat, iI_sub, Int.ofNat_sub h]
theorem iI_leN {a : Int} {k : Nat} (h : (-2147483648 ≤ a ∧ a ≤ 2147483647) ∧ k < 2147483648) : iI a ≤ nI k ↔ a ≤ k := by rw [iI_nat]; exact iI_le (by omega)
theorem iI_ltN {a : Int} {k : Nat} (h : (-2147483648 ≤ a ∧ a ≤ 2147483647) ∧ k < 2147483648) : iI a < nI k ↔ a < k := by rw [iI_nat]; exact iI_lt (by omega)
theorem nI_leI' {a : Int} {k : Nat} (h : (-2147483648 ≤ a ∧ a ≤ 2147483647) ∧ k < 2147483648) : nI k ≤ iI a ↔ (k : Int) ≤ a := by rw [iI_nat]; exact iI_le (by omega)
theorem nI_ltI' {a : Int} {k : Nat} (h : (-2147483648 ≤ a ∧ a ≤ 2147483647) ∧ k < 2147483648) : nI k < iI a ↔ (k : Int) < a := by rw [iI_nat]; exact iI_lt (by omega)
/-- an int that is no less than 0 and below a bound is the number of a place -/
theorem i32_nI {x : Int32} {n : Int} (h0 : ¬ x.toInt < 0) (h1 : x.toInt < n) : ∃ k : Nat, x = nI k ∧ (k : Int) = x.toInt := by
  refine ⟨x.toInt.toNat, ?_, by omega⟩
  rw [iI_nat]
  conv => lhs; rw [iI_of x]
  congr 1
  omega
/-! ===== references ===== -/
/-- the references once all is made: s is the site in use, the other one is the draft -/
def RO (R : Nat → Nat → Nat) (s : Nat) : Prop := (s = 38 ∨ s = 108) ∧ R 1 8 = s ∧ R 1 9 = 146 - s ∧ ∀ o k, o ≠ 1 ∨ k < 8 → o ≤ 177 → R o k = zF.2.1 o k
theorem RO.site {R : Nat → Nat → Nat} {s : Nat} (h : RO R s) : R 1 8 = s := h.2.1
theorem RO.draft {R : Nat → Nat → Nat} {s : Nat} (h : RO R s) : R 1 9 = 146 - s := h.2.2.1
theorem RO.a {R : Nat → Nat → Nat} {s : Nat} (h : RO R s) (o k v : Nat) (ho : o ≠ 1 ∨ k < 8) (h7 : o ≤ 177) (e : zF.2.1 o k = v) : R o k = v := (h.2.2.2 o k ho h7).trans e
theorem RO.r1_0 {R : Nat → Nat → Nat} {s : Nat} (h : RO R s) : R 1 0 = 2 := h.a 1 0 2 (by decide) (by decide) (by decide +kernel)
theorem RO.r1_1 {R : Nat → Nat → Nat} {s : Nat} (h : RO R s) : R 1 1 = 5 := h.a 1 1 5 (by decide) (by decide) (by decide +kernel)
theorem RO.r1_2 {R : Nat → Nat → Nat} {s : Nat} (h : RO R s) : R 1 2 = 23 := h.a 1 2 23 (by decide) (by decide) (by decide +kernel)
theorem RO.r1_3 {R : Nat → Nat → Nat} {s : Nat} (h : RO R s) : R 1 3 = 27 := h.a 1 3 27 (by decide) (by decide) (by decide +kernel)
theorem RO.r1_4 {R : Nat → Nat → Nat} {s : Nat} (h : RO R s) : R 1 4 = 29 := h.a 1 4 29 (by decide) (by decide) (by decide +kernel)
theorem RO.r1_5 {R : Nat → Nat → Nat} {s : Nat} (h : RO R s) : R 1 5 = 31 := h.a 1 5 31 (by decide) (by decide) (by decide +kernel)
theorem RO.r1_6 {R : Nat → Nat → Nat} {s : Nat} (h : RO R s) : R 1 6 = 34 := h.a 1 6 34 (by decide) (by decide) (by decide +kernel)
theorem RO.r1_7 {R : Nat → Nat → Nat} {s : Nat} (h : RO R s) : R 1 7 = 37 := h.a 1 7 37 (by decide) (by decide) (by decide +kernel)
theorem RO.r2_0 {R : Nat → Nat → Nat} {s : Nat} (h : RO R s) : R 2 0 = 3 := h.a 2 0 3 (by decide) (by decide) (by decide +kernel)
theorem RO.r3_0 {R : Nat → Nat → Nat} {s : Nat} (h : RO R s) : R 3 0 = 4 := h.a 3 0 4 (by decide) (by decide) (by decide +kernel)
theorem RO.r5_0 {R : Nat → Nat → Nat} {s : Nat} (h : RO R s) : R 5 0 = 6 := h.a 5 0 6 (by decide) (by decide) (by decide +kernel)
theorem RO.r6 {R : Nat → Nat → Nat} {s : Nat} (h : RO R s) (j : Nat) (hj : j < 16) : R 6 j = 7 + j := by
  have : ∀ j, j < 16 → zF.2.1 6 j = 7 + j := by decide +kernel
  exact h.a 6 j _ (Or.inl (by decide)) (by decide) (this j hj)
theorem RO.r23_0 {R : Nat → Nat → Nat} {s : Nat} (h : RO R s) : R 23 0 = 24 := h.a 23 0 24 (by decide) (by decide) (by decide +kernel)
theorem RO.r23_1 {R : Nat → Nat → Nat} {s : Nat} (h : RO R s) : R 23 1 = 25 := h.a 23 1 25 (by decide) (by decide) (by decide +kernel)
theorem RO.r23_2 {R : Nat → Nat → Nat} {s : Nat} (h : RO R s) : R 23 2 = 26 := h.a 23 2 26 (by decide) (by decide) (by decide +kernel)
theorem RO.r27_0 {R : Nat → Nat → Nat} {s : Nat} (h : RO R s) : R 27 0 = 28 := h.a 27 0 28 (by decide) (by decide) (by decide +kernel)
theorem RO.r29_0 {R : Nat → Nat → Nat} {s : Nat} (h : RO R s) : R 29 0 = 30 := h.a 29 0 30 (by decide) (by decide) (by decide +kernel)
theorem RO.r31_0 {R : Nat → Nat → Nat} {s : Nat} (h : RO R s) : R 31 0 = 32 := h.a 31 0 32 (by decide) (by decide) (by decide +kernel)
theorem RO.r31_1 {R : Nat → Nat → Nat} {s : Nat} (h : RO R s) : R 31 1 = 33 := h.a 31 1 33 (by decide) (by decide) (by decide +kernel)
theorem RO.r34_0 {R : Nat → Nat → Nat} {s : Nat} (h : RO R s) : R 34 0 = 35 := h.a 34 0 35 (by decide) (by decide) (by decide +kernel)
theorem RO.r34_1 {R : Nat → Nat → Nat} {s : Nat} (h : RO R s) : R 34 1 = 36 := h.a 34 1 36 (by decide) (by decide) (by decide +kernel)
theorem RO.si {R : Nat → Nat → Nat} {s : Nat} (h : RO R s) (k : Nat) (hk : k < 9) : R s k = s + 1 + k := by
  have e : ∀ s, s = 38 ∨ s = 108 → ∀ k, k < 9 → zF.2.1 s k = s + 1 + k := by
    intro s hs
    rcases hs with rfl | rfl <;> decide +kernel
  exact h.a s k _ (Or.inl (by have := h.1; omega)) (by have := h.1; omega) (e s h.1 k hk)
theorem RO.nb {R : Nat → Nat → Nat} {s : Nat} (h : RO R s) (n : Nat) (hn : n < 8) : R (s + 1) n = s + 10 + 3 * n := by
  have e : ∀ s, s = 38 ∨ s = 108 → ∀ k, k < 8 → zF.2.1 (s + 1) k = s + 10 + 3 * k := by
    intro s hs
    rcases hs with rfl | rfl <;> decide +kernel
  exact h.a _ n _ (Or.inl (by have := h.1; omega)) (by have := h.1; omega) (e s h.1 n hn)
theorem RO.nbA {R : Nat → Nat → Nat} {s : Nat} (h : RO R s) (n : Nat) (hn : n < 8) (k : Nat) (hk : k < 2) : R (s + 10 + 3 * n) k = s + 11 + 3 * n + k := by
  have e : ∀ s, s = 38 ∨ s = 108 → ∀ n, n < 8 → ∀ k, k < 2 → zF.2.1 (s + 10 + 3 * n) k = s + 11 + 3 * n + k := by
    intro s hs
    rcases hs with rfl | rfl <;> decide +kernel
  exact h.a _ k _ (Or.inl (by have := h.1; omega)) (by have := h.1; omega) (e s h.1 n hn k hk)
theorem RO.rd {R : Nat → Nat → Nat} {s : Nat} (h : RO R s) (n : Nat) (hn : n < 6) : R (s + 2) n = s + 34 + n := by
  have e : ∀ s, s = 38 ∨ s = 108 → ∀ k, k < 6 → zF.2.1 (s + 2) k = s + 34 + k := by
    intro s hs
    rcases hs with rfl | rfl <;> decide +kernel
  exact h.a _ n _ (Or.inl (by have := h.1; omega)) (by have := h.1; omega) (e s h.1 n hn)
theorem RO.bl {R : Nat → Nat → Nat} {s : Nat} (h : RO R s) (n : Nat) (hn : n < 6) : R (s + 3) n = s + 40 + 5 * n := by
  have e : ∀ s, s = 38 ∨ s = 108 → ∀ k, k < 6 → zF.2.1 (s + 3) k = s + 40 + 5 * k := by
    intro s hs
    rcases hs with rfl | rfl <;> decide +kernel
  exact h.a _ n _ (Or.inl (by have := h.1; omega)) (by have := h.1; omega) (e s h.1 n hn)
theorem RO.blA {R : Nat → Nat → Nat} {s : Nat} (h : RO R s) (n : Nat) (hn : n < 6) (k : Nat) (hk : k < 4) : R (s + 40 + 5 * n) k = s + 41 + 5 * n + k := by
  have e : ∀ s, s = 38 ∨ s = 108 → ∀ n, n < 6 → ∀ k, k < 4 → zF.2.1 (s + 40 + 5 * n) k = s + 41 + 5 * n + k := by
    intro s hs
    rcases hs with rfl | rfl <;> decide +kernel
  exact h.a _ k _ (Or.inl (by have := h.1; omega)) (by have := h.1; omega) (e s h.1 n hn k hk)
theorem RO.swap {R R1 : Nat → Nat → Nat} {s : Nat} (h : RO R s) (h8 : R1 1 8 = R 1 9) (h9 : R1 1 9 = R 1 8) (ho : ∀ o k, o ≠ 1 ∨ k < 8 → R1 o k = R o k) : RO R1 (146 - s) :=
  ⟨by have := h.1; omega, by rw [h8, h.draft], by rw [h9, h.site]; have := h.1; omega, fun o k q h7 => (ho o k q).trans (h.2.2.2 o k q h7)⟩
