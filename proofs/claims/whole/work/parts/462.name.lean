/-! ===== names, in step ===== -/
def hnP (f : Nat → Nat) : Nat → Nat
  | 0 => 0
  | L + 1 => hnP f L * 32 + f L
theorem hnP_inj {f g : Nat → Nat} : ∀ (L M : Nat), (∀ k, k < L → 1 ≤ f k ∧ f k ≤ 26) → (∀ k, k < M → 1 ≤ g k ∧ g k ≤ 26) → hnP f L = hnP g M → L = M ∧ ∀ k, k < L → f k = g k := by
  intro L
  induction L with
  | zero =>
    intro M _ hg e
    cases M with
    | zero => exact ⟨rfl, fun k hk => absurd hk (by omega)⟩
    | succ M =>
      have := hg M (by omega)
      have e : 0 = hnP g M * 32 + g M := e
      omega
  | succ L ih =>
    intro M hf hg e
    cases M with
    | zero =>
      have := hf L (by omega)
      have e : hnP f L * 32 + f L = 0 := e
      omega
    | succ M =>
      have h1 := hf L (by omega)
      have h2 := hg M (by omega)
      have e : hnP f L * 32 + f L = hnP g M * 32 + g M := e
      obtain ⟨i1, i2⟩ := ih M (fun k hk => hf k (by omega)) (fun k hk => hg k (by omega)) (by omega)
      refine ⟨by omega, fun k hk => ?_⟩
      by_cases c : k = L
      · rw [c]
        subst i1
        omega
      · exact i2 k (by omega)
theorem hnP_lt {f : Nat → Nat} : ∀ (L : Nat), (∀ k, k < L → 1 ≤ f k ∧ f k ≤ 26) → hnP f L < 32 ^ L := by
  intro L
  induction L with
  | zero => intro _; show (0 : Nat) < 1; omega
  | succ L ih =>
    intro h
    have h1 := h L (by omega)
    have h2 := ih (fun k hk => h k (by omega))
    show hnP f L * 32 + f L < 32 ^ L * 32
    omega
theorem hnP_30 {f : Nat → Nat} {L : Nat} (hL : L ≤ 6) (h : ∀ k, k < L → 1 ≤ f k ∧ f k ≤ 26) : hnP f L < 2 ^ 30 := by
  have h1 := hnP_lt L h
  have h2 : 32 ^ L ≤ 32 ^ 6 := Nat.pow_le_pow_right (by decide) hL
  have h3 : (32 : Nat) ^ 6 = 2 ^ 30 := by decide
  omega
theorem hnP_ext {f g : Nat → Nat} : ∀ (L : Nat), (∀ k, k < L → f k = g k) → hnP f L = hnP g L := by
  intro L
  induction L with
  | zero => intro _; rfl
  | succ L ih =>
    intro h
    show hnP f L * 32 + f L = hnP g L * 32 + g L
    rw [h L (by omega), ih (fun k hk => h k (by omega))]
def sameF (σ : SI) (a b : Nat) : Nat → Nat → Bool
  | _, 0 => true
  | k, m + 1 => decide (σ 181 (a + k) = σ 181 (b + k)) && sameF σ a b (k + 1) m
theorem sameF_iff (σ : SI) (a b : Nat) : ∀ (m k : Nat), sameF σ a b k m = true ↔ ∀ j, k ≤ j → j < k + m → σ 181 (a + j) = σ 181 (b + j) := by
  intro m
  induction m with
  | zero => intro k; exact ⟨fun _ j h1 h2 => absurd h2 (by omega), fun _ => rfl⟩
  | succ m ih =>
    intro k
    show (decide (σ 181 (a + k) = σ 181 (b + k)) && sameF σ a b (k + 1) m) = true ↔ _
    rw [Bool.and_eq_true, decide_eq_true_eq, ih (k + 1)]
    refine ⟨fun h j h1 h2 => ?_, fun h => ⟨h k (by omega) (by omega), fun j h1 h2 => h j (by omega) (by omega)⟩⟩
    by_cases c : j = k
    · rw [c]
      exact h.1
    · exact h.2 j (by omega) (by omega)
/-- the letter k of the row at b, as the class counts it -/
def lf (σ : SI) (b k : Nat) : Nat := ((σ 181 (b + k)).toInt - 96).toNat
def NmR (σ : SI) (b L : Nat) : Prop := 1 ≤ L ∧ L ≤ 6 ∧ (∀ k, k < L → 97 ≤ (σ 181 (b + k)).toInt ∧ (σ 181 (b + k)).toInt ≤ 122) ∧ ∀ k, L ≤ k → k < 6 → σ 181 (b + k) = 0
theorem NmR.ltr {σ : SI} {b L : Nat} (h : NmR σ b L) : ∀ k, k < L → 1 ≤ lf σ b k ∧ lf σ b k ≤ 26 := by
  intro k hk
  have := h.2.2.1 k hk
  unfold lf
  omega
theorem NmR.same {σ : SI} {a b L M : Nat} (h : NmR σ a L) (g : NmR σ b M) : sameF σ a b 0 6 = true ↔ hnP (lf σ a) L = hnP (lf σ b) M := by
  rw [sameF_iff]
  constructor
  · intro e
    have z : (0 : Int32).toInt = 0 := rfl
    have eL : L = M := by
      have h1 := h.1
      have h2 := h.2.1
      have g1 := g.1
      have g2 := g.2.1
      by_cases c : L < M
      · have e1 := e L (by omega) (by omega)
        have e2 := g.2.2.1 L c
        rw [← e1, h.2.2.2 L (by omega) (by omega), z] at e2
        omega
      · by_cases c : M < L
        · have e1 := e M (by omega) (by omega)
          have e2 := h.2.2.1 M c
          rw [e1, g.2.2.2 M (by omega) (by omega), z] at e2
          omega
        · omega
    subst eL
    refine hnP_ext L fun k hk => ?_
    have h2 := h.2.1
    unfold lf
    rw [e k (by omega) (by omega)]
  · intro e j h1 h2
    obtain ⟨eL, ek⟩ := hnP_inj L M h.ltr g.ltr e
    subst eL
    by_cases c : j < L
    · have := ek j c
      have a1 := h.2.2.1 j c
      have a2 := g.2.2.1 j c
      unfold lf at this
      rw [← Int32.toInt_inj]
      omega
    · rw [h.2.2.2 j (by omega) (by omega), g.2.2.2 j (by omega) (by omega)]
section NAME
variable {N : Nat} {R : Nat → Nat → Nat} {s : Nat} {Q : Nat → Nat → Nat} {s2 : Nat} {σ σc σm : SI} {B : Nat → Int32} {n k p : Nat} {ok : Bool}
theorem c_nm7 (hR : RO R s) (h : CTk σ B n p) {a L : Nat} (hL : L ≤ 6 ∧ a + L ≤ n) (hl : ∀ j, j < L → 97 ≤ (B (a + j)).toInt ∧ (B (a + j)).toInt ≤ 122) : ∀ (m i fuel : Nat), i + m = L → m < fuel → f_X10_nameUpTo_7 N R fuel σ 3 (nI (a + L)) (nI (hnP (fun j => ((B (a + j)).toInt - 96).toNat) i)) (nI (a + i)) = some (nI (hnP (fun j => ((B (a + j)).toInt - 96).toNat) L), σ) := by
  obtain ⟨h1, -, -, -, h5⟩ := h
  intro m
  induction m with
  | zero =>
    intro i fuel hi hfu
    obtain ⟨fuel, rfl⟩ : ∃ q, fuel = q + 1 := ⟨fuel - 1, by omega⟩
    rw [f_X10_nameUpTo_7, if_pos (by rw [nI_leI (by omega) (by omega)]; omega), show i = L by omega]
  | succ m ih =>
    intro i fuel hi hfu
    obtain ⟨fuel, rfl⟩ : ∃ q, fuel = q + 1 := ⟨fuel - 1, by omega⟩
    have hb := hl i (by omega)
    have e : nI (hnP (fun j => ((B (a + j)).toInt - 96).toNat) i) * (32 : Int32) + B (a + i) - (97 : Int32) + (1 : Int32) = nI (hnP (fun j => ((B (a + j)).toInt - 96).toNat) (i + 1)) := by
      rw [show (32 : Int32) = iI 32 from rfl, show (97 : Int32) = iI 97 from rfl, show (1 : Int32) = iI 1 from rfl, iI_nat, iI_nat, iI_of (B (a + i)), iI_mul, iI_add, iI_sub, iI_add]
      congr 1
      show _ = ((hnP (fun j => ((B (a + j)).toInt - 96).toNat) i * 32 + ((B (a + i)).toInt - 96).toNat : Nat) : Int)
      omega
    rw [f_X10_nameUpTo_7, if_neg (by rw [nI_leI (by omega) (by omega)]; omega), ck_nI (by omega) (by decide), hR.r3_0, nI_clamp (by omega), h5 (a + i) (by omega), e, nI_1]
    exact ih (i + 1) fuel (by omega) (by omega)
theorem c_tn53 {q1 arr cnt e b : Nat} {v : Int32} (hq : cnt ≤ q1 ∧ q1 ≤ 8) (h0 : σ 3 4 = 0) (hb : σ 3 2 = nI b) : ∀ (m i fuel : Nat), i + m = cnt → m < fuel → ((∃ j, i ≤ j ∧ j < cnt ∧ σ arr j = v) → f_X10_takeName_53 N R q1 fuel σ 3 arr (nI cnt) (nI e) v (nI i) = some (-1, up (up σ 3 3 (nI b)) 3 4 3)) ∧ ((∀ j, i ≤ j → j < cnt → ¬ σ arr j = v) → f_X10_takeName_53 N R q1 fuel σ 3 arr (nI cnt) (nI e) v (nI i) = some (v, up σ 3 2 (nI e))) := by
  intro m
  induction m with
  | zero =>
    intro i fuel hi hfu
    obtain ⟨fuel, rfl⟩ : ∃ q, fuel = q + 1 := ⟨fuel - 1, by omega⟩
    refine ⟨fun ⟨j, h1, h2, _⟩ => absurd h2 (by omega), fun _ => ?_⟩
    rw [f_X10_takeName_53, if_pos (by rw [nI_leI (by omega) (by omega)]; omega), sq_eq]
  | succ m ih =>
    intro i fuel hi hfu
    obtain ⟨fuel, rfl⟩ : ∃ q, fuel = q + 1 := ⟨fuel - 1, by omega⟩
    obtain ⟨i1, i2⟩ := ih (i + 1) fuel (by omega) (by omega)
    rw [f_X10_takeName_53, if_neg (by rw [nI_leI (by omega) (by omega)]; omega), ck_nI (by omega) (by omega), nI_clamp (by omega), nI_1, c_fail h0, bd_some, hb]
    by_cases c : σ arr i = v
    · rw [if_pos c]
      exact ⟨fun _ => rfl, fun q => absurd c (q i (by omega) (by omega))⟩
    · rw [if_neg c]
      refine ⟨fun ⟨j, h1, h2, h3⟩ => i1 ⟨j, ?_, h2, h3⟩, fun q => i2 fun j h1 h2 => q j (by omega) h2⟩
      by_cases d : j = i
      · exact absurd (d ▸ h3) c
      · omega
theorem m_nm98 (hQ : RO Q s2) {k86 : SI → Nat → Int32 → Int32 → Int32 → Int32 → Int32 → Int32 → Option (Unit × SI)} {base st idx b i : Nat} {x3 x4 : Int32} (hb : b + 6 ≤ 417 ∧ base + st * i + 6 ≤ 417) : ∀ (m k fuel : Nat) (c : Bool), k + m = 6 → m < fuel → f_X12_name_98 N Q k86 fuel σ 178 (nI base) (nI st) x3 x4 (nI b) (nI i) (bI c) (nI k) = bd (f_X12_must N Q σ 178 (bI (!(c && sameF σ (base + st * i) b k m))) 3) (fun _ σ' => k86 σ' 178 (nI base) (nI st) x3 x4 (nI b) (nI i + 1)) := by
  intro m
  induction m with
  | zero =>
    intro k fuel c hk hfu
    obtain ⟨fuel, rfl⟩ : ∃ q, fuel = q + 1 := ⟨fuel - 1, by omega⟩
    rw [f_X12_name_98, if_pos (by rw [show (6 : Int32) = nI 6 from rfl, nI_leI (by omega) (by omega)]; omega)]
    cases c
    · rw [bI_f, if_pos rfl]
      rfl
    · rw [bI_t, if_neg (by decide)]
      rfl
  | succ m ih =>
    intro k fuel c hk hfu
    obtain ⟨fuel, rfl⟩ : ∃ q, fuel = q + 1 := ⟨fuel - 1, by omega⟩
    rw [f_X12_name_98, if_neg (by rw [show (6 : Int32) = nI 6 from rfl, nI_leI (by omega) (by omega)]; omega)]
    dsimp only [f_X12_name_141]
    have i0 := ih (k + 1) fuel false (by omega) (by omega)
    have i1 := ih (k + 1) fuel true (by omega) (by omega)
    rw [bI_f] at i0
    rw [bI_t] at i1
    rw [nI_1, i0, i1, nI_mul, nI_add, nI_add, nI_add, ck_nI (by omega) (by decide), ck_nI (by omega) (by decide), hQ.m11, nI_clamp (by omega), nI_clamp (by omega)]
    cases c
    · rw [bI_f, if_pos rfl]
      rfl
    · rw [bI_t, if_neg (by decide), show sameF σ (base + st * i) b k (m + 1) = (decide (σ 181 (base + st * i + k) = σ 181 (b + k)) && sameF σ (base + st * i) b (k + 1) m) from rfl]
      by_cases e : σ 181 (base + st * i + k) = σ 181 (b + k)
      · rw [if_pos e, decide_eq_true e, Bool.true_and, Bool.true_and]
      · rw [if_neg e, decide_eq_false e, Bool.false_and]
        rfl
theorem m_nm86F (hN : 2000 ≤ N) (hQ : RO Q s2) {base st idx b L q : Nat} (hb : b + 6 ≤ 417 ∧ base + st * idx ≤ b ∧ idx ≤ 8) (hF : ¬ σ 178 7 = -1) (hq : σ 178 4 = nI q) : ∀ (m i fuel : Nat), i + m = idx → m < fuel → f_X12_name_86 N Q fuel σ 178 (nI base) (nI st) (nI idx) (nI L) (nI b) (nI i) = some ((), up σ 178 4 (nI (q + L))) := by
  intro m
  induction m with
  | zero =>
    intro i fuel hi hfu
    obtain ⟨fuel, rfl⟩ : ∃ q, fuel = q + 1 := ⟨fuel - 1, by omega⟩
    rw [f_X12_name_86, if_pos (by rw [nI_leI (by omega) (by omega)]; omega), sq_eq, hq, nI_add]
  | succ m ih =>
    intro i fuel hi hfu
    obtain ⟨fuel, rfl⟩ : ∃ q, fuel = q + 1 := ⟨fuel - 1, by omega⟩
    have hm : st * i ≤ st * idx := Nat.mul_le_mul_left _ (by omega)
    have z := m_nm98 (N := N) (σ := σ) hQ (k86 := fun σ x0 x1 x2 x3 x4 x5 x6 => f_X12_name_86 N Q fuel σ x0 x1 x2 x3 x4 x5 x6) (base := base) (st := st) (b := b) (i := i) (x3 := nI idx) (x4 := nI L) (idx := idx) (by omega) 6 0 N true (by omega) (by omega)
    rw [bI_t] at z
    rw [f_X12_name_86, if_neg (by rw [nI_leI (by omega) (by omega)]; omega)]
    refine z.trans ?_
    rw [m_mustF hF, bd_some, nI_1]
    exact ih (i + 1) fuel (by omega) (by omega)
theorem m_nm86 (hN : 2000 ≤ N) (hQ : RO Q s2) {base st idx b L q a : Nat} (hb : b + 6 ≤ 417 ∧ base + st * idx ≤ b ∧ idx ≤ 8) (hF : σ 178 7 = -1) (hq : σ 178 4 = nI q) (ha : σ 178 5 = nI a ∧ a ≤ 800) : ∀ (m i fuel : Nat), i + m = idx → m < fuel → f_X12_name_86 N Q fuel σ 178 (nI base) (nI st) (nI idx) (nI L) (nI b) (nI i) = some ((), up (if anyN (fun j => sameF σ (base + st * j) b 0 6) i m then up (up σ 178 7 (nI a)) 178 8 3 else σ) 178 4 (nI (q + L))) := by
  intro m
  induction m with
  | zero =>
    intro i fuel hi hfu
    obtain ⟨fuel, rfl⟩ : ∃ q, fuel = q + 1 := ⟨fuel - 1, by omega⟩
    rw [f_X12_name_86, if_pos (by rw [nI_leI (by omega) (by omega)]; omega), sq_eq, hq, nI_add]
    rfl
  | succ m ih =>
    intro i fuel hi hfu
    obtain ⟨fuel, rfl⟩ : ∃ q, fuel = q + 1 := ⟨fuel - 1, by omega⟩
    have hm : st * i ≤ st * idx := Nat.mul_le_mul_left _ (by omega)
    have z := m_nm98 (N := N) (σ := σ) hQ (k86 := fun σ x0 x1 x2 x3 x4 x5 x6 => f_X12_name_86 N Q fuel σ x0 x1 x2 x3 x4 x5 x6) (base := base) (st := st) (b := b) (i := i) (x3 := nI idx) (x4 := nI L) (idx := idx) (by omega) 6 0 N true (by omega) (by omega)
    rw [bI_t] at z
    rw [f_X12_name_86, if_neg (by rw [nI_leI (by omega) (by omega)]; omega), show anyN (fun j => sameF σ (base + st * j) b 0 6) i (m + 1) = (sameF σ (base + st * i) b 0 6 || anyN (fun j => sameF σ (base + st * j) b 0 6) (i + 1) m) from rfl]
    refine z.trans ?_
    rw [Bool.true_and]
    cases sameF σ (base + st * i) b 0 6
    · rw [Bool.not_false, bI_t, m_must1, bd_some, nI_1, Bool.false_or]
      exact ih (i + 1) fuel (by omega) (by omega)
    · rw [Bool.not_true, bI_f, m_must0 hF, bd_some, nI_1, Bool.true_or, if_pos rfl, ha.1]
      exact m_nm86F hN hQ hb (by rw [show up (up σ 178 7 (nI a)) 178 8 3 178 7 = nI a from (if_neg (by omega)).trans up_th, show (-1 : Int32) = iI (-1) from rfl, iI_nat, iI_eq (by omega)]; omega) ((if_neg (by omega)).trans ((if_neg (by omega)).trans hq)) m (i + 1) fuel (by omega) (by omega)
theorem m_nm37 (hN : 2000 ≤ N) (hQ : RO Q s2) {base st idx b L a : Nat} (hb : b + 6 ≤ 417 ∧ base + st * idx ≤ b ∧ idx ≤ 8) (hL : L ≤ 6 ∧ a + L ≤ n) : ∀ (m i fuel : Nat) (σ : SI), MTk σ B n a → i + m = 6 → m < fuel → ∃ σ', (∀ j, j < m → σ' 181 (b + (i + j)) = if i + j < L then B (a + (i + j)) else 0) ∧ (∀ o j, o ≠ 181 ∨ j < b + i ∨ b + 6 ≤ j → σ' o j = σ o j) ∧ f_X12_name_37 N Q fuel σ 178 (nI base) (nI st) (nI idx) (nI L) (nI b) (nI i) = f_X12_name_86 N Q N σ' 178 (nI base) (nI st) (nI idx) (nI L) (nI b) (0 : Int32) := by
  intro m
  induction m with
  | zero =>
    intro i fuel σ h hi hfu
    obtain ⟨fuel, rfl⟩ : ∃ q, fuel = q + 1 := ⟨fuel - 1, by omega⟩
    refine ⟨σ, fun j hj => absurd hj (by omega), fun _ _ _ => rfl, ?_⟩
    rw [f_X12_name_37, if_pos (by rw [show (6 : Int32) = nI 6 from rfl, nI_leI (by omega) (by omega)]; omega)]
  | succ m ih =>
    intro i fuel σ h hi hfu
    obtain ⟨fuel, rfl⟩ : ∃ q, fuel = q + 1 := ⟨fuel - 1, by omega⟩
    have h8 := h.1
    obtain ⟨σ', f1, f2, f3⟩ := ih (i + 1) fuel (up σ 181 (b + i) (if i < L then B (a + i) else 0)) (h.fr h.2.1 ((if_neg (by omega)).trans h.2.2.2.1) (fun o j z => if_neg (by omega))) (by omega) (by omega)
    refine ⟨σ', fun j hj => ?_, fun o j z => (f2 o j (by omega)).trans (if_neg (by omega)), ?_⟩
    · by_cases c : j = 0
      · rw [c]
        exact (f2 181 (b + i) (by omega)).trans up_th
      · have := f1 (j - 1) (by omega)
        rw [show i + 1 + (j - 1) = i + j by omega] at this
        exact this
    · rw [f_X12_name_37, if_neg (by rw [show (6 : Int32) = nI 6 from rfl, nI_leI (by omega) (by omega)]; omega), nI_add, ck_nI (by omega) (by decide), nI_clamp (by omega), hQ.m11, h.2.2.2.1, nI_add, nI_1]
      by_cases c : i < L
      · rw [if_neg (by rw [nI_leI (by omega) (by omega)]; omega), ck_nI (by omega) (by decide), ck_nI (by omega) (by decide), sq_eq, nI_clamp (by omega), hQ.m1, h.2.2.2.2 (a + i) (by omega)]
        rw [if_pos c] at f3
        exact f3
      · rw [if_pos (by rw [nI_leI (by omega) (by omega)]; omega), sq_eq]
        rw [if_neg c] at f3
        exact f3
/-- a name, both sides still well -/
theorem T_name (hN : 2000 ≤ N) (hR : RO R s) (hQ : RO Q s2) (h : TS B n k true σc σm) {arr q1 base st idx b : Nat} (harr : arr ≠ 3) (hq1 : idx < q1 ∧ q1 ≤ 8) (hb : b + 6 ≤ 417 ∧ base + st * idx = b) (hst : 6 ≤ st) (hnm : ∀ i, i < idx → ∃ L, NmR σm (base + st * i) L ∧ σc arr i = nI (hnP (lf σm (base + st * i)) L)) : ∃ (ok' : Bool) (v : Int32) (σc' σm' : SI), f_X10_takeName N R q1 σc 3 arr (nI idx) = some (v, σc') ∧ f_X12_name N Q σm 178 (nI base) (nI st) (nI idx) = some ((), σm') ∧ TS B n k ok' σc' σm' ∧ FC σc σc' ∧ (∀ o j, (o ≠ 178 ∨ (j ≠ 4 ∧ j ≠ 5 ∧ j ≠ 7 ∧ j ≠ 8)) → (o ≠ 181 ∨ j < b ∨ b + 6 ≤ j) → σm' o j = σm o j) ∧ (ok' = true → ∃ L, NmR σm' b L ∧ v = nI (hnP (lf σm' b) L)) := by
  obtain ⟨p, q', h1, h2, h3, h4⟩ := id h
  obtain ⟨rfl, hk, c3, c4, m7, m8⟩ := h3 rfl
  obtain ⟨e1, f1⟩ := c_skip hN hR h1
  obtain ⟨σ2, e2, f2, b5, g2⟩ := m_letters hN hQ h2
  have hs := sk_r (B := B) (n := n) (p := q')
  have hs2 := hs.2.1 h1.2.1
  have h8 := h1.1
  have her := er_r (B := B) (n := n) (p := sk B n q') (lo := 97) (hi := 122)
  have hen := her.2.1 hs2
  have d4 : up σc 3 2 (nI (sk B n q')) 3 4 = 0 := (if_neg (by omega)).trans c4
  have z7 : σ2 178 7 = -1 := (g2 _ _ (by omega)).trans m7
  have T1 : TS B n k true (up σc 3 2 (nI (sk B n q'))) σ2 := ⟨_, _, f1, f2, fun _ => ⟨rfl, by omega, (if_neg (by omega)).trans c3, d4, z7, (g2 _ _ (by omega)).trans m8⟩, fun z => by cases z⟩
  have lets : ∀ j, j < er B n 97 122 (sk B n q') - sk B n q' → 97 ≤ (B (sk B n q' + j)).toInt ∧ (B (sk B n q' + j)).toInt ≤ 122 := fun j hj => (isC_n (her.2.2.2 (sk B n q' + j) (by omega) (by omega))).2
  unfold f_X10_takeName f_X12_name
  rw [e1, bd_some, c_run hN hR f1, bd_some, e2, bd_some, f1.2.2.2.1, nI_sub her.1, show f_X12_in N Q σ2 (nI (er B n 97 122 (sk B n q') - sk B n q')) 1 6 = f_X12_in N Q σ2 (iI ((er B n 97 122 (sk B n q') - sk B n q' : Nat) : Int)) (iI 1) (iI 6) by rw [iI_nat]; rfl, m_in, bd_some, iI_toInt (by omega), iI_toInt (by omega), iI_toInt (by omega)]
  by_cases c : 1 ≤ er B n 97 122 (sk B n q') - sk B n q' ∧ er B n 97 122 (sk B n q') - sk B n q' ≤ 6
  · -- a name of the right length
    generalize hL : er B n 97 122 (sk B n q') - sk B n q' = L at *
    have ee : er B n 97 122 (sk B n q') = sk B n q' + L := by omega
    obtain ⟨σ3, f3, f4, f5⟩ := m_nm37 (N := N) hN hQ (base := base) (st := st) (idx := idx) (b := b) (L := L) (a := sk B n q') (n := n) (B := B) (by omega) (by omega) 6 0 N σ2 f2 (by omega) (by omega)
    have hnew : NmR σ3 b L := by
      refine ⟨c.1, c.2, fun j hj => ?_, fun j hj hj6 => ?_⟩
      · have := f3 j (by omega)
        rw [Nat.zero_add, if_pos hj] at this
        rw [this]
        exact lets j hj
      · have := f3 j (by omega)
        rw [Nat.zero_add, if_neg (by omega)] at this
        exact this
    have hval : hnP (fun j => ((B (sk B n q' + j)).toInt - 96).toNat) L = hnP (lf σ3 b) L := by
      refine hnP_ext L fun j hj => ?_
      have := f3 j (by omega)
      rw [Nat.zero_add, if_pos hj] at this
      unfold lf
      rw [this]
    have hold : ∀ i, i < idx → ∃ M, NmR σ3 (base + st * i) M ∧ σc arr i = nI (hnP (lf σ3 (base + st * i)) M) := by
      intro i hi
      obtain ⟨M, g3, g4⟩ := hnm i hi
      have hm : st * i + st ≤ st * idx := by
        have : st * (i + 1) ≤ st * idx := Nat.mul_le_mul_left _ (by omega)
        rw [Nat.mul_succ] at this
        exact this
      have ce : ∀ k, k < 6 → σ3 181 (base + st * i + k) = σm 181 (base + st * i + k) := fun k hk => (f4 _ _ (by omega)).trans (g2 _ _ (by omega))
      refine ⟨M, ⟨g3.1, g3.2.1, fun k hk => ?_, fun k hk hk6 => ?_⟩, ?_⟩
      · rw [ce k (by have := g3.2.1; omega)]
        exact g3.2.2.1 k hk
      · rw [ce k hk6]
        exact g3.2.2.2 k hk hk6
      · rw [g4]
        congr 1
        refine hnP_ext M fun k hk => ?_
        unfold lf
        rw [ce k (by have := g3.2.1; omega)]
    have y7 : σ3 178 7 = -1 := (f4 _ _ (by omega)).trans z7
    have n86 := m_nm86 (N := N) hN hQ (σ := σ3) (base := base) (st := st) (idx := idx) (b := b) (L := L) (q := sk B n q') (a := sk B n q') (by omega) y7 ((f4 _ _ (by omega)).trans f2.2.2.2.1) ⟨(f4 _ _ (by omega)).trans b5, by omega⟩ idx 0 N (by omega) (by omega)
    have n7 := c_nm7 (N := N) hR f1 (a := sk B n q') (L := L) (by omega) lets L 0 N (by omega) (by omega)
    have n53 := c_tn53 (N := N) (R := R) (σ := up σc 3 2 (nI (sk B n q'))) (q1 := q1) (arr := arr) (cnt := idx) (e := sk B n q' + L) (b := sk B n q') (v := nI (hnP (lf σ3 b) L)) (by omega) d4 up_th idx 0 N (by omega) (by omega)
    have hit : anyN (fun j => sameF σ3 (base + st * j) b 0 6) 0 idx = true ↔ ∃ j, 0 ≤ j ∧ j < idx ∧ up σc 3 2 (nI (sk B n q')) arr j = nI (hnP (lf σ3 b) L) := by
      rw [anyN_iff]
      refine exists_congr fun j => ?_
      constructor
      · intro ⟨j1, j2, j3⟩
        obtain ⟨M, g3, g4⟩ := hold j (by omega)
        refine ⟨j1, by omega, (if_neg (fun q => harr q.1)).trans (g4.trans ?_)⟩
        rw [(g3.same hnew).mp j3]
      · intro ⟨j1, j2, j3⟩
        obtain ⟨M, g3, g4⟩ := hold j (by omega)
        refine ⟨j1, by omega, (g3.same hnew).mpr ?_⟩
        have e := (g4.symm.trans ((if_neg (fun q => harr q.1)).symm.trans j3))
        exact (nI_eq (by have := hnP_30 g3.2.1 g3.ltr; omega) (by have := hnP_30 c.2 hnew.ltr; omega)).mp e
    rw [if_neg (by rw [nI_eq (by omega) (by omega)]; omega), if_pos (by rw [show (6 : Int32) = nI 6 from rfl, nI_leI (by omega) (by omega)]; exact c.2)]
    unfold f_X10_nameUpTo
    rw [f1.2.2.2.1, ee, show f_X10_nameUpTo_7 N R N (up σc 3 2 (nI (sk B n q'))) 3 (nI (sk B n q' + L)) 0 (nI (sk B n q')) = some (nI (hnP (fun j => ((B (sk B n q' + j)).toInt - 96).toNat) L), up σc 3 2 (nI (sk B n q'))) from n7, bd_some, hval, decide_eq_true (by omega), bI_t, m_must1, bd_some]
    unfold f_X12_hasFailed
    rw [z7, if_pos rfl, bd_some, if_pos rfl, nI_mul, nI_add, hb.2, show (0 : Int32) = nI 0 from rfl, f5, show (0 : Int32) = nI 0 from rfl, n86]
    have M3 : MTk σ3 B n (sk B n q') := f2.fr f2.2.1 ((f4 _ _ (by omega)).trans f2.2.2.2.1) (fun o j z => f4 o j (by omega))
    cases hc : anyN (fun j => sameF σ3 (base + st * j) b 0 6) 0 idx
    · rw [if_neg (by decide), n53.2 (fun j j1 j2 j3 => by have := hit.mpr ⟨j, j1, j2, j3⟩; rw [hc] at this; cases this)]
      refine ⟨true, _, _, _, rfl, rfl, ⟨sk B n q' + L, sk B n q' + L, f1.fr (by omega) up_th (fun o j z => if_neg (by omega)), M3.fr (by omega) up_th (fun o j z => if_neg (by omega)), fun _ => ⟨rfl, by omega, (if_neg (by omega)).trans ((if_neg (by omega)).trans c3), (if_neg (by omega)).trans d4, (if_neg (by omega)).trans y7, (if_neg (by omega)).trans ((f4 _ _ (by omega)).trans ((g2 _ _ (by omega)).trans m8))⟩, fun z => by cases z⟩, fun o j z => (if_neg (by omega)).trans (if_neg (by omega)), fun o j z z' => (if_neg (by omega)).trans ((f4 o j (by omega)).trans (g2 o j (by omega))), fun _ => ⟨L, ⟨hnew.1, hnew.2.1, fun k hk => ?_, fun k hk hk6 => ?_⟩, ?_⟩⟩
      · rw [show up σ3 178 4 (nI (sk B n q' + L)) 181 (b + k) = σ3 181 (b + k) from if_neg (by omega)]
        exact hnew.2.2.1 k hk
      · rw [show up σ3 178 4 (nI (sk B n q' + L)) 181 (b + k) = σ3 181 (b + k) from if_neg (by omega)]
        exact hnew.2.2.2 k hk hk6
      · congr 1
    · rw [if_pos rfl, n53.1 (hit.mp hc)]
      refine ⟨false, _, _, _, rfl, rfl, ⟨sk B n q', sk B n q' + L, f1.fr f1.2.1 ((if_neg (by omega)).trans ((if_neg (by omega)).trans up_th)) (fun o j z => (if_neg (by omega)).trans (if_neg (by omega))), M3.fr (by omega) up_th (fun o j z => (if_neg (by omega)).trans ((if_neg (by omega)).trans (if_neg (by omega)))), fun z => (by cases z), fun _ => ⟨sk B n q', 3, by omega, by omega, by omega, (if_neg (by omega)).trans up_th, up_th, (if_neg (by omega)).trans ((if_neg (by omega)).trans up_th), (if_neg (by omega)).trans up_th⟩⟩, fun o j z => (if_neg (by omega)).trans ((if_neg (by omega)).trans (if_neg (by omega))), fun o j z z' => (if_neg (by omega)).trans ((if_neg (by omega)).trans ((if_neg (by omega)).trans ((f4 o j (by omega)).trans (g2 o j (by omega))))), fun z => by cases z⟩
  · -- none, or too long
    have F32 : f_X10_takeName_32 N R q1 (up σc 3 2 (nI (sk B n q'))) 3 = some (-1, up (up (up σc 3 2 (nI (sk B n q'))) 3 3 (nI (sk B n q'))) 3 4 1) := by
      unfold f_X10_takeName_32
      rw [c_fail d4, bd_some, f1.2.2.2.1]
    have Tf := T1.fails (a := 0) (b := sk B n q') (kd := 1) ⟨by omega, by omega, by omega⟩
    have cc : (if nI (er B n 97 122 (sk B n q')) = nI (sk B n q') then f_X10_takeName_32 N R q1 (up σc 3 2 (nI (sk B n q'))) 3 else if nI (er B n 97 122 (sk B n q') - sk B n q') ≤ (6 : Int32) then bd (f_X10_nameUpTo N R (up σc 3 2 (nI (sk B n q'))) 3 (nI (er B n 97 122 (sk B n q')))) (fun a6 σ6 => f_X10_takeName_53 N R q1 N σ6 3 arr (nI idx) (nI (er B n 97 122 (sk B n q'))) a6 (0 : Int32)) else f_X10_takeName_32 N R q1 (up σc 3 2 (nI (sk B n q'))) 3) = some (-1, up (up (up σc 3 2 (nI (sk B n q'))) 3 3 (nI (sk B n q'))) 3 4 1) := by
      by_cases c1 : er B n 97 122 (sk B n q') = sk B n q'
      · rw [if_pos (by rw [c1]), F32]
      · rw [if_neg (by rw [nI_eq (by omega) (by omega)]; exact c1), if_neg (by rw [show (6 : Int32) = nI 6 from rfl, nI_leI (by omega) (by omega)]; omega), F32]
    rw [cc, decide_eq_false (by omega), bI_f, m_must0 z7, bd_some, b5]
    unfold f_X12_hasFailed
    rw [if_neg (show ¬ up (up σ2 178 7 (nI (sk B n q'))) 178 8 1 178 7 = -1 from Tf.m0), bd_some, if_neg (by decide)]
    exact ⟨false, _, _, _, rfl, rfl, Tf, fun o j z => (if_neg (by omega)).trans ((if_neg (by omega)).trans (if_neg (by omega))), fun o j z z' => (if_neg (by omega)).trans ((if_neg (by omega)).trans (g2 o j (by omega))), fun z => by cases z⟩
end NAME
