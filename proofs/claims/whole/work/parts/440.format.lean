/-! ===== the formatted text ===== -/
def btc (c : Int32) : Int32 := vp_nar .byte c.toInt8.toInt32
theorem nI_div {a b : Nat} (ha : a < 2147483648) (hb : 0 < b ∧ b < 2147483648) : nI a / nI b = nI (a / b) := by
  rw [iI_nat, iI_nat, iI_div (by omega) (by omega), iI_nat]
  congr 1
theorem nI_mod10 {a : Nat} (ha : a < 2147483648) : nI a - nI a / (10 : Int32) * (10 : Int32) = nI (a % 10) := by
  rw [show (10 : Int32) = nI 10 from rfl, nI_div ha (by omega), nI_mul, nI_sub (by omega)]
  congr 1
  omega
def dgu (v u : Nat) : List Int32 := if u ≤ v ∨ u = 1 then [nI (48 + v / u % 10)] else []
def dg (v : Nat) (L : List Int32) : List Int32 := ((((L ++ dgu v 10000) ++ dgu v 1000) ++ dgu v 100) ++ dgu v 10) ++ dgu v 1
theorem dgu_len (v u : Nat) : (dgu v u).length ≤ 1 := by
  unfold dgu
  split <;> simp
theorem dg_len (v : Nat) (L : List Int32) : (dg v L).length ≤ L.length + 5 := by
  unfold dg
  have h1 := dgu_len v 10000
  have h2 := dgu_len v 1000
  have h3 := dgu_len v 100
  have h4 := dgu_len v 10
  have h5 := dgu_len v 1
  simp only [List.length_append]
  omega
theorem dgu_div {v u : Nat} (hu : 1 < u) (hv : 10 ≤ v) : dgu (v / 10) u = dgu v (u * 10) := by
  unfold dgu
  have e1 : u ≤ v / 10 ↔ u * 10 ≤ v := Nat.le_div_iff_mul_le (by decide)
  have e2 : v / 10 / u = v / (u * 10) := by rw [Nat.div_div_eq_div_mul, Nat.mul_comm]
  rw [e2]
  by_cases c : u * 10 ≤ v
  · rw [if_pos (Or.inl (e1.mpr c)), if_pos (Or.inl c)]
  · rw [if_neg (by rw [e1]; omega), if_neg (by omega)]
theorem dg_small {v : Nat} (hv : v ≤ 9) (L : List Int32) : dg v L = L ++ [nI (48 + v % 10)] := by
  have z : ∀ u, 9 < u → dgu v u = [] := fun u hu => if_neg (by omega)
  unfold dg
  rw [z 10000 (by omega), z 1000 (by omega), z 100 (by omega), z 10 (by omega), List.append_nil, List.append_nil, List.append_nil, List.append_nil]
  unfold dgu
  rw [if_pos (Or.inr rfl), Nat.div_one]
theorem dg_big {v : Nat} (hv : 10 ≤ v ∧ v < 100000) (L : List Int32) : dg v L = dg (v / 10) L ++ [nI (48 + v % 10)] := by
  have z : dgu (v / 10) 10000 = [] := if_neg (by omega)
  have h1 : dgu v 1 = [nI (48 + v % 10)] := by
    unfold dgu
    rw [if_pos (Or.inr rfl), Nat.div_one]
  have h2 : dgu (v / 10) 1 = dgu v 10 := by
    unfold dgu
    rw [if_pos (Or.inr rfl), if_pos (Or.inl hv.1), Nat.div_one]
  unfold dg
  rw [z, List.append_nil, dgu_div (u := 1000) (by omega) hv.1, dgu_div (u := 100) (by omega) hv.1, dgu_div (u := 10) (by omega) hv.1, h2, h1]
/-- letters out of a packed name, from place g - 1 down -/
def nmG (P : Nat) : Nat → List Int32 → List Int32
  | 0, L => L
  | g + 1, L => nmG P g (if P / 2 ^ (5 * g) % 32 = 0 then L else L ++ [nI (96 + P / 2 ^ (5 * g) % 32)])
theorem nmG_app (P : Nat) : ∀ (g : Nat) (L M : List Int32), nmG P g (L ++ M) = L ++ nmG P g M := by
  intro g
  induction g with
  | zero => intro L M; rfl
  | succ g ih =>
    intro L M
    unfold nmG
    by_cases c : P / 2 ^ (5 * g) % 32 = 0
    · rw [if_pos c, if_pos c]
      exact ih L M
    · rw [if_neg c, if_neg c, List.append_assoc]
      exact ih L _
theorem nmG_step {P v : Nat} (hv : 1 ≤ v ∧ v < 32) : ∀ (g : Nat) (L : List Int32), nmG (P * 32 + v) (g + 1) L = nmG P g L ++ [nI (96 + v)] := by
  intro g
  induction g with
  | zero =>
    intro L
    unfold nmG nmG
    rw [show (P * 32 + v) / 2 ^ (5 * 0) % 32 = v by rw [show 2 ^ (5 * 0) = 1 from rfl, Nat.div_one]; omega, if_neg (by omega)]
  | succ g ih =>
    intro L
    have e : (P * 32 + v) / 2 ^ (5 * (g + 1)) = P / 2 ^ (5 * g) := by
      rw [show 5 * (g + 1) = 5 + 5 * g by omega, Nat.pow_add, ← Nat.div_div_eq_div_mul, show (P * 32 + v) / 2 ^ 5 = P by omega]
    rw [nmG, e, ih, nmG]
def nmf (t : Nat → Int) (b : Nat) : Nat → List Int32 → List Int32 := fun k L => if t (285 + 22 * b + k) = 0 then L else L ++ [iI (t (285 + 22 * b + k))]
def pkf (t : Nat → Int) (b : Nat) : Nat → Nat → Nat := fun k a => if t (285 + 22 * b + k) = 0 then a else a * 32 + (t (285 + 22 * b + k) - 96).toNat
theorem pk_nat {t : Nat → Int} {b : Nat} (h : ∀ k : Nat, k < 6 → t (285 + 22 * b + k) = 0 ∨ 97 ≤ t (285 + 22 * b + k) ∧ t (285 + 22 * b + k) ≤ 122) : ∀ (m k P : Nat), k + m = 6 → lp (fun k (a : Int32) => if t (285 + 22 * b + k) = 0 then a else a * 32 + iI (t (285 + 22 * b + k)) - 97 + 1) k m (nI P) = nI (lp (pkf t b) k m P) := by
  intro m
  induction m with
  | zero => intro k P _; rfl
  | succ m ih =>
    intro k P hk
    have hz := h k (by omega)
    rw [lp_s, lp_s]
    have e : (if t (285 + 22 * b + k) = 0 then nI P else nI P * 32 + iI (t (285 + 22 * b + k)) - 97 + 1) = nI (pkf t b k P) := by
      unfold pkf
      by_cases c : t (285 + 22 * b + k) = 0
      · rw [if_pos c, if_pos c]
      · rw [if_neg c, if_neg c, show (32 : Int32) = iI 32 from rfl, show (97 : Int32) = iI 97 from rfl, show (1 : Int32) = iI 1 from rfl, iI_nat, iI_nat, iI_mul, iI_add, iI_sub, iI_add]
        congr 1
        omega
    rw [e]
    exact ih (k + 1) _ (by omega)
theorem pk_nm {t : Nat → Int} {b : Nat} (h : ∀ k : Nat, k < 6 → t (285 + 22 * b + k) = 0 ∨ 97 ≤ t (285 + 22 * b + k) ∧ t (285 + 22 * b + k) ≤ 122) : ∀ (m k P : Nat) (L : List Int32), k + m = 6 → P < 2 ^ (5 * k) → nmG P 6 [] = L → lp (pkf t b) k m P < 2 ^ 30 ∧ nmG (lp (pkf t b) k m P) 6 [] = lp (nmf t b) k m L := by
  intro m
  induction m with
  | zero =>
    intro k P L hk hP hL
    rw [show k = 6 by omega] at hP
    exact ⟨hP, hL⟩
  | succ m ih =>
    intro k P L hk hP hL
    have hz := h k (by omega)
    rw [lp_s, lp_s]
    have hp : 2 ^ (5 * (k + 1)) = 32 * 2 ^ (5 * k) := by
      rw [show 5 * (k + 1) = 5 + 5 * k by omega, Nat.pow_add]
    have hk5 : 2 ^ (5 * k) ≤ 2 ^ 25 := Nat.pow_le_pow_right (by decide) (by omega)
    refine ih (k + 1) _ _ (by omega) ?_ ?_
    · unfold pkf
      split <;> omega
    · unfold pkf nmf
      by_cases c : t (285 + 22 * b + k) = 0
      · rw [if_pos c, if_pos c]
        exact hL
      · rw [if_neg c, if_neg c, nmG_step (by omega) 5 []]
        have e : nmG P 6 [] = nmG P 5 [] := by
          rw [nmG, if_pos]
          have : P / 2 ^ (5 * 5) = 0 := Nat.div_eq_of_lt (by omega)
          rw [this]
        rw [← e, hL, iI_nat]
        congr 3
        omega
theorem nmf_len {t : Nat → Int} {b : Nat} : ∀ (m k : Nat) (L : List Int32), (lp (nmf t b) k m L).length ≤ L.length + m := by
  intro m
  induction m with
  | zero => intro k L; exact Nat.le_refl _
  | succ m ih =>
    intro k L
    have h1 := ih (k + 1) (nmf t b k L)
    have h2 : (nmf t b k L).length ≤ L.length + 1 := by
      unfold nmf
      split
      · omega
      · simp
    rw [lp_s]
    omega
def txf (q : Nat) : Nat → List Int32 → List Int32 := fun i L => L ++ [chS q (nI i)]
theorem txf_len (q : Nat) : ∀ (m k : Nat) (L : List Int32), (lp (txf q) k m L).length = L.length + m := by
  intro m
  induction m with
  | zero => intro k L; rfl
  | succ m ih =>
    intro k L
    rw [lp_s, ih (k + 1)]
    unfold txf
    rw [List.length_append]
    simp
    omega
theorem bitC_dec : ∀ b0 b1 b2 b3 b4 b5 : Bool, bitC (bts (b8 b0 b1 b2 b3 b4 b5 false false) 0 8 0) = iI (cnt (b8 b0 b1 b2 b3 b4 b5 false false) 0 6) := by decide +kernel
section FMT
variable {N : Nat} {R : Nat → Nat → Nat} {s : Nat} {t w : Nat → Int} {σ : SI}
def CTx (σ : SI) (L : List Int32) : Prop := σ 29 1 = nI L.length ∧ ∀ j, j < L.length → σ 30 j = btc (L.getD j 0)
def MTx (σ : SI) (L : List Int32) : Prop := σ 178 26 = nI L.length ∧ ∀ j, j < L.length → σ 193 j = btc (L.getD j 0)
theorem getD_app {L : List Int32} {c : Int32} {j : Nat} (hj : j < L.length + 1) : (L ++ [c]).getD j 0 = if j = L.length then c else L.getD j 0 := by
  rw [List.getD_eq_getElem?_getD, List.getD_eq_getElem?_getD]
  by_cases e : j = L.length
  · rw [if_pos e, e, List.getElem?_append_right (by omega), Nat.sub_self]
    rfl
  · rw [if_neg e, List.getElem?_append_left (by omega)]
theorem c_put (hR : RO R s) {L : List Int32} (hL : L.length < 40) (h : CTx σ L) (c : Int32) : ∃ σ', f_X1_add N R σ 29 c = some ((), σ') ∧ CTx σ' (L ++ [c]) ∧ ∀ o j, o ≠ 29 → o ≠ 30 → σ' o j = σ o j := by
  have el : (L ++ [c]).length = L.length + 1 := by simp
  refine ⟨up (up σ 30 L.length (btc c)) 29 1 (nI (L.length + 1)), ?_, ⟨?_, fun j hj => ?_⟩, fun o j h1 h2 => ?_⟩
  · unfold f_X1_add
    rw [h.1, if_neg (by rw [show Int32.ofNat 40 = nI 40 from rfl, nI_leI (by omega) (by omega)]; omega), ck_nI hL (by decide), sq_eq, hR.r29_0, nI_clamp (by omega), sq_eq, show vp_nar .byte c.toInt8.toInt32 = btc c from rfl, show up σ 30 L.length (btc c) 29 1 = σ 29 1 from if_neg (by omega), h.1, nI_1]
  · rw [el]
    exact up_th
  · rw [el] at hj
    rw [getD_app hj]
    unfold up
    rw [if_neg (by omega)]
    by_cases e : j = L.length
    · rw [if_pos ⟨rfl, e⟩, if_pos e]
    · rw [if_neg (by omega), if_neg e]
      exact h.2 j (by omega)
  · unfold up
    rw [if_neg (by omega), if_neg (by omega)]
theorem m_put (hR : RO R s) {L : List Int32} (hL : L.length < 60) (h : MTx σ L) (c : Int32) : ∃ σ', f_X12_says N R σ 178 c = some ((), σ') ∧ MTx σ' (L ++ [c]) ∧ ∀ o j, o ≠ 193 → (o ≠ 178 ∨ j ≠ 26) → σ' o j = σ o j := by
  have el : (L ++ [c]).length = L.length + 1 := by simp
  refine ⟨up (up σ 193 L.length (btc c)) 178 26 (nI (L.length + 1)), ?_, ⟨?_, fun j hj => ?_⟩, fun o j h1 h2 => ?_⟩
  · unfold f_X12_says
    rw [h.1, ck_nI hL (by decide), sq_eq, hR.m25, nI_clamp (by omega), sq_eq, show vp_nar .byte c.toInt8.toInt32 = btc c from rfl, show up σ 193 L.length (btc c) 178 26 = σ 178 26 from if_neg (by omega), h.1, nI_1]
  · rw [el]
    exact up_th
  · rw [el] at hj
    rw [getD_app hj]
    unfold up
    rw [if_neg (by omega)]
    by_cases e : j = L.length
    · rw [if_pos ⟨rfl, e⟩, if_pos e]
    · rw [if_neg (by omega), if_neg e]
      exact h.2 j (by omega)
  · unfold up
    rw [if_neg (by omega), if_neg (by omega)]
theorem c_num1 (hR : RO R s) {L : List Int32} (hL : L.length < 40) (h : CTx σ L) {v u : Nat} (hv : v < 100000) (hu : 1 ≤ u ∧ u ≤ 10000) (n : Nat) : ∃ σ', f_X1_addNumber_4 N R (n + 1) σ 29 (nI v) (nI u) = f_X1_addNumber_4 N R n σ' 29 (nI v) (nI (u / 10)) ∧ CTx σ' (L ++ dgu v u) ∧ ∀ o j, o ≠ 29 → o ≠ 30 → σ' o j = σ o j := by
  have eu : nI u / (10 : Int32) = nI (u / 10) := nI_div (b := 10) (by omega) (by omega)
  have e1 : ¬ nI u < (1 : Int32) := by rw [show (1 : Int32) = nI 1 from rfl, nI_ltI (by omega) (by omega)]; omega
  have e0 : ¬ nI u = 0 := by rw [show (0 : Int32) = nI 0 from rfl, nI_eq (by omega) (by omega)]; omega
  have hd : v / u < 100000 := Nat.lt_of_le_of_lt (Nat.div_le_self _ _) hv
  have ec : (48 : Int32) + (nI v / nI u - nI v / nI u / (10 : Int32) * (10 : Int32)) = nI (48 + v / u % 10) := by
    rw [nI_div (by omega) (by omega), nI_mod10 (by omega), show (48 : Int32) = nI 48 from rfl, nI_add]
  obtain ⟨σ', g1, g2, g3⟩ := c_put (N := N) hR hL h (nI (48 + v / u % 10))
  have e19 : f_X1_addNumber_19 N R (fun σ x0 x1 x2 => f_X1_addNumber_4 N R n σ x0 x1 x2) σ 29 (nI v) (nI u) = f_X1_addNumber_4 N R n σ' 29 (nI v) (nI (u / 10)) := by
    unfold f_X1_addNumber_19 f_X1_addNumber_32
    rw [cd_ne e0, ec, g1, bd_some, eu]
  rw [f_X1_addNumber_4, if_neg e1]
  unfold dgu
  by_cases c : u ≤ v
  · rw [if_pos (by rw [nI_leI (by omega) (by omega)]; exact c), if_pos (Or.inl c)]
    exact ⟨σ', e19, g2, g3⟩
  · rw [if_neg (by rw [nI_leI (by omega) (by omega)]; exact c)]
    by_cases d : u = 1
    · rw [if_pos (by rw [d]; rfl), if_pos (Or.inr d)]
      exact ⟨σ', e19, g2, g3⟩
    · rw [if_neg (by rw [show (1 : Int32) = nI 1 from rfl, nI_eq (by omega) (by omega)]; exact d), if_neg (by omega), List.append_nil]
      refine ⟨σ, ?_, h, fun _ _ _ _ => rfl⟩
      unfold f_X1_addNumber_32
      rw [eu]
theorem c_num (hN : 2000 ≤ N) (hR : RO R s) {L : List Int32} (hL : L.length ≤ 34) (h : CTx σ L) {v : Nat} (hv : v < 100000) : ∃ σ', f_X1_addNumber N R σ 29 (nI v) = some ((), σ') ∧ CTx σ' (dg v L) ∧ ∀ o j, o ≠ 29 → o ≠ 30 → σ' o j = σ o j := by
  obtain ⟨n, rfl⟩ : ∃ q, N = q + 6 := ⟨N - 6, by omega⟩
  have hl : ∀ (M : List Int32) (u : Nat), (M ++ dgu v u).length ≤ M.length + 1 := fun M u => by
    have := dgu_len v u
    rw [List.length_append]
    omega
  obtain ⟨σ1, a1, a2, a3⟩ := c_num1 (N := n + 6) hR (by omega) h hv (u := 10000) (by omega) (n + 5)
  have l1 := hl L 10000
  obtain ⟨σ2, b1, b2, b3⟩ := c_num1 (N := n + 6) hR (by omega) a2 hv (u := 1000) (by omega) (n + 4)
  have l2 := hl (L ++ dgu v 10000) 1000
  obtain ⟨σ3, c1, c2, c3⟩ := c_num1 (N := n + 6) hR (by omega) b2 hv (u := 100) (by omega) (n + 3)
  have l3 := hl ((L ++ dgu v 10000) ++ dgu v 1000) 100
  obtain ⟨σ4, d1, d2, d3⟩ := c_num1 (N := n + 6) hR (by omega) c2 hv (u := 10) (by omega) (n + 2)
  have l4 := hl (((L ++ dgu v 10000) ++ dgu v 1000) ++ dgu v 100) 10
  obtain ⟨σ5, e1, e2, e3⟩ := c_num1 (N := n + 6) hR (by omega) d2 hv (u := 1) (by omega) (n + 1)
  refine ⟨σ5, ?_, e2, fun o j h1 h2 => (e3 o j h1 h2).trans ((d3 o j h1 h2).trans ((c3 o j h1 h2).trans ((b3 o j h1 h2).trans (a3 o j h1 h2))))⟩
  unfold f_X1_addNumber
  refine a1.trans (b1.trans (c1.trans (d1.trans (e1.trans ?_))))
  rw [f_X1_addNumber_4, if_pos (by decide)]
theorem m_num (hR : RO R s) : ∀ (d v : Nat) (L : List Int32) (σ : SI), v < 10 ^ d → 1 ≤ d → v < 100000 → L.length ≤ 54 → MTx σ L → ∃ σ', f_X12_saysNumber N R d σ 178 (nI v) = some ((), σ') ∧ MTx σ' (dg v L) ∧ ∀ o j, o ≠ 193 → (o ≠ 178 ∨ j ≠ 26) → σ' o j = σ o j := by
  intro d
  induction d with
  | zero => intro v L σ _ h1; omega
  | succ d ih =>
    intro v L σ hv h1 hv5 hL h
    have em : (48 : Int32) + (nI v - nI v / (10 : Int32) * (10 : Int32)) = nI (48 + v % 10) := by
      rw [nI_mod10 (by omega), show (48 : Int32) = nI 48 from rfl, nI_add]
    by_cases c : v ≤ 9
    · obtain ⟨σ', g1, g2, g3⟩ := m_put (N := N) hR (by omega) h (nI (48 + v % 10))
      refine ⟨σ', ?_, ?_, g3⟩
      · rw [f_X12_saysNumber, if_pos (by rw [show (9 : Int32) = nI 9 from rfl, nI_leI (by omega) (by omega)]; exact c)]
        unfold f_X12_saysNumber_14
        rw [em, g1, bd_some]
      · rw [dg_small c]
        exact g2
    · have hd : v / 10 < 10 ^ d := by
        rw [Nat.div_lt_iff_lt_mul (by decide)]
        rw [Nat.pow_succ] at hv
        exact hv
      have hd1 : 1 ≤ d := by
        rcases Nat.eq_zero_or_pos d with e | e
        · subst e
          omega
        · exact e
      obtain ⟨σ1, a1, a2, a3⟩ := ih (v / 10) L σ hd hd1 (by omega) hL h
      have l1 := dg_len (v / 10) L
      obtain ⟨σ', g1, g2, g3⟩ := m_put (N := N) hR (by omega) a2 (nI (48 + v % 10))
      refine ⟨σ', ?_, ?_, fun o j h1 h2 => (g3 o j h1 h2).trans (a3 o j h1 h2)⟩
      · rw [f_X12_saysNumber, if_neg (by rw [show (9 : Int32) = nI 9 from rfl, nI_leI (by omega) (by omega)]; exact c), show nI v / (10 : Int32) = nI (v / 10) from nI_div (b := 10) (by omega) (by omega), a1, bd_some]
        unfold f_X12_saysNumber_14
        rw [em, g1, bd_some]
      · rw [dg_big (by omega)]
        exact g2
theorem sh6 : ∀ g, g < 6 → ((nI (5 * g) &&& 31).toBitVec.smod 32).toNat = 5 * g := by decide
theorem c_nm (hR : RO R s) {P : Nat} (hP : P < 2 ^ 30) : ∀ (g n : Nat) (L : List Int32) (σ : SI), g ≤ 6 → g < n → L.length + g ≤ 30 → CTx σ L → ∃ σ', f_X1_addName_3 N R n σ 29 (nI P) (iI (5 * (g : Int) - 5)) = some ((), σ') ∧ CTx σ' (nmG P g L) ∧ ∀ o j, o ≠ 29 → o ≠ 30 → σ' o j = σ o j := by
  intro g
  induction g with
  | zero =>
    intro n L σ hg hn hL h
    obtain ⟨n, rfl⟩ : ∃ q, n = q + 1 := ⟨n - 1, by omega⟩
    refine ⟨σ, ?_, h, fun _ _ _ _ => rfl⟩
    rw [f_X1_addName_3, if_pos (by decide)]
  | succ g ih =>
    intro n L σ hg hn hL h
    obtain ⟨n, rfl⟩ : ∃ q, n = q + 1 := ⟨n - 1, by omega⟩
    have ex : iI (5 * ((g + 1 : Nat) : Int) - 5) = nI (5 * g) := by
      rw [iI_nat]
      congr 1
      omega
    have hq : P / 2 ^ (5 * g) < 2 ^ 30 := Nat.lt_of_le_of_lt (Nat.div_le_self _ _) hP
    have ed : (nI P >>> (nI (5 * g) &&& 31)) &&& (31 : Int32) = nI (P / 2 ^ (5 * g) % 32) := by
      rw [pk_shrN (by omega) _ (5 * g) (sh6 g (by omega)), pk_andN (by omega) 5 (by decide)]
    have en : iI (5 * ((g + 1 : Nat) : Int) - 5) + (-5) = iI (5 * (g : Int) - 5) := by
      rw [show (-5 : Int32) = iI (-5) from rfl, iI_add]
      congr 1
      omega
    have hr : P / 2 ^ (5 * g) % 32 < 32 := Nat.mod_lt _ (by decide)
    rw [f_X1_addName_3, if_neg (by rw [ex, show (0 : Int32) = nI 0 from rfl, nI_ltI (by omega) (by omega)]; omega)]
    unfold f_X1_addName_28
    rw [en, ex, ed, nmG]
    by_cases c : P / 2 ^ (5 * g) % 32 = 0
    · rw [if_pos (by rw [c]; rfl), if_pos c]
      exact ih n L σ (by omega) (by omega) (by omega) h
    · rw [if_neg (by rw [show (0 : Int32) = nI 0 from rfl, nI_eq (by omega) (by omega)]; exact c), if_neg c]
      have ec : (97 : Int32) + nI (P / 2 ^ (5 * g) % 32) - 1 = nI (96 + P / 2 ^ (5 * g) % 32) := by
        rw [show (97 : Int32) = nI 97 from rfl, show (1 : Int32) = nI 1 from rfl, nI_add, nI_sub (by omega)]
        congr 1
        omega
      obtain ⟨σ1, a1, a2, a3⟩ := c_put (N := N) hR (by omega) h (nI (96 + P / 2 ^ (5 * g) % 32))
      obtain ⟨σ', b1, b2, b3⟩ := ih n (L ++ [nI (96 + P / 2 ^ (5 * g) % 32)]) σ1 (by omega) (by omega) (by rw [List.length_append]; simp; omega) a2
      refine ⟨σ', ?_, b2, fun o j h1 h2 => (b3 o j h1 h2).trans (a3 o j h1 h2)⟩
      rw [ec, a1, bd_some]
      exact b1
theorem c_text (hR : RO R s) {q len : Nat} (hq : lnS q = nI len) (hq2 : strLen.getD q 0 = len) (hlen : len ≤ 6) : ∀ (m k n : Nat) (L : List Int32) (σ : SI), k + m = len → m < n → L.length + m ≤ 39 → CTx σ L → ∃ σ', f_X1_addText_2 N R n σ 29 q (nI k) = some ((), σ') ∧ CTx σ' (lp (txf q) k m L) ∧ ∀ o j, o ≠ 29 → o ≠ 30 → σ' o j = σ o j := by
  intro m
  induction m with
  | zero =>
    intro k n L σ hk hn hL h
    obtain ⟨n, rfl⟩ : ∃ q, n = q + 1 := ⟨n - 1, by omega⟩
    refine ⟨σ, ?_, h, fun _ _ _ _ => rfl⟩
    rw [f_X1_addText_2, hq, if_pos (by rw [nI_leI (by omega) (by omega)]; omega)]
  | succ m ih =>
    intro k n L σ hk hn hL h
    obtain ⟨n, rfl⟩ : ∃ q, n = q + 1 := ⟨n - 1, by omega⟩
    obtain ⟨σ1, a1, a2, a3⟩ := c_put (N := N) hR (by omega) h (chS q (nI k))
    obtain ⟨σ', b1, b2, b3⟩ := ih (k + 1) n (L ++ [chS q (nI k)]) σ1 (by omega) (by omega) (by rw [List.length_append]; simp; omega) a2
    refine ⟨σ', ?_, b2, fun o j h1 h2 => (b3 o j h1 h2).trans (a3 o j h1 h2)⟩
    rw [f_X1_addText_2, hq, if_neg (by rw [nI_leI (by omega) (by omega)]; omega), hq2, ck_nI (by omega) (by omega), a1, bd_some, nI_1]
    exact b1
theorem m_text (hR : RO R s) {q len : Nat} (hq : lnS q = nI len) (hq2 : strLen.getD q 0 = len) (hlen : len ≤ 6) : ∀ (m k n : Nat) (L : List Int32) (σ : SI), k + m = len → m < n → L.length + m ≤ 59 → MTx σ L → ∃ σ', f_X12_saysWord_2 N R n σ 178 q (nI k) = some ((), σ') ∧ MTx σ' (lp (txf q) k m L) ∧ ∀ o j, o ≠ 193 → (o ≠ 178 ∨ j ≠ 26) → σ' o j = σ o j := by
  intro m
  induction m with
  | zero =>
    intro k n L σ hk hn hL h
    obtain ⟨n, rfl⟩ : ∃ q, n = q + 1 := ⟨n - 1, by omega⟩
    refine ⟨σ, ?_, h, fun _ _ _ _ => rfl⟩
    rw [f_X12_saysWord_2, hq, if_pos (by rw [nI_leI (by omega) (by omega)]; omega)]
  | succ m ih =>
    intro k n L σ hk hn hL h
    obtain ⟨n, rfl⟩ : ∃ q, n = q + 1 := ⟨n - 1, by omega⟩
    obtain ⟨σ1, a1, a2, a3⟩ := m_put (N := N) hR (by omega) h (chS q (nI k))
    obtain ⟨σ', b1, b2, b3⟩ := ih (k + 1) n (L ++ [chS q (nI k)]) σ1 (by omega) (by omega) (by rw [List.length_append]; simp; omega) a2
    refine ⟨σ', ?_, b2, fun o j h1 h2 => (b3 o j h1 h2).trans (a3 o j h1 h2)⟩
    rw [f_X12_saysWord_2, hq, if_neg (by rw [nI_leI (by omega) (by omega)]; omega), hq2, ck_nI (by omega) (by omega), a1, bd_some, nI_1]
    exact b1
/-- the reference's name -/
theorem m_nm (hR : RO R s) (hO : TOk t) {b : Nat} (hb : (b : Int) < t 2) : ∀ (m k n : Nat) (L : List Int32) (σ : SI), k + m = 6 → m < n → L.length + m ≤ 30 → TV t σ → MTx σ L → ∃ (σ' : SI) (n' : Nat), f_X12_format_22 N R n σ 178 (nI b) (nI k) = f_X12_format_22 N R (n' + 1) σ' 178 (nI b) (nI 6) ∧ MTx σ' (lp (nmf t b) k m L) ∧ ∀ o j, o ≠ 193 → (o ≠ 178 ∨ j ≠ 26) → σ' o j = σ o j := by
  have hB := nB_c hO
  intro m
  induction m with
  | zero =>
    intro k n L σ hk hn hL hT h
    obtain ⟨n, rfl⟩ : ∃ q, n = q + 1 := ⟨n - 1, by omega⟩
    refine ⟨σ, n, ?_, h, fun _ _ _ _ => rfl⟩
    rw [show k = 6 by omega]
  | succ m ih =>
    intro k n L σ hk hn hL hT h
    obtain ⟨n, rfl⟩ : ∃ q, n = q + 1 := ⟨n - 1, by omega⟩
    have hz := (hO.b hb).2.2.2.2.2 k (by omega)
    have e0 : (0 : Int32) + nI k = nI k := by
      rw [show (0 : Int32) = nI 0 from rfl, nI_add, Nat.zero_add]
    have row : f_X12_format_22 N R (n + 1) σ 178 (nI b) (nI k) = if t (285 + 22 * b + k) = 0 then f_X12_format_22 N R n σ 178 (nI b) (nI (k + 1)) else bd (f_X12_says N R σ 178 (iI (t (285 + 22 * b + k)))) (fun _ σ30 => f_X12_format_22 N R n σ30 178 (nI b) (nI (k + 1))) := by
      rw [f_X12_format_22, if_neg (by rw [show (6 : Int32) = nI 6 from rfl, nI_leI (by omega) (by omega)]; omega), e0, m_ofBlast hR hT (by omega) (by omega), bd_some, m_ofBlast hR hT (by omega) (by omega), bd_some]
      unfold f_X12_format_51
      rw [nI_1]
      by_cases c : t (285 + 22 * b + k) = 0
      · rw [if_pos (by rw [c]; rfl), if_pos c]
      · rw [if_neg (by rw [show (0 : Int32) = iI 0 from rfl, iI_eq (by omega)]; exact c), if_neg c]
    rw [row, lp_s]
    unfold nmf
    by_cases c : t (285 + 22 * b + k) = 0
    · rw [if_pos c, if_pos c]
      exact ih (k + 1) n L σ (by omega) (by omega) (by omega) hT h
    · rw [if_neg c, if_neg c]
      obtain ⟨σ1, a1, a2, a3⟩ := m_put (N := N) hR (by omega) h (iI (t (285 + 22 * b + k)))
      obtain ⟨σ', n', b1, b2, b3⟩ := ih (k + 1) n (L ++ [iI (t (285 + 22 * b + k))]) σ1 (by omega) (by omega) (by rw [List.length_append]; simp; omega) (fun q => (a3 _ _ (by omega) (by omega)).trans (hT q)) a2
      refine ⟨σ', n', ?_, b2, fun o j h1 h2 => (b3 o j h1 h2).trans (a3 o j h1 h2)⟩
      rw [a1, bd_some]
      exact b1
end FMT
