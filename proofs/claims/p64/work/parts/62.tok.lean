/-! ===== the planner's reader on a text that is known ===== -/
/-- the text tx lies in the buffer, no error yet, and r is still to be read -/
def At (σ : SI) (tx r : List Nat) : Prop := σ 3 1 = nI tx.length ∧ tx.length ≤ 800 ∧ (∀ j, j < tx.length → σ 4 j = nI (tx.getD j 0)) ∧ σ 3 4 = 0 ∧ ∃ p, σ 3 2 = nI p ∧ p ≤ tx.length ∧ tx.drop p = r
/-- only the place has moved -/
def Mv (σ σ' : SI) : Prop := ∀ o j, o ≠ 3 ∨ j ≠ 2 → σ' o j = σ o j
theorem Mv.rf (σ : SI) : Mv σ σ := fun _ _ _ => rfl
theorem Mv.tr {a b c : SI} (h1 : Mv a b) (h2 : Mv b c) : Mv a c := fun o j h => (h2 o j h).trans (h1 o j h)
theorem At.of {σ σ' : SI} {tx r : List Nat} (h : At σ tx r) (q : ∀ o j, o = 3 ∨ o = 4 → σ' o j = σ o j) : At σ' tx r := by
  obtain ⟨h1, h2, h3, h4, p, h5, h6, h7⟩ := h
  exact ⟨(q 3 1 (Or.inl rfl)).trans h1, h2, fun j hj => (q 4 j (Or.inr rfl)).trans (h3 j hj), (q 3 4 (Or.inl rfl)).trans h4, p, (q 3 2 (Or.inl rfl)).trans h5, h6, h7⟩
theorem At.to {σ σ' : SI} {tx r : List Nat} {p : Nat} (h : At σ tx r) (q : Mv σ σ') (h5 : σ' 3 2 = nI p) (h6 : p ≤ tx.length) : At σ' tx (tx.drop p) := by
  obtain ⟨h1, h2, h3, h4, -⟩ := h
  exact ⟨(q 3 1 (by omega)).trans h1, h2, fun j hj => (q 4 j (by omega)).trans (h3 j hj), (q 3 4 (by omega)).trans h4, p, h5, h6, rfl⟩
theorem mv_up {σ : SI} {v : Int32} : Mv σ (up σ 3 2 v) := fun o j h => if_neg (by omega)
/-- letters that are no space -/
def NSp (r : List Nat) : Prop := ∀ c r2, r = c :: r2 → c ≠ 32 ∧ c ≠ 9 ∧ c ≠ 10 ∧ c < 128
def Sk (r r' : List Nat) : Prop := (r = r' ∨ r = 32 :: r') ∧ NSp r'
/-- not in a run -/
def NRun (lo hi : Nat) (r : List Nat) : Prop := ∀ c r2, r = c :: r2 → c < 128 ∧ (c < lo ∨ hi < c)
section VTK
variable {N s : Nat} {R : Nat → Nat → Nat} {σ : SI} {tx r r' : List Nat}
theorem drop_get {tx : List Nat} {p : Nat} {c : Nat} {r : List Nat} (h : tx.drop p = c :: r) : p < tx.length ∧ tx.getD p 0 = c ∧ tx.drop (p + 1) = r := by
  have hlt : p < tx.length := by
    refine Nat.lt_of_not_le fun q => ?_
    rw [List.drop_eq_nil_of_le q] at h
    cases h
  refine ⟨hlt, ?_, ?_⟩
  · rw [List.getD_eq_getElem?_getD]
    have h2 := congrArg (fun l => l[0]?) h
    simp only [List.getElem?_drop, Nat.add_zero] at h2
    rw [h2]
    rfl
  · have h2 := congrArg (fun l => l.drop 1) h
    simp only [List.drop_drop] at h2
    exact h2
theorem drop_nil {tx : List Nat} {p : Nat} (h : tx.drop p = []) : tx.length ≤ p := by
  have := congrArg List.length h
  rw [List.length_drop] at this
  have h2 : tx.length - p = 0 := this
  omega
theorem nI_ne' {a b : Nat} (ha : a < 2 ^ 31) (hb : b < 2 ^ 31) (h : a ≠ b) : ¬ nI a = nI b := fun q => h ((nI_eq ha hb).mp q)
/-- a step of the reader's look at one letter -/
theorem at_get (hR : RO R s) (h : At σ tx r) {p : Nat} (hp : σ 3 2 = nI p) (hd : tx.drop p = r) {i c : Nat} {r2 : List Nat} (hr : tx.drop (p + i) = c :: r2) : p + i < tx.length ∧ σ (R 3 0) (nI (p + i)).toNatClampNeg = nI c ∧ p + i < 800 := by
  obtain ⟨h1, h2, h3, h4, -⟩ := h
  obtain ⟨q1, q2, -⟩ := drop_get hr
  refine ⟨q1, ?_, by omega⟩
  rw [hR.r3_0, nI_clamp (by omega), h3 _ q1, q2]
theorem t_skip0 (hN : 2000 ≤ N) (hR : RO R s) (h : At σ tx r) (hs : NSp r) : ∀ n, 0 < n → f_X10_skipSpaces_0 N R n σ 3 = some ((), σ) := by
  intro n hn
  obtain ⟨n, rfl⟩ : ∃ q, n = q + 1 := ⟨n - 1, by omega⟩
  obtain ⟨h1, h2, h3, h4, p, h5, h6, h7⟩ := id h
  cases r with
  | nil =>
    have := drop_nil h7
    rw [f_X10_skipSpaces_0, if_pos (by rw [h1, h5]; exact nI_le this (by omega))]
  | cons c r2 =>
    obtain ⟨g1, g2, g3⟩ := at_get hR h h5 h7 (i := 0) (c := c) (r2 := r2) h7
    have hc := hs c r2 rfl
    rw [Nat.add_zero] at g1 g2 g3
    rw [f_X10_skipSpaces_0, if_neg (by rw [h1, h5]; exact nI_ge g1 (by omega)), h5, ck_nI g3 (by decide), g2, if_neg (show ¬ nI c = (32 : Int32) from nI_ne' (by omega) (by decide) hc.1), ck_nI g3 (by decide), if_neg (show ¬ nI c = (9 : Int32) from nI_ne' (by omega) (by decide) hc.2.1), ck_nI g3 (by decide), if_neg (show ¬ nI c = (10 : Int32) from nI_ne' (by omega) (by decide) hc.2.2.1)]
theorem t_skip (hN : 2000 ≤ N) (hR : RO R s) (h : At σ tx r) (hs : Sk r r') : ∃ σ', f_X10_skipSpaces N R σ 3 = some ((), σ') ∧ At σ' tx r' ∧ Mv σ σ' := by
  rcases hs with ⟨rfl | rfl, hn⟩
  · exact ⟨σ, t_skip0 hN hR h hn N (by omega), h, Mv.rf σ⟩
  · obtain ⟨h1, h2, h3, h4, p, h5, h6, h7⟩ := id h
    obtain ⟨g1, g2, g3⟩ := at_get hR h h5 h7 (i := 0) (c := 32) (r2 := r') h7
    rw [Nat.add_zero] at g1 g2 g3
    have hm : Mv σ (up σ 3 2 (nI (p + 1))) := mv_up
    have hA : At (up σ 3 2 (nI (p + 1))) tx r' := by
      rw [← (drop_get h7).2.2]
      exact h.to hm (if_pos ⟨rfl, rfl⟩) (by omega)
    refine ⟨_, ?_, hA, hm⟩
    obtain ⟨n, rfl⟩ : ∃ q, N = q + 1 := ⟨N - 1, by omega⟩
    unfold f_X10_skipSpaces
    rw [f_X10_skipSpaces_0, if_neg (by rw [h1, h5]; exact nI_ge g1 (by omega)), h5, ck_nI g3 (by decide), g2, if_pos (show nI 32 = (32 : Int32) from rfl)]
    unfold f_X10_skipSpaces_53
    rw [sq_eq, h5, nI_1]
    exact t_skip0 hN hR hA hn n (by omega)
/-- the end of a run of letters from lo to hi -/
theorem t_run (hR : RO R s) (h : At σ tx r) {p : Nat} (hp : σ 3 2 = nI p) (hd : tx.drop p = r) {lo hi : Nat} (hlo : lo < 128) (hhi : hi < 128) {r2 : List Nat} (hr2 : NRun lo hi r2) : ∀ (u : List Nat) (k n : Nat), tx.drop (p + k) = u ++ r2 → p + k ≤ tx.length → (∀ c ∈ u, lo ≤ c ∧ c ≤ hi) → u.length < n → f_X10_endOfRun_5 N R n σ 3 (nI lo) (nI hi) (nI (p + k)) = some (nI (p + k + u.length), σ) := by
  obtain ⟨h1, h2, h3, h4, -⟩ := id h
  intro u
  induction u with
  | nil =>
    intro k n hk hpk hu hn
    obtain ⟨n, rfl⟩ : ∃ q, n = q + 1 := ⟨n - 1, by omega⟩
    rw [List.nil_append] at hk
    cases r2 with
    | nil =>
      have hk : tx.drop (p + k) = [] := hk
      have := drop_nil hk
      rw [f_X10_endOfRun_5, if_pos (by rw [h1]; exact nI_le this (by omega))]
      rfl
    | cons c r3 =>
      obtain ⟨g1, g2, g3⟩ := at_get hR h hp hd hk
      have hc := hr2 c r3 rfl
      rw [f_X10_endOfRun_5, if_neg (by rw [h1]; exact nI_ge g1 (by omega)), ck_nI g3 (by decide), g2]
      by_cases q : c < lo
      · rw [if_pos (nI_lt q (by omega))]
        rfl
      · rw [if_neg (nI_nlt (by omega) (by omega)), ck_nI g3 (by decide), if_pos (nI_lt (by omega) (by omega))]
        rfl
  | cons c u ih =>
    intro k n hk hpk hu hn
    obtain ⟨n, rfl⟩ : ∃ q, n = q + 1 := ⟨n - 1, by omega⟩
    obtain ⟨g1, g2, g3⟩ := at_get hR h hp hd (c := c) (r2 := u ++ r2) hk
    have hc := hu c List.mem_cons_self
    have hlen : (c :: u).length < n + 1 := hn
    rw [List.length_cons] at hlen
    rw [f_X10_endOfRun_5, if_neg (by rw [h1]; exact nI_ge g1 (by omega)), ck_nI g3 (by decide), g2, if_neg (nI_nlt hc.1 (by omega)), ck_nI g3 (by decide), if_neg (nI_nlt hc.2 (by omega)), nI_1]
    have := ih (k + 1) n (drop_get hk).2.2 (by omega) (fun x hx => hu x (List.mem_cons_of_mem _ hx)) (by omega)
    rw [show p + k + 1 = p + (k + 1) by omega, this, List.length_cons, show p + (k + 1) + u.length = p + k + (u.length + 1) by omega]
/-- where a run ends, seen from the place -/
theorem t_runE (hN : 2000 ≤ N) (hR : RO R s) {lo hi : Nat} (hlo : lo < 128) (hhi : hi < 128) {u r2 : List Nat} (h : At σ tx (u ++ r2)) (hu : ∀ c ∈ u, lo ≤ c ∧ c ≤ hi) (hr2 : NRun lo hi r2) : ∃ p, σ 3 2 = nI p ∧ tx.drop p = u ++ r2 ∧ p + u.length ≤ tx.length ∧ tx.length ≤ 800 ∧ tx.drop (p + u.length) = r2 ∧ f_X10_endOfRun N R σ 3 (nI lo) (nI hi) = some (nI (p + u.length), σ) := by
  obtain ⟨h1, h2, h3, h4, p, h5, h6, h7⟩ := id h
  have hl : p + u.length ≤ tx.length := by
    have := congrArg List.length h7
    rw [List.length_drop, List.length_append] at this
    omega
  refine ⟨p, h5, h7, hl, h2, ?_, ?_⟩
  · have := congrArg (fun l => l.drop u.length) h7
    simp only [List.drop_drop, List.drop_left] at this
    exact this
  · unfold f_X10_endOfRun
    rw [h5]
    exact t_run hR h h5 h7 hlo hhi hr2 u 0 N h7 h6 hu (by omega)
/-- the digits' value -/
def dval : Nat → List Nat → Nat
  | a, [] => a
  | a, c :: u => dval (a * 10 + (c - 48)) u
theorem dval_dec {v : Nat} (h : v < 10000) : dval 0 (dec v) = v := by
  unfold dec
  by_cases h1 : v < 10
  · rw [if_pos h1]
    show 0 * 10 + (48 + v - 48) = v
    omega
  · rw [if_neg h1]
    by_cases h2 : v < 100
    · rw [if_pos h2]
      show (0 * 10 + (48 + v / 10 - 48)) * 10 + (48 + v % 10 - 48) = v
      omega
    · rw [if_neg h2]
      by_cases h3 : v < 1000
      · rw [if_pos h3]
        show ((0 * 10 + (48 + v / 100 - 48)) * 10 + (48 + v / 10 % 10 - 48)) * 10 + (48 + v % 10 - 48) = v
        omega
      · rw [if_neg h3]
        show (((0 * 10 + (48 + v / 1000 - 48)) * 10 + (48 + v / 100 % 10 - 48)) * 10 + (48 + v / 10 % 10 - 48)) * 10 + (48 + v % 10 - 48) = v
        omega
theorem dec_ne {v : Nat} : dec v ≠ [] ∧ (dec v).length ≤ 4 := by
  unfold dec
  repeat' split
  all_goals exact ⟨by simp, by simp⟩
theorem t_val (hR : RO R s) (h : At σ tx r) {p : Nat} (hp : σ 3 2 = nI p) (hd : tx.drop p = r) {e : Nat} (he : e ≤ tx.length) {r2 : List Nat} : ∀ (u : List Nat) (k n a : Nat), tx.drop (p + k) = u ++ r2 → p + k + u.length = e → (∀ c ∈ u, 48 ≤ c ∧ c ≤ 57) → u.length < n → a < 100000 → u.length + k ≤ 5 → a < 10 ^ k → f_X10_valueUpTo_7 N R n σ 3 (nI e) (nI a) (nI (p + k)) = some (nI (dval a u), σ) := by
  obtain ⟨h1, h2, h3, h4, -⟩ := id h
  intro u
  induction u with
  | nil =>
    intro k n a hk hpk hu hn ha hk5 hak
    obtain ⟨n, rfl⟩ : ∃ q, n = q + 1 := ⟨n - 1, by omega⟩
    rw [List.length_nil] at hpk
    rw [f_X10_valueUpTo_7, if_pos (nI_le (by omega) (by omega))]
    rfl
  | cons c u ih =>
    intro k n a hk hpk hu hn ha hk5 hak
    obtain ⟨n, rfl⟩ : ∃ q, n = q + 1 := ⟨n - 1, by omega⟩
    obtain ⟨g1, g2, g3⟩ := at_get hR h hp hd (c := c) (r2 := u ++ r2) hk
    have hc := hu c List.mem_cons_self
    have hlen : (c :: u).length < n + 1 := hn
    rw [List.length_cons] at hlen hpk hk5
    rw [f_X10_valueUpTo_7, if_neg (nI_ge (by omega) (by omega)), ck_nI g3 (by decide), g2, show (10 : Int32) = nI 10 from rfl, show (48 : Int32) = nI 48 from rfl, nI_mul, nI_add, nI_sub (by omega), nI_1]
    have e1 : a * 10 + c - 48 = a * 10 + (c - 48) := by omega
    have hp10 : 10 ^ (k + 1) = 10 ^ k * 10 := Nat.pow_succ 10 k
    have hle : 10 ^ (k + 1) ≤ 10 ^ 5 := Nat.pow_le_pow_right (by decide) (by omega)
    have := ih (k + 1) n (a * 10 + (c - 48)) (drop_get hk).2.2 (by omega) (fun x hx => hu x (List.mem_cons_of_mem _ hx)) (by omega) (by omega) (by omega) (by omega)
    rw [e1, show p + k + 1 = p + (k + 1) by omega, this]
    rfl
/-- a number -/
theorem t_num (hN : 2000 ≤ N) (hR : RO R s) {v : Nat} (hv : v < 10000) {r2 : List Nat} (h : At σ tx r) (hs : Sk r (dec v ++ r2)) (hr2 : NRun 48 57 r2) {lo hi : Nat} (hlo : lo ≤ v) (hhi : v ≤ hi) (hhi2 : hi < 2 ^ 31) : ∃ σ', f_X10_takeNumber N R σ 3 (nI lo) (nI hi) = some (nI v, σ') ∧ At σ' tx r2 ∧ Mv σ σ' := by
  obtain ⟨σ1, e1, hA, m1⟩ := t_skip hN hR h hs
  have hdig : ∀ c ∈ dec v, 48 ≤ c ∧ c ≤ 57 := fun c hc => by have := dec_asc hv c hc; omega
  obtain ⟨p, h5, h7, hl, h8, hd2, eR⟩ := t_runE hN hR (lo := 48) (hi := 57) (by decide) (by decide) hA hdig hr2
  have hne := dec_ne (v := v)
  have hlen : 0 < (dec v).length := List.length_pos_iff.mpr hne.1
  have m2 : Mv σ1 (up σ1 3 2 (nI (p + (dec v).length))) := mv_up
  have hA2 : At (up σ1 3 2 (nI (p + (dec v).length))) tx r2 := by
    have := hA.to m2 (p := p + (dec v).length) (if_pos ⟨rfl, rfl⟩) hl
    rw [hd2] at this
    exact this
  refine ⟨_, ?_, hA2, m1.tr m2⟩
  have hV := t_val (N := N) hR hA h5 h7 (e := p + (dec v).length) hl (r2 := r2) (dec v) 0 N 0 h7 rfl hdig (by omega) (by decide) (by omega) (by decide)
  rw [dval_dec hv, Nat.add_zero] at hV
  have hl800 : p + (dec v).length ≤ 800 := by omega
  unfold f_X10_takeNumber f_X10_failed
  rw [if_pos h.2.2.2.1, bd_some, if_pos rfl, e1, bd_some, show (48 : Int32) = nI 48 from rfl, show (57 : Int32) = nI 57 from rfl, eR, bd_some, h5, if_neg (nI_ne' (by omega) (by omega) (by omega)), nI_sub (by omega), if_pos (by rw [show (5 : Int32) = nI 5 from rfl]; exact nI_le (by omega) (by decide))]
  unfold f_X10_valueUpTo
  rw [h5, show (0 : Int32) = nI 0 from rfl, hV, bd_some, if_neg (nI_nlt hlo (by omega)), if_pos (nI_le hhi hhi2), sq_eq]
/-- whether a number follows -/
theorem t_numF (hN : 2000 ≤ N) (hR : RO R s) {v : Nat} (hv : v < 10000) {r2 : List Nat} (h : At σ tx r) (hs : Sk r (dec v ++ r2)) (hr2 : NRun 48 57 r2) : ∃ σ', f_X10_numberFollows N R σ 3 = some (1, σ') ∧ At σ' tx (dec v ++ r2) ∧ Mv σ σ' := by
  obtain ⟨σ1, e1, hA, m1⟩ := t_skip hN hR h hs
  have hdig : ∀ c ∈ dec v, 48 ≤ c ∧ c ≤ 57 := fun c hc => by have := dec_asc hv c hc; omega
  obtain ⟨p, h5, h7, hl, h8, hd2, eR⟩ := t_runE hN hR (lo := 48) (hi := 57) (by decide) (by decide) hA hdig hr2
  have hlen : 0 < (dec v).length := List.length_pos_iff.mpr dec_ne.1
  refine ⟨σ1, ?_, hA, m1⟩
  unfold f_X10_numberFollows
  rw [e1, bd_some, show (48 : Int32) = nI 48 from rfl, show (57 : Int32) = nI 57 from rfl, eR, bd_some, h5, if_neg (nI_ge (by omega) (by omega))]
theorem t_numN (hN : 2000 ≤ N) (hR : RO R s) {r2 : List Nat} (h : At σ tx r) (hs : Sk r r2) (hr2 : NRun 48 57 r2) : ∃ σ', f_X10_numberFollows N R σ 3 = some (0, σ') ∧ At σ' tx r2 ∧ Mv σ σ' := by
  obtain ⟨σ1, e1, hA, m1⟩ := t_skip hN hR h hs
  obtain ⟨p, h5, h7, hl, h8, hd2, eR⟩ := t_runE hN hR (lo := 48) (hi := 57) (u := []) (by decide) (by decide) hA (fun c hc => by cases hc) hr2
  rw [List.length_nil, Nat.add_zero] at hl eR
  refine ⟨σ1, ?_, hA, m1⟩
  unfold f_X10_numberFollows
  rw [e1, bd_some, show (48 : Int32) = nI 48 from rfl, show (57 : Int32) = nI 57 from rfl, eR, bd_some, h5, if_pos (nI_le (Nat.le_refl _) (by omega))]
/-- the semicolon -/
theorem t_semi (hN : 2000 ≤ N) (hR : RO R s) {r2 : List Nat} (h : At σ tx (59 :: r2)) : ∃ σ', f_X10_tookSemicolon N R σ 3 = some (1, σ') ∧ At σ' tx r2 ∧ Mv σ σ' := by
  obtain ⟨σ1, e1, hA, m1⟩ := t_skip hN hR h (r' := 59 :: r2) ⟨Or.inl rfl, fun c r hc => by cases hc; decide⟩
  obtain ⟨h1, h2, h3, h4, p, h5, h6, h7⟩ := id hA
  obtain ⟨g1, g2, g3⟩ := at_get hR hA h5 h7 (i := 0) (c := 59) (r2 := r2) h7
  rw [Nat.add_zero] at g1 g2 g3
  have m2 : Mv σ1 (up σ1 3 2 (nI (p + 1))) := mv_up
  have hA2 : At (up σ1 3 2 (nI (p + 1))) tx r2 := by
    rw [← (drop_get h7).2.2]
    exact hA.to m2 (if_pos ⟨rfl, rfl⟩) (by omega)
  refine ⟨_, ?_, hA2, m1.tr m2⟩
  unfold f_X10_tookSemicolon
  rw [e1, bd_some, if_neg (by rw [h1, h5]; exact nI_ge g1 (by omega)), h5, ck_nI g3 (by decide), g2, if_pos (show nI 59 = (59 : Int32) from rfl), sq_eq, nI_1]
/-- the end -/
theorem t_endT (hN : 2000 ≤ N) (hR : RO R s) (h : At σ tx []) : f_X10_atEnd N R σ 3 = some (1, σ) := by
  obtain ⟨h1, h2, h3, h4, p, h5, h6, h7⟩ := id h
  have hs := t_skip0 (N := N) hN hR h (fun c r hc => by cases hc) N (by omega)
  have := drop_nil h7
  unfold f_X10_atEnd f_X10_skipSpaces
  rw [hs, bd_some, if_neg (by rw [h1, h5]; exact nI_nlt this (by omega))]
theorem t_endF (hN : 2000 ≤ N) (hR : RO R s) {c : Nat} {r2 : List Nat} (h : At σ tx (c :: r2)) (hc : NSp (c :: r2)) : f_X10_atEnd N R σ 3 = some (0, σ) := by
  obtain ⟨h1, h2, h3, h4, p, h5, h6, h7⟩ := id h
  have hs := t_skip0 (N := N) hN hR h hc N (by omega)
  have := (drop_get h7).1
  unfold f_X10_atEnd f_X10_skipSpaces
  rw [hs, bd_some, if_pos (by rw [h1, h5]; exact nI_lt this (by omega))]
theorem lnS_kw : ∀ w, w < 10 → lnS w = nI (kwL w).length := by decide
theorem chS_kw : ∀ w, w < 10 → ∀ i, i < (kwL w).length → chS w (nI i) = nI ((kwL w).getD i 0) := by decide
theorem kw_let : ∀ w, w < 10 → ∀ c ∈ kwL w, 97 ≤ c ∧ c ≤ 122 := by decide
theorem kw_nn : ∀ w, w < 10 → 0 < (kwL w).length := by decide
/-- the word that is due -/
theorem t_wordL (hR : RO R s) {w : Nat} (hw : w < 10) {r2 : List Nat} (h : At σ tx (kwL w ++ r2)) {p : Nat} (hp : σ 3 2 = nI p) (hd : tx.drop p = kwL w ++ r2) (e : Int32) : ∀ (m k n : Nat), k + m = (kwL w).length → m < n → f_X10_tookWord_30 N R n σ 3 w e (nI k) = some (1, up σ 3 2 e) := by
  have h7 := kwL_short w (by omega)
  intro m
  induction m with
  | zero =>
    intro k n hk hn
    obtain ⟨n, rfl⟩ : ∃ q, n = q + 1 := ⟨n - 1, by omega⟩
    rw [f_X10_tookWord_30, if_pos (by rw [lnS_kw w hw]; exact nI_le (by omega) (by omega)), sq_eq]
  | succ m ih =>
    intro k n hk hn
    obtain ⟨n, rfl⟩ : ∃ q, n = q + 1 := ⟨n - 1, by omega⟩
    have hlt : k < (kwL w).length := by omega
    have hk2 : ∃ r3, tx.drop (p + k) = (kwL w).getD k 0 :: r3 := by
      have h9 := congrArg (fun l => l.drop k) hd
      simp only [List.drop_drop] at h9
      rw [h9, List.drop_append_of_le_length (by omega), List.drop_eq_getElem_cons hlt]
      refine ⟨(kwL w).drop (k + 1) ++ r2, ?_⟩
      rw [List.getD_eq_getElem?_getD, List.getElem?_eq_getElem hlt]
      rfl
    obtain ⟨r3, hk3⟩ := hk2
    obtain ⟨g1, g2, g3⟩ := at_get hR h hp hd hk3
    rw [f_X10_tookWord_30, if_neg (by rw [lnS_kw w hw]; exact nI_ge hlt (by omega)), hp, nI_add, ck_nI g3 (by decide), kwL_len w (by omega), ck_nI hlt (by omega), g2, chS_kw w hw k hlt, if_pos rfl, nI_1]
    exact ih (k + 1) n (by omega) (by omega)
theorem t_word (hN : 2000 ≤ N) (hR : RO R s) {w : Nat} (hw : w < 10) {r2 : List Nat} (h : At σ tx r) (hs : Sk r (kwL w ++ r2)) (hr2 : NRun 97 122 r2) : ∃ σ', f_X10_tookWord N R σ 3 w = some (1, σ') ∧ At σ' tx r2 ∧ Mv σ σ' := by
  obtain ⟨σ1, e1, hA, m1⟩ := t_skip hN hR h hs
  obtain ⟨p, h5, h7, hl, h8, hd2, eR⟩ := t_runE hN hR (lo := 97) (hi := 122) (by decide) (by decide) hA (kw_let w hw) hr2
  have m2 : Mv σ1 (up σ1 3 2 (nI (p + (kwL w).length))) := mv_up
  have hA2 : At (up σ1 3 2 (nI (p + (kwL w).length))) tx r2 := by
    have := hA.to m2 (p := p + (kwL w).length) (if_pos ⟨rfl, rfl⟩) hl
    rw [hd2] at this
    exact this
  refine ⟨_, ?_, hA2, m1.tr m2⟩
  unfold f_X10_tookWord
  rw [e1, bd_some, show (97 : Int32) = nI 97 from rfl, show (122 : Int32) = nI 122 from rfl, eR, bd_some, h5, nI_sub (by omega), lnS_kw w hw, if_pos (by congr 1; omega)]
  exact t_wordL hR hw hA h5 h7 _ (kwL w).length 0 N (by omega) (by have := kwL_short w (by omega); omega)
/-- another word stands there -/
theorem t_wordN (hN : 2000 ≤ N) (hR : RO R s) {w : Nat} (hw : w < 10) {u r2 : List Nat} (h : At σ tx r) (hs : Sk r (u ++ r2)) (hu : ∀ c ∈ u, 97 ≤ c ∧ c ≤ 122) (hr2 : NRun 97 122 r2) (hne : u.length ≠ (kwL w).length ∨ u.getD 0 0 ≠ (kwL w).getD 0 0) : ∃ σ', f_X10_tookWord N R σ 3 w = some (0, σ') ∧ At σ' tx (u ++ r2) ∧ Mv σ σ' := by
  obtain ⟨σ1, e1, hA, m1⟩ := t_skip hN hR h hs
  obtain ⟨p, h5, h7, hl, h8, hd2, eR⟩ := t_runE hN hR (lo := 97) (hi := 122) (by decide) (by decide) hA hu hr2
  have h9 := kwL_short w (by omega)
  refine ⟨σ1, ?_, hA, m1⟩
  unfold f_X10_tookWord
  rw [e1, bd_some, show (97 : Int32) = nI 97 from rfl, show (122 : Int32) = nI 122 from rfl, eR, bd_some, h5, nI_sub (by omega), lnS_kw w hw, show p + u.length - p = u.length by omega]
  by_cases q : u.length = (kwL w).length
  · rw [if_pos (by rw [q])]
    have hnn := kw_nn w hw
    cases u with
    | nil => rw [List.length_nil] at q; omega
    | cons c u2 =>
      obtain ⟨g1, g2, g3⟩ := at_get hR hA h5 h7 (i := 0) (c := c) (r2 := u2 ++ r2) h7
      have hcc := hu c List.mem_cons_self
      have hk2 : (kwL w).getD 0 0 < 128 := (Asc.kw (by omega : w < 22)).getD 0
      have hcne : c ≠ (kwL w).getD 0 0 := by
        rcases hne with x | x
        · exact absurd q x
        · exact x
      obtain ⟨n, hn⟩ : ∃ q, N = q + 1 := ⟨N - 1, by omega⟩
      rw [show f_X10_tookWord_30 N R N σ1 3 w (nI (p + (c :: u2).length)) 0 = f_X10_tookWord_30 N R (n + 1) σ1 3 w (nI (p + (c :: u2).length)) (nI 0) from by rw [← hn]; rfl]
      rw [f_X10_tookWord_30, if_neg (by rw [lnS_kw w hw]; exact nI_ge hnn (by omega)), h5, nI_add, ck_nI g3 (by decide), kwL_len w (by omega), ck_nI hnn (by omega), g2, chS_kw w hw 0 hnn, if_neg (nI_ne' (by omega) (by omega) hcne)]
  · rw [if_neg (nI_ne' (by omega) (by omega) q)]
/-- a name of one letter -/
theorem t_nameL {q1 arr cnt e : Nat} {nm : Int32} (hq : cnt ≤ q1) (hq2 : q1 < 10000) (hf : ∀ j, j < cnt → ¬ σ arr j = nm) : ∀ (m k n : Nat), k + m = cnt → m < n → f_X10_takeName_53 N R q1 n σ 3 arr (nI cnt) (nI e) nm (nI k) = some (nm, up σ 3 2 (nI e)) := by
  intro m
  induction m with
  | zero =>
    intro k n hk hn
    obtain ⟨n, rfl⟩ : ∃ q, n = q + 1 := ⟨n - 1, by omega⟩
    rw [f_X10_takeName_53, if_pos (nI_le (by omega) (by omega)), sq_eq]
  | succ m ih =>
    intro k n hk hn
    obtain ⟨n, rfl⟩ : ∃ q, n = q + 1 := ⟨n - 1, by omega⟩
    rw [f_X10_takeName_53, if_neg (nI_ge (by omega) (by omega)), ck_nI (by omega) (by omega), nI_clamp (by omega), if_neg (hf k (by omega)), nI_1]
    exact ih (k + 1) n (by omega) (by omega)
theorem t_name (hN : 2000 ≤ N) (hR : RO R s) {c : Nat} (hc : 97 ≤ c ∧ c ≤ 122) {r2 : List Nat} (h : At σ tx r) (hs : Sk r ([c] ++ r2)) (hr2 : NRun 97 122 r2) {q1 arr cnt : Nat} (hq : cnt ≤ q1) (hq2 : q1 < 1000) (ha : arr ≠ 3) (hf : ∀ j, j < cnt → ¬ σ arr j = nI (c - 96)) : ∃ σ', f_X10_takeName N R q1 σ 3 arr (nI cnt) = some (nI (c - 96), σ') ∧ At σ' tx r2 ∧ Mv σ σ' := by
  obtain ⟨σ1, e1, hA, m1⟩ := t_skip hN hR h hs
  obtain ⟨p, h5, h7, hl, h8, hd2, eR⟩ := t_runE hN hR (lo := 97) (hi := 122) (u := [c]) (by decide) (by decide) hA (fun x hx => by rw [List.mem_singleton.mp hx]; exact hc) hr2
  have hl1 : [c].length = 1 := rfl
  rw [hl1] at hl hd2 eR
  have m2 : Mv σ1 (up σ1 3 2 (nI (p + 1))) := mv_up
  have hA2 : At (up σ1 3 2 (nI (p + 1))) tx r2 := by
    have := hA.to m2 (p := p + 1) (if_pos ⟨rfl, rfl⟩) hl
    rw [hd2] at this
    exact this
  refine ⟨_, ?_, hA2, m1.tr m2⟩
  obtain ⟨g1, g2, g3⟩ := at_get hR hA h5 h7 (i := 0) (c := c) (r2 := r2) h7
  rw [Nat.add_zero] at g1 g2 g3
  have hname : f_X10_nameUpTo N R σ1 3 (nI (p + 1)) = some (nI (c - 96), σ1) := by
    unfold f_X10_nameUpTo
    obtain ⟨n, rfl⟩ : ∃ q, N = q + 2 := ⟨N - 2, by omega⟩
    rw [h5, f_X10_nameUpTo_7, if_neg (nI_ge (by omega) (by omega)), ck_nI g3 (by decide), g2, show (0 : Int32) * 32 = nI 0 from by decide, nI_add, show (97 : Int32) = nI 97 from rfl, nI_sub (by omega), nI_1, nI_1, f_X10_nameUpTo_7, if_pos (nI_le (Nat.le_refl _) (by omega)), show 0 + c - 97 + 1 = c - 96 by omega]
  unfold f_X10_takeName
  rw [e1, bd_some, show (97 : Int32) = nI 97 from rfl, show (122 : Int32) = nI 122 from rfl, eR, bd_some, h5, if_neg (nI_ne' (by omega) (by omega) (by omega)), nI_sub (by omega), if_pos (by rw [show (6 : Int32) = nI 6 from rfl]; exact nI_le (by omega) (by decide)), hname, bd_some]
  exact t_nameL hq (by omega) (fun j hj => by rw [m1 arr j (Or.inl ha)]; exact hf j hj) cnt 0 N (by omega) (by omega)
theorem t_need (v : Int32) (hv : ¬ v = 0) : f_X10_need N R σ 3 v = some ((), σ) := by
  unfold f_X10_need
  rw [if_neg hv]
theorem t_failed (h : At σ tx r) : f_X10_failed N R σ 3 = some (0, σ) := by
  unfold f_X10_failed
  rw [if_pos h.2.2.2.1]
end VTK
