/-! ===== the most shaken, window starts, gaps, least radius ===== -/
section MS
variable {N : Nat} {R : Nat → Nat → Nat} {s : Nat} {t w : Nat → Int} {σ : SI}
theorem shk_r (hO : TOk t) {b n : Nat} (hb : (b : Int) < t 2) (hn : (n : Int) < t 0) : 0 ≤ shk t w b n ∧ shk t w b n ≤ 11988000 := by
  have hw := winG_r hO hb (dl w b)
  rw [← win_G] at hw
  exact shG_r hO hb hn hw
def msS (t w : Nat → Int) (b : Nat) : Nat → Int → Int := fun i a => if a = -1 ∨ shk t w b a.toNat < shk t w b i then (i : Int) else a
/-! the class's window with a gap -/
def W1 (t : Nat → Int) (b tog f : Nat) : Nat → Nat → Int → Int := lp (fun c a => if c < f + tog then a + sz t b c else a)
theorem W1_stop (t : Nat → Int) (b tog f : Nat) : ∀ (m k : Nat) (a : Int), f + tog ≤ k → W1 t b tog f k m a = a := by
  intro m
  induction m with
  | zero => intro k a _; rfl
  | succ m ih =>
    intro k a hk
    show W1 t b tog f (k + 1) m (if k < f + tog then a + sz t b k else a) = a
    rw [if_neg (by omega)]
    exact ih (k + 1) a (by omega)
theorem W1_r (hO : TOk t) {b : Nat} (hb : (b : Int) < t 2) (tog f : Nat) : ∀ (m k : Nat) (a : Int), k + m ≤ nC t b → 0 ≤ a ∧ a ≤ 999 * (k : Int) → 0 ≤ W1 t b tog f k m a ∧ W1 t b tog f k m a ≤ 999 * ((k + m : Nat) : Int) := by
  intro m k a hk ha
  exact lp_invI (P := fun j a => 0 ≤ a ∧ a ≤ 999 * (j : Int)) m k a ha (fun j a h1 h2 ha => by
    have hs := sz_r hO hb (c := j) (by omega)
    split <;> omega)
theorem lp_add {α : Type} (f : Nat → α → α) : ∀ (a b k : Nat) (x : α), lp f k (a + b) x = lp f (k + a) b (lp f k a x) := by
  intro a
  induction a with
  | zero => intro b k x; rw [Nat.zero_add]; rfl
  | succ a ih =>
    intro b k x
    rw [show a + 1 + b = (a + b) + 1 by omega, lp_s, lp_s, ih, show k + 1 + a = k + (a + 1) by omega]
theorem W1_G (t : Nat → Int) (b g f tog : Nat) (hg : g * f ≤ 10000) (hf : f ≤ nC t b) (hc : nC t b ≤ 12) (ht : ∀ c, c < nC t b → (f ≤ c ∧ c < f + tog ↔ ((g * f : Nat) : Int) ≤ ((g * c : Nat) : Int) ∧ ((g * c : Nat) : Int) ≤ ((g * f : Nat) : Int) + 7)) : W1 t b tog f f (nC t b - f) 0 = fromG t b (fun c => ((g * c : Nat) : Int)) ((g * f : Nat) : Int) := by
  unfold fromG
  have e : lp (fun c a => a + (if ((g * f : Nat) : Int) ≤ ((g * c : Nat) : Int) ∧ ((g * c : Nat) : Int) ≤ ((g * f : Nat) : Int) + 7 then sz t b c else 0)) 0 f 0 = 0 := by
    refine lp_inv (P := fun a => a = 0) f 0 0 rfl (fun j a _ h2 ha => ?_)
    rw [if_neg (fun q => by have := (ht j (by omega)).mpr q; omega), ha]
    rfl
  rw [show nC t b = f + (nC t b - f) by omega, lp_add, e, Nat.zero_add, show f + (nC t b - f) - f = nC t b - f by omega]
  refine lp_congr _ _ _ (fun j a h1 h2 => ?_)
  by_cases c : j < f + tog
  · rw [if_pos c, if_pos ((ht j (by omega)).mp ⟨h1, c⟩)]
  · rw [if_neg c, if_neg (fun q => c ((ht j (by omega)).mpr q).2), Int.add_zero]
theorem W1_le (hO : TOk t) {b : Nat} (hb : (b : Int) < t 2) (f : Nat) : ∀ (m k : Nat) (a a' : Int), k + m ≤ nC t b → a ≤ a' → W1 t b (nC t b) f k m a ≤ W1 t b (nC t b) 0 k m a' := by
  intro m
  induction m with
  | zero => intro k a a' _ h; exact h
  | succ m ih =>
    intro k a a' hk h
    have hs := sz_r hO hb (c := k) (by omega)
    refine ih (k + 1) _ _ (by omega) ?_
    show (if k < f + nC t b then a + sz t b k else a) ≤ (if k < 0 + nC t b then a' + sz t b k else a')
    rw [if_pos (show k < f + nC t b by omega), if_pos (show k < 0 + nC t b by omega)]
    omega
theorem W1_mono (hO : TOk t) {b : Nat} (hb : (b : Int) < t 2) : ∀ (m k : Nat) (a : Int), k + m ≤ nC t b → a ≤ W1 t b (nC t b) 0 k m a := by
  intro m
  induction m with
  | zero => intro k a _; exact Int.le_refl a
  | succ m ih =>
    intro k a hk
    have hs := sz_r hO hb (c := k) (by omega)
    have := ih (k + 1) (a + sz t b k) (by omega)
    show a ≤ W1 t b (nC t b) 0 (k + 1) m (if k < 0 + nC t b then a + sz t b k else a)
    rw [if_pos (by omega)]
    omega
theorem lp_maxc {f : Nat → Int} {v : Int} : ∀ (m k : Nat) (a : Int), (∀ j, k ≤ j → j < k + m → f j ≤ v) → a = v → lp (fun c a => mx a (f c)) k m a = v := by
  intro m
  induction m with
  | zero => intro k a _ h; exact h
  | succ m ih =>
    intro k a h1 h2
    refine ih (k + 1) _ (fun j h3 h4 => h1 j (by omega) (by omega)) ?_
    have := h1 k (by omega) (by omega)
    show (if a < f k then f k else a) = v
    rw [if_neg (by omega)]
    exact h2
theorem winGap (hO : TOk t) {b g : Nat} (hb : (b : Int) < t 2) (hg : g ≤ 800) : lp (fun f a => mx a (W1 t b (if g = 0 then nC t b else 7 / g + 1) f f (nC t b - f) 0)) 0 (nC t b) 0 = winG t b (fun c => ((g * c : Nat) : Int)) := by
  have hn := nC_c hO hb
  unfold winG
  by_cases h0 : g = 0
  · subst h0
    rw [if_pos rfl]
    have e0 : W1 t b (nC t b) 0 0 (nC t b - 0) 0 = fromG t b (fun c => ((0 * c : Nat) : Int)) 0 := by
      have := W1_G t b 0 0 (nC t b) (by omega) (by omega) hn.2.1 (fun c hc => by simp only [Nat.zero_mul]; omega)
      simpa using this
    have hv : 0 ≤ W1 t b (nC t b) 0 0 (nC t b) 0 := W1_mono hO hb (nC t b) 0 0 (by omega)
    have hall : ∀ f, f < nC t b → W1 t b (nC t b) f f (nC t b - f) 0 ≤ W1 t b (nC t b) 0 0 (nC t b) 0 := by
      intro f hf
      have h1 := W1_le hO hb f (nC t b - f) f 0 (W1 t b (nC t b) 0 0 f 0) (by omega) (W1_mono hO hb f 0 0 (by omega))
      have h2 := lp_add (fun c a => if c < 0 + nC t b then a + sz t b c else a) f (nC t b - f) 0 0
      rw [show f + (nC t b - f) = nC t b by omega, show 0 + f = f from Nat.zero_add f] at h2
      have h2 : W1 t b (nC t b) 0 0 (nC t b) 0 = W1 t b (nC t b) 0 f (nC t b - f) (W1 t b (nC t b) 0 0 f 0) := h2
      omega
    have hL : lp (fun f a => mx a (W1 t b (nC t b) f f (nC t b - f) 0)) 0 (nC t b) 0 = W1 t b (nC t b) 0 0 (nC t b) 0 := by
      obtain ⟨q, hq⟩ : ∃ q, nC t b = q + 1 := ⟨nC t b - 1, by omega⟩
      have := lp_maxc (f := fun f => W1 t b (nC t b) f f (nC t b - f) 0) (v := W1 t b (nC t b) 0 0 (nC t b) 0) q 1 (mx 0 (W1 t b (nC t b) 0 0 (nC t b - 0) 0)) (fun j h1 h2 => hall j (by omega)) (by rw [Nat.sub_zero]; unfold mx; split <;> omega)
      conv => lhs; arg 3; rw [hq]
      exact this
    have hR2 : lp (fun c a => mx a (fromG t b (fun c => ((0 * c : Nat) : Int)) ((0 * c : Nat) : Int))) 0 (nC t b) 0 = W1 t b (nC t b) 0 0 (nC t b) 0 := by
      rw [Nat.sub_zero] at e0
      have ef : ∀ c : Nat, ((0 * c : Nat) : Int) = 0 := fun c => by rw [Nat.zero_mul]; rfl
      obtain ⟨q, hq⟩ : ∃ q, nC t b = q + 1 := ⟨nC t b - 1, by omega⟩
      have := lp_maxc (f := fun c => fromG t b (fun c => ((0 * c : Nat) : Int)) ((0 * c : Nat) : Int)) (v := W1 t b (nC t b) 0 0 (nC t b) 0) q 1 (mx 0 (fromG t b (fun c => ((0 * c : Nat) : Int)) ((0 * 0 : Nat) : Int))) (fun j h1 h2 => by rw [ef j, e0]; omega) (by rw [ef 0, ← e0]; unfold mx; split <;> omega)
      conv => lhs; arg 3; rw [hq]
      exact this
    rw [hL, hR2]
  · rw [if_neg h0]
    refine lp_congr _ _ _ (fun f a _ h2 => ?_)
    have hgf : g * f ≤ 800 * 12 := Nat.mul_le_mul hg (by omega)
    rw [W1_G t b g f (7 / g + 1) (by omega) (by omega) hn.2.1 (fun c hc => ?_)]
    have hpos : 0 < g := Nat.pos_of_ne_zero h0
    constructor
    · rintro ⟨q1, q2⟩
      have h3 : c - f ≤ 7 / g := by omega
      have h4 : g * (c - f) ≤ 7 := by
        have := (Nat.le_div_iff_mul_le hpos).mp h3
        rw [Nat.mul_comm]
        exact this
      have h5 : g * c = g * f + g * (c - f) := by rw [← Nat.mul_add]; congr 1; omega
      omega
    · rintro ⟨q1, q2⟩
      have h6 : g * f ≤ g * c := by omega
      have h7 : f ≤ c := Nat.le_of_mul_le_mul_left h6 hpos
      have h5 : g * c = g * f + g * (c - f) := by rw [← Nat.mul_add]; congr 1; omega
      have h8 : (c - f) * g ≤ 7 := by rw [Nat.mul_comm]; omega
      have h9 := (Nat.le_div_iff_mul_le hpos).mpr h8
      omega
def ngp (t : Nat → Int) (b n : Nat) : Nat → Nat → Int
  | _, 0 => -1
  | k, m + 1 => if shG t b n (winG t b (fun c => ((k * c : Nat) : Int))) ≤ t (81 + 18 * n + 8) then (k : Int) else ngp t b n (k + 1) m
/-! the least radius -/
def lst (p : Nat → Bool) : Nat → Nat → Nat
  | k, 0 => k
  | k, m + 1 => if p k then k else lst p (k + 1) m
theorem lst_f (p : Nat → Bool) : ∀ (a b k : Nat), (∀ j, k ≤ j → j < k + a → p j = false) → lst p k (a + b) = lst p (k + a) b := by
  intro a
  induction a with
  | zero => intro b k _; rw [Nat.zero_add]; rfl
  | succ a ih =>
    intro b k h
    rw [show a + 1 + b = (a + b) + 1 by omega, lst, h k (by omega) (by omega), if_neg (by decide), ih b (k + 1) (fun j h1 h2 => h j (by omega) (by omega)), show k + 1 + a = k + (a + 1) by omega]
theorem lst_t (p : Nat → Bool) : ∀ (a b k : Nat), p (k + a) = true → lst p k (a + (b + 1)) = lst p k a := by
  intro a
  induction a with
  | zero =>
    intro b k h
    rw [Nat.zero_add]
    show (if p k = true then k else lst p (k + 1) b) = k
    exact if_pos h
  | succ a ih =>
    intro b k h
    rw [show a + 1 + (b + 1) = (a + (b + 1)) + 1 by omega, lst, lst]
    cases p k
    · rw [if_neg (by decide), if_neg (by decide)]
      exact ih b (k + 1) (by rw [show k + 1 + a = k + (a + 1) by omega]; exact h)
    · rw [if_pos rfl, if_pos rfl]
theorem nearX_mono {px py ex ey r1 r2 : Int} (h : 0 ≤ r1 ∧ r1 ≤ r2) (h1 : nearX px py ex ey r1 = true) : nearX px py ex ey r2 = true := by
  have hm : r1 * r1 ≤ r2 * r2 := Int.mul_le_mul h.2 h.2 h.1 (by omega)
  have hl : 0 ≤ ex * ex + ey * ey := by
    have e1 := sq_0 ex
    have e2 := sq_0 ey
    omega
  have hm2 : r1 * r1 * (ex * ex + ey * ey) ≤ r2 * r2 * (ex * ex + ey * ey) := Int.mul_le_mul_of_nonneg_right hm hl
  unfold nearX at h1 ⊢
  by_cases c1 : px * ex + py * ey ≤ 0
  · rw [if_pos c1] at h1 ⊢
    exact decide_eq_true (Int.le_trans (of_decide_eq_true h1) hm)
  · rw [if_neg c1] at h1 ⊢
    by_cases c2 : ex * ex + ey * ey ≤ px * ex + py * ey
    · rw [if_pos c2] at h1 ⊢
      exact decide_eq_true (Int.le_trans (of_decide_eq_true h1) hm)
    · rw [if_neg c2] at h1 ⊢
      exact decide_eq_true (Int.le_trans (of_decide_eq_true h1) hm2)
theorem c_radius (h : Iv σ R s t w) {b r : Nat} (hb : (b : Int) < t 2) (hr : (r : Int) < t 1) : ∀ (j lo hi hv n : Nat), lo ≤ hi → hi ≤ 1500 → hi - lo < 2 ^ j → hv + j ≤ 15 → j < n → f_X11_neededRadius_24 N R n σ (s + 40 + 5 * b) (s + 34 + r) (nI lo) (nI hi) (nI hv) = some (.inl (nI (lst (fun q => near t b r (q : Int)) lo (hi - lo))), σ) := by
  have hO := h.tok
  intro j
  induction j with
  | zero =>
    intro lo hi hv n h1 h2 h3 h4 h5
    obtain ⟨n, rfl⟩ : ∃ q, n = q + 1 := ⟨n - 1, by omega⟩
    rw [f_X11_neededRadius_24, if_neg (by rw [show (16 : Int32) = nI 16 from rfl, nI_leI (by omega) (by omega)]; omega), if_pos ((nI_leI (by omega) (by omega)).mpr (by omega)), show hi - lo = 0 by omega]
    rfl
  | succ j ih =>
    intro lo hi hv n h1 h2 h3 h4 h5
    obtain ⟨n, rfl⟩ : ∃ q, n = q + 1 := ⟨n - 1, by omega⟩
    rw [f_X11_neededRadius_24, if_neg (by rw [show (16 : Int32) = nI 16 from rfl, nI_leI (by omega) (by omega)]; omega)]
    by_cases c : hi ≤ lo
    · rw [if_pos ((nI_leI (by omega) (by omega)).mpr c), show hi - lo = 0 by omega]
      rfl
    · rw [if_neg (fun q => c ((nI_leI (by omega) (by omega)).mp q))]
      have em : (nI lo + nI hi) / (2 : Int32) = nI ((lo + hi) / 2) := by
        rw [nI_add, iI_nat, show (2 : Int32) = iI 2 from rfl, iI_div (by omega) (by omega), iI_nat]
        congr 1
      have e := c_comesWithin (N := N) (R := R) (σ := σ) (o := s + 34 + r) hO hb hr (h.cq.2.2.2.1 r hr) (rad := (((lo + hi) / 2 : Nat) : Int)) (by omega)
      rw [← iI_nat] at e
      have h2p : 2 ^ (j + 1) = 2 ^ j + 2 ^ j := by rw [Nat.pow_succ]; omega
      rw [em, (h.cq.2.2.2.2 b hb).1, (h.cq.2.2.2.2 b hb).2.1, e, bd_some]
      dsimp only [f_X11_neededRadius_78]
      rw [nI_1 hv]
      generalize hmid : (lo + hi) / 2 = mid at *
      by_cases cp : near t b r (mid : Int) = true
      · rw [cp, bI_t, if_neg (by decide), ih lo mid (hv + 1) n (by omega) (by omega) (by omega) (by omega) (by omega)]
        have := lst_t (fun q => near t b r (q : Int)) (mid - lo) (hi - mid - 1) lo (by rw [show lo + (mid - lo) = mid by omega]; exact cp)
        rw [show mid - lo + (hi - mid - 1 + 1) = hi - lo by omega] at this
        rw [this]
      · have cf : near t b r (mid : Int) = false := by cases hz : near t b r (mid : Int); rfl; exact absurd hz cp
        rw [cf, bI_f, if_pos rfl, nI_1 mid, ih (mid + 1) hi (hv + 1) n (by omega) (by omega) (by omega) (by omega) (by omega)]
        have := lst_f (fun q => near t b r (q : Int)) (mid + 1 - lo) (hi - (mid + 1)) lo (fun q h6 h7 => by
          cases hz : near t b r (q : Int)
          · rfl
          · exact absurd (nearX_mono (r1 := (q : Int)) (r2 := (mid : Int)) (by omega) hz) cp)
        rw [show mid + 1 - lo + (hi - (mid + 1)) = hi - lo by omega, show lo + (mid + 1 - lo) = mid + 1 by omega] at this
        rw [this]
end MS

