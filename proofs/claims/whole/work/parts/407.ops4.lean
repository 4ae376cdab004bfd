/-! ===== the most shaken, window starts, gaps, least radius ===== -/
section MS
variable {N : Nat} {R : Nat → Nat → Nat} {s : Nat} {t w : Nat → Int} {σ : SI}
theorem shk_r (hO : TOk t) {b n : Nat} (hb : (b : Int) < t 2) (hn : (n : Int) < t 0) : 0 ≤ shk t w b n ∧ shk t w b n ≤ 11988000 := by
  have hw := winG_r hO hb (dl w b)
  rw [← win_G] at hw
  exact shG_r hO hb hn hw
def msS (t w : Nat → Int) (b : Nat) : Nat → Int → Int := fun i a => if a = -1 ∨ shk t w b a.toNat < shk t w b i then (i : Int) else a
theorem c_mostS (h : Iv σ R s t w) {b : Nat} (hb : (b : Int) < t 2) : ∀ (m k n : Nat) (a : Int), k + m = nN t → m < n → (-1 ≤ a ∧ a < k) → f_X11_mostShaken_14 N R n σ 1 (s + 40 + 5 * b) (iI a) (iI (if a = -1 then -1 else shk t w b a.toNat)) (nI k) = some (.inl (iI (lp (msS t w b) k m a)), σ) := by
  have hO := h.tok
  have hn := nN_c hO
  intro m
  induction m with
  | zero =>
    intro k n a hk hm ha
    obtain ⟨n, rfl⟩ : ∃ q, n = q + 1 := ⟨n - 1, by omega⟩
    rw [f_X11_mostShaken_14, h.ro.site, h.cq.1.1, if_pos ((iI_leN (by omega)).mpr (by omega)), lp_0]
  | succ m ih =>
    intro k n a hk hm ha
    obtain ⟨n, rfl⟩ : ∃ q, n = q + 1 := ⟨n - 1, by omega⟩
    have hw := winG_r hO hb (dl w b)
    rw [← win_G] at hw
    have hs := shk_r (w := w) hO hb (n := k) (by omega)
    rw [f_X11_mostShaken_14, h.ro.site, h.cq.1.1, if_neg (fun q => absurd ((iI_leN (by omega)).mp q) (by omega)), (h.cw b hb).1, c_shakes h hb (by omega) hw, bd_some, ← shk_G, lp_s]
    dsimp only [f_X11_mostShaken_52]
    rw [nI_1]
    by_cases e : a = -1
    · rw [if_pos e, if_neg (fun q => absurd ((iI_le (by omega)).mp q) (by omega))]
      have := ih (k + 1) n (k : Int) (by omega) (by omega) (by omega)
      rw [if_neg (by omega), Int.toNat_natCast] at this
      rw [iI_nat k, this]
      unfold msS
      rw [if_pos (Or.inl e)]
    · have hs2 := shk_r (w := w) hO hb (n := a.toNat) (by omega)
      rw [if_neg e]
      by_cases c : shk t w b k ≤ shk t w b a.toNat
      · rw [if_pos ((iI_le (by omega)).mpr c)]
        have := ih (k + 1) n a (by omega) (by omega) (by omega)
        rw [if_neg e] at this
        rw [this, show msS t w b k a = a from if_neg (by omega)]
      · rw [if_neg (fun q => c ((iI_le (by omega)).mp q))]
        have := ih (k + 1) n (k : Int) (by omega) (by omega) (by omega)
        rw [if_neg (by omega), Int.toNat_natCast] at this
        rw [iI_nat k, this, show msS t w b k a = (k : Int) from if_pos (by omega)]
theorem m_mostS (hN : 2000 ≤ N) (hR : RO R s) (hT : TV t σ) (hV : WV w σ) (hO : TOk t) (hW : WOk t w) {b : Nat} (hb : (b : Int) < t 2) : ∀ (m k n : Nat) (a : Int), k + m = nN t → m < n → (-1 ≤ a ∧ a < k) → f_X12_mostShaken_19 N R n σ 178 (nI b) (iI a) (nI k) = some (iI (lp (msS t w b) k m a), σ) := by
  have hn := nN_c hO
  intro m
  induction m with
  | zero =>
    intro k n a hk hm ha
    obtain ⟨n, rfl⟩ : ∃ q, n = q + 1 := ⟨n - 1, by omega⟩
    rw [f_X12_mostShaken_19, ck0, hR.m11, cl0, hT, if_pos ((iI_leN (by omega)).mpr (by omega)), lp_0]
  | succ m ih =>
    intro k n a hk hm ha
    obtain ⟨n, rfl⟩ : ∃ q, n = q + 1 := ⟨n - 1, by omega⟩
    rw [f_X12_mostShaken_19, ck0, hR.m11, cl0, hT, if_neg (fun q => absurd ((iI_leN (by omega)).mp q) (by omega)), lp_s]
    dsimp only [f_X12_mostShaken_51, f_X12_mostShaken_53]
    rw [nI_1]
    by_cases e : a = -1
    · rw [if_pos (by rw [e]; rfl), iI_nat k, ih (k + 1) n (k : Int) (by omega) (by omega) (by omega), show msS t w b k a = (k : Int) from if_pos (Or.inl e)]
    · have hs := shk_r (w := w) hO hb (n := k) (by omega)
      have hs2 := shk_r (w := w) hO hb (n := a.toNat) (by omega)
      have e2 : iI a = nI a.toNat := by rw [iI_nat]; congr 1; omega
      rw [if_neg (by rw [show (-1 : Int32) = iI (-1) from rfl, iI_eq (by omega)]; exact e), m_shakes hN hR hT hV hO hW hb (by omega), bd_some, e2, m_shakes hN hR hT hV hO hW hb (by omega), bd_some, ← e2]
      by_cases c : shk t w b k ≤ shk t w b a.toNat
      · rw [if_pos ((iI_le (by omega)).mpr c), ih (k + 1) n a (by omega) (by omega) (by omega), show msS t w b k a = a from if_neg (by omega)]
      · rw [if_neg (fun q => c ((iI_le (by omega)).mp q)), iI_nat k, ih (k + 1) n (k : Int) (by omega) (by omega) (by omega), show msS t w b k a = (k : Int) from if_pos (by omega)]
theorem m_wst (hN : 2000 ≤ N) (hR : RO R s) (hT : TV t σ) (hV : WV w σ) (hO : TOk t) (hW : WOk t w) {b : Nat} (hb : (b : Int) < t 2) : ∀ (m k n : Nat) (a : Int), k + m = nC t b → m < n → (-1 ≤ a ∧ a ≤ 9999) → f_X12_windowStart_27 N R n σ 178 (nI b) (iI (win t w b)) (iI a) (nI k) = some (iI (lp (fun c a => if fromD t w b (dl w b c) = win t w b ∧ (a = -1 ∨ dl w b c < a) then dl w b c else a) k m a), σ) := by
  have hn := nC_c hO hb
  have h2 := hO.2.2.1
  have hw := winG_r hO hb (dl w b)
  rw [← win_G] at hw
  intro m
  induction m with
  | zero =>
    intro k n a hk hm ha
    obtain ⟨n, rfl⟩ : ∃ q, n = q + 1 := ⟨n - 1, by omega⟩
    rw [f_X12_windowStart_27, m_charges hR hT (by omega), bd_some, if_pos ((iI_leN (by omega)).mpr (by omega)), lp_0]
  | succ m ih =>
    intro k n a hk hm ha
    obtain ⟨n, rfl⟩ : ∃ q, n = q + 1 := ⟨n - 1, by omega⟩
    have hdk := dl_r hO hW hb (c := k) (by omega)
    have hf := fromG_r hO hb (dl w b) (dl w b k)
    rw [← fromD_G] at hf
    rw [f_X12_windowStart_27, m_charges hR hT (by omega), bd_some, if_neg (fun q => absurd ((iI_leN (by omega)).mp q) (by omega)), m_delayOf hR hV (by omega) (by omega), bd_some, m_windowFrom hN hR hT hV hO hW hb (by omega), bd_some, lp_s]
    dsimp only [f_X12_windowStart_69, f_X12_windowStart_72]
    rw [nI_1]
    by_cases c : fromD t w b (dl w b k) = win t w b
    · rw [if_pos (by rw [c])]
      by_cases e : a = -1
      · rw [if_pos (by rw [e]; rfl), ih (k + 1) n _ (by omega) (by omega) (by omega), if_pos ⟨c, Or.inl e⟩]
      · rw [if_neg (by rw [show (-1 : Int32) = iI (-1) from rfl, iI_eq (by omega)]; exact e)]
        by_cases c2 : a ≤ dl w b k
        · rw [if_pos ((iI_le (by omega)).mpr c2), ih (k + 1) n _ (by omega) (by omega) (by omega), if_neg (by omega)]
        · rw [if_neg (fun q => c2 ((iI_le (by omega)).mp q)), ih (k + 1) n _ (by omega) (by omega) (by omega), if_pos ⟨c, by omega⟩]
    · rw [if_neg (by rw [iI_eq (by omega)]; exact c), ih (k + 1) n _ (by omega) (by omega) (by omega), if_neg (fun q => c q.1)]
/-! the class's window with a gap -/
def W1 (t : Nat → Int) (b tog f : Nat) : Nat → Nat → Int → Int := lp (fun c a => if c < f + tog then a + sz t b c else a)
theorem W1_stop (t : Nat → Int) (b tog f : Nat) : ∀ (m k : Nat) (a : Int), f + tog ≤ k → W1 t b tog f k m a = a := by
  intro m
  induction m with
  | zero => intro k a _; rfl
  | succ m ih =>
    intro k a hk
    show W1 t b tog f (k + 1) m (if k < f + tog then a + sz t b k else a) = a
    rw [if_neg (by omega)]
    exact ih (k + 1) a (by omega)
theorem W1_r (hO : TOk t) {b : Nat} (hb : (b : Int) < t 2) (tog f : Nat) : ∀ (m k : Nat) (a : Int), k + m ≤ nC t b → 0 ≤ a ∧ a ≤ 999 * (k : Int) → 0 ≤ W1 t b tog f k m a ∧ W1 t b tog f k m a ≤ 999 * ((k + m : Nat) : Int) := by
  intro m k a hk ha
  exact lp_invI (P := fun j a => 0 ≤ a ∧ a ≤ 999 * (j : Int)) m k a ha (fun j a h1 h2 ha => by
    have hs := sz_r hO hb (c := j) (by omega)
    split <;> omega)
theorem c_w41 (h : Iv σ R s t w) {b tog f : Nat} (hb : (b : Int) < t 2) (ht : tog ≤ 12) (hf : f ≤ 12) {K : SI → Nat → Int32 → Int32 → Int32 → Option (Int32 × SI)} (best : Int32) : ∀ (m k n : Nat) (acc : Int), k + m = nC t b → m < n → f_X0_windowIfGap_41 N R K n σ (s + 40 + 5 * b) (nI tog) best (nI f) (iI acc) (nI k) = f_X0_windowIfGap_77 N R K σ (s + 40 + 5 * b) (nI tog) best (nI f) (iI (W1 t b tog f k m acc)) := by
  have hO := h.tok
  have hn := nC_c hO hb
  have h2 := hO.2.2.1
  intro m
  induction m with
  | zero =>
    intro k n acc hk hm
    obtain ⟨n, rfl⟩ : ∃ q, n = q + 1 := ⟨n - 1, by omega⟩
    rw [f_X0_windowIfGap_41, h.bl7 hb, if_pos ((iI_leN (by omega)).mpr (by omega))]
    rfl
  | succ m ih =>
    intro k n acc hk hm
    obtain ⟨n, rfl⟩ : ∃ q, n = q + 1 := ⟨n - 1, by omega⟩
    rw [f_X0_windowIfGap_41, h.bl7 hb, if_neg (fun q => absurd ((iI_leN (by omega)).mp q) (by omega)), nI_add]
    by_cases c : f + tog ≤ k
    · rw [if_pos ((nI_leI (by omega) (by omega)).mpr c), W1_stop t b tog f (m + 1) k acc c]
    · rw [if_neg (fun q => c ((nI_leI (by omega) (by omega)).mp q)), ck_nI (by omega) (by decide), h.ro.blA b (by omega) 0 (by decide), nI_clamp (by omega), show s + 41 + 5 * b + 0 = s + 41 + 5 * b by omega, (h.cq.2.2.2.2 b hb).2.2.2.2.1 k (by omega), iI_add, nI_1, ih (k + 1) n _ (by omega) (by omega)]
      show _ = f_X0_windowIfGap_77 N R K σ (s + 40 + 5 * b) (nI tog) best (nI f) (iI (W1 t b tog f (k + 1) m (if k < f + tog then acc + sz t b k else acc)))
      rw [if_pos (by omega)]
      rfl
theorem c_w25 (hN : 2000 ≤ N) (h : Iv σ R s t w) {b tog : Nat} (hb : (b : Int) < t 2) (ht : tog ≤ 12) : ∀ (m k n : Nat) (a : Int), k + m = nC t b → m < n → 0 ≤ a ∧ a ≤ 11988 → f_X0_windowIfGap_25 N R n σ (s + 40 + 5 * b) (nI tog) (iI a) (nI k) = some (iI (lp (fun f a => mx a (W1 t b tog f f (nC t b - f) 0)) k m a), σ) := by
  have hO := h.tok
  have hn := nC_c hO hb
  intro m
  induction m with
  | zero =>
    intro k n a hk hm ha
    obtain ⟨n, rfl⟩ : ∃ q, n = q + 1 := ⟨n - 1, by omega⟩
    rw [f_X0_windowIfGap_25, h.bl7 hb, if_pos ((iI_leN (by omega)).mpr (by omega)), lp_0]
  | succ m ih =>
    intro k n a hk hm ha
    obtain ⟨n, rfl⟩ : ∃ q, n = q + 1 := ⟨n - 1, by omega⟩
    have hr := W1_r hO hb tog k (nC t b - k) k 0 (by omega) (by omega)
    rw [show k + (nC t b - k) = nC t b by omega] at hr
    rw [f_X0_windowIfGap_25, h.bl7 hb, if_neg (fun q => absurd ((iI_leN (by omega)).mp q) (by omega)), show (0 : Int32) = iI 0 from rfl, c_w41 h hb ht (by omega) (iI a) (nC t b - k) k N 0 (by omega) (by omega), lp_s]
    dsimp only [f_X0_windowIfGap_77]
    rw [iI_maxR (by omega), nI_1, ih (k + 1) n _ (by omega) (by omega) (by unfold mx; split <;> omega)]
theorem lp_add {α : Type} (f : Nat → α → α) : ∀ (a b k : Nat) (x : α), lp f k (a + b) x = lp f (k + a) b (lp f k a x) := by
  intro a
  induction a with
  | zero => intro b k x; rw [Nat.zero_add]; rfl
  | succ a ih =>
    intro b k x
    rw [show a + 1 + b = (a + b) + 1 by omega, lp_s, lp_s, ih, show k + 1 + a = k + (a + 1) by omega]
theorem W1_G (t : Nat → Int) (b g f tog : Nat) (hg : g * f ≤ 10000) (hf : f ≤ nC t b) (hc : nC t b ≤ 12) (ht : ∀ c, c < nC t b → (f ≤ c ∧ c < f + tog ↔ ((g * f : Nat) : Int) ≤ ((g * c : Nat) : Int) ∧ ((g * c : Nat) : Int) ≤ ((g * f : Nat) : Int) + 7)) : W1 t b tog f f (nC t b - f) 0 = fromG t b (fun c => ((g * c : Nat) : Int)) ((g * f : Nat) : Int) := by
  unfold fromG
  have e : lp (fun c a => a + (if ((g * f : Nat) : Int) ≤ ((g * c : Nat) : Int) ∧ ((g * c : Nat) : Int) ≤ ((g * f : Nat) : Int) + 7 then sz t b c else 0)) 0 f 0 = 0 := by
    refine lp_inv (P := fun a => a = 0) f 0 0 rfl (fun j a _ h2 ha => ?_)
    rw [if_neg (fun q => by have := (ht j (by omega)).mpr q; omega), ha]
    rfl
  rw [show nC t b = f + (nC t b - f) by omega, lp_add, e, Nat.zero_add, show f + (nC t b - f) - f = nC t b - f by omega]
  refine lp_congr _ _ _ (fun j a h1 h2 => ?_)
  by_cases c : j < f + tog
  · rw [if_pos c, if_pos ((ht j (by omega)).mp ⟨h1, c⟩)]
  · rw [if_neg c, if_neg (fun q => c ((ht j (by omega)).mpr q).2), Int.add_zero]
theorem W1_le (hO : TOk t) {b : Nat} (hb : (b : Int) < t 2) (f : Nat) : ∀ (m k : Nat) (a a' : Int), k + m ≤ nC t b → a ≤ a' → W1 t b (nC t b) f k m a ≤ W1 t b (nC t b) 0 k m a' := by
  intro m
  induction m with
  | zero => intro k a a' _ h; exact h
  | succ m ih =>
    intro k a a' hk h
    have hs := sz_r hO hb (c := k) (by omega)
    refine ih (k + 1) _ _ (by omega) ?_
    show (if k < f + nC t b then a + sz t b k else a) ≤ (if k < 0 + nC t b then a' + sz t b k else a')
    rw [if_pos (show k < f + nC t b by omega), if_pos (show k < 0 + nC t b by omega)]
    omega
theorem W1_mono (hO : TOk t) {b : Nat} (hb : (b : Int) < t 2) : ∀ (m k : Nat) (a : Int), k + m ≤ nC t b → a ≤ W1 t b (nC t b) 0 k m a := by
  intro m
  induction m with
  | zero => intro k a _; exact Int.le_refl a
  | succ m ih =>
    intro k a hk
    have hs := sz_r hO hb (c := k) (by omega)
    have := ih (k + 1) (a + sz t b k) (by omega)
    show a ≤ W1 t b (nC t b) 0 (k + 1) m (if k < 0 + nC t b then a + sz t b k else a)
    rw [if_pos (by omega)]
    omega
theorem lp_maxc {f : Nat → Int} {v : Int} : ∀ (m k : Nat) (a : Int), (∀ j, k ≤ j → j < k + m → f j ≤ v) → a = v → lp (fun c a => mx a (f c)) k m a = v := by
  intro m
  induction m with
  | zero => intro k a _ h; exact h
  | succ m ih =>
    intro k a h1 h2
    refine ih (k + 1) _ (fun j h3 h4 => h1 j (by omega) (by omega)) ?_
    have := h1 k (by omega) (by omega)
    show (if a < f k then f k else a) = v
    rw [if_neg (by omega)]
    exact h2
theorem winGap (hO : TOk t) {b g : Nat} (hb : (b : Int) < t 2) (hg : g ≤ 800) : lp (fun f a => mx a (W1 t b (if g = 0 then nC t b else 7 / g + 1) f f (nC t b - f) 0)) 0 (nC t b) 0 = winG t b (fun c => ((g * c : Nat) : Int)) := by
  have hn := nC_c hO hb
  unfold winG
  by_cases h0 : g = 0
  · subst h0
    rw [if_pos rfl]
    have e0 : W1 t b (nC t b) 0 0 (nC t b - 0) 0 = fromG t b (fun c => ((0 * c : Nat) : Int)) 0 := by
      have := W1_G t b 0 0 (nC t b) (by omega) (by omega) hn.2.1 (fun c hc => by simp only [Nat.zero_mul]; omega)
      simpa using this
    have hv : 0 ≤ W1 t b (nC t b) 0 0 (nC t b) 0 := W1_mono hO hb (nC t b) 0 0 (by omega)
    have hall : ∀ f, f < nC t b → W1 t b (nC t b) f f (nC t b - f) 0 ≤ W1 t b (nC t b) 0 0 (nC t b) 0 := by
      intro f hf
      have h1 := W1_le hO hb f (nC t b - f) f 0 (W1 t b (nC t b) 0 0 f 0) (by omega) (W1_mono hO hb f 0 0 (by omega))
      have h2 := lp_add (fun c a => if c < 0 + nC t b then a + sz t b c else a) f (nC t b - f) 0 0
      rw [show f + (nC t b - f) = nC t b by omega, show 0 + f = f from Nat.zero_add f] at h2
      have h2 : W1 t b (nC t b) 0 0 (nC t b) 0 = W1 t b (nC t b) 0 f (nC t b - f) (W1 t b (nC t b) 0 0 f 0) := h2
      omega
    have hL : lp (fun f a => mx a (W1 t b (nC t b) f f (nC t b - f) 0)) 0 (nC t b) 0 = W1 t b (nC t b) 0 0 (nC t b) 0 := by
      obtain ⟨q, hq⟩ : ∃ q, nC t b = q + 1 := ⟨nC t b - 1, by omega⟩
      have := lp_maxc (f := fun f => W1 t b (nC t b) f f (nC t b - f) 0) (v := W1 t b (nC t b) 0 0 (nC t b) 0) q 1 (mx 0 (W1 t b (nC t b) 0 0 (nC t b - 0) 0)) (fun j h1 h2 => hall j (by omega)) (by rw [Nat.sub_zero]; unfold mx; split <;> omega)
      conv => lhs; arg 3; rw [hq]
      exact this
    have hR2 : lp (fun c a => mx a (fromG t b (fun c => ((0 * c : Nat) : Int)) ((0 * c : Nat) : Int))) 0 (nC t b) 0 = W1 t b (nC t b) 0 0 (nC t b) 0 := by
      rw [Nat.sub_zero] at e0
      have ef : ∀ c : Nat, ((0 * c : Nat) : Int) = 0 := fun c => by rw [Nat.zero_mul]; rfl
      obtain ⟨q, hq⟩ : ∃ q, nC t b = q + 1 := ⟨nC t b - 1, by omega⟩
      have := lp_maxc (f := fun c => fromG t b (fun c => ((0 * c : Nat) : Int)) ((0 * c : Nat) : Int)) (v := W1 t b (nC t b) 0 0 (nC t b) 0) q 1 (mx 0 (fromG t b (fun c => ((0 * c : Nat) : Int)) ((0 * 0 : Nat) : Int))) (fun j h1 h2 => by rw [ef j, e0]; omega) (by rw [ef 0, ← e0]; unfold mx; split <;> omega)
      conv => lhs; arg 3; rw [hq]
      exact this
    rw [hL, hR2]
  · rw [if_neg h0]
    refine lp_congr _ _ _ (fun f a _ h2 => ?_)
    have hgf : g * f ≤ 800 * 12 := Nat.mul_le_mul hg (by omega)
    rw [W1_G t b g f (7 / g + 1) (by omega) (by omega) hn.2.1 (fun c hc => ?_)]
    have hpos : 0 < g := Nat.pos_of_ne_zero h0
    constructor
    · rintro ⟨q1, q2⟩
      have h3 : c - f ≤ 7 / g := by omega
      have h4 : g * (c - f) ≤ 7 := by
        have := (Nat.le_div_iff_mul_le hpos).mp h3
        rw [Nat.mul_comm]
        exact this
      have h5 : g * c = g * f + g * (c - f) := by rw [← Nat.mul_add]; congr 1; omega
      omega
    · rintro ⟨q1, q2⟩
      have h6 : g * f ≤ g * c := by omega
      have h7 : f ≤ c := Nat.le_of_mul_le_mul_left h6 hpos
      have h5 : g * c = g * f + g * (c - f) := by rw [← Nat.mul_add]; congr 1; omega
      have h8 : (c - f) * g ≤ 7 := by rw [Nat.mul_comm]; omega
      have h9 := (Nat.le_div_iff_mul_le hpos).mpr h8
      omega
theorem c_windowIfGap (hN : 2000 ≤ N) (h : Iv σ R s t w) {b g : Nat} (hb : (b : Int) < t 2) (hg : g ≤ 800) : f_X0_windowIfGap N R σ (s + 40 + 5 * b) (nI g) = some (iI (winG t b (fun c => ((g * c : Nat) : Int))), σ) := by
  have hO := h.tok
  have hn := nC_c hO hb
  rw [← winGap hO hb hg]
  unfold f_X0_windowIfGap
  by_cases h0 : g = 0
  · subst h0
    rw [if_pos (show nI 0 = 0 from rfl), if_pos rfl, h.bl7 hb, hn.1, ← iI_nat]
    exact c_w25 hN h hb hn.2.1 (nC t b) 0 N 0 (by omega) (by omega) (by omega)
  · have hne : ¬ nI g = 0 := nI_ne0 (by omega) (by omega)
    have h7 : 7 / g ≤ 7 := Nat.div_le_self _ _
    rw [if_neg hne, if_neg h0]
    unfold f_X11_quotient
    rw [if_neg hne, cd_ne hne, bd_some, show (7 : Int32) = iI 7 from rfl, iI_nat, iI_div (by omega) (by omega), show (1 : Int32) = iI 1 from rfl, iI_add, show (7 : Int) / (g : Int) + 1 = ((7 / g + 1 : Nat) : Int) from by rw [Int.natCast_add, Int.natCast_ediv]; rfl, ← iI_nat]
    exact c_w25 hN h hb (by omega) (nC t b) 0 N 0 (by omega) (by omega) (by omega)
def ngp (t : Nat → Int) (b n : Nat) : Nat → Nat → Int
  | _, 0 => -1
  | k, m + 1 => if shG t b n (winG t b (fun c => ((k * c : Nat) : Int))) ≤ t (81 + 18 * n + 8) then (k : Int) else ngp t b n (k + 1) m
theorem c_ngp (hN : 2000 ≤ N) (h : Iv σ R s t w) {b q : Nat} (hb : (b : Int) < t 2) (hq : (q : Int) < t 0) : ∀ (m k n : Nat), k + m = 201 → m < n → f_X11_neededGap_19 N R n σ (nI q) (s + 40 + 5 * b) (iI (t (81 + 18 * q + 8))) (nI k) = some (.inl (iI (ngp t b q k m)), σ) := by
  have hO := h.tok
  have hl := (hO.n hq).2.2.1
  intro m
  induction m with
  | zero =>
    intro k n hk hm
    obtain ⟨n, rfl⟩ : ∃ q, n = q + 1 := ⟨n - 1, by omega⟩
    rw [f_X11_neededGap_19, if_pos (by rw [show k = 201 by omega]; decide)]
    rfl
  | succ m ih =>
    intro k n hk hm
    obtain ⟨n, rfl⟩ : ∃ q, n = q + 1 := ⟨n - 1, by omega⟩
    have hw := winG_r hO hb (fun c => ((k * c : Nat) : Int))
    have hs := shG_r hO hb hq hw
    rw [f_X11_neededGap_19, if_neg (by rw [show (200 : Int32) = nI 200 from rfl, nI_ltI (by omega) (by omega)]; omega), c_windowIfGap hN h hb (by omega), bd_some, c_shakes h hb hq hw, bd_some, ngp]
    by_cases c : shG t b q (winG t b (fun c => ((k * c : Nat) : Int))) ≤ t (81 + 18 * q + 8)
    · rw [if_neg (fun q => absurd ((iI_lt (by omega)).mp q) (by omega)), if_pos c, iI_nat]
    · rw [if_pos ((iI_lt (by omega)).mpr (by omega)), if_neg c, nI_1, ih (k + 1) n (by omega) (by omega)]
theorem m_ngp (hN : 2000 ≤ N) (hR : RO R s) (hT : TV t σ) (hO : TOk t) {b q : Nat} (hb : (b : Int) < t 2) (hq : (q : Int) < t 0) : ∀ (m k n : Nat), k + m = 201 → m < n → f_X12_neededGap_25 N R n σ 178 (nI b) (nI q) (nI k) = some (iI (ngp t b q k m), σ) := by
  have h0 := hO.1
  have hl := (hO.n hq).2.2.1
  intro m
  induction m with
  | zero =>
    intro k n hk hm
    obtain ⟨n, rfl⟩ : ∃ q, n = q + 1 := ⟨n - 1, by omega⟩
    rw [f_X12_neededGap_25, if_pos (by rw [show k = 201 by omega]; decide)]
    rfl
  | succ m ih =>
    intro k n hk hm
    obtain ⟨n, rfl⟩ : ∃ q, n = q + 1 := ⟨n - 1, by omega⟩
    have hw := winG_r hO hb (fun c => ((k * c : Nat) : Int))
    have hs := shG_r hO hb hq hw
    rw [f_X12_neededGap_25, if_neg (by rw [show (200 : Int32) = nI 200 from rfl, nI_ltI (by omega) (by omega)]; omega), m_shakesG hN hR hT hO (by omega) hb hq, bd_some, m_near8 hR hT (by omega), bd_some, ngp]
    by_cases c : shG t b q (winG t b (fun c => ((k * c : Nat) : Int))) ≤ t (81 + 18 * q + 8)
    · rw [if_neg (fun q => absurd ((iI_lt (by omega)).mp q) (by omega)), if_pos c, iI_nat]
    · rw [if_pos ((iI_lt (by omega)).mpr (by omega)), if_neg c, nI_1, ih (k + 1) n (by omega) (by omega)]
/-! the least radius -/
def lst (p : Nat → Bool) : Nat → Nat → Nat
  | k, 0 => k
  | k, m + 1 => if p k then k else lst p (k + 1) m
theorem lst_f (p : Nat → Bool) : ∀ (a b k : Nat), (∀ j, k ≤ j → j < k + a → p j = false) → lst p k (a + b) = lst p (k + a) b := by
  intro a
  induction a with
  | zero => intro b k _; rw [Nat.zero_add]; rfl
  | succ a ih =>
    intro b k h
    rw [show a + 1 + b = (a + b) + 1 by omega, lst, h k (by omega) (by omega), if_neg (by decide), ih b (k + 1) (fun j h1 h2 => h j (by omega) (by omega)), show k + 1 + a = k + (a + 1) by omega]
theorem lst_t (p : Nat → Bool) : ∀ (a b k : Nat), p (k + a) = true → lst p k (a + (b + 1)) = lst p k a := by
  intro a
  induction a with
  | zero =>
    intro b k h
    rw [Nat.zero_add]
    show (if p k = true then k else lst p (k + 1) b) = k
    exact if_pos h
  | succ a ih =>
    intro b k h
    rw [show a + 1 + (b + 1) = (a + (b + 1)) + 1 by omega, lst, lst]
    cases p k
    · rw [if_neg (by decide), if_neg (by decide)]
      exact ih b (k + 1) (by rw [show k + 1 + a = k + (a + 1) by omega]; exact h)
    · rw [if_pos rfl, if_pos rfl]
theorem nearX_mono {px py ex ey r1 r2 : Int} (h : 0 ≤ r1 ∧ r1 ≤ r2) (h1 : nearX px py ex ey r1 = true) : nearX px py ex ey r2 = true := by
  have hm : r1 * r1 ≤ r2 * r2 := Int.mul_le_mul h.2 h.2 h.1 (by omega)
  have hl : 0 ≤ ex * ex + ey * ey := by
    have e1 := sq_0 ex
    have e2 := sq_0 ey
    omega
  have hm2 : r1 * r1 * (ex * ex + ey * ey) ≤ r2 * r2 * (ex * ex + ey * ey) := Int.mul_le_mul_of_nonneg_right hm hl
  unfold nearX at h1 ⊢
  by_cases c1 : px * ex + py * ey ≤ 0
  · rw [if_pos c1] at h1 ⊢
    exact decide_eq_true (Int.le_trans (of_decide_eq_true h1) hm)
  · rw [if_neg c1] at h1 ⊢
    by_cases c2 : ex * ex + ey * ey ≤ px * ex + py * ey
    · rw [if_pos c2] at h1 ⊢
      exact decide_eq_true (Int.le_trans (of_decide_eq_true h1) hm)
    · rw [if_neg c2] at h1 ⊢
      exact decide_eq_true (Int.le_trans (of_decide_eq_true h1) hm2)
theorem m_radius (hR : RO R s) (hT : TV t σ) (hO : TOk t) {b r : Nat} (hb : (b : Int) < t 2) (hr : (r : Int) < t 1) : ∀ (m k n : Nat), k + m = 1500 → m < n → f_X12_neededRadius_25 N R n σ 178 (nI b) (nI r) (nI k) = some (nI (lst (fun q => near t b r (q : Int)) k m), σ) := by
  intro m
  induction m with
  | zero =>
    intro k n hk hm
    obtain ⟨n, rfl⟩ : ∃ q, n = q + 1 := ⟨n - 1, by omega⟩
    rw [f_X12_neededRadius_25, if_pos (by rw [show k = 1500 by omega]; decide)]
    rfl
  | succ m ih =>
    intro k n hk hm
    obtain ⟨n, rfl⟩ : ∃ q, n = q + 1 := ⟨n - 1, by omega⟩
    have e := m_isNear (N := N) hR hT hO hb hr (rad := (k : Int)) (by omega)
    rw [← iI_nat] at e
    rw [f_X12_neededRadius_25, if_neg (by rw [show (1500 : Int32) = nI 1500 from rfl, nI_leI (by omega) (by omega)]; omega), e, bd_some, lst]
    cases near t b r (k : Int)
    · rw [bI_f, if_pos rfl, if_neg (by decide), nI_1, ih (k + 1) n (by omega) (by omega)]
    · rw [bI_t, if_neg (by decide), if_pos rfl]
theorem c_radius (h : Iv σ R s t w) {b r : Nat} (hb : (b : Int) < t 2) (hr : (r : Int) < t 1) : ∀ (j lo hi hv n : Nat), lo ≤ hi → hi ≤ 1500 → hi - lo < 2 ^ j → hv + j ≤ 15 → j < n → f_X11_neededRadius_24 N R n σ (s + 40 + 5 * b) (s + 34 + r) (nI lo) (nI hi) (nI hv) = some (.inl (nI (lst (fun q => near t b r (q : Int)) lo (hi - lo))), σ) := by
  have hO := h.tok
  intro j
  induction j with
  | zero =>
    intro lo hi hv n h1 h2 h3 h4 h5
    obtain ⟨n, rfl⟩ : ∃ q, n = q + 1 := ⟨n - 1, by omega⟩
    rw [f_X11_neededRadius_24, if_neg (by rw [show (16 : Int32) = nI 16 from rfl, nI_leI (by omega) (by omega)]; omega), if_pos ((nI_leI (by omega) (by omega)).mpr (by omega)), show hi - lo = 0 by omega]
    rfl
  | succ j ih =>
    intro lo hi hv n h1 h2 h3 h4 h5
    obtain ⟨n, rfl⟩ : ∃ q, n = q + 1 := ⟨n - 1, by omega⟩
    rw [f_X11_neededRadius_24, if_neg (by rw [show (16 : Int32) = nI 16 from rfl, nI_leI (by omega) (by omega)]; omega)]
    by_cases c : hi ≤ lo
    · rw [if_pos ((nI_leI (by omega) (by omega)).mpr c), show hi - lo = 0 by omega]
      rfl
    · rw [if_neg (fun q => c ((nI_leI (by omega) (by omega)).mp q))]
      have em : (nI lo + nI hi) / (2 : Int32) = nI ((lo + hi) / 2) := by
        rw [nI_add, iI_nat, show (2 : Int32) = iI 2 from rfl, iI_div (by omega) (by omega), iI_nat]
        congr 1
      have e := c_comesWithin (N := N) (R := R) (σ := σ) (o := s + 34 + r) hO hb hr (h.cq.2.2.2.1 r hr) (rad := (((lo + hi) / 2 : Nat) : Int)) (by omega)
      rw [← iI_nat] at e
      have h2p : 2 ^ (j + 1) = 2 ^ j + 2 ^ j := by rw [Nat.pow_succ]; omega
      rw [em, (h.cq.2.2.2.2 b hb).1, (h.cq.2.2.2.2 b hb).2.1, e, bd_some]
      dsimp only [f_X11_neededRadius_78]
      rw [nI_1 hv]
      generalize hmid : (lo + hi) / 2 = mid at *
      by_cases cp : near t b r (mid : Int) = true
      · rw [cp, bI_t, if_neg (by decide), ih lo mid (hv + 1) n (by omega) (by omega) (by omega) (by omega) (by omega)]
        have := lst_t (fun q => near t b r (q : Int)) (mid - lo) (hi - mid - 1) lo (by rw [show lo + (mid - lo) = mid by omega]; exact cp)
        rw [show mid - lo + (hi - mid - 1 + 1) = hi - lo by omega] at this
        rw [this]
      · have cf : near t b r (mid : Int) = false := by cases hz : near t b r (mid : Int); rfl; exact absurd hz cp
        rw [cf, bI_f, if_pos rfl, nI_1 mid, ih (mid + 1) hi (hv + 1) n (by omega) (by omega) (by omega) (by omega) (by omega)]
        have := lst_f (fun q => near t b r (q : Int)) (mid + 1 - lo) (hi - (mid + 1)) lo (fun q h6 h7 => by
          cases hz : near t b r (q : Int)
          · rfl
          · exact absurd (nearX_mono (r1 := (q : Int)) (r2 := (mid : Int)) (by omega) hz) cp)
        rw [show mid + 1 - lo + (hi - (mid + 1)) = hi - lo by omega, show lo + (mid + 1 - lo) = mid + 1 by omega] at this
        rw [this]
end MS

theorem ag_17 {N : Nat} (hN : 2000 ≤ N) : Ag_17 N Inv := by
  intro σ R a1 hI
  obtain ⟨s, t, w, h⟩ := hI
  have hR := h.ro
  have hO := h.tok
  have hT := h.tv
  have hW := h.wv
  have q1 : Same σ (up σ 178 0 0) := same_up (by unfold Sc; omega)
  have hT1 := hT.same q1
  have hW1 := hW.same q1
  have h1 := h.same q1
  by_cases c1 : 0 ≤ a1.toInt ∧ a1.toInt < t 2
  rotate_left
  · refine ⟨.inr 0, σ, 0, up (up σ 178 0 0) 178 0 1, ?_, ?_, ⟨s, t, w, h1.same (same_up (by unfold Sc; omega))⟩, fun v e => (by cases e), fun q e => (by cases e; first | exact ⟨rfl, up_th⟩ | exact Or.inl ⟨rfl, up_th⟩ | exact Or.inr ⟨rfl, up_th⟩ | exact Or.inr (Or.inl ⟨rfl, up_th⟩) | exact Or.inr (Or.inr ⟨rfl, up_th⟩))⟩
    · unfold f_X11_mostShaken
      rw [c_bl_bad h c1, bdX_inr]
    · unfold f_X12_mostShaken
      rw [sq_eq, m_bl_bad hR hT1 hO c1, bd_some, if_neg (by decide)]
      try rfl
  obtain ⟨b, rfl, e1⟩ := i32_nI (by omega) c1.2
  have l1 : (b : Int) < t 2 := by omega
  refine ⟨.inl (iI (lp (msS t w b) 0 (nN t) (-1))), σ, iI (lp (msS t w b) 0 (nN t) (-1)), up σ 178 0 0, ?_, ?_, ⟨s, t, w, h1⟩, fun v e => (by cases e; exact ⟨by first | exact up_th | (simp only [up_th]), rfl⟩), fun q e => (by cases e)⟩
  · unfold f_X11_mostShaken
    rw [c_bl_ok h l1, bdX_inl]
    exact c_mostS h l1 (nN t) 0 N (-1) (by omega) (by have := nN_c hO; omega) (by omega)
  · unfold f_X12_mostShaken
    rw [sq_eq, m_bl_ok hR hT1 hO l1, bd_some, if_pos rfl]
    exact m_mostS hN hR hT1 hW1 hO h.wok l1 (nN t) 0 N (-1) (by omega) (by have := nN_c hO; omega) (by omega)
theorem ag_15 {N : Nat} (hN : 2000 ≤ N) : Ag_15 N Inv := by
  intro σ R a1 hI
  obtain ⟨s, t, w, h⟩ := hI
  have hR := h.ro
  have hO := h.tok
  have hT := h.tv
  have hW := h.wv
  have q1 : Same σ (up σ 178 0 0) := same_up (by unfold Sc; omega)
  have hT1 := hT.same q1
  have hW1 := hW.same q1
  have h1 := h.same q1
  by_cases c1 : 0 ≤ a1.toInt ∧ a1.toInt < t 2
  rotate_left
  · refine ⟨.inr 0, σ, 0, up (up σ 178 0 0) 178 0 1, ?_, ?_, ⟨s, t, w, h1.same (same_up (by unfold Sc; omega))⟩, fun v e => (by cases e), fun q e => (by cases e; first | exact ⟨rfl, up_th⟩ | exact Or.inl ⟨rfl, up_th⟩ | exact Or.inr ⟨rfl, up_th⟩ | exact Or.inr (Or.inl ⟨rfl, up_th⟩) | exact Or.inr (Or.inr ⟨rfl, up_th⟩))⟩
    · unfold f_X11_windowStart
      rw [c_bl_bad h c1, bdX_inr]
    · unfold f_X12_windowStart
      rw [sq_eq, m_bl_bad hR hT1 hO c1, bd_some, if_neg (by decide)]
      try rfl
  obtain ⟨b, rfl, e1⟩ := i32_nI (by omega) c1.2
  have l1 : (b : Int) < t 2 := by omega
  refine ⟨.inl (iI (wst t w b)), σ, iI (wst t w b), up σ 178 0 0, ?_, ?_, ⟨s, t, w, h1⟩, fun v e => (by cases e; exact ⟨by first | exact up_th | (simp only [up_th]), rfl⟩), fun q e => (by cases e)⟩
  · unfold f_X11_windowStart
    rw [c_bl_ok h l1, bdX_inl]
    rw [(h.cw b l1).2.1]
  · unfold f_X12_windowStart
    rw [sq_eq, m_bl_ok hR hT1 hO l1, bd_some, if_pos rfl]
    rw [m_window hN hR hT1 hW1 hO h.wok l1, bd_some]
    exact m_wst hN hR hT1 hW1 hO h.wok l1 (nC t b) 0 N (-1) (by omega) (by have := nC_c hO l1; omega) (by omega)
theorem ag_19 {N : Nat} (hN : 2000 ≤ N) : Ag_19 N Inv := by
  intro σ R a1 a2 hI
  obtain ⟨s, t, w, h⟩ := hI
  have hR := h.ro
  have hO := h.tok
  have hT := h.tv
  have hW := h.wv
  have q1 : Same σ (up σ 178 0 0) := same_up (by unfold Sc; omega)
  have hT1 := hT.same q1
  have hW1 := hW.same q1
  have h1 := h.same q1
  by_cases c1 : 0 ≤ a1.toInt ∧ a1.toInt < t 2
  rotate_left
  · refine ⟨.inr 0, σ, 0, up (up σ 178 0 0) 178 0 1, ?_, ?_, ⟨s, t, w, h1.same (same_up (by unfold Sc; omega))⟩, fun v e => (by cases e), fun q e => (by cases e; first | exact ⟨rfl, up_th⟩ | exact Or.inl ⟨rfl, up_th⟩ | exact Or.inr ⟨rfl, up_th⟩ | exact Or.inr (Or.inl ⟨rfl, up_th⟩) | exact Or.inr (Or.inr ⟨rfl, up_th⟩))⟩
    · unfold f_X11_neededGap
      rw [c_bl_bad h c1, bdX_inr]
    · unfold f_X12_neededGap
      rw [sq_eq, m_bl_bad hR hT1 hO c1, bd_some, if_neg (by decide)]
      try rfl
  obtain ⟨b, rfl, e1⟩ := i32_nI (by omega) c1.2
  have l1 : (b : Int) < t 2 := by omega
  by_cases c2 : 0 ≤ a2.toInt ∧ a2.toInt < t 0
  rotate_left
  · refine ⟨.inr 0, σ, 0, up (up σ 178 0 0) 178 0 1, ?_, ?_, ⟨s, t, w, h1.same (same_up (by unfold Sc; omega))⟩, fun v e => (by cases e), fun q e => (by cases e; first | exact ⟨rfl, up_th⟩ | exact Or.inl ⟨rfl, up_th⟩ | exact Or.inr ⟨rfl, up_th⟩ | exact Or.inr (Or.inl ⟨rfl, up_th⟩) | exact Or.inr (Or.inr ⟨rfl, up_th⟩))⟩
    · unfold f_X11_neededGap
      rw [c_bl_ok h l1, bdX_inl, c_nb_bad h c2, bdX_inr]
    · unfold f_X12_neededGap
      rw [sq_eq, m_bl_ok hR hT1 hO l1, bd_some, if_pos rfl, m_nb_bad hR hT1 hO c2, bd_some, if_neg (by decide)]
      try rfl
  obtain ⟨q, rfl, e2⟩ := i32_nI (by omega) c2.2
  have l2 : (q : Int) < t 0 := by omega
  refine ⟨.inl (iI (ngp t b q 0 201)), σ, iI (ngp t b q 0 201), up σ 178 0 0, ?_, ?_, ⟨s, t, w, h1⟩, fun v e => (by cases e; exact ⟨by first | exact up_th | (simp only [up_th]), rfl⟩), fun q e => (by cases e)⟩
  · unfold f_X11_neededGap
    rw [c_bl_ok h l1, bdX_inl, c_nb_ok h l2, bdX_inl]
    rw [(h.cq.2.2.1 q l2).2.2.1]
    exact c_ngp hN h l1 l2 201 0 N (by decide) (by omega)
  · unfold f_X12_neededGap
    rw [sq_eq, m_bl_ok hR hT1 hO l1, bd_some, if_pos rfl, m_nb_ok hR hT1 hO l2, bd_some, if_pos rfl]
    exact m_ngp hN hR hT1 hO l1 l2 201 0 N (by decide) (by omega)
theorem ag_20 {N : Nat} (hN : 2000 ≤ N) : Ag_20 N Inv := by
  intro σ R a1 a2 a3 hI
  obtain ⟨s, t, w, h⟩ := hI
  have hR := h.ro
  have hO := h.tok
  have hT := h.tv
  have hW := h.wv
  have q1 : Same σ (up σ 178 0 0) := same_up (by unfold Sc; omega)
  have hT1 := hT.same q1
  have hW1 := hW.same q1
  have h1 := h.same q1
  by_cases c1 : 0 ≤ a1.toInt ∧ a1.toInt < t 2
  rotate_left
  · refine ⟨.inr 0, σ, 0, up (up σ 178 0 0) 178 0 1, ?_, ?_, ⟨s, t, w, h1.same (same_up (by unfold Sc; omega))⟩, fun v e => (by cases e), fun q e => (by cases e; first | exact ⟨rfl, up_th⟩ | exact Or.inl ⟨rfl, up_th⟩ | exact Or.inr ⟨rfl, up_th⟩ | exact Or.inr (Or.inl ⟨rfl, up_th⟩) | exact Or.inr (Or.inr ⟨rfl, up_th⟩))⟩
    · unfold f_X11_vibrationIfGap
      rw [c_bl_bad h c1, bdX_inr]
    · unfold f_X12_vibrationIfGap
      rw [sq_eq, m_bl_bad hR hT1 hO c1, bd_some, if_neg (by decide)]
      try rfl
  obtain ⟨b, rfl, e1⟩ := i32_nI (by omega) c1.2
  have l1 : (b : Int) < t 2 := by omega
  by_cases c2 : 0 ≤ a2.toInt ∧ a2.toInt < t 0
  rotate_left
  · refine ⟨.inr 0, σ, 0, up (up σ 178 0 0) 178 0 1, ?_, ?_, ⟨s, t, w, h1.same (same_up (by unfold Sc; omega))⟩, fun v e => (by cases e), fun q e => (by cases e; first | exact ⟨rfl, up_th⟩ | exact Or.inl ⟨rfl, up_th⟩ | exact Or.inr ⟨rfl, up_th⟩ | exact Or.inr (Or.inl ⟨rfl, up_th⟩) | exact Or.inr (Or.inr ⟨rfl, up_th⟩))⟩
    · unfold f_X11_vibrationIfGap
      rw [c_bl_ok h l1, bdX_inl, c_nb_bad h c2, bdX_inr]
    · unfold f_X12_vibrationIfGap
      rw [sq_eq, m_bl_ok hR hT1 hO l1, bd_some, if_pos rfl, m_nb_bad hR hT1 hO c2, bd_some, if_neg (by decide)]
      try rfl
  obtain ⟨q, rfl, e2⟩ := i32_nI (by omega) c2.2
  have l2 : (q : Int) < t 0 := by omega
  by_cases c3 : 0 ≤ a3.toInt ∧ a3.toInt ≤ 800
  rotate_left
  · refine ⟨.inr 1, σ, 0, up (up σ 178 0 0) 178 0 2, ?_, ?_, ⟨s, t, w, h1.same (same_up (by unfold Sc; omega))⟩, fun v e => (by cases e), fun q e => (by cases e; first | exact ⟨rfl, up_th⟩ | exact Or.inl ⟨rfl, up_th⟩ | exact Or.inr ⟨rfl, up_th⟩ | exact Or.inr (Or.inl ⟨rfl, up_th⟩) | exact Or.inr (Or.inr ⟨rfl, up_th⟩))⟩
    · unfold f_X11_vibrationIfGap
      rw [c_bl_ok h l1, bdX_inl, c_nb_ok h l2, bdX_inl, c_needRange, if_neg (show ¬ ((0 : Int32).toInt ≤ a3.toInt ∧ a3.toInt ≤ (800 : Int32).toInt) from c3), bdX_inr]
    · unfold f_X12_vibrationIfGap
      rw [sq_eq, m_bl_ok hR hT1 hO l1, bd_some, if_pos rfl, m_nb_ok hR hT1 hO l2, bd_some, if_pos rfl, m_in, bd_some, decide_eq_false (show ¬ ((0 : Int32).toInt ≤ a3.toInt ∧ a3.toInt ≤ (800 : Int32).toInt) from c3), bI_f, if_pos rfl, m_throws1, bd_some, if_neg (by decide)]
      try rfl
  obtain ⟨g, rfl, e3⟩ := i32_nI (x := a3) (n := 801) (by omega) (by omega)
  have l3 : (g : Int) < 801 := by omega
  refine ⟨.inl (iI (shG t b q (winG t b (fun c => ((g * c : Nat) : Int))))), σ, iI (shG t b q (winG t b (fun c => ((g * c : Nat) : Int)))), up σ 178 0 0, ?_, ?_, ⟨s, t, w, h1⟩, fun v e => (by cases e; exact ⟨by first | exact up_th | (simp only [up_th]), rfl⟩), fun q e => (by cases e)⟩
  · unfold f_X11_vibrationIfGap
    rw [c_bl_ok h l1, bdX_inl, c_nb_ok h l2, bdX_inl, c_needRange, if_pos (show (0 : Int32).toInt ≤ Int32.toInt (nI g) ∧ Int32.toInt (nI g) ≤ (800 : Int32).toInt from c3), bdX_inl]
    rw [c_windowIfGap hN h l1 (by omega), bd_some, c_shakes h l1 l2 (winG_r hO l1 _), bd_some]
  · unfold f_X12_vibrationIfGap
    rw [sq_eq, m_bl_ok hR hT1 hO l1, bd_some, if_pos rfl, m_nb_ok hR hT1 hO l2, bd_some, if_pos rfl, m_in, bd_some, decide_eq_true (show (0 : Int32).toInt ≤ Int32.toInt (nI g) ∧ Int32.toInt (nI g) ≤ (800 : Int32).toInt from c3), bI_t, if_neg (by decide), m_throws0, bd_some, if_pos rfl]
    rw [m_shakesG hN hR hT1 hO (by omega) l1 l2, bd_some]
theorem ag_25 {N : Nat} (hN : 2000 ≤ N) : Ag_25 N Inv := by
  intro σ R a1 a2 hI
  obtain ⟨s, t, w, h⟩ := hI
  have hR := h.ro
  have hO := h.tok
  have hT := h.tv
  have hW := h.wv
  have q1 : Same σ (up σ 178 0 0) := same_up (by unfold Sc; omega)
  have hT1 := hT.same q1
  have hW1 := hW.same q1
  have h1 := h.same q1
  by_cases c1 : 0 ≤ a1.toInt ∧ a1.toInt < t 2
  rotate_left
  · refine ⟨.inr 0, σ, 0, up (up σ 178 0 0) 178 0 1, ?_, ?_, ⟨s, t, w, h1.same (same_up (by unfold Sc; omega))⟩, fun v e => (by cases e), fun q e => (by cases e; first | exact ⟨rfl, up_th⟩ | exact Or.inl ⟨rfl, up_th⟩ | exact Or.inr ⟨rfl, up_th⟩ | exact Or.inr (Or.inl ⟨rfl, up_th⟩) | exact Or.inr (Or.inr ⟨rfl, up_th⟩))⟩
    · unfold f_X11_neededRadius
      rw [c_bl_bad h c1, bdX_inr]
    · unfold f_X12_neededRadius
      rw [sq_eq, m_bl_bad hR hT1 hO c1, bd_some, if_neg (by decide)]
      try rfl
  obtain ⟨b, rfl, e1⟩ := i32_nI (by omega) c1.2
  have l1 : (b : Int) < t 2 := by omega
  by_cases c2 : 0 ≤ a2.toInt ∧ a2.toInt < t 1
  rotate_left
  · refine ⟨.inr 0, σ, 0, up (up σ 178 0 0) 178 0 1, ?_, ?_, ⟨s, t, w, h1.same (same_up (by unfold Sc; omega))⟩, fun v e => (by cases e), fun q e => (by cases e; first | exact ⟨rfl, up_th⟩ | exact Or.inl ⟨rfl, up_th⟩ | exact Or.inr ⟨rfl, up_th⟩ | exact Or.inr (Or.inl ⟨rfl, up_th⟩) | exact Or.inr (Or.inr ⟨rfl, up_th⟩))⟩
    · unfold f_X11_neededRadius
      rw [c_bl_ok h l1, bdX_inl, c_rd_bad h c2, bdX_inr]
    · unfold f_X12_neededRadius
      rw [sq_eq, m_bl_ok hR hT1 hO l1, bd_some, if_pos rfl, m_rd_bad hR hT1 hO c2, bd_some, if_neg (by decide)]
      try rfl
  obtain ⟨r, rfl, e2⟩ := i32_nI (by omega) c2.2
  have l2 : (r : Int) < t 1 := by omega
  refine ⟨.inl (nI (lst (fun q => near t b r (q : Int)) 0 1500)), σ, nI (lst (fun q => near t b r (q : Int)) 0 1500), up σ 178 0 0, ?_, ?_, ⟨s, t, w, h1⟩, fun v e => (by cases e; exact ⟨by first | exact up_th | (simp only [up_th]), rfl⟩), fun q e => (by cases e)⟩
  · unfold f_X11_neededRadius
    rw [c_bl_ok h l1, bdX_inl, c_rd_ok h l2, bdX_inl]
    exact c_radius h l1 l2 11 0 1500 0 N (by decide) (by decide) (by decide) (by decide) (by omega)
  · unfold f_X12_neededRadius
    rw [sq_eq, m_bl_ok hR hT1 hO l1, bd_some, if_pos rfl, m_rd_ok hR hT1 hO l2, bd_some, if_pos rfl]
    exact m_radius hR hT1 hO l1 l2 1500 0 N (by decide) (by omega)
