/-! ===== what the class works out of the delays ===== -/
section WEIGH
variable {N : Nat} {R : Nat → Nat → Nat} {s : Nat} {t w : Nat → Int} {σ : SI}
/-- the cells that weighing a blast reads -/
def Wc (σ : SI) (s : Nat) (t w : Nat → Int) (b : Nat) : Prop := σ s 9 = iI (t 0) ∧ (∀ n : Nat, (n : Int) < t 0 → σ (s + 10 + 3 * n) 4 = iI (t (81 + 18 * n + 8))) ∧ σ (s + 40 + 5 * b) 7 = iI (t (285 + 22 * b + 9)) ∧ (∀ c : Nat, c < nC t b → σ (s + 41 + 5 * b) c = iI (sz t b c)) ∧ (∀ c : Nat, c < nC t b → σ (s + 42 + 5 * b) c = iI (dl w b c)) ∧ (∀ n : Nat, (n : Int) < t 0 → σ (s + 43 + 5 * b) n = iI (dist t b n)) ∧ ∀ c : Nat, c < nC t b → 0 ≤ dl w b c ∧ dl w b c ≤ 9999
theorem Wc.fr (hO : TOk t) {b : Nat} (h : Wc σ s t w b) {σ' : SI} (q : ∀ o k, o ≠ s + 40 + 5 * b ∨ k < 8 → σ' o k = σ o k) (hb : (b : Int) < t 2) : Wc σ' s t w b := by
  obtain ⟨h1, h2, h3, h4, h5, h6, h7⟩ := h
  have h0 := hO.1
  refine ⟨(q _ _ (by omega)).trans h1, fun n hn => (q _ _ (by omega)).trans (h2 n hn), (q _ _ (by omega)).trans h3, fun c hc => (q _ _ (by omega)).trans (h4 c hc), fun c hc => (q _ _ (by omega)).trans (h5 c hc), fun n hn => (q _ _ (by omega)).trans (h6 n hn), h7⟩
theorem c_sfd (hR : RO R s) (hO : TOk t) {b : Nat} (hb : (b : Int) < t 2) (W : Wc σ s t w b) {d : Int} (hd : 0 ≤ d ∧ d ≤ 9999) : ∀ (m k n : Nat) (acc : Int), k + m = nC t b → m < n → f_X0_sumFromDelay_4 N R n σ (s + 40 + 5 * b) (iI d) (iI acc) (nI k) = some (iI (lp (fun c a => a + (if d ≤ dl w b c ∧ dl w b c ≤ d + 7 then sz t b c else 0)) k m acc), σ) := by
  have hn := nC_c hO hb
  have h2 := hO.2.2.1
  obtain ⟨-, -, w3, w4, w5, -, w7⟩ := W
  intro m
  induction m with
  | zero =>
    intro k n acc hk hm
    obtain ⟨n, rfl⟩ : ∃ q, n = q + 1 := ⟨n - 1, by omega⟩
    rw [f_X0_sumFromDelay_4, w3, if_pos ((iI_leN (by omega)).mpr (by omega)), lp_0]
  | succ m ih =>
    intro k n acc hk hm
    obtain ⟨n, rfl⟩ : ∃ q, n = q + 1 := ⟨n - 1, by omega⟩
    have hdk := w7 k (by omega)
    rw [f_X0_sumFromDelay_4, w3, if_neg (fun q => absurd ((iI_leN (by omega)).mp q) (by omega)), ck_nI (by omega) (by decide), ck_nI (by omega) (by decide), ck_nI (by omega) (by decide), hR.blA b (by omega) 1 (by decide), hR.blA b (by omega) 0 (by decide), nI_clamp (by omega), show s + 41 + 5 * b + 1 = s + 42 + 5 * b by omega, show s + 41 + 5 * b + 0 = s + 41 + 5 * b by omega, w5 k (by omega), w4 k (by omega), lp_s]
    dsimp only [f_X0_sumFromDelay_44]
    rw [nI_1, show (7 : Int32) = iI 7 from rfl, iI_add, iI_add]
    by_cases c1 : dl w b k < d
    · rw [if_pos ((iI_lt (by omega)).mpr c1), ih (k + 1) n _ (by omega) (by omega), if_neg (fun q => by omega), Int.add_zero]
    · rw [if_neg (fun q => c1 ((iI_lt (by omega)).mp q))]
      by_cases c2 : d + 7 < dl w b k
      · rw [if_pos ((iI_lt (by omega)).mpr c2), ih (k + 1) n _ (by omega) (by omega), if_neg (fun q => by omega), Int.add_zero]
      · rw [if_neg (fun q => c2 ((iI_lt (by omega)).mp q)), ih (k + 1) n _ (by omega) (by omega), if_pos (by omega)]
/-- the class's step: the greatest window so far, and the least delay with it -/
def mwS (t w : Nat → Int) (b : Nat) : Nat → Int × Int → Int × Int := fun c a => if a.1 < fromD t w b (dl w b c) ∨ fromD t w b (dl w b c) = a.1 ∧ dl w b c < a.2 then (fromD t w b (dl w b c), dl w b c) else a
theorem c_mw (hN : 2000 ≤ N) (hR : RO R s) (hO : TOk t) {b : Nat} (hb : (b : Int) < t 2) : ∀ (m k n : Nat) (a : Int × Int) (σ : SI), k + m = nC t b → m < n → Wc σ s t w b → σ (s + 40 + 5 * b) 8 = iI a.1 → σ (s + 40 + 5 * b) 9 = iI a.2 → (0 ≤ a.1 ∧ a.1 ≤ 11988) → (0 ≤ a.2 ∧ a.2 ≤ 9999) → ∃ σ', f_X0_measureWindow_12 N R n σ (s + 40 + 5 * b) (nI k) = some ((), σ') ∧ σ' (s + 40 + 5 * b) 8 = iI (lp (mwS t w b) k m a).1 ∧ σ' (s + 40 + 5 * b) 9 = iI (lp (mwS t w b) k m a).2 ∧ ∀ o k, o ≠ s + 40 + 5 * b ∨ (k ≠ 8 ∧ k ≠ 9) → σ' o k = σ o k := by
  have hn := nC_c hO hb
  have h2 := hO.2.2.1
  intro m
  induction m with
  | zero =>
    intro k n a σ hk hm W e8 e9 r8 r9
    obtain ⟨n, rfl⟩ : ∃ q, n = q + 1 := ⟨n - 1, by omega⟩
    refine ⟨σ, ?_, e8, e9, fun _ _ _ => rfl⟩
    rw [f_X0_measureWindow_12, W.2.2.1, if_pos ((iI_leN (by omega)).mpr (by omega))]
  | succ m ih =>
    intro k n a σ hk hm W e8 e9 r8 r9
    obtain ⟨n, rfl⟩ : ∃ q, n = q + 1 := ⟨n - 1, by omega⟩
    have hdk := W.2.2.2.2.2.2 k (by omega)
    have hf := fromG_r hO hb (dl w b) (dl w b k)
    rw [← fromD_G] at hf
    have es : f_X0_sumFromDelay N R σ (s + 40 + 5 * b) (iI (dl w b k)) = some (iI (fromD t w b (dl w b k)), σ) := by
      unfold f_X0_sumFromDelay
      exact c_sfd hR hO hb W hdk (nC t b) 0 N 0 (by omega) (by omega)
    have eu : up σ (s + 40 + 5 * b) 8 (iI (fromD t w b (dl w b k))) (s + 42 + 5 * b) k = iI (dl w b k) := (if_neg (by omega)).trans (W.2.2.2.2.1 k (by omega))
    have W2 : Wc (up (up σ (s + 40 + 5 * b) 8 (iI (fromD t w b (dl w b k)))) (s + 40 + 5 * b) 9 (iI (dl w b k))) s t w b := W.fr hO (fun o k q => by
      unfold up
      rw [if_neg (by omega), if_neg (by omega)]) hb
    obtain ⟨σ1, g1, g2, g3, g4⟩ := ih (k + 1) n (fromD t w b (dl w b k), dl w b k) _ (by omega) (by omega) W2 (by
      unfold up
      rw [if_neg (by omega), if_pos ⟨rfl, rfl⟩]) up_th hf hdk
    obtain ⟨σ2, i1, i2, i3, i4⟩ := ih (k + 1) n a σ (by omega) (by omega) W e8 e9 r8 r9
    have hrow : f_X0_measureWindow_12 N R (n + 1) σ (s + 40 + 5 * b) (nI k) = if a.1 < fromD t w b (dl w b k) ∨ fromD t w b (dl w b k) = a.1 ∧ dl w b k < a.2 then f_X0_measureWindow_12 N R n (up (up σ (s + 40 + 5 * b) 8 (iI (fromD t w b (dl w b k)))) (s + 40 + 5 * b) 9 (iI (dl w b k))) (s + 40 + 5 * b) (nI (k + 1)) else f_X0_measureWindow_12 N R n σ (s + 40 + 5 * b) (nI (k + 1)) := by
      rw [f_X0_measureWindow_12, W.2.2.1, if_neg (fun q => absurd ((iI_leN (by omega)).mp q) (by omega)), ck_nI (by omega) (by decide), hR.blA b (by omega) 1 (by decide), nI_clamp (by omega), show s + 41 + 5 * b + 1 = s + 42 + 5 * b by omega, W.2.2.2.2.1 k (by omega), es, bd_some]
      dsimp only [f_X0_measureWindow_60, f_X0_measureWindow_75]
      rw [sq_eq, ck_nI (by omega) (by decide), sq_eq, ck_nI (by omega) (by decide), hR.blA b (by omega) 1 (by decide), nI_clamp (by omega), show s + 41 + 5 * b + 1 = s + 42 + 5 * b by omega, eu, W.2.2.2.2.1 k (by omega), nI_1, e8, e9]
      by_cases c1 : a.1 < fromD t w b (dl w b k)
      · rw [if_pos ((iI_lt (by omega)).mpr c1), if_pos (Or.inl c1)]
      · rw [if_neg (fun q => c1 ((iI_lt (by omega)).mp q))]
        by_cases c2 : fromD t w b (dl w b k) = a.1
        · rw [if_pos (by rw [c2])]
          by_cases c3 : a.2 ≤ dl w b k
          · rw [if_pos ((iI_le (by omega)).mpr c3), if_neg (fun q => by omega)]
          · rw [if_neg (fun q => c3 ((iI_le (by omega)).mp q)), if_pos (Or.inr ⟨c2, by omega⟩)]
        · rw [if_neg (by rw [iI_eq (by omega)]; exact c2), if_neg (fun q => by omega)]
    rw [hrow, lp_s]
    by_cases c : a.1 < fromD t w b (dl w b k) ∨ fromD t w b (dl w b k) = a.1 ∧ dl w b k < a.2
    · have e : mwS t w b k a = (fromD t w b (dl w b k), dl w b k) := if_pos c
      rw [if_pos c, e]
      refine ⟨σ1, g1, g2, g3, fun o j q => (g4 o j q).trans ?_⟩
      unfold up
      rw [if_neg (by omega), if_neg (by omega)]
    · have e : mwS t w b k a = a := if_neg c
      rw [if_neg c, e]
      exact ⟨σ2, i1, i2, i3, i4⟩
theorem fromD_1 (hO : TOk t) {b c : Nat} (hb : (b : Int) < t 2) (hc : c < nC t b) : 1 ≤ fromD t w b (dl w b c) := by
  unfold fromD
  obtain ⟨r, hr⟩ : ∃ r, nC t b = c + (r + 1) := ⟨nC t b - c - 1, by omega⟩
  have hs : ∀ j, j < nC t b → 1 ≤ sz t b j := fun j hj => (sz_r hO hb hj).1
  have h0 : 0 ≤ lp (fun c' a => a + (if dl w b c ≤ dl w b c' ∧ dl w b c' ≤ dl w b c + 7 then sz t b c' else 0)) 0 c 0 := lp_inv (P := fun a => 0 ≤ a) _ _ _ (by omega) (fun j a _ h2 ha => by
    have := hs j (by omega)
    split <;> omega)
  rw [hr, lp_add, lp_s]
  refine lp_inv (P := fun a => 1 ≤ a) _ _ _ ?_ (fun j a _ h2 ha => ?_)
  · have := hs c hc
    rw [show 0 + c = c by omega, if_pos (by omega)]
    omega
  · have := hs j (by omega)
    split <;> omega
theorem mw_eq (hO : TOk t) {b : Nat} (hb : (b : Int) < t 2) (hd : ∀ c : Nat, c < nC t b → 0 ≤ dl w b c ∧ dl w b c ≤ 9999) : (lp (mwS t w b) 0 (nC t b) (0, 0)).1 = win t w b ∧ (lp (mwS t w b) 0 (nC t b) (0, 0)).2 = wst t w b := by
  have hn := nC_c hO hb
  have hF : ∀ i, i < nC t b → 1 ≤ fromD t w b (dl w b i) := fun i hi => fromD_1 hO hb hi
  have p := lp_invI (P := fun j (a : Int × Int) => (∀ i, i < j → fromD t w b (dl w b i) ≤ a.1) ∧ (∀ i, i < j → fromD t w b (dl w b i) = a.1 → a.2 ≤ dl w b i) ∧ (j = 0 ∧ a.1 = 0 ∨ ∃ i, i < j ∧ fromD t w b (dl w b i) = a.1 ∧ dl w b i = a.2)) (f := mwS t w b) (nC t b) 0 (0, 0) ⟨fun i hi => by omega, fun i hi => by omega, Or.inl ⟨rfl, rfl⟩⟩ (fun j a _ h2 ⟨p1, p2, p3⟩ => by
    have hj := hF j (by omega)
    unfold mwS
    by_cases c : a.1 < fromD t w b (dl w b j) ∨ fromD t w b (dl w b j) = a.1 ∧ dl w b j < a.2
    · rw [if_pos c]
      dsimp only
      refine ⟨fun i hi => ?_, fun i hi q => ?_, Or.inr ⟨j, by omega, rfl, rfl⟩⟩
      · rcases (show i < j ∨ i = j by omega) with g | rfl
        · have := p1 i g
          omega
        · exact Int.le_refl _
      · rcases (show i < j ∨ i = j by omega) with g | rfl
        · have := p1 i g
          rcases c with c | c
          · omega
          · have := p2 i g (by omega)
            omega
        · exact Int.le_refl _
    · rw [if_neg c]
      refine ⟨fun i hi => ?_, fun i hi q => ?_, ?_⟩
      · rcases (show i < j ∨ i = j by omega) with g | rfl
        · exact p1 i g
        · omega
      · rcases (show i < j ∨ i = j by omega) with g | rfl
        · exact p2 i g q
        · omega
      · rcases p3 with p3 | ⟨i, i1, i2, i3⟩
        · omega
        · exact Or.inr ⟨i, by omega, i2, i3⟩)
  have q := lp_invI (P := fun j (a : Int) => (∀ i, i < j → fromD t w b (dl w b i) ≤ a) ∧ (j = 0 ∧ a = 0 ∨ ∃ i, i < j ∧ fromD t w b (dl w b i) = a)) (f := fun c a => mx a (fromD t w b (dl w b c))) (nC t b) 0 0 ⟨fun i hi => by omega, Or.inl ⟨rfl, rfl⟩⟩ (fun j a _ h2 ⟨p1, p3⟩ => by
    have hj := hF j (by omega)
    unfold mx
    by_cases c : a < fromD t w b (dl w b j)
    · rw [if_pos c]
      refine ⟨fun i hi => ?_, Or.inr ⟨j, by omega, rfl⟩⟩
      rcases (show i < j ∨ i = j by omega) with g | rfl
      · have := p1 i g
        omega
      · exact Int.le_refl _
    · rw [if_neg c]
      refine ⟨fun i hi => ?_, ?_⟩
      · rcases (show i < j ∨ i = j by omega) with g | rfl
        · exact p1 i g
        · omega
      · rcases p3 with p3 | ⟨i, i1, i2⟩
        · omega
        · exact Or.inr ⟨i, by omega, i2⟩)
  rw [show lp (fun c a => mx a (fromD t w b (dl w b c))) 0 (nC t b) 0 = win t w b from rfl] at q
  have r := lp_invI (P := fun j (a : Int) => (a = -1 ∧ ∀ i, i < j → fromD t w b (dl w b i) ≠ win t w b) ∨ ((∃ i, i < j ∧ fromD t w b (dl w b i) = win t w b ∧ dl w b i = a) ∧ ∀ i, i < j → fromD t w b (dl w b i) = win t w b → a ≤ dl w b i)) (f := fun c a => if fromD t w b (dl w b c) = win t w b ∧ (a = -1 ∨ dl w b c < a) then dl w b c else a) (nC t b) 0 (-1) (Or.inl ⟨rfl, fun i hi => by omega⟩) (fun j a _ h2 p => by
    have hj := hd j (by omega)
    by_cases c : fromD t w b (dl w b j) = win t w b ∧ (a = -1 ∨ dl w b j < a)
    · rw [if_pos c]
      refine Or.inr ⟨⟨j, by omega, c.1, rfl⟩, fun i hi e => ?_⟩
      rcases (show i < j ∨ i = j by omega) with g | rfl
      · rcases p with ⟨p1, p2⟩ | ⟨⟨i', i1, i2, i3⟩, p2⟩
        · exact absurd e (p2 i g)
        · have := p2 i g e
          have := hd i' (by omega)
          omega
      · exact Int.le_refl _
    · rw [if_neg c]
      rcases p with ⟨p1, p2⟩ | ⟨⟨i', i1, i2, i3⟩, p2⟩
      · refine Or.inl ⟨p1, fun i hi e => ?_⟩
        rcases (show i < j ∨ i = j by omega) with g | rfl
        · exact p2 i g e
        · exact c ⟨e, Or.inl p1⟩
      · refine Or.inr ⟨⟨i', by omega, i2, i3⟩, fun i hi e => ?_⟩
        rcases (show i < j ∨ i = j by omega) with g | rfl
        · exact p2 i g e
        · have := hd i' (by omega)
          omega)
  rw [show lp (fun c a => if fromD t w b (dl w b c) = win t w b ∧ (a = -1 ∨ dl w b c < a) then dl w b c else a) 0 (nC t b) (-1) = wst t w b from rfl] at r
  rw [Nat.zero_add] at p q r
  generalize lp (mwS t w b) 0 (nC t b) (0, 0) = a at p ⊢
  obtain ⟨p1, p2, p3⟩ := p
  obtain ⟨q1, q2⟩ := q
  obtain ⟨i, i1, i2, i3⟩ : ∃ i, i < nC t b ∧ fromD t w b (dl w b i) = a.1 ∧ dl w b i = a.2 := by
    rcases p3 with p3 | p3
    · omega
    · exact p3
  obtain ⟨j, j1, j2⟩ : ∃ i, i < nC t b ∧ fromD t w b (dl w b i) = win t w b := by
    rcases q2 with q2 | q2
    · omega
    · exact q2
  have a1 := q1 i i1
  have a2 := p1 j j1
  have e1 : a.1 = win t w b := by omega
  refine ⟨e1, ?_⟩
  rcases r with ⟨r1, r2⟩ | ⟨⟨k, k1, k2, k3⟩, r2⟩
  · exact absurd j2 (r2 j j1)
  · have b1 := r2 i i1 (by omega)
    have b2 := p2 k k1 (by omega)
    omega
theorem c_measure (hN : 2000 ≤ N) (hR : RO R s) (hO : TOk t) {b : Nat} (hb : (b : Int) < t 2) (W : Wc σ s t w b) : ∃ σ', f_X0_measureWindow N R σ (s + 40 + 5 * b) = some ((), σ') ∧ σ' (s + 40 + 5 * b) 8 = iI (win t w b) ∧ σ' (s + 40 + 5 * b) 9 = iI (wst t w b) ∧ ∀ o k, o ≠ s + 40 + 5 * b ∨ (k ≠ 8 ∧ k ≠ 9) → σ' o k = σ o k := by
  have hn := nC_c hO hb
  obtain ⟨σ', g1, g2, g3, g4⟩ := c_mw hN hR hO hb (nC t b) 0 N (0, 0) (up (up σ (s + 40 + 5 * b) 8 0) (s + 40 + 5 * b) 9 0) (by omega) (by omega) (W.fr hO (fun o k q => by
    unfold up
    rw [if_neg (by omega), if_neg (by omega)]) hb) (by
    unfold up
    rw [if_neg (by omega), if_pos ⟨rfl, rfl⟩]
    rfl) (up_th.trans rfl) (by decide) (by decide)
  have e := mw_eq hO hb W.2.2.2.2.2.2
  rw [e.1] at g2
  rw [e.2] at g3
  refine ⟨σ', ?_, g2, g3, fun o k q => (g4 o k q).trans ?_⟩
  · unfold f_X0_measureWindow
    rw [sq_eq, sq_eq]
    exact g1
  · unfold up
    rw [if_neg (by omega), if_neg (by omega)]
theorem c_wg (hR : RO R s) (hO : TOk t) {b : Nat} (hb : (b : Int) < t 2) : ∀ (m k n : Nat) (acc : Int32) (σ : SI), k + m = nN t → m < n → Wc σ s t w b → σ (s + 40 + 5 * b) 8 = iI (win t w b) → σ (s + 40 + 5 * b) 10 = acc → ∃ σ', f_X9_weigh_11 N R n σ s (s + 40 + 5 * b) (nI k) = some ((), σ') ∧ σ' (s + 40 + 5 * b) 10 = bts (tst t w b) k m acc ∧ ∀ o k, o ≠ s + 40 + 5 * b ∨ k ≠ 10 → σ' o k = σ o k := by
  have hn := nN_c hO
  have h2 := hO.2.2.1
  intro m
  induction m with
  | zero =>
    intro k n acc σ hk hm W e8 e10
    obtain ⟨n, rfl⟩ : ∃ q, n = q + 1 := ⟨n - 1, by omega⟩
    refine ⟨σ, ?_, e10, fun _ _ _ => rfl⟩
    rw [f_X9_weigh_11, W.1, if_pos ((iI_leN (by omega)).mpr (by omega))]
  | succ m ih =>
    intro k n acc σ hk hm W e8 e10
    obtain ⟨n, rfl⟩ : ∃ q, n = q + 1 := ⟨n - 1, by omega⟩
    have hkn : (k : Int) < t 0 := by omega
    have hd := dist_r hO hb hkn
    have hw := winG_r hO hb (dl w b)
    rw [← win_G] at hw
    have hs := shG_r hO hb hkn hw
    rw [← shk_G] at hs
    have hl := hO.n hkn
    have hne : ¬ iI (dist t b k + 1) = 0 := by rw [show (0 : Int32) = iI 0 from rfl, iI_eq (by omega)]; omega
    have es : f_X0_shakes N R σ (s + 40 + 5 * b) (nI k) (iI (win t w b)) = some (iI (shk t w b k), σ) := by
      unfold f_X0_shakes f_X11_quotient
      rw [ck_nI (by omega) (by decide), hR.blA b (by omega) 2 (by decide), nI_clamp (by omega), show s + 41 + 5 * b + 2 = s + 43 + 5 * b by omega, W.2.2.2.2.2.1 k hkn, show (1 : Int32) = iI 1 from rfl, show (1000 : Int32) = iI 1000 from rfl, iI_add, iI_mul, if_neg hne, cd_ne hne, bd_some, iI_div (by omega) (by omega)]
      rfl
    have hrow : f_X9_weigh_11 N R (n + 1) σ s (s + 40 + 5 * b) (nI k) = if tst t w b k then f_X9_weigh_11 N R n (up σ (s + 40 + 5 * b) 10 (acc ||| ((1 : Int32) <<< (nI k &&& 31)))) s (s + 40 + 5 * b) (nI (k + 1)) else f_X9_weigh_11 N R n σ s (s + 40 + 5 * b) (nI (k + 1)) := by
      rw [f_X9_weigh_11, W.1, if_neg (fun q => absurd ((iI_leN (by omega)).mp q) (by omega)), e8, es, bd_some, ck_nI (by omega) (by decide), hR.si 0 (by decide), Nat.add_zero, hR.nb _ (by rw [nI_clamp (by omega)]; omega), nI_clamp (by omega), W.2.1 k hkn, e10]
      dsimp only [f_X9_weigh_52]
      rw [sq_eq, nI_1]
      unfold tst
      by_cases c : t (81 + 18 * k + 8) < shk t w b k
      · rw [if_neg (fun q => absurd ((iI_le (by omega)).mp q) (by omega)), decide_eq_true c, if_pos rfl]
      · rw [if_pos ((iI_le (by omega)).mpr (by omega)), decide_eq_false c, if_neg (by decide)]
    rw [hrow, bts_s]
    cases tst t w b k
    · rw [if_neg (by decide), if_neg (by decide)]
      exact ih (k + 1) n acc σ (by omega) (by omega) W e8 e10
    · rw [if_pos rfl, if_pos rfl]
      obtain ⟨σ', g1, g2, g3⟩ := ih (k + 1) n (acc ||| ((1 : Int32) <<< (nI k &&& 31))) (up σ (s + 40 + 5 * b) 10 (acc ||| ((1 : Int32) <<< (nI k &&& 31)))) (by omega) (by omega) (W.fr hO (fun o k q => by
        unfold up
        rw [if_neg (by omega)]) hb) ((if_neg (by omega)).trans e8) up_th
      refine ⟨σ', g1, g2, fun o j q => (g3 o j q).trans ?_⟩
      unfold up
      rw [if_neg (by omega)]
theorem c_weigh (hN : 2000 ≤ N) (hR : RO R s) (hO : TOk t) {b : Nat} (hb : (b : Int) < t 2) (W : Wc σ s t w b) : ∃ σ', f_X9_weigh N R σ s (s + 40 + 5 * b) = some ((), σ') ∧ σ' (s + 40 + 5 * b) 8 = iI (win t w b) ∧ σ' (s + 40 + 5 * b) 9 = iI (wst t w b) ∧ σ' (s + 40 + 5 * b) 10 = bts (tst t w b) 0 (nN t) 0 ∧ ∀ o k, o ≠ s + 40 + 5 * b ∨ (k < 8 ∨ 10 < k) → σ' o k = σ o k := by
  have hn := nN_c hO
  obtain ⟨σ1, g1, g2, g3, g4⟩ := c_measure hN hR hO hb W
  obtain ⟨σ2, i1, i2, i3⟩ := c_wg (N := N) hR hO hb (nN t) 0 N 0 (up σ1 (s + 40 + 5 * b) 10 0) (by omega) (by omega) (W.fr hO (fun o k q => by
    unfold up
    rw [if_neg (by omega)]
    exact g4 o k (by omega)) hb) ((if_neg (by omega)).trans g2) up_th
  refine ⟨σ2, ?_, (i3 _ _ (by omega)).trans ((if_neg (by omega)).trans g2), (i3 _ _ (by omega)).trans ((if_neg (by omega)).trans g3), i2, fun o k q => (i3 o k (by omega)).trans ?_⟩
  · unfold f_X9_weigh
    rw [g1, bd_some, sq_eq]
    exact i1
  · unfold up
    rw [if_neg (by omega)]
    exact g4 o k (by omega)
end WEIGH

