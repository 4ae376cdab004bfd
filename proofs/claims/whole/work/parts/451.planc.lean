/-! ===== plans: the class's search ===== -/
theorem seekU_neg {t w : Nat → Int} (hO : TOk t) : ∀ (os : List Nat) (tr : Nat → Int) (a : Int × (Nat → Int)), (a.1 = -1 → ∀ o, o < nB t → a.2 o = tms w o) → ((seekU t w os tr a).1 = -1 → ∀ o, o < nB t → (seekU t w os tr a).2 o = tms w o) := by
  intro os
  induction os with
  | nil =>
    intro tr a h
    unfold seekU leafS
    split
    · exact h
    · have := cloA_r hO tr
      intro q
      dsimp only at q
      omega
  | cons b os ih =>
    intro tr a h
    unfold seekU
    refine lp_inv (P := fun (a : Int × (Nat → Int)) => a.1 = -1 → ∀ o, o < nB t → a.2 o = tms w o) _ _ _ h (fun k x _ hk hx => ?_)
    by_cases c : why t w tr b (stA t k) = 0
    · rw [if_pos c]
      exact ih _ _ hx
    · rw [if_neg c]
      exact hx
theorem plS_eq {t w : Nat → Int} (hO : TOk t) (hW : WOk t w) : (plS t w).1 = (plU t w).1 ∧ ∀ o, o < nB t → (plS t w).2 o = (plU t w).2 o := by
  have h := plU_S hO hW
  refine ⟨h.1, fun o ho => ?_⟩
  by_cases c : (plU t w).1 = -1
  · have h2 := seekU_neg hO (opL w 0 (nB t)) (tms w) (-1, tms w) (fun _ _ _ => rfl) c o ho
    rw [show (plU t w).2 o = tms w o from h2]
    have h3 : (seekS t w (nB t) 0 (fun _ => -1) (-1, fun _ => -1)).1 = -1 := h.1.trans c
    show (if tms w o ≠ -1 then tms w o else if (seekS t w (nB t) 0 (fun _ => -1) (-1, fun _ => -1)).1 = -1 then -1 else (seekS t w (nB t) 0 (fun _ => -1) (-1, fun _ => -1)).2 o) = _
    rw [if_pos h3]
    by_cases d : tms w o = -1
    · rw [if_neg (fun q => q d), d]
    · rw [if_pos d]
  · exact h.2 c o ho
theorem opL_len (w : Nat → Int) : ∀ (m b : Nat), ((opL w b m).length : Int) + cnt (fun b => decide (tms w b ≠ -1)) b m = m := by
  intro m
  induction m with
  | zero => intro b; rfl
  | succ m ih =>
    intro b
    have h := ih (b + 1)
    unfold opL
    rw [cnt_s]
    by_cases c : tms w b = -1
    · rw [if_pos c, if_neg (by rw [decide_eq_true_eq]; exact fun q => q c), List.length_cons]
      omega
    · rw [if_neg c, if_pos (decide_eq_true c)]
      omega
section PLC
variable {N : Nat} {R : Nat → Nat → Nat} {s : Nat} {t w : Nat → Int} {σ : SI}
theorem Iv.pl (h : Iv σ R s t w) {σ' : SI} (q : ∀ o k, ¬ (o = 24 ∨ o = 25 ∨ o = 26 ∨ (o = 23 ∧ 3 ≤ k ∧ k ≤ 5)) → σ' o k = σ o k) (hp : Cp σ' t w) : Iv σ' R s t w := by
  obtain ⟨hR, hT, hW, hTo, hWo, ⟨c1, c2, c3, c4, c5⟩, hs, hd, hw, ⟨d, nx, h1, h2, h3, h4, h5, h6⟩, -, ⟨n, n1, n2, n3, n4, n5, n6⟩, ⟨x, x1, x2, x3, x4⟩⟩ := h
  have hs0 := hR.1
  have eT := hTo.1
  have eR := hTo.2.1
  have eB := hTo.2.2.1
  have ez : ∀ o j, 38 ≤ o → o ≤ 177 → σ' o j = σ o j := fun o j _ _ => q o j (by omega)
  have e0 : ∀ j, σ' s j = σ s j := fun j => ez s j (by omega) (by omega)
  have ep : ∀ j, σ' 185 j = σ 185 j := fun j => q 185 j (by omega)
  refine ⟨hR, fun k => (q 181 k (by omega)).trans (hT k), fun k => (q 183 k (by omega)).trans (hW k), hTo, hWo, ⟨?_, ?_, ?_, ?_, ?_⟩, ?_, ?_, ?_, ⟨d, nx, h1, h2, ?_, ?_, ?_, ?_⟩, hp, ⟨n, n1, ?_, ?_, ?_, ?_, ?_⟩, ⟨x, x1, ?_, ?_, ?_⟩⟩
  · simp only [e0]
    exact c1
  · intro h hh
    rw [ez (s + 8) h (by omega) (by omega), ez (s + 9) h (by omega) (by omega)]
    exact c2 h hh
  · intro n hn
    have := c3 n hn
    simp only [ez (s + 10 + 3 * n) _ (by omega) (by omega), ez (s + 11 + 3 * n) _ (by omega) (by omega), ez (s + 12 + 3 * n) _ (by omega) (by omega)]
    exact this
  · intro r hr j hj
    rw [ez (s + 34 + r) j (by omega) (by omega)]
    exact c4 r hr j hj
  · intro b hb
    have := c5 b hb
    simp only [ez (s + 40 + 5 * b) _ (by omega) (by omega), ez (s + 41 + 5 * b) _ (by omega) (by omega), ez (s + 6) _ (by omega) (by omega)]
    exact this
  · intro b hb
    have := hs b hb
    simp only [ez (s + 40 + 5 * b) _ (by omega) (by omega), ez (s + 42 + 5 * b) _ (by omega) (by omega), ez (s + 7) _ (by omega) (by omega)]
    exact this
  · intro b hb
    have := hd b hb
    simp only [ez (s + 40 + 5 * b) _ (by omega) (by omega), ez (s + 43 + 5 * b) _ (by omega) (by omega), ez (s + 44 + 5 * b) _ (by omega) (by omega)]
    exact this
  · intro b hb
    have := hw b hb
    simp only [ez (s + 40 + 5 * b) _ (by omega) (by omega)]
    exact this
  · exact (q 178 16 (by omega)).trans h3
  · exact (q 5 2 (by omega)).trans h4
  · exact (q 5 1 (by omega)).trans h5
  · intro j hj
    refine ⟨?_, fun b hb k hk => ?_⟩
    · simp only [ep]
      exact (h6 j hj).1
    · rw [ep, q (7 + (nx + 16 - d + j) % 16) _ (by omega)]
      exact (h6 j hj).2 b hb k hk
  · exact (q 3 1 (by omega)).trans n2
  · exact (q 178 3 (by omega)).trans n3
  · intro j hj
    rw [q 4 j (by omega), q 179 j (by omega)]
    exact n4 j hj
  · rw [q 3 3 (by omega), q 178 9 (by omega)]
    exact n5
  · rw [q 3 4 (by omega), q 178 10 (by omega)]
    exact n6
  · exact (q 29 1 (by omega)).trans x2
  · exact (q 178 26 (by omega)).trans x3
  · intro j hj
    rw [q 30 j (by omega), q 193 j (by omega)]
    exact x4 j hj
theorem c_nc17 (h : Iv σ R s t w) {tr : Nat → Int} (htr : ∀ o, o < nB t → σ 25 o = iI (tr o) ∧ -1 ≤ tr o ∧ tr o ≤ 1439) {r : Nat} (hr : (r : Int) < t 1) {x : Int} (hx : 0 ≤ x ∧ x ≤ 1439) : ∀ (m k n : Nat) (a : Int × Int), k + m = nB t → m < n → (0 ≤ a.1 ∧ a.1 ≤ 1440) → (0 ≤ a.2 ∧ a.2 ≤ 1440) → f_X6_newlyClosedOf_17 N R n σ 23 s (nI r) (iI x) (iI a.1) (iI a.2) (nI k) = some (iI (mx 0 ((lp (ncS t tr r x) k m a).2 - (lp (ncS t tr r x) k m a).1)), σ) := by
  have hO := h.tok
  have hB := nB_c hO
  have hR := h.ro
  intro m
  induction m with
  | zero =>
    intro k n a hk hm h1 h2
    obtain ⟨n, rfl⟩ : ∃ q, n = q + 1 := ⟨n - 1, by omega⟩
    rw [f_X6_newlyClosedOf_17, h.cq.1.2.2.1, if_pos ((iI_leN (by omega)).mpr (by omega)), iI_sub]
    exact congrArg (fun z => some (z, σ)) (iI_maxR (a := 0) (b := a.2 - a.1) (by omega))
  | succ m ih =>
    intro k n a hk hm h1 h2
    obtain ⟨n, rfl⟩ : ∃ q, n = q + 1 := ⟨n - 1, by omega⟩
    have hkb : (k : Int) < t 2 := by omega
    obtain ⟨e1, e2, e3⟩ := htr k (by omega)
    rw [f_X6_newlyClosedOf_17, h.cq.1.2.2.1, if_neg (fun q => absurd ((iI_leN (by omega)).mp q) (by omega)), ck_nI (by omega) (by decide), ck_nI (by omega) (by decide), hR.r23_1, hR.si 2 (by decide), show s + 1 + 2 = s + 3 by omega, nI_clamp (by omega), e1, hR.bl k (by omega), lp_s]
    dsimp only [f_X6_newlyClosedOf_104]
    rw [nI_1]
    by_cases c1 : tr k = -1
    · rw [if_pos (by rw [c1]; rfl), show ncS t tr r x k a = a from if_pos (Or.inl c1)]
      exact ih (k + 1) n a (by omega) (by omega) h1 h2
    · rw [if_neg (by rw [show (-1 : Int32) = iI (-1) from rfl, iI_eq (by omega)]; exact c1), c_closesRoad h hkb hr, bd_some]
      cases hs : shut t k r
      · rw [bI_f, if_pos rfl, show ncS t tr r x k a = a from if_pos (Or.inr hs)]
        exact ih (k + 1) n a (by omega) (by omega) h1 h2
      · have hF := cF_r hO (x := tr k) (by omega)
        have hE := cE_r hO (x := tr k) (by omega)
        have hnot : ¬ (tr k = -1 ∨ shut t k r = false) := by
          rintro (q | q)
          · exact c1 q
          · rw [hs] at q
            cases q
        rw [bI_t, if_neg (by decide), ck_nI (by omega) (by decide), ck_nI (by omega) (by decide), ck_nI (by omega) (by decide), e1, c_cF h (by omega), bd_some, c_cE h (by omega), bd_some, iI_minL (by omega), iI_maxR (by omega)]
        by_cases c2 : x < tr k
        · rw [if_pos ((iI_lt (by omega)).mpr c2), show ncS t tr r x k a = (a.1, if cF t (tr k) < a.2 then cF t (tr k) else a.2) from (if_neg hnot).trans (if_pos c2)]
          exact ih (k + 1) n (a.1, if cF t (tr k) < a.2 then cF t (tr k) else a.2) (by omega) (by omega) h1 (by dsimp only; split <;> omega)
        · rw [if_neg (fun q => c2 ((iI_lt (by omega)).mp q)), show ncS t tr r x k a = (mx a.1 (cE t (tr k)), a.2) from (if_neg hnot).trans (if_neg c2)]
          exact ih (k + 1) n (mx a.1 (cE t (tr k)), a.2) (by omega) (by omega) (by unfold mx; dsimp only; split <;> omega) h2
theorem c_ncOf (hN : 2000 ≤ N) (h : Iv σ R s t w) {tr : Nat → Int} (htr : ∀ o, o < nB t → σ 25 o = iI (tr o) ∧ -1 ≤ tr o ∧ tr o ≤ 1439) {r : Nat} (hr : (r : Int) < t 1) {x : Int} (hx : 0 ≤ x ∧ x ≤ 1439) : f_X6_newlyClosedOf N R σ 23 s (nI r) (iI x) = some (iI (ncO t tr r x), σ) := by
  have hB := nB_c h.tok
  have hF := cF_r h.tok hx
  have hE := cE_r h.tok hx
  unfold f_X6_newlyClosedOf
  rw [c_cF h hx, bd_some, c_cE h hx, bd_some]
  exact c_nc17 (N := N) h htr hr hx (nB t) 0 N (cF t x, cE t x) (by omega) (by omega) (by dsimp only; omega) (by dsimp only; omega)
theorem c_nc6 (hN : 2000 ≤ N) (h : Iv σ R s t w) {tr : Nat → Int} (htr : ∀ o, o < nB t → σ 25 o = iI (tr o) ∧ -1 ≤ tr o ∧ tr o ≤ 1439) {b : Nat} (hb : (b : Int) < t 2) {x : Int} (hx : 0 ≤ x ∧ x ≤ 1439) : ∀ (m k n : Nat) (acc : Int), k + m = nR t → m < n → f_X6_newlyClosed_6 N R n σ 23 s (nI b) (iI x) (iI acc) (nI k) = some (iI (acc + sumF (fun r => if shut t b r then ncO t tr r x else 0) k m), σ) := by
  have hO := h.tok
  have hB := nB_c hO
  have hn := nR_c hO
  have hR := h.ro
  intro m
  induction m with
  | zero =>
    intro k n acc hk hm
    obtain ⟨n, rfl⟩ : ∃ q, n = q + 1 := ⟨n - 1, by omega⟩
    rw [f_X6_newlyClosed_6, h.cq.1.2.1, if_pos ((iI_leN (by omega)).mpr (by omega))]
    show _ = some (iI (acc + 0), σ)
    rw [Int.add_zero]
  | succ m ih =>
    intro k n acc hk hm
    obtain ⟨n, rfl⟩ : ∃ q, n = q + 1 := ⟨n - 1, by omega⟩
    rw [f_X6_newlyClosed_6, h.cq.1.2.1, if_neg (fun q => absurd ((iI_leN (by omega)).mp q) (by omega)), ck_nI (by omega) (by decide), hR.si 2 (by decide), show s + 1 + 2 = s + 3 by omega, nI_clamp (by omega), hR.bl b (by omega), c_closesRoad h hb (by omega), bd_some, c_ncOf hN h htr (by omega) hx, bd_some, sumF_s]
    dsimp only [f_X6_newlyClosed_42]
    rw [nI_1]
    cases shut t b k
    · rw [bI_f, if_pos rfl, ih (k + 1) n _ (by omega) (by omega), if_neg (by decide), Int.zero_add]
    · rw [bI_t, if_neg (by decide), iI_add, ih (k + 1) n _ (by omega) (by omega), if_pos rfl, Int.add_assoc]
theorem c_keep7 (h11 : σ s 11 = iI (t 2)) (hR : RO R s) (hO : TOk t) : ∀ (m k n : Nat) (σ : SI), σ s 11 = iI (t 2) → k + m = nB t → m < n → ∃ σ', f_X6_keep_7 N R n σ 23 s (nI k) = some ((), σ') ∧ (∀ j, σ' 26 j = if k ≤ j ∧ j < nB t then σ 25 j else σ 26 j) ∧ ∀ o j, o ≠ 26 → σ' o j = σ o j := by
  have hB := nB_c hO
  have hs := hR.1
  intro m
  induction m with
  | zero =>
    intro k n σ h11 hk hm
    obtain ⟨n, rfl⟩ : ∃ q, n = q + 1 := ⟨n - 1, by omega⟩
    refine ⟨σ, ?_, fun j => by rw [if_neg (by omega)], fun _ _ _ => rfl⟩
    rw [f_X6_keep_7, h11, if_pos ((iI_leN (by omega)).mpr (by omega))]
  | succ m ih =>
    intro k n σ h11 hk hm
    obtain ⟨n, rfl⟩ : ∃ q, n = q + 1 := ⟨n - 1, by omega⟩
    obtain ⟨σ', g1, g2, g3⟩ := ih (k + 1) n (up σ 26 k (σ 25 k)) ((if_neg (by omega)).trans h11) (by omega) (by omega)
    refine ⟨σ', ?_, fun j => ?_, fun o j ho => (g3 o j ho).trans (if_neg (by omega))⟩
    · rw [f_X6_keep_7, h11, if_neg (fun q => absurd ((iI_leN (by omega)).mp q) (by omega)), ck_nI (by omega) (by decide), ck_nI (by omega) (by decide), sq_eq, hR.r23_1, hR.r23_2, nI_clamp (by omega), nI_1]
      exact g1
    · rw [g2 j, show up σ 26 k (σ 25 k) 25 j = σ 25 j from if_neg (by omega)]
      unfold up
      by_cases c : j = k
      · rw [if_neg (by omega), if_pos ⟨rfl, c⟩, if_pos (by omega), c]
      · by_cases d : k + 1 ≤ j ∧ j < nB t
        · rw [if_pos d, if_pos (by omega)]
        · rw [if_neg d, if_neg (by omega), if_neg (by omega)]
/-- a state of the search: the times tried, the best so far -/
def PS (σ : SI) (t : Nat → Int) (tr : Nat → Int) (a : Int × (Nat → Int)) : Prop := σ 23 5 = 0 ∧ (∀ o, o < nB t → σ 25 o = iI (tr o)) ∧ σ 23 4 = iI a.1 ∧ ∀ o, o < nB t → σ 26 o = iI (a.2 o)
def PF (σ σ' : SI) : Prop := ∀ o k, ¬ (o = 25 ∨ o = 26 ∨ (o = 23 ∧ k = 4)) → σ' o k = σ o k
theorem PF.tr {a b c : SI} (h1 : PF a b) (h2 : PF b c) : PF a c := fun o k h => (h2 o k h).trans (h1 o k h)
theorem PF.iv (h : Iv σ R s t w) {σ' : SI} (q : PF σ σ') (h5 : σ 23 5 = 0) : Iv σ' R s t w := h.pl (fun o k hn => q o k (by omega)) (Or.inl ((q 23 5 (by omega)).trans h5))
theorem c_place (hN : 2000 ≤ N) : ∀ (os : List Nat) (j d : Nat) (tr : Nat → Int) (a : Int × (Nat → Int)) (σ : SI), os.length < d → Iv σ R s t w → PS σ t tr a → GdT t w tr → GdA t w a → σ 23 3 = nI (j + os.length) → j + os.length ≤ 4 → (∀ i, i < os.length → σ 24 (j + i) = nI (os.getD i 0)) → (∀ b, b ∈ os → b < nB t ∧ tms w b = -1 ∧ tr b = -1) → os.Nodup → ∃ σ', f_X6_place N R d σ 23 s (nI j) (iI (cloA t tr)) = some ((), σ') ∧ PS σ' t tr (seekU t w os tr a) ∧ PF σ σ' := by
  intro os
  induction os with
  | nil =>
    intro j d tr a σ hd h P hT hA h3 hj4 ho hb hnd
    obtain ⟨d, rfl⟩ : ∃ q, d = q + 1 := ⟨d - 1, by omega⟩
    have hO := h.tok
    have hB := nB_c hO
    have hR := h.ro
    have hc := cloA_r hO tr
    have ha := hA.1
    obtain ⟨p1, p2, p3, p4⟩ := id P
    by_cases c : a.1 ≠ -1 ∧ a.1 ≤ cloA t tr
    · refine ⟨σ, ?_, ?_, fun _ _ _ => rfl⟩
      · rw [f_X6_place, p3, if_neg (by rw [show (-1 : Int32) = iI (-1) from rfl, iI_eq (by omega)]; exact c.1), if_neg (fun q => absurd ((iI_lt (by omega)).mp q) (by omega))]
      · unfold seekU leafS
        rw [if_pos c]
        exact P
    · obtain ⟨σ', g1, g2, g3⟩ := c_keep7 (N := N) (s := s) (σ := σ) h.cq.1.2.2.1 hR hO (nB t) 0 N (up σ 23 4 (iI (cloA t tr))) ((if_neg (by have := hR.1; omega)).trans h.cq.1.2.2.1) (by omega) (by omega)
      have e30 : ∀ kr, f_X6_place_17 N R kr σ 23 s (nI j) (iI (cloA t tr)) = some ((), σ') := fun kr => by
        have e : ∀ kr, f_X6_place_30 N R kr σ 23 s (iI (cloA t tr)) = some ((), σ') := fun kr => by
          unfold f_X6_place_30 f_X6_keep
          rw [sq_eq, l_0, g1, bd_some]
        unfold f_X6_place_17
        rw [h3, if_pos (by rw [nI_leI (by omega) (by omega)]; simp)]
        exact e kr
      refine ⟨σ', ?_, ?_, fun o k q => (g3 o k (by omega)).trans (if_neg (by omega))⟩
      · rw [f_X6_place, p3]
        by_cases c1 : a.1 = -1
        · rw [if_pos (by rw [c1]; rfl)]
          exact e30 _
        · rw [if_neg (by rw [show (-1 : Int32) = iI (-1) from rfl, iI_eq (by omega)]; exact c1), if_pos ((iI_lt (by omega)).mpr (by omega))]
          exact e30 _
      · unfold seekU leafS
        rw [if_neg c]
        refine ⟨(g3 _ _ (by omega)).trans ((if_neg (by omega)).trans p1), fun o ho => (g3 _ _ (by omega)).trans ((if_neg (by omega)).trans (p2 o ho)), (g3 _ _ (by omega)).trans up_th, fun o ho => ?_⟩
        rw [g2 o, if_pos (by omega)]
        exact (if_neg (by omega)).trans (p2 o ho)
  | cons b os ih =>
    intro j d tr a σ hd h P hT hA h3 hj4 ho hb hnd
    obtain ⟨d, rfl⟩ : ∃ q, d = q + 1 := ⟨d - 1, by omega⟩
    rw [List.length_cons] at hd h3 hj4 ho
    have hO := h.tok
    have hB := nB_c hO
    have hnd2 := List.nodup_cons.mp hnd
    obtain ⟨b1, b2, b3⟩ := hb b (List.mem_cons_self ..)
    have hbt : (b : Int) < t 2 := by omega
    have hc := cloA_r hO tr
    have ha := hA.1
    obtain ⟨p1, p2, p3, p4⟩ := id P
    by_cases c : a.1 ≠ -1 ∧ a.1 ≤ cloA t tr
    · refine ⟨σ, ?_, ?_, fun _ _ _ => rfl⟩
      · rw [f_X6_place, p3, if_neg (by rw [show (-1 : Int32) = iI (-1) from rfl, iI_eq (by omega)]; exact c.1), if_neg (fun q => absurd ((iI_lt (by omega)).mp q) (by omega))]
      · rw [seekU_prune (b :: os) tr a hnd (fun o ho => (hb o ho).2.2) c.1 c.2]
        exact P
    · -- the loop over the start minutes
      have hS := nS_r hO
      have hR := h.ro
      have loop : ∀ (m k n : Nat) (a : Int × (Nat → Int)) (σ1 : SI), k + m = nS t → m < n → PF σ σ1 → PS σ1 t tr a → GdA t w a → ∃ σ', f_X6_place_54 N R (fun σ x0 x1 x2 x3 => f_X6_place N R d σ x0 x1 x2 x3) n σ1 23 s (nI j) (iI (cloA t tr)) (nI b) (iI (nS t)) (nI k) = some ((), σ') ∧ PS σ' t tr (lp (fun k a => if why t w tr b (stA t k) = 0 then seekU t w os (upT tr b (stA t k)) a else a) k m a) ∧ PF σ σ' := by
        intro m
        induction m with
        | zero =>
          intro k n a σ1 hk hm hF P1 hA1
          obtain ⟨n, rfl⟩ : ∃ q, n = q + 1 := ⟨n - 1, by omega⟩
          refine ⟨σ1, ?_, P1, hF⟩
          rw [f_X6_place_54, if_pos ((iI_leN (by omega)).mpr (by omega))]
        | succ m ihm =>
          intro k n a σ1 hk hm hF P1 hA1
          obtain ⟨n, rfl⟩ : ∃ q, n = q + 1 := ⟨n - 1, by omega⟩
          have h1 : Iv σ1 R s t w := hF.iv h p1
          obtain ⟨r1, r2, r3, r4⟩ := id P1
          have hsA := stA_r hO (k := k) (by omega)
          have htr2 : ∀ o : Nat, (o : Int) < t 2 → σ1 25 o = iI (tr o) ∧ -1 ≤ tr o ∧ tr o ≤ 1439 := fun o ho => ⟨r2 o (by omega), (hT o (by omega)).1⟩
          rw [f_X6_place_54, if_neg (fun q => absurd ((iI_leN (by omega)).mp q) (by omega)), c_startAt h1, bd_some, hR.r23_1, c_reason hN h1 hbt htr2 hsA, bd_some, lp_s]
          dsimp only [f_X6_place_124]
          rw [show nI k + (1 : Int32) = nI (k + 1) from nI_add k 1, show nI j + (1 : Int32) = nI (j + 1) from nI_add j 1]
          have hwr := why_r t w tr b (stA t k)
          by_cases cw : why t w tr b (stA t k) = 0
          · have en : f_X6_newlyClosed N R σ1 23 s (nI b) (iI (stA t k)) = some (iI (ncA t tr b (stA t k)), σ1) := by
              unfold f_X6_newlyClosed
              have e := c_nc6 (N := N) hN h1 (fun o ho => htr2 o (by omega)) hbt hsA (nR t) 0 N 0 (by omega) (by have := nR_c hO; omega)
              rw [Int.zero_add] at e
              exact e
            have hbtr : tr b = -1 := b3
            have eadd := cloA_add hO (fun o ho => (hT o ho).1) hsA b1 hbtr
            have f16 : PF σ (up σ1 25 b (iI (stA t k))) := fun o k' q => (if_neg (by omega)).trans (hF o k' q)
            have f16' : PF σ1 (up σ1 25 b (iI (stA t k))) := fun o k' q => if_neg (by omega)
            obtain ⟨σ17, g1, g2, g3⟩ := ih (j + 1) d (upT tr b (stA t k)) a (up σ1 25 b (iI (stA t k))) (by omega) (f16.iv h p1) ⟨(if_neg (by omega)).trans r1, fun o ho => by
              unfold up upT
              by_cases e : o = b
              · rw [if_pos ⟨rfl, e⟩, if_pos e]
              · rw [if_neg (by omega), if_neg e]
                exact r2 o ho, (if_neg (by omega)).trans r3, fun o ho => (if_neg (by omega)).trans (r4 o ho)⟩ (fun o ho => by
              by_cases e : o = b
              · subst e
                rw [upT_b]
                exact ⟨by omega, fun q => absurd b2 q⟩
              · rw [upT_o e]
                exact hT o ho) hA1 ((f16 _ _ (by omega)).trans (by rw [h3]; congr 1; omega)) (by omega) (fun i hi => by
              rw [f16 _ _ (by omega)]
              have := ho (i + 1) (by omega)
              rw [show j + 1 + i = j + (i + 1) by omega, this]
              rfl) (fun o ho' => ⟨(hb o (List.mem_cons_of_mem _ ho')).1, (hb o (List.mem_cons_of_mem _ ho')).2.1, by
                rw [upT_o (show o ≠ b from fun e => hnd2.1 (by rw [← e]; exact ho'))]
                exact (hb o (List.mem_cons_of_mem _ ho')).2.2⟩) hnd2.2
            obtain ⟨q1, q2, q3, q4⟩ := id g2
            have f20 : PF σ (up σ17 25 b (iI (-1))) := fun o k' q => (if_neg (by omega)).trans ((g3 o k' q).trans (f16 o k' q))
            have hA17 : GdA t w (seekU t w os (upT tr b (stA t k)) a) := seekU_good hO os _ _ (fun o ho' => (hb o (List.mem_cons_of_mem _ ho')).2.1) (fun o ho => by
              by_cases e : o = b
              · subst e
                rw [upT_b]
                exact ⟨by omega, fun q => absurd b2 q⟩
              · rw [upT_o e]
                exact hT o ho) hA1
            obtain ⟨σ', i1, i2, i3⟩ := ihm (k + 1) n (seekU t w os (upT tr b (stA t k)) a) (up σ17 25 b (iI (-1))) (by omega) (by omega) f20 ⟨(if_neg (by omega)).trans q1, fun o ho => by
              unfold up
              by_cases e : o = b
              · rw [if_pos ⟨rfl, e⟩, e, hbtr]
              · rw [if_neg (by omega), q2 o ho, upT_o e], (if_neg (by omega)).trans q3, fun o ho => (if_neg (by omega)).trans (q4 o ho)⟩ hA17
            refine ⟨σ', ?_, by rw [if_pos cw]; exact i2, i3⟩
            rw [if_pos (by rw [cw]; rfl), en, bd_some, ck_nI (by omega) (by decide), sq_eq, nI_clamp (by omega), iI_add, ← eadd, g1, bd_some, ck_nI (by omega) (by decide), sq_eq]
            exact i1
          · obtain ⟨σ', i1, i2, i3⟩ := ihm (k + 1) n a σ1 (by omega) (by omega) hF P1 hA1
            refine ⟨σ', ?_, by rw [if_neg cw]; exact i2, i3⟩
            rw [if_neg (by rw [show (0 : Int32) = iI 0 from rfl, iI_eq (by omega)]; exact cw)]
            exact i1
      obtain ⟨σ', l1, l2, l3⟩ := loop (nS t) 0 N a σ (by omega) (by omega) (fun _ _ _ => rfl) P hA
      have e24 : σ 24 j = nI b := ho 0 (by omega)
      have e17 : f_X6_place_17 N R (fun σ x0 x1 x2 x3 => f_X6_place N R d σ x0 x1 x2 x3) σ 23 s (nI j) (iI (cloA t tr)) = some ((), σ') := by
        unfold f_X6_place_17
        rw [h3, if_neg (by rw [nI_leI (by omega) (by omega)]; omega), if_pos (by rw [show (4 : Int32) = nI 4 from rfl, nI_ltI (by omega) (by omega)]; omega), ck_nI (by omega) (by decide), c_startTotal h, bd_some, hR.r23_0, nI_clamp (by omega), e24]
        exact l1
      refine ⟨σ', ?_, by unfold seekU; exact l2, l3⟩
      rw [f_X6_place, p3]
      by_cases c1 : a.1 = -1
      · rw [if_pos (by rw [c1]; rfl)]
        exact e17
      · rw [if_neg (by rw [show (-1 : Int32) = iI (-1) from rfl, iI_eq (by omega)]; exact c1), if_pos ((iI_lt (by omega)).mpr (by omega))]
        exact e17
end PLC
