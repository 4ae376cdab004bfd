/-! ===== plans: the class's call; the reference's search ===== -/
theorem getD_n {L : List Nat} {c j : Nat} (hj : j < L.length + 1) : (L ++ [c]).getD j 0 = if j = L.length then c else L.getD j 0 := by
  rw [List.getD_eq_getElem?_getD, List.getD_eq_getElem?_getD]
  by_cases e : j = L.length
  · rw [if_pos e, e, List.getElem?_append_right (by omega), Nat.sub_self]
    rfl
  · rw [if_neg e, List.getElem?_append_left (by omega)]
def okP (t w : Nat → Int) : Prop := (opL w 0 (nB t)).length ≤ 4 ∧ nS t ≤ 12
section PLM
variable {N : Nat} {R : Nat → Nat → Nat} {s : Nat} {t w : Nat → Int} {σ : SI}
theorem c_se7 (hR : RO R s) (hO : TOk t) (hW : WOk t w) (x2 : Int32) : ∀ (m k n : Nat) (P : List Nat) (σ : SI), σ s 11 = iI (t 2) → (∀ o, o < nB t → σ (s + 7) o = iI (tms w o)) → k + m = nB t → m < n → (P ++ opL w k m).length ≤ 4 → σ 23 3 = nI P.length → (∀ i, i < P.length → σ 24 i = nI (P.getD i 0)) → (∀ o, o < k → σ 25 o = iI (tms w o) ∧ σ 26 o = iI (tms w o)) → ∃ σ1, f_X6_search_7 N R n σ 23 s x2 (nI k) = (sq (up σ1 23 4 (-1 : Int32)) (fun σ3 => bd (f_X6_place N R 12 σ3 23 s (0 : Int32) x2) (fun _ σ4 => sq (up σ4 23 5 (1 : Int32)) (fun σ5 => some ((), σ5))))) ∧ σ1 23 3 = nI (P ++ opL w k m).length ∧ (∀ i, i < (P ++ opL w k m).length → σ1 24 i = nI ((P ++ opL w k m).getD i 0)) ∧ (∀ o, o < nB t → σ1 25 o = iI (tms w o) ∧ σ1 26 o = iI (tms w o)) ∧ ∀ o j, ¬ (o = 24 ∨ o = 25 ∨ o = 26 ∨ (o = 23 ∧ j = 3)) → σ1 o j = σ o j := by
  have hB := nB_c hO
  have hs := hR.1
  intro m
  induction m with
  | zero =>
    intro k n P σ e1 e2 hk hm hl h3 h4 h5
    obtain ⟨n, rfl⟩ : ∃ q, n = q + 1 := ⟨n - 1, by omega⟩
    refine ⟨σ, ?_, ?_, ?_, fun o ho => h5 o (by omega), fun _ _ _ => rfl⟩
    · rw [f_X6_search_7, e1, if_pos ((iI_leN (by omega)).mpr (by omega))]
    · unfold opL
      rw [List.append_nil]
      exact h3
    · unfold opL
      rw [List.append_nil]
      exact h4
  | succ m ih =>
    intro k n P σ e1 e2 hk hm hl h3 h4 h5
    obtain ⟨n, rfl⟩ : ∃ q, n = q + 1 := ⟨n - 1, by omega⟩
    have hz := (hW k (by omega)).1
    have hz : -1 ≤ tms w k ∧ tms w k ≤ 1439 := hz
    -- the state behind the two writes
    have f15 : ∀ o j, o ≠ 25 → o ≠ 26 → up (up σ 25 k (iI (tms w k))) 26 k (iI (tms w k)) o j = σ o j := fun o j q1 q2 => (if_neg (by omega)).trans (if_neg (by omega))
    have g5 : ∀ o, o < k + 1 → up (up σ 25 k (iI (tms w k))) 26 k (iI (tms w k)) 25 o = iI (tms w o) ∧ up (up σ 25 k (iI (tms w k))) 26 k (iI (tms w k)) 26 o = iI (tms w o) := fun o ho => by
      by_cases e : o = k
      · subst e
        exact ⟨(if_neg (by omega)).trans up_th, up_th⟩
      · exact ⟨(if_neg (by omega)).trans ((if_neg (by omega)).trans (h5 o (by omega)).1), (if_neg (by omega)).trans ((if_neg (by omega)).trans (h5 o (by omega)).2)⟩
    have ew : up σ 25 k (iI (tms w k)) (s + 7) k = iI (tms w k) := (if_neg (by omega)).trans (e2 k (by omega))
    have row : f_X6_search_7 N R (n + 1) σ 23 s x2 (nI k) = if tms w k = -1 then (if (4 : Int32) ≤ nI P.length then f_X6_search_7 N R n (up (up σ 25 k (iI (tms w k))) 26 k (iI (tms w k))) 23 s x2 (nI (k + 1)) else ck (nI P.length) 4 (sq (up (up (up σ 25 k (iI (tms w k))) 26 k (iI (tms w k))) 24 (nI P.length).toNatClampNeg (nI k)) (fun σ22 => sq (up σ22 23 3 ((σ22 23 3) + (1 : Int32))) (fun σ23 => f_X6_search_7 N R n σ23 23 s x2 (nI (k + 1)))))) else f_X6_search_7 N R n (up (up σ 25 k (iI (tms w k))) 26 k (iI (tms w k))) 23 s x2 (nI (k + 1)) := by
      rw [f_X6_search_7, e1, if_neg (fun q => absurd ((iI_leN (by omega)).mp q) (by omega)), ck_nI (by omega) (by decide), ck_nI (by omega) (by decide), sq_eq, ck_nI (by omega) (by decide), ck_nI (by omega) (by decide), sq_eq, ck_nI (by omega) (by decide), hR.r23_1, hR.r23_2, hR.r23_0, hR.si 6 (by decide), show s + 1 + 6 = s + 7 by omega, nI_clamp (by omega), e2 k (by omega), ew, (g5 k (by omega)).1, f15 23 3 (by omega) (by omega), h3]
      dsimp only [f_X6_search_77]
      rw [nI_1]
      by_cases c : tms w k = -1
      · rw [if_pos (by rw [c]; rfl), if_pos c]
      · rw [if_neg (by rw [show (-1 : Int32) = iI (-1) from rfl, iI_eq (by omega)]; exact c), if_neg c]
    rw [row]
    by_cases c : tms w k = -1
    · have eo : opL w k (m + 1) = k :: opL w (k + 1) m := if_pos c
      have ea : P ++ k :: opL w (k + 1) m = (P ++ [k]) ++ opL w (k + 1) m := by simp
      rw [eo, ea] at hl ⊢
      have hPl : P.length + 1 ≤ 4 := by
        simp only [List.length_append, List.length_cons, List.length_nil] at hl
        omega
      have el : (P ++ [k]).length = P.length + 1 := by simp
      have f23 : ∀ o j, o ≠ 24 → o ≠ 25 → o ≠ 26 → (o ≠ 23 ∨ j ≠ 3) → up (up (up (up σ 25 k (iI (tms w k))) 26 k (iI (tms w k))) 24 P.length (nI k)) 23 3 (nI (P.length + 1)) o j = σ o j := fun o j q1 q2 q3 q4 => (if_neg (by omega)).trans ((if_neg (by omega)).trans (f15 o j q2 q3))
      obtain ⟨σ1, g1, g2, g3, g4, g6⟩ := ih (k + 1) n (P ++ [k]) (up (up (up (up σ 25 k (iI (tms w k))) 26 k (iI (tms w k))) 24 P.length (nI k)) 23 3 (nI (P.length + 1))) ((f23 _ _ (by omega) (by omega) (by omega) (by omega)).trans e1) (fun o ho => (f23 _ _ (by omega) (by omega) (by omega) (by omega)).trans (e2 o ho)) (by omega) (by omega) hl (by rw [el]; exact up_th) (fun i hi => by
        rw [el] at hi
        rw [getD_n hi]
        unfold up
        rw [if_neg (by omega)]
        by_cases e : i = P.length
        · rw [if_pos ⟨rfl, e⟩, if_pos e]
        · rw [if_neg (by omega), if_neg e, if_neg (by omega), if_neg (by omega)]
          exact h4 i (by omega)) (fun o ho => ⟨(if_neg (by omega)).trans ((if_neg (by omega)).trans (g5 o ho).1), (if_neg (by omega)).trans ((if_neg (by omega)).trans (g5 o ho).2)⟩)
      refine ⟨σ1, ?_, g2, g3, g4, fun o j q => (g6 o j q).trans (f23 o j (by omega) (by omega) (by omega) (by omega))⟩
      rw [if_pos c, if_neg (by rw [show (4 : Int32) = nI 4 from rfl, nI_leI (by omega) (by omega)]; omega), ck_nI (by omega) (by decide), sq_eq, sq_eq, nI_clamp (by omega), show up (up (up σ 25 k (iI (tms w k))) 26 k (iI (tms w k))) 24 P.length (nI k) 23 3 = σ 23 3 from (if_neg (by omega)).trans (f15 _ _ (by omega) (by omega)), h3, nI_1]
      exact g1
    · have eo : opL w k (m + 1) = opL w (k + 1) m := if_neg c
      rw [eo] at hl ⊢
      obtain ⟨σ1, g1, g2, g3, g4, g6⟩ := ih (k + 1) n P (up (up σ 25 k (iI (tms w k))) 26 k (iI (tms w k))) ((f15 _ _ (by omega) (by omega)).trans e1) (fun o ho => (f15 _ _ (by omega) (by omega)).trans (e2 o ho)) (by omega) (by omega) hl ((f15 _ _ (by omega) (by omega)).trans h3) (fun i hi => (f15 _ _ (by omega) (by omega)).trans (h4 i hi)) g5
      refine ⟨σ1, ?_, g2, g3, g4, fun o j q => (g6 o j q).trans (f15 o j (by omega) (by omega))⟩
      rw [if_neg c]
      exact g1
theorem c_open4 (h : Iv σ R s t w) : ∀ (m k n : Nat) (acc : Int), k + m = nB t → m < n → f_X9_openTotal_4 N R n σ s (iI acc) (nI k) = some (iI (acc + (opL w k m).length), σ) := by
  have hB := nB_c h.tok
  have hR := h.ro
  intro m
  induction m with
  | zero =>
    intro k n acc hk hm
    obtain ⟨n, rfl⟩ : ∃ q, n = q + 1 := ⟨n - 1, by omega⟩
    rw [f_X9_openTotal_4, h.cq.1.2.2.1, if_pos ((iI_leN (by omega)).mpr (by omega))]
    show _ = some (iI (acc + 0), σ)
    rw [Int.add_zero]
  | succ m ih =>
    intro k n acc hk hm
    obtain ⟨n, rfl⟩ : ∃ q, n = q + 1 := ⟨n - 1, by omega⟩
    have hz := (h.wok k (by omega)).1
    rw [f_X9_openTotal_4, h.cq.1.2.2.1, if_neg (fun q => absurd ((iI_leN (by omega)).mp q) (by omega)), ck_nI (by omega) (by decide), hR.si 6 (by decide), show s + 1 + 6 = s + 7 by omega, nI_clamp (by omega), (h.cs k (by omega)).1]
    dsimp only [f_X9_openTotal_25]
    rw [nI_1]
    unfold opL
    by_cases c : w (14 * k) = -1
    · rw [if_pos (by rw [c]; rfl), show (1 : Int32) = iI 1 from rfl, iI_add, ih (k + 1) n _ (by omega) (by omega), if_pos (show tms w k = -1 from c), List.length_cons]
      congr 3
      omega
    · rw [if_neg (by rw [show (-1 : Int32) = iI (-1) from rfl, iI_eq (by omega)]; exact c), ih (k + 1) n _ (by omega) (by omega), if_neg (show ¬ tms w k = -1 from c)]
theorem c_openTotal (hN : 2000 ≤ N) (h : Iv σ R s t w) : f_X9_openTotal N R σ s = some (nI (opL w 0 (nB t)).length, σ) := by
  have hB := nB_c h.tok
  unfold f_X9_openTotal
  have e := c_open4 (N := N) h (nB t) 0 N 0 (by omega) (by omega)
  rw [Int.zero_add, ← iI_nat] at e
  exact e
theorem opL_le (w : Nat → Int) (m b : Nat) : (opL w b m).length ≤ m := by
  have h1 := opL_len w m b
  have h2 := cnt_r (fun b => decide (tms w b ≠ -1)) m b
  omega
theorem c_find_bad (hN : 2000 ≤ N) (h : Iv σ R s t w) (hno : ¬ okP t w) : f_X11_findPlan N R σ 1 = some (.inr 2, σ) := by
  have hB := nB_c h.tok
  have hl := opL_le w (nB t) 0
  have hS := nS_r h.tok
  unfold f_X11_findPlan f_X11_findPlan_23
  rw [h.ro.site, c_openTotal hN h, bd_some, c_startTotal h, bd_some]
  by_cases c : (opL w 0 (nB t)).length ≤ 4
  · rw [if_neg (by rw [show (4 : Int32) = nI 4 from rfl, nI_ltI (by omega) (by omega)]; omega), if_neg (by rw [show (12 : Int32) = nI 12 from rfl, ← iI_nat, nI_leI (by omega) (by omega)]; exact fun q => hno ⟨c, q⟩)]
  · rw [if_pos (by rw [show (4 : Int32) = nI 4 from rfl, nI_ltI (by omega) (by omega)]; omega)]
theorem c_find_ok (hN : 2000 ≤ N) (h : Iv σ R s t w) (hok : okP t w) : ∃ σ', f_X11_findPlan N R σ 1 = some (.inl (), σ') ∧ Iv σ' R s t w ∧ σ' 23 4 = iI (plS t w).1 ∧ (∀ o, o < nB t → σ' 26 o = iI ((plS t w).2 o)) ∧ ∀ o j, 38 ≤ o → σ' o j = σ o j := by
  have hO := h.tok
  have hB := nB_c hO
  have hR := h.ro
  have hs := hR.1
  have hl := opL_le w (nB t) 0
  have hS := nS_r hO
  have hn := nR_c hO
  have row : f_X11_findPlan N R σ 1 = if σ 23 5 = 0 then (bd (f_X9_closedTotal N R σ s 31) (fun a13 σ13 => bd (f_X6_search N R σ13 23 s a13) (fun _ σ14 => some (.inl (), σ14)))) else some (.inl (), σ) := by
    unfold f_X11_findPlan
    rw [hR.site, c_openTotal hN h, bd_some, c_startTotal h, bd_some, if_neg (by rw [show (4 : Int32) = nI 4 from rfl, nI_ltI (by omega) (by omega)]; have := hok.1; omega), if_pos (by rw [show (12 : Int32) = nI 12 from rfl, ← iI_nat, nI_leI (by omega) (by omega)]; exact hok.2), hR.r1_2, hR.r1_5]
  rw [row]
  by_cases c : σ 23 5 = 0
  · rw [if_pos c]
    obtain ⟨σ1, g1, g2⟩ := c_total (N := N) hN (nR t) 0 N 0 σ h (by omega) (by omega)
    have sm1 : Same σ σ1 := ms_same (o := 31) (Or.inl rfl) g2
    have h1 := h.same sm1
    have g1 : f_X9_closedTotal_4 N R N σ s 31 (0 : Int32) (0 : Int32) = some (iI (0 + cloA t (tms w)), σ1) := g1
    rw [Int.zero_add] at g1
    have f0 : ∀ o j, (o ≠ 23 ∨ j ≠ 3) → up σ1 23 3 0 o j = σ1 o j := fun o j q => if_neg (by omega)
    obtain ⟨σ2, a1, a2, a3, a4, a5⟩ := c_se7 (N := N) hR hO h.wok (iI (cloA t (tms w))) (nB t) 0 N [] (up σ1 23 3 0) ((f0 _ _ (by omega)).trans h1.cq.1.2.2.1) (fun o ho => (f0 _ _ (by omega)).trans (h1.cs o (by omega)).1) (by omega) (by omega) hok.1 up_th (fun i hi => absurd hi (Nat.not_lt_zero i)) (fun o ho => by omega)
    rw [List.nil_append] at a2 a3
    have c1 : σ1 23 5 = 0 := (g2 23 5 (by omega)).trans c
    have h2 : Iv (up σ2 23 4 (iI (-1))) R s t w := h1.pl (fun o k q => (if_neg (by omega)).trans ((a5 o k (by omega)).trans (f0 o k (by omega)))) (Or.inl ((if_neg (by omega)).trans ((a5 _ _ (by omega)).trans ((f0 _ _ (by omega)).trans c1))))
    have p5 : up σ2 23 4 (iI (-1)) 23 5 = 0 := (if_neg (by omega)).trans ((a5 _ _ (by omega)).trans ((f0 _ _ (by omega)).trans c1))
    obtain ⟨σ3, b1, ⟨b2, b3, b4, b5⟩, b6⟩ := c_place (N := N) (s := s) hN (opL w 0 (nB t)) 0 12 (tms w) (-1, tms w) (up σ2 23 4 (iI (-1))) (by omega) h2 ⟨p5, fun o ho => (if_neg (by omega)).trans (a4 o ho).1, up_th, fun o ho => (if_neg (by omega)).trans (a4 o ho).2⟩ (fun o ho => ⟨(h.wok o (by omega)).1, fun _ => rfl⟩) ⟨by dsimp only; omega, fun q => absurd rfl q⟩ ((if_neg (by omega)).trans (by rw [a2, Nat.zero_add])) (by have := hok.1; omega) (fun i hi => (if_neg (by omega)).trans (by rw [Nat.zero_add]; exact a3 i hi)) (fun b hb => by
      have := opL_mem w _ _ b hb
      exact ⟨by omega, this.2.2, this.2.2⟩) (opL_nd w _ _)
    have hpl := plS_eq hO h.wok
    have q4 : up σ3 23 5 1 23 4 = iI (plS t w).1 := (if_neg (by omega)).trans (b4.trans (by rw [hpl.1]; rfl))
    have q26 : ∀ o, o < nB t → up σ3 23 5 1 26 o = iI ((plS t w).2 o) := fun o ho => (if_neg (by omega)).trans ((b5 o ho).trans (by rw [hpl.2 o ho]; rfl))
    refine ⟨up σ3 23 5 1, ?_, ?_, q4, q26, fun o j q => ?_⟩
    · unfold f_X9_closedTotal f_X6_search
      have b1 : f_X6_place N R 12 (up σ2 23 4 (-1 : Int32)) 23 s (0 : Int32) (iI (cloA t (tms w))) = some ((), σ3) := b1
      rw [g1, bd_some, sq_eq, l_0]
      refine Eq.trans (congrArg (fun x => bd x _) a1) ?_
      rw [sq_eq, b1, bd_some, sq_eq, bd_some]
    · exact h2.pl (fun o k q => (if_neg (by omega)).trans (b6 o k (by omega))) (Or.inr ⟨up_th, q4, fun b hb => q26 b (by omega)⟩)
    · rw [show up σ3 23 5 1 o j = σ3 o j from if_neg (by omega), b6 o j (by omega), show up σ2 23 4 (iI (-1)) o j = σ2 o j from if_neg (by omega), a5 o j (by omega), f0 o j (by omega)]
      exact g2 o j (by omega)
  · rw [if_neg c]
    rcases h.cp with hp | hp
    · exact absurd hp c
    · exact ⟨σ, rfl, h, hp.2.1, fun o ho => hp.2.2 o (by omega), fun _ _ _ => rfl⟩
/-! the reference -/
theorem m_lp28 (hN : 2000 ≤ N) (hR : RO R s) (hO : TOk t) (hW : WOk t w) (hS : nS t ≤ 12) {b : Nat} (hb : (b : Int) < t 2) (hbt : tms w b = -1) {K : SI → Nat → Int32 → Option (Unit × SI)} : ∀ (m k n : Nat) (σ : SI), k + m = nS t → m < n → TV t σ → WV w σ → ∃ σ', f_X12_laysPlan_28 N R K n σ 178 (nI b) (nI k) = K σ' 178 (nI (b + 1)) ∧ (∀ j, σ' 192 j = if 12 * b + k ≤ j ∧ j < 12 * b + nS t then bI (decide (why t w (tms w) b (stA t (j - 12 * b)) = 0)) else σ 192 j) ∧ ∀ o j, o ≠ 192 → σ' o j = σ o j := by
  have hB := nB_c hO
  intro m
  induction m with
  | zero =>
    intro k n σ hk hm hT hV
    obtain ⟨n, rfl⟩ : ∃ q, n = q + 1 := ⟨n - 1, by omega⟩
    refine ⟨σ, ?_, fun j => by rw [if_neg (by omega)], fun _ _ _ => rfl⟩
    rw [f_X12_laysPlan_28, m_starts hR hT hO, bd_some, if_pos ((iI_leN (by omega)).mpr (by omega))]
    unfold f_X12_laysPlan_80
    rw [nI_1]
  | succ m ih =>
    intro k n σ hk hm hT hV
    obtain ⟨n, rfl⟩ : ∃ q, n = q + 1 := ⟨n - 1, by omega⟩
    have hsA := stA_r hO (k := k) (by omega)
    have hwr := why_r t w (tms w) b (stA t k)
    obtain ⟨σ', g1, g2, g3⟩ := ih (k + 1) n (up σ 192 (12 * b + k) (bI (decide (why t w (tms w) b (stA t k) = 0)))) (by omega) (by omega) (fun q => (if_neg (by omega)).trans (hT q)) (fun q => (if_neg (by omega)).trans (hV q))
    refine ⟨σ', ?_, fun j => ?_, fun o j q => (g3 o j q).trans (if_neg (by omega))⟩
    · have hbt : w (14 * b) = -1 := hbt
      rw [f_X12_laysPlan_28, m_starts hR hT hO, bd_some, if_neg (fun q => absurd ((iI_leN (by omega)).mp q) (by omega)), m_time hR hV (by omega), bd_some, if_pos (by rw [hbt]; rfl), m_startAt hR hT, bd_some, m_why hN hR hT hV hO hW hb hsA, bd_some, show (12 : Int32) * nI b + nI k = nI (12 * b + k) from (by rw [show (12 : Int32) = nI 12 from rfl, nI_mul, nI_add]), ck_nI (by omega) (by decide), ck_nI (by omega) (by decide), sq_eq, sq_eq, hR.m23, nI_clamp (by omega), vpb_1, vpb_0, nI_1]
      by_cases c : why t w (tms w) b (stA t k) = 0
      · rw [if_pos (by rw [c]; rfl)]
        rw [decide_eq_true c] at g1
        exact g1
      · rw [if_neg (by rw [show (0 : Int32) = iI 0 from rfl, iI_eq (by omega)]; exact c)]
        rw [decide_eq_false c] at g1
        exact g1
    · rw [g2 j]
      unfold up
      by_cases c : j = 12 * b + k
      · rw [if_neg (by omega), if_pos ⟨rfl, c⟩, if_pos (by omega), show j - 12 * b = k by omega]
      · by_cases d : 12 * b + (k + 1) ≤ j ∧ j < 12 * b + nS t
        · rw [if_pos d, if_pos (by omega)]
        · rw [if_neg d, if_neg (by omega), if_neg (by omega)]
theorem m_lp7 (hN : 2000 ≤ N) (hR : RO R s) (hO : TOk t) (hW : WOk t w) (hS : nS t ≤ 12) : ∀ (m k n : Nat) (σ : SI), k + m = nB t → m < n → TV t σ → WV w σ → ∃ σ', f_X12_laysPlan_7 N R n σ 178 (nI k) = bd (f_X12_seeks N R 12 σ' 178 (0 : Int32)) (fun _ σ4 => some ((), σ4)) ∧ (∀ o, k ≤ o → o < nB t → σ' 191 o = bts (shut t o) 0 (nR t) 0 ∧ (tms w o = -1 → ∀ j, j < nS t → σ' 192 (12 * o + j) = bI (decide (why t w (tms w) o (stA t j) = 0)))) ∧ (∀ o, o < k → σ' 191 o = σ 191 o) ∧ (∀ j, j < 12 * k → σ' 192 j = σ 192 j) ∧ ∀ o j, o ≠ 191 → o ≠ 192 → σ' o j = σ o j := by
  have hB := nB_c hO
  have hnr := nR_c hO
  have hS1 := nS_r hO
  intro m
  induction m with
  | zero =>
    intro k n σ hk hm hT hV
    obtain ⟨n, rfl⟩ : ∃ q, n = q + 1 := ⟨n - 1, by omega⟩
    refine ⟨σ, ?_, fun o h1 h2 => by omega, fun _ _ => rfl, fun _ _ => rfl, fun _ _ _ _ => rfl⟩
    rw [f_X12_laysPlan_7, m_blasts hR hT, bd_some, if_pos ((iI_leN (by omega)).mpr (by omega))]
  | succ m ih =>
    intro k n σ hk hm hT hV
    obtain ⟨n, rfl⟩ : ∃ q, n = q + 1 := ⟨n - 1, by omega⟩
    have hkb : (k : Int) < t 2 := by omega
    have hz := (hW k hkb).1
    have es : f_X12_shutBy N R σ 178 (nI k) = some (bts (shut t k) 0 (nR t) 0, σ) := by
      unfold f_X12_shutBy
      exact m_shutBy (N := N) hR hT hO hkb (nR t) 0 N 0 (by omega) (by omega)
    have T1 : TV t (up σ 191 k (bts (shut t k) 0 (nR t) 0)) := fun q => (if_neg (by omega)).trans (hT q)
    have V1 : WV w (up σ 191 k (bts (shut t k) 0 (nR t) 0)) := fun q => (if_neg (by omega)).trans (hV q)
    -- the start minutes of blast k
    have inner : ∃ σ1, f_X12_laysPlan_28 N R (fun σ x0 x1 => f_X12_laysPlan_7 N R n σ x0 x1) N (up σ 191 k (bts (shut t k) 0 (nR t) 0)) 178 (nI k) (0 : Int32) = f_X12_laysPlan_7 N R n σ1 178 (nI (k + 1)) ∧ (tms w k = -1 → ∀ j, j < nS t → σ1 192 (12 * k + j) = bI (decide (why t w (tms w) k (stA t j) = 0))) ∧ (∀ j, j < 12 * k → σ1 192 j = σ 192 j) ∧ ∀ o j, o ≠ 192 → σ1 o j = up σ 191 k (bts (shut t k) 0 (nR t) 0) o j := by
      by_cases c : tms w k = -1
      · obtain ⟨σ1, g1, g2, g3⟩ := m_lp28 (N := N) hN hR hO hW hS hkb c (K := fun σ x0 x1 => f_X12_laysPlan_7 N R n σ x0 x1) (nS t) 0 N (up σ 191 k (bts (shut t k) 0 (nR t) 0)) (by omega) (by omega) T1 V1
        refine ⟨σ1, g1, fun _ j hj => ?_, fun j hj => ?_, g3⟩
        · rw [g2, if_pos (by omega), show 12 * k + j - 12 * k = j by omega]
        · rw [g2, if_neg (by omega)]
          exact if_neg (by omega)
      · refine ⟨up σ 191 k (bts (shut t k) 0 (nR t) 0), ?_, fun q => absurd q c, fun j _ => if_neg (by omega), fun _ _ _ => rfl⟩
        obtain ⟨N', rfl⟩ : ∃ q, N = q + 1 := ⟨N - 1, by omega⟩
        rw [f_X12_laysPlan_28, m_starts hR T1 hO, bd_some, if_neg (by rw [← iI_nat, show (0 : Int32) = nI 0 from rfl, nI_leI (by omega) (by omega)]; omega), m_time hR V1 (by omega), bd_some, if_neg (by rw [show (-1 : Int32) = iI (-1) from rfl, iI_eq (by omega)]; exact c)]
        unfold f_X12_laysPlan_80
        rw [nI_1]
    obtain ⟨σ1, g1, g2, g3, g4⟩ := inner
    obtain ⟨σ', i1, i2, i3, i4, i5⟩ := ih (k + 1) n σ1 (by omega) (by omega) (fun q => (g4 _ _ (by omega)).trans (T1 q)) (fun q => (g4 _ _ (by omega)).trans (V1 q))
    refine ⟨σ', ?_, fun o h1 h2 => ?_, fun o ho => ?_, fun j hj => ?_, fun o j q1 q2 => (i5 o j q1 q2).trans ((g4 o j q2).trans (if_neg (by omega)))⟩
    · rw [f_X12_laysPlan_7, m_blasts hR hT, bd_some, if_neg (fun q => absurd ((iI_leN (by omega)).mp q) (by omega)), es, bd_some, ck_nI (by omega) (by decide), sq_eq, hR.m22, nI_clamp (by omega), g1]
      exact i1
    · by_cases e : o = k
      · subst e
        refine ⟨?_, fun q j hj => ?_⟩
        · rw [i3 o (by omega), g4 _ _ (by omega)]
          exact up_th
        · rw [i4 _ (by omega)]
          exact g2 q j hj
      · exact i2 o (by omega) h2
    · rw [i3 o (by omega), g4 _ _ (by omega)]
      exact if_neg (by omega)
    · rw [i4 j (by omega)]
      exact g3 j hj
/-- what the reference's search stands on -/
def MSt (σ : SI) (t w : Nat → Int) : Prop := TV t σ ∧ WV w σ ∧ ∀ o, o < nB t → σ 191 o = bts (shut t o) 0 (nR t) 0 ∧ (tms w o = -1 → ∀ j, j < nS t → σ 192 (12 * o + j) = bI (decide (why t w (tms w) o (stA t j) = 0)))
theorem MSt.fr (h : MSt σ t w) {σ' : SI} (q : ∀ o j, o ≠ 189 → o ≠ 190 → (o ≠ 178 ∨ j ≠ 24) → σ' o j = σ o j) : MSt σ' t w := by
  obtain ⟨h1, h2, h3⟩ := h
  exact ⟨fun k => (q _ _ (by omega) (by omega) (by omega)).trans (h1 k), fun k => (q _ _ (by omega) (by omega) (by omega)).trans (h2 k), fun o ho => ⟨(q _ _ (by omega) (by omega) (by omega)).trans (h3 o ho).1, fun z j hj => (q _ _ (by omega) (by omega) (by omega)).trans ((h3 o ho).2 z j hj)⟩⟩
theorem m_fd (hR : RO R s) (hO : TOk t) (h : MSt σ t w) {tr : Nat → Int} (htr : ∀ o, o < nB t → σ 189 o = iI (tr o) ∧ 0 ≤ tr o ∧ tr o ≤ 1439) {r : Nat} (hr : (r : Int) < t 1) {K : SI → Nat → Int32 → Int32 → Int32 → Int32 → Int32 → Option (Int32 × SI)} {sum e last : Int} {c : Nat} (he : 0 ≤ e ∧ e ≤ 1440) (hl : -1 ≤ last ∧ last ≤ 100000) : ∀ (m k n : Nat) (a : Int), k + m = nB t → m < n → (-1 ≤ a ∧ a < k) → f_X12_triedClosed_25 N R K n σ 178 (nI r) (iI sum) (iI e) (iI last) (nI c) (iI a) (nI k) = if lp (fdS t tr r last) k m a = -1 then some (iI sum, σ) else K σ 178 (nI r) (iI (sum + mx 0 (cE t (tr (lp (fdS t tr r last) k m a).toNat) - mx e (tr (lp (fdS t tr r last) k m a).toNat - t 6)))) (iI (mx e (cE t (tr (lp (fdS t tr r last) k m a).toNat)))) (iI (tky tr (lp (fdS t tr r last) k m a).toNat)) (nI (c + 1)) := by
  have hB := nB_c hO
  have hnr := nR_c hO
  have h6 := hO.2.2.2.2.2.1
  have h7 := hO.2.2.2.2.2.2.1
  obtain ⟨hT, hV, hM⟩ := h
  have hkey : ∀ o, o < nB t → (6 : Int32) * iI (tr o) + nI o = iI (tky tr o) := fun o _ => by
    rw [show (6 : Int32) = iI 6 from rfl, iI_nat, iI_mul, iI_add]
    rfl
  have hkr : ∀ o, o < nB t → 0 ≤ tky tr o ∧ tky tr o ≤ 100000 := fun o ho => by
    have := (htr o ho).2
    unfold tky
    omega
  intro m
  induction m with
  | zero =>
    intro k n a hk hm ha
    obtain ⟨n, rfl⟩ : ∃ q, n = q + 1 := ⟨n - 1, by omega⟩
    rw [f_X12_triedClosed_25, m_blasts hR hT, bd_some, if_pos ((iI_leN (by omega)).mpr (by omega)), lp_0]
    by_cases c1 : a = -1
    · rw [if_pos (by rw [c1]; rfl), if_pos c1]
    · obtain ⟨q, rfl⟩ : ∃ q : Nat, a = (q : Int) := ⟨a.toNat, by omega⟩
      obtain ⟨e1, e2, e3⟩ := htr q (by omega)
      have hE := cE_r hO (x := tr q) (by omega)
      have m1 : -60 ≤ mx e (tr q - t 6) ∧ mx e (tr q - t 6) ≤ 1440 := by unfold mx; split <;> omega
      rw [if_neg (by rw [show (-1 : Int32) = iI (-1) from rfl, iI_eq (by omega)]; exact c1), if_neg c1, ← iI_nat, ck_nI (by omega) (by decide), ck_nI (by omega) (by decide), show (6 : Int32) = nI 6 from rfl, show (7 : Int32) = nI 7 from rfl, ck_nI (by decide) (by decide), ck_nI (by omega) (by decide), ck_nI (by decide) (by decide), hR.m20, hR.m11, nI_clamp (by omega), nI_clamp (by decide), nI_clamp (by decide), hT, hT, e1, show nI 6 * iI (tr q) + nI q = iI (tky tr q) from hkey q (by omega), iI_add, iI_sub, show (1440 : Int32) = iI 1440 from rfl, iI_minL (by omega), show (if tr q + t 7 < 1440 then tr q + t 7 else 1440) = cE t (tr q) from rfl, iI_maxR (by omega), iI_maxR (by omega), iI_sub, show (0 : Int32) = iI 0 from rfl, iI_maxR (by omega), iI_add, nI_1]
      rfl
  | succ m ih =>
    intro k n a hk hm ha
    obtain ⟨n, rfl⟩ : ∃ q, n = q + 1 := ⟨n - 1, by omega⟩
    obtain ⟨e1, e2, e3⟩ := htr k (by omega)
    have k1 := hkr k (by omega)
    have i1 := ih (k + 1) n a (by omega) (by omega) (by omega)
    have i2 := ih (k + 1) n (k : Int) (by omega) (by omega) (by omega)
    rw [← iI_nat] at i2
    rw [f_X12_triedClosed_25, m_blasts hR hT, bd_some, if_neg (fun q => absurd ((iI_leN (by omega)).mp q) (by omega)), ck_nI (by omega) (by decide), ck_nI (by omega) (by decide), hR.m22, hR.m20, nI_clamp (by omega), (hM k (by omega)).1, bts_bit _ (show nR t ≤ 8 by omega) (by omega), e1, hkey k (by omega), lp_s]
    dsimp only [f_X12_triedClosed_95, f_X12_triedClosed_99]
    rw [nI_1]
    cases hs : shut t k r
    · rw [bI_f, if_neg (by decide), i1, show fdS t tr r last k a = a from if_neg (fun q => by rw [hs] at q; exact absurd q.1 (by decide))]
    · rw [bI_t, if_pos rfl]
      by_cases c1 : tky tr k ≤ last
      · rw [if_pos ((iI_le (by omega)).mpr c1), i1, show fdS t tr r last k a = a from if_neg (fun q => by have := q.2.1; omega)]
      · rw [if_neg (fun q => c1 ((iI_le (by omega)).mp q))]
        by_cases c2 : a = -1
        · rw [if_pos (by rw [c2]; rfl), i2, show fdS t tr r last k a = (k : Int) from if_pos ⟨hs, by omega, Or.inl c2⟩]
        · obtain ⟨q, rfl⟩ : ∃ q : Nat, a = (q : Int) := ⟨a.toNat, by omega⟩
          obtain ⟨f1, f2, f3⟩ := htr q (by omega)
          have k2 := hkr q (by omega)
          rw [if_neg (by rw [show (-1 : Int32) = iI (-1) from rfl, iI_eq (by omega)]; exact c2), ← iI_nat q, ck_nI (by omega) (by decide), nI_clamp (by omega), f1, hkey q (by omega)]
          rw [← iI_nat q] at i1
          by_cases c3 : tky tr q ≤ tky tr k
          · rw [if_pos ((iI_le (by omega)).mpr c3), i1, show fdS t tr r last k (q : Int) = (q : Int) from if_neg (fun z => by
              rcases z.2.2 with y | y
              · exact c2 y
              · have y : tky tr k < tky tr q := y
                omega)]
          · rw [if_neg (fun z => c3 ((iI_le (by omega)).mp z)), i2, show fdS t tr r last k (q : Int) = (k : Int) from if_pos ⟨hs, by omega, Or.inr (show tky tr k < tky tr q by omega)⟩]
theorem m_tc10 (hN : 2000 ≤ N) (hR : RO R s) (hO : TOk t) (h : MSt σ t w) {tr : Nat → Int} (htr : ∀ o, o < nB t → σ 189 o = iI (tr o) ∧ 0 ≤ tr o ∧ tr o ≤ 1439) {r : Nat} (hr : (r : Int) < t 1) : ∀ (m c n : Nat) (sum e last : Int), c + m = nB t → m < n → TI t tr r c sum e last → f_X12_triedClosed_10 N R n σ 178 (nI r) (iI sum) (iI e) (iI last) (nI c) = some (iI (clo t tr r), σ) := by
  have hB := nB_c hO
  have htr2 : ∀ o, o < nB t → 0 ≤ tr o ∧ tr o ≤ 1439 := fun o ho => (htr o ho).2
  intro m
  induction m with
  | zero =>
    intro c n sum e last hc hm hI
    obtain ⟨n, rfl⟩ : ∃ q, n = q + 1 := ⟨n - 1, by omega⟩
    obtain rfl : c = nB t := by omega
    rw [f_X12_triedClosed_10, m_blasts hR h.1, bd_some, if_pos ((iI_leN (by omega)).mpr (by omega)), TI_all htr2 hI (TI_n hI)]
  | succ m ih =>
    intro c n sum e last hc hm hI
    obtain ⟨n, rfl⟩ : ∃ q, n = q + 1 := ⟨n - 1, by omega⟩
    have hfd := m_fd (N := N) hR hO h htr hr (K := fun σ x0 x1 x2 x3 x4 x5 => f_X12_triedClosed_10 N R n σ x0 x1 x2 x3 x4 x5) (sum := sum) (e := e) (last := last) (c := c) hI.2.1.1 hI.2.2.2 (nB t) 0 N (-1) (by omega) (by omega) (by omega)
    rw [f_X12_triedClosed_10, m_blasts hR h.1, bd_some, if_neg (fun q => absurd ((iI_leN (by omega)).mp q) (by omega)), show (-1 : Int32) = iI (-1) from rfl, l_0, hfd, show lp (fdS t tr r last) 0 (nB t) (-1) = fd t tr r last from rfl]
    rcases fd_p t tr r last with ⟨q1, q2⟩ | ⟨b, q1, q2, q3, q4, q5⟩
    · rw [if_pos q1, TI_all htr2 hI q2]
    · rw [if_neg (by omega), q1]
      exact ih (c + 1) n _ _ _ (by omega) (by omega) (TI_s hO htr2 hI q2 q3 q4 q5)
theorem m_tried (hN : 2000 ≤ N) (hR : RO R s) (hO : TOk t) (h : MSt σ t w) {tr : Nat → Int} (htr : ∀ o, o < nB t → σ 189 o = iI (tr o) ∧ 0 ≤ tr o ∧ tr o ≤ 1439) {r : Nat} (hr : (r : Int) < t 1) : f_X12_triedClosed N R σ 178 (nI r) = some (iI (clo t tr r), σ) := by
  have hB := nB_c hO
  unfold f_X12_triedClosed
  exact m_tc10 (N := N) hN hR hO h htr hr (nB t) 0 N 0 0 (-1) (by omega) (by omega) (TI_0 (fun o ho => (htr o ho).2) r)
theorem m_cp60 (hR : RO R s) {kr : SI → Nat → Int32 → Option (Unit × SI)} : ∀ (m k n : Nat) (σ : SI), k + m = 6 → m < n → ∃ σ', f_X12_seeks_60 N R kr n σ 178 (nI k) = some ((), σ') ∧ (∀ j, σ' 190 j = if k ≤ j ∧ j < 6 then σ 189 j else σ 190 j) ∧ ∀ o j, o ≠ 190 → σ' o j = σ o j := by
  intro m
  induction m with
  | zero =>
    intro k n σ hk hm
    obtain ⟨n, rfl⟩ : ∃ q, n = q + 1 := ⟨n - 1, by omega⟩
    refine ⟨σ, ?_, fun j => by rw [if_neg (by omega)], fun _ _ _ => rfl⟩
    rw [f_X12_seeks_60, if_pos (by rw [show k = 6 by omega]; decide)]
  | succ m ih =>
    intro k n σ hk hm
    obtain ⟨n, rfl⟩ : ∃ q, n = q + 1 := ⟨n - 1, by omega⟩
    obtain ⟨σ', g1, g2, g3⟩ := ih (k + 1) n (up σ 190 k (σ 189 k)) (by omega) (by omega)
    refine ⟨σ', ?_, fun j => ?_, fun o j ho => (g3 o j ho).trans (if_neg (by omega))⟩
    · rw [f_X12_seeks_60, if_neg (by rw [show (6 : Int32) = nI 6 from rfl, nI_leI (by omega) (by omega)]; omega), ck_nI (by omega) (by decide), ck_nI (by omega) (by decide), sq_eq, hR.m20, hR.m21, nI_clamp (by omega), nI_1]
      exact g1
    · rw [g2 j, show up σ 190 k (σ 189 k) 189 j = σ 189 j from if_neg (by omega)]
      unfold up
      by_cases c : j = k
      · rw [if_neg (by omega), if_pos ⟨rfl, c⟩, if_pos (by omega), c]
      · by_cases d : k + 1 ≤ j ∧ j < 6
        · rw [if_pos d, if_pos (by omega)]
        · rw [if_neg d, if_neg (by omega), if_neg (by omega)]
/-- best so far in the reference -/
def MB (σ : SI) (t : Nat → Int) (a : Int × (Nat → Int)) : Prop := (-1 ≤ a.1 ∧ a.1 ≤ 8640) ∧ σ 178 24 = iI a.1 ∧ (a.1 ≠ -1 → ∀ o, o < nB t → σ 190 o = iI (a.2 o))
theorem m_leaf (hN : 2000 ≤ N) (hR : RO R s) (hO : TOk t) (h : MSt σ t w) {tr : Nat → Int} (htr : ∀ o, o < nB t → σ 189 o = iI (tr o) ∧ 0 ≤ tr o ∧ tr o ≤ 1439) {a : Int × (Nat → Int)} (hA : MB σ t a) {kr : SI → Nat → Int32 → Option (Unit × SI)} : ∀ (m k n : Nat), k + m = nR t → m < n → ∃ σ', f_X12_seeks_12 N R kr n σ 178 (iI (sumF (clo t tr) 0 k)) (nI k) = some ((), σ') ∧ MB σ' t (leafS t tr a) ∧ ∀ o j, o ≠ 190 → (o ≠ 178 ∨ j ≠ 24) → σ' o j = σ o j := by
  have hB := nB_c hO
  have hn := nR_c hO
  intro m
  induction m with
  | zero =>
    intro k n hk hm
    obtain ⟨n, rfl⟩ : ∃ q, n = q + 1 := ⟨n - 1, by omega⟩
    obtain rfl : k = nR t := by omega
    have hc := cloA_r hO tr
    obtain ⟨a1, a2, a3⟩ := id hA
    obtain ⟨σ', g1, g2, g3⟩ := m_cp60 (N := N) hR (kr := kr) 6 0 N (up σ 178 24 (iI (cloA t tr))) (by omega) (by omega)
    have e53 : f_X12_seeks_53 N R kr σ 178 (iI (cloA t tr)) = some ((), σ') := by
      unfold f_X12_seeks_53
      rw [sq_eq, l_0]
      exact g1
    rw [f_X12_seeks_12, ck1, hR.m11, cl1, h.1, if_pos ((iI_leN (by omega)).mpr (by omega)), a2, show sumF (clo t tr) 0 (nR t) = cloA t tr from rfl]
    unfold leafS
    by_cases c : a.1 ≠ -1 ∧ a.1 ≤ cloA t tr
    · refine ⟨σ, ?_, by rw [if_pos c]; exact hA, fun _ _ _ _ => rfl⟩
      rw [if_neg (by rw [show (-1 : Int32) = iI (-1) from rfl, iI_eq (by omega)]; exact c.1), if_neg (fun q => absurd ((iI_lt (by omega)).mp q) (by omega))]
    · refine ⟨σ', ?_, ?_, fun o j q1 q2 => (g3 o j q1).trans (if_neg (by omega))⟩
      · by_cases c1 : a.1 = -1
        · rw [if_pos (by rw [c1]; rfl), e53]
        · rw [if_neg (by rw [show (-1 : Int32) = iI (-1) from rfl, iI_eq (by omega)]; exact c1), if_pos ((iI_lt (by omega)).mpr (by omega)), e53]
      · rw [if_neg c]
        refine ⟨by dsimp only; omega, (g3 _ _ (by omega)).trans up_th, fun _ o ho => ?_⟩
        rw [g2 o, if_pos (by omega)]
        exact (if_neg (by omega)).trans (htr o ho).1
  | succ m ih =>
    intro k n hk hm
    obtain ⟨n, rfl⟩ : ∃ q, n = q + 1 := ⟨n - 1, by omega⟩
    obtain ⟨σ', g1, g2, g3⟩ := ih (k + 1) n (by omega) (by omega)
    refine ⟨σ', ?_, g2, g3⟩
    rw [sumF_last, Nat.zero_add] at g1
    rw [f_X12_seeks_12, ck1, hR.m11, cl1, h.1, if_neg (fun q => absurd ((iI_leN (by omega)).mp q) (by omega)), m_tried hN hR hO h htr (by omega), bd_some, iI_add, nI_1]
    exact g1
theorem m_close (hR : RO R s) (hO : TOk t) (hT : TV t σ) (hV : WV w σ) (hW : WOk t w) {tr : Nat → Int} {b : Nat} (hb : b < nB t) (htr : ∀ o, o < b → σ 189 o = iI (tr o) ∧ 0 ≤ tr o ∧ tr o ≤ 1439) {x : Int} (hx : 0 ≤ x ∧ x ≤ 1439) : ∀ (m k n : Nat), k + m = b → m < n → f_X12_isTooClose_2 N R n σ 178 (nI b) (iI x) (nI k) = some (bI (anyN (fun o => decide (tms w o = -1 ∧ (if tr o - x < 0 then -(tr o - x) else tr o - x) < t 8)) k m), σ) := by
  have hB := nB_c hO
  have h8 := hO.2.2.2.2.2.2.2.1
  intro m
  induction m with
  | zero =>
    intro k n hk hm
    obtain ⟨n, rfl⟩ : ∃ q, n = q + 1 := ⟨n - 1, by omega⟩
    rw [f_X12_isTooClose_2, if_pos (by rw [nI_leI (by omega) (by omega)]; omega)]
    rfl
  | succ m ih =>
    intro k n hk hm
    obtain ⟨n, rfl⟩ : ∃ q, n = q + 1 := ⟨n - 1, by omega⟩
    have hw := (hW k (by omega)).1
    obtain ⟨e1, e2, e3⟩ := htr k (by omega)
    have hab := abs_r (z := tr k - x) (by omega)
    rw [f_X12_isTooClose_2, if_neg (by rw [nI_leI (by omega) (by omega)]; omega), m_time hR hV (by omega), bd_some, anyN_s]
    dsimp only [f_X12_isTooClose_39]
    rw [nI_1]
    by_cases c : w (14 * k) = -1
    · rw [if_pos (by rw [c]; rfl), ck_nI (by omega) (by decide), show (8 : Int32) = nI 8 from rfl, ck_nI (by decide) (by decide), nI_clamp (by decide), nI_clamp (by omega), hR.m11, hR.m20, hT, e1, iI_sub, iI_abs (by omega)]
      by_cases d : t 8 ≤ (if tr k - x < 0 then -(tr k - x) else tr k - x)
      · rw [if_pos ((iI_le (by omega)).mpr d), ih (k + 1) n (by omega) (by omega), decide_eq_false (fun q => by have := q.2; omega), Bool.false_or]
      · rw [if_neg (fun q => d ((iI_le (by omega)).mp q)), decide_eq_true ⟨c, by omega⟩, Bool.true_or]
        rfl
    · rw [if_neg (by rw [show (-1 : Int32) = iI (-1) from rfl, iI_eq (by omega)]; exact c), ih (k + 1) n (by omega) (by omega), decide_eq_false (fun q => c q.1), Bool.false_or]
theorem m_seeks (hN : 2000 ≤ N) (hR : RO R s) (hO : TOk t) (hW : WOk t w) (hS : nS t ≤ 12) : ∀ (m b d : Nat) (tr : Nat → Int) (a : Int × (Nat → Int)) (σ : SI), b + m = nB t → m < d → MSt σ t w → (∀ o, o < b → σ 189 o = iI (tr o) ∧ 0 ≤ tr o ∧ tr o ≤ 1439) → MB σ t a → ∃ σ', f_X12_seeks N R d σ 178 (nI b) = some ((), σ') ∧ MB σ' t (seekS t w m b tr a) ∧ (∀ o, o < b → σ' 189 o = σ 189 o) ∧ ∀ o j, o ≠ 189 → o ≠ 190 → (o ≠ 178 ∨ j ≠ 24) → σ' o j = σ o j := by
  have hB := nB_c hO
  have hS1 := nS_r hO
  intro m
  induction m with
  | zero =>
    intro b d tr a σ hb hd h htr hA
    obtain ⟨d, rfl⟩ : ∃ q, d = q + 1 := ⟨d - 1, by omega⟩
    obtain rfl : b = nB t := by omega
    obtain ⟨σ', g1, g2, g3⟩ := m_leaf (N := N) hN hR hO h htr hA (kr := fun σ x0 x1 => f_X12_seeks N R d σ x0 x1) (nR t) 0 N (by omega) (by have := nR_c hO; omega)
    refine ⟨σ', ?_, g2, fun o _ => g3 _ _ (by omega) (by omega), fun o j q1 q2 q3 => g3 o j q2 q3⟩
    rw [f_X12_seeks, m_blasts hR h.1, bd_some, if_pos (by rw [iI_nat]; congr 1; omega)]
    exact g1
  | succ m ih =>
    intro b d tr a σ hb hd h htr hA
    obtain ⟨d, rfl⟩ : ∃ q, d = q + 1 := ⟨d - 1, by omega⟩
    have hbt : (b : Int) < t 2 := by omega
    have hz := (hW b hbt).1
    have row : f_X12_seeks N R (d + 1) σ 178 (nI b) = if tms w b = -1 then f_X12_seeks_115 N R (fun σ x0 x1 => f_X12_seeks N R d σ x0 x1) N σ 178 (nI b) (0 : Int32) else bd (f_X12_seeks N R d (up σ 189 b (iI (tms w b))) 178 (nI (b + 1))) (fun _ σ22 => some ((), σ22)) := by
      rw [f_X12_seeks, m_blasts hR h.1, bd_some, if_neg (by rw [iI_nat, iI_eq (by omega)]; omega), m_time hR h.2.1 (by omega), bd_some, m_time hR h.2.1 (by omega), bd_some, ck_nI (by omega) (by decide), sq_eq, hR.m20, nI_clamp (by omega), show nI b + (1 : Int32) = nI (b + 1) from nI_add b 1]
      by_cases c : tms w b = -1
      · rw [if_pos (by rw [show w (14 * b) = -1 from c]; rfl), if_pos c]
      · rw [if_neg (by rw [show (-1 : Int32) = iI (-1) from rfl, iI_eq (by omega)]; exact c), if_neg c]
        rfl
    rw [row]
    unfold seekS
    by_cases c : tms w b = -1
    · rw [if_pos c, if_neg (fun q => q c)]
      have loop : ∀ (mm k n : Nat) (a : Int × (Nat → Int)) (σ1 : SI), k + mm = nS t → mm < n → (∀ o, o < b → σ1 189 o = σ 189 o) → (∀ o j, o ≠ 189 → o ≠ 190 → (o ≠ 178 ∨ j ≠ 24) → σ1 o j = σ o j) → MB σ1 t a → ∃ σ', f_X12_seeks_115 N R (fun σ x0 x1 => f_X12_seeks N R d σ x0 x1) n σ1 178 (nI b) (nI k) = some ((), σ') ∧ MB σ' t (lp (fun k a => if why t w (tms w) b (stA t k) = 0 ∧ anyN (fun o => decide (tms w o = -1 ∧ (if tr o - stA t k < 0 then -(tr o - stA t k) else tr o - stA t k) < t 8)) 0 b = false then seekS t w m (b + 1) (fun q => if q = b then stA t k else tr q) a else a) k mm a) ∧ (∀ o, o < b → σ' 189 o = σ 189 o) ∧ ∀ o j, o ≠ 189 → o ≠ 190 → (o ≠ 178 ∨ j ≠ 24) → σ' o j = σ o j := by
        intro mm
        induction mm with
        | zero =>
          intro k n a σ1 hk hm f1 f2 hA1
          obtain ⟨n, rfl⟩ : ∃ q, n = q + 1 := ⟨n - 1, by omega⟩
          have h1 : MSt σ1 t w := h.fr f2
          refine ⟨σ1, ?_, hA1, f1, f2⟩
          rw [f_X12_seeks_115, m_starts hR h1.1 hO, bd_some, if_pos ((iI_leN (by omega)).mpr (by omega))]
        | succ mm ihm =>
          intro k n a σ1 hk hm f1 f2 hA1
          obtain ⟨n, rfl⟩ : ∃ q, n = q + 1 := ⟨n - 1, by omega⟩
          have h1 : MSt σ1 t w := h.fr f2
          have htr1 : ∀ o, o < b → σ1 189 o = iI (tr o) ∧ 0 ≤ tr o ∧ tr o ≤ 1439 := fun o ho => ⟨(f1 o ho).trans (htr o ho).1, (htr o ho).2⟩
          have hsA := stA_r hO (k := k) (by omega)
          have ecl : f_X12_isTooClose N R σ1 178 (nI b) (iI (stA t k)) = some (bI (anyN (fun o => decide (tms w o = -1 ∧ (if tr o - stA t k < 0 then -(tr o - stA t k) else tr o - stA t k) < t 8)) 0 b), σ1) := by
            unfold f_X12_isTooClose
            exact m_close (N := N) hR hO h1.1 h1.2.1 hW (by omega) htr1 hsA b 0 N (by omega) (by omega)
          obtain ⟨σs, s1, s2, s3, s4⟩ := ihm (k + 1) n a σ1 (by omega) (by omega) f1 f2 hA1
          rw [f_X12_seeks_115, m_starts hR h1.1 hO, bd_some, if_neg (fun q => absurd ((iI_leN (by omega)).mp q) (by omega)), show (12 : Int32) * nI b + nI k = nI (12 * b + k) from (by rw [show (12 : Int32) = nI 12 from rfl, nI_mul, nI_add]), ck_nI (by omega) (by decide), hR.m23, nI_clamp (by omega), (h1.2.2 b (by omega)).2 c k (by omega), m_startAt hR h1.1, bd_some, ecl, bd_some, m_startAt hR h1.1, bd_some, ck_nI (by omega) (by decide), sq_eq, hR.m20, nI_clamp (by omega), lp_s]
          dsimp only [f_X12_seeks_171]
          rw [show nI k + (1 : Int32) = nI (k + 1) from nI_add k 1, show nI b + (1 : Int32) = nI (b + 1) from nI_add b 1]
          by_cases cw : why t w (tms w) b (stA t k) = 0
          · rw [decide_eq_true cw, bI_t, if_neg (by decide)]
            cases hcl : anyN (fun o => decide (tms w o = -1 ∧ (if tr o - stA t k < 0 then -(tr o - stA t k) else tr o - stA t k) < t 8)) 0 b
            · rw [bI_f, if_pos rfl, if_pos ⟨cw, rfl⟩]
              have f16 : ∀ o j, o ≠ 189 → up σ1 189 b (iI (stA t k)) o j = σ1 o j := fun o j q => if_neg (by omega)
              obtain ⟨σ17, g1, g2, g3, g4⟩ := ih (b + 1) d (fun q => if q = b then stA t k else tr q) a (up σ1 189 b (iI (stA t k))) (by omega) (by omega) (h1.fr (fun o j q1 _ _ => f16 o j q1)) (fun o ho => by
                unfold up
                by_cases e : o = b
                · rw [if_pos ⟨rfl, e⟩, if_pos e]
                  exact ⟨rfl, hsA⟩
                · rw [if_neg (by omega), if_neg e]
                  exact htr1 o (by omega)) ⟨hA1.1, (f16 _ _ (by omega)).trans hA1.2.1, fun q o ho => (f16 _ _ (by omega)).trans (hA1.2.2 q o ho)⟩
              obtain ⟨σ', i1, i2, i3, i4⟩ := ihm (k + 1) n _ σ17 (by omega) (by omega) (fun o ho => (g3 o (by omega)).trans ((if_neg (by omega)).trans (f1 o ho))) (fun o j q1 q2 q3 => (g4 o j q1 q2 q3).trans ((f16 o j q1).trans (f2 o j q1 q2 q3))) g2
              refine ⟨σ', ?_, i2, i3, i4⟩
              rw [g1, bd_some]
              exact i1
            · rw [bI_t, if_neg (by decide), if_neg (fun q => by cases q.2)]
              exact ⟨σs, s1, s2, s3, s4⟩
          · rw [decide_eq_false cw, bI_f, if_pos rfl, if_neg (fun q => cw q.1)]
            exact ⟨σs, s1, s2, s3, s4⟩
      exact loop (nS t) 0 N a σ (by omega) (by omega) (fun _ _ => rfl) (fun _ _ _ _ _ => rfl) hA
    · rw [if_neg c, if_pos c]
      have f16 : ∀ o j, o ≠ 189 → up σ 189 b (iI (tms w b)) o j = σ o j := fun o j q => if_neg (by omega)
      have hr := tms_r hW hbt c
      obtain ⟨σ17, g1, g2, g3, g4⟩ := ih (b + 1) d (fun q => if q = b then tms w b else tr q) a (up σ 189 b (iI (tms w b))) (by omega) (by omega) (h.fr (fun o j q1 _ _ => f16 o j q1)) (fun o ho => by
        unfold up
        by_cases e : o = b
        · rw [if_pos ⟨rfl, e⟩, if_pos e]
          exact ⟨rfl, hr⟩
        · rw [if_neg (by omega), if_neg e]
          exact htr o (by omega)) ⟨hA.1, (f16 _ _ (by omega)).trans hA.2.1, fun q o ho => (f16 _ _ (by omega)).trans (hA.2.2 q o ho)⟩
      refine ⟨σ17, ?_, g2, fun o ho => (g3 o (by omega)).trans (if_neg (by omega)), fun o j q1 q2 q3 => (g4 o j q1 q2 q3).trans (f16 o j q1)⟩
      rw [g1, bd_some]
theorem m_lays (hN : 2000 ≤ N) (hR : RO R s) (hT : TV t σ) (hV : WV w σ) (hO : TOk t) (hW : WOk t w) (hS : nS t ≤ 12) : ∃ σ', f_X12_laysPlan N R σ 178 = some ((), σ') ∧ MB σ' t (seekS t w (nB t) 0 (fun _ => -1) (-1, fun _ => -1)) ∧ Same σ σ' ∧ σ' 178 0 = σ 178 0 := by
  have hB := nB_c hO
  obtain ⟨σ1, a1, a2, a3, a4, a5⟩ := m_lp7 (N := N) hN hR hO hW hS (nB t) 0 N (up σ 178 24 (-1)) (by omega) (by omega) (fun q => (if_neg (by omega)).trans (hT q)) (fun q => (if_neg (by omega)).trans (hV q))
  have h1 : MSt σ1 t w := ⟨fun q => (a5 _ _ (by omega) (by omega)).trans ((if_neg (by omega)).trans (hT q)), fun q => (a5 _ _ (by omega) (by omega)).trans ((if_neg (by omega)).trans (hV q)), fun o ho => a2 o (by omega) ho⟩
  obtain ⟨σ2, b1, b2, b3, b4⟩ := m_seeks hN hR hO hW hS (nB t) 0 12 (fun _ => -1) (-1, fun _ => -1) σ1 (by omega) (by omega) h1 (fun o ho => by omega) ⟨by dsimp only; omega, (a5 _ _ (by omega) (by omega)).trans up_th, fun q => absurd rfl q⟩
  refine ⟨σ2, ?_, b2, fun o j q => ?_, (b4 _ _ (by omega) (by omega) (by omega)).trans ((a5 _ _ (by omega) (by omega)).trans (if_neg (by omega)))⟩
  · unfold f_X12_laysPlan
    have b1 : f_X12_seeks N R 12 σ1 178 (0 : Int32) = some ((), σ2) := b1
    rw [sq_eq, l_0, a1, b1, bd_some]
  · unfold Sc at q
    rw [b4 o j (by omega) (by omega) (by omega), a5 o j (by omega) (by omega)]
    exact if_neg (by omega)
theorem m_cannot (hN : 2000 ≤ N) (hR : RO R s) (hT : TV t σ) (hV : WV w σ) (hO : TOk t) (hW : WOk t w) (c : Int32) : (okP t w → f_X12_cannotPlan N R σ 178 c = some (0, σ)) ∧ (¬ okP t w → f_X12_cannotPlan N R σ 178 c = some (1, up σ 178 0 c)) := by
  have hB := nB_c hO
  have hS := nS_r hO
  have hl := opL_le w (nB t) 0
  have e : iI (t 2) - iI (nT (tms w) (nB t)) = nI (opL w 0 (nB t)).length := by
    have h := opL_len w (nB t) 0
    rw [iI_sub, iI_nat]
    congr 1
    unfold nT
    omega
  have row : f_X12_cannotPlan N R σ 178 c = if (opL w 0 (nB t)).length ≤ 4 then (if nS t ≤ 12 then some (0, σ) else some (1, up σ 178 0 c)) else some (1, up σ 178 0 c) := by
    unfold f_X12_cannotPlan
    rw [m_blasts hR hT, bd_some, m_timed hN hR hT hV hO hW, bd_some, e, m_throws1, bd_some, cb_1, m_starts hR hT hO, bd_some, m_throws0, bd_some, cb_0]
    by_cases c1 : (opL w 0 (nB t)).length ≤ 4
    · rw [if_neg (by rw [show (4 : Int32) = nI 4 from rfl, nI_ltI (by omega) (by omega)]; omega), if_pos c1]
      by_cases c2 : nS t ≤ 12
      · rw [if_pos (by rw [show (12 : Int32) = nI 12 from rfl, ← iI_nat, nI_leI (by omega) (by omega)]; exact c2), if_pos c2]
      · rw [if_neg (by rw [show (12 : Int32) = nI 12 from rfl, ← iI_nat, nI_leI (by omega) (by omega)]; exact c2), if_neg c2, m_throws1, bd_some, cb_1]
    · rw [if_pos (by rw [show (4 : Int32) = nI 4 from rfl, nI_ltI (by omega) (by omega)]; omega), if_neg c1]
  rw [row]
  refine ⟨fun h => by rw [if_pos h.1, if_pos h.2], fun h => ?_⟩
  by_cases c1 : (opL w 0 (nB t)).length ≤ 4
  · rw [if_pos c1, if_neg (fun q => h ⟨c1, q⟩)]
  · rw [if_neg c1]
end PLM
