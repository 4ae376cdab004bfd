/-! ===== the call format ===== -/
def tmL (x : Int) (L : List Int32) : List Int32 := if x = -1 then L ++ [45] else ((dg (x.toNat / 60) L ++ [58]) ++ [(48 : Int32) + ((iI x - iI x / (60 : Int32) * (60 : Int32)) / (10 : Int32))]) ++ [(48 : Int32) + (iI x - iI x / (10 : Int32) * (10 : Int32))]
theorem ap1 (L : List Int32) (c : Int32) : (L ++ [c]).length = L.length + 1 := by simp
theorem tmL_len (x : Int) (L : List Int32) : (tmL x L).length ≤ L.length + 8 := by
  unfold tmL
  have := dg_len (x.toNat / 60) L
  split
  · rw [ap1]
    omega
  · rw [ap1, ap1, ap1]
    omega
theorem tx11 (L : List Int32) : lp (txf 11) 0 2 L = (L ++ [32]) ++ [119] := by
  show (L ++ [chS 11 (nI 0)]) ++ [chS 11 (nI 1)] = _
  rw [show chS 11 (nI 0) = 32 by decide, show chS 11 (nI 1) = 119 by decide]
theorem tx12 (L : List Int32) : lp (txf 12) 0 2 L = (L ++ [32]) ++ [114] := by
  show (L ++ [chS 12 (nI 0)]) ++ [chS 12 (nI 1)] = _
  rw [show chS 12 (nI 0) = 32 by decide, show chS 12 (nI 1) = 114 by decide]
def shb (t : Nat → Int) (b : Nat) : Nat → Bool := b8 (decide (0 < nR t) && shut t b 0) (decide (1 < nR t) && shut t b 1) (decide (2 < nR t) && shut t b 2) (decide (3 < nR t) && shut t b 3) (decide (4 < nR t) && shut t b 4) (decide (5 < nR t) && shut t b 5) (decide (6 < nR t) && shut t b 6) (decide (7 < nR t) && shut t b 7)
def shN (t : Nat → Int) (b : Nat) : Nat := (cnt (shb t b) 0 6).toNat
section FMT2
variable {N : Nat} {R : Nat → Nat → Nat} {s : Nat} {t w : Nat → Int} {σ : SI}
theorem shN_c (t : Nat → Int) (b : Nat) : iI (cnt (shb t b) 0 6) = nI (shN t b) ∧ shN t b ≤ 6 := by
  have h := cnt_r (shb t b) 6 0
  unfold shN
  rw [iI_nat]
  refine ⟨?_, by omega⟩
  congr 1
  omega
theorem bitC_sh (hO : TOk t) (b : Nat) : bitC (bts (shut t b) 0 (nR t) 0) = nI (shN t b) := by
  have hn := nR_c hO
  rw [bts_8 _ _ (by omega), ← (shN_c t b).1]
  unfold shb
  rw [decide_eq_false (show ¬ 6 < nR t by omega), decide_eq_false (show ¬ 7 < nR t by omega), Bool.false_and, Bool.false_and]
  exact bitC_dec _ _ _ _ _ _
theorem c_time (hN : 2000 ≤ N) (hR : RO R s) {L : List Int32} (hL : L.length ≤ 20) (h : CTx σ L) {x : Int} (hx : -1 ≤ x ∧ x ≤ 1439) : ∃ σ', f_X1_addTime N R σ 29 (iI x) = some ((), σ') ∧ CTx σ' (tmL x L) ∧ ∀ o j, o ≠ 29 → o ≠ 30 → σ' o j = σ o j := by
  unfold f_X1_addTime tmL
  by_cases c : x = -1
  · obtain ⟨σ1, a1, a2, a3⟩ := c_put (N := N) hR (by omega) h 45
    rw [if_pos (by rw [c]; rfl), if_pos c, a1, bd_some]
    exact ⟨σ1, rfl, a2, a3⟩
  · have e60 : iI x / (60 : Int32) = nI (x.toNat / 60) := by
      rw [show (60 : Int32) = iI 60 from rfl, iI_div (by omega) (by omega), iI_nat]
      congr 1
      omega
    obtain ⟨σ1, a1, a2, a3⟩ := c_num (N := N) hN hR (by omega) h (v := x.toNat / 60) (by omega)
    have l1 := dg_len (x.toNat / 60) L
    obtain ⟨σ2, b1, b2, b3⟩ := c_put (N := N) hR (by omega) a2 58
    have l2 := ap1 (dg (x.toNat / 60) L) 58
    obtain ⟨σ3, c1, c2, c3⟩ := c_put (N := N) hR (by omega) b2 ((48 : Int32) + ((iI x - iI x / (60 : Int32) * (60 : Int32)) / (10 : Int32)))
    have l3 := ap1 (dg (x.toNat / 60) L ++ [58]) ((48 : Int32) + ((iI x - iI x / (60 : Int32) * (60 : Int32)) / (10 : Int32)))
    obtain ⟨σ4, d1, d2, d3⟩ := c_put (N := N) hR (by omega) c2 ((48 : Int32) + (iI x - iI x / (10 : Int32) * (10 : Int32)))
    refine ⟨σ4, ?_, by rw [if_neg c]; exact d2, fun o j h1 h2 => (d3 o j h1 h2).trans ((c3 o j h1 h2).trans ((b3 o j h1 h2).trans (a3 o j h1 h2)))⟩
    rw [if_neg (by rw [show (-1 : Int32) = iI (-1) from rfl, iI_eq (by omega)]; exact c)]
    rw [← e60] at a1
    rw [a1, bd_some, b1, bd_some, c1, bd_some, d1, bd_some]
/-- the whole text -/
def fmN (t : Nat → Int) (b : Nat) : List Int32 := lp (nmf t b) 0 6 []
def fmA (t w : Nat → Int) (b : Nat) : List Int32 := (tmL (w (14 * b)) (fmN t b ++ [32]) ++ [32]) ++ [119]
def fmB (t w : Nat → Int) (b : Nat) : List Int32 := (dg (win t w b).toNat (fmA t w b) ++ [32]) ++ [114]
def fmC (t w : Nat → Int) (b : Nat) : List Int32 := dg (shN t b) (fmB t w b)
def fmD (t w : Nat → Int) (b : Nat) : List Int32 := if w (14 * b + 1) = 0 then fmC t w b else lp (txf 10) 0 6 (fmC t w b)
theorem fm_len (t w : Nat → Int) (b : Nat) : (fmN t b).length ≤ 6 ∧ (fmA t w b).length ≤ 17 ∧ (fmB t w b).length ≤ 24 ∧ (fmC t w b).length ≤ 29 ∧ (fmD t w b).length ≤ 35 := by
  have h1 : (fmN t b).length ≤ 6 := by
    have := nmf_len (t := t) (b := b) 6 0 []
    unfold fmN
    simp only [List.length_nil] at this
    omega
  have h2 : (fmA t w b).length ≤ 17 := by
    unfold fmA
    have := tmL_len (w (14 * b)) (fmN t b ++ [32])
    rw [ap1] at this
    rw [ap1, ap1]
    omega
  have h3 : (fmB t w b).length ≤ 24 := by
    unfold fmB
    have := dg_len (win t w b).toNat (fmA t w b)
    rw [ap1, ap1]
    omega
  have h4 : (fmC t w b).length ≤ 29 := by
    unfold fmC
    have := dg_len (shN t b) (fmB t w b)
    omega
  refine ⟨h1, h2, h3, h4, ?_⟩
  unfold fmD
  split
  · omega
  · rw [txf_len]
    omega
theorem c_write (hN : 2000 ≤ N) (h : Iv σ R s t w) {b : Nat} (hb : (b : Int) < t 2) : ∃ σ', f_X1_write N R σ 29 (σ (s + 6) b) (σ (s + 7) b) (s + 40 + 5 * b) = some ((), σ') ∧ CTx σ' (fmD t w b) ∧ ∀ o j, o ≠ 29 → o ≠ 30 → σ' o j = σ o j := by
  have hR := h.ro
  have hO := h.tok
  have hs := hR.1
  have hB := nB_c hO
  have hw := h.wok b hb
  have hn := winG_r hO hb (dl w b)
  rw [← win_G] at hn
  have hcell := (hO.b hb).2.2.2.2.2
  obtain ⟨p1, p2⟩ := pk_nm hcell 6 0 0 [] (by omega) (by decide) (by decide)
  have ep : σ (s + 6) b = nI (lp (pkf t b) 0 6 0) := by
    rw [(h.cq.2.2.2.2 b hb).2.2.2.2.2]
    exact pk_nat hcell 6 0 0 (by omega)
  obtain ⟨l1, l2, l3, l4, l5⟩ := fm_len t w b
  have g0 : CTx (up σ 29 1 0) [] := ⟨up_th, fun j hj => absurd hj (Nat.not_lt_zero j)⟩
  obtain ⟨σ1, a1, a2, a3⟩ := c_nm (N := N) hR p1 6 N [] (up σ 29 1 0) (by omega) (by omega) (by decide) g0
  rw [p2] at a2
  have a2 : CTx σ1 (fmN t b) := a2
  obtain ⟨σ2, b1, b2, b3⟩ := c_put (N := N) hR (by omega) a2 32
  have m2 := ap1 (fmN t b) 32
  obtain ⟨σ3, c1, c2, c3⟩ := c_time (N := N) hN hR (by omega) b2 hw.1
  have m3 := tmL_len (w (14 * b)) (fmN t b ++ [32])
  obtain ⟨σ4, d1, d2, d3⟩ := c_put (N := N) hR (by omega) c2 32
  have m4 := ap1 (tmL (w (14 * b)) (fmN t b ++ [32])) 32
  obtain ⟨σ5, e1, e2, e3⟩ := c_put (N := N) hR (by omega) d2 119
  have e2 : CTx σ5 (fmA t w b) := e2
  obtain ⟨σ6, f1, f2, f3⟩ := c_num (N := N) hN hR (by omega) e2 (v := (win t w b).toNat) (by omega)
  have m6 := dg_len (win t w b).toNat (fmA t w b)
  obtain ⟨σ7, i1, i2, i3⟩ := c_put (N := N) hR (by omega) f2 32
  have m7 := ap1 (dg (win t w b).toNat (fmA t w b)) 32
  obtain ⟨σ8, j1, j2, j3⟩ := c_put (N := N) hR (by omega) i2 114
  have j2 : CTx σ8 (fmB t w b) := j2
  have hsh := (shN_c t b).2
  obtain ⟨σ9, k1, k2, k3⟩ := c_num (N := N) hN hR (by omega) j2 (v := shN t b) (by omega)
  have k2 : CTx σ9 (fmC t w b) := k2
  have f0 : ∀ o j, o ≠ 29 → o ≠ 30 → σ5 o j = σ o j := fun o j h1 h2 => (e3 o j h1 h2).trans ((d3 o j h1 h2).trans ((c3 o j h1 h2).trans ((b3 o j h1 h2).trans ((a3 o j h1 h2).trans (if_neg (by omega))))))
  have f8 : ∀ o j, o ≠ 29 → o ≠ 30 → σ8 o j = σ o j := fun o j h1 h2 => (j3 o j h1 h2).trans ((i3 o j h1 h2).trans ((f3 o j h1 h2).trans (f0 o j h1 h2)))
  have f9 : ∀ o j, o ≠ 29 → o ≠ 30 → σ9 o j = σ o j := fun o j h1 h2 => (k3 o j h1 h2).trans (f8 o j h1 h2)
  have ew : σ5 (s + 40 + 5 * b) 8 = nI (win t w b).toNat := by
    rw [f0 _ _ (by omega) (by omega), (h.cw b hb).1, iI_nat]
    congr 1
    omega
  have eb : bitC (σ8 (s + 40 + 5 * b) 11) = nI (shN t b) := by
    rw [f8 _ _ (by omega) (by omega), (h.cd b hb).1, bitC_sh hO]
  have ef : σ9 (s + 40 + 5 * b) 13 = iI (w (14 * b + 1)) := (f9 _ _ (by omega) (by omega)).trans (h.cs b hb).2.1
  have a1 : f_X1_addName_3 N R N (up σ 29 1 0) 29 (nI (lp (pkf t b) 0 6 0)) (25 : Int32) = some ((), σ1) := a1
  have hrow : f_X1_write N R σ 29 (σ (s + 6) b) (σ (s + 7) b) (s + 40 + 5 * b) = if iI (w (14 * b + 1)) = 0 then some ((), σ9) else bd (f_X1_addText N R σ9 29 10) (fun _ σ12 => some ((), σ12)) := by
    unfold f_X1_write f_X1_addName
    rw [ep, (h.cs b hb).1, sq_eq, a1, bd_some, b1, bd_some, c1, bd_some, d1, bd_some, e1, bd_some, ew, f1, bd_some, i1, bd_some, j1, bd_some, eb, k1, bd_some, ef]
  rw [hrow]
  unfold fmD
  by_cases cf : w (14 * b + 1) = 0
  · rw [if_pos (by rw [cf]; rfl), if_pos cf]
    exact ⟨σ9, rfl, k2, f9⟩
  · obtain ⟨σ10, x1, x2, x3⟩ := c_text (N := N) hR (q := 10) (len := 6) (by decide) (by decide) (by omega) 6 0 N (fmC t w b) σ9 (by omega) (by omega) (by omega) k2
    have hwf := hw.2.1
    rw [if_neg (by rw [show (0 : Int32) = iI 0 from rfl, iI_eq (by omega)]; exact cf), if_neg cf]
    refine ⟨σ10, ?_, x2, fun o j h1 h2 => (x3 o j h1 h2).trans (f9 o j h1 h2)⟩
    unfold f_X1_addText
    rw [l_0, x1, bd_some]
theorem m_167 (hR : RO R s) (hO : TOk t) (b : Nat) : ∀ (m k n : Nat) (acc : Int), k + m = 6 → m < n → f_X12_format_167 N R n σ 178 (nI b) (bts (shut t b) 0 (nR t) 0) (iI acc) (nI k) = bd (f_X12_saysNumber N R 12 σ 178 (iI (acc + cnt (shb t b) k m))) (fun _ σ22 => bd (f_X12_hasFired N R σ22 178 (nI b)) (fun a23 σ23 => if a23 = 0 then (some (σ23 178 26, σ23)) else (bd (f_X12_saysWord N R σ23 178 10) (fun _ σ25 => some (σ25 178 26, σ25))))) := by
  have hn := nR_c hO
  intro m
  induction m with
  | zero =>
    intro k n acc hk hm
    obtain ⟨n, rfl⟩ : ∃ q, n = q + 1 := ⟨n - 1, by omega⟩
    rw [f_X12_format_167, if_pos (by rw [show k = 6 by omega]; decide), show cnt (shb t b) k 0 = 0 from rfl, Int.add_zero]
  | succ m ih =>
    intro k n acc hk hm
    obtain ⟨n, rfl⟩ : ∃ q, n = q + 1 := ⟨n - 1, by omega⟩
    have e : ((bts (shut t b) 0 (nR t) 0 >>> (nI k &&& 31)) &&& (1 : Int32)) = iI (if shb t b k then 1 else 0) := by
      rw [bts_8 _ _ (show nR t ≤ 8 by omega), (bts_dec _ _ _ _ _ _ _ _).1 k (by omega)]
      show bI (shb t b k) = _
      cases shb t b k <;> rfl
    rw [f_X12_format_167, if_neg (by rw [show (6 : Int32) = nI 6 from rfl, nI_leI (by omega) (by omega)]; omega), e, iI_add, nI_1, ih (k + 1) n _ (by omega) (by omega), cnt_s, Int.add_assoc]
theorem m_132 (hN : 2000 ≤ N) (hR : RO R s) (hT : TV t σ) (hV : WV w σ) (hO : TOk t) (hW : WOk t w) {b : Nat} (hb : (b : Int) < t 2) (h : MTx σ (tmL (w (14 * b)) (fmN t b ++ [32]))) : ∃ σ', f_X12_format_132 N R σ 178 (nI b) = some (nI (fmD t w b).length, σ') ∧ MTx σ' (fmD t w b) ∧ ∀ o j, o ≠ 193 → (o ≠ 178 ∨ j ≠ 26) → σ' o j = σ o j := by
  have hB := nB_c hO
  have hnr := nR_c hO
  have hn := winG_r hO hb (dl w b)
  rw [← win_G] at hn
  obtain ⟨l1, l2, l3, l4, l5⟩ := fm_len t w b
  have m2 := ap1 (fmN t b) 32
  have m3 := tmL_len (w (14 * b)) (fmN t b ++ [32])
  obtain ⟨σ1, a1, a2, a3⟩ := m_text (N := N) hR (q := 11) (len := 2) (by decide) (by decide) (by omega) 2 0 N _ σ (by omega) (by omega) (by omega) h
  rw [tx11] at a2
  have a2 : MTx σ1 (fmA t w b) := a2
  have T1 : TV t σ1 := fun k => (a3 _ _ (by omega) (by omega)).trans (hT k)
  have V1 : WV w σ1 := fun k => (a3 _ _ (by omega) (by omega)).trans (hV k)
  obtain ⟨σ2, b1, b2, b3⟩ := m_num (N := N) hR 12 (win t w b).toNat (fmA t w b) σ1 (by omega) (by omega) (by omega) (by omega) a2
  have m6 := dg_len (win t w b).toNat (fmA t w b)
  obtain ⟨σ3, c1, c2, c3⟩ := m_text (N := N) hR (q := 12) (len := 2) (by decide) (by decide) (by omega) 2 0 N _ σ2 (by omega) (by omega) (by omega) b2
  rw [tx12] at c2
  have c2 : MTx σ3 (fmB t w b) := c2
  have hsh := shN_c t b
  obtain ⟨σ4, d1, d2, d3⟩ := m_num (N := N) hR 12 (shN t b) (fmB t w b) σ3 (by omega) (by omega) (by omega) (by omega) c2
  have d2 : MTx σ4 (fmC t w b) := d2
  have f3 : ∀ o j, o ≠ 193 → (o ≠ 178 ∨ j ≠ 26) → σ3 o j = σ o j := fun o j h1 h2 => (c3 o j h1 h2).trans ((b3 o j h1 h2).trans (a3 o j h1 h2))
  have f4 : ∀ o j, o ≠ 193 → (o ≠ 178 ∨ j ≠ 26) → σ4 o j = σ o j := fun o j h1 h2 => (d3 o j h1 h2).trans (f3 o j h1 h2)
  have T3 : TV t σ3 := fun k => (f3 _ _ (by omega) (by omega)).trans (hT k)
  have V4 : WV w σ4 := fun k => (f4 _ _ (by omega) (by omega)).trans (hV k)
  have es : f_X12_shutBy N R σ3 178 (nI b) = some (bts (shut t b) 0 (nR t) 0, σ3) := by
    unfold f_X12_shutBy
    exact m_shutBy (N := N) hR T3 hO hb (nR t) 0 N 0 (by omega) (by omega)
  have ew : iI (win t w b) = nI (win t w b).toNat := by
    rw [iI_nat]
    congr 1
    omega
  have e7 := m_167 (N := N) (σ := σ3) hR hO b 6 0 N 0 (by omega) (by omega)
  rw [Int.zero_add, hsh.1, d1, bd_some, m_hasFired hR V4 (by omega) (hW b hb).2.1, bd_some] at e7
  have e7 : f_X12_format_167 N R N σ3 178 (nI b) (bts (shut t b) 0 (nR t) 0) (0 : Int32) (0 : Int32) = _ := e7
  have a1 : f_X12_saysWord N R σ 178 11 = some ((), σ1) := a1
  have c1 : f_X12_saysWord N R σ2 178 12 = some ((), σ3) := c1
  have hrow : f_X12_format_132 N R σ 178 (nI b) = if iI (w (14 * b + 1)) = 0 then some (σ4 178 26, σ4) else bd (f_X12_saysWord N R σ4 178 10) (fun _ σ25 => some (σ25 178 26, σ25)) := by
    unfold f_X12_format_132
    rw [a1, bd_some, m_window hN hR T1 V1 hO hW hb, bd_some, ew, b1, bd_some, c1, bd_some, es, bd_some, e7]
  rw [hrow]
  unfold fmD at l5 ⊢
  by_cases cf : w (14 * b + 1) = 0
  · rw [if_pos (by rw [cf]; rfl), if_pos cf, d2.1]
    exact ⟨σ4, rfl, d2, f4⟩
  · obtain ⟨σ5, x1, x2, x3⟩ := m_text (N := N) hR (q := 10) (len := 6) (by decide) (by decide) (by omega) 6 0 N (fmC t w b) σ4 (by omega) (by omega) (by omega) d2
    have hwf := (hW b hb).2.1
    have x1 : f_X12_saysWord N R σ4 178 10 = some ((), σ5) := x1
    rw [if_neg (by rw [show (0 : Int32) = iI 0 from rfl, iI_eq (by omega)]; exact cf), if_neg cf, x1, bd_some, x2.1]
    exact ⟨σ5, rfl, x2, fun o j h1 h2 => (x3 o j h1 h2).trans (f4 o j h1 h2)⟩
theorem m_fmt (hN : 2000 ≤ N) (hR : RO R s) (hT : TV t σ) (hV : WV w σ) (hO : TOk t) (hW : WOk t w) {b : Nat} (hb : (b : Int) < t 2) (h : MTx σ []) : ∃ σ', f_X12_format_22 N R N σ 178 (nI b) 0 = some (nI (fmD t w b).length, σ') ∧ MTx σ' (fmD t w b) ∧ ∀ o j, o ≠ 193 → (o ≠ 178 ∨ j ≠ 26) → σ' o j = σ o j := by
  have hB := nB_c hO
  have hw := (hW b hb).1
  obtain ⟨l1, l2, l3, l4, l5⟩ := fm_len t w b
  obtain ⟨σ1, n', a1, a2, a3⟩ := m_nm (N := N) hR hO hb 6 0 N [] σ (by omega) (by omega) (by decide) hT h
  have a2 : MTx σ1 (fmN t b) := a2
  obtain ⟨σ2, b1, b2, b3⟩ := m_put (N := N) hR (by omega) a2 32
  have m2 := ap1 (fmN t b) 32
  have f2 : ∀ o j, o ≠ 193 → (o ≠ 178 ∨ j ≠ 26) → σ2 o j = σ o j := fun o j h1 h2 => (b3 o j h1 h2).trans (a3 o j h1 h2)
  have T2 : TV t σ2 := fun k => (f2 _ _ (by omega) (by omega)).trans (hT k)
  have V2 : WV w σ2 := fun k => (f2 _ _ (by omega) (by omega)).trans (hV k)
  have a1 : f_X12_format_22 N R N σ 178 (nI b) 0 = f_X12_format_22 N R (n' + 1) σ1 178 (nI b) (6 : Int32) := a1
  rw [a1, f_X12_format_22, if_pos (by decide), b1, bd_some, m_time hR V2 (by omega), bd_some]
  by_cases c : w (14 * b) = -1
  · obtain ⟨σ3, c1, c2, c3⟩ := m_put (N := N) hR (by omega) b2 45
    have et : tmL (w (14 * b)) (fmN t b ++ [32]) = (fmN t b ++ [32]) ++ [45] := if_pos c
    have f3 : ∀ o j, o ≠ 193 → (o ≠ 178 ∨ j ≠ 26) → σ3 o j = σ o j := fun o j h1 h2 => (c3 o j h1 h2).trans (f2 o j h1 h2)
    obtain ⟨σ', d1, d2, d3⟩ := m_132 hN hR (fun k => (f3 _ _ (by omega) (by omega)).trans (hT k)) (fun k => (f3 _ _ (by omega) (by omega)).trans (hV k)) hO hW hb (by rw [et]; exact c2)
    refine ⟨σ', ?_, d2, fun o j h1 h2 => (d3 o j h1 h2).trans (f3 o j h1 h2)⟩
    rw [if_pos (by rw [c]; rfl), c1, bd_some]
    exact d1
  · have e60 : iI (w (14 * b)) / (60 : Int32) = nI ((w (14 * b)).toNat / 60) := by
      rw [show (60 : Int32) = iI 60 from rfl, iI_div (by omega) (by omega), iI_nat]
      congr 1
      omega
    obtain ⟨σ3, c1, c2, c3⟩ := m_num (N := N) hR 12 ((w (14 * b)).toNat / 60) (fmN t b ++ [32]) σ2 (by omega) (by omega) (by omega) (by omega) b2
    have m3 := dg_len ((w (14 * b)).toNat / 60) (fmN t b ++ [32])
    obtain ⟨σ4, d1, d2, d3⟩ := m_put (N := N) hR (by omega) c2 58
    have m4 := ap1 (dg ((w (14 * b)).toNat / 60) (fmN t b ++ [32])) 58
    have f4 : ∀ o j, o ≠ 193 → (o ≠ 178 ∨ j ≠ 26) → σ4 o j = σ o j := fun o j h1 h2 => (d3 o j h1 h2).trans ((c3 o j h1 h2).trans (f2 o j h1 h2))
    have V4 : WV w σ4 := fun k => (f4 _ _ (by omega) (by omega)).trans (hV k)
    obtain ⟨σ5, e1, e2, e3⟩ := m_put (N := N) hR (by omega) d2 ((48 : Int32) + ((iI (w (14 * b)) - iI (w (14 * b)) / (60 : Int32) * (60 : Int32)) / (10 : Int32)))
    have m5 := ap1 (dg ((w (14 * b)).toNat / 60) (fmN t b ++ [32]) ++ [58]) ((48 : Int32) + ((iI (w (14 * b)) - iI (w (14 * b)) / (60 : Int32) * (60 : Int32)) / (10 : Int32)))
    have f5 : ∀ o j, o ≠ 193 → (o ≠ 178 ∨ j ≠ 26) → σ5 o j = σ o j := fun o j h1 h2 => (e3 o j h1 h2).trans (f4 o j h1 h2)
    have V5 : WV w σ5 := fun k => (f5 _ _ (by omega) (by omega)).trans (hV k)
    obtain ⟨σ6, g1, g2, g3⟩ := m_put (N := N) hR (by omega) e2 ((48 : Int32) + (iI (w (14 * b)) - iI (w (14 * b)) / (10 : Int32) * (10 : Int32)))
    have et : tmL (w (14 * b)) (fmN t b ++ [32]) = _ := if_neg c
    have f6 : ∀ o j, o ≠ 193 → (o ≠ 178 ∨ j ≠ 26) → σ6 o j = σ o j := fun o j h1 h2 => (g3 o j h1 h2).trans (f5 o j h1 h2)
    obtain ⟨σ', i1, i2, i3⟩ := m_132 hN hR (fun k => (f6 _ _ (by omega) (by omega)).trans (hT k)) (fun k => (f6 _ _ (by omega) (by omega)).trans (hV k)) hO hW hb (by rw [et]; exact g2)
    refine ⟨σ', ?_, i2, fun o j h1 h2 => (i3 o j h1 h2).trans (f6 o j h1 h2)⟩
    rw [if_neg (by rw [show (-1 : Int32) = iI (-1) from rfl, iI_eq (by omega)]; exact c), m_time hR V2 (by omega), bd_some]
    rw [← e60] at c1
    rw [c1, bd_some, d1, bd_some, m_time hR V4 (by omega), bd_some, e1, bd_some, m_time hR V5 (by omega), bd_some, g1, bd_some]
    exact i1
end FMT2
theorem ag_59 {N : Nat} (hN : 2000 ≤ N) : Ag_59 N Inv := by
  intro σ R a1 hI
  obtain ⟨s, t, w, h⟩ := hI
  have hR := h.ro
  have hO := h.tok
  have hT := h.tv
  have hs := hR.1
  have hB := nB_c hO
  have q1 : Same σ (up σ 178 0 0) := same_up (by unfold Sc; omega)
  have hT1 := hT.same q1
  have h1 := h.same q1
  by_cases c1 : 0 ≤ a1.toInt ∧ a1.toInt < t 2
  rotate_left
  · refine ⟨.inr 0, σ, 0, up (up σ 178 0 0) 178 0 1, ?_, ?_, ⟨s, t, w, h1.same (same_up (by unfold Sc; omega))⟩, fun v e => (by cases e), fun q e => (by cases e; exact ⟨rfl, up_th⟩)⟩
    · unfold f_X11_format
      rw [c_bl_bad h c1, bdX_inr]
    · unfold f_X12_format
      rw [sq_eq, m_bl_bad hR hT1 hO c1, bd_some, if_neg (by decide)]
  obtain ⟨b, rfl, e1⟩ := i32_nI (by omega) c1.2
  have l1 : (b : Int) < t 2 := by omega
  obtain ⟨σ1, g1, g2, g3⟩ := c_write hN h l1
  have f0 : ∀ o j, o ≠ 29 → o ≠ 30 → (o ≠ 178 ∨ j ≠ 0) → up σ1 178 0 0 o j = σ o j := fun o j q1 q2 q3 => (if_neg (by omega)).trans (g3 o j q1 q2)
  have hTc : TV t (up σ1 178 0 0) := fun k => (f0 _ _ (by omega) (by omega) (by omega)).trans (h.tv k)
  have hM : MTx (up (up σ1 178 0 0) 178 26 0) [] := ⟨up_th, fun j hj => absurd hj (Nat.not_lt_zero j)⟩
  obtain ⟨σ2, k1, k2, k3⟩ := m_fmt hN hR (t := t) (w := w) (σ := up (up σ1 178 0 0) 178 26 0) (fun k => (if_neg (by omega)).trans (hTc k)) (fun k => (if_neg (by omega)).trans ((f0 _ _ (by omega) (by omega) (by omega)).trans (h.wv k))) hO h.wok l1 hM
  have f2 : ∀ o j, o ≠ 29 → o ≠ 30 → o ≠ 193 → (o ≠ 178 ∨ j ≠ 0 ∧ j ≠ 26) → σ2 o j = σ o j := fun o j q1 q2 q3 q4 => (k3 o j q3 (by omega)).trans ((if_neg (by omega)).trans (f0 o j q1 q2 (by omega)))
  have f29 : ∀ j, σ2 29 j = σ1 29 j := fun j => (k3 29 j (by omega) (by omega)).trans ((if_neg (by omega)).trans (if_neg (by omega)))
  have f30 : ∀ j, σ2 30 j = σ1 30 j := fun j => (k3 30 j (by omega) (by omega)).trans ((if_neg (by omega)).trans (if_neg (by omega)))
  have hlen := (fm_len t w b).2.2.2.2
  refine ⟨.inl (nI (fmD t w b).length), σ1, nI (fmD t w b).length, σ2, ?_, ?_, ⟨s, t, w, ?_⟩, fun v e => (by cases e; exact ⟨(k3 178 0 (by omega) (by omega)).trans ((if_neg (by omega)).trans up_th), rfl⟩), fun q e => (by cases e)⟩
  · unfold f_X11_format
    rw [c_bl_ok h l1, bdX_inl, ck_nI (by omega) (by decide), ck_nI (by omega) (by decide), hR.r1_4, hR.site, hR.si 5 (by decide), hR.si 6 (by decide), show s + 1 + 5 = s + 6 by omega, show s + 1 + 6 = s + 7 by omega, nI_clamp (by omega), g1, bd_some, g2.1]
  · unfold f_X12_format
    rw [sq_eq, m_bl_ok hR hTc hO l1, bd_some, if_pos rfl, sq_eq]
    exact k1
  · obtain ⟨n, n1, n2, n3, n4, n5, n6⟩ := h.ctk
    refine h.of (fun o k q => f2 o k (by omega) (by omega) (by omega) (by omega)) ⟨n, n1, (f2 _ _ (by omega) (by omega) (by omega) (by omega)).trans n2, (f2 _ _ (by omega) (by omega) (by omega) (by omega)).trans n3, fun j hj => (f2 _ _ (by omega) (by omega) (by omega) (by omega)).trans ((n4 j hj).trans (f2 _ _ (by omega) (by omega) (by omega) (by omega)).symm), (f2 _ _ (by omega) (by omega) (by omega) (by omega)).trans (n5.trans (f2 _ _ (by omega) (by omega) (by omega) (by omega)).symm), (f2 _ _ (by omega) (by omega) (by omega) (by omega)).trans (n6.trans (f2 _ _ (by omega) (by omega) (by omega) (by omega)).symm)⟩ ⟨(fmD t w b).length, by omega, (f29 1).trans g2.1, k2.1, fun j hj => (f30 j).trans ((g2.2 j hj).trans (k2.2 j hj).symm)⟩
