/-! ===== what both sides know of the text so far ===== -/
theorem NmR.fr {σ σ' : SI} {b L : Nat} (h : NmR σ b L) (f : ∀ j, b ≤ j → j < b + 6 → σ' 181 j = σ 181 j) : NmR σ' b L ∧ hnP (lf σ' b) L = hnP (lf σ b) L := by
  have h2 := h.2.1
  refine ⟨⟨h.1, h.2.1, fun k hk => ?_, fun k hk h6 => (f _ (by omega) (by omega)).trans (h.2.2.2 k hk h6)⟩, hnP_ext L fun k hk => ?_⟩
  · rw [f _ (by omega) (by omega)]
    exact h.2.2.1 k hk
  · unfold lf
    rw [f _ (by omega) (by omega)]
def dS (σc σm : SI) (D : Nat) : Prop := (σc D 12 = σm 181 3 ∧ σc D 13 = σm 181 4 ∧ σc D 14 = σm 181 5 ∧ σc D 15 = σm 181 6 ∧ σc D 16 = σm 181 7 ∧ σc D 17 = σm 181 8) ∧
  (0 ≤ (σm 181 3).toInt ∧ (σm 181 3).toInt ≤ (σm 181 4).toInt ∧ (σm 181 4).toInt ≤ 1439) ∧ (1 ≤ (σm 181 5).toInt ∧ (σm 181 5).toInt ≤ 240) ∧ (0 ≤ (σm 181 6).toInt ∧ (σm 181 6).toInt ≤ 60) ∧ (0 ≤ (σm 181 7).toInt ∧ (σm 181 7).toInt ≤ 60) ∧ (0 ≤ (σm 181 8).toInt ∧ (σm 181 8).toInt ≤ 240)
def dW (σc σm : SI) (D : Nat) : Prop := ∀ h : Nat, h < 24 → (σm 181 (9 + 3 * h) = 0 ∧ σc (D + 8) h = -1 ∨ σm 181 (9 + 3 * h) = 1 ∧ σc (D + 8) h = σm 181 (9 + 3 * h + 1) ∧ σc (D + 9) h = σm 181 (9 + 3 * h + 2)) ∧ (0 ≤ (σm 181 (9 + 3 * h + 1)).toInt ∧ (σm 181 (9 + 3 * h + 1)).toInt ≤ 7) ∧ 0 ≤ (σm 181 (9 + 3 * h + 2)).toInt ∧ (σm 181 (9 + 3 * h + 2)).toInt ≤ 20
def rN (σc σm : SI) (D i : Nat) : Prop := (∃ L, NmR σm (81 + 18 * i) L ∧ σc (D + 4) i = nI (hnP (lf σm (81 + 18 * i)) L)) ∧
  (σc (D + 10 + 3 * i) 2 = σm 181 (81 + 18 * i + 6) ∧ σc (D + 10 + 3 * i) 3 = σm 181 (81 + 18 * i + 7) ∧ σc (D + 10 + 3 * i) 4 = σm 181 (81 + 18 * i + 8)) ∧
  (0 ≤ (σm 181 (81 + 18 * i + 6)).toInt ∧ (σm 181 (81 + 18 * i + 6)).toInt ≤ 999) ∧ (0 ≤ (σm 181 (81 + 18 * i + 7)).toInt ∧ (σm 181 (81 + 18 * i + 7)).toInt ≤ 999) ∧ (0 ≤ (σm 181 (81 + 18 * i + 8)).toInt ∧ (σm 181 (81 + 18 * i + 8)).toInt ≤ 99999)
def xN (σc σm : SI) (D i c : Nat) : Prop := c ≤ 4 ∧ σm 181 (81 + 18 * i + 9) = nI c ∧ σc (D + 10 + 3 * i) 5 = nI c ∧ ∀ k, k < c → σc (D + 11 + 3 * i) k = σm 181 (81 + 18 * i + 10 + 2 * k) ∧ σc (D + 12 + 3 * i) k = σm 181 (81 + 18 * i + 11 + 2 * k) ∧ 0 ≤ (σm 181 (81 + 18 * i + 10 + 2 * k)).toInt ∧ (σm 181 (81 + 18 * i + 10 + 2 * k)).toInt < (σm 181 (81 + 18 * i + 11 + 2 * k)).toInt ∧ (σm 181 (81 + 18 * i + 11 + 2 * k)).toInt ≤ 1440
def dN (σc σm : SI) (D : Nat) : Prop := ∃ m : Nat, m ≤ 8 ∧ σm 181 0 = nI m ∧ σc D 9 = nI m ∧ (∀ i, i < m → rN σc σm D i ∧ ∃ c, xN σc σm D i c) ∧ ∀ i, m ≤ i → i < 8 → σm 181 (81 + 18 * i + 9) = 0
def rR (σc σm : SI) (D i : Nat) : Prop := (∃ L, NmR σm (225 + 10 * i) L ∧ σc (D + 5) i = nI (hnP (lf σm (225 + 10 * i)) L)) ∧ ∀ j, j < 4 → σc (D + 34 + i) j = σm 181 (225 + 10 * i + 6 + j) ∧ 0 ≤ (σm 181 (225 + 10 * i + 6 + j)).toInt ∧ (σm 181 (225 + 10 * i + 6 + j)).toInt ≤ 999
def dR (σc σm : SI) (D : Nat) : Prop := ∃ m : Nat, m ≤ 6 ∧ σm 181 1 = nI m ∧ σc D 10 = nI m ∧ ∀ i, i < m → rR σc σm D i
def rB (σc σm : SI) (D i : Nat) : Prop := (∃ L, NmR σm (285 + 22 * i) L ∧ σc (D + 6) i = nI (hnP (lf σm (285 + 22 * i)) L)) ∧
  (σc (D + 40 + 5 * i) 4 = σm 181 (285 + 22 * i + 6) ∧ σc (D + 40 + 5 * i) 5 = σm 181 (285 + 22 * i + 7) ∧ σc (D + 40 + 5 * i) 6 = σm 181 (285 + 22 * i + 8) ∧ σc (D + 40 + 5 * i) 13 = 0) ∧
  (0 ≤ (σm 181 (285 + 22 * i + 6)).toInt ∧ (σm 181 (285 + 22 * i + 6)).toInt ≤ 999) ∧ (0 ≤ (σm 181 (285 + 22 * i + 7)).toInt ∧ (σm 181 (285 + 22 * i + 7)).toInt ≤ 999) ∧ (1 ≤ (σm 181 (285 + 22 * i + 8)).toInt ∧ (σm 181 (285 + 22 * i + 8)).toInt ≤ 500)
def xB (σc σm : SI) (D i c : Nat) : Prop := c ≤ 12 ∧ σm 181 (285 + 22 * i + 9) = nI c ∧ σc (D + 40 + 5 * i) 7 = nI c ∧ ∀ k, k < c → σc (D + 41 + 5 * i) k = σm 181 (285 + 22 * i + 10 + k) ∧ σc (D + 42 + 5 * i) k = σm 184 (14 * i + 2 + k) ∧ (1 ≤ (σm 181 (285 + 22 * i + 10 + k)).toInt ∧ (σm 181 (285 + 22 * i + 10 + k)).toInt ≤ 999) ∧ 0 ≤ (σm 184 (14 * i + 2 + k)).toInt ∧ (σm 184 (14 * i + 2 + k)).toInt ≤ 9999
def dB (σc σm : SI) (D : Nat) : Prop := ∃ m : Nat, m ≤ 6 ∧ σm 181 2 = nI m ∧ σc D 11 = nI m ∧ (∀ i, i < m → rB σc σm D i ∧ ∃ c, 1 ≤ c ∧ xB σc σm D i c) ∧ (∀ i, m ≤ i → i < 6 → σm 181 (285 + 22 * i + 9) = 0) ∧ ∀ i, i < 6 → σm 184 (14 * i) = -1 ∧ σm 184 (14 * i + 1) = 0 ∧ σc (D + 7) i = -1
def DT (σc σm : SI) (D : Nat) : Prop := dS σc σm D ∧ dW σc σm D ∧ dN σc σm D ∧ dR σc σm D ∧ dB σc σm D
section REL
variable {σc σm σc' σm' : SI} {D : Nat}
theorem dS.fr (h : dS σc σm D) (fm : ∀ j, 3 ≤ j → j < 9 → σm' 181 j = σm 181 j) (fc : ∀ j, 12 ≤ j → j < 18 → σc' D j = σc D j) : dS σc' σm' D := by
  unfold dS
  rw [fm 3 (by omega) (by omega), fm 4 (by omega) (by omega), fm 5 (by omega) (by omega), fm 6 (by omega) (by omega), fm 7 (by omega) (by omega), fm 8 (by omega) (by omega), fc 12 (by omega) (by omega), fc 13 (by omega) (by omega), fc 14 (by omega) (by omega), fc 15 (by omega) (by omega), fc 16 (by omega) (by omega), fc 17 (by omega) (by omega)]
  exact h
theorem dW.fr (h : dW σc σm D) (fm : ∀ j, 9 ≤ j → j < 81 → σm' 181 j = σm 181 j) (fc : ∀ o j, o = D + 8 ∨ o = D + 9 → σc' o j = σc o j) : dW σc' σm' D := by
  intro i hi
  rw [fm (9 + 3 * i) (by omega) (by omega), fm (9 + 3 * i + 1) (by omega) (by omega), fm (9 + 3 * i + 2) (by omega) (by omega), fc (D + 8) i (by omega), fc (D + 9) i (by omega)]
  exact h i hi
theorem rN.fr {i : Nat} (h : rN σc σm D i) (fm : ∀ j, 81 + 18 * i ≤ j → j < 81 + 18 * i + 9 → σm' 181 j = σm 181 j) (fc : ∀ o j, o = D + 4 ∧ j = i ∨ o = D + 10 + 3 * i ∧ j < 5 → σc' o j = σc o j) : rN σc' σm' D i := by
  obtain ⟨⟨L, l1, l2⟩, h2⟩ := h
  obtain ⟨l3, l4⟩ := l1.fr (σ' := σm') (fun j a b => fm j (by omega) (by omega))
  refine ⟨⟨L, l3, (fc _ _ (by omega)).trans (l2.trans (by rw [l4]))⟩, ?_⟩
  rw [fm (81 + 18 * i + 6) (by omega) (by omega), fm (81 + 18 * i + 7) (by omega) (by omega), fm (81 + 18 * i + 8) (by omega) (by omega), fc _ 2 (Or.inr ⟨rfl, by omega⟩), fc _ 3 (Or.inr ⟨rfl, by omega⟩), fc _ 4 (Or.inr ⟨rfl, by omega⟩)]
  exact h2
theorem xN.fr {i c : Nat} (h : xN σc σm D i c) (fm : ∀ j, 81 + 18 * i + 9 ≤ j → j < 81 + 18 * i + 18 → σm' 181 j = σm 181 j) (fc : ∀ o j, o = D + 10 + 3 * i ∧ j = 5 ∨ o = D + 11 + 3 * i ∨ o = D + 12 + 3 * i → σc' o j = σc o j) : xN σc' σm' D i c := by
  obtain ⟨h1, h2, h3, h4⟩ := h
  refine ⟨h1, (fm _ (by omega) (by omega)).trans h2, (fc _ _ (by omega)).trans h3, fun k hk => ?_⟩
  rw [fm (81 + 18 * i + 10 + 2 * k) (by omega) (by omega), fm (81 + 18 * i + 11 + 2 * k) (by omega) (by omega), fc (D + 11 + 3 * i) k (by omega), fc (D + 12 + 3 * i) k (by omega)]
  exact h4 k hk
theorem dN.fr (h : dN σc σm D) (fm : ∀ j, j = 0 ∨ 81 ≤ j ∧ j < 225 → σm' 181 j = σm 181 j) (fc : ∀ o j, o = D ∧ j = 9 ∨ o = D + 4 ∨ D + 10 ≤ o ∧ o < D + 34 → σc' o j = σc o j) : dN σc' σm' D := by
  obtain ⟨m, h1, h2, h3, h4, h5⟩ := h
  refine ⟨m, h1, (fm _ (by omega)).trans h2, (fc _ _ (by omega)).trans h3, fun i hi => ?_, fun i a b => (fm _ (by omega)).trans (h5 i a b)⟩
  obtain ⟨g1, c, g2⟩ := h4 i hi
  exact ⟨g1.fr (fun j a b => fm j (by omega)) (fun o j a => fc o j (by omega)), c, g2.fr (fun j a b => fm j (by omega)) (fun o j a => fc o j (by omega))⟩
theorem rR.fr {i : Nat} (h : rR σc σm D i) (fm : ∀ j, 225 + 10 * i ≤ j → j < 225 + 10 * i + 10 → σm' 181 j = σm 181 j) (fc : ∀ o j, o = D + 5 ∧ j = i ∨ o = D + 34 + i → σc' o j = σc o j) : rR σc' σm' D i := by
  obtain ⟨⟨L, l1, l2⟩, h2⟩ := h
  obtain ⟨l3, l4⟩ := l1.fr (σ' := σm') (fun j a b => fm j (by omega) (by omega))
  refine ⟨⟨L, l3, (fc _ _ (by omega)).trans (l2.trans (by rw [l4]))⟩, fun j hj => ?_⟩
  rw [fm (225 + 10 * i + 6 + j) (by omega) (by omega), fc _ j (Or.inr rfl)]
  exact h2 j hj
theorem dR.fr (h : dR σc σm D) (fm : ∀ j, j = 1 ∨ 225 ≤ j ∧ j < 285 → σm' 181 j = σm 181 j) (fc : ∀ o j, o = D ∧ j = 10 ∨ o = D + 5 ∨ D + 34 ≤ o ∧ o < D + 40 → σc' o j = σc o j) : dR σc' σm' D := by
  obtain ⟨m, h1, h2, h3, h4⟩ := h
  refine ⟨m, h1, (fm _ (by omega)).trans h2, (fc _ _ (by omega)).trans h3, fun i hi => (h4 i hi).fr (fun j a b => fm j (by omega)) (fun o j a => fc o j (by omega))⟩
theorem rB.fr {i : Nat} (h : rB σc σm D i) (fm : ∀ j, 285 + 22 * i ≤ j → j < 285 + 22 * i + 9 → σm' 181 j = σm 181 j) (fc : ∀ o j, o = D + 6 ∧ j = i ∨ o = D + 40 + 5 * i ∧ j ≠ 7 → σc' o j = σc o j) : rB σc' σm' D i := by
  obtain ⟨⟨L, l1, l2⟩, h2⟩ := h
  obtain ⟨l3, l4⟩ := l1.fr (σ' := σm') (fun j a b => fm j (by omega) (by omega))
  refine ⟨⟨L, l3, (fc _ _ (by omega)).trans (l2.trans (by rw [l4]))⟩, ?_⟩
  rw [fm (285 + 22 * i + 6) (by omega) (by omega), fm (285 + 22 * i + 7) (by omega) (by omega), fm (285 + 22 * i + 8) (by omega) (by omega), fc _ 4 (Or.inr ⟨rfl, by omega⟩), fc _ 5 (Or.inr ⟨rfl, by omega⟩), fc _ 6 (Or.inr ⟨rfl, by omega⟩), fc _ 13 (Or.inr ⟨rfl, by omega⟩)]
  exact h2
theorem xB.fr {i c : Nat} (h : xB σc σm D i c) (fm : ∀ j, 285 + 22 * i + 9 ≤ j → j < 285 + 22 * i + 22 → σm' 181 j = σm 181 j) (fw : ∀ j, 14 * i + 2 ≤ j → j < 14 * i + 14 → σm' 184 j = σm 184 j) (fc : ∀ o j, o = D + 40 + 5 * i ∧ j = 7 ∨ o = D + 41 + 5 * i ∨ o = D + 42 + 5 * i → σc' o j = σc o j) : xB σc' σm' D i c := by
  obtain ⟨h1, h2, h3, h4⟩ := h
  refine ⟨h1, (fm _ (by omega) (by omega)).trans h2, (fc _ _ (by omega)).trans h3, fun k hk => ?_⟩
  rw [fm (285 + 22 * i + 10 + k) (by omega) (by omega), fw (14 * i + 2 + k) (by omega) (by omega), fc (D + 41 + 5 * i) k (by omega), fc (D + 42 + 5 * i) k (by omega)]
  exact h4 k hk
theorem dB.fr (h : dB σc σm D) (fm : ∀ j, j = 2 ∨ 285 ≤ j ∧ j < 417 → σm' 181 j = σm 181 j) (fw : ∀ j, σm' 184 j = σm 184 j) (fc : ∀ o j, o = D ∧ j = 11 ∨ o = D + 6 ∨ o = D + 7 ∨ D + 40 ≤ o ∧ o < D + 70 → σc' o j = σc o j) : dB σc' σm' D := by
  obtain ⟨m, h1, h2, h3, h4, h5, h6⟩ := h
  refine ⟨m, h1, (fm _ (by omega)).trans h2, (fc _ _ (by omega)).trans h3, fun i hi => ?_, fun i a b => (fm _ (by omega)).trans (h5 i a b), fun i hi => ?_⟩
  · obtain ⟨g1, c, c1, g2⟩ := h4 i hi
    exact ⟨g1.fr (fun j a b => fm j (by omega)) (fun o j a => fc o j (by omega)), c, c1, g2.fr (fun j a b => fm j (by omega)) (fun j _ _ => fw j) (fun o j a => fc o j (by omega))⟩
  · rw [fw, fw, fc _ _ (by omega)]
    exact h6 i hi
/-- a line's frames -/
def LC (D : Nat) (σ σ' : SI) : Prop := ∀ o j, (o ≠ 3 ∨ (j ≠ 2 ∧ j ≠ 3 ∧ j ≠ 4)) → (o < D ∨ D + 70 ≤ o) → σ' o j = σ o j
def LM (σ σ' : SI) : Prop := ∀ o j, (o ≠ 178 ∨ (j ≠ 4 ∧ j ≠ 5 ∧ j ≠ 7 ∧ j ≠ 8)) → (o ≠ 181 ∨ 417 ≤ j) → o ≠ 184 → σ' o j = σ o j
theorem DT.fr (h : DT σc σm D) (hD : 38 ≤ D) (f1 : FC σc σc') (f2 : FM σm σm') : DT σc' σm' D :=
  ⟨h.1.fr (fun j _ _ => f2 _ _ (by omega)) (fun j _ _ => f1 _ _ (by omega)), h.2.1.fr (fun j _ _ => f2 _ _ (by omega)) (fun o j _ => f1 _ _ (by omega)), h.2.2.1.fr (fun j _ => f2 _ _ (by omega)) (fun o j _ => f1 _ _ (by omega)), h.2.2.2.1.fr (fun j _ => f2 _ _ (by omega)) (fun o j _ => f1 _ _ (by omega)), h.2.2.2.2.fr (fun j _ => f2 _ _ (by omega)) (fun j => f2 _ _ (by omega)) (fun o j _ => f1 _ _ (by omega))⟩
theorem LC.of (h : FC σc σc') : LC D σc σc' := fun o j q _ => h o j q
theorem LM.of (h : FM σm σm') : LM σm σm' := fun o j q _ _ => h o j q
theorem LC.tr {a b c : SI} (h : LC D a b) (g : LC D b c) : LC D a c := fun o j q r => (g o j q r).trans (h o j q r)
theorem LM.tr {a b c : SI} (h : LM a b) (g : LM b c) : LM a c := fun o j q r r' => (g o j q r r').trans (h o j q r r')
end REL
section SET
variable {N : Nat} {R : Nat → Nat → Nat} {s : Nat} {Q : Nat → Nat → Nat} {s2 : Nat} {σc σm : SI} {B : Nat → Int32} {n k D : Nat} {ok : Bool}
theorem T_nu (hN : 2000 ≤ N) (hR : RO R s) (hQ : RO Q s2) (h : TS B n k ok σc σm) {l1 l2 x : Int32} (lo hi : Int) (hl : ok = true → l1 = l2 ∧ l2.toInt = lo ∧ 0 ≤ lo ∧ lo ≤ 100000) (hh : x.toInt = hi ∧ 0 ≤ hi ∧ hi ≤ 100000) : ∃ (ok' : Bool) (a1 a2 : Int32) (σc' σm' : SI), f_X10_takeNumber N R σc 3 l1 x = some (a1, σc') ∧ f_X12_number N Q σm 178 l2 x = some (a2, σm') ∧ TS B n k ok' σc' σm' ∧ FC σc σc' ∧ FM σm σm' ∧ (ok' = true → ok = true ∧ a1 = a2 ∧ lo ≤ a2.toInt ∧ a2.toInt ≤ hi) := by
  obtain ⟨ok', a1, a2, σc', σm', e1, e2, T, F1, F2, hv⟩ := T_num (l1 := l1) (l2 := l2) (lo := lo) (hi := hi) hN hR hQ h (fun z => by
    obtain ⟨h1, h2, h3⟩ := hl z
    rw [h1, ← h2, ← iI_of]
    exact ⟨rfl, rfl, by omega, by omega⟩) hh.2
  rw [← hh.1, ← iI_of] at e1 e2
  refine ⟨ok', a1, a2, σc', σm', e1, e2, T, F1, F2, fun z => ?_⟩
  obtain ⟨h1, v, h2, h3, h4, h5⟩ := hv z
  have h6 := hl h1
  rw [h2, h3, iI_toInt (by omega)]
  exact ⟨h1, rfl, h4, h5⟩
theorem T_day (hN : 2000 ≤ N) (hR : RO R s) (hQ : RO Q s2) (hD : D = 38 ∨ D = 108) (h : TS B n k true σc σm) (d : DT σc σm D) : ∃ (ok' : Bool) (σc' σm' : SI), bd (f_X10_takeNumber N R σc 3 0 1439) (fun a32 σ32 => sq (up σ32 D 12 a32) (fun σ33 => bd (f_X10_takeNumber N R σ33 3 (σ33 D 12) 1439) (fun a35 σ35 => sq (up σ35 D 13 a35) (fun σ36 => some ((), σ36))))) = some ((), σc') ∧ f_X12_dayLine N Q σm 178 = some ((), σm') ∧ TS B n k ok' σc' σm' ∧ LC D σc σc' ∧ LM σm σm' ∧ (ok' = true → DT σc' σm' D) := by
  obtain ⟨ok1, a1, a2, σ1, μ1, e1, e2, T1, F1, G1, v1⟩ := T_nu hN hR hQ h (l1 := 0) (l2 := 0) (x := 1439) 0 1439 (fun _ => by decide) (by decide)
  have T1' : TS B n k ok1 (up σ1 D 12 a1) (up μ1 181 3 a2) := (T1.upc (by omega)).upm (by omega)
  obtain ⟨ok2, b1, b2, σ2, μ2, e3, e4, T2, F2, G2, v2⟩ := T_nu hN hR hQ T1' (l1 := up σ1 D 12 a1 D 12) (l2 := up μ1 181 3 a2 181 3) (x := 1439) a2.toInt 1439 (fun z => by
    have := v1 z
    rw [up_th, up_th]
    exact ⟨this.2.1, rfl, by omega, by omega⟩) (by decide)
  refine ⟨ok2, up σ2 D 13 b1, up μ2 181 4 b2, ?_, ?_, (T2.upc (by omega)).upm (by omega), fun o j q r => ?_, fun o j q r r' => ?_, fun z => ?_⟩
  · rw [e1, bd_some, sq_eq, e3, bd_some, sq_eq]
  · unfold f_X12_dayLine
    rw [e2, bd_some, hQ.m11, show (3 : Int32) = nI 3 from rfl, ck_nI (by omega) (by decide), nI_clamp (by omega), sq_eq, ck_nI (by omega) (by decide), e4, bd_some, show (4 : Int32) = nI 4 from rfl, ck_nI (by omega) (by decide), nI_clamp (by omega), sq_eq]
  · exact (if_neg (by omega)).trans ((F2 o j q).trans ((if_neg (by omega)).trans (F1 o j q)))
  · exact (if_neg (by omega)).trans ((G2 o j q).trans ((if_neg (by omega)).trans (G1 o j q)))
  · have w2 := v2 z
    have w1 := v1 w2.1
    have fc : ∀ o j, o ≠ 3 → (o ≠ D ∨ (j ≠ 12 ∧ j ≠ 13)) → up σ2 D 13 b1 o j = σc o j := fun o j q q' => (if_neg (by omega)).trans ((F2 o j (by omega)).trans ((if_neg (by omega)).trans (F1 o j (by omega))))
    have fm : ∀ o j, o ≠ 178 → (o ≠ 181 ∨ (j ≠ 3 ∧ j ≠ 4)) → up μ2 181 4 b2 o j = σm o j := fun o j q q' => (if_neg (by omega)).trans ((G2 o j (by omega)).trans ((if_neg (by omega)).trans (G1 o j (by omega))))
    have c12 : up σ2 D 13 b1 D 12 = a1 := (if_neg (by omega)).trans ((F2 D 12 (by omega)).trans up_th)
    have c13 : up σ2 D 13 b1 D 13 = b1 := up_th
    have m3 : up μ2 181 4 b2 181 3 = a2 := (if_neg (by omega)).trans ((G2 181 3 (by omega)).trans up_th)
    have m4 : up μ2 181 4 b2 181 4 = b2 := up_th
    obtain ⟨⟨⟨-, -, s5, s6, s7, s8⟩, -, r5⟩, dw, dn, dr, db⟩ := d
    refine ⟨⟨⟨?_, ?_, ?_, ?_, ?_, ?_⟩, ?_, ?_⟩, dw.fr (fun j _ _ => fm _ _ (by omega) (by omega)) (fun o j _ => fc _ _ (by omega) (by omega)), dn.fr (fun j _ => fm _ _ (by omega) (by omega)) (fun o j _ => fc _ _ (by omega) (by omega)), dr.fr (fun j _ => fm _ _ (by omega) (by omega)) (fun o j _ => fc _ _ (by omega) (by omega)), db.fr (fun j _ => fm _ _ (by omega) (by omega)) (fun j => fm _ _ (by omega) (by omega)) (fun o j _ => fc _ _ (by omega) (by omega))⟩
    · rw [c12, m3, w1.2.1]
    · rw [c13, m4, w2.2.1]
    · rw [fc _ _ (by omega) (by omega), fm _ _ (by omega) (by omega), s5]
    · rw [fc _ _ (by omega) (by omega), fm _ _ (by omega) (by omega), s6]
    · rw [fc _ _ (by omega) (by omega), fm _ _ (by omega) (by omega), s7]
    · rw [fc _ _ (by omega) (by omega), fm _ _ (by omega) (by omega), s8]
    · rw [m3, m4]
      omega
    · rw [fm 181 5 (by omega) (by omega), fm 181 6 (by omega) (by omega), fm 181 7 (by omega) (by omega), fm 181 8 (by omega) (by omega)]
      exact r5
theorem T_step (hN : 2000 ≤ N) (hR : RO R s) (hQ : RO Q s2) (hD : D = 38 ∨ D = 108) (h : TS B n k true σc σm) (d : DT σc σm D) : ∃ (ok' : Bool) (σc' σm' : SI), bd (f_X10_takeNumber N R σc 3 1 240) (fun a29 σ29 => sq (up σ29 D 14 a29) (fun σ30 => some ((), σ30))) = some ((), σc') ∧ bd (f_X12_number N Q σm 178 1 240) (fun a114 σ114 => ck (5 : Int32) 417 (sq (up σ114 (Q 178 11) (5 : Int32).toNatClampNeg a114) (fun σ116 => some ((), σ116)))) = some ((), σm') ∧ TS B n k ok' σc' σm' ∧ LC D σc σc' ∧ LM σm σm' ∧ (ok' = true → DT σc' σm' D) := by
  obtain ⟨ok1, a1, a2, σ1, μ1, e1, e2, T1, F1, G1, v1⟩ := T_nu hN hR hQ h (l1 := 1) (l2 := 1) (x := 240) 1 240 (fun _ => by decide) (by decide)
  refine ⟨ok1, up σ1 D 14 a1, up μ1 181 5 a2, ?_, ?_, (T1.upc (by omega)).upm (by omega), fun o j q r => ?_, fun o j q r r' => ?_, fun z => ?_⟩
  · rw [e1, bd_some, sq_eq]
  · rw [e2, bd_some, hQ.m11, show (5 : Int32) = nI 5 from rfl, ck_nI (by omega) (by decide), nI_clamp (by omega), sq_eq]
  · exact (if_neg (by omega)).trans (F1 o j q)
  · exact (if_neg (by omega)).trans (G1 o j q)
  · have w1 := v1 z
    have fc : ∀ o j, o ≠ 3 → (o ≠ D ∨ (j ≠ 14)) → up σ1 D 14 a1 o j = σc o j := fun o j q q' => (if_neg (by omega)).trans (F1 o j (by omega))
    have fm : ∀ o j, o ≠ 178 → (o ≠ 181 ∨ (j ≠ 5)) → up μ1 181 5 a2 o j = σm o j := fun o j q q' => (if_neg (by omega)).trans (G1 o j (by omega))
    have c12 : up σ1 D 14 a1 D 14 = a1 := up_th
    have m3 : up μ1 181 5 a2 181 5 = a2 := up_th
    obtain ⟨⟨⟨s3, s4, -, s6, s7, s8⟩, r3, -, r5⟩, dw, dn, dr, db⟩ := d
    refine ⟨⟨⟨?_, ?_, ?_, ?_, ?_, ?_⟩, ?_, ?_, ?_⟩, dw.fr (fun j _ _ => fm _ _ (by omega) (by omega)) (fun o j _ => fc _ _ (by omega) (by omega)), dn.fr (fun j _ => fm _ _ (by omega) (by omega)) (fun o j _ => fc _ _ (by omega) (by omega)), dr.fr (fun j _ => fm _ _ (by omega) (by omega)) (fun o j _ => fc _ _ (by omega) (by omega)), db.fr (fun j _ => fm _ _ (by omega) (by omega)) (fun j => fm _ _ (by omega) (by omega)) (fun o j _ => fc _ _ (by omega) (by omega))⟩
    · rw [fc _ _ (by omega) (by omega), fm _ _ (by omega) (by omega), s3]
    · rw [fc _ _ (by omega) (by omega), fm _ _ (by omega) (by omega), s4]
    · rw [c12, m3, w1.2.1]
    · rw [fc _ _ (by omega) (by omega), fm _ _ (by omega) (by omega), s6]
    · rw [fc _ _ (by omega) (by omega), fm _ _ (by omega) (by omega), s7]
    · rw [fc _ _ (by omega) (by omega), fm _ _ (by omega) (by omega), s8]
    · rw [fm 181 3 (by omega) (by omega), fm 181 4 (by omega) (by omega)]
      exact r3
    · rw [m3]
      omega
    · rw [fm 181 6 (by omega) (by omega), fm 181 7 (by omega) (by omega), fm 181 8 (by omega) (by omega)]
      exact r5
theorem T_space (hN : 2000 ≤ N) (hR : RO R s) (hQ : RO Q s2) (hD : D = 38 ∨ D = 108) (h : TS B n k true σc σm) (d : DT σc σm D) : ∃ (ok' : Bool) (σc' σm' : SI), bd (f_X10_takeNumber N R σc 3 0 240) (fun a29 σ29 => sq (up σ29 D 17 a29) (fun σ30 => some ((), σ30))) = some ((), σc') ∧ bd (f_X12_number N Q σm 178 0 240) (fun a114 σ114 => ck (8 : Int32) 417 (sq (up σ114 (Q 178 11) (8 : Int32).toNatClampNeg a114) (fun σ116 => some ((), σ116)))) = some ((), σm') ∧ TS B n k ok' σc' σm' ∧ LC D σc σc' ∧ LM σm σm' ∧ (ok' = true → DT σc' σm' D) := by
  obtain ⟨ok1, a1, a2, σ1, μ1, e1, e2, T1, F1, G1, v1⟩ := T_nu hN hR hQ h (l1 := 0) (l2 := 0) (x := 240) 0 240 (fun _ => by decide) (by decide)
  refine ⟨ok1, up σ1 D 17 a1, up μ1 181 8 a2, ?_, ?_, (T1.upc (by omega)).upm (by omega), fun o j q r => ?_, fun o j q r r' => ?_, fun z => ?_⟩
  · rw [e1, bd_some, sq_eq]
  · rw [e2, bd_some, hQ.m11, show (8 : Int32) = nI 8 from rfl, ck_nI (by omega) (by decide), nI_clamp (by omega), sq_eq]
  · exact (if_neg (by omega)).trans (F1 o j q)
  · exact (if_neg (by omega)).trans (G1 o j q)
  · have w1 := v1 z
    have fc : ∀ o j, o ≠ 3 → (o ≠ D ∨ (j ≠ 17)) → up σ1 D 17 a1 o j = σc o j := fun o j q q' => (if_neg (by omega)).trans (F1 o j (by omega))
    have fm : ∀ o j, o ≠ 178 → (o ≠ 181 ∨ (j ≠ 8)) → up μ1 181 8 a2 o j = σm o j := fun o j q q' => (if_neg (by omega)).trans (G1 o j (by omega))
    have c12 : up σ1 D 17 a1 D 17 = a1 := up_th
    have m3 : up μ1 181 8 a2 181 8 = a2 := up_th
    obtain ⟨⟨⟨s3, s4, s5, s6, s7, -⟩, r3, r5, r6, r7, -⟩, dw, dn, dr, db⟩ := d
    refine ⟨⟨⟨?_, ?_, ?_, ?_, ?_, ?_⟩, ?_, ?_, ?_, ?_, ?_⟩, dw.fr (fun j _ _ => fm _ _ (by omega) (by omega)) (fun o j _ => fc _ _ (by omega) (by omega)), dn.fr (fun j _ => fm _ _ (by omega) (by omega)) (fun o j _ => fc _ _ (by omega) (by omega)), dr.fr (fun j _ => fm _ _ (by omega) (by omega)) (fun o j _ => fc _ _ (by omega) (by omega)), db.fr (fun j _ => fm _ _ (by omega) (by omega)) (fun j => fm _ _ (by omega) (by omega)) (fun o j _ => fc _ _ (by omega) (by omega))⟩
    · rw [fc _ _ (by omega) (by omega), fm _ _ (by omega) (by omega), s3]
    · rw [fc _ _ (by omega) (by omega), fm _ _ (by omega) (by omega), s4]
    · rw [fc _ _ (by omega) (by omega), fm _ _ (by omega) (by omega), s5]
    · rw [fc _ _ (by omega) (by omega), fm _ _ (by omega) (by omega), s6]
    · rw [fc _ _ (by omega) (by omega), fm _ _ (by omega) (by omega), s7]
    · rw [c12, m3, w1.2.1]
    · rw [fm 181 3 (by omega) (by omega), fm 181 4 (by omega) (by omega)]
      exact r3
    · rw [fm 181 5 (by omega) (by omega)]
      exact r5
    · rw [fm 181 6 (by omega) (by omega)]
      exact r6
    · rw [fm 181 7 (by omega) (by omega)]
      exact r7
    · rw [m3]
      omega
theorem T_close (hN : 2000 ≤ N) (hR : RO R s) (hQ : RO Q s2) (hD : D = 38 ∨ D = 108) (h : TS B n k true σc σm) (d : DT σc σm D) : ∃ (ok' : Bool) (σc' σm' : SI), bd (f_X10_takeNumber N R σc 3 0 60) (fun a23 σ23 => sq (up σ23 D 15 a23) (fun σ24 => bd (f_X10_takeNumber N R σ24 3 0 60) (fun a26 σ26 => sq (up σ26 D 16 a26) (fun σ27 => some ((), σ27))))) = some ((), σc') ∧ bd (f_X12_number N Q σm 178 0 60) (fun a106 σ106 => ck (6 : Int32) 417 (sq (up σ106 (Q 178 11) (6 : Int32).toNatClampNeg a106) (fun σ108 => bd (f_X12_number N Q σ108 178 0 60) (fun a110 σ110 => ck (7 : Int32) 417 (sq (up σ110 (Q 178 11) (7 : Int32).toNatClampNeg a110) (fun σ112 => some ((), σ112))))))) = some ((), σm') ∧ TS B n k ok' σc' σm' ∧ LC D σc σc' ∧ LM σm σm' ∧ (ok' = true → DT σc' σm' D) := by
  obtain ⟨ok1, a1, a2, σ1, μ1, e1, e2, T1, F1, G1, v1⟩ := T_nu hN hR hQ h (l1 := 0) (l2 := 0) (x := 60) 0 60 (fun _ => by decide) (by decide)
  have T1' : TS B n k ok1 (up σ1 D 15 a1) (up μ1 181 6 a2) := (T1.upc (by omega)).upm (by omega)
  obtain ⟨ok2, b1, b2, σ2, μ2, e3, e4, T2, F2, G2, v2⟩ := T_nu hN hR hQ T1' (l1 := 0) (l2 := 0) (x := 60) 0 60 (fun _ => by decide) (by decide)
  refine ⟨ok2, up σ2 D 16 b1, up μ2 181 7 b2, ?_, ?_, (T2.upc (by omega)).upm (by omega), fun o j q r => ?_, fun o j q r r' => ?_, fun z => ?_⟩
  · rw [e1, bd_some, sq_eq, e3, bd_some, sq_eq]
  · rw [e2, bd_some, hQ.m11, show (6 : Int32) = nI 6 from rfl, ck_nI (by omega) (by decide), nI_clamp (by omega), sq_eq, e4, bd_some, show (7 : Int32) = nI 7 from rfl, ck_nI (by omega) (by decide), nI_clamp (by omega), sq_eq]
  · exact (if_neg (by omega)).trans ((F2 o j q).trans ((if_neg (by omega)).trans (F1 o j q)))
  · exact (if_neg (by omega)).trans ((G2 o j q).trans ((if_neg (by omega)).trans (G1 o j q)))
  · have w2 := v2 z
    have w1 := v1 w2.1
    have fc : ∀ o j, o ≠ 3 → (o ≠ D ∨ (j ≠ 15 ∧ j ≠ 16)) → up σ2 D 16 b1 o j = σc o j := fun o j q q' => (if_neg (by omega)).trans ((F2 o j (by omega)).trans ((if_neg (by omega)).trans (F1 o j (by omega))))
    have fm : ∀ o j, o ≠ 178 → (o ≠ 181 ∨ (j ≠ 6 ∧ j ≠ 7)) → up μ2 181 7 b2 o j = σm o j := fun o j q q' => (if_neg (by omega)).trans ((G2 o j (by omega)).trans ((if_neg (by omega)).trans (G1 o j (by omega))))
    have c12 : up σ2 D 16 b1 D 15 = a1 := (if_neg (by omega)).trans ((F2 D 15 (by omega)).trans up_th)
    have c13 : up σ2 D 16 b1 D 16 = b1 := up_th
    have m3 : up μ2 181 7 b2 181 6 = a2 := (if_neg (by omega)).trans ((G2 181 6 (by omega)).trans up_th)
    have m4 : up μ2 181 7 b2 181 7 = b2 := up_th
    obtain ⟨⟨⟨s3, s4, s5, -, -, s8⟩, r3, r5, -, -, r8⟩, dw, dn, dr, db⟩ := d
    refine ⟨⟨⟨?_, ?_, ?_, ?_, ?_, ?_⟩, ?_, ?_, ?_, ?_, ?_⟩, dw.fr (fun j _ _ => fm _ _ (by omega) (by omega)) (fun o j _ => fc _ _ (by omega) (by omega)), dn.fr (fun j _ => fm _ _ (by omega) (by omega)) (fun o j _ => fc _ _ (by omega) (by omega)), dr.fr (fun j _ => fm _ _ (by omega) (by omega)) (fun o j _ => fc _ _ (by omega) (by omega)), db.fr (fun j _ => fm _ _ (by omega) (by omega)) (fun j => fm _ _ (by omega) (by omega)) (fun o j _ => fc _ _ (by omega) (by omega))⟩
    · rw [fc _ _ (by omega) (by omega), fm _ _ (by omega) (by omega), s3]
    · rw [fc _ _ (by omega) (by omega), fm _ _ (by omega) (by omega), s4]
    · rw [fc _ _ (by omega) (by omega), fm _ _ (by omega) (by omega), s5]
    · rw [c12, m3, w1.2.1]
    · rw [c13, m4, w2.2.1]
    · rw [fc _ _ (by omega) (by omega), fm _ _ (by omega) (by omega), s8]
    · rw [fm 181 3 (by omega) (by omega), fm 181 4 (by omega) (by omega)]
      exact r3
    · rw [fm 181 5 (by omega) (by omega)]
      exact r5
    · rw [m3]
      omega
    · rw [m4]
      omega
    · rw [fm 181 8 (by omega) (by omega)]
      exact r8
theorem T_wind (hN : 2000 ≤ N) (hR : RO R s) (hQ : RO Q s2) (hD : D = 38 ∨ D = 108) (hR7 : R D 7 = D + 8) (hR8 : R D 8 = D + 9) (h : TS B n k true σc σm) (d : DT σc σm D) : ∃ (ok' : Bool) (σc' σm' : SI), f_X5_parseWind N R σc 2 D = some ((), σc') ∧ f_X12_windLine N Q σm 178 = some ((), σm') ∧ TS B n k ok' σc' σm' ∧ LC D σc σc' ∧ LM σm σm' ∧ (ok' = true → DT σc' σm' D) := by
  obtain ⟨ok1, a1, a2, σ1, μ1, e1, e2, T1, F1, G1, v1⟩ := T_nu hN hR hQ h (l1 := 0) (l2 := 0) (x := 23) 0 23 (fun _ => by decide) (by decide)
  obtain ⟨ok2, b1, b2, σ2, μ2, e3, e4, T2, F2, G2, v2⟩ := T_nu hN hR hQ T1 (l1 := 0) (l2 := 0) (x := 7) 0 7 (fun _ => by decide) (by decide)
  obtain ⟨ok3, c1, c2, σ3, μ3, e5, e6, T3, F3, G3, v3⟩ := T_nu hN hR hQ T2 (l1 := 0) (l2 := 0) (x := 20) 0 20 (fun _ => by decide) (by decide)
  have FF := F1.tr (F2.tr F3)
  have GG := G1.tr (G2.tr G3)
  unfold f_X5_parseWind f_X12_windLine
  rw [hR.r2_0, e1, bd_some, e3, bd_some, e5, bd_some, T3.failed.1, bd_some, e2, bd_some, e4, bd_some, e6, bd_some, T3.failed.2, bd_some]
  cases ok3
  · rw [Bool.not_false, bI_t, if_neg (by decide), if_neg (by decide)]
    exact ⟨false, σ3, μ3, rfl, rfl, T3, LC.of FF, LM.of GG, fun z => by cases z⟩
  · have w3 := v3 rfl
    have w2 := v2 w3.1
    have w1 := v1 w2.1
    obtain ⟨h, eh, hh⟩ := i32_nI (x := a2) (n := 24) (by omega) (by omega)
    have h24 : h < 24 := by omega
    rw [Bool.not_true, bI_f, if_pos rfl, if_pos rfl, w1.2.1, w2.2.1, w3.2.1, eh]
    rw [if_neg (by rw [show (0 : Int32) = nI 0 from rfl, nI_ltI (by omega) (by omega)]; omega), if_neg (by rw [show (24 : Int32) = nI 24 from rfl, nI_leI (by omega) (by omega)]; omega), ck_nI h24 (by decide), sq_eq, ck_nI h24 (by decide), sq_eq, nI_clamp (by omega), hR7, hR8, hQ.m11, show (9 : Int32) = nI 9 from rfl, show (3 : Int32) = nI 3 from rfl, nI_mul, nI_add, nI_1, show (2 : Int32) = nI 2 from rfl, nI_add, ck_nI (by omega) (by decide), sq_eq, ck_nI (by omega) (by decide), sq_eq, ck_nI (by omega) (by decide), sq_eq, nI_clamp (by omega), nI_clamp (by omega), nI_clamp (by omega)]
    refine ⟨true, _, _, rfl, rfl, ((((T3.upc (by omega)).upc (by omega)).upm (by omega)).upm (by omega)).upm (by omega), fun o j q r => (if_neg (by omega)).trans ((if_neg (by omega)).trans (FF o j q)), fun o j q r r' => (if_neg (by omega)).trans ((if_neg (by omega)).trans ((if_neg (by omega)).trans (GG o j q))), fun _ => ?_⟩
    have fc : ∀ o j, o ≠ 3 → (o ≠ D + 8 ∧ o ≠ D + 9) ∨ j ≠ h → up (up σ3 (D + 8) h b2) (D + 9) h c2 o j = σc o j := fun o j q q' => (if_neg (by omega)).trans ((if_neg (by omega)).trans (FF o j (by omega)))
    have fm : ∀ o j, o ≠ 178 → (o ≠ 181 ∨ (j ≠ 9 + 3 * h ∧ j ≠ 9 + 3 * h + 1 ∧ j ≠ 9 + 3 * h + 2)) → up (up (up μ3 181 (9 + 3 * h) 1) 181 (9 + 3 * h + 1) b2) 181 (9 + 3 * h + 2) c2 o j = σm o j := fun o j q q' => (if_neg (by omega)).trans ((if_neg (by omega)).trans ((if_neg (by omega)).trans (GG o j (by omega))))
    obtain ⟨ds, dw, dn, dr, db⟩ := d
    refine ⟨ds.fr (fun j _ _ => fm _ _ (by omega) (by omega)) (fun j _ _ => fc _ _ (by omega) (by omega)), fun g hg => ?_, dn.fr (fun j _ => fm _ _ (by omega) (by omega)) (fun o j _ => fc _ _ (by omega) (by omega)), dr.fr (fun j _ => fm _ _ (by omega) (by omega)) (fun o j _ => fc _ _ (by omega) (by omega)), db.fr (fun j _ => fm _ _ (by omega) (by omega)) (fun j => fm _ _ (by omega) (by omega)) (fun o j _ => fc _ _ (by omega) (by omega))⟩
    by_cases eg : g = h
    · subst eg
      have m0 : up (up (up μ3 181 (9 + 3 * g) 1) 181 (9 + 3 * g + 1) b2) 181 (9 + 3 * g + 2) c2 181 (9 + 3 * g) = 1 := (if_neg (by omega)).trans ((if_neg (by omega)).trans up_th)
      have m1 : up (up (up μ3 181 (9 + 3 * g) 1) 181 (9 + 3 * g + 1) b2) 181 (9 + 3 * g + 2) c2 181 (9 + 3 * g + 1) = b2 := (if_neg (by omega)).trans up_th
      have m2 : up (up (up μ3 181 (9 + 3 * g) 1) 181 (9 + 3 * g + 1) b2) 181 (9 + 3 * g + 2) c2 181 (9 + 3 * g + 2) = c2 := up_th
      have k0 : up (up σ3 (D + 8) g b2) (D + 9) g c2 (D + 8) g = b2 := (if_neg (by omega)).trans up_th
      have k1 : up (up σ3 (D + 8) g b2) (D + 9) g c2 (D + 9) g = c2 := up_th
      rw [m0, m1, m2, k0, k1]
      exact ⟨Or.inr ⟨rfl, rfl, rfl⟩, ⟨by omega, by omega⟩, by omega, by omega⟩
    · rw [fm 181 (9 + 3 * g) (by omega) (by omega), fm 181 (9 + 3 * g + 1) (by omega) (by omega), fm 181 (9 + 3 * g + 2) (by omega) (by omega), fc (D + 8) g (by omega) (by omega), fc (D + 9) g (by omega) (by omega)]
      exact dw g hg
end SET
