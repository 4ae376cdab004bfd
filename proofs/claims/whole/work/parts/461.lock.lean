/-! ===== the text, in step ===== -/
section LOCK
variable {N : Nat} {R : Nat → Nat → Nat} {s : Nat} {Q : Nat → Nat → Nat} {s2 : Nat} {σc σm : SI} {B : Nat → Int32} {n k : Nat} {ok : Bool}
def TS (B : Nat → Int32) (n k : Nat) (ok : Bool) (σc σm : SI) : Prop := ∃ p q : Nat, CTk σc B n p ∧ MTk σm B n q ∧ (ok = true → q = p ∧ k ≤ p ∧ σc 3 3 = -1 ∧ σc 3 4 = 0 ∧ σm 178 7 = -1 ∧ σm 178 8 = 0) ∧ (ok = false → ∃ off kd : Nat, off ≤ 800 ∧ 1 ≤ kd ∧ kd ≤ 4 ∧ σc 3 3 = nI off ∧ σc 3 4 = nI kd ∧ σm 178 7 = nI off ∧ σm 178 8 = nI kd)
def FC (σ σ' : SI) : Prop := ∀ o j, o ≠ 3 ∨ (j ≠ 2 ∧ j ≠ 3 ∧ j ≠ 4) → σ' o j = σ o j
def FM (σ σ' : SI) : Prop := ∀ o j, o ≠ 178 ∨ (j ≠ 4 ∧ j ≠ 5 ∧ j ≠ 7 ∧ j ≠ 8) → σ' o j = σ o j
theorem FC.rf {σ : SI} : FC σ σ := fun _ _ _ => rfl
theorem FM.rf {σ : SI} : FM σ σ := fun _ _ _ => rfl
theorem FC.tr {a b c : SI} (h : FC a b) (g : FC b c) : FC a c := fun o j q => (g o j q).trans (h o j q)
theorem FM.tr {a b c : SI} (h : FM a b) (g : FM b c) : FM a c := fun o j q => (g o j q).trans (h o j q)
theorem TS.same (h : TS B n k ok σc σm) {σ1 σ2 : SI} (f1 : ∀ o j, o = 3 ∨ o = 4 → σ1 o j = σc o j) (f2 : ∀ o j, o = 178 ∨ o = 179 → σ2 o j = σm o j) : TS B n k ok σ1 σ2 := by
  obtain ⟨p, q, h1, h2, h3, h4⟩ := h
  refine ⟨p, q, h1.fr h1.2.1 ((f1 _ _ (Or.inl rfl)).trans h1.2.2.2.1) (fun o j z => f1 o j (by omega)), h2.fr h2.2.1 ((f2 _ _ (Or.inl rfl)).trans h2.2.2.2.1) (fun o j z => f2 o j (by omega)), ?_, ?_⟩
  · intro z
    rw [f1 3 3 (Or.inl rfl), f1 3 4 (Or.inl rfl), f2 178 7 (Or.inl rfl), f2 178 8 (Or.inl rfl)]
    exact h3 z
  · intro z
    rw [f1 3 3 (Or.inl rfl), f1 3 4 (Or.inl rfl), f2 178 7 (Or.inl rfl), f2 178 8 (Or.inl rfl)]
    exact h4 z
theorem TS.upc (h : TS B n k ok σc σm) {o j : Nat} {v : Int32} (ho : o ≠ 3 ∧ o ≠ 4) : TS B n k ok (up σc o j v) σm := h.same (fun a b z => if_neg (by omega)) (fun _ _ _ => rfl)
theorem TS.upm (h : TS B n k ok σc σm) {o j : Nat} {v : Int32} (ho : o ≠ 178 ∧ o ≠ 179) : TS B n k ok σc (up σm o j v) := h.same (fun _ _ _ => rfl) (fun a b z => if_neg (by omega))
theorem TS.c0 (h : TS B n k false σc σm) : ¬ σc 3 4 = 0 := by
  obtain ⟨-, -, -, -, -, h4⟩ := h
  obtain ⟨off, kd, h1, h2, h3, -, e, -, -⟩ := h4 rfl
  rw [e, show (0 : Int32) = nI 0 from rfl, nI_eq (by omega) (by omega)]
  omega
theorem TS.m0 (h : TS B n k false σc σm) : ¬ σm 178 7 = -1 := by
  obtain ⟨-, -, -, -, -, h4⟩ := h
  obtain ⟨off, kd, h1, h2, h3, -, -, e, -⟩ := h4 rfl
  rw [e, show (-1 : Int32) = iI (-1) from rfl, iI_nat, iI_eq (by omega)]
  omega
theorem TS.c1 (h : TS B n k true σc σm) : σc 3 4 = 0 := by
  obtain ⟨_, _, _, _, h3, _⟩ := h
  exact (h3 rfl).2.2.2.1
theorem TS.m1 (h : TS B n k true σc σm) : σm 178 7 = -1 := by
  obtain ⟨_, _, _, _, h3, _⟩ := h
  exact (h3 rfl).2.2.2.2.1
theorem TS.failed (h : TS B n k ok σc σm) : f_X10_failed N R σc 3 = some (bI (!ok), σc) ∧ f_X12_hasFailed N R σm 178 = some (bI (!ok), σm) := by
  cases ok
  · unfold f_X10_failed f_X12_hasFailed
    rw [if_neg h.c0, if_neg h.m0]
    exact ⟨rfl, rfl⟩
  · unfold f_X10_failed f_X12_hasFailed
    rw [if_pos h.c1, if_pos h.m1]
    exact ⟨rfl, rfl⟩
theorem TS.fails (h : TS B n k true σc σm) {a b kd : Nat} (hb : b ≤ 800 ∧ 1 ≤ kd ∧ kd ≤ 4) : TS B n k false (up (up σc 3 3 (nI b)) 3 4 (nI kd)) (up (up σm 178 7 (nI b)) 178 8 (nI kd)) := by
  obtain ⟨p, q, h1, h2, -, -⟩ := h
  refine ⟨p, q, h1.fr h1.2.1 ((if_neg (by omega)).trans ((if_neg (by omega)).trans h1.2.2.2.1)) (fun o j z => (if_neg (by omega)).trans (if_neg (by omega))), h2.fr h2.2.1 ((if_neg (by omega)).trans ((if_neg (by omega)).trans h2.2.2.2.1)) (fun o j z => (if_neg (by omega)).trans (if_neg (by omega))), fun z => (by cases z), fun _ => ⟨b, kd, hb.1, hb.2.1, hb.2.2, (if_neg (by omega)).trans up_th, up_th, (if_neg (by omega)).trans up_th, up_th⟩⟩
theorem T_num (hN : 2000 ≤ N) (hR : RO R s) (hQ : RO Q s2) (h : TS B n k ok σc σm) {l1 l2 : Int32} {lo hi : Int} (hl : ok = true → l1 = iI lo ∧ l2 = iI lo ∧ 0 ≤ lo ∧ lo ≤ 100000) (hh : 0 ≤ hi ∧ hi ≤ 100000) : ∃ (ok' : Bool) (a1 a2 : Int32) (σc' σm' : SI), f_X10_takeNumber N R σc 3 l1 (iI hi) = some (a1, σc') ∧ f_X12_number N Q σm 178 l2 (iI hi) = some (a2, σm') ∧ TS B n k ok' σc' σm' ∧ FC σc σc' ∧ FM σm σm' ∧ (ok' = true → ok = true ∧ ∃ v : Int, a1 = iI v ∧ a2 = iI v ∧ lo ≤ v ∧ v ≤ hi) := by
  cases ok
  · refine ⟨false, -1, l2, σc, σm, ?_, ?_, h, FC.rf, FM.rf, fun z => by cases z⟩
    · unfold f_X10_takeNumber
      rw [h.failed.1, bd_some, Bool.not_false, bI_t, if_neg (by decide)]
    · unfold f_X12_number
      rw [h.failed.2, bd_some, Bool.not_false, bI_t, if_neg (by decide)]
  · obtain ⟨p, q, h1, h2, h3, -⟩ := h
    obtain ⟨rfl, hk, c3, c4, m7, m8⟩ := h3 rfl
    obtain ⟨rfl, rfl, hl2⟩ := hl rfl
    obtain ⟨cs, cf⟩ := c_num_ok hN hR h1 c4 hl2 hh
    obtain ⟨ms, mf⟩ := m_num_ok hN hQ h2 h1.2.1 m7 hl2 hh
    have hs := sk_r (B := B) (n := n) (p := q)
    have hE := nE_r (B := B) (n := n) (p := q)
    have hs2 := hs.2.1 h1.2.1
    have h8 := h1.1
    by_cases c : nG B n q lo hi
    · obtain ⟨σ1, e1, f1, g1⟩ := cs c
      obtain ⟨σ2, e2, f2, g2⟩ := ms c
      refine ⟨true, _, _, σ1, σ2, e1, e2, ⟨_, _, f1, f2, fun _ => ⟨rfl, by omega, (g1 _ _ (by omega)).trans c3, (g1 _ _ (by omega)).trans c4, (g2 _ _ (by omega)).trans m7, (g2 _ _ (by omega)).trans m8⟩, fun z => by cases z⟩, fun o j z => g1 o j (by omega), fun o j z => g2 o j (by omega), fun _ => ⟨rfl, _, rfl, rfl, c.2.2.1, c.2.2.2⟩⟩
    · obtain ⟨σ1, e1, f1, a3, a4, g1⟩ := cf c
      obtain ⟨x, σ2, e2, f2, b7, b8, g2⟩ := mf c
      refine ⟨false, _, _, σ1, σ2, e1, e2, ⟨_, _, f1, f2, fun z => (by cases z), fun _ => ⟨_, _, (by omega : sk B n q ≤ 800), ?_, ?_, a3, a4, b7, b8⟩⟩, fun o j z => g1 o j (by omega), fun o j z => g2 o j (by omega), fun z => by cases z⟩
      · unfold nK
        split <;> omega
      · unfold nK
        split <;> omega
theorem T_fail1 (h : TS B n k true σc σm) (x : Nat) {b : Nat} (e : σc 3 2 = nI b) (e5 : σm 178 5 = nI b) : f_X10_need N R σc 3 0 = some ((), up (up σc 3 3 (nI b)) 3 4 1) ∧ f_X12_must N Q σm 178 0 1 = some ((), up (up σm 178 7 (nI b)) 178 8 1) := by
  constructor
  · unfold f_X10_need
    rw [if_pos rfl, c_fail h.c1, bd_some, e]
  · rw [m_must0 h.m1, e5]
theorem c_need0 (h : TS B n k false σc σm) (a : Int32) : f_X10_need N R σc 3 a = some ((), σc) := by
  unfold f_X10_need f_X10_fail
  rw [if_neg h.c0, bd_some]
  split <;> rfl
theorem T_word (hN : 2000 ≤ N) (hR : RO R s) (hQ : RO Q s2) (h : TS B n k ok σc σm) {q : Nat} (hq : q < 13) : ∃ (ok' : Bool) (a : Int32) (σ1 σc' σm' : SI), f_X10_tookWord N R σc 3 q = some (a, σ1) ∧ f_X10_need N R σ1 3 a = some ((), σc') ∧ (∀ x2 x3, f_X12_after N Q σm 178 q x2 x3 = f_X12_after_14 N Q σm' 178 x2 x3) ∧ TS B n k ok' σc' σm' ∧ FC σc σc' ∧ FM σm σm' ∧ (ok' = true → ok = true) := by
  obtain ⟨p, q', h1, h2, h3, h4⟩ := id h
  obtain ⟨σ1, e1, f1, g1⟩ := c_word hN hR hq h1
  have hw := wE_r (B := B) (n := n) h1.2.1 q
  have hs := sk_r (B := B) (n := n) (p := p)
  have hs2 := hs.2.1 h1.2.1
  have h8 := h1.1
  cases ok
  · have T1 : TS B n k false σ1 σm := ⟨_, q', f1, h2, fun z => (by cases z), fun z => by rw [g1 3 3 (by omega), g1 3 4 (by omega)]; exact h4 z⟩
    refine ⟨false, _, σ1, σ1, σm, e1, c_need0 T1 _, fun x2 x3 => ?_, T1, fun o j z => g1 o j (by omega), FM.rf, fun z => by cases z⟩
    unfold f_X12_after f_X12_takesWord
    rw [h.failed.2, bd_some, Bool.not_false, bI_t, if_neg (by decide), m_tw0 hN, bd_some, if_pos rfl, m_mustF h.m0, bd_some]
  · obtain ⟨rfl, hk, c3, c4, m7, m8⟩ := h3 rfl
    obtain ⟨σ2, e2, f2, b5, g2⟩ := m_word hN hQ hq h2 h1.2.1 m7
    have T1 : TS B n k true σ1 σ2 := ⟨_, _, f1, f2, fun _ => ⟨rfl, by omega, (g1 _ _ (by omega)).trans c3, (g1 _ _ (by omega)).trans c4, (g2 _ _ (by omega)).trans m7, (g2 _ _ (by omega)).trans m8⟩, fun z => by cases z⟩
    by_cases c : wm B n q (sk B n q') = true
    · rw [c] at e1 e2
      refine ⟨true, _, σ1, σ1, σ2, e1, ?_, fun x2 x3 => ?_, T1, fun o j z => g1 o j (by omega), fun o j z => g2 o j (by omega), fun _ => rfl⟩
      · unfold f_X10_need
        rw [bI_t, if_neg (by decide)]
      · unfold f_X12_after
        rw [e2, bd_some, bI_t, if_neg (by decide)]
    · have c : wm B n q (sk B n q') = false := Bool.eq_false_iff.mpr c
      have ew : wE B n q q' = sk B n q' := by
        unfold wE
        rw [c, if_neg (by decide)]
      rw [c] at e1 e2
      have F := T_fail1 (N := N) (R := R) (Q := Q) T1 0 (f1.2.2.2.1.trans (by rw [ew])) b5
      refine ⟨false, _, σ1, _, _, e1, F.1, fun x2 x3 => ?_, T1.fails (a := 0) (b := sk B n q') (kd := 1) ⟨by omega, by omega, by omega⟩, fun o j z => (if_neg (by omega)).trans ((if_neg (by omega)).trans (g1 o j (by omega))), fun o j z => (if_neg (by omega)).trans ((if_neg (by omega)).trans (g2 o j (by omega))), fun z => by cases z⟩
      unfold f_X12_after
      rw [e2, bd_some, bI_f, if_pos rfl, F.2, bd_some]
      rfl
/-- a word at a line's head, both sides still well -/
theorem T_key (hN : 2000 ≤ N) (hR : RO R s) (hQ : RO Q s2) (h : TS B n k true σc σm) {q : Nat} (hq : q < 13) : ∃ (c : Bool) (σc' σm' : SI) (p : Nat), (σc 3 2 = nI p ∧ p ≤ 800) ∧ f_X10_tookWord N R σc 3 q = some (bI c, σc') ∧ f_X12_takesWord N Q σm 178 q = some (bI c, σm') ∧ c = wm B n q (sk B n p) ∧ σc' 3 2 = nI (wE B n q p) ∧ TS B n k true σc' σm' ∧ σm' 178 5 = nI (sk B n p) ∧ FC σc σc' ∧ FM σm σm' := by
  obtain ⟨p, q', h1, h2, h3, h4⟩ := id h
  obtain ⟨σ1, e1, f1, g1⟩ := c_word hN hR hq h1
  obtain ⟨rfl, hk, c3, c4, m7, m8⟩ := h3 rfl
  obtain ⟨σ2, e2, f2, b5, g2⟩ := m_word hN hQ hq h2 h1.2.1 m7
  have hw := wE_r (B := B) (n := n) h1.2.1 q
  exact ⟨_, σ1, σ2, q', ⟨h1.2.2.2.1, by have := h1.1; have := h1.2.1; omega⟩, e1, e2, rfl, f1.2.2.2.1, ⟨_, _, f1, f2, fun _ => ⟨rfl, by omega, (g1 _ _ (by omega)).trans c3, (g1 _ _ (by omega)).trans c4, (g2 _ _ (by omega)).trans m7, (g2 _ _ (by omega)).trans m8⟩, fun z => by cases z⟩, b5, fun o j z => g1 o j (by omega), fun o j z => g2 o j (by omega)⟩
/-- does a number follow -/
theorem T_fig (hN : 2000 ≤ N) (hR : RO R s) (hQ : RO Q s2) (h : TS B n k true σc σm) : ∃ (c : Bool) (σc' σm' : SI) (p : Nat), f_X10_numberFollows N R σc 3 = some (bI c, σc') ∧ f_X12_isFigure N Q σm 178 = some (bI c, σm') ∧ TS B n k true σc' σm' ∧ σc' 3 2 = nI p ∧ σm' 178 5 = nI p ∧ (p ≤ 800 ∧ sk B n p = p) ∧ FC σc σc' ∧ FM σm σm' := by
  obtain ⟨p, q', h1, h2, h3, h4⟩ := id h
  obtain ⟨rfl, hk, c3, c4, m7, m8⟩ := h3 rfl
  obtain ⟨e1, f1⟩ := c_skip hN hR h1
  obtain ⟨σ2, e2, f2, b5, g2⟩ := m_fig hN hQ h2
  have hs := sk_r (B := B) (n := n) (p := q')
  have hs2 := hs.2.1 h1.2.1
  have h8 := h1.1
  have hE := nE_r (B := B) (n := n) (p := q')
  have her := er_r (B := B) (n := n) (p := sk B n q') (lo := 48) (hi := 57)
  have hEn := hE.2.1 h1.2.1
  rw [decide_eq_true m7, Bool.true_and] at e2
  refine ⟨isC B n 48 57 (sk B n q'), _, σ2, sk B n q', ?_, e2, ⟨_, _, f1, f2, fun _ => ⟨rfl, by omega, (if_neg (by omega)).trans c3, (if_neg (by omega)).trans c4, (g2 _ _ (by omega)).trans m7, (g2 _ _ (by omega)).trans m8⟩, fun z => by cases z⟩, up_th, b5, ⟨by omega, sk_sk⟩, fun o j z => if_neg (by omega), fun o j z => g2 o j (by omega)⟩
  unfold f_X10_numberFollows
  rw [e1, bd_some, c_run hN hR f1, bd_some, f1.2.2.2.1]
  by_cases c : er B n 48 57 (sk B n q') ≤ sk B n q'
  · rw [if_pos (by rw [nI_leI (by omega) (by omega)]; exact c)]
    have e : er B n 48 57 (sk B n q') = sk B n q' := by omega
    have := her.2.2.1
    rw [e] at this
    rw [this]
    rfl
  · rw [if_neg (by rw [nI_leI (by omega) (by omega)]; exact c), her.2.2.2 (sk B n q') (by omega) (by omega)]
    rfl
theorem M_fig0 (hN : 2000 ≤ N) (hQ : RO Q s2) (h : TS B n k false σc σm) : ∃ σm' : SI, f_X12_isFigure N Q σm 178 = some (0, σm') ∧ TS B n k false σc σm' ∧ FM σm σm' := by
  obtain ⟨p, q', h1, h2, h3, h4⟩ := id h
  obtain ⟨σ2, e2, f2, b5, g2⟩ := m_fig hN hQ h2
  rw [decide_eq_false h.m0, Bool.false_and] at e2
  exact ⟨σ2, e2, ⟨p, _, h1, f2, fun z => (by cases z), fun z => by rw [g2 178 7 (by omega), g2 178 8 (by omega)]; exact h4 z⟩, fun o j z => g2 o j (by omega)⟩
theorem M_blanks (hN : 2000 ≤ N) (hQ : RO Q s2) (h : TS B n k false σc σm) : ∃ σm' : SI, f_X12_blanks N Q σm 178 = some ((), σm') ∧ TS B n k false σc σm' ∧ FM σm σm' := by
  obtain ⟨p, q', h1, h2, h3, h4⟩ := id h
  obtain ⟨σ2, e2, f2, b5, g2⟩ := m_blanks hN hQ h2
  exact ⟨σ2, e2, ⟨p, _, h1, f2, fun z => (by cases z), fun z => by rw [g2 178 7 (by omega), g2 178 8 (by omega)]; exact h4 z⟩, fun o j z => g2 o j (by omega)⟩
/-- blanks of both, at one place -/
theorem T_blanks (hN : 2000 ≤ N) (hR : RO R s) (hQ : RO Q s2) (h : TS B n k true σc σm) : ∃ (σc' σm' : SI) (p : Nat), f_X10_skipSpaces N R σc 3 = some ((), σc') ∧ f_X12_blanks N Q σm 178 = some ((), σm') ∧ TS B n k true σc' σm' ∧ σc' 3 2 = nI p ∧ σm' 178 4 = nI p ∧ σm' 178 5 = nI p ∧ p ≤ n ∧ k ≤ p ∧ sk B n p = p ∧ FC σc σc' ∧ FM σm σm' := by
  obtain ⟨p, q', h1, h2, h3, h4⟩ := id h
  obtain ⟨rfl, hk, c3, c4, m7, m8⟩ := h3 rfl
  obtain ⟨e1, f1⟩ := c_skip hN hR h1
  obtain ⟨σ2, e2, f2, b5, g2⟩ := m_blanks hN hQ h2
  have hs := sk_r (B := B) (n := n) (p := q')
  have hs2 := hs.2.1 h1.2.1
  exact ⟨_, σ2, sk B n q', e1, e2, ⟨_, _, f1, f2, fun _ => ⟨rfl, by omega, (if_neg (by omega)).trans c3, (if_neg (by omega)).trans c4, (g2 _ _ (by omega)).trans m7, (g2 _ _ (by omega)).trans m8⟩, fun z => by cases z⟩, up_th, f2.2.2.2.1, b5, hs2, by omega, sk_sk, fun o j z => if_neg (by omega), fun o j z => g2 o j (by omega)⟩
/-- the end of a line -/
theorem T_semi (hN : 2000 ≤ N) (hR : RO R s) (hQ : RO Q s2) (h : TS B n k ok σc σm) : ∃ (ok' : Bool) (a : Int32) (σ1 σc' σm' : SI), f_X10_tookSemicolon N R σc 3 = some (a, σ1) ∧ f_X10_need N R σ1 3 a = some ((), σc') ∧ f_X12_line_237 N Q σm 178 = some ((), σm') ∧ TS B n (k + 1) ok' σc' σm' ∧ FC σc σc' ∧ FM σm σm' ∧ (ok' = true → ok = true) := by
  cases ok
  · obtain ⟨p, q', h1, h2, h3, h4⟩ := id h
    obtain ⟨e1, f1⟩ := c_skip hN hR h1
    have hs := sk_r (B := B) (n := n) (p := p)
    have hs2 := hs.2.1 h1.2.1
    have h8 := h1.1
    have mm : f_X12_line_237 N Q σm 178 = some ((), σm) := by
      unfold f_X12_line_237
      rw [h.failed.2, bd_some, Bool.not_false, bI_t, if_neg (by decide)]
    have T1 : ∀ p' : Nat, p' ≤ n → ∀ σ' : SI, σ' 3 2 = nI p' → (∀ o j, o ≠ 3 ∨ j ≠ 2 → σ' o j = σc o j) → TS B n (k + 1) false σ' σm := fun p' hp' σ' e' f' => ⟨p', q', h1.fr hp' e' (fun o j z => f' o j (by omega)), h2, fun z => (by cases z), fun z => by rw [f' 3 3 (by omega), f' 3 4 (by omega)]; exact h4 z⟩
    unfold f_X10_tookSemicolon
    rw [e1, bd_some, f1.2.2.1, f1.2.2.2.1, hR.r3_0]
    have Ta := T1 (sk B n p) hs2 (up σc 3 2 (nI (sk B n p))) up_th (fun o j z => if_neg (by omega))
    by_cases c : n ≤ sk B n p
    · rw [if_pos (by rw [nI_leI (by omega) (by omega)]; exact c)]
      exact ⟨false, _, _, _, _, rfl, c_need0 Ta _, mm, Ta, fun o j z => if_neg (by omega), FM.rf, fun z => by cases z⟩
    · rw [if_neg (by rw [nI_leI (by omega) (by omega)]; exact c), ck_nI (by omega) (by decide), nI_clamp (by omega)]
      by_cases c2 : up σc 3 2 (nI (sk B n p)) 4 (sk B n p) = 59
      · have Tb := T1 (sk B n p + 1) (by omega) (up (up σc 3 2 (nI (sk B n p))) 3 2 (nI (sk B n p) + 1)) (up_th.trans (nI_1 _)) (fun o j z => (if_neg (by omega)).trans (if_neg (by omega)))
        rw [if_pos c2, sq_eq]
        exact ⟨false, _, _, _, _, rfl, c_need0 Tb _, mm, Tb, fun o j z => (if_neg (by omega)).trans (if_neg (by omega)), FM.rf, fun z => by cases z⟩
      · rw [if_neg c2]
        exact ⟨false, _, _, _, _, rfl, c_need0 Ta _, mm, Ta, fun o j z => if_neg (by omega), FM.rf, fun z => by cases z⟩
  · obtain ⟨σ1, σ2, p, e1, e2, T1, z2, z4, z5, hp, hk, -, F1, F2⟩ := T_blanks hN hR hQ h
    obtain ⟨p', q', h1, h2, h3, -⟩ := id T1
    have h8 := h1.1
    have ep : p' = p := (nI_eq (by have := h1.2.1; omega) (by omega)).mp (h1.2.2.2.1.symm.trans z2)
    subst ep
    obtain ⟨rfl, -, -, -, -, -⟩ := h3 rfl
    unfold f_X10_tookSemicolon f_X12_line_237
    rw [e1, bd_some, h1.2.2.1, z2, hR.r3_0, h.failed.2, bd_some, Bool.not_true, bI_f, if_pos rfl, e2, bd_some, m_isAt hQ h2, bd_some]
    by_cases c : isC B n 59 59 q' = true
    · have cc := isC_n c
      have e59 : B q' = 59 := by
        rw [← Int32.toInt_inj]
        have : (59 : Int32).toInt = 59 := rfl
        omega
      rw [if_neg (by rw [nI_leI (by omega) (by omega)]; omega), ck_nI (by omega) (by decide), nI_clamp (by omega), h1.2.2.2.2 q' cc.1, if_pos e59, sq_eq, c, bI_t, m_must1, bd_some, sq_eq, z4, nI_1]
      refine ⟨true, _, _, _, _, rfl, ?_, rfl, ⟨q' + 1, q' + 1, h1.fr (by omega) up_th (fun o j z => if_neg (by omega)), h2.fr (by omega) up_th (fun o j z => if_neg (by omega)), fun z => ?_, fun z => by cases z⟩, fun o j z => (if_neg (by omega)).trans (F1 o j z), fun o j z => (if_neg (by omega)).trans (F2 o j z), fun _ => rfl⟩
      · unfold f_X10_need
        rw [if_neg (by decide)]
      · have := h3 z
        exact ⟨rfl, by omega, (if_neg (by omega)).trans this.2.2.1, (if_neg (by omega)).trans this.2.2.2.1, (if_neg (by omega)).trans this.2.2.2.2.1, (if_neg (by omega)).trans this.2.2.2.2.2⟩
    · have c' : isC B n 59 59 q' = false := Bool.eq_false_iff.mpr c
      have F := T_fail1 (N := N) (R := R) (Q := Q) T1 0 z2 z5
      have Tf := T1.fails (a := 0) (b := q') (kd := 1) ⟨by omega, by omega, by omega⟩
      have Tg : TS B n (k + 1) false (up (up σ1 3 3 (nI q')) 3 4 1) (up (up (up σ2 178 7 (nI q')) 178 8 1) 178 4 (nI (q' + 1))) := by
        obtain ⟨pa, qa, g1, g2, g3, g4⟩ := Tf
        refine ⟨pa, q' + 1, g1, g2.fr (by omega) up_th (fun o j z => if_neg (by omega)), fun z => (by cases z), fun z => ?_⟩
        obtain ⟨off, kd, w1, w2, w3, w4, w5, w6, w7⟩ := g4 z
        exact ⟨off, kd, w1, w2, w3, w4, w5, (if_neg (by omega)).trans w6, (if_neg (by omega)).trans w7⟩
      rw [c', bI_f, F.2, bd_some, sq_eq, show up (up σ2 178 7 (nI q')) 178 8 1 178 4 = nI q' from (if_neg (by omega)).trans ((if_neg (by omega)).trans z4), nI_1]
      have row : (if nI n ≤ nI q' then some ((0 : Int32), σ1) else ck (nI q') 800 (if σ1 4 (nI q').toNatClampNeg = 59 then some ((1 : Int32), up σ1 3 2 (nI (q' + 1))) else some ((0 : Int32), σ1))) = some (0, σ1) := by
        by_cases c2 : n ≤ q'
        · rw [if_pos (by rw [nI_leI (by omega) (by omega)]; exact c2)]
        · rw [if_neg (by rw [nI_leI (by omega) (by omega)]; exact c2), ck_nI (by omega) (by decide), nI_clamp (by omega), h1.2.2.2.2 q' (by omega), if_neg]
          intro e
          have : isC B n 59 59 q' = true := by
            unfold isC
            rw [e, decide_eq_true (by omega)]
            rfl
          exact c this
      rw [row]
      exact ⟨false, _, _, _, _, rfl, F.1, rfl, Tg, fun o j z => (if_neg (by omega)).trans ((if_neg (by omega)).trans (F1 o j z)), fun o j z => (if_neg (by omega)).trans ((if_neg (by omega)).trans ((if_neg (by omega)).trans (F2 o j z))), fun z => by cases z⟩
end LOCK
