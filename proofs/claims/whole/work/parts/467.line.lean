/-! ===== one line, in step ===== -/
theorem mtF_iff {B : Nat → Int32} {q p : Nat} : ∀ (m i : Nat), mtF B q p i m = true → ∀ j, i ≤ j → j < i + m → B (p + j) = chS q (nI j) := by
  intro m
  induction m with
  | zero => intro i _ j h1 h2; exact absurd h2 (by omega)
  | succ m ih =>
    intro i h j h1 h2
    rw [mtF_s, Bool.and_eq_true, decide_eq_true_eq] at h
    by_cases c : j = i
    · rw [c]
      exact h.1
    · exact ih (i + 1) h.2 j (by omega) (by omega)
set_option maxRecDepth 100000 in
theorem words_x : ∀ q1, q1 < 10 → ∀ q2, q2 < 10 → lnN q1 = lnN q2 → (∀ i, i < lnN q1 → chS q1 (nI i) = chS q2 (nI i)) → q1 = q2 := by decide +kernel
theorem wm_x {B : Nat → Int32} {n p q1 q2 : Nat} (h1 : q1 < 10) (h2 : q2 < 10) (a : wm B n q1 p = true) (b : wm B n q2 p = true) : q1 = q2 := by
  unfold wm at a b
  rw [Bool.and_eq_true, decide_eq_true_eq] at a b
  have e : lnN q1 = lnN q2 := a.1.symm.trans b.1
  refine words_x q1 h1 q2 h2 e fun i hi => ?_
  exact (mtF_iff _ 0 a.2 i (by omega) (by omega)).symm.trans (mtF_iff _ 0 b.2 i (by omega) (by omega))
section LINE
variable {N : Nat} {R : Nat → Nat → Nat} {s : Nat} {Q : Nat → Nat → Nat} {s2 : Nat} {σc σm : SI} {B : Nat → Int32} {n k D p0 : Nat} {ok : Bool}
def mlE (N : Nat) (Q : Nat → Nat → Nat) (a : Int32) (σ : SI) : Option (Unit × SI) := if a = 0 then (bd (f_X12_hasFailed N Q σ 178) (fun a25 σ25 => if a25 = 0 then (bd (f_X12_must N Q σ25 178 (0 : Int32) (1 : Int32)) (fun _ σ33 => f_X12_line_237 N Q σ33 178)) else (f_X12_line_237 N Q σ25 178))) else (bd (f_X12_blastLine N Q σ 178) (fun _ σ34 => f_X12_line_237 N Q σ34 178))
def mlB (N : Nat) (Q : Nat → Nat → Nat) (σ : SI) : Option (Unit × SI) := bd (f_X12_blasts N Q σ 178) (fun a21 σ21 => if (6 : Int32) ≤ a21 then (bd (f_X12_startsWith N Q σ21 178 3 (0 : Int32)) (fun a σ => mlE N Q a σ)) else (bd (f_X12_startsWith N Q σ21 178 3 (1 : Int32)) (fun a σ => mlE N Q a σ)))
def mlF (N : Nat) (Q : Nat → Nat → Nat) (a : Int32) (σ : SI) : Option (Unit × SI) := if a = 0 then mlB N Q σ else (bd (f_X12_roadLine N Q σ 178) (fun _ σ41 => f_X12_line_237 N Q σ41 178))
def mlR (N : Nat) (Q : Nat → Nat → Nat) (σ : SI) : Option (Unit × SI) := ck (1 : Int32) 417 (if (6 : Int32) ≤ (σ (Q 178 11) (1 : Int32).toNatClampNeg) then (bd (f_X12_startsWith N Q σ 178 2 (0 : Int32)) (fun a σ => mlF N Q a σ)) else (bd (f_X12_startsWith N Q σ 178 2 (1 : Int32)) (fun a σ => mlF N Q a σ)))
def mlG (N : Nat) (Q : Nat → Nat → Nat) (a : Int32) (σ : SI) : Option (Unit × SI) := if a = 0 then mlR N Q σ else (bd (f_X12_nearLine N Q σ 178) (fun _ σ41 => f_X12_line_237 N Q σ41 178))
def mlN (N : Nat) (Q : Nat → Nat → Nat) (σ : SI) : Option (Unit × SI) := ck (0 : Int32) 417 (if (8 : Int32) ≤ (σ (Q 178 11) (0 : Int32).toNatClampNeg) then (bd (f_X12_startsWith N Q σ 178 0 (0 : Int32)) (fun a σ => mlG N Q a σ)) else (bd (f_X12_startsWith N Q σ 178 0 (1 : Int32)) (fun a σ => mlG N Q a σ)))
theorem ml_eq (σ : SI) : f_X12_line N Q σ 178 = bd (f_X12_startsWith N Q σ 178 5 (1 : Int32)) (fun a1 σ1 => if a1 = 0 then (bd (f_X12_startsWith N Q σ1 178 6 (1 : Int32)) (fun a3 σ3 => if a3 = 0 then (bd (f_X12_startsWith N Q σ3 178 7 (1 : Int32)) (fun a5 σ5 => if a5 = 0 then (bd (f_X12_startsWith N Q σ5 178 8 (1 : Int32)) (fun a7 σ7 => if a7 = 0 then (bd (f_X12_startsWith N Q σ7 178 9 (1 : Int32)) (fun a9 σ9 => if a9 = 0 then mlN N Q σ9 else (bd (f_X12_windLine N Q σ9 178) (fun _ σ100 => f_X12_line_237 N Q σ100 178)))) else (bd (bd (f_X12_number N Q σ7 178 (0 : Int32) (240 : Int32)) (fun a102 σ102 => ck (8 : Int32) 417 (sq (up σ102 (Q 178 11) (8 : Int32).toNatClampNeg a102) (fun σ104 => some ((), σ104))))) (fun _ σ => f_X12_line_237 N Q σ 178)))) else (bd (bd (f_X12_number N Q σ5 178 (0 : Int32) (60 : Int32)) (fun a106 σ106 => ck (6 : Int32) 417 (sq (up σ106 (Q 178 11) (6 : Int32).toNatClampNeg a106) (fun σ108 => bd (f_X12_number N Q σ108 178 (0 : Int32) (60 : Int32)) (fun a110 σ110 => ck (7 : Int32) 417 (sq (up σ110 (Q 178 11) (7 : Int32).toNatClampNeg a110) (fun σ112 => some ((), σ112)))))))) (fun _ σ => f_X12_line_237 N Q σ 178)))) else (bd (bd (f_X12_number N Q σ3 178 (1 : Int32) (240 : Int32)) (fun a114 σ114 => ck (5 : Int32) 417 (sq (up σ114 (Q 178 11) (5 : Int32).toNatClampNeg a114) (fun σ116 => some ((), σ116))))) (fun _ σ => f_X12_line_237 N Q σ 178)))) else (bd (f_X12_dayLine N Q σ1 178) (fun _ σ117 => f_X12_line_237 N Q σ117 178))) := by
  have ckb : ∀ {α β : Type} (x : Int32) (len : Nat) (y : Option (α × SI)) (f : α → SI → Option β), bd (ck x len y) f = ck x len (bd y f) := fun x len y f => by
    unfold ck
    split <;> rfl
  have bb : ∀ {α β γ : Type} (x : Option (α × SI)) (f : α → SI → Option (β × SI)) (g : β → SI → Option γ), bd (bd x f) g = bd x (fun a σ => bd (f a σ) g) := fun x f g => by
    cases x <;> rfl
  unfold f_X12_line
  simp only [bb, ckb, sq_eq, bd_some]
  rfl
theorem sw_F (hN : 2000 ≤ N) (h : TS B n k false σc σm) (q : Nat) (r : Int32) : f_X12_startsWith N Q σm 178 q r = some (0, σm) := by
  unfold f_X12_startsWith f_X12_takesWord
  rw [h.failed.2, bd_some, Bool.not_false, bI_t, if_neg (by decide), m_tw0 hN, bd_some, if_pos rfl]
theorem mlB_F (hN : 2000 ≤ N) (h : TS B n k false σc σm) : mlB N Q σm = f_X12_line_237 N Q σm 178 := by
  have e : mlE N Q 0 σm = f_X12_line_237 N Q σm 178 := by
    unfold mlE
    rw [if_pos rfl, h.failed.2, bd_some, Bool.not_false, bI_t, if_neg (show ¬ (1 : Int32) = 0 by decide)]
  unfold mlB f_X12_blasts
  rw [show ck (2 : Int32) 417 = ck (nI 2) 417 from rfl, ck_nI (by omega) (by decide), bd_some, sw_F hN h, sw_F hN h, bd_some, e]
  split <;> rfl
theorem mlR_F (hN : 2000 ≤ N) (h : TS B n k false σc σm) : mlR N Q σm = f_X12_line_237 N Q σm 178 := by
  unfold mlR
  rw [show ck (1 : Int32) 417 = ck (nI 1) 417 from rfl, ck_nI (by omega) (by decide), sw_F hN h, sw_F hN h, bd_some]
  unfold mlF
  rw [if_pos rfl, mlB_F hN h]
  split <;> rfl
theorem mlG_F (hN : 2000 ≤ N) (h : TS B n k false σc σm) : mlG N Q 0 σm = f_X12_line_237 N Q σm 178 := by
  unfold mlG
  rw [if_pos rfl, mlR_F hN h]
theorem mlF_F (hN : 2000 ≤ N) (h : TS B n k false σc σm) : mlF N Q 0 σm = f_X12_line_237 N Q σm 178 := by
  unfold mlF
  rw [if_pos rfl, mlB_F hN h]
theorem mlE_F (hN : 2000 ≤ N) (h : TS B n k false σc σm) : mlE N Q 0 σm = f_X12_line_237 N Q σm 178 := by
  unfold mlE
  rw [if_pos rfl, h.failed.2, bd_some, Bool.not_false, bI_t, if_neg (show ¬ (1 : Int32) = 0 by decide)]
theorem C_no (hN : 2000 ≤ N) (hR : RO R s) (h : TS B n k true σc σm) (hp : σc 3 2 = nI p0) (hs : sk B n p0 = p0 ∧ p0 ≤ 800) {q : Nat} (hq : q < 10) (hw : wm B n q p0 = false) : f_X10_tookWord N R σc 3 q = some (0, σc) := by
  obtain ⟨p, q', h1, h2, h3, h4⟩ := id h
  obtain rfl : p = p0 := (nI_eq (by have := h1.1; have := h1.2.1; omega) (by omega)).mp (h1.2.2.2.1.symm.trans hp)
  obtain ⟨σ1, e1, f1, g1⟩ := c_word hN hR (q := q) (by omega) h1
  have ew : wE B n q p = p := by
    unfold wE
    rw [hs.1, hw, if_neg (by decide)]
  have : σ1 = σc := by
    funext o j
    by_cases c : o = 3 ∧ j = 2
    · rw [c.1, c.2, f1.2.2.2.1, ew, hp]
    · exact g1 o j (by omega)
  rw [e1, this, hs.1, hw]
  rfl
theorem M_no (hN : 2000 ≤ N) (hQ : RO Q s2) (h : TS B n k true σc σm) (hp : σc 3 2 = nI p0) (h5 : σm 178 5 = nI p0) (hs : sk B n p0 = p0 ∧ p0 ≤ 800) {q : Nat} (hq : q < 10) (hw : wm B n q p0 = false) (r : Int32) : f_X12_startsWith N Q σm 178 q r = some (0, σm) := by
  obtain ⟨p, q', h1, h2, h3, h4⟩ := id h
  obtain rfl : p = p0 := (nI_eq (by have := h1.1; have := h1.2.1; omega) (by omega)).mp (h1.2.2.2.1.symm.trans hp)
  obtain ⟨rfl, -, -, -, m7, -⟩ := h3 rfl
  obtain ⟨σ1, e1, f1, b5, g1⟩ := m_word hN hQ (q := q) (by omega) h2 h1.2.1 m7
  have ew : wE B n q q' = q' := by
    unfold wE
    rw [hs.1, hw, if_neg (by decide)]
  have : σ1 = σm := by
    funext o j
    by_cases c : o = 178 ∧ j = 4
    · rw [c.1, c.2, f1.2.2.2.1, ew, h2.2.2.2.1]
    · by_cases c2 : o = 178 ∧ j = 5
      · rw [c2.1, c2.2, b5, hs.1, h5]
      · exact g1 o j (by omega)
  unfold f_X12_startsWith
  rw [e1, this, hs.1, hw, bd_some, bI_f, if_pos rfl]
theorem T_yes (hN : 2000 ≤ N) (hR : RO R s) (hQ : RO Q s2) (h : TS B n k true σc σm) (hp : σc 3 2 = nI p0) (hs : sk B n p0 = p0 ∧ p0 ≤ 800) {q : Nat} (hq : q < 10) (hw : wm B n q p0 = true) : ∃ σ1 μ1 : SI, f_X10_tookWord N R σc 3 q = some (1, σ1) ∧ f_X12_startsWith N Q σm 178 q 1 = some (1, μ1) ∧ f_X12_startsWith N Q σm 178 q 0 = some (0, up (up μ1 178 7 (nI p0)) 178 8 (nI 4)) ∧ TS B n k true σ1 μ1 ∧ TS B n k false (up (up σ1 3 3 (nI p0)) 3 4 (nI 4)) (up (up μ1 178 7 (nI p0)) 178 8 (nI 4)) ∧ FC σc σ1 ∧ FM σm μ1 := by
  obtain ⟨c, σ1, μ1, p, e0, e1, g1, ec, e2, T1, b5, F1, G1⟩ := T_key hN hR hQ h (q := q) (by omega)
  obtain ⟨pp, q', h1, -⟩ := id h
  obtain rfl : p = p0 := by
    exact (nI_eq (by omega) (by omega)).mp (e0.1.symm.trans hp)
  rw [hs.1] at ec b5
  rw [hw] at ec
  subst ec
  have Tf := T1.fails (a := 0) (b := p) (kd := 4) ⟨hs.2, by omega, by omega⟩
  refine ⟨σ1, μ1, e1, ?_, ?_, T1, Tf, F1, G1⟩
  · unfold f_X12_startsWith
    rw [g1, bd_some, bI_t, if_neg (by decide), m_must1, bd_some, T1.failed.2, bd_some, Bool.not_true, bI_f, if_pos rfl]
  · unfold f_X12_startsWith
    have f2 := (Tf.failed (N := N) (R := Q)).2
    rw [g1, bd_some, bI_t, if_neg (by decide), m_must0 T1.m1, bd_some, b5, show f_X12_hasFailed N Q (up (up μ1 178 7 (nI p)) 178 8 4) 178 = _ from f2, bd_some, Bool.not_false, bI_t, if_neg (by decide)]
/-- the body of a line, up to its semicolon -/
theorem T_body (hN : 2000 ≤ N) (hR : RO R s) (hQ : RO Q s2) (hO : DO R D) (h : TS B n k true σc σm) (d : DT σc σm D) (hp : σc 3 2 = nI p0) (h5 : σm 178 5 = nI p0) (hs : sk B n p0 = p0 ∧ p0 ≤ 800) : ∃ (ok' : Bool) (σc' σm' : SI), f_X5_parseLine N R σc 2 D = some ((), σc') ∧ f_X12_line N Q σm 178 = f_X12_line_237 N Q σm' 178 ∧ TS B n k ok' σc' σm' ∧ LC D σc σc' ∧ LM σm σm' ∧ (ok' = true → DT σc' σm' D) := by
  have hD := hO.1
  have no : ∀ q, q < 10 → ∀ q1, q1 < 10 → wm B n q1 p0 = true → q ≠ q1 → wm B n q p0 = false := fun q hq q1 hq1 a ne => Bool.eq_false_iff.mpr (fun b => ne (wm_x hq hq1 b a))
  have cn : ∀ q, q < 10 → wm B n q p0 = false → f_X10_tookWord N R σc 3 q = some (0, σc) := fun q hq hw => C_no hN hR h hp hs hq hw
  have mn : ∀ q, q < 10 → wm B n q p0 = false → ∀ r, f_X12_startsWith N Q σm 178 q r = some (0, σm) := fun q hq hw r => M_no hN hQ h hp h5 hs hq hw r
  -- the model's way past the settings
  have past : wm B n 5 p0 = false → wm B n 6 p0 = false → wm B n 7 p0 = false → wm B n 8 p0 = false → wm B n 9 p0 = false → f_X12_line N Q σm 178 = mlN N Q σm := fun a5 a6 a7 a8 a9 => by
    rw [ml_eq, mn 5 (by omega) a5, bd_some, if_pos rfl, mn 6 (by omega) a6, bd_some, if_pos rfl, mn 7 (by omega) a7, bd_some, if_pos rfl, mn 8 (by omega) a8, bd_some, if_pos rfl, mn 9 (by omega) a9, bd_some, if_pos rfl]
  have pastN : wm B n 0 p0 = false → mlN N Q σm = mlR N Q σm := fun a0 => by
    unfold mlN
    rw [show ck (0 : Int32) 417 = ck (nI 0) 417 from rfl, ck_nI (by omega) (by decide), mn 0 (by omega) a0, mn 0 (by omega) a0, bd_some]
    unfold mlG
    rw [if_pos rfl]
    split <;> rfl
  have pastR : wm B n 2 p0 = false → mlR N Q σm = mlB N Q σm := fun a0 => by
    unfold mlR
    rw [show ck (1 : Int32) 417 = ck (nI 1) 417 from rfl, ck_nI (by omega) (by decide), mn 2 (by omega) a0, mn 2 (by omega) a0, bd_some]
    unfold mlF
    rw [if_pos rfl]
    split <;> rfl
  have pastB : wm B n 3 p0 = false → mlB N Q σm = mlE N Q 0 σm := fun a0 => by
    unfold mlB f_X12_blasts
    rw [show ck (2 : Int32) 417 = ck (nI 2) 417 from rfl, ck_nI (by omega) (by decide), bd_some, mn 3 (by omega) a0, mn 3 (by omega) a0, bd_some]
    split <;> rfl
  by_cases w0 : wm B n 0 p0 = true
  · obtain ⟨σ1, μ1, e1, g1, g0, T1, Tf, F1, G1⟩ := T_yes hN hR hQ h hp hs (q := 0) (by omega) w0
    have d1 := d.fr (by omega) F1 G1
    obtain ⟨m, m1, m2, m3, -⟩ := d.2.2.1
    have n2 : μ1 181 0 = nI m := (G1 _ _ (by omega)).trans m2
    have n3 : σ1 D 9 = nI m := (F1 _ _ (by omega)).trans m3
    rw [past (no 5 (by omega) 0 (by omega) w0 (by omega)) (no 6 (by omega) 0 (by omega) w0 (by omega)) (no 7 (by omega) 0 (by omega) w0 (by omega)) (no 8 (by omega) 0 (by omega) w0 (by omega)) (no 9 (by omega) 0 (by omega) w0 (by omega))]
    unfold mlN f_X5_parseLine
    rw [hR.r2_0, e1, bd_some, if_neg (show ¬ (1 : Int32) = 0 by decide), hp, show ck (0 : Int32) 417 = ck (nI 0) 417 from rfl, ck_nI (by omega) (by decide), hQ.m11, show (0 : Int32).toNatClampNeg = 0 from rfl, m2, g1, g0, bd_some, bd_some]
    by_cases c : m < 8
    · obtain ⟨ok', σ2, μ2, e2, g2, T2, F2, G2, v2⟩ := T_near hN hR hQ hO T1 d1 c n2 (nI p0)
      rw [if_neg (show ¬ (8 : Int32) ≤ nI m by rw [show (8 : Int32) = nI 8 from rfl, nI_leI (by omega) (by omega)]; omega), e2, bd_some]
      unfold mlG
      rw [if_neg (show ¬ (1 : Int32) = 0 by decide), g2, bd_some]
      exact ⟨ok', σ2, μ2, rfl, rfl, T2, (LC.of F1).tr F2, (LM.of G1).tr G2, v2⟩
    · have e4 : f_X5_parseNeighbour N R σ1 2 D (nI p0) = some ((), up (up σ1 3 3 (nI p0)) 3 4 (nI 4)) := by
        unfold f_X5_parseNeighbour
        rw [n3, if_neg (show ¬ nI m < (8 : Int32) by rw [show (8 : Int32) = nI 8 from rfl, nI_ltI (by omega) (by omega)]; exact c), hR.r2_0, c_fail T1.c1, bd_some]
        rfl
      rw [if_pos (show (8 : Int32) ≤ nI m by rw [show (8 : Int32) = nI 8 from rfl, nI_leI (by omega) (by omega)]; omega), e4, bd_some, mlG_F hN Tf]
      exact ⟨false, _, _, rfl, rfl, Tf, fun o j q r => (if_neg (by omega)).trans ((if_neg (by omega)).trans (F1 o j q)), fun o j q r r' => (if_neg (by omega)).trans ((if_neg (by omega)).trans (G1 o j q)), fun z => by cases z⟩
  · have w0 : wm B n 0 p0 = false := Bool.eq_false_iff.mpr w0
    have cl0 : f_X5_parseLine N R σc 2 D = bd (f_X10_tookWord N R σc 3 2) (fun a6 σ6 => if a6 = 0 then (bd (f_X10_tookWord N R σ6 3 3) (fun a9 σ9 => if a9 = 0 then (bd (f_X5_parseSetting N R σ9 2 D) (fun _ σ11 => some ((), σ11))) else (bd (f_X5_parseBlast N R σ9 2 D (nI p0)) (fun _ σ12 => some ((), σ12))))) else (bd (f_X5_parseRoad N R σ6 2 D (nI p0)) (fun _ σ13 => some ((), σ13)))) := by
      unfold f_X5_parseLine
      rw [hR.r2_0, cn 0 (by omega) w0, bd_some, if_pos rfl, hp]
    rw [cl0]
    by_cases w2 : wm B n 2 p0 = true
    · obtain ⟨σ1, μ1, e1, g1, g0, T1, Tf, F1, G1⟩ := T_yes hN hR hQ h hp hs (q := 2) (by omega) w2
      have d1 := d.fr (by omega) F1 G1
      obtain ⟨m, m1, m2, m3, -⟩ := d.2.2.2.1
      have n2 : μ1 181 1 = nI m := (G1 _ _ (by omega)).trans m2
      have n3 : σ1 D 10 = nI m := (F1 _ _ (by omega)).trans m3
      rw [past (no 5 (by omega) 2 (by omega) w2 (by omega)) (no 6 (by omega) 2 (by omega) w2 (by omega)) (no 7 (by omega) 2 (by omega) w2 (by omega)) (no 8 (by omega) 2 (by omega) w2 (by omega)) (no 9 (by omega) 2 (by omega) w2 (by omega)), pastN w0]
      unfold mlR
      rw [e1, bd_some, if_neg (show ¬ (1 : Int32) = 0 by decide), show ck (1 : Int32) 417 = ck (nI 1) 417 from rfl, ck_nI (by omega) (by decide), hQ.m11, show (1 : Int32).toNatClampNeg = 1 from rfl, m2, g1, g0, bd_some, bd_some]
      by_cases c : m < 6
      · obtain ⟨ok', σ2, μ2, e2, g2, T2, F2, G2, v2⟩ := T_road hN hR hQ hO T1 d1 c n2 (nI p0)
        rw [if_neg (show ¬ (6 : Int32) ≤ nI m by rw [show (6 : Int32) = nI 6 from rfl, nI_leI (by omega) (by omega)]; omega), e2, bd_some]
        unfold mlF
        rw [if_neg (show ¬ (1 : Int32) = 0 by decide), g2, bd_some]
        exact ⟨ok', σ2, μ2, rfl, rfl, T2, (LC.of F1).tr F2, (LM.of G1).tr G2, v2⟩
      · have e4 : f_X5_parseRoad N R σ1 2 D (nI p0) = some ((), up (up σ1 3 3 (nI p0)) 3 4 (nI 4)) := by
          unfold f_X5_parseRoad
          rw [n3, if_neg (show ¬ nI m < (6 : Int32) by rw [show (6 : Int32) = nI 6 from rfl, nI_ltI (by omega) (by omega)]; exact c), hR.r2_0, c_fail T1.c1, bd_some]
          rfl
        rw [if_pos (show (6 : Int32) ≤ nI m by rw [show (6 : Int32) = nI 6 from rfl, nI_leI (by omega) (by omega)]; omega), e4, bd_some, mlF_F hN Tf]
        exact ⟨false, _, _, rfl, rfl, Tf, fun o j q r => (if_neg (by omega)).trans ((if_neg (by omega)).trans (F1 o j q)), fun o j q r r' => (if_neg (by omega)).trans ((if_neg (by omega)).trans (G1 o j q)), fun z => by cases z⟩
    · have w2 : wm B n 2 p0 = false := Bool.eq_false_iff.mpr w2
      rw [cn 2 (by omega) w2, bd_some, if_pos rfl]
      by_cases w3 : wm B n 3 p0 = true
      · obtain ⟨σ1, μ1, e1, g1, g0, T1, Tf, F1, G1⟩ := T_yes hN hR hQ h hp hs (q := 3) (by omega) w3
        have d1 := d.fr (by omega) F1 G1
        obtain ⟨m, m1, m2, m3, -⟩ := d.2.2.2.2
        have n2 : μ1 181 2 = nI m := (G1 _ _ (by omega)).trans m2
        have n3 : σ1 D 11 = nI m := (F1 _ _ (by omega)).trans m3
        rw [past (no 5 (by omega) 3 (by omega) w3 (by omega)) (no 6 (by omega) 3 (by omega) w3 (by omega)) (no 7 (by omega) 3 (by omega) w3 (by omega)) (no 8 (by omega) 3 (by omega) w3 (by omega)) (no 9 (by omega) 3 (by omega) w3 (by omega)), pastN w0, pastR w2]
        unfold mlB f_X12_blasts
        rw [e1, bd_some, if_neg (show ¬ (1 : Int32) = 0 by decide), show ck (2 : Int32) 417 = ck (nI 2) 417 from rfl, ck_nI (by omega) (by decide), bd_some, hQ.m11, show (2 : Int32).toNatClampNeg = 2 from rfl, m2, g1, g0, bd_some, bd_some]
        by_cases c : m < 6
        · obtain ⟨ok', σ2, μ2, e2, g2, T2, F2, G2, v2⟩ := T_blast hN hR hQ hO T1 d1 c n2 (nI p0)
          rw [if_neg (show ¬ (6 : Int32) ≤ nI m by rw [show (6 : Int32) = nI 6 from rfl, nI_leI (by omega) (by omega)]; omega), e2, bd_some]
          unfold mlE
          rw [if_neg (show ¬ (1 : Int32) = 0 by decide), g2, bd_some]
          exact ⟨ok', σ2, μ2, rfl, rfl, T2, (LC.of F1).tr F2, (LM.of G1).tr G2, v2⟩
        · have e4 : f_X5_parseBlast N R σ1 2 D (nI p0) = some ((), up (up σ1 3 3 (nI p0)) 3 4 (nI 4)) := by
            unfold f_X5_parseBlast
            rw [n3, if_neg (show ¬ nI m < (6 : Int32) by rw [show (6 : Int32) = nI 6 from rfl, nI_ltI (by omega) (by omega)]; exact c), hR.r2_0, c_fail T1.c1, bd_some]
            rfl
          rw [if_pos (show (6 : Int32) ≤ nI m by rw [show (6 : Int32) = nI 6 from rfl, nI_leI (by omega) (by omega)]; omega), e4, bd_some, mlE_F hN Tf]
          exact ⟨false, _, _, rfl, rfl, Tf, fun o j q r => (if_neg (by omega)).trans ((if_neg (by omega)).trans (F1 o j q)), fun o j q r r' => (if_neg (by omega)).trans ((if_neg (by omega)).trans (G1 o j q)), fun z => by cases z⟩
      · have w3 : wm B n 3 p0 = false := Bool.eq_false_iff.mpr w3
        rw [cn 3 (by omega) w3, bd_some, if_pos rfl, ml_eq]
        unfold f_X5_parseSetting
        rw [hR.r2_0]
        by_cases w5 : wm B n 5 p0 = true
        · obtain ⟨σ1, μ1, e1, g1, g0, T1, Tf, F1, G1⟩ := T_yes hN hR hQ h hp hs (q := 5) (by omega) w5
          obtain ⟨ok', σ2, μ2, e2, g2, T2, F2, G2, v2⟩ := T_day hN hR hQ hD T1 (d.fr (by omega) F1 G1)
          rw [e1, bd_some, if_neg (show ¬ (1 : Int32) = 0 by decide), e2, bd_some, g1, bd_some, if_neg (show ¬ (1 : Int32) = 0 by decide), g2, bd_some]
          exact ⟨ok', σ2, μ2, rfl, rfl, T2, (LC.of F1).tr F2, (LM.of G1).tr G2, v2⟩
        · have w5 : wm B n 5 p0 = false := Bool.eq_false_iff.mpr w5
          rw [cn 5 (by omega) w5, bd_some, if_pos rfl, mn 5 (by omega) w5, bd_some, if_pos rfl]
          by_cases w6 : wm B n 6 p0 = true
          · obtain ⟨σ1, μ1, e1, g1, g0, T1, Tf, F1, G1⟩ := T_yes hN hR hQ h hp hs (q := 6) (by omega) w6
            obtain ⟨ok', σ2, μ2, e2, g2, T2, F2, G2, v2⟩ := T_step hN hR hQ hD T1 (d.fr (by omega) F1 G1)
            rw [e1, bd_some, if_neg (show ¬ (1 : Int32) = 0 by decide), e2, bd_some, g1, bd_some, if_neg (show ¬ (1 : Int32) = 0 by decide), g2, bd_some]
            exact ⟨ok', σ2, μ2, rfl, rfl, T2, (LC.of F1).tr F2, (LM.of G1).tr G2, v2⟩
          · have w6 : wm B n 6 p0 = false := Bool.eq_false_iff.mpr w6
            rw [cn 6 (by omega) w6, bd_some, if_pos rfl, mn 6 (by omega) w6, bd_some, if_pos rfl]
            by_cases w7 : wm B n 7 p0 = true
            · obtain ⟨σ1, μ1, e1, g1, g0, T1, Tf, F1, G1⟩ := T_yes hN hR hQ h hp hs (q := 7) (by omega) w7
              obtain ⟨ok', σ2, μ2, e2, g2, T2, F2, G2, v2⟩ := T_close hN hR hQ hD T1 (d.fr (by omega) F1 G1)
              rw [e1, bd_some, if_neg (show ¬ (1 : Int32) = 0 by decide), e2, bd_some, g1, bd_some, if_neg (show ¬ (1 : Int32) = 0 by decide), g2, bd_some]
              exact ⟨ok', σ2, μ2, rfl, rfl, T2, (LC.of F1).tr F2, (LM.of G1).tr G2, v2⟩
            · have w7 : wm B n 7 p0 = false := Bool.eq_false_iff.mpr w7
              rw [cn 7 (by omega) w7, bd_some, if_pos rfl, mn 7 (by omega) w7, bd_some, if_pos rfl]
              by_cases w8 : wm B n 8 p0 = true
              · obtain ⟨σ1, μ1, e1, g1, g0, T1, Tf, F1, G1⟩ := T_yes hN hR hQ h hp hs (q := 8) (by omega) w8
                obtain ⟨ok', σ2, μ2, e2, g2, T2, F2, G2, v2⟩ := T_space hN hR hQ hD T1 (d.fr (by omega) F1 G1)
                rw [e1, bd_some, if_neg (show ¬ (1 : Int32) = 0 by decide), e2, bd_some, g1, bd_some, if_neg (show ¬ (1 : Int32) = 0 by decide), g2, bd_some]
                exact ⟨ok', σ2, μ2, rfl, rfl, T2, (LC.of F1).tr F2, (LM.of G1).tr G2, v2⟩
              · have w8 : wm B n 8 p0 = false := Bool.eq_false_iff.mpr w8
                rw [cn 8 (by omega) w8, bd_some, if_pos rfl, mn 8 (by omega) w8, bd_some, if_pos rfl]
                by_cases w9 : wm B n 9 p0 = true
                · obtain ⟨σ1, μ1, e1, g1, g0, T1, Tf, F1, G1⟩ := T_yes hN hR hQ h hp hs (q := 9) (by omega) w9
                  obtain ⟨ok', σ2, μ2, e2, g2, T2, F2, G2, v2⟩ := T_wind hN hR hQ hD (hO.2.1 7 (by omega)) (hO.2.1 8 (by omega)) T1 (d.fr (by omega) F1 G1)
                  rw [e1, bd_some, if_neg (show ¬ (1 : Int32) = 0 by decide), e2, bd_some, bd_some, g1, bd_some, if_neg (show ¬ (1 : Int32) = 0 by decide), g2, bd_some]
                  exact ⟨ok', σ2, μ2, rfl, rfl, T2, (LC.of F1).tr F2, (LM.of G1).tr G2, v2⟩
                · have w9 : wm B n 9 p0 = false := Bool.eq_false_iff.mpr w9
                  have F := T_fail1 (N := N) (R := R) (Q := Q) h 0 hp h5
                  have Tf := h.fails (a := 0) (b := p0) (kd := 1) ⟨hs.2, by omega, by omega⟩
                  rw [cn 9 (by omega) w9, bd_some, if_pos rfl, mn 9 (by omega) w9, bd_some, if_pos rfl, F.1, bd_some, bd_some, pastN w0, pastR w2, pastB w3]
                  unfold mlE
                  rw [if_pos rfl, h.failed.2, bd_some, Bool.not_true, bI_f, if_pos rfl, F.2, bd_some]
                  exact ⟨false, _, _, rfl, rfl, Tf, fun o j q r => (if_neg (by omega)).trans (if_neg (by omega)), fun o j q r r' => (if_neg (by omega)).trans (if_neg (by omega)), fun z => by cases z⟩
end LINE
