/-! ===== the law's own formulas ===== -/
/-- the quarry's references alone (they stay when the planner's two sites change places) -/
def RDq (R : Nat → Nat → Nat) : Prop := (∀ j, j < 15 → R 178 (9 + j) = 179 + j) ∧ R 178 24 = 194 ∧ R 178 25 = 198 ∧ (∀ j, j < 3 → R 194 j = 195 + j) ∧ (∀ j, j < 3 → R 198 j = 199 + j) ∧ True
theorem RDr.q {R : Nat → Nat → Nat} (h : RDr R) : RDq (swR R 1) := by
  have e : ∀ o k, o ≠ 1 → swR R 1 o k = R o k := fun o k ho => by
    unfold swR
    rw [if_neg (by omega), if_neg (by omega)]
  obtain ⟨h1, h2, h3, h4, h5, -⟩ := h
  exact ⟨fun j hj => (e _ _ (by decide)).trans (h1 j hj), (e _ _ (by decide)).trans h2, (e _ _ (by decide)).trans h3, fun j hj => (e _ _ (by decide)).trans (h4 j hj), fun j hj => (e _ _ (by decide)).trans (h5 j hj), trivial⟩
/-- the planner's references, once the quarry is drawn -/
theorem RDr.ro {R : Nat → Nat → Nat} (h : RDr R) : RO R 38 := by
  have e : ∀ o k, o ≠ 178 → R o k = zF.2.1 o k := fun o k ho => h.2.2.2.2.2 o k (Or.inl ho)
  exact ⟨Or.inl rfl, (e 1 8 (by decide)).trans (by decide +kernel), (e 1 9 (by decide)).trans (by decide +kernel), fun o k _ h7 => e o k (by omega)⟩
/-- the quarry's cells, as the drawn rows say -/
def Qc (σ : SI) (sd : SDt) (ws : List WDt) (ns : List NDt) (rs : List RDt) (bs : List BDt) : Prop :=
  (σ 178 0 = nI ns.length ∧ σ 178 1 = nI rs.length ∧ σ 178 2 = nI bs.length ∧ σ 178 3 = nI sd.1 ∧ σ 178 4 = nI sd.2.1 ∧ σ 178 5 = nI sd.2.2.1) ∧
  (∀ h, h < 24 → σ 192 h = en1 (wl ws none h) ∧ σ 193 h = en2 (wl ws none h)) ∧ (∀ j, j < ns.length → DN σ j (ns.getD j (0, 0, 0, none))) ∧ (∀ j, j < rs.length → DR σ j (rs.getD j (0, 0, 0, 0))) ∧ ∀ j, j < bs.length → DB σ j (bs.getD j (0, 0, 0, []))
section VLW
variable {N : Nat} {R : Nat → Nat → Nat} {σ : SI} {sd : SDt} {ws : List WDt} {ns : List NDt} {rs : List RDt} {bs : List BDt}
theorem Qc.of {t : List Nat} (h : Quarry σ t sd ws ns rs bs) : Qc σ sd ws ns rs bs :=
  ⟨⟨h.2.2.1.1, h.2.2.1.2.1, h.2.2.1.2.2.1, h.2.2.1.2.2.2.1, h.2.2.1.2.2.2.2.1, h.2.2.1.2.2.2.2.2.1⟩, fun q hq => ⟨(h.2.2.2.1 q hq).1.trans (wF_wl ws none q), (h.2.2.2.1 q hq).2.trans (sF_wl ws none q)⟩, h.2.2.2.2.1, h.2.2.2.2.2.1, h.2.2.2.2.2.2⟩
theorem Quarry.ok {t : List Nat} (h : Quarry σ t sd ws ns rs bs) : QOk sd ws ns rs bs := h.1
theorem Qc.keep {σ' : SI} (h : Qc σ sd ws ns rs bs) (hq : QOk sd ws ns rs bs) (f : ∀ o j, o ≠ 202 → σ' o j = σ o j) : Qc σ' sd ws ns rs bs := by
  obtain ⟨⟨c1, c2, c3, c4, c5, c6⟩, hw, hn, hr, hb⟩ := h
  have hb3 := hq.2.2.2.2.1.2
  refine ⟨⟨(f _ _ (by decide)).trans c1, (f _ _ (by decide)).trans c2, (f _ _ (by decide)).trans c3, (f _ _ (by decide)).trans c4, (f _ _ (by decide)).trans c5, (f _ _ (by decide)).trans c6⟩, fun q hq => ⟨(f _ _ (by decide)).trans (hw q hq).1, (f _ _ (by decide)).trans (hw q hq).2⟩, fun j hj => ?_, fun j hj => ?_, fun j hj => ?_⟩
  · obtain ⟨g1, g2, g3, g4, g5⟩ := hn j hj
    exact ⟨(f _ _ (by decide)).trans g1, (f _ _ (by decide)).trans g2, (f _ _ (by decide)).trans g3, (f _ _ (by decide)).trans g4, (f _ _ (by decide)).trans g5⟩
  · obtain ⟨g1, g2, g3, g4⟩ := hr j hj
    exact ⟨(f _ _ (by decide)).trans g1, (f _ _ (by decide)).trans g2, (f _ _ (by decide)).trans g3, (f _ _ (by decide)).trans g4⟩
  · obtain ⟨g1, g2, g3, g4, g5⟩ := hb j hj
    exact ⟨(f _ _ (by decide)).trans g1, (f _ _ (by decide)).trans g2, (f _ _ (by decide)).trans g3, (f _ _ (by decide)).trans g4, fun c hc => ⟨(f _ _ (by omega)).trans (g5 c hc).1, (f _ _ (by omega)).trans (g5 c hc).2⟩⟩
/-- sizes of the charges from a delay on, less than eight later -/
def sumW (from_ : Nat) : List (Nat × Nat) → Nat
  | [] => 0
  | c :: cs => (if from_ ≤ c.2 ∧ c.2 < from_ + 8 then c.1 else 0) + sumW from_ cs
theorem sumW_le (d : Nat) : ∀ (cs : List (Nat × Nat)), (∀ c ∈ cs, ChOk c) → sumW d cs ≤ 200 * cs.length
  | [], _ => Nat.le_refl 0
  | c :: cs, h => by
    have ih := sumW_le d cs (fun x hx => h x (List.mem_cons_of_mem _ hx))
    obtain ⟨h1, h2, h3⟩ := h c List.mem_cons_self
    show (if d ≤ c.2 ∧ c.2 < d + 8 then c.1 else 0) + sumW d cs ≤ 200 * (cs.length + 1)
    split <;> omega
theorem rd_21 (hRD : RDq R) (j : Nat) (hj : j < 15) : R 178 (9 + j) = 179 + j := hRD.1 j hj
theorem drop_getD {cs : List (Nat × Nat)} {k : Nat} (h : k < cs.length) : cs.drop k = cs.getD k (0, 0) :: cs.drop (k + 1) := by
  rw [List.drop_eq_getElem_cons h, List.getD_eq_getElem?_getD, List.getElem?_eq_getElem h]
  rfl
set_option maxHeartbeats 4000000 in
theorem w_windowL (hRD : RDq R) (hQ : Qc σ sd ws ns rs bs) (hok : QOk sd ws ns rs bs) {b d : Nat} (hb : b < bs.length) (hd : d < 100) : ∀ (m k n acc : Nat), k + m = (bs.getD b (0, 0, 0, [])).2.2.2.length → m < n → acc + 200 * m ≤ 10000 → f_X12_window_5 N R n σ 178 (nI b) (nI d) (nI acc) (nI k) = some (nI (acc + sumW d ((bs.getD b (0, 0, 0, [])).2.2.2.drop k)), σ) := by
  obtain ⟨g1, g2, g3, g4, g5⟩ := hQ.2.2.2.2 b hb
  obtain ⟨q1, q2, q3, q4, q5, q6, q7⟩ := hok.2.2.2.2.2 _ (getD_mem (x := (0, 0, 0, [])) hb)
  have hb3 := hok.2.2.2.2.1.2
  have r21 : R 178 21 = 191 := rd_21 hRD 12 (by decide)
  have r24 : R 178 24 = 194 := hRD.2.1
  have r25 : R 178 25 = 198 := hRD.2.2.1
  have r4 : R 194 b = 195 + b := hRD.2.2.2.1 b (by omega)
  have r8 : R 198 b = 199 + b := hRD.2.2.2.2.1 b (by omega)
  generalize (bs.getD b (0, 0, 0, [])).2.2.2 = cs at g4 g5 q5 q6 q7 ⊢
  intro m
  induction m with
  | zero =>
    intro k n acc hk hn ha
    obtain ⟨n, rfl⟩ : ∃ q, n = q + 1 := ⟨n - 1, by omega⟩
    rw [f_X12_window_5, ck_nI (by omega) (by decide), r21, nI_clamp (by omega), g4, if_pos (nI_le (by omega) (by omega)), List.drop_eq_nil_of_le (by omega)]
    rfl
  | succ m ih =>
    intro k n acc hk hn ha
    obtain ⟨n, rfl⟩ : ∃ q, n = q + 1 := ⟨n - 1, by omega⟩
    have hkl : k < cs.length := by omega
    obtain ⟨v1, v2⟩ := g5 k hkl
    obtain ⟨y1, y2, y3⟩ := q7 _ (getD_mem (x := (0, 0)) hkl)
    rw [drop_getD hkl]
    show _ = some (nI (acc + ((if d ≤ (cs.getD k (0, 0)).2 ∧ (cs.getD k (0, 0)).2 < d + 8 then (cs.getD k (0, 0)).1 else 0) + sumW d (cs.drop (k + 1)))), σ)
    rw [f_X12_window_5, ck_nI (by omega) (by decide), r21, nI_clamp (by omega), g4, if_neg (nI_ge hkl (by omega)), ck_nI (by omega) (by decide), ck_nI (by omega) (by decide), r25, nI_clamp (by omega), r8, v2]
    generalize (cs.getD k (0, 0)).2 = x2 at v1 v2 y1 y2 y3 ⊢
    generalize (cs.getD k (0, 0)).1 = x1 at v1 v2 y1 y2 y3 ⊢
    unfold f_X12_window_57
    by_cases c1 : x2 < d
    · rw [if_pos (nI_lt c1 (by omega)), nI_1, if_neg (show ¬ (d ≤ x2 ∧ x2 < d + 8) by omega), Nat.zero_add]
      exact ih (k + 1) n acc (by omega) (by omega) (by omega)
    · rw [if_neg (nI_nlt (by omega) (by omega)), ck_nI (by omega) (by decide), ck_nI (by omega) (by decide), show (8 : Int32) = nI 8 from rfl, nI_add]
      by_cases c2 : d + 8 ≤ x2
      · rw [if_pos (nI_le c2 (by omega)), nI_1, if_neg (show ¬ (d ≤ x2 ∧ x2 < d + 8) by omega), Nat.zero_add]
        exact ih (k + 1) n acc (by omega) (by omega) (by omega)
      · rw [if_neg (nI_ge (by omega) (by omega)), ck_nI (by omega) (by decide), ck_nI (by omega) (by decide), r24, r4, v1, nI_add, nI_1, if_pos (show d ≤ x2 ∧ x2 < d + 8 by omega), ← Nat.add_assoc]
        exact ih (k + 1) n (acc + x1) (by omega) (by omega) (by omega)
/-- window -/
theorem w_window (hN : 2000 ≤ N) (hRD : RDq R) (hQ : Qc σ sd ws ns rs bs) (hok : QOk sd ws ns rs bs) {b d : Nat} (hb : b < bs.length) (hd : d < 100) : f_X12_window N R σ 178 (nI b) (nI d) = some (nI (sumW d (bs.getD b (0, 0, 0, [])).2.2.2), σ) := by
  obtain ⟨q1, q2, q3, q4, q5, q6, q7⟩ := hok.2.2.2.2.2 _ (getD_mem (x := (0, 0, 0, [])) hb)
  have h := w_windowL (N := N) hRD hQ hok hb hd (bs.getD b (0, 0, 0, [])).2.2.2.length 0 N 0 (by omega) (by omega) (by omega)
  rw [Nat.zero_add, List.drop_zero] at h
  exact h
/-- the tables' places -/
theorem T_n (hok : QOk sd ws ns rs bs) {n : Nat} (hn : n < ns.length) : tQ sd ws ns rs bs (81 + 18 * n + 6) = ((ns.getD n (0, 0, 0, none)).1 : Int) ∧ tQ sd ws ns rs bs (81 + 18 * n + 7) = ((ns.getD n (0, 0, 0, none)).2.1 : Int) ∧ tQ sd ws ns rs bs (81 + 18 * n + 8) = ((ns.getD n (0, 0, 0, none)).2.2.1 : Int) := by
  have := hok.2.2.1.1
  exact ⟨tQ_n n 6 (by omega) (by decide), tQ_n n 7 (by omega) (by decide), tQ_n n 8 (by omega) (by decide)⟩
theorem T_b (hok : QOk sd ws ns rs bs) {b : Nat} (hb : b < bs.length) : tQ sd ws ns rs bs (285 + 22 * b + 6) = ((bs.getD b (0, 0, 0, [])).1 : Int) ∧ tQ sd ws ns rs bs (285 + 22 * b + 7) = ((bs.getD b (0, 0, 0, [])).2.1 : Int) ∧ tQ sd ws ns rs bs (285 + 22 * b + 8) = ((bs.getD b (0, 0, 0, [])).2.2.1 : Int) ∧ tQ sd ws ns rs bs (285 + 22 * b + 9) = ((bs.getD b (0, 0, 0, [])).2.2.2.length : Int) := by
  have := hok.2.2.2.2.1.2
  exact ⟨tQ_b b 6 (by omega) (by decide), tQ_b b 7 (by omega) (by decide), tQ_b b 8 (by omega) (by decide), tQ_b b 9 (by omega) (by decide)⟩
theorem sq_sw (a b : Int) : (a - b) * (a - b) = (b - a) * (b - a) := by
  rw [← Int.neg_mul_neg, Int.neg_sub]
/-- far -/
theorem w_far (hRD : RDq R) (hQ : Qc σ sd ws ns rs bs) (hok : QOk sd ws ns rs bs) {b n : Nat} (hb : b < bs.length) (hn : n < ns.length) : f_X12_far N R σ 178 (nI b) (nI n) = some (iI (dist (tQ sd ws ns rs bs) b n), σ) := by
  obtain ⟨g1, g2, g3, g4, g5⟩ := hQ.2.2.2.2 b hb
  obtain ⟨k1, k2, k3, k4, k5⟩ := hQ.2.2.1 n hn
  have hb3 := hok.2.2.2.2.1.2
  have hn2 := hok.2.2.1.1
  have r9 : R 178 9 = 179 := rd_21 hRD 0 (by decide)
  have r10 : R 178 10 = 180 := rd_21 hRD 1 (by decide)
  have r18 : R 178 18 = 188 := rd_21 hRD 9 (by decide)
  have r19 : R 178 19 = 189 := rd_21 hRD 10 (by decide)
  have t1 := T_n hok hn
  have t2 := T_b hok hb
  unfold f_X12_far
  rw [ck_nI (by omega) (by decide), ck_nI (by omega) (by decide), ck_nI (by omega) (by decide), ck_nI (by omega) (by decide), ck_nI (by omega) (by decide), ck_nI (by omega) (by decide), ck_nI (by omega) (by decide), ck_nI (by omega) (by decide), r9, r10, r18, r19, nI_clamp (by omega), nI_clamp (by omega), g1, g2, k1, k2]
  unfold dist
  rw [t1.1, t1.2.1, t2.1, t2.2.1, iI_nat, iI_nat, iI_nat, iI_nat, iI_sub, iI_sub, iI_mul, iI_mul, iI_add, sq_sw, sq_sw ((bs.getD b (0, 0, 0, [])).2.1 : Int)]
/-- isQuiet -/
theorem w_quiet (hRD : RDq R) (hQ : Qc σ sd ws ns rs bs) (hok : QOk sd ws ns rs bs) {n x : Nat} (hn : n < ns.length) (hx : x < 2000) : f_X12_isQuiet N R σ 178 (nI n) (nI x) = some (bI (still (tQ sd ws ns rs bs) n (x : Int)), σ) := by
  obtain ⟨k1, k2, k3, k4, k5⟩ := hQ.2.2.1 n hn
  have hn2 := hok.2.2.1.1
  obtain ⟨y1, y2, y3, y4⟩ := hok.2.2.1.2 _ (getD_mem (x := (0, 0, 0, none)) hn)
  have r12 : R 178 12 = 182 := rd_21 hRD 3 (by decide)
  have r13 : R 178 13 = 183 := rd_21 hRD 4 (by decide)
  have e9 := tQ_n (sd := sd) (ws := ws) (ns := ns) (rs := rs) (bs := bs) n 9 (by omega) (by decide)
  have e10 := tQ_n (sd := sd) (ws := ws) (ns := ns) (rs := rs) (bs := bs) n 10 (by omega) (by decide)
  have e11 := tQ_n (sd := sd) (ws := ws) (ns := ns) (rs := rs) (bs := bs) n 11 (by omega) (by decide)
  have v := tN_v (ns.getD n (0, 0, 0, none))
  rw [v.2.2.2.1] at e9
  rw [v.2.2.2.2.1] at e10
  rw [v.2.2.2.2.2] at e11
  generalize (ns.getD n (0, 0, 0, none)) = dd at k1 k2 k3 k4 k5 y1 y2 y3 y4 e9 e10 e11
  unfold f_X12_isQuiet still
  rw [ck_nI (by omega) (by decide), r12, r13, nI_clamp (by omega), k4, k5, ck_nI (by omega) (by decide), e9]
  cases hd : dd.2.2.2 with
  | none =>
    rw [if_pos rfl]
    show (if nI x < nI 0 then some ((0 : Int32), σ) else if nI 0 ≤ nI x then some ((0 : Int32), σ) else some ((1 : Int32), σ)) = some (bI false, σ)
    rw [if_neg (nI_nlt (Nat.zero_le _) (by omega)), if_pos (nI_le (Nat.zero_le _) (by omega))]
    rfl
  | some q =>
    obtain ⟨q1, q2, q3, q4⟩ := y4 q (by rw [hd]; exact Option.mem_some_self q)
    rw [hd] at e10 e11
    rw [show (if (some q : Option (Nat × Nat)) = none then 0 else 1 : Nat) = 1 from if_neg (by simp)]
    show (if nI x < nI q.1 then some ((0 : Int32), σ) else if nI q.2 ≤ nI x then some ((0 : Int32), σ) else some ((1 : Int32), σ)) = some (bI (false || decide (tQ sd ws ns rs bs (81 + 18 * n + 10 + 2 * 0) ≤ (x : Int) ∧ (x : Int) < tQ sd ws ns rs bs (81 + 18 * n + 11 + 2 * 0))), σ)
    have e10' : tQ sd ws ns rs bs (81 + 18 * n + 10 + 2 * 0) = (q.1 : Int) := e10
    have e11' : tQ sd ws ns rs bs (81 + 18 * n + 11 + 2 * 0) = (q.2 : Int) := e11
    rw [e10', e11', Bool.false_or]
    by_cases c1 : x < q.1
    · rw [if_pos (nI_lt c1 (by omega)), decide_eq_false (by omega)]
      rfl
    · rw [if_neg (nI_nlt (by omega) (by omega))]
      by_cases c2 : q.2 ≤ x
      · rw [if_pos (nI_le c2 (by omega)), decide_eq_false (by omega)]
        rfl
      · rw [if_neg (nI_ge (by omega) (by omega)), decide_eq_true (by omega)]
        rfl
end VLW
