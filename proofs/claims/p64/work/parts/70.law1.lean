/-! ===== windows, reasons, dust: the law's formulas and the tables' ===== -/
theorem lp_mx (f : Nat → Int) : ∀ (m k : Nat) (a : Int), a ≤ lp (fun c a => mx a (f c)) k m a ∧ (∀ c, k ≤ c → c < k + m → f c ≤ lp (fun c a => mx a (f c)) k m a) ∧ (lp (fun c a => mx a (f c)) k m a = a ∨ ∃ c, k ≤ c ∧ c < k + m ∧ f c = lp (fun c a => mx a (f c)) k m a) := by
  intro m
  induction m with
  | zero => intro k a; exact ⟨Int.le_refl a, fun c h1 h2 => absurd h2 (by omega), Or.inl rfl⟩
  | succ m ih =>
    intro k a
    rw [lp_s]
    obtain ⟨h1, h2, h3⟩ := ih (k + 1) (mx a (f k))
    have e : a ≤ mx a (f k) ∧ f k ≤ mx a (f k) ∧ (mx a (f k) = a ∨ mx a (f k) = f k) := by
      unfold mx
      split <;> omega
    refine ⟨Int.le_trans e.1 h1, fun c c1 c2 => ?_, ?_⟩
    · by_cases q : c = k
      · rw [q]; exact Int.le_trans e.2.1 h1
      · exact h2 c (by omega) (by omega)
    · rcases h3 with h3 | ⟨c, c1, c2, c3⟩
      · rcases e.2.2 with q | q
        · exact Or.inl (h3.trans q)
        · exact Or.inr ⟨k, Nat.le_refl k, by omega, (h3.trans q).symm⟩
      · exact Or.inr ⟨c, by omega, by omega, c3⟩
theorem lp_mn (P : Nat → Prop) [DecidablePred P] (g : Nat → Int) (hg : ∀ c, 0 ≤ g c) : ∀ (m k : Nat) (a : Int), (a = -1 ∨ 0 ≤ a) → (∀ c, k ≤ c → c < k + m → P c → 0 ≤ lp (fun c a => if P c ∧ (a = -1 ∨ g c < a) then g c else a) k m a ∧ lp (fun c a => if P c ∧ (a = -1 ∨ g c < a) then g c else a) k m a ≤ g c) ∧ (0 ≤ a → 0 ≤ lp (fun c a => if P c ∧ (a = -1 ∨ g c < a) then g c else a) k m a ∧ lp (fun c a => if P c ∧ (a = -1 ∨ g c < a) then g c else a) k m a ≤ a) ∧ (lp (fun c a => if P c ∧ (a = -1 ∨ g c < a) then g c else a) k m a = a ∨ ∃ c, k ≤ c ∧ c < k + m ∧ P c ∧ g c = lp (fun c a => if P c ∧ (a = -1 ∨ g c < a) then g c else a) k m a) := by
  intro m
  induction m with
  | zero => intro k a ha; exact ⟨fun c h1 h2 => absurd h2 (by omega), fun h => ⟨h, Int.le_refl a⟩, Or.inl rfl⟩
  | succ m ih =>
    intro k a ha
    rw [lp_s]
    have hgk := hg k
    by_cases q : P k ∧ (a = -1 ∨ g k < a)
    · rw [if_pos q]
      obtain ⟨h1, h2, h3⟩ := ih (k + 1) (g k) (Or.inr hgk)
      have h2 := h2 hgk
      refine ⟨fun c c1 c2 c3 => ?_, fun h => ⟨h2.1, ?_⟩, ?_⟩
      · by_cases e : c = k
        · rw [e]; exact h2
        · exact h1 c (by omega) (by omega) c3
      · rcases q.2 with e | e <;> omega
      · rcases h3 with h3 | ⟨c, c1, c2, c3, c4⟩
        · exact Or.inr ⟨k, Nat.le_refl k, by omega, q.1, h3.symm⟩
        · exact Or.inr ⟨c, by omega, by omega, c3, c4⟩
    · rw [if_neg q]
      obtain ⟨h1, h2, h3⟩ := ih (k + 1) a ha
      refine ⟨fun c c1 c2 c3 => ?_, h2, ?_⟩
      · by_cases e : c = k
        · subst e
          have hn : ¬ (a = -1 ∨ g c < a) := fun z => q ⟨c3, z⟩
          have := h2 (by omega)
          omega
        · exact h1 c (by omega) (by omega) c3
      · rcases h3 with h3 | ⟨c, c1, c2, c3, c4⟩
        · exact Or.inl h3
        · exact Or.inr ⟨c, by omega, by omega, c3, c4⟩
theorem anyN_f {p : Nat → Bool} (h : ∀ j, p j = false) : ∀ (m k : Nat), anyN p k m = false
  | 0, _ => rfl
  | m + 1, k => by
    show (p k || anyN p (k + 1) m) = false
    rw [h k, anyN_f h m (k + 1)]
    rfl
section VL1
variable {N : Nat} {R : Nat → Nat → Nat} {σ : SI} {sd : SDt} {ws : List WDt} {ns : List NDt} {rs : List RDt} {bs : List BDt}
theorem T_c (hok : QOk sd ws ns rs bs) {b c : Nat} (hb : b < bs.length) (hc : c < (bs.getD b (0, 0, 0, [])).2.2.2.length) : sz (tQ sd ws ns rs bs) b c = (((bs.getD b (0, 0, 0, [])).2.2.2.getD c (0, 0)).1 : Int) ∧ dl (wQ bs) b c = (((bs.getD b (0, 0, 0, [])).2.2.2.getD c (0, 0)).2 : Int) := by
  have hb3 := hok.2.2.2.2.1.2
  obtain ⟨q1, q2, q3, q4, q5, q6, q7⟩ := hok.2.2.2.2.2 _ (getD_mem (x := (0, 0, 0, [])) hb)
  refine ⟨?_, wQ_c b c (by omega)⟩
  unfold sz
  rw [show 285 + 22 * b + 10 + c = 285 + 22 * b + (10 + c) by omega, tQ_b b (10 + c) (by omega) (by omega)]
  unfold tB
  rw [if_neg (by omega), if_neg (by omega), if_neg (by omega), if_neg (by omega), if_neg (by omega), if_neg (by omega), show 10 + c - 10 = c by omega]
theorem T_nC (hok : QOk sd ws ns rs bs) {b : Nat} (hb : b < bs.length) : nC (tQ sd ws ns rs bs) b = (bs.getD b (0, 0, 0, [])).2.2.2.length := by
  unfold nC
  rw [(T_b hok hb).2.2.2]
  rfl
theorem fromD_q (hok : QOk sd ws ns rs bs) {b : Nat} (hb : b < bs.length) (d : Nat) : fromD (tQ sd ws ns rs bs) (wQ bs) b (d : Int) = (sumW d (bs.getD b (0, 0, 0, [])).2.2.2 : Int) := by
  have hc := fun c hc => T_c (c := c) hok hb hc
  unfold fromD
  rw [T_nC hok hb]
  generalize (bs.getD b (0, 0, 0, [])).2.2.2 = cs at hc
  have h : ∀ (m k : Nat) (a : Int), k + m = cs.length → lp (fun c a => a + (if (d : Int) ≤ dl (wQ bs) b c ∧ dl (wQ bs) b c ≤ (d : Int) + 7 then sz (tQ sd ws ns rs bs) b c else 0)) k m a = a + (sumW d (cs.drop k) : Int) := by
    intro m
    induction m with
    | zero =>
      intro k a hk
      rw [List.drop_eq_nil_of_le (by omega)]
      show a = a + 0
      omega
    | succ m ih =>
      intro k a hk
      have hkl : k < cs.length := by omega
      rw [lp_s, ih (k + 1) _ (by omega), drop_getD hkl, (hc k hkl).1, (hc k hkl).2]
      show _ = a + (((if d ≤ (cs.getD k (0, 0)).2 ∧ (cs.getD k (0, 0)).2 < d + 8 then (cs.getD k (0, 0)).1 else 0) + sumW d (cs.drop (k + 1)) : Nat) : Int)
      by_cases q : d ≤ (cs.getD k (0, 0)).2 ∧ (cs.getD k (0, 0)).2 < d + 8
      · rw [if_pos q, if_pos (by omega)]
        omega
      · rw [if_neg q, if_neg (by omega)]
        omega
  have := h cs.length 0 0 (by omega)
  rw [List.drop_zero, Int.zero_add] at this
  exact this
/-- the law's scan over the delays -/
def scn (cs : List (Nat × Nat)) : Nat → Nat × Nat
  | 0 => (0, 0)
  | k + 1 => if (∃ c ∈ cs, c.2 = k) ∧ (scn cs k).1 < sumW k cs then (sumW k cs, k) else scn cs k
theorem sumW_pos {cs : List (Nat × Nat)} (h : ∀ c ∈ cs, ChOk c) {c : Nat × Nat} (hc : c ∈ cs) : 1 ≤ sumW c.2 cs := by
  have : ∀ (l : List (Nat × Nat)), c ∈ l → (∀ x ∈ l, ChOk x) → 1 ≤ sumW c.2 l := by
    intro l
    induction l with
    | nil => intro hl; cases hl
    | cons x xs ih =>
      intro hl ho
      show 1 ≤ (if c.2 ≤ x.2 ∧ x.2 < c.2 + 8 then x.1 else 0) + sumW c.2 xs
      rcases List.mem_cons.mp hl with e | e
      · rw [← e, if_pos (by omega)]
        have := (ho c hl).1
        omega
      · have := ih e (fun y hy => ho y (List.mem_cons_of_mem _ hy))
        omega
  exact this cs hc h
theorem scn_spec (cs : List (Nat × Nat)) : ∀ k, (∀ c ∈ cs, c.2 < k → sumW c.2 cs ≤ (scn cs k).1) ∧ ((scn cs k).1 = 0 ∨ (∃ c ∈ cs, c.2 = (scn cs k).2 ∧ c.2 < k ∧ sumW c.2 cs = (scn cs k).1)) ∧ ∀ c ∈ cs, c.2 < k → sumW c.2 cs = (scn cs k).1 → 0 < (scn cs k).1 → (scn cs k).2 ≤ c.2 := by
  intro k
  induction k with
  | zero => exact ⟨fun c _ h => absurd h (Nat.not_lt_zero _), Or.inl rfl, fun c _ h => absurd h (Nat.not_lt_zero _)⟩
  | succ k ih =>
    obtain ⟨h1, h2, h3⟩ := ih
    show (∀ c ∈ cs, c.2 < k + 1 → sumW c.2 cs ≤ (if (∃ c ∈ cs, c.2 = k) ∧ (scn cs k).1 < sumW k cs then (sumW k cs, k) else scn cs k).1) ∧ _
    by_cases q : (∃ c ∈ cs, c.2 = k) ∧ (scn cs k).1 < sumW k cs
    · have e : scn cs (k + 1) = (sumW k cs, k) := if_pos q
      rw [if_pos q, e]
      obtain ⟨⟨c0, m0, e0⟩, hlt⟩ := q
      refine ⟨fun c hc hk => ?_, Or.inr ⟨c0, m0, e0, by omega, by rw [e0]⟩, fun c hc hk hs _ => ?_⟩
      · show sumW c.2 cs ≤ sumW k cs
        by_cases z : c.2 = k
        · rw [z]; exact Nat.le_refl _
        · exact Nat.le_trans (h1 c hc (by omega)) (Nat.le_of_lt hlt)
      · show k ≤ c.2
        refine Nat.le_of_not_lt fun z => ?_
        have h9 := h1 c hc z
        have hs : sumW c.2 cs = sumW k cs := hs
        omega
    · have e : scn cs (k + 1) = scn cs k := if_neg q
      rw [if_neg q, e]
      refine ⟨fun c hc hk => ?_, ?_, fun c hc hk hs hp => ?_⟩
      · by_cases z : c.2 = k
        · rw [z]
          exact Nat.le_of_not_lt fun y => q ⟨⟨c, hc, z⟩, y⟩
        · exact h1 c hc (by omega)
      · rcases h2 with h2 | ⟨c, hc, a1, a2, a3⟩
        · exact Or.inl h2
        · exact Or.inr ⟨c, hc, a1, by omega, a3⟩
      · by_cases z : c.2 = k
        · rcases h2 with h2 | ⟨c', hc', a1, a2, a3⟩
          · omega
          · rw [z, ← a1]; omega
        · exact h3 c hc (by omega) hs hp
/-- the scan comes to the planner's window -/
theorem scn_eq (hok : QOk sd ws ns rs bs) {b : Nat} (hb : b < bs.length) : win (tQ sd ws ns rs bs) (wQ bs) b = ((scn (bs.getD b (0, 0, 0, [])).2.2.2 30).1 : Int) ∧ wst (tQ sd ws ns rs bs) (wQ bs) b = ((scn (bs.getD b (0, 0, 0, [])).2.2.2 30).2 : Int) := by
  obtain ⟨q1, q2, q3, q4, q5, q6, q7⟩ := hok.2.2.2.2.2 _ (getD_mem (x := (0, 0, 0, [])) hb)
  have hc := fun c hc => T_c (c := c) hok hb hc
  have hF := fromD_q hok hb
  have hW : win (tQ sd ws ns rs bs) (wQ bs) b = lp (fun c a => mx a (fromD (tQ sd ws ns rs bs) (wQ bs) b (dl (wQ bs) b c))) 0 (nC (tQ sd ws ns rs bs) b) 0 := rfl
  have hS : wst (tQ sd ws ns rs bs) (wQ bs) b = lp (fun c a => if fromD (tQ sd ws ns rs bs) (wQ bs) b (dl (wQ bs) b c) = win (tQ sd ws ns rs bs) (wQ bs) b ∧ (a = -1 ∨ dl (wQ bs) b c < a) then dl (wQ bs) b c else a) 0 (nC (tQ sd ws ns rs bs) b) (-1) := rfl
  have hn := T_nC hok hb
  rw [hn] at hW hS
  generalize (bs.getD b (0, 0, 0, [])).2.2.2 = cs at q5 q6 q7 hc hF hn hW hS ⊢
  obtain ⟨s1, s2, s3⟩ := scn_spec cs 30
  -- members by their places
  have hmem : ∀ c ∈ cs, ∃ j, j < cs.length ∧ cs.getD j (0, 0) = c := fun c hcm => by
    obtain ⟨j, hj, e⟩ := List.getElem_of_mem hcm
    exact ⟨j, hj, by rw [List.getD_eq_getElem?_getD, List.getElem?_eq_getElem hj]; exact e⟩
  have hlt : ∀ c ∈ cs, c.2 < 30 := fun c hcm => by have := (q7 c hcm).2.2; omega
  have hf : ∀ j, j < cs.length → fromD (tQ sd ws ns rs bs) (wQ bs) b (dl (wQ bs) b j) = (sumW (cs.getD j (0, 0)).2 cs : Int) := fun j hj => by rw [(hc j hj).2, hF]
  obtain ⟨w1, w2, w3⟩ := lp_mx (fun c => fromD (tQ sd ws ns rs bs) (wQ bs) b (dl (wQ bs) b c)) cs.length 0 0
  rw [← hW] at w1 w2 w3
  have hpos : 0 < (scn cs 30).1 := by
    cases hcs : cs with
    | nil => rw [hcs] at q5; exact absurd q5 (by decide)
    | cons x xs =>
      have hx : x ∈ cs := by rw [hcs]; exact List.mem_cons_self
      have := sumW_pos q7 hx
      have := s1 x hx (hlt x hx)
      rw [hcs] at this
      rw [hcs] at *
      omega
  have hwin : win (tQ sd ws ns rs bs) (wQ bs) b = ((scn cs 30).1 : Int) := by
    apply Int.le_antisymm
    · rcases w3 with w3 | ⟨j, j1, j2, j3⟩
      · omega
      · have hj : j < cs.length := by omega
        have j3 : fromD (tQ sd ws ns rs bs) (wQ bs) b (dl (wQ bs) b j) = win (tQ sd ws ns rs bs) (wQ bs) b := j3
        rw [← j3, hf j hj]
        have := s1 _ (getD_mem (x := (0, 0)) hj) (hlt _ (getD_mem hj))
        omega
    · rcases s2 with s2 | ⟨c, hcm, a1, a2, a3⟩
      · omega
      · obtain ⟨j, hj, e⟩ := hmem c hcm
        have := w2 j (Nat.zero_le _) (by omega)
        have this : fromD (tQ sd ws ns rs bs) (wQ bs) b (dl (wQ bs) b j) ≤ win (tQ sd ws ns rs bs) (wQ bs) b := this
        rw [hf j hj, e, a3] at this
        exact this
  refine ⟨hwin, ?_⟩
  obtain ⟨m1, m2, m3⟩ := lp_mn (fun c => fromD (tQ sd ws ns rs bs) (wQ bs) b (dl (wQ bs) b c) = win (tQ sd ws ns rs bs) (wQ bs) b ∧ c < cs.length) (fun c => if c < cs.length then dl (wQ bs) b c else 0) (fun c => by
    by_cases h : c < cs.length
    · simp only [if_pos h]; rw [(hc c h).2]; omega
    · simp only [if_neg h]; exact Int.le_refl 0) cs.length 0 (-1) (Or.inl rfl)
  have hS2 : wst (tQ sd ws ns rs bs) (wQ bs) b = lp (fun c a => if (fromD (tQ sd ws ns rs bs) (wQ bs) b (dl (wQ bs) b c) = win (tQ sd ws ns rs bs) (wQ bs) b ∧ c < cs.length) ∧ (a = -1 ∨ (if c < cs.length then dl (wQ bs) b c else 0) < a) then (if c < cs.length then dl (wQ bs) b c else 0) else a) 0 cs.length (-1) := by
    rw [hS]
    have : ∀ (m k : Nat) (a : Int), k + m = cs.length → lp (fun c a => if fromD (tQ sd ws ns rs bs) (wQ bs) b (dl (wQ bs) b c) = win (tQ sd ws ns rs bs) (wQ bs) b ∧ (a = -1 ∨ dl (wQ bs) b c < a) then dl (wQ bs) b c else a) k m a = lp (fun c a => if (fromD (tQ sd ws ns rs bs) (wQ bs) b (dl (wQ bs) b c) = win (tQ sd ws ns rs bs) (wQ bs) b ∧ c < cs.length) ∧ (a = -1 ∨ (if c < cs.length then dl (wQ bs) b c else 0) < a) then (if c < cs.length then dl (wQ bs) b c else 0) else a) k m a := by
      intro m
      induction m with
      | zero => intro k a _; rfl
      | succ m ih =>
        intro k a hk
        have hkl : k < cs.length := by omega
        rw [lp_s, lp_s, ih (k + 1) _ (by omega), if_pos hkl]
        simp only [hkl, and_true]
    exact this cs.length 0 (-1) (by omega)
  rw [← hS2] at m1 m2 m3
  rcases s2 with s2 | ⟨c, hcm, a1, a2, a3⟩
  · omega
  · obtain ⟨j, hj, e⟩ := hmem c hcm
    have g1 := m1 j (Nat.zero_le _) (by omega) ⟨by rw [hf j hj, e, a3, hwin], hj⟩
    simp only [if_pos hj] at g1
    rw [(hc j hj).2, e, a1] at g1
    rcases m3 with m3 | ⟨i, i1, i2, ⟨i3, i5⟩, i4⟩
    · omega
    · simp only [if_pos i5] at i4
      rw [hf i i5, hwin] at i3
      have hmi := getD_mem (x := (0, 0)) i5
      have := s3 _ hmi (hlt _ hmi) (by omega) hpos
      rw [← i4, (hc i i5).2] at g1 ⊢
      omega
end VL1
