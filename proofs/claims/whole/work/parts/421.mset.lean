/-! ===== the class's set of minutes ===== -/
theorem nI_dec (k : Nat) : nI (k + 1) + (-1) = nI k := by
  rw [iI_nat, iI_nat, show (-1 : Int32) = iI (-1) from rfl, iI_add]
  congr 1
  omega
section MSET
variable {N : Nat} {R : Nat → Nat → Nat} {s : Nat} {t w : Nat → Int} {σ : SI} {o r : Nat} {F E : Nat → Int}
def MS (σ : SI) (o r : Nat) (F E : Nat → Int) : Prop := σ o 2 = nI r ∧ ∀ i, i < r → σ (o + 1) i = iI (F i) ∧ σ (o + 2) i = iI (E i)
theorem MS.fr (h : MS σ o r F E) {σ' : SI} (q : ∀ a j, o ≤ a → a ≤ o + 2 → σ' a j = σ a j) : MS σ' o r F E := ⟨(q _ _ (by omega) (by omega)).trans h.1, fun i hi => ⟨(q _ _ (by omega) (by omega)).trans (h.2 i hi).1, (q _ _ (by omega) (by omega)).trans (h.2 i hi).2⟩⟩
theorem RO.ms0 (h : RO R s) (ho : o = 31 ∨ o = 34) : R o 0 = o + 1 := by
  rcases ho with rfl | rfl
  · exact h.r31_0
  · exact h.r34_0
theorem RO.ms1 (h : RO R s) (ho : o = 31 ∨ o = 34) : R o 1 = o + 2 := by
  rcases ho with rfl | rfl
  · exact h.r31_1
  · exact h.r34_1
def src (a b j : Nat) : Nat := if j < a then j else b + (j - a)
theorem c_ins (hR : RO R s) (ho : o = 31 ∨ o = 34) {a b : Nat} {l h : Int} (hab : b ≤ r ∧ a + (r - b) ≤ 7) (hl : 0 ≤ l ∧ l ≤ 1440) (hF : ∀ j, j < r → 0 ≤ F j ∧ F j ≤ 1440) (har : a ≤ r) (h1 : ∀ j, b ≤ j → j < r → l < F j) (h2 : ∀ j, j < a → F j ≤ l) : ∀ (q n : Nat) (σ : SI), q ≤ r - b → q < n → σ o 2 = nI (a + (r - b)) → (∀ j, j < a + q → σ (o + 1) j = iI (F (src a b j)) ∧ σ (o + 2) j = iI (E (src a b j))) → (∀ j, a + q < j → j ≤ a + (r - b) → σ (o + 1) j = iI (F (b + (j - a - 1))) ∧ σ (o + 2) j = iI (E (b + (j - a - 1)))) → ∃ σ', f_X3_insert_15 N R n σ o (iI l) (iI h) (nI (a + q)) = some ((), σ') ∧ MS σ' o (a + 1 + (r - b)) (jF a b F l) (jF a b E h) ∧ ∀ x j, x < o ∨ o + 2 < x → σ' x j = σ x j := by
  have e0 := hR.ms0 ho
  have e1 := hR.ms1 ho
  intro q
  induction q with
  | zero =>
    intro n σ hq hn e2 g1 g2
    obtain ⟨n, rfl⟩ : ∃ q, n = q + 1 := ⟨n - 1, by omega⟩
    have u1 : ∀ i, up (up (up σ (o + 1) a (iI l)) (o + 2) a (iI h)) o 2 (nI (a + (r - b) + 1)) (o + 1) i = if i = a then iI l else σ (o + 1) i := fun i => by
      unfold up
      rw [if_neg (by omega), if_neg (by omega)]
      by_cases c : i = a
      · rw [if_pos ⟨rfl, c⟩, if_pos c]
      · rw [if_neg (by omega), if_neg c]
    have u2 : ∀ i, up (up (up σ (o + 1) a (iI l)) (o + 2) a (iI h)) o 2 (nI (a + (r - b) + 1)) (o + 2) i = if i = a then iI h else σ (o + 2) i := fun i => by
      unfold up
      rw [if_neg (by omega)]
      by_cases c : i = a
      · rw [if_pos ⟨rfl, c⟩, if_pos c]
      · rw [if_neg (by omega), if_neg (by omega), if_neg c]
    have e4 : up (up σ (o + 1) a (iI l)) (o + 2) a (iI h) o 2 = nI (a + (r - b)) := by
      unfold up
      rw [if_neg (by omega), if_neg (by omega)]
      exact e2
    have ex : f_X3_insert_65 N R σ o (iI l) (iI h) (nI a) = some ((), up (up (up σ (o + 1) a (iI l)) (o + 2) a (iI h)) o 2 (nI (a + (r - b) + 1))) := by
      unfold f_X3_insert_65
      rw [ck_nI (by omega) (by decide), sq_eq, ck_nI (by omega) (by decide), sq_eq, sq_eq, e0, e1, nI_clamp (by omega), e4, nI_1]
    refine ⟨up (up (up σ (o + 1) a (iI l)) (o + 2) a (iI h)) o 2 (nI (a + (r - b) + 1)), ?_, ⟨?_, fun i hi => ?_⟩, fun x j hx => ?_⟩
    · show f_X3_insert_15 N R (n + 1) σ o (iI l) (iI h) (nI a) = _
      rw [f_X3_insert_15]
      by_cases c : a = 0
      · rw [if_pos (by rw [c]; decide), ex]
      · have hs := (g1 (a - 1) (by omega)).1
        rw [show src a b (a - 1) = a - 1 from if_pos (by omega)] at hs
        have hj := hF (a - 1) (by omega)
        have hk := h2 (a - 1) (by omega)
        rw [if_neg (by rw [show (0 : Int32) = nI 0 from rfl, nI_leI (by omega) (by omega)]; omega), show nI a - (1 : Int32) = nI (a - 1) from nI_sub (a := a) (b := 1) (by omega), ck_nI (by omega) (by decide), e0, nI_clamp (by omega), hs, if_pos ((iI_le (by omega)).mpr (by omega)), ex]
    · rw [show a + 1 + (r - b) = a + (r - b) + 1 by omega]
      exact up_th
    · rw [u1, u2]
      unfold jF
      by_cases c : i = a
      · exact ⟨by rw [if_pos c, if_neg (show ¬ i < a by omega), if_pos c], by rw [if_pos c, if_neg (show ¬ i < a by omega), if_pos c]⟩
      · by_cases d : i < a
        · have hs := g1 i (by omega)
          rw [show src a b i = i from if_pos d] at hs
          exact ⟨by rw [if_neg c, if_pos d, hs.1], by rw [if_neg c, if_pos d, hs.2]⟩
        · have hs := g2 i (by omega) (by omega)
          exact ⟨by rw [if_neg c, if_neg d, if_neg c, hs.1], by rw [if_neg c, if_neg d, if_neg c, hs.2]⟩
    · unfold up
      rw [if_neg (by omega), if_neg (by omega), if_neg (by omega)]
  | succ q ih =>
    intro n σ hq hn e2 g1 g2
    obtain ⟨n, rfl⟩ : ∃ q, n = q + 1 := ⟨n - 1, by omega⟩
    have hs := g1 (a + q) (by omega)
    rw [show src a b (a + q) = b + q from (if_neg (by omega)).trans (by omega)] at hs
    have hj := hF (b + q) (by omega)
    have hk := h1 (b + q) (by omega) (by omega)
    have es : up σ (o + 1) (a + (q + 1)) (iI (F (b + q))) (o + 2) (a + q) = iI (E (b + q)) := (if_neg (by omega)).trans hs.2
    obtain ⟨σ', i1, i2, i3⟩ := ih n (up (up σ (o + 1) (a + (q + 1)) (iI (F (b + q)))) (o + 2) (a + (q + 1)) (iI (E (b + q)))) (by omega) (by omega) (by
      unfold up
      rw [if_neg (by omega), if_neg (by omega)]
      exact e2) (fun j hj => by
      unfold up
      rw [if_neg (by omega), if_neg (by omega), if_neg (by omega), if_neg (by omega)]
      exact g1 j (by omega)) (fun j j1 j2 => by
      have v1 : up (up σ (o + 1) (a + (q + 1)) (iI (F (b + q)))) (o + 2) (a + (q + 1)) (iI (E (b + q))) (o + 1) j = if j = a + (q + 1) then iI (F (b + q)) else σ (o + 1) j := by
        unfold up
        rw [if_neg (by omega)]
        by_cases c : j = a + (q + 1)
        · rw [if_pos ⟨rfl, c⟩, if_pos c]
        · rw [if_neg (by omega), if_neg c]
      have v2 : up (up σ (o + 1) (a + (q + 1)) (iI (F (b + q)))) (o + 2) (a + (q + 1)) (iI (E (b + q))) (o + 2) j = if j = a + (q + 1) then iI (E (b + q)) else σ (o + 2) j := by
        unfold up
        by_cases c : j = a + (q + 1)
        · rw [if_pos ⟨rfl, c⟩, if_pos c]
        · rw [if_neg (by omega), if_neg (by omega), if_neg c]
      rw [v1, v2]
      by_cases c : j = a + (q + 1)
      · rw [if_pos c, if_pos c, show b + (j - a - 1) = b + q by omega]
        exact ⟨rfl, rfl⟩
      · rw [if_neg c, if_neg c]
        exact g2 j (by omega) j2)
    refine ⟨σ', ?_, i2, fun x j hx => (i3 x j hx).trans ?_⟩
    · rw [f_X3_insert_15, if_neg (by rw [show (0 : Int32) = nI 0 from rfl, nI_leI (by omega) (by omega)]; omega), show nI (a + (q + 1)) - (1 : Int32) = nI (a + q) from (by rw [show (1 : Int32) = nI 1 from rfl, nI_sub (by omega)]; rfl), ck_nI (by omega) (by decide), e0, nI_clamp (by omega), hs.1, if_neg (fun z => absurd ((iI_le (by omega)).mp z) (by omega)), ck_nI (by omega) (by decide), ck_nI (by omega) (by decide), sq_eq, ck_nI (by omega) (by decide), ck_nI (by omega) (by decide), sq_eq, e1, nI_clamp (by omega), es, show nI (a + (q + 1)) + (-1) = nI (a + q) from nI_dec (a + q)]
      exact i1
    · unfold up
      rw [if_neg (by omega), if_neg (by omega)]
theorem lo_r (hr : Runs r F E) {a b : Nat} (hb : b ≤ r) {l : Int} (hl : 0 ≤ l) : 0 ≤ lo a b F l := by
  unfold lo
  by_cases c : a < b
  · have := hr.1 a (by omega)
    rw [if_pos c]
    split <;> omega
  · rw [if_neg c]
    omega
theorem hi_r (hr : Runs r F E) {a b : Nat} (hb : b ≤ r) {h : Int} (hh : h ≤ 1440) : hi a b E h ≤ 1440 := by
  unfold hi
  by_cases c : a < b
  · have := hr.1 (b - 1) (by omega)
    rw [if_pos c]
    split <;> omega
  · rw [if_neg c]
    omega
theorem c_add17 (hR : RO R s) (ho : o = 31 ∨ o = 34) (hr : Runs r F E) (hr7 : r ≤ 7) {l h : Int} (hl : 0 ≤ l ∧ l < h ∧ h ≤ 1440) : ∀ (m i n a b : Nat) (σ : SI), i + m = r → m < n → Cut i a b F E l h → σ o 2 = nI r → (∀ j, j < a + (i - b) → σ (o + 1) j = iI (F (src a b j)) ∧ σ (o + 2) j = iI (E (src a b j))) → (∀ j, i ≤ j → j < r → σ (o + 1) j = iI (F j) ∧ σ (o + 2) j = iI (E j)) → ∃ (σ' : SI) (a' b' : Nat), f_X3_add_17 N R n σ o (iI (lo a b F l)) (iI (hi a b E h)) (nI (a + (i - b))) (nI i) = bd (f_X3_insert N R σ' o (iI (lo a' b' F l)) (iI (hi a' b' E h))) (fun _ σ4 => some ((), σ4)) ∧ Cut r a' b' F E l h ∧ σ' o 2 = nI (a' + (r - b')) ∧ (∀ j, j < a' + (r - b') → σ' (o + 1) j = iI (F (src a' b' j)) ∧ σ' (o + 2) j = iI (E (src a' b' j))) ∧ ∀ x j, x < o ∨ o + 2 < x → σ' x j = σ x j := by
  have e0 := hR.ms0 ho
  have e1 := hR.ms1 ho
  intro m
  induction m with
  | zero =>
    intro i n a b σ hi0 hm hc e2 g1 g2
    obtain ⟨n, rfl⟩ : ∃ q, n = q + 1 := ⟨n - 1, by omega⟩
    obtain rfl : i = r := by omega
    refine ⟨up σ o 2 (nI (a + (i - b))), a, b, ?_, hc, up_th, fun j hj => ?_, fun x j hx => if_neg (by omega)⟩
    · rw [f_X3_add_17, e2, if_pos (by rw [nI_leI (by omega) (by omega)]; omega), sq_eq]
    · unfold up
      rw [if_neg (by omega), if_neg (by omega)]
      exact g1 j hj
  | succ m ih =>
    intro i n a b σ hi0 hm hc e2 g1 g2
    obtain ⟨n, rfl⟩ : ∃ q, n = q + 1 := ⟨n - 1, by omega⟩
    obtain ⟨c1, c2, c3, c4, c5⟩ := id hc
    have hir : i < r := by omega
    have hi2 := hr.1 i hir
    have hL := lo_r hr (a := a) (b := b) (by omega) (l := l) (by omega)
    have hH := hi_r hr (a := a) (b := b) (by omega) (h := h) (by omega)
    have hL2 := lo_le a b F l
    have hH2 := hi_ge a b E h
    obtain ⟨s1, s2⟩ := g2 i (by omega) hir
    have hk : a + (i - b) ≤ i := by omega
    -- what keeping run i does
    have keep : ∀ (a' b' : Nat), Cut (i + 1) a' b' F E l h → a' + (i + 1 - b') = a + (i - b) + 1 → lo a' b' F l = lo a b F l → hi a' b' E h = hi a b E h → (∀ j, j < a + (i - b) → src a' b' j = src a b j) → src a' b' (a + (i - b)) = i → ∃ (σ' : SI) (a' b' : Nat), f_X3_add_49 N R (fun σ x0 x3 x4 x5 x6 => f_X3_add_17 N R n σ x0 x3 x4 x5 x6) σ o (iI (lo a b F l)) (iI (hi a b E h)) (nI (a + (i - b))) (nI i) = bd (f_X3_insert N R σ' o (iI (lo a' b' F l)) (iI (hi a' b' E h))) (fun _ σ4 => some ((), σ4)) ∧ Cut r a' b' F E l h ∧ σ' o 2 = nI (a' + (r - b')) ∧ (∀ j, j < a' + (r - b') → σ' (o + 1) j = iI (F (src a' b' j)) ∧ σ' (o + 2) j = iI (E (src a' b' j))) ∧ ∀ x j, x < o ∨ o + 2 < x → σ' x j = σ x j := by
      intro a' b' hc' en el eh es es2
      have et : up σ (o + 1) (a + (i - b)) (iI (F i)) (o + 2) i = iI (E i) := (if_neg (by omega)).trans s2
      obtain ⟨σ', a2, b2, j1, j2, j3, j4, j5⟩ := ih (i + 1) n a' b' (up (up σ (o + 1) (a + (i - b)) (iI (F i))) (o + 2) (a + (i - b)) (iI (E i))) (by omega) (by omega) hc' (by
        unfold up
        rw [if_neg (by omega), if_neg (by omega)]
        exact e2) (fun j hj => by
        have v1 : up (up σ (o + 1) (a + (i - b)) (iI (F i))) (o + 2) (a + (i - b)) (iI (E i)) (o + 1) j = if j = a + (i - b) then iI (F i) else σ (o + 1) j := by
          unfold up
          rw [if_neg (by omega)]
          by_cases c : j = a + (i - b)
          · rw [if_pos ⟨rfl, c⟩, if_pos c]
          · rw [if_neg (by omega), if_neg c]
        have v2 : up (up σ (o + 1) (a + (i - b)) (iI (F i))) (o + 2) (a + (i - b)) (iI (E i)) (o + 2) j = if j = a + (i - b) then iI (E i) else σ (o + 2) j := by
          unfold up
          by_cases c : j = a + (i - b)
          · rw [if_pos ⟨rfl, c⟩, if_pos c]
          · rw [if_neg (by omega), if_neg (by omega), if_neg c]
        rw [v1, v2]
        by_cases c : j = a + (i - b)
        · rw [if_pos c, if_pos c, c, es2]
          exact ⟨rfl, rfl⟩
        · rw [if_neg c, if_neg c, es j (by omega)]
          exact g1 j (by omega)) (fun j j1 j2 => by
        unfold up
        rw [if_neg (by omega), if_neg (by omega), if_neg (by omega), if_neg (by omega)]
        exact g2 j (by omega) j2)
      refine ⟨σ', a2, b2, ?_, j2, j3, j4, fun x j hx => (j5 x j hx).trans ?_⟩
      · rw [el, eh, en] at j1
        unfold f_X3_add_49 f_X3_add_109
        rw [ck_nI (by omega) (by decide), ck_nI (by omega) (by decide), sq_eq, ck_nI (by omega) (by decide), ck_nI (by omega) (by decide), sq_eq, e0, e1, nI_clamp (by omega), nI_clamp (by omega), s1, et, nI_1, nI_1]
        exact j1
      · unfold up
        rw [if_neg (by omega), if_neg (by omega)]
    rw [f_X3_add_17, e2, if_neg (by rw [nI_leI (by omega) (by omega)]; omega), ck_nI (by omega) (by decide), ck_nI (by omega) (by decide), ck_nI (by omega) (by decide), ck_nI (by omega) (by decide), e0, e1, nI_clamp (by omega), s1, s2]
    by_cases d1 : E i < lo a b F l
    · -- wholly ahead
      have hab : a = b := by
        refine Nat.le_antisymm c1 (Nat.le_of_not_lt fun c => ?_)
        have := (hr.mono (i := a) (j := i) (by omega) hir).1
        unfold lo at d1
        rw [if_pos c] at d1
        split at d1 <;> omega
      have hbi : b = i := by
        refine Nat.le_antisymm c2 (Nat.le_of_not_lt fun c => ?_)
        have x1 := c5 b (by omega) c
        have x2 := (hr.mono (i := b) (j := i) (by omega) hir).1
        omega
      subst hab
      subst hbi
      have el : lo a a F l = l := if_neg (by omega)
      rw [el] at d1
      rw [if_pos ((iI_lt (by omega)).mpr (by rw [el]; exact d1))]
      refine keep (a + 1) (a + 1) ⟨by omega, by omega, fun j hj => ?_, fun j h1 h2 => by omega, fun j h1 h2 => by omega⟩ (by omega) ?_ ?_ (fun j hj => ?_) ?_
      · by_cases c : j = a
        · rw [c]
          exact d1
        · exact c3 j (by omega)
      · unfold lo
        rw [if_neg (by omega), if_neg (by omega)]
      · unfold hi
        rw [if_neg (by omega), if_neg (by omega)]
      · unfold src
        rw [if_pos (by omega), if_pos (by omega)]
      · unfold src
        rw [if_pos (by omega)]
        omega
    · rw [if_neg (fun z => d1 ((iI_lt (by omega)).mp z))]
      by_cases d2 : F i ≤ hi a b E h
      · -- joined
        have hbi : b = i := by
          refine Nat.le_antisymm c2 (Nat.le_of_not_lt fun c => ?_)
          have x1 := c5 b (by omega) c
          have x2 := (hr.mono (i := b) (j := i) (by omega) hir).1
          unfold hi at d2
          by_cases y : a < b
          · have x3 := hr.2 (b - 1) i (by omega) hir
            rw [if_pos y] at d2
            split at d2 <;> omega
          · rw [if_neg y] at d2
            omega
        subst hbi
        rw [if_pos ((iI_le (by omega)).mpr d2)]
        have elo : (if F b < lo a b F l then F b else lo a b F l) = lo a (b + 1) F l := by
          unfold lo
          rw [if_pos (show a < b + 1 by omega)]
          by_cases y : a < b
          · have x3 := hr.2 a b y hir
            have x4 := hr.1 a (by omega)
            rw [if_pos y]
            split <;> split <;> (try split) <;> omega
          · obtain rfl : a = b := by omega
            rw [if_neg y]
        have ehi : mx (hi a b E h) (E b) = hi a (b + 1) E h := by
          unfold hi mx
          rw [if_pos (show a < b + 1 by omega), show b + 1 - 1 = b by omega]
          by_cases y : a < b
          · have x3 := (hr.mono (i := b - 1) (j := b) (by omega) hir).2
            rw [if_pos y]
            split <;> split <;> (try split) <;> omega
          · rw [if_neg y]
        have hlE : l ≤ E b := by
          by_cases y : a < b
          · have := c4 (b - 1) (by omega) (by omega)
            have := hr.2 (b - 1) b (by omega) hir
            omega
          · unfold lo at d1
            rw [if_neg y] at d1
            omega
        have hFh : F b ≤ h := by
          unfold hi at d2
          by_cases y : a < b
          · have := hr.2 (b - 1) b (by omega) hir
            rw [if_pos y] at d2
            split at d2 <;> omega
          · rw [if_neg y] at d2
            exact d2
        obtain ⟨σ', a2, b2, j1, j2, j3, j4, j5⟩ := ih (b + 1) n a (b + 1) σ (by omega) (by omega) ⟨by omega, by omega, c3, fun j h1 h2 => by
          by_cases c : j = b
          · rw [c]
            exact ⟨hlE, hFh⟩
          · exact c4 j h1 (by omega), fun j h1 h2 => by omega⟩ e2 (fun j hj => by
          have := g1 j (by omega)
          rw [show src a (b + 1) j = src a b j from (if_pos (by omega)).trans (if_pos (by omega)).symm]
          exact this) (fun j h1 h2 => g2 j (by omega) h2)
        refine ⟨σ', a2, b2, ?_, j2, j3, j4, j5⟩
        unfold f_X3_add_109
        rw [iI_minL (by omega), iI_maxR (by omega), elo, ehi, nI_1]
        rw [show a + (b + 1 - (b + 1)) = a + (b - b) by omega] at j1
        exact j1
      · rw [if_neg (fun z => d2 ((iI_le (by omega)).mp z))]
        refine keep a b ⟨c1, by omega, c3, c4, fun j h1 h2 => ?_⟩ (by omega) rfl rfl (fun _ _ => rfl) ?_
        · by_cases c : j = i
          · rw [c]
            omega
          · exact c5 j h1 (by omega)
        · unfold src
          rw [if_neg (by omega)]
          omega
theorem c_add (hN : 2000 ≤ N) (hR : RO R s) (ho : o = 31 ∨ o = 34) (hr : Runs r F E) (hr7 : r ≤ 7) (hM : MS σ o r F E) {l h : Int} (hl : 0 ≤ l ∧ l ≤ 1440 ∧ 0 ≤ h ∧ h ≤ 1440) : ∃ (σ' : SI) (r' : Nat) (F' E' : Nat → Int), f_X3_add N R σ o (iI l) (iI h) = some ((), σ') ∧ MS σ' o r' F' E' ∧ Runs r' F' E' ∧ r' ≤ r + 1 ∧ (∀ m : Int, inR F' E' r' m ↔ inR F E r m ∨ l ≤ m ∧ m < h) ∧ ∀ x j, x < o ∨ o + 2 < x → σ' x j = σ x j := by
  unfold f_X3_add
  by_cases c : l < h
  · rw [if_pos ((iI_lt (by omega)).mpr c)]
    have hl2 : 0 ≤ l ∧ l < h ∧ h ≤ 1440 := by omega
    obtain ⟨σ1, a, b, g1, g2, g3, g4, g5⟩ := c_add17 (N := N) hR ho hr hr7 hl2 r 0 N 0 0 σ (by omega) (by omega) ⟨by omega, by omega, fun j hj => by omega, fun j _ _ => by omega, fun j _ _ => by omega⟩ hM.1 (fun j hj => by omega) (fun j _ hj => hM.2 j hj)
    have k1 := lo_le a b F l
    have k2 := lo_r hr (a := a) (b := b) g2.2.1 hl2.1
    obtain ⟨c1, c2, c3, c4, c5⟩ := id g2
    obtain ⟨σ2, i1, i2, i3⟩ := c_ins (N := N) (E := E) (h := hi a b E h) hR ho (r := r) (a := a) (b := b) (l := lo a b F l) ⟨c2, by omega⟩ ⟨k2, by omega⟩ (fun j hj => by have := hr.1 j hj; omega) (by omega) (fun j h1 h2 => by have := c5 j h1 h2; omega) (fun j hj => by
      have x1 := hr.1 j (by omega)
      have x2 := c3 j hj
      unfold lo
      by_cases y : a < b
      · have := hr.2 j a hj (by omega)
        rw [if_pos y]
        split <;> omega
      · rw [if_neg y]
        omega) (r - b) N σ1 (by omega) (by omega) g3 (fun j hj => g4 j hj) (fun j h1 h2 => by omega)
    refine ⟨σ2, a + 1 + (r - b), _, _, ?_, i2, join_runs hr g2 hl2, by omega, join_in hr g2 hl2, fun x j hx => (i3 x j hx).trans (g5 x j hx)⟩
    have e : f_X3_add_17 N R N σ o (iI l) (iI h) (nI 0) (nI 0) = bd (f_X3_insert N R σ1 o (iI (lo a b F l)) (iI (hi a b E h))) (fun _ σ4 => some ((), σ4)) := g1
    rw [l_0, e]
    unfold f_X3_insert
    rw [g3, if_pos (by rw [show (8 : Int32) = nI 8 from rfl, nI_ltI (by omega) (by omega)]; omega), i1, bd_some]
  · rw [if_neg (fun z => c ((iI_lt (by omega)).mp z))]
    refine ⟨σ, r, F, E, rfl, hM, hr, by omega, fun m => ⟨Or.inl, fun z => ?_⟩, fun _ _ _ => rfl⟩
    rcases z with z | z
    · exact z
    · omega
theorem c_szw (hR : RO R s) (ho : o = 31 ∨ o = 34) (hr : Runs r F E) (hr7 : r ≤ 8) (hM : MS σ o r F E) {l h : Int} (hl : 0 ≤ l ∧ l ≤ 1440 ∧ 0 ≤ h ∧ h ≤ 1440) : ∀ (m k n : Nat) (acc : Int), k + m = r → m < n → f_X3_sizeWithin_5 N R n σ o (iI l) (iI h) (iI acc) (nI k) = some (iI (acc + sumF (fun i => ovl l h (F i) (E i)) k m), σ) := by
  have e0 := hR.ms0 ho
  have e1 := hR.ms1 ho
  intro m
  induction m with
  | zero =>
    intro k n acc hk hm
    obtain ⟨n, rfl⟩ : ∃ q, n = q + 1 := ⟨n - 1, by omega⟩
    rw [f_X3_sizeWithin_5, hM.1, if_pos (by rw [nI_leI (by omega) (by omega)]; omega)]
    show _ = some (iI (acc + 0), σ)
    rw [Int.add_zero]
  | succ m ih =>
    intro k n acc hk hm
    obtain ⟨n, rfl⟩ : ∃ q, n = q + 1 := ⟨n - 1, by omega⟩
    have hk1 := hr.1 k (by omega)
    obtain ⟨s1, s2⟩ := hM.2 k (by omega)
    have m1 : 0 ≤ (if E k < h then E k else h) ∧ (if E k < h then E k else h) ≤ 1440 := by split <;> omega
    have m2 : 0 ≤ mx l (F k) ∧ mx l (F k) ≤ 1440 := by unfold mx; split <;> omega
    have m3 : (if (0 : Int32) < iI ((if E k < h then E k else h) - mx l (F k)) then iI ((if E k < h then E k else h) - mx l (F k)) else (0 : Int32)) = iI (ovl l h (F k) (E k)) := iI_maxR (a := 0) (b := (if E k < h then E k else h) - mx l (F k)) (by omega)
    rw [f_X3_sizeWithin_5, hM.1, if_neg (by rw [nI_leI (by omega) (by omega)]; omega), ck_nI (by omega) (by decide), ck_nI (by omega) (by decide), e0, e1, nI_clamp (by omega), s1, s2, iI_minL (by omega), iI_maxR (by omega), iI_sub, m3, iI_add, nI_1, ih (k + 1) n _ (by omega) (by omega), sumF_s, Int.add_assoc]
theorem c_sizeWithin (hN : 2000 ≤ N) (hR : RO R s) (ho : o = 31 ∨ o = 34) (hr : Runs r F E) (hr7 : r ≤ 8) (hM : MS σ o r F E) {p : Nat → Bool} (hp : ∀ m : Nat, m < 1440 → (p m = true ↔ inR F E r m)) {l len : Nat} (hl : l + len ≤ 1440) : f_X3_sizeWithin N R σ o (iI l) (iI ((l : Int) + len)) = some (iI (cnt p l len), σ) := by
  unfold f_X3_sizeWithin
  have e := c_szw (N := N) hR ho hr hr7 hM (l := (l : Int)) (h := (l : Int) + len) (by omega) r 0 N 0 (by omega) (by omega)
  rw [size_p hr hp l len hl, Int.zero_add] at e
  exact e
theorem c_size (hN : 2000 ≤ N) (hR : RO R s) (ho : o = 31 ∨ o = 34) (hr : Runs r F E) (hr7 : r ≤ 8) (hM : MS σ o r F E) {p : Nat → Bool} (hp : ∀ m : Nat, m < 1440 → (p m = true ↔ inR F E r m)) : f_X3_size N R σ o = some (iI (cnt p 0 1440), σ) := by
  unfold f_X3_size
  have e : f_X3_sizeWithin N R σ o (0 : Int32) (1440 : Int32) = some (iI (cnt p 0 1440), σ) := c_sizeWithin hN hR ho hr hr7 hM hp (l := 0) (len := 1440) (by omega)
  rw [e, bd_some]
theorem c_contains (hR : RO R s) (ho : o = 31 ∨ o = 34) (hr : Runs r F E) (hr7 : r ≤ 8) (hM : MS σ o r F E) {x : Int} (hx : -2147483648 ≤ x ∧ x ≤ 2147483647) : ∀ (m k n : Nat), k + m = r → m < n → f_X3_contains_2 N R n σ o (iI x) (nI k) = some (bI (anyN (fun i => decide (F i ≤ x ∧ x < E i)) k m), σ) := by
  have e0 := hR.ms0 ho
  have e1 := hR.ms1 ho
  intro m
  induction m with
  | zero =>
    intro k n hk hm
    obtain ⟨n, rfl⟩ : ∃ q, n = q + 1 := ⟨n - 1, by omega⟩
    rw [f_X3_contains_2, hM.1, if_pos (by rw [nI_leI (by omega) (by omega)]; omega)]
    rfl
  | succ m ih =>
    intro k n hk hm
    obtain ⟨n, rfl⟩ : ∃ q, n = q + 1 := ⟨n - 1, by omega⟩
    have hk1 := hr.1 k (by omega)
    obtain ⟨s1, s2⟩ := hM.2 k (by omega)
    rw [f_X3_contains_2, hM.1, if_neg (by rw [nI_leI (by omega) (by omega)]; omega), ck_nI (by omega) (by decide), ck_nI (by omega) (by decide), e0, e1, nI_clamp (by omega), s1, s2, anyN_s]
    dsimp only [f_X3_contains_32]
    rw [nI_1]
    by_cases c1 : x < F k
    · rw [if_pos ((iI_lt (by omega)).mpr c1), ih (k + 1) n (by omega) (by omega), decide_eq_false (by omega), Bool.false_or]
    · rw [if_neg (fun z => c1 ((iI_lt (by omega)).mp z))]
      by_cases c2 : E k ≤ x
      · rw [if_pos ((iI_le (by omega)).mpr c2), ih (k + 1) n (by omega) (by omega), decide_eq_false (by omega), Bool.false_or]
      · rw [if_neg (fun z => c2 ((iI_le (by omega)).mp z)), decide_eq_true (by omega), Bool.true_or]
        rfl
end MSET
