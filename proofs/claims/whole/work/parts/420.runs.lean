/-! ===== sets of minutes as runs, and counted minute by minute ===== -/
def Runs (r : Nat) (F E : Nat → Int) : Prop := (∀ i, i < r → 0 ≤ F i ∧ F i < E i ∧ E i ≤ 1440) ∧ ∀ i j, i < j → j < r → E i < F j
def inR (F E : Nat → Int) (r : Nat) (m : Int) : Prop := ∃ i, i < r ∧ F i ≤ m ∧ m < E i
def ovl (l h a b : Int) : Int := if 0 < (if b < h then b else h) - (if l < a then a else l) then (if b < h then b else h) - (if l < a then a else l) else 0
def bgn (p : Nat → Bool) (m : Nat) : Bool := p m && (decide (m = 0) || !p (m - 1))
theorem anyN_last (p : Nat → Bool) : ∀ (m k : Nat), anyN p k (m + 1) = (anyN p k m || p (k + m)) := by
  intro m
  induction m with
  | zero =>
    intro k
    rw [anyN_s]
    exact Bool.or_comm _ _
  | succ m ih =>
    intro k
    rw [anyN_s, ih (k + 1), anyN_s p k m, Bool.or_assoc, show k + 1 + m = k + (m + 1) by omega]
theorem cnt_s (p : Nat → Bool) (k m : Nat) : cnt p k (m + 1) = (if p k then 1 else 0) + cnt p (k + 1) m := rfl
theorem cnt_congr {p q : Nat → Bool} : ∀ (m k : Nat), (∀ j, k ≤ j → j < k + m → p j = q j) → cnt p k m = cnt q k m := by
  intro m
  induction m with
  | zero => intro k _; rfl
  | succ m ih =>
    intro k h
    rw [cnt_s, cnt_s, h k (by omega) (by omega), ih (k + 1) (fun j h1 h2 => h j (by omega) (by omega))]
theorem cnt_or {p q : Nat → Bool} : ∀ (m k : Nat), (∀ j, k ≤ j → j < k + m → ¬ (p j = true ∧ q j = true)) → cnt (fun j => p j || q j) k m = cnt p k m + cnt q k m := by
  intro m
  induction m with
  | zero => intro k _; rfl
  | succ m ih =>
    intro k h
    have h0 := h k (by omega) (by omega)
    rw [cnt_s, cnt_s, cnt_s, ih (k + 1) (fun j h1 h2 => h j (by omega) (by omega))]
    cases hp : p k <;> cases hq : q k
    · simp only [Bool.or_self, Bool.false_eq_true, if_false]
      omega
    · simp only [Bool.or_true, Bool.false_eq_true, if_false, if_true]
      omega
    · simp only [Bool.or_false, Bool.false_eq_true, if_false, if_true]
      omega
    · exact absurd ⟨hp, hq⟩ h0
theorem cnt_f : ∀ (m k : Nat), cnt (fun _ => false) k m = 0 := by
  intro m
  induction m with
  | zero => intro k; rfl
  | succ m ih =>
    intro k
    rw [cnt_s, ih (k + 1)]
    rfl
theorem cnt_r (p : Nat → Bool) : ∀ (m k : Nat), 0 ≤ cnt p k m ∧ cnt p k m ≤ m := by
  intro m
  induction m with
  | zero => intro k; exact ⟨Int.le_refl _, Int.le_refl _⟩
  | succ m ih =>
    intro k
    have := ih (k + 1)
    rw [cnt_s]
    split <;> omega
theorem cnt_iv (a b : Int) : ∀ (m k : Nat), cnt (fun j => decide (a ≤ (j : Int) ∧ (j : Int) < b)) k m = ovl (k : Int) ((k : Int) + m) a b := by
  intro m
  induction m with
  | zero =>
    intro k
    show (0 : Int) = _
    unfold ovl
    rw [if_neg]
    by_cases c1 : b < (k : Int) + ((0 : Nat) : Int)
    · rw [if_pos c1]
      by_cases c2 : (k : Int) < a
      · rw [if_pos c2]
        omega
      · rw [if_neg c2]
        omega
    · rw [if_neg c1]
      by_cases c2 : (k : Int) < a
      · rw [if_pos c2]
        omega
      · rw [if_neg c2]
        omega
  | succ m ih =>
    intro k
    rw [cnt_s, ih (k + 1)]
    unfold ovl
    by_cases c : a ≤ (k : Int) ∧ (k : Int) < b
    · rw [if_pos (decide_eq_true c)]
      omega
    · rw [if_neg (by rw [decide_eq_true_eq]; exact c)]
      omega
theorem sumF_s (f : Nat → Int) (k m : Nat) : sumF f k (m + 1) = f k + sumF f (k + 1) m := rfl
theorem sumF_congr {f g : Nat → Int} : ∀ (m k : Nat), (∀ j, k ≤ j → j < k + m → f j = g j) → sumF f k m = sumF g k m := by
  intro m
  induction m with
  | zero => intro k _; rfl
  | succ m ih =>
    intro k h
    rw [sumF_s, sumF_s, h k (by omega) (by omega), ih (k + 1) (fun j h1 h2 => h j (by omega) (by omega))]
theorem sumF_last (f : Nat → Int) : ∀ (m k : Nat), sumF f k (m + 1) = sumF f k m + f (k + m) := by
  intro m
  induction m with
  | zero =>
    intro k
    show f k + 0 = 0 + f (k + 0)
    rw [Nat.add_zero]
    omega
  | succ m ih =>
    intro k
    rw [sumF_s, ih (k + 1), sumF_s f k m, show k + 1 + m = k + (m + 1) by omega]
    omega
theorem runs_size {r : Nat} {F E : Nat → Int} (hr : Runs r F E) (l len : Nat) : ∀ (m k : Nat), k + m = r → sumF (fun i => ovl (l : Int) ((l : Int) + len) (F i) (E i)) k m = cnt (fun j => anyN (fun i => decide (F i ≤ (j : Int) ∧ (j : Int) < E i)) k m) l len := by
  intro m
  induction m with
  | zero =>
    intro k _
    exact (cnt_f len l).symm
  | succ m ih =>
    intro k hk
    rw [sumF_s, ih (k + 1) (by omega), ← cnt_iv, ← cnt_or]
    · rfl
    · intro j _ _ ⟨h1, h2⟩
      obtain ⟨i, i1, i2, i3⟩ := (anyN_iff _ _ _).mp h2
      have h1 := of_decide_eq_true h1
      have i3 := of_decide_eq_true i3
      have := hr.2 k i (by omega) (by omega)
      omega
theorem size_p {r : Nat} {F E : Nat → Int} (hr : Runs r F E) {p : Nat → Bool} (hp : ∀ m : Nat, m < 1440 → (p m = true ↔ inR F E r m)) (l len : Nat) (hl : l + len ≤ 1440) : sumF (fun i => ovl (l : Int) ((l : Int) + len) (F i) (E i)) 0 r = cnt p l len := by
  rw [runs_size hr l len r 0 (by omega)]
  refine cnt_congr len l (fun j h1 h2 => ?_)
  rw [Bool.eq_iff_iff, anyN_iff, hp j (by omega)]
  refine ⟨fun ⟨i, _, i2, i3⟩ => ⟨i, by omega, of_decide_eq_true i3⟩, fun ⟨i, i1, i2⟩ => ⟨i, by omega, by omega, decide_eq_true i2⟩⟩
theorem bgn_iff {r : Nat} {F E : Nat → Int} (hr : Runs r F E) {p : Nat → Bool} (hp : ∀ m : Nat, m < 1440 → (p m = true ↔ inR F E r m)) (m : Nat) (hm : m < 1440) : bgn p m = true ↔ ∃ i, i < r ∧ F i = m := by
  unfold bgn
  rw [Bool.and_eq_true, Bool.or_eq_true, hp m hm, decide_eq_true_eq, Bool.not_eq_true', ← Bool.not_eq_true, hp (m - 1) (by omega)]
  refine ⟨fun ⟨⟨i, i1, i2, i3⟩, h⟩ => ⟨i, i1, ?_⟩, fun ⟨i, i1, i2⟩ => ⟨⟨i, i1, by omega, by have := hr.1 i i1; omega⟩, ?_⟩⟩
  · have := hr.1 i i1
    rcases h with h | h
    · omega
    · by_cases c : F i = m
      · exact c
      · exact absurd ⟨i, i1, by omega, by omega⟩ h
  · by_cases c : m = 0
    · exact Or.inl c
    · refine Or.inr (fun ⟨j, j1, j2, j3⟩ => ?_)
      have := hr.1 i i1
      rcases Nat.lt_trichotomy i j with g | g | g
      · have := hr.2 i j g j1
        omega
      · subst g
        omega
      · have := hr.2 j i g i1
        omega
theorem sumF_1 {f : Nat → Int} : ∀ (m k : Nat), (∀ j, k ≤ j → j < k + m → f j = 1) → sumF f k m = m := by
  intro m
  induction m with
  | zero => intro k _; rfl
  | succ m ih =>
    intro k h
    rw [sumF_s, h k (by omega) (by omega), ih (k + 1) (fun j h1 h2 => h j (by omega) (by omega))]
    omega
theorem bgn_cnt {r : Nat} {F E : Nat → Int} (hr : Runs r F E) {p : Nat → Bool} (hp : ∀ m : Nat, m < 1440 → (p m = true ↔ inR F E r m)) : cnt (bgn p) 0 1440 = r := by
  have h2 : Runs r F (fun i => F i + 1) := ⟨fun i hi => by have := hr.1 i hi; dsimp only; omega, fun i j h1 h2 => by have := hr.1 i (by omega); have := hr.2 i j h1 h2; dsimp only; omega⟩
  have e := size_p h2 (p := bgn p) (fun m hm => by
    rw [bgn_iff hr hp m hm]
    refine ⟨fun ⟨i, i1, i2⟩ => ⟨i, i1, by omega, by dsimp only; omega⟩, fun ⟨i, i1, i2, i3⟩ => ⟨i, i1, by dsimp only at i3; omega⟩⟩) 0 1440 (by omega)
  rw [← e]
  refine sumF_1 r 0 (fun j _ h => ?_)
  have := hr.1 j (by omega)
  unfold ovl
  omega
/-! joining a run to runs -/
section JOIN
variable {r a b : Nat} {F E : Nat → Int} {l h : Int}
/-- where a new run goes: those ahead of a stay, those from a to b are joined to it, those from b on stay -/
def Cut (r a b : Nat) (F E : Nat → Int) (l h : Int) : Prop := a ≤ b ∧ b ≤ r ∧ (∀ j, j < a → E j < l) ∧ (∀ j, a ≤ j → j < b → l ≤ E j ∧ F j ≤ h) ∧ ∀ j, b ≤ j → j < r → h < F j
def lo (a b : Nat) (F : Nat → Int) (l : Int) : Int := if a < b then (if F a < l then F a else l) else l
def hi (a b : Nat) (E : Nat → Int) (h : Int) : Int := if a < b then (if h < E (b - 1) then E (b - 1) else h) else h
def jF (a b : Nat) (F : Nat → Int) (l : Int) : Nat → Int := fun j => if j < a then F j else if j = a then l else F (b + (j - a - 1))
theorem Runs.mono (hr : Runs r F E) {i j : Nat} (hij : i ≤ j) (hj : j < r) : F i ≤ F j ∧ E i ≤ E j := by
  by_cases c : i = j
  · subst c
    exact ⟨Int.le_refl _, Int.le_refl _⟩
  · have h1 := hr.2 i j (by omega) hj
    have h2 := hr.1 i (by omega)
    have h3 := hr.1 j hj
    omega
theorem lo_le (a b : Nat) (F : Nat → Int) (l : Int) : lo a b F l ≤ l := by unfold lo; split <;> (try split) <;> omega
theorem hi_ge (a b : Nat) (E : Nat → Int) (h : Int) : h ≤ hi a b E h := by unfold hi; split <;> (try split) <;> omega
theorem join_runs (hr : Runs r F E) (hc : Cut r a b F E l h) (hl : 0 ≤ l ∧ l < h ∧ h ≤ 1440) : Runs (a + 1 + (r - b)) (jF a b F (lo a b F l)) (jF a b E (hi a b E h)) := by
  obtain ⟨c1, c2, c3, c4, c5⟩ := hc
  have k1 : 0 ≤ lo a b F l := by
    unfold lo
    by_cases c : a < b
    · have := hr.1 a (by omega)
      rw [if_pos c]
      split <;> omega
    · rw [if_neg c]
      omega
  have k2 : hi a b E h ≤ 1440 := by
    unfold hi
    by_cases c : a < b
    · have := hr.1 (b - 1) (by omega)
      rw [if_pos c]
      split <;> omega
    · rw [if_neg c]
      omega
  have k3 := lo_le a b F l
  have k4 := hi_ge a b E h
  have k5 : ∀ j, j < a → E j < lo a b F l := fun j hj => by
    have := c3 j hj
    unfold lo
    by_cases c : a < b
    · have := hr.2 j a hj (by omega)
      rw [if_pos c]
      split <;> omega
    · rw [if_neg c]
      omega
  have k6 : ∀ j, b ≤ j → j < r → hi a b E h < F j := fun j h1 h2 => by
    have := c5 j h1 h2
    unfold hi
    by_cases c : a < b
    · have := hr.2 (b - 1) j (by omega) h2
      rw [if_pos c]
      split <;> omega
    · rw [if_neg c]
      omega
  refine ⟨fun i hi' => ?_, fun i j hij hj => ?_⟩
  · unfold jF
    by_cases d1 : i < a
    · rw [if_pos d1, if_pos d1]
      exact hr.1 i (by omega)
    · rw [if_neg d1, if_neg d1]
      by_cases d2 : i = a
      · rw [if_pos d2, if_pos d2]
        omega
      · rw [if_neg d2, if_neg d2]
        exact hr.1 _ (by omega)
  · unfold jF
    by_cases d1 : i < a
    · rw [if_pos d1]
      by_cases e1 : j < a
      · rw [if_pos e1]
        exact hr.2 i j hij (by omega)
      · rw [if_neg e1]
        by_cases e2 : j = a
        · rw [if_pos e2]
          exact k5 i d1
        · rw [if_neg e2]
          exact hr.2 i _ (by omega) (by omega)
    · rw [if_neg d1]
      by_cases d2 : i = a
      · rw [if_pos d2, if_neg (by omega), if_neg (by omega)]
        exact k6 _ (by omega) (by omega)
      · rw [if_neg d2, if_neg (by omega), if_neg (by omega)]
        exact hr.2 _ _ (by omega) (by omega)
theorem join_in (hr : Runs r F E) (hc : Cut r a b F E l h) (hl : 0 ≤ l ∧ l < h ∧ h ≤ 1440) (m : Int) : inR (jF a b F (lo a b F l)) (jF a b E (hi a b E h)) (a + 1 + (r - b)) m ↔ inR F E r m ∨ l ≤ m ∧ m < h := by
  obtain ⟨c1, c2, c3, c4, c5⟩ := hc
  have k3 := lo_le a b F l
  have k4 := hi_ge a b E h
  constructor
  · rintro ⟨i, i1, i2⟩
    unfold jF at i2
    by_cases d1 : i < a
    · rw [if_pos d1, if_pos d1] at i2
      exact Or.inl ⟨i, by omega, i2⟩
    · rw [if_neg d1, if_neg d1] at i2
      by_cases d2 : i = a
      · rw [if_pos d2, if_pos d2] at i2
        unfold lo hi at i2
        by_cases c : a < b
        · rw [if_pos c, if_pos c] at i2
          have x1 := c4 a (by omega) c
          have x2 := c4 (b - 1) (by omega) (by omega)
          by_cases y1 : l ≤ m ∧ m < h
          · exact Or.inr y1
          · by_cases y2 : m < l
            · refine Or.inl ⟨a, by omega, ?_, by omega⟩
              by_cases z : F a < l
              · rw [if_pos z] at i2
                exact i2.1
              · rw [if_neg z] at i2
                omega
            · refine Or.inl ⟨b - 1, by omega, by omega, ?_⟩
              by_cases z : h < E (b - 1)
              · rw [if_pos z] at i2
                exact i2.2
              · rw [if_neg z] at i2
                omega
        · rw [if_neg c, if_neg c] at i2
          exact Or.inr i2
      · rw [if_neg d2, if_neg d2] at i2
        exact Or.inl ⟨b + (i - a - 1), by omega, i2⟩
  · rintro (⟨i, i1, i2⟩ | y)
    · by_cases d1 : i < a
      · refine ⟨i, by omega, ?_⟩
        unfold jF
        rw [if_pos d1, if_pos d1]
        exact i2
      · by_cases d2 : i < b
        · refine ⟨a, by omega, ?_⟩
          unfold jF
          rw [if_neg (show ¬ a < a by omega), if_pos rfl, if_neg (show ¬ a < a by omega), if_pos rfl]
          have m1 := (hr.mono (i := a) (j := i) (by omega) (by omega)).1
          have m2 := (hr.mono (i := i) (j := b - 1) (by omega) (by omega)).2
          unfold lo hi
          rw [if_pos (show a < b by omega), if_pos (show a < b by omega)]
          constructor
          · split <;> omega
          · split <;> omega
        · refine ⟨a + 1 + (i - b), by omega, ?_⟩
          unfold jF
          rw [if_neg (by omega), if_neg (by omega), if_neg (by omega), if_neg (by omega), show b + (a + 1 + (i - b) - a - 1) = i by omega]
          exact i2
    · refine ⟨a, by omega, ?_⟩
      unfold jF
      rw [if_neg (show ¬ a < a by omega), if_pos rfl, if_neg (show ¬ a < a by omega), if_pos rfl]
      omega
end JOIN
