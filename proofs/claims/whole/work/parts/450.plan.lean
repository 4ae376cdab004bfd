/-! ===== plans: lengths, pruning, the sweep ===== -/
def upT (tr : Nat → Int) (b : Nat) (x : Int) : Nat → Int := fun q => if q = b then x else tr q
theorem upT_b (tr : Nat → Int) (b : Nat) (x : Int) : upT tr b x b = x := if_pos rfl
theorem upT_o {tr : Nat → Int} {b o : Nat} {x : Int} (h : o ≠ b) : upT tr b x o = tr o := if_neg h
theorem lp_rel {α β : Type} {P : α → β → Prop} {f : Nat → α → α} {g : Nat → β → β} : ∀ (m k : Nat) (a : α) (b : β), P a b → (∀ j a b, k ≤ j → j < k + m → P a b → P (f j a) (g j b)) → P (lp f k m a) (lp g k m b) := by
  intro m
  induction m with
  | zero => intro k a b h _; exact h
  | succ m ih =>
    intro k a b h hs
    exact ih (k + 1) _ _ (hs k a b (by omega) (by omega) h) (fun j a b h1 h2 => hs j a b (by omega) (by omega))
theorem anyN_cg {p q : Nat → Bool} : ∀ (m k : Nat), (∀ j, k ≤ j → j < k + m → p j = q j) → anyN p k m = anyN q k m := by
  intro m
  induction m with
  | zero => intro k _; rfl
  | succ m ih =>
    intro k h
    rw [anyN_s, anyN_s, h k (by omega) (by omega), ih (k + 1) (fun j h1 h2 => h j (by omega) (by omega))]
theorem cnt_mono {p q : Nat → Bool} : ∀ (m k : Nat), (∀ j, k ≤ j → j < k + m → p j = true → q j = true) → cnt p k m ≤ cnt q k m := by
  intro m
  induction m with
  | zero => intro k _; exact Int.le_refl _
  | succ m ih =>
    intro k h
    have h0 := h k (by omega) (by omega)
    have h1 := ih (k + 1) (fun j h1 h2 => h j (by omega) (by omega))
    rw [cnt_s, cnt_s]
    cases hp : p k
    · rw [if_neg (by decide)]
      split <;> omega
    · rw [h0 hp, if_pos rfl]
      omega
theorem cnt_full {p : Nat → Bool} : ∀ (m k : Nat), cnt p k m = m → ∀ j, k ≤ j → j < k + m → p j = true := by
  intro m
  induction m with
  | zero => intro k _ j h1 h2; omega
  | succ m ih =>
    intro k h j h1 h2
    have h3 := cnt_r p m (k + 1)
    rw [cnt_s] at h
    cases hp : p k
    · rw [hp, if_neg (by decide)] at h
      omega
    · by_cases c : j = k
      · rw [c]
        exact hp
      · rw [hp, if_pos rfl] at h
        exact ih (k + 1) (by omega) j (by omega) (by omega)
theorem sumF_mono {f g : Nat → Int} : ∀ (m k : Nat), (∀ j, k ≤ j → j < k + m → f j ≤ g j) → sumF f k m ≤ sumF g k m := by
  intro m
  induction m with
  | zero => intro k _; exact Int.le_refl _
  | succ m ih =>
    intro k h
    have h0 := h k (by omega) (by omega)
    have h1 := ih (k + 1) (fun j h1 h2 => h j (by omega) (by omega))
    rw [sumF_s, sumF_s]
    omega
theorem sumF_add (f g : Nat → Int) : ∀ (m k : Nat), sumF (fun j => f j + g j) k m = sumF f k m + sumF g k m := by
  intro m
  induction m with
  | zero => intro k; rfl
  | succ m ih =>
    intro k
    rw [sumF_s, sumF_s, sumF_s, ih (k + 1)]
    omega
theorem sumF_r {f : Nat → Int} {A : Int} (h : ∀ j, 0 ≤ f j ∧ f j ≤ A) : ∀ (m k : Nat), 0 ≤ sumF f k m ∧ sumF f k m ≤ A * m := by
  intro m
  induction m with
  | zero => intro k; exact ⟨Int.le_refl _, by rw [show ((0 : Nat) : Int) = 0 from rfl, Int.mul_zero]; exact Int.le_refl _⟩
  | succ m ih =>
    intro k
    have h0 := h k
    have h1 := ih (k + 1)
    rw [sumF_s, show ((m + 1 : Nat) : Int) = (m : Int) + 1 by omega, Int.mul_add, Int.mul_one]
    omega
def leafS (t tr : Nat → Int) (a : Int × (Nat → Int)) : Int × (Nat → Int) := if a.1 ≠ -1 ∧ a.1 ≤ cloA t tr then a else (cloA t tr, tr)
def seekU (t w : Nat → Int) : List Nat → (Nat → Int) → Int × (Nat → Int) → Int × (Nat → Int)
  | [], tr, a => leafS t tr a
  | b :: os, tr, a => lp (fun k a => if why t w tr b (stA t k) = 0 then seekU t w os (upT tr b (stA t k)) a else a) 0 (nS t) a
def opL (w : Nat → Int) : Nat → Nat → List Nat
  | _, 0 => []
  | b, m + 1 => if tms w b = -1 then b :: opL w (b + 1) m else opL w (b + 1) m
theorem opL_mem (w : Nat → Int) : ∀ (m b o : Nat), o ∈ opL w b m → b ≤ o ∧ o < b + m ∧ tms w o = -1 := by
  intro m
  induction m with
  | zero => intro b o h; cases h
  | succ m ih =>
    intro b o h
    unfold opL at h
    by_cases c : tms w b = -1
    · rw [if_pos c] at h
      rcases List.mem_cons.mp h with rfl | h
      · exact ⟨by omega, by omega, c⟩
      · have := ih (b + 1) o h
        exact ⟨by omega, by omega, this.2.2⟩
    · rw [if_neg c] at h
      have := ih (b + 1) o h
      exact ⟨by omega, by omega, this.2.2⟩
theorem opL_nd (w : Nat → Int) : ∀ (m b : Nat), (opL w b m).Nodup := by
  intro m
  induction m with
  | zero => intro b; exact List.nodup_nil
  | succ m ih =>
    intro b
    unfold opL
    by_cases c : tms w b = -1
    · rw [if_pos c]
      refine List.nodup_cons.mpr ⟨fun h => ?_, ih (b + 1)⟩
      have := (opL_mem w m (b + 1) b h).1
      omega
    · rw [if_neg c]
      exact ih (b + 1)
theorem cov_c {t tr tr' : Nat → Int} (h : ∀ o, o < nB t → tr o = tr' o) (r m : Nat) : cov t tr r m = cov t tr' r m := by
  rw [cov_P, cov_P]
  refine anyN_cg _ _ (fun j _ h2 => ?_)
  unfold covP
  rw [h j (by omega)]
theorem clo_c {t tr tr' : Nat → Int} (h : ∀ o, o < nB t → tr o = tr' o) (r : Nat) : clo t tr r = clo t tr' r := cnt_congr _ _ (fun j _ _ => cov_c h r j)
theorem cloA_c {t tr tr' : Nat → Int} (h : ∀ o, o < nB t → tr o = tr' o) : cloA t tr = cloA t tr' := sumF_congr _ _ (fun j _ _ => clo_c h j)
theorem cloA_r {t : Nat → Int} (hO : TOk t) (tr : Nat → Int) : 0 ≤ cloA t tr ∧ cloA t tr ≤ 8640 := by
  have hn := nR_c hO
  have h := sumF_r (f := clo t tr) (A := 1440) (fun j => clo_r t tr j) (nR t) 0
  unfold cloA
  omega
theorem cloA_mono {t tr : Nat → Int} {b : Nat} (x : Int) (hb : tr b = -1) : cloA t tr ≤ cloA t (upT tr b x) := by
  refine sumF_mono _ _ (fun r _ _ => cnt_mono _ _ (fun m _ _ h => ?_))
  rw [cov_P, anyN_iff] at h ⊢
  obtain ⟨o, o1, o2, o3⟩ := h
  refine ⟨o, o1, o2, ?_⟩
  unfold covP at o3 ⊢
  have hne : o ≠ b := fun e => by
    subst e
    rw [decide_eq_false (fun q => q.1 hb), Bool.false_and] at o3
    cases o3
  rw [upT_o hne]
  exact o3
theorem seekU_prune {t w : Nat → Int} : ∀ (os : List Nat) (tr : Nat → Int) (a : Int × (Nat → Int)), os.Nodup → (∀ b, b ∈ os → tr b = -1) → a.1 ≠ -1 → a.1 ≤ cloA t tr → seekU t w os tr a = a := by
  intro os
  induction os with
  | nil =>
    intro tr a _ _ h1 h2
    unfold seekU leafS
    rw [if_pos ⟨h1, h2⟩]
  | cons b os ih =>
    intro tr a hn hb h1 h2
    have hn2 := List.nodup_cons.mp hn
    unfold seekU
    refine lp_inv (P := fun x => x = a) _ _ _ rfl (fun k x _ _ hx => ?_)
    subst hx
    by_cases c : why t w tr b (stA t k) = 0
    · rw [if_pos c]
      refine ih _ _ hn2.2 (fun o ho => ?_) h1 (Int.le_trans h2 (cloA_mono _ (hb b (List.mem_cons_self ..))))
      rw [upT_o (show o ≠ b from fun e => hn2.1 (by rw [← e]; exact ho))]
      exact hb o (List.mem_cons_of_mem _ ho)
    · rw [if_neg c]
/-- what is found is a full plan -/
def GdT (t w tr : Nat → Int) : Prop := ∀ o, o < nB t → (-1 ≤ tr o ∧ tr o ≤ 1439) ∧ (tms w o ≠ -1 → tr o = tms w o)
def GdA (t w : Nat → Int) (a : Int × (Nat → Int)) : Prop := (-1 ≤ a.1 ∧ a.1 ≤ 8640) ∧ (a.1 ≠ -1 → GdT t w a.2)
theorem seekU_good {t w : Nat → Int} (hO : TOk t) : ∀ (os : List Nat) (tr : Nat → Int) (a : Int × (Nat → Int)), (∀ b, b ∈ os → tms w b = -1) → GdT t w tr → GdA t w a → GdA t w (seekU t w os tr a) := by
  intro os
  induction os with
  | nil =>
    intro tr a _ h1 h2
    unfold seekU leafS
    split
    · exact h2
    · have := cloA_r hO tr
      exact ⟨by dsimp only; omega, fun _ => h1⟩
  | cons b os ih =>
    intro tr a hb h1 h2
    unfold seekU
    refine lp_inv (P := GdA t w) _ _ _ h2 (fun k x _ hk hx => ?_)
    by_cases c : why t w tr b (stA t k) = 0
    · rw [if_pos c]
      refine ih _ _ (fun o ho => hb o (List.mem_cons_of_mem _ ho)) (fun o ho => ?_) hx
      have hs := stA_r hO (k := k) (by omega)
      by_cases e : o = b
      · subst e
        rw [upT_b]
        exact ⟨by omega, fun q => absurd (hb o (List.mem_cons_self ..)) q⟩
      · rw [upT_o e]
        exact h1 o ho
    · rw [if_neg c]
      exact hx
def Req (t : Nat → Int) (a a' : Int × (Nat → Int)) : Prop := a.1 = a'.1 ∧ (a.1 ≠ -1 → ∀ o, o < nB t → a.2 o = a'.2 o)
theorem why_0 {t w tm : Nat → Int} {b : Nat} {x : Int} : why t w tm b x = 0 ↔ (¬ (x < t 3 ∨ t 4 < x) ∧ anyN (tst t w b) 0 (nN t) = false ∧ anyN (fun n => still t n x && heard t b n) 0 (nN t) = false ∧ anyN (isD t b (x / 60).toNat) 0 (nN t) = false) ∧ crowd t tm b x = false := by
  unfold why
  by_cases c1 : x < t 3 ∨ t 4 < x
  · rw [if_pos c1]
    exact ⟨fun h => by omega, fun h => absurd c1 h.1.1⟩
  · rw [if_neg c1]
    cases h2 : anyN (tst t w b) 0 (nN t)
    · rw [if_neg (by decide)]
      cases h3 : anyN (fun n => still t n x && heard t b n) 0 (nN t)
      · rw [if_neg (by decide)]
        cases h4 : anyN (isD t b (x / 60).toNat) 0 (nN t)
        · rw [if_neg (by decide)]
          cases h5 : crowd t tm b x
          · rw [if_neg (by decide)]
            exact ⟨fun _ => ⟨⟨c1, rfl, rfl, rfl⟩, rfl⟩, fun _ => rfl⟩
          · rw [if_pos rfl]
            exact ⟨fun h => by omega, fun h => by cases h.2⟩
        · rw [if_pos rfl]
          exact ⟨fun h => by omega, fun h => by cases h.1.2.2.2⟩
      · rw [if_pos rfl]
        exact ⟨fun h => by omega, fun h => by cases h.1.2.2.1⟩
    · rw [if_pos rfl]
      exact ⟨fun h => by omega, fun h => by cases h.1.2.1⟩
/-- times tried so far by the reference (tr) and by the class (tl), with blasts from b on still to come -/
def Rel (t w : Nat → Int) (b : Nat) (tr tl : Nat → Int) : Prop := ∀ o, o < nB t → (o < b → tl o = tr o ∧ tr o ≠ -1 ∧ (tms w o ≠ -1 → tr o = tms w o)) ∧ (b ≤ o → tl o = tms w o)
theorem crowd_split {t w tr tl : Nat → Int} {b : Nat} (hb : b < nB t) (h : Rel t w b tr tl) (x : Int) : crowd t tl b x = false ↔ crowd t (tms w) b x = false ∧ anyN (fun o => decide (tms w o = -1 ∧ (if tr o - x < 0 then -(tr o - x) else tr o - x) < t 8)) 0 b = false := by
  unfold crowd
  rw [← Bool.not_eq_true, ← Bool.not_eq_true, ← Bool.not_eq_true, anyN_iff, anyN_iff, anyN_iff, ← not_or]
  refine not_congr ⟨fun ⟨o, _, o2, o3⟩ => ?_, fun q => ?_⟩
  · obtain ⟨p1, p2, p3⟩ := of_decide_eq_true o3
    obtain ⟨r1, r2⟩ := h o (by omega)
    by_cases c : o < b
    · obtain ⟨s1, s2, s3⟩ := r1 c
      by_cases d : tms w o = -1
      · exact Or.inr ⟨o, by omega, by omega, decide_eq_true ⟨d, by rw [← s1]; exact p3⟩⟩
      · refine Or.inl ⟨o, by omega, by omega, decide_eq_true ⟨p1, d, ?_⟩⟩
        rw [← s3 d, ← s1]
        exact p3
    · have e := r2 (by omega)
      rw [e] at p2 p3
      exact Or.inl ⟨o, by omega, by omega, decide_eq_true ⟨p1, p2, p3⟩⟩
  · rcases q with ⟨o, _, o2, o3⟩ | ⟨o, _, o2, o3⟩
    · obtain ⟨p1, p2, p3⟩ := of_decide_eq_true o3
      obtain ⟨r1, r2⟩ := h o (by omega)
      have e : tl o = tms w o := by
        by_cases c : o < b
        · obtain ⟨s1, s2, s3⟩ := r1 c
          rw [s1, s3 p2]
        · exact r2 (by omega)
      exact ⟨o, by omega, o2, decide_eq_true ⟨p1, by rw [e]; exact p2, by rw [e]; exact p3⟩⟩
    · obtain ⟨p1, p2⟩ := of_decide_eq_true o3
      obtain ⟨s1, s2, s3⟩ := (h o (by omega)).1 (by omega)
      exact ⟨o, by omega, by omega, decide_eq_true ⟨by omega, by rw [s1]; exact s2, by rw [s1]; exact p2⟩⟩
theorem seek_U {t w : Nat → Int} (hO : TOk t) : ∀ (m b : Nat) (tr tl : Nat → Int) (a a' : Int × (Nat → Int)), b + m = nB t → Rel t w b tr tl → Req t a a' → Req t (seekS t w m b tr a) (seekU t w (opL w b m) tl a') := by
  intro m
  induction m with
  | zero =>
    intro b tr tl a a' hb h hq
    have e : cloA t tr = cloA t tl := cloA_c (fun o ho => ((h o ho).1 (by omega)).1.symm)
    unfold seekS opL seekU leafS
    rw [← e, ← hq.1]
    by_cases c : a.1 ≠ -1 ∧ a.1 ≤ cloA t tr
    · rw [if_pos c, if_pos c]
      exact hq
    · rw [if_neg c, if_neg c]
      exact ⟨rfl, fun _ o ho => ((h o ho).1 (by omega)).1.symm⟩
  | succ m ih =>
    intro b tr tl a a' hb h hq
    unfold seekS opL
    by_cases c : tms w b = -1
    · rw [if_neg (fun q => q c), if_pos c]
      unfold seekU
      refine lp_rel (P := Req t) _ _ _ _ hq (fun k x y _ hk hxy => ?_)
      have hs := stA_r hO (k := k) (by omega)
      have hc := crowd_split (by omega) h (stA t k)
      have hcond : why t w (tms w) b (stA t k) = 0 ∧ anyN (fun o => decide (tms w o = -1 ∧ (if tr o - stA t k < 0 then -(tr o - stA t k) else tr o - stA t k) < t 8)) 0 b = false ↔ why t w tl b (stA t k) = 0 := by
        rw [why_0, why_0, hc]
        exact and_assoc
      by_cases d : why t w tl b (stA t k) = 0
      · rw [if_pos d, if_pos (hcond.mpr d)]
        refine ih (b + 1) _ _ _ _ (by omega) (fun o ho => ⟨fun q => ?_, fun q => ?_⟩) hxy
        · by_cases e : o = b
          · subst e
            refine ⟨(upT_b _ _ _).trans (if_pos rfl).symm, ?_, fun z => absurd c z⟩
            rw [if_pos rfl]
            omega
          · rw [upT_o e, if_neg e]
            exact (h o ho).1 (by omega)
        · rw [upT_o (by omega)]
          exact (h o ho).2 (by omega)
      · rw [if_neg d, if_neg (fun q => d (hcond.mp q))]
        exact hxy
    · rw [if_pos c, if_neg c]
      refine ih (b + 1) _ _ _ _ (by omega) (fun o ho => ⟨fun q => ?_, fun q => (h o ho).2 (by omega)⟩) hq
      by_cases e : o = b
      · subst e
        rw [if_pos rfl]
        exact ⟨(h o ho).2 (by omega), c, fun _ => rfl⟩
      · rw [if_neg e]
        exact (h o ho).1 (by omega)
/-- what the class finds -/
def plU (t w : Nat → Int) : Int × (Nat → Int) := seekU t w (opL w 0 (nB t)) (tms w) (-1, tms w)
theorem plU_g {t w : Nat → Int} (hO : TOk t) (hW : WOk t w) : GdA t w (plU t w) := by
  have hB := nB_c hO
  refine seekU_good hO _ _ _ (fun b hb => (opL_mem w _ _ b hb).2.2) (fun o ho => ⟨(hW o (by omega)).1, fun _ => rfl⟩) ⟨by dsimp only; omega, fun q => absurd rfl q⟩
theorem plU_S {t w : Nat → Int} (hO : TOk t) (hW : WOk t w) : (plS t w).1 = (plU t w).1 ∧ ((plU t w).1 ≠ -1 → ∀ o, o < nB t → (plS t w).2 o = (plU t w).2 o) := by
  have h := seek_U (t := t) (w := w) hO (nB t) 0 (fun _ => -1) (tms w) (-1, fun _ => -1) (-1, tms w) (by omega) (fun o ho => ⟨fun q => by omega, fun _ => rfl⟩) ⟨rfl, fun q => absurd rfl q⟩
  have hm : ∀ b, b ∈ opL w 0 (nB t) → tms w b = -1 := fun b hb => (opL_mem w _ _ b hb).2.2
  refine ⟨h.1, fun hne o ho => ?_⟩
  have h1 : (seekS t w (nB t) 0 (fun _ => -1) (-1, fun _ => -1)).1 ≠ -1 := fun q => hne (h.1.symm.trans q)
  have h2 := h.2 h1 o ho
  show (if tms w o ≠ -1 then tms w o else if (seekS t w (nB t) 0 (fun _ => -1) (-1, fun _ => -1)).1 = -1 then -1 else (seekS t w (nB t) 0 (fun _ => -1) (-1, fun _ => -1)).2 o) = _
  rw [if_neg h1]
  by_cases c : tms w o = -1
  · rw [if_neg (fun q => q c)]
    exact h2
  · rw [if_pos c]
    exact (((plU_g hO hW).2 hne o ho).2 c).symm
/-! what one more blast closes -/
def ncS (t tr : Nat → Int) (r : Nat) (x : Int) : Nat → Int × Int → Int × Int := fun i a => if tr i = -1 ∨ shut t i r = false then a else if x < tr i then (a.1, if cF t (tr i) < a.2 then cF t (tr i) else a.2) else (mx a.1 (cE t (tr i)), a.2)
def ncP (t tr : Nat → Int) (r : Nat) (x : Int) : Int × Int := lp (ncS t tr r x) 0 (nB t) (cF t x, cE t x)
def ncO (t tr : Nat → Int) (r : Nat) (x : Int) : Int := mx 0 ((ncP t tr r x).2 - (ncP t tr r x).1)
theorem cF_m (t : Nat → Int) {x y : Int} (h : x ≤ y) : cF t x ≤ cF t y := by unfold cF; omega
theorem cE_m (t : Nat → Int) {x y : Int} (h : x ≤ y) : cE t x ≤ cE t y := by unfold cE; omega
theorem ncP_inv {t tr : Nat → Int} (hO : TOk t) (htr : ∀ o, o < nB t → -1 ≤ tr o ∧ tr o ≤ 1439) {r : Nat} {x : Int} (hx : 0 ≤ x ∧ x ≤ 1439) : (cF t x ≤ (ncP t tr r x).1 ∧ (ncP t tr r x).1 ≤ 1440 ∧ 0 ≤ (ncP t tr r x).2 ∧ (ncP t tr r x).2 ≤ cE t x) ∧ ∀ m : Nat, cF t x ≤ m → (m : Int) < cE t x → ((ncP t tr r x).1 ≤ m ∧ (m : Int) < (ncP t tr r x).2 ↔ ∀ i, i < nB t → covP t tr r m i = false) := by
  have hF := cF_r hO hx
  have hE := cE_r hO hx
  have p := lp_invI (P := fun j (a : Int × Int) => (cF t x ≤ a.1 ∧ a.1 ≤ 1440 ∧ 0 ≤ a.2 ∧ a.2 ≤ cE t x) ∧ (j ≤ nB t → ∀ m : Nat, cF t x ≤ m → (m : Int) < cE t x → (a.1 ≤ m ∧ (m : Int) < a.2 ↔ ∀ i, i < j → covP t tr r m i = false))) (f := ncS t tr r x) (nB t) 0 (cF t x, cE t x) ⟨⟨Int.le_refl _, by dsimp only; omega, hE.1, Int.le_refl _⟩, fun _ m h1 h2 => ⟨fun _ i hi => by omega, fun _ => ⟨h1, h2⟩⟩⟩ (fun j a _ hj ⟨⟨p1, p2, p3, p4⟩, p5⟩ => by
    have hz := htr j (by omega)
    have split : ∀ (q : Prop) (m : Nat), (q ↔ ((∀ i, i < j → covP t tr r m i = false) ∧ covP t tr r m j = false)) → (q ↔ ∀ i, i < j + 1 → covP t tr r m i = false) := fun q m hq => by
      rw [hq]
      refine ⟨fun ⟨h1, h2⟩ i hi => ?_, fun h => ⟨fun i hi => h i (by omega), h j (by omega)⟩⟩
      by_cases e : i = j
      · rw [e]
        exact h2
      · exact h1 i (by omega)
    unfold ncS
    by_cases c : tr j = -1 ∨ shut t j r = false
    · rw [if_pos c]
      refine ⟨⟨p1, p2, p3, p4⟩, fun hjn m h1 h2 => split _ m ?_⟩
      rw [p5 (by omega) m h1 h2]
      have : covP t tr r m j = false := by
        unfold covP
        rcases c with c | c
        · rw [decide_eq_false (fun q => q.1 c), Bool.false_and]
        · rw [c, Bool.and_false]
      exact ⟨fun q => ⟨q, this⟩, fun q => q.1⟩
    · have c1 : tr j ≠ -1 := fun q => c (Or.inl q)
      have c2 : shut t j r = true := by
        cases hs : shut t j r
        · exact absurd (Or.inr hs) c
        · rfl
      have hFj := cF_r hO (x := tr j) (by omega)
      have hEj := cE_r hO (x := tr j) (by omega)
      have hcov : ∀ m : Nat, (covP t tr r m j = false ↔ ¬ (cF t (tr j) ≤ m ∧ (m : Int) < cE t (tr j))) := fun m => by
        unfold covP
        rw [c2, Bool.and_true, decide_eq_false_iff_not]
        exact ⟨fun q z => q ⟨c1, z⟩, fun q z => q z.2⟩
      rw [if_neg c]
      by_cases d : x < tr j
      · rw [if_pos d]
        have m1 := cF_m t (x := x) (y := tr j) (by omega)
        have m2 := cE_m t (x := x) (y := tr j) (by omega)
        refine ⟨⟨p1, p2, by dsimp only; split <;> omega, by dsimp only; split <;> omega⟩, fun hjn m h1 h2 => split _ m ?_⟩
        rw [← p5 (by omega) m h1 h2, hcov]
        dsimp only
        by_cases e : cF t (tr j) < a.2
        · rw [if_pos e]
          omega
        · rw [if_neg e]
          omega
      · rw [if_neg d]
        have m1 := cF_m t (x := tr j) (y := x) (by omega)
        have m2 := cE_m t (x := tr j) (y := x) (by omega)
        unfold mx
        refine ⟨⟨by dsimp only; split <;> omega, by dsimp only; split <;> omega, p3, p4⟩, fun hjn m h1 h2 => split _ m ?_⟩
        rw [← p5 (by omega) m h1 h2, hcov]
        dsimp only
        by_cases e : a.1 < cE t (tr j)
        · rw [if_pos e]
          omega
        · rw [if_neg e]
          omega)
  rw [Nat.zero_add] at p
  exact ⟨p.1, p.2 (Nat.le_refl _)⟩
theorem clo_add {t tr : Nat → Int} (hO : TOk t) (htr : ∀ o, o < nB t → -1 ≤ tr o ∧ tr o ≤ 1439) {b r : Nat} {x : Int} (hx : 0 ≤ x ∧ x ≤ 1439) (hb : b < nB t) (hbt : tr b = -1) : clo t (upT tr b x) r = clo t tr r + (if shut t b r then ncO t tr r x else 0) := by
  have hcb : ∀ m, covP t tr r m b = false := fun m => by
    unfold covP
    rw [decide_eq_false (fun q => q.1 hbt), Bool.false_and]
  cases hs : shut t b r
  · rw [if_neg (by decide), Int.add_zero]
    refine cnt_congr _ _ (fun m _ _ => ?_)
    rw [cov_P, cov_P]
    refine anyN_cg _ _ (fun o _ _ => ?_)
    by_cases e : o = b
    · subst e
      rw [hcb]
      unfold covP
      rw [hs, Bool.and_false]
    · unfold covP
      rw [upT_o e]
  · obtain ⟨⟨p1, p2, p3, p4⟩, p5⟩ := ncP_inv hO htr (r := r) hx
    have hF := cF_r hO hx
    have hE := cE_r hO hx
    have e1 : ncO t tr r x = ovl 0 1440 (ncP t tr r x).1 (ncP t tr r x).2 := by
      unfold ncO ovl mx
      omega
    have e2 := cnt_iv (ncP t tr r x).1 (ncP t tr r x).2 1440 0
    rw [if_pos rfl, e1]
    have e2 : cnt (fun j => decide ((ncP t tr r x).1 ≤ (j : Int) ∧ (j : Int) < (ncP t tr r x).2)) 0 1440 = ovl 0 1440 (ncP t tr r x).1 (ncP t tr r x).2 := e2
    rw [← e2]
    unfold clo
    rw [← cnt_or]
    · refine cnt_congr _ _ (fun m _ _ => ?_)
      rw [Bool.eq_iff_iff, Bool.or_eq_true, cov_P, cov_P, anyN_iff, anyN_iff, decide_eq_true_eq]
      constructor
      · rintro ⟨o, o1, o2, o3⟩
        by_cases e : o = b
        · subst e
          unfold covP at o3
          rw [upT_b, hs, Bool.and_true, decide_eq_true_eq] at o3
          by_cases z : ∃ i, 0 ≤ i ∧ i < 0 + nB t ∧ covP t tr r m i = true
          · exact Or.inl z
          · refine Or.inr ((p5 m o3.2.1 o3.2.2).mpr (fun i hi => ?_))
            cases hz : covP t tr r m i
            · rfl
            · exact absurd ⟨i, by omega, by omega, hz⟩ z
        · refine Or.inl ⟨o, o1, o2, ?_⟩
          unfold covP at o3 ⊢
          rw [upT_o e] at o3
          exact o3
      · rintro (⟨o, o1, o2, o3⟩ | q)
        · refine ⟨o, o1, o2, ?_⟩
          by_cases e : o = b
          · subst e
            rw [hcb] at o3
            cases o3
          · unfold covP at o3 ⊢
            rw [upT_o e]
            exact o3
        · refine ⟨b, by omega, by omega, ?_⟩
          unfold covP
          rw [upT_b, hs, Bool.and_true, decide_eq_true_eq]
          omega
    · intro m _ _ ⟨h1, h2⟩
      have h2 := of_decide_eq_true h2
      rw [cov_P, anyN_iff] at h1
      obtain ⟨o, o1, o2, o3⟩ := h1
      have := (p5 m (by omega) (by omega)).mp h2 o (by omega)
      rw [this] at o3
      cases o3
def ncA (t tr : Nat → Int) (b : Nat) (x : Int) : Int := sumF (fun r => if shut t b r then ncO t tr r x else 0) 0 (nR t)
theorem cloA_add {t tr : Nat → Int} (hO : TOk t) (htr : ∀ o, o < nB t → -1 ≤ tr o ∧ tr o ≤ 1439) {b : Nat} {x : Int} (hx : 0 ≤ x ∧ x ≤ 1439) (hb : b < nB t) (hbt : tr b = -1) : cloA t (upT tr b x) = cloA t tr + ncA t tr b x := by
  unfold cloA ncA
  rw [← sumF_add]
  exact sumF_congr _ _ (fun r _ _ => clo_add hO htr hx hb hbt)
/-! the sweep -/
def tky (tr : Nat → Int) (b : Nat) : Int := 6 * tr b + b
def fdS (t tr : Nat → Int) (r : Nat) (last : Int) : Nat → Int → Int := fun b a => if shut t b r = true ∧ last < tky tr b ∧ (a = -1 ∨ tky tr b < tky tr a.toNat) then (b : Int) else a
def fd (t tr : Nat → Int) (r : Nat) (last : Int) : Int := lp (fdS t tr r last) 0 (nB t) (-1)
theorem fd_p (t tr : Nat → Int) (r : Nat) (last : Int) : (fd t tr r last = -1 ∧ ∀ b, b < nB t → shut t b r = true → tky tr b ≤ last) ∨ ∃ c : Nat, fd t tr r last = (c : Int) ∧ c < nB t ∧ shut t c r = true ∧ last < tky tr c ∧ ∀ b, b < nB t → shut t b r = true → last < tky tr b → tky tr c ≤ tky tr b := by
  have p := lp_invI (P := fun j (a : Int) => (a = -1 ∧ ∀ b, b < j → shut t b r = true → tky tr b ≤ last) ∨ ∃ c : Nat, a = (c : Int) ∧ c < j ∧ shut t c r = true ∧ last < tky tr c ∧ ∀ b, b < j → shut t b r = true → last < tky tr b → tky tr c ≤ tky tr b) (f := fdS t tr r last) (nB t) 0 (-1) (Or.inl ⟨rfl, fun b hb => by omega⟩) (fun j a _ _ q => by
    unfold fdS
    by_cases c : shut t j r = true ∧ last < tky tr j ∧ (a = -1 ∨ tky tr j < tky tr a.toNat)
    · rw [if_pos c]
      refine Or.inr ⟨j, rfl, by omega, c.1, c.2.1, fun b hb h1 h2 => ?_⟩
      by_cases e : b = j
      · rw [e]
        exact Int.le_refl _
      · rcases q with ⟨q1, q2⟩ | ⟨d, q1, q2, q3, q4, q5⟩
        · have := q2 b (by omega) h1
          omega
        · have := q5 b (by omega) h1 h2
          rcases c.2.2 with z | z
          · omega
          · rw [q1] at z
            have z : tky tr j < tky tr d := z
            omega
    · rw [if_neg c]
      rcases q with ⟨q1, q2⟩ | ⟨d, q1, q2, q3, q4, q5⟩
      · refine Or.inl ⟨q1, fun b hb h1 => ?_⟩
        by_cases e : b = j
        · subst e
          exact Int.le_of_not_gt (fun z => c ⟨h1, z, Or.inl q1⟩)
        · exact q2 b (by omega) h1
      · refine Or.inr ⟨d, q1, by omega, q3, q4, fun b hb h1 h2 => ?_⟩
        by_cases e : b = j
        · subst e
          refine Int.le_of_not_gt (fun z => c ⟨h1, h2, Or.inr ?_⟩)
          rw [q1]
          exact z
        · exact q5 b (by omega) h1 h2)
  rw [Nat.zero_add] at p
  exact p
def TI (t tr : Nat → Int) (r n : Nat) (sum e last : Int) : Prop := sum = cnt (fun m => anyN (fun b => decide (tky tr b ≤ last ∧ cF t (tr b) ≤ (m : Int) ∧ (m : Int) < cE t (tr b)) && shut t b r) 0 (nB t)) 0 1440 ∧ ((0 ≤ e ∧ e ≤ 1440) ∧ ∀ m : Nat, ((m : Int) < e ↔ ∃ b, b < nB t ∧ shut t b r = true ∧ tky tr b ≤ last ∧ (m : Int) < cE t (tr b))) ∧ cnt (fun b => decide (tky tr b ≤ last) && shut t b r) 0 (nB t) = n ∧ -1 ≤ last ∧ last ≤ 100000
theorem tky_inj {t tr : Nat → Int} (hB : nB t ≤ 6) {b c : Nat} (hb : b < nB t) (hc : c < nB t) (h : tky tr b = tky tr c) : b = c := by
  unfold tky at h
  omega
theorem TI_0 {t tr : Nat → Int} (htr : ∀ o, o < nB t → 0 ≤ tr o ∧ tr o ≤ 1439) (r : Nat) : TI t tr r 0 0 0 (-1) := by
  have hk : ∀ b, b < nB t → ¬ tky tr b ≤ -1 := fun b hb => by
    have := htr b hb
    unfold tky
    omega
  refine ⟨?_, ⟨by omega, fun m => ⟨fun h => by omega, fun ⟨b, b1, _, b3, _⟩ => absurd b3 (hk b b1)⟩⟩, ?_, by omega⟩
  · refine ((cnt_congr (q := fun _ => false) _ _ (fun m _ _ => ?_)).trans (cnt_f _ _)).symm
    rw [← Bool.not_eq_true, anyN_iff]
    rintro ⟨b, _, b2, b3⟩
    rw [Bool.and_eq_true] at b3
    exact hk b (by omega) (of_decide_eq_true b3.1).1
  · refine (cnt_congr (q := fun _ => false) _ _ (fun b _ b2 => ?_)).trans (cnt_f _ _)
    rw [decide_eq_false (hk b (by omega)), Bool.false_and]
theorem TI_all {t tr : Nat → Int} (htr : ∀ o, o < nB t → 0 ≤ tr o ∧ tr o ≤ 1439) {r n : Nat} {sum e last : Int} (h : TI t tr r n sum e last) (hall : ∀ b, b < nB t → shut t b r = true → tky tr b ≤ last) : sum = clo t tr r := by
  rw [h.1]
  refine cnt_congr _ _ (fun m _ _ => ?_)
  rw [cov_P]
  refine anyN_cg _ _ (fun b _ b2 => ?_)
  have := htr b (by omega)
  unfold covP
  cases hs : shut t b r
  · rw [Bool.and_false, Bool.and_false]
  · rw [Bool.and_true, Bool.and_true, Bool.eq_iff_iff, decide_eq_true_eq, decide_eq_true_eq]
    exact ⟨fun q => ⟨by omega, q.2⟩, fun q => ⟨hall b (by omega) hs, q.2⟩⟩
theorem TI_n {t tr : Nat → Int} {r : Nat} {sum e last : Int} (h : TI t tr r (nB t) sum e last) : ∀ b, b < nB t → shut t b r = true → tky tr b ≤ last := fun b hb _ => by
  have := cnt_full _ _ h.2.2.1 b (by omega) (by omega)
  rw [Bool.and_eq_true] at this
  exact of_decide_eq_true this.1
theorem TI_s {t tr : Nat → Int} (hO : TOk t) (htr : ∀ o, o < nB t → 0 ≤ tr o ∧ tr o ≤ 1439) {r n c : Nat} {sum e last : Int} (h : TI t tr r n sum e last) (hc : c < nB t) (h1 : shut t c r = true) (h2 : last < tky tr c) (h3 : ∀ b, b < nB t → shut t b r = true → last < tky tr b → tky tr c ≤ tky tr b) : TI t tr r (n + 1) (sum + mx 0 (cE t (tr c) - mx e (tr c - t 6))) (mx e (cE t (tr c))) (tky tr c) := by
  have hB := nB_c hO
  obtain ⟨i1, ⟨i2, i3⟩, i4, i5⟩ := h
  have hz := htr c hc
  have h6 := hO.2.2.2.2.2.1
  have hF := cF_r hO (x := tr c) (by omega)
  have hE := cE_r hO (x := tr c) (by omega)
  have hiff : ∀ b, b < nB t → shut t b r = true → (tky tr b ≤ tky tr c ↔ tky tr b ≤ last ∨ b = c) := fun b hb hs => by
    constructor
    · intro q
      by_cases z : last < tky tr b
      · exact Or.inr (tky_inj (tr := tr) hB.2 hb hc (by have := h3 b hb hs z; omega))
      · exact Or.inl (by omega)
    · rintro (q | q)
      · omega
      · rw [q]
        exact Int.le_refl _
  have hmono : ∀ b, b < nB t → tky tr b ≤ last → tr b ≤ tr c := fun b hb q => by
    have : tky tr b < tky tr c := by omega
    unfold tky at this
    omega
  refine ⟨?_, ⟨by unfold mx; split <;> omega, fun m => ?_⟩, ?_, ?_⟩
  · have e1 : mx 0 (cE t (tr c) - mx e (tr c - t 6)) = cnt (fun j => decide (mx e (cF t (tr c)) ≤ (j : Int) ∧ (j : Int) < cE t (tr c))) 0 1440 := by
      have e2 : cnt (fun j => decide (mx e (cF t (tr c)) ≤ (j : Int) ∧ (j : Int) < cE t (tr c))) 0 1440 = ovl 0 1440 (mx e (cF t (tr c))) (cE t (tr c)) := cnt_iv _ _ 1440 0
      rw [e2]
      unfold ovl mx cF
      omega
    rw [i1, e1, ← cnt_or]
    · refine cnt_congr _ _ (fun m _ _ => ?_)
      rw [Bool.eq_iff_iff, Bool.or_eq_true, anyN_iff, anyN_iff, decide_eq_true_eq]
      constructor
      · rintro (⟨b, b1, b2, b3⟩ | q)
        · rw [Bool.and_eq_true] at b3
          obtain ⟨b4, b5⟩ := b3
          have b4 := of_decide_eq_true b4
          refine ⟨b, b1, b2, ?_⟩
          rw [b5, Bool.and_true, decide_eq_true_eq]
          exact ⟨by omega, b4.2⟩
        · refine ⟨c, by omega, by omega, ?_⟩
          rw [h1, Bool.and_true, decide_eq_true_eq]
          refine ⟨Int.le_refl _, ?_, q.2⟩
          have := q.1
          unfold mx at this
          split at this <;> omega
      · rintro ⟨b, b1, b2, b3⟩
        rw [Bool.and_eq_true] at b3
        obtain ⟨b4, b5⟩ := b3
        have b4 := of_decide_eq_true b4
        rcases (hiff b (by omega) b5).mp b4.1 with q | q
        · refine Or.inl ⟨b, b1, b2, ?_⟩
          rw [b5, Bool.and_true, decide_eq_true_eq]
          exact ⟨q, b4.2⟩
        · subst q
          by_cases z : (m : Int) < e
          · obtain ⟨d, d1, d2, d3, d4⟩ := (i3 m).mp z
            refine Or.inl ⟨d, by omega, by omega, ?_⟩
            rw [d2, Bool.and_true, decide_eq_true_eq]
            refine ⟨d3, ?_, d4⟩
            have := cF_m t (hmono d d1 d3)
            omega
          · refine Or.inr ⟨?_, b4.2.2⟩
            unfold mx
            split <;> omega
    · intro m _ _ ⟨q1, q2⟩
      have q2 := of_decide_eq_true q2
      rw [anyN_iff] at q1
      obtain ⟨b, b1, b2, b3⟩ := q1
      rw [Bool.and_eq_true] at b3
      have b4 := of_decide_eq_true b3.1
      have := (i3 m).mpr ⟨b, by omega, b3.2, b4.1, b4.2.2⟩
      have q3 := q2.1
      unfold mx at q3
      split at q3 <;> omega
  · have e1 : (m : Int) < mx e (cE t (tr c)) ↔ (m : Int) < e ∨ (m : Int) < cE t (tr c) := by
      unfold mx
      split <;> omega
    rw [e1, i3]
    constructor
    · rintro (⟨b, b1, b2, b3, b4⟩ | q)
      · exact ⟨b, b1, b2, by omega, b4⟩
      · exact ⟨c, hc, h1, Int.le_refl _, q⟩
    · rintro ⟨b, b1, b2, b3, b4⟩
      rcases (hiff b b1 b2).mp b3 with q | q
      · exact Or.inl ⟨b, b1, b2, q, b4⟩
      · subst q
        exact Or.inr b4
  · have e1 : cnt (fun b => decide (tky tr b ≤ tky tr c) && shut t b r) 0 (nB t) = cnt (fun b => (decide (tky tr b ≤ last) && shut t b r) || decide ((c : Int) ≤ (b : Int) ∧ (b : Int) < (c : Int) + 1)) 0 (nB t) := by
      refine cnt_congr _ _ (fun b _ b2 => ?_)
      by_cases q : b = c
      · subst q
        rw [h1, decide_eq_true (Int.le_refl _), decide_eq_true (show (b : Int) ≤ (b : Int) ∧ (b : Int) < (b : Int) + 1 by omega), Bool.or_true]
        rfl
      · rw [decide_eq_false (show ¬ ((c : Int) ≤ (b : Int) ∧ (b : Int) < (c : Int) + 1) by omega), Bool.or_false]
        cases hs : shut t b r
        · rw [Bool.and_false, Bool.and_false]
        · rw [Bool.and_true, Bool.and_true, Bool.eq_iff_iff, decide_eq_true_eq, decide_eq_true_eq, hiff b (by omega) hs]
          exact ⟨fun z => z.resolve_right q, Or.inl⟩
    rw [e1, cnt_or, i4, cnt_iv]
    · unfold ovl
      omega
    · intro b _ _ ⟨q1, q2⟩
      have q2 := of_decide_eq_true q2
      rw [Bool.and_eq_true] at q1
      have q1 := of_decide_eq_true q1.1
      have : b = c := by omega
      subst this
      omega
  · unfold tky
    omega
