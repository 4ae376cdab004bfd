/-! ===== sums, windows, vibration ===== -/
theorem or_z (x : Int32) : x ||| (0 : Int32) = x := Int32.or_zero
theorem iI_ite {p : Prop} [Decidable p] (a b : Int) : (if p then iI a else iI b) = iI (if p then a else b) := by
  by_cases h : p
  · rw [if_pos h, if_pos h]
  · rw [if_neg h, if_neg h]
theorem iI_minL {a b : Int} (h : (-2147483648 ≤ a ∧ a ≤ 2147483647) ∧ -2147483648 ≤ b ∧ b ≤ 2147483647) : (if iI a < iI b then iI a else iI b) = iI (if a < b then a else b) := by
  by_cases c : a < b
  · rw [if_pos ((iI_lt h).mpr c), if_pos c]
  · rw [if_neg (fun q => c ((iI_lt h).mp q)), if_neg c]
theorem iI_maxR {a b : Int} (h : (-2147483648 ≤ a ∧ a ≤ 2147483647) ∧ -2147483648 ≤ b ∧ b ≤ 2147483647) : (if iI a < iI b then iI b else iI a) = iI (mx a b) := by
  unfold mx
  by_cases c : a < b
  · rw [if_pos ((iI_lt h).mpr c), if_pos c]
  · rw [if_neg (fun q => c ((iI_lt h).mp q)), if_neg c]
theorem lp_inv {α : Type} {P : α → Prop} {f : Nat → α → α} : ∀ (m k : Nat) (a : α), P a → (∀ j a, k ≤ j → j < k + m → P a → P (f j a)) → P (lp f k m a) := by
  intro m
  induction m with
  | zero => intro k a h _; exact h
  | succ m ih => intro k a h hs; exact ih (k + 1) _ (hs k a (by omega) (by omega) h) (fun j a h1 h2 => hs j a (by omega) (by omega))
theorem lp_invI {α : Type} {P : Nat → α → Prop} {f : Nat → α → α} : ∀ (m k : Nat) (a : α), P k a → (∀ j a, k ≤ j → j < k + m → P j a → P (j + 1) (f j a)) → P (k + m) (lp f k m a) := by
  intro m
  induction m with
  | zero => intro k a h _; exact h
  | succ m ih =>
    intro k a h hs
    have := ih (k + 1) _ (hs k a (by omega) (by omega) h) (fun j a h1 h2 => hs j a (by omega) (by omega))
    rw [show k + 1 + m = k + (m + 1) by omega] at this
    exact this
theorem lp_congr {α : Type} {f g : Nat → α → α} : ∀ (m k : Nat) (a : α), (∀ j a, k ≤ j → j < k + m → f j a = g j a) → lp f k m a = lp g k m a := by
  intro m
  induction m with
  | zero => intro k a _; rfl
  | succ m ih =>
    intro k a h
    rw [lp_s, lp_s, h k a (by omega) (by omega)]
    exact ih (k + 1) _ (fun j a h1 h2 => h j a (by omega) (by omega))
/-- a window, over any delays -/
def fromG (t : Nat → Int) (b : Nat) (dd : Nat → Int) (d : Int) : Int := lp (fun c a => a + (if d ≤ dd c ∧ dd c ≤ d + 7 then sz t b c else 0)) 0 (nC t b) 0
def winG (t : Nat → Int) (b : Nat) (dd : Nat → Int) : Int := lp (fun c a => mx a (fromG t b dd (dd c))) 0 (nC t b) 0
theorem fromD_G (t w : Nat → Int) (b : Nat) (d : Int) : fromD t w b d = fromG t b (dl w b) d := rfl
theorem win_G (t w : Nat → Int) (b : Nat) : win t w b = winG t b (dl w b) := rfl
section WIN
variable {N : Nat} {R : Nat → Nat → Nat} {s : Nat} {t w : Nat → Int} {σ : SI}
theorem nC_c (hO : TOk t) {b : Nat} (hb : (b : Int) < t 2) : t (285 + 22 * b + 9) = (nC t b : Int) ∧ nC t b ≤ 12 ∧ 1 ≤ nC t b := by
  have h := (hO.b hb).2.2.2.1
  unfold nC
  omega
theorem sz_r (hO : TOk t) {b c : Nat} (hb : (b : Int) < t 2) (hc : c < nC t b) : 1 ≤ sz t b c ∧ sz t b c ≤ 999 := by
  have h := nC_c hO hb
  exact (hO.b hb).2.2.2.2.1 c (by omega)
theorem dl_r (hO : TOk t) (hW : WOk t w) {b c : Nat} (hb : (b : Int) < t 2) (hc : c < nC t b) : 0 ≤ dl w b c ∧ dl w b c ≤ 9999 := by
  have h := nC_c hO hb
  exact (hW b hb).2.2 c (by omega)
theorem fromG_r (hO : TOk t) {b : Nat} (hb : (b : Int) < t 2) (dd : Nat → Int) (d : Int) : 0 ≤ fromG t b dd d ∧ fromG t b dd d ≤ 11988 := by
  have hn := nC_c hO hb
  have h := lp_invI (P := fun j a => 0 ≤ a ∧ a ≤ 999 * (j : Int)) (f := fun c a => a + (if d ≤ dd c ∧ dd c ≤ d + 7 then sz t b c else 0)) (nC t b) 0 0 (by omega) (fun j a _ h2 ha => by
    have hs := sz_r hO hb (c := j) (by omega)
    split <;> omega)
  unfold fromG
  omega
theorem winG_r (hO : TOk t) {b : Nat} (hb : (b : Int) < t 2) (dd : Nat → Int) : 0 ≤ winG t b dd ∧ winG t b dd ≤ 11988 := by
  unfold winG
  refine lp_inv (P := fun a => 0 ≤ a ∧ a ≤ 11988) _ _ _ (by omega) (fun j a _ _ ha => ?_)
  have := fromG_r hO hb dd (dd j)
  unfold mx
  split <;> omega
/-! distances, vibration -/
theorem sq_r {a : Int} (h : -999 ≤ a ∧ a ≤ 999) : 0 ≤ a * a ∧ a * a ≤ 998001 := by
  constructor
  · rcases Int.le_total 0 a with q | q
    · exact Int.mul_nonneg q q
    · exact Int.mul_nonneg_of_nonpos_of_nonpos q q
  · rcases Int.le_total 0 a with q | q
    · exact Int.mul_le_mul h.2 h.2 q (by omega)
    · rw [← Int.neg_mul_neg a a]
      exact Int.mul_le_mul (show -a ≤ 999 by omega) (show -a ≤ 999 by omega) (by omega) (by omega)
theorem dist_r (hO : TOk t) {b n : Nat} (hb : (b : Int) < t 2) (hn : (n : Int) < t 0) : 0 ≤ dist t b n ∧ dist t b n ≤ 1996002 := by
  have h1 := hO.b hb
  have h2 := hO.n hn
  have e1 := sq_r (a := t (81 + 18 * n + 6) - t (285 + 22 * b + 6)) (by omega)
  have e2 := sq_r (a := t (81 + 18 * n + 7) - t (285 + 22 * b + 7)) (by omega)
  unfold dist
  omega
def shG (t : Nat → Int) (b n : Nat) (v : Int) : Int := 1000 * v / (dist t b n + 1)
theorem shk_G (t w : Nat → Int) (b n : Nat) : shk t w b n = shG t b n (win t w b) := rfl
theorem shG_r (hO : TOk t) {b n : Nat} (hb : (b : Int) < t 2) (hn : (n : Int) < t 0) {v : Int} (hv : 0 ≤ v ∧ v ≤ 11988) : 0 ≤ shG t b n v ∧ shG t b n v ≤ 11988000 := by
  have hd := dist_r hO hb hn
  unfold shG
  have h1 : 1000 * v / (dist t b n + 1) ≤ 1000 * v := Int.ediv_le_self _ (by omega)
  have h2 : 0 ≤ 1000 * v / (dist t b n + 1) := Int.ediv_nonneg (by omega) (by omega)
  omega
theorem c_shakes (h : Iv σ R s t w) {b n : Nat} (hb : (b : Int) < t 2) (hn : (n : Int) < t 0) {v : Int} (hv : 0 ≤ v ∧ v ≤ 11988) : f_X0_shakes N R σ (s + 40 + 5 * b) (nI n) (iI v) = some (iI (shG t b n v), σ) := by
  have hO := h.tok
  have h2 := hO.2.2.1
  have h0 := hO.1
  have hd := dist_r hO hb hn
  have hne : ¬ iI (dist t b n + 1) = 0 := by rw [show (0 : Int32) = iI 0 from rfl, iI_eq (by omega)]; omega
  unfold f_X0_shakes f_X11_quotient
  rw [ck_nI (by omega) (by decide), h.ro.blA b (by omega) 2 (by decide), nI_clamp (by omega), show s + 41 + 5 * b + 2 = s + 43 + 5 * b by omega, (h.cd b hb).2.2.1 n hn, show (1 : Int32) = iI 1 from rfl, show (1000 : Int32) = iI 1000 from rfl, iI_add, iI_mul, if_neg hne, cd_ne hne, bd_some, iI_div (by omega) (by omega)]
  rfl
theorem bts_s (p : Nat → Bool) (k m : Nat) (a : Int32) : bts p k (m + 1) a = bts p (k + 1) m (if p k then a ||| ((1 : Int32) <<< (nI k &&& 31)) else a) := rfl
theorem nN_c (hO : TOk t) : t 0 = (nN t : Int) ∧ nN t ≤ 8 := by have := hO.1; unfold nN; omega
theorem nR_c (hO : TOk t) : t 1 = (nR t : Int) ∧ nR t ≤ 6 := by have := hO.2.1; unfold nR; omega
theorem nB_c (hO : TOk t) : t 2 = (nB t : Int) ∧ nB t ≤ 6 := by have := hO.2.2.1; unfold nB; omega
theorem ck0 {α : Type} {x : Option α} : ck (0 : Int32) 417 x = x := ck_nI (k := 0) (by decide) (by decide)
theorem ck1 {α : Type} {x : Option α} : ck (1 : Int32) 417 x = x := ck_nI (k := 1) (by decide) (by decide)
theorem cl0 : (0 : Int32).toNatClampNeg = 0 := rfl
theorem cl1 : (1 : Int32).toNatClampNeg = 1 := rfl
/-- least and greatest delay -/
def spn (w : Nat → Int) (b : Nat) : Nat → Nat → Int × Int → Int × Int := lp (fun c a => (if dl w b c < a.1 then dl w b c else a.1, if a.2 < dl w b c then dl w b c else a.2))
end WIN

