/-! ===== sums, windows, vibration ===== -/
theorem or_z (x : Int32) : x ||| (0 : Int32) = x := Int32.or_zero
theorem iI_ite {p : Prop} [Decidable p] (a b : Int) : (if p then iI a else iI b) = iI (if p then a else b) := by
  by_cases h : p
  · rw [if_pos h, if_pos h]
  · rw [if_neg h, if_neg h]
theorem iI_minL {a b : Int} (h : (-2147483648 ≤ a ∧ a ≤ 2147483647) ∧ -2147483648 ≤ b ∧ b ≤ 2147483647) : (if iI a < iI b then iI a else iI b) = iI (if a < b then a else b) := by
  by_cases c : a < b
  · rw [if_pos ((iI_lt h).mpr c), if_pos c]
  · rw [if_neg (fun q => c ((iI_lt h).mp q)), if_neg c]
theorem iI_maxR {a b : Int} (h : (-2147483648 ≤ a ∧ a ≤ 2147483647) ∧ -2147483648 ≤ b ∧ b ≤ 2147483647) : (if iI a < iI b then iI b else iI a) = iI (mx a b) := by
  unfold mx
  by_cases c : a < b
  · rw [if_pos ((iI_lt h).mpr c), if_pos c]
  · rw [if_neg (fun q => c ((iI_lt h).mp q)), if_neg c]
theorem lp_inv {α : Type} {P : α → Prop} {f : Nat → α → α} : ∀ (m k : Nat) (a : α), P a → (∀ j a, k ≤ j → j < k + m → P a → P (f j a)) → P (lp f k m a) := by
  intro m
  induction m with
  | zero => intro k a h _; exact h
  | succ m ih => intro k a h hs; exact ih (k + 1) _ (hs k a (by omega) (by omega) h) (fun j a h1 h2 => hs j a (by omega) (by omega))
theorem lp_invI {α : Type} {P : Nat → α → Prop} {f : Nat → α → α} : ∀ (m k : Nat) (a : α), P k a → (∀ j a, k ≤ j → j < k + m → P j a → P (j + 1) (f j a)) → P (k + m) (lp f k m a) := by
  intro m
  induction m with
  | zero => intro k a h _; exact h
  | succ m ih =>
    intro k a h hs
    have := ih (k + 1) _ (hs k a (by omega) (by omega) h) (fun j a h1 h2 => hs j a (by omega) (by omega))
    rw [show k + 1 + m = k + (m + 1) by omega] at this
    exact this
theorem lp_congr {α : Type} {f g : Nat → α → α} : ∀ (m k : Nat) (a : α), (∀ j a, k ≤ j → j < k + m → f j a = g j a) → lp f k m a = lp g k m a := by
  intro m
  induction m with
  | zero => intro k a _; rfl
  | succ m ih =>
    intro k a h
    rw [lp_s, lp_s, h k a (by omega) (by omega)]
    exact ih (k + 1) _ (fun j a h1 h2 => h j a (by omega) (by omega))
/-- a window, over any delays -/
def fromG (t : Nat → Int) (b : Nat) (dd : Nat → Int) (d : Int) : Int := lp (fun c a => a + (if d ≤ dd c ∧ dd c ≤ d + 7 then sz t b c else 0)) 0 (nC t b) 0
def winG (t : Nat → Int) (b : Nat) (dd : Nat → Int) : Int := lp (fun c a => mx a (fromG t b dd (dd c))) 0 (nC t b) 0
theorem fromD_G (t w : Nat → Int) (b : Nat) (d : Int) : fromD t w b d = fromG t b (dl w b) d := rfl
theorem win_G (t w : Nat → Int) (b : Nat) : win t w b = winG t b (dl w b) := rfl
section WIN
variable {N : Nat} {R : Nat → Nat → Nat} {s : Nat} {t w : Nat → Int} {σ : SI}
theorem nC_c (hO : TOk t) {b : Nat} (hb : (b : Int) < t 2) : t (285 + 22 * b + 9) = (nC t b : Int) ∧ nC t b ≤ 12 ∧ 1 ≤ nC t b := by
  have h := (hO.b hb).2.2.2.1
  unfold nC
  omega
theorem sz_r (hO : TOk t) {b c : Nat} (hb : (b : Int) < t 2) (hc : c < nC t b) : 1 ≤ sz t b c ∧ sz t b c ≤ 999 := by
  have h := nC_c hO hb
  exact (hO.b hb).2.2.2.2.1 c (by omega)
theorem dl_r (hO : TOk t) (hW : WOk t w) {b c : Nat} (hb : (b : Int) < t 2) (hc : c < nC t b) : 0 ≤ dl w b c ∧ dl w b c ≤ 9999 := by
  have h := nC_c hO hb
  exact (hW b hb).2.2 c (by omega)
theorem fromG_r (hO : TOk t) {b : Nat} (hb : (b : Int) < t 2) (dd : Nat → Int) (d : Int) : 0 ≤ fromG t b dd d ∧ fromG t b dd d ≤ 11988 := by
  have hn := nC_c hO hb
  have h := lp_invI (P := fun j a => 0 ≤ a ∧ a ≤ 999 * (j : Int)) (f := fun c a => a + (if d ≤ dd c ∧ dd c ≤ d + 7 then sz t b c else 0)) (nC t b) 0 0 (by omega) (fun j a _ h2 ha => by
    have hs := sz_r hO hb (c := j) (by omega)
    split <;> omega)
  unfold fromG
  omega
theorem winG_r (hO : TOk t) {b : Nat} (hb : (b : Int) < t 2) (dd : Nat → Int) : 0 ≤ winG t b dd ∧ winG t b dd ≤ 11988 := by
  unfold winG
  refine lp_inv (P := fun a => 0 ≤ a ∧ a ≤ 11988) _ _ _ (by omega) (fun j a _ _ ha => ?_)
  have := fromG_r hO hb dd (dd j)
  unfold mx
  split <;> omega
theorem m_inI {x a b : Int} (h : (-2147483648 ≤ x ∧ x ≤ 2147483647) ∧ (-2147483648 ≤ a ∧ a ≤ 2147483647) ∧ -2147483648 ≤ b ∧ b ≤ 2147483647) : f_X12_in N R σ (iI x) (iI a) (iI b) = some (bI (decide (a ≤ x ∧ x ≤ b)), σ) := by
  rw [m_in]
  simp only [iI_toInt h.1, iI_toInt h.2.1, iI_toInt h.2.2]
theorem m_wfN (hR : RO R s) (hT : TV t σ) (hV : WV w σ) (hO : TOk t) (hW : WOk t w) {b : Nat} (hb : (b : Int) < t 2) {d : Int} (hd : 0 ≤ d ∧ d ≤ 100000) : ∀ (m k n : Nat) (acc : Int), k + m = nC t b → m < n → f_X12_windowFrom_6 N R n σ 178 (nI b) (iI d) (-1) (iI acc) (nI k) = some (iI (lp (fun c a => a + (if d ≤ dl w b c ∧ dl w b c ≤ d + 7 then sz t b c else 0)) k m acc), σ) := by
  have hn := nC_c hO hb
  have h2 := hO.2.2.1
  intro m
  induction m with
  | zero =>
    intro k n acc hk hm
    obtain ⟨n, rfl⟩ : ∃ q, n = q + 1 := ⟨n - 1, by omega⟩
    rw [f_X12_windowFrom_6, m_charges hR hT (by omega), bd_some, if_pos ((iI_leN (by omega)).mpr (by omega)), lp_0]
  | succ m ih =>
    intro k n acc hk hm
    obtain ⟨n, rfl⟩ : ∃ q, n = q + 1 := ⟨n - 1, by omega⟩
    have hdk := dl_r hO hW hb (c := k) (by omega)
    rw [f_X12_windowFrom_6, m_charges hR hT (by omega), bd_some, if_neg (fun q => absurd ((iI_leN (by omega)).mp q) (by omega)), if_neg (by decide), m_delayOf hR hV (by omega) (by omega), bd_some, show (7 : Int32) = iI 7 from rfl, iI_add, m_inI (by omega), bd_some, lp_s]
    by_cases hc : d ≤ dl w b k ∧ dl w b k ≤ d + 7
    · rw [decide_eq_true hc, bI_t, if_neg (by decide), m_chargeOf hR hT (by omega) (by omega), bd_some, iI_add, nI_1, ih (k + 1) n _ (by omega) (by omega), if_pos hc]
    · rw [decide_eq_false hc, bI_f, if_pos rfl, show (0 : Int32) = iI 0 from rfl, iI_add, nI_1, ih (k + 1) n _ (by omega) (by omega), if_neg hc]
theorem m_wfG (hR : RO R s) (hT : TV t σ) (hO : TOk t) {b g : Nat} (hg : g ≤ 800) (hb : (b : Int) < t 2) {d : Int} (hd : 0 ≤ d ∧ d ≤ 100000) : ∀ (m k n : Nat) (acc : Int), k + m = nC t b → m < n → f_X12_windowFrom_6 N R n σ 178 (nI b) (iI d) (nI g) (iI acc) (nI k) = some (iI (lp (fun c a => a + (if d ≤ ((g * c : Nat) : Int) ∧ ((g * c : Nat) : Int) ≤ d + 7 then sz t b c else 0)) k m acc), σ) := by
  have hn := nC_c hO hb
  have h2 := hO.2.2.1
  intro m
  induction m with
  | zero =>
    intro k n acc hk hm
    obtain ⟨n, rfl⟩ : ∃ q, n = q + 1 := ⟨n - 1, by omega⟩
    rw [f_X12_windowFrom_6, m_charges hR hT (by omega), bd_some, if_pos ((iI_leN (by omega)).mpr (by omega)), lp_0]
  | succ m ih =>
    intro k n acc hk hm
    obtain ⟨n, rfl⟩ : ∃ q, n = q + 1 := ⟨n - 1, by omega⟩
    have hgk : g * k ≤ 800 * 12 := Nat.mul_le_mul hg (by omega)
    rw [f_X12_windowFrom_6, m_charges hR hT (by omega), bd_some, if_neg (fun q => absurd ((iI_leN (by omega)).mp q) (by omega)), if_pos (nI_pos' (by omega)), nI_mul, show (7 : Int32) = iI 7 from rfl, iI_add, iI_nat (g * k), m_inI (by omega), bd_some, lp_s]
    by_cases hc : d ≤ ((g * k : Nat) : Int) ∧ ((g * k : Nat) : Int) ≤ d + 7
    · rw [decide_eq_true hc, bI_t, if_neg (by decide), m_chargeOf hR hT (by omega) (by omega), bd_some, iI_add, nI_1, ih (k + 1) n _ (by omega) (by omega), if_pos hc]
    · rw [decide_eq_false hc, bI_f, if_pos rfl, show (0 : Int32) = iI 0 from rfl, iI_add, nI_1, ih (k + 1) n _ (by omega) (by omega), if_neg hc]
theorem m_windowFrom (hN : 2000 ≤ N) (hR : RO R s) (hT : TV t σ) (hV : WV w σ) (hO : TOk t) (hW : WOk t w) {b : Nat} (hb : (b : Int) < t 2) {d : Int} (hd : 0 ≤ d ∧ d ≤ 100000) : f_X12_windowFrom N R σ 178 (nI b) (iI d) (-1) = some (iI (fromD t w b d), σ) := by
  have hn := nC_c hO hb
  unfold f_X12_windowFrom
  exact m_wfN hR hT hV hO hW hb hd (nC t b) 0 N 0 (by omega) (by omega)
theorem m_windowFromG (hN : 2000 ≤ N) (hR : RO R s) (hT : TV t σ) (hO : TOk t) {b g : Nat} (hg : g ≤ 800) (hb : (b : Int) < t 2) {d : Int} (hd : 0 ≤ d ∧ d ≤ 100000) : f_X12_windowFrom N R σ 178 (nI b) (iI d) (nI g) = some (iI (fromG t b (fun c => ((g * c : Nat) : Int)) d), σ) := by
  have hn := nC_c hO hb
  unfold f_X12_windowFrom
  exact m_wfG hR hT hO hg hb hd (nC t b) 0 N 0 (by omega) (by omega)
theorem m_w5N (hN : 2000 ≤ N) (hR : RO R s) (hT : TV t σ) (hV : WV w σ) (hO : TOk t) (hW : WOk t w) {b : Nat} (hb : (b : Int) < t 2) : ∀ (m k n : Nat) (acc : Int), k + m = nC t b → m < n → 0 ≤ acc ∧ acc ≤ 11988 → f_X12_window_5 N R n σ 178 (nI b) (-1) (iI acc) (nI k) = some (iI (lp (fun c a => mx a (fromD t w b (dl w b c))) k m acc), σ) := by
  have hn := nC_c hO hb
  have h2 := hO.2.2.1
  intro m
  induction m with
  | zero =>
    intro k n acc hk hm ha
    obtain ⟨n, rfl⟩ : ∃ q, n = q + 1 := ⟨n - 1, by omega⟩
    rw [f_X12_window_5, m_charges hR hT (by omega), bd_some, if_pos ((iI_leN (by omega)).mpr (by omega)), lp_0]
  | succ m ih =>
    intro k n acc hk hm ha
    obtain ⟨n, rfl⟩ : ∃ q, n = q + 1 := ⟨n - 1, by omega⟩
    have hdk := dl_r hO hW hb (c := k) (by omega)
    have hf := fromG_r hO hb (dl w b) (dl w b k)
    rw [← fromD_G] at hf
    rw [f_X12_window_5, m_charges hR hT (by omega), bd_some, if_neg (fun q => absurd ((iI_leN (by omega)).mp q) (by omega)), if_neg (by decide), m_delayOf hR hV (by omega) (by omega), bd_some, m_windowFrom hN hR hT hV hO hW hb (by omega), bd_some, lp_s, iI_maxR (by omega), nI_1, ih (k + 1) n _ (by omega) (by omega) (by unfold mx; split <;> omega)]
theorem m_w5G (hN : 2000 ≤ N) (hR : RO R s) (hT : TV t σ) (hO : TOk t) {b g : Nat} (hg : g ≤ 800) (hb : (b : Int) < t 2) : ∀ (m k n : Nat) (acc : Int), k + m = nC t b → m < n → 0 ≤ acc ∧ acc ≤ 11988 → f_X12_window_5 N R n σ 178 (nI b) (nI g) (iI acc) (nI k) = some (iI (lp (fun c a => mx a (fromG t b (fun c => ((g * c : Nat) : Int)) ((g * c : Nat) : Int))) k m acc), σ) := by
  have hn := nC_c hO hb
  have h2 := hO.2.2.1
  intro m
  induction m with
  | zero =>
    intro k n acc hk hm ha
    obtain ⟨n, rfl⟩ : ∃ q, n = q + 1 := ⟨n - 1, by omega⟩
    rw [f_X12_window_5, m_charges hR hT (by omega), bd_some, if_pos ((iI_leN (by omega)).mpr (by omega)), lp_0]
  | succ m ih =>
    intro k n acc hk hm ha
    obtain ⟨n, rfl⟩ : ∃ q, n = q + 1 := ⟨n - 1, by omega⟩
    have hgk : g * k ≤ 800 * 12 := Nat.mul_le_mul hg (by omega)
    have hf := fromG_r hO hb (fun c => ((g * c : Nat) : Int)) ((g * k : Nat) : Int)
    rw [f_X12_window_5, m_charges hR hT (by omega), bd_some, if_neg (fun q => absurd ((iI_leN (by omega)).mp q) (by omega)), if_pos (nI_pos' (by omega)), nI_mul, iI_nat (g * k), m_windowFromG hN hR hT hO hg hb (by omega), bd_some, lp_s, iI_maxR (by omega), nI_1, ih (k + 1) n _ (by omega) (by omega) (by unfold mx; split <;> omega)]
theorem m_window (hN : 2000 ≤ N) (hR : RO R s) (hT : TV t σ) (hV : WV w σ) (hO : TOk t) (hW : WOk t w) {b : Nat} (hb : (b : Int) < t 2) : f_X12_window N R σ 178 (nI b) (-1) = some (iI (win t w b), σ) := by
  have hn := nC_c hO hb
  unfold f_X12_window
  exact m_w5N hN hR hT hV hO hW hb (nC t b) 0 N 0 (by omega) (by omega) (by omega)
theorem m_windowG (hN : 2000 ≤ N) (hR : RO R s) (hT : TV t σ) (hO : TOk t) {b g : Nat} (hg : g ≤ 800) (hb : (b : Int) < t 2) : f_X12_window N R σ 178 (nI b) (nI g) = some (iI (winG t b (fun c => ((g * c : Nat) : Int))), σ) := by
  have hn := nC_c hO hb
  unfold f_X12_window
  exact m_w5G hN hR hT hO hg hb (nC t b) 0 N 0 (by omega) (by omega) (by omega)
/-! distances, vibration -/
theorem sq_r {a : Int} (h : -999 ≤ a ∧ a ≤ 999) : 0 ≤ a * a ∧ a * a ≤ 998001 := by
  constructor
  · rcases Int.le_total 0 a with q | q
    · exact Int.mul_nonneg q q
    · exact Int.mul_nonneg_of_nonpos_of_nonpos q q
  · rcases Int.le_total 0 a with q | q
    · exact Int.mul_le_mul h.2 h.2 q (by omega)
    · rw [← Int.neg_mul_neg a a]
      exact Int.mul_le_mul (show -a ≤ 999 by omega) (show -a ≤ 999 by omega) (by omega) (by omega)
theorem dist_r (hO : TOk t) {b n : Nat} (hb : (b : Int) < t 2) (hn : (n : Int) < t 0) : 0 ≤ dist t b n ∧ dist t b n ≤ 1996002 := by
  have h1 := hO.b hb
  have h2 := hO.n hn
  have e1 := sq_r (a := t (81 + 18 * n + 6) - t (285 + 22 * b + 6)) (by omega)
  have e2 := sq_r (a := t (81 + 18 * n + 7) - t (285 + 22 * b + 7)) (by omega)
  unfold dist
  omega
theorem m_farAway (hR : RO R s) (hT : TV t σ) {b n : Nat} (hb : b < 6) (hn : n < 8) : f_X12_farAway N R σ 178 (nI b) (nI n) = some (iI (dist t b n), σ) := by
  unfold f_X12_farAway f_X12_squared
  rw [m_near6 hR hT hn, bd_some, m_bl6 hR hT hb, bd_some, m_near7 hR hT hn, bd_some, m_bl7 hR hT hb, bd_some, bd_some, iI_sub, iI_sub, iI_mul, iI_mul, iI_add]
  rfl
def shG (t : Nat → Int) (b n : Nat) (v : Int) : Int := 1000 * v / (dist t b n + 1)
theorem shk_G (t w : Nat → Int) (b n : Nat) : shk t w b n = shG t b n (win t w b) := rfl
theorem shG_r (hO : TOk t) {b n : Nat} (hb : (b : Int) < t 2) (hn : (n : Int) < t 0) {v : Int} (hv : 0 ≤ v ∧ v ≤ 11988) : 0 ≤ shG t b n v ∧ shG t b n v ≤ 11988000 := by
  have hd := dist_r hO hb hn
  unfold shG
  have h1 : 1000 * v / (dist t b n + 1) ≤ 1000 * v := Int.ediv_le_self _ (by omega)
  have h2 : 0 ≤ 1000 * v / (dist t b n + 1) := Int.ediv_nonneg (by omega) (by omega)
  omega
theorem m_shakes (hN : 2000 ≤ N) (hR : RO R s) (hT : TV t σ) (hV : WV w σ) (hO : TOk t) (hW : WOk t w) {b n : Nat} (hb : (b : Int) < t 2) (hn : (n : Int) < t 0) : f_X12_shakes N R σ 178 (nI b) (nI n) (-1) = some (iI (shk t w b n), σ) := by
  have h2 := hO.2.2.1
  have h0 := hO.1
  have hd := dist_r hO hb hn
  have hw := winG_r hO hb (dl w b)
  rw [← win_G] at hw
  unfold f_X12_shakes
  rw [m_window hN hR hT hV hO hW hb, bd_some, m_farAway hR hT (by omega) (by omega), bd_some, show (1 : Int32) = iI 1 from rfl, show (1000 : Int32) = iI 1000 from rfl, iI_add, iI_mul, cd_ne (by rw [show (0 : Int32) = iI 0 from rfl, iI_eq (by omega)]; omega), iI_div (by omega) (by omega)]
  rfl
theorem m_shakesG (hN : 2000 ≤ N) (hR : RO R s) (hT : TV t σ) (hO : TOk t) {b n g : Nat} (hg : g ≤ 800) (hb : (b : Int) < t 2) (hn : (n : Int) < t 0) : f_X12_shakes N R σ 178 (nI b) (nI n) (nI g) = some (iI (shG t b n (winG t b (fun c => ((g * c : Nat) : Int)))), σ) := by
  have h2 := hO.2.2.1
  have h0 := hO.1
  have hd := dist_r hO hb hn
  have hw := winG_r hO hb (fun c => ((g * c : Nat) : Int))
  unfold f_X12_shakes
  rw [m_windowG hN hR hT hO hg hb, bd_some, m_farAway hR hT (by omega) (by omega), bd_some, show (1 : Int32) = iI 1 from rfl, show (1000 : Int32) = iI 1000 from rfl, iI_add, iI_mul, cd_ne (by rw [show (0 : Int32) = iI 0 from rfl, iI_eq (by omega)]; omega), iI_div (by omega) (by omega)]
  rfl
theorem c_shakes (h : Iv σ R s t w) {b n : Nat} (hb : (b : Int) < t 2) (hn : (n : Int) < t 0) {v : Int} (hv : 0 ≤ v ∧ v ≤ 11988) : f_X0_shakes N R σ (s + 40 + 5 * b) (nI n) (iI v) = some (iI (shG t b n v), σ) := by
  have hO := h.tok
  have h2 := hO.2.2.1
  have h0 := hO.1
  have hd := dist_r hO hb hn
  have hne : ¬ iI (dist t b n + 1) = 0 := by rw [show (0 : Int32) = iI 0 from rfl, iI_eq (by omega)]; omega
  unfold f_X0_shakes f_X11_quotient
  rw [ck_nI (by omega) (by decide), h.ro.blA b (by omega) 2 (by decide), nI_clamp (by omega), show s + 41 + 5 * b + 2 = s + 43 + 5 * b by omega, (h.cd b hb).2.2.1 n hn, show (1 : Int32) = iI 1 from rfl, show (1000 : Int32) = iI 1000 from rfl, iI_add, iI_mul, if_neg hne, cd_ne hne, bd_some, iI_div (by omega) (by omega)]
  rfl
theorem m_isTooStrong (hN : 2000 ≤ N) (hR : RO R s) (hT : TV t σ) (hV : WV w σ) (hO : TOk t) (hW : WOk t w) {b n : Nat} (hb : (b : Int) < t 2) (hn : (n : Int) < t 0) : f_X12_isTooStrong N R σ 178 (nI b) (nI n) = some (bI (tst t w b n), σ) := by
  have h0 := hO.1
  have hl := hO.n hn
  have hw := winG_r hO hb (dl w b)
  rw [← win_G] at hw
  have hs := shG_r hO hb hn hw
  rw [← shk_G] at hs
  unfold f_X12_isTooStrong
  rw [m_shakes hN hR hT hV hO hW hb hn, bd_some, m_near8 hR hT (by omega), bd_some]
  unfold tst
  by_cases c : t (81 + 18 * n + 8) < shk t w b n
  · rw [if_neg (fun q => absurd ((iI_le (by omega)).mp q) (by omega)), decide_eq_true c]
    rfl
  · rw [if_pos ((iI_le (by omega)).mpr (by omega)), decide_eq_false c]
    rfl
theorem bts_s (p : Nat → Bool) (k m : Nat) (a : Int32) : bts p k (m + 1) a = bts p (k + 1) m (if p k then a ||| ((1 : Int32) <<< (nI k &&& 31)) else a) := rfl
theorem nN_c (hO : TOk t) : t 0 = (nN t : Int) ∧ nN t ≤ 8 := by have := hO.1; unfold nN; omega
theorem nR_c (hO : TOk t) : t 1 = (nR t : Int) ∧ nR t ≤ 6 := by have := hO.2.1; unfold nR; omega
theorem nB_c (hO : TOk t) : t 2 = (nB t : Int) ∧ nB t ≤ 6 := by have := hO.2.2.1; unfold nB; omega
theorem ck0 {α : Type} {x : Option α} : ck (0 : Int32) 417 x = x := ck_nI (k := 0) (by decide) (by decide)
theorem ck1 {α : Type} {x : Option α} : ck (1 : Int32) 417 x = x := ck_nI (k := 1) (by decide) (by decide)
theorem cl0 : (0 : Int32).toNatClampNeg = 0 := rfl
theorem cl1 : (1 : Int32).toNatClampNeg = 1 := rfl
theorem m_tsAt (hN : 2000 ≤ N) (hR : RO R s) (hT : TV t σ) (hV : WV w σ) (hO : TOk t) (hW : WOk t w) {b : Nat} (hb : (b : Int) < t 2) : ∀ (m k n : Nat) (acc : Int32), k + m = nN t → m < n → f_X12_tooStrongAt_19 N R n σ 178 (nI b) acc (nI k) = some (bts (tst t w b) k m acc, σ) := by
  have hn := nN_c hO
  intro m
  induction m with
  | zero =>
    intro k n acc hk hm
    obtain ⟨n, rfl⟩ : ∃ q, n = q + 1 := ⟨n - 1, by omega⟩
    rw [f_X12_tooStrongAt_19, ck0, hR.m11, cl0, hT, if_pos ((iI_leN (by omega)).mpr (by omega))]
    rfl
  | succ m ih =>
    intro k n acc hk hm
    obtain ⟨n, rfl⟩ : ∃ q, n = q + 1 := ⟨n - 1, by omega⟩
    rw [f_X12_tooStrongAt_19, ck0, hR.m11, cl0, hT, if_neg (fun q => absurd ((iI_leN (by omega)).mp q) (by omega)), m_isTooStrong hN hR hT hV hO hW hb (by omega), bd_some, bts_s, or_z, nI_1]
    cases tst t w b k
    · rw [bI_f, if_pos rfl, ih (k + 1) n _ (by omega) (by omega), if_neg (by decide)]
    · rw [bI_t, if_neg (by decide), ih (k + 1) n _ (by omega) (by omega), if_pos rfl]
theorem c_sum (h : Iv σ R s t w) {b : Nat} (hb : (b : Int) < t 2) : ∀ (m k n : Nat) (acc : Int), k + m = nC t b → m < n → f_X0_sumOfSizes_4 N R n σ (s + 40 + 5 * b) (iI acc) (nI k) = some (iI (lp (fun c a => a + sz t b c) k m acc), σ) := by
  have hO := h.tok
  have hn := nC_c hO hb
  have h2 := hO.2.2.1
  intro m
  induction m with
  | zero =>
    intro k n acc hk hm
    obtain ⟨n, rfl⟩ : ∃ q, n = q + 1 := ⟨n - 1, by omega⟩
    rw [f_X0_sumOfSizes_4, h.bl7 hb, if_pos ((iI_leN (by omega)).mpr (by omega)), lp_0]
  | succ m ih =>
    intro k n acc hk hm
    obtain ⟨n, rfl⟩ : ∃ q, n = q + 1 := ⟨n - 1, by omega⟩
    rw [f_X0_sumOfSizes_4, h.bl7 hb, if_neg (fun q => absurd ((iI_leN (by omega)).mp q) (by omega)), ck_nI (by omega) (by decide), h.ro.blA b (by omega) 0 (by decide), nI_clamp (by omega), show s + 41 + 5 * b + 0 = s + 41 + 5 * b by omega, (h.cq.2.2.2.2 b hb).2.2.2.2.1 k (by omega), iI_add, nI_1, ih (k + 1) n _ (by omega) (by omega), lp_s]
    rfl
theorem m_sum (hR : RO R s) (hT : TV t σ) (hO : TOk t) {b : Nat} (hb : (b : Int) < t 2) : ∀ (m k n : Nat) (acc : Int), k + m = nC t b → m < n → f_X12_totalSize_19 N R n σ 178 (nI b) (iI acc) (nI k) = some (iI (lp (fun c a => a + sz t b c) k m acc), σ) := by
  have hn := nC_c hO hb
  have h2 := hO.2.2.1
  intro m
  induction m with
  | zero =>
    intro k n acc hk hm
    obtain ⟨n, rfl⟩ : ∃ q, n = q + 1 := ⟨n - 1, by omega⟩
    rw [f_X12_totalSize_19, m_charges hR hT (by omega), bd_some, if_pos ((iI_leN (by omega)).mpr (by omega)), lp_0]
  | succ m ih =>
    intro k n acc hk hm
    obtain ⟨n, rfl⟩ : ∃ q, n = q + 1 := ⟨n - 1, by omega⟩
    rw [f_X12_totalSize_19, m_charges hR hT (by omega), bd_some, if_neg (fun q => absurd ((iI_leN (by omega)).mp q) (by omega)), m_chargeOf hR hT (by omega) (by omega), bd_some, iI_add, nI_1, ih (k + 1) n _ (by omega) (by omega), lp_s]
/-- least and greatest delay -/
def spn (w : Nat → Int) (b : Nat) : Nat → Nat → Int × Int → Int × Int := lp (fun c a => (if dl w b c < a.1 then dl w b c else a.1, if a.2 < dl w b c then dl w b c else a.2))
theorem c_span (h : Iv σ R s t w) {b : Nat} (hb : (b : Int) < t 2) : ∀ (m k n : Nat) (a : Int × Int), k + m = nC t b → m < n → (0 ≤ a.1 ∧ a.1 ≤ 9999) ∧ (0 ≤ a.2 ∧ a.2 ≤ 9999) → f_X0_spanOfDelays_16 N R n σ (s + 40 + 5 * b) (iI a.1) (iI a.2) (nI k) = some (iI ((spn w b k m a).2 - (spn w b k m a).1), σ) := by
  have hO := h.tok
  have hn := nC_c hO hb
  have h2 := hO.2.2.1
  intro m
  induction m with
  | zero =>
    intro k n a hk hm ha
    obtain ⟨n, rfl⟩ : ∃ q, n = q + 1 := ⟨n - 1, by omega⟩
    rw [f_X0_spanOfDelays_16, h.bl7 hb, if_pos ((iI_leN (by omega)).mpr (by omega)), iI_sub]
    rfl
  | succ m ih =>
    intro k n a hk hm ha
    obtain ⟨n, rfl⟩ : ∃ q, n = q + 1 := ⟨n - 1, by omega⟩
    have hd := dl_r hO h.wok hb (c := k) (by omega)
    have e : σ (s + 42 + 5 * b) k = iI (dl w b k) := (h.cs b hb).2.2 k (by omega)
    rw [f_X0_spanOfDelays_16, h.bl7 hb, if_neg (fun q => absurd ((iI_leN (by omega)).mp q) (by omega)), ck_nI (by omega) (by decide), ck_nI (by omega) (by decide), h.ro.blA b (by omega) 1 (by decide), nI_clamp (by omega), show s + 41 + 5 * b + 1 = s + 42 + 5 * b by omega, e, iI_minL (by omega), iI_maxR (by omega), nI_1]
    exact ih (k + 1) n (if dl w b k < a.1 then dl w b k else a.1, mx a.2 (dl w b k)) (by omega) (by omega) (by unfold mx; constructor <;> split <;> omega)
theorem m_span (hR : RO R s) (hT : TV t σ) (hV : WV w σ) (hO : TOk t) (hW : WOk t w) {b : Nat} (hb : (b : Int) < t 2) : ∀ (m k n : Nat) (a : Int × Int), k + m = nC t b → m < n → (0 ≤ a.1 ∧ a.1 ≤ 9999) ∧ (0 ≤ a.2 ∧ a.2 ≤ 9999) → f_X12_delaySpan_27 N R n σ 178 (nI b) (iI a.1) (iI a.2) (nI k) = some (iI ((spn w b k m a).2 - (spn w b k m a).1), σ) := by
  have hn := nC_c hO hb
  have h2 := hO.2.2.1
  intro m
  induction m with
  | zero =>
    intro k n a hk hm ha
    obtain ⟨n, rfl⟩ : ∃ q, n = q + 1 := ⟨n - 1, by omega⟩
    rw [f_X12_delaySpan_27, m_charges hR hT (by omega), bd_some, if_pos ((iI_leN (by omega)).mpr (by omega)), iI_sub]
    rfl
  | succ m ih =>
    intro k n a hk hm ha
    obtain ⟨n, rfl⟩ : ∃ q, n = q + 1 := ⟨n - 1, by omega⟩
    have hd := dl_r hO hW hb (c := k) (by omega)
    rw [f_X12_delaySpan_27, m_charges hR hT (by omega), bd_some, if_neg (fun q => absurd ((iI_leN (by omega)).mp q) (by omega)), m_delayOf hR hV (by omega) (by omega), bd_some, m_delayOf hR hV (by omega) (by omega), bd_some, iI_minL (by omega), iI_maxR (by omega), nI_1]
    exact ih (k + 1) n (if dl w b k < a.1 then dl w b k else a.1, mx a.2 (dl w b k)) (by omega) (by omega) (by unfold mx; constructor <;> split <;> omega)
end WIN

theorem ag_12 {N : Nat} (hN : 2000 ≤ N) : Ag_12 N Inv := by
  intro σ R a1 hI
  obtain ⟨s, t, w, h⟩ := hI
  have hR := h.ro
  have hO := h.tok
  have hT := h.tv
  have hW := h.wv
  have q1 : Same σ (up σ 178 0 0) := same_up (by unfold Sc; omega)
  have hT1 := hT.same q1
  have hW1 := hW.same q1
  have h1 := h.same q1
  by_cases c1 : 0 ≤ a1.toInt ∧ a1.toInt < t 2
  rotate_left
  · refine ⟨.inr 0, σ, 0, up (up σ 178 0 0) 178 0 1, ?_, ?_, ⟨s, t, w, h1.same (same_up (by unfold Sc; omega))⟩, fun v e => (by cases e), fun q e => (by cases e; first | exact ⟨rfl, up_th⟩ | exact Or.inl ⟨rfl, up_th⟩ | exact Or.inr ⟨rfl, up_th⟩ | exact Or.inr (Or.inl ⟨rfl, up_th⟩) | exact Or.inr (Or.inr ⟨rfl, up_th⟩))⟩
    · unfold f_X11_totalSize
      rw [c_bl_bad h c1, bdX_inr]
    · unfold f_X12_totalSize
      rw [sq_eq, m_bl_bad hR hT1 hO c1, bd_some, if_neg (by decide)]
      try rfl
  obtain ⟨b, rfl, e1⟩ := i32_nI (by omega) c1.2
  have l1 : (b : Int) < t 2 := by omega
  refine ⟨.inl (iI (lp (fun c a => a + sz t b c) 0 (nC t b) 0)), σ, iI (lp (fun c a => a + sz t b c) 0 (nC t b) 0), up σ 178 0 0, ?_, ?_, ⟨s, t, w, h1⟩, fun v e => (by cases e; exact ⟨by first | exact up_th | (simp only [up_th]), rfl⟩), fun q e => (by cases e)⟩
  · unfold f_X11_totalSize
    rw [c_bl_ok h l1, bdX_inl]
    unfold f_X0_sumOfSizes
    rw [show (0 : Int32) = iI 0 from rfl, show iI 0 = nI 0 from rfl]
    rw [show (nI 0 : Int32) = iI 0 from rfl]
    have e := c_sum (N := N) h l1 (nC t b) 0 N 0 (by omega) (by have := nC_c hO l1; omega)
    rw [show (nI 0 : Int32) = iI 0 from rfl] at e
    rw [e, bd_some]
  · unfold f_X12_totalSize
    rw [sq_eq, m_bl_ok hR hT1 hO l1, bd_some, if_pos rfl]
    exact m_sum hR hT1 hO l1 (nC t b) 0 N 0 (by omega) (by have := nC_c hO l1; omega)
theorem ag_13 {N : Nat} (hN : 2000 ≤ N) : Ag_13 N Inv := by
  intro σ R a1 hI
  obtain ⟨s, t, w, h⟩ := hI
  have hR := h.ro
  have hO := h.tok
  have hT := h.tv
  have hW := h.wv
  have q1 : Same σ (up σ 178 0 0) := same_up (by unfold Sc; omega)
  have hT1 := hT.same q1
  have hW1 := hW.same q1
  have h1 := h.same q1
  by_cases c1 : 0 ≤ a1.toInt ∧ a1.toInt < t 2
  rotate_left
  · refine ⟨.inr 0, σ, 0, up (up σ 178 0 0) 178 0 1, ?_, ?_, ⟨s, t, w, h1.same (same_up (by unfold Sc; omega))⟩, fun v e => (by cases e), fun q e => (by cases e; first | exact ⟨rfl, up_th⟩ | exact Or.inl ⟨rfl, up_th⟩ | exact Or.inr ⟨rfl, up_th⟩ | exact Or.inr (Or.inl ⟨rfl, up_th⟩) | exact Or.inr (Or.inr ⟨rfl, up_th⟩))⟩
    · unfold f_X11_delaySpan
      rw [c_bl_bad h c1, bdX_inr]
    · unfold f_X12_delaySpan
      rw [sq_eq, m_bl_bad hR hT1 hO c1, bd_some, if_neg (by decide)]
      try rfl
  obtain ⟨b, rfl, e1⟩ := i32_nI (by omega) c1.2
  have l1 : (b : Int) < t 2 := by omega
  refine ⟨.inl (iI ((spn w b 1 (nC t b - 1) (dl w b 0, dl w b 0)).2 - (spn w b 1 (nC t b - 1) (dl w b 0, dl w b 0)).1)), σ, iI ((spn w b 1 (nC t b - 1) (dl w b 0, dl w b 0)).2 - (spn w b 1 (nC t b - 1) (dl w b 0, dl w b 0)).1), up σ 178 0 0, ?_, ?_, ⟨s, t, w, h1⟩, fun v e => (by cases e; exact ⟨by first | exact up_th | (simp only [up_th]), rfl⟩), fun q e => (by cases e)⟩
  · unfold f_X11_delaySpan
    rw [c_bl_ok h l1, bdX_inl]
    have hn := nC_c hO l1
    have hd := dl_r hO h.wok l1 (c := 0) (by omega)
    have e0 : σ (s + 42 + 5 * b) 0 = iI (dl w b 0) := (h.cs b l1).2.2 0 (by omega)
    unfold f_X0_spanOfDelays
    rw [show ck (0 : Int32) 12 = ck (α := Int32 × SI) (nI 0) 12 from rfl, ck_nI (by decide) (by decide), ck_nI (by decide) (by decide), hR.blA b (by have := hO.2.2.1; omega) 1 (by decide), cl0, show s + 41 + 5 * b + 1 = s + 42 + 5 * b by omega, e0]
    have e := c_span (N := N) h l1 (nC t b - 1) 1 N (dl w b 0, dl w b 0) (by omega) (by omega) (by omega)
    rw [show (nI 1 : Int32) = 1 from rfl] at e
    rw [e, bd_some]
  · unfold f_X12_delaySpan
    rw [sq_eq, m_bl_ok hR hT1 hO l1, bd_some, if_pos rfl]
    have hn := nC_c hO l1
    have hd := dl_r hO h.wok l1 (c := 0) (by omega)
    have e0 := m_delayOf (N := N) hR hW1 (n := b) (c := 0) (by have := hO.2.2.1; omega) (by decide)
    rw [show (nI 0 : Int32) = 0 from rfl] at e0
    rw [e0, bd_some]
    exact m_span hR hT1 hW1 hO h.wok l1 (nC t b - 1) 1 N (dl w b 0, dl w b 0) (by omega) (by omega) (by omega)
theorem ag_14 {N : Nat} (hN : 2000 ≤ N) : Ag_14 N Inv := by
  intro σ R a1 hI
  obtain ⟨s, t, w, h⟩ := hI
  have hR := h.ro
  have hO := h.tok
  have hT := h.tv
  have hW := h.wv
  have q1 : Same σ (up σ 178 0 0) := same_up (by unfold Sc; omega)
  have hT1 := hT.same q1
  have hW1 := hW.same q1
  have h1 := h.same q1
  by_cases c1 : 0 ≤ a1.toInt ∧ a1.toInt < t 2
  rotate_left
  · refine ⟨.inr 0, σ, 0, up (up σ 178 0 0) 178 0 1, ?_, ?_, ⟨s, t, w, h1.same (same_up (by unfold Sc; omega))⟩, fun v e => (by cases e), fun q e => (by cases e; first | exact ⟨rfl, up_th⟩ | exact Or.inl ⟨rfl, up_th⟩ | exact Or.inr ⟨rfl, up_th⟩ | exact Or.inr (Or.inl ⟨rfl, up_th⟩) | exact Or.inr (Or.inr ⟨rfl, up_th⟩))⟩
    · unfold f_X11_windowSize
      rw [c_bl_bad h c1, bdX_inr]
    · unfold f_X12_windowSize
      rw [sq_eq, m_bl_bad hR hT1 hO c1, bd_some, if_neg (by decide)]
      try rfl
  obtain ⟨b, rfl, e1⟩ := i32_nI (by omega) c1.2
  have l1 : (b : Int) < t 2 := by omega
  refine ⟨.inl (iI (win t w b)), σ, iI (win t w b), up σ 178 0 0, ?_, ?_, ⟨s, t, w, h1⟩, fun v e => (by cases e; exact ⟨by first | exact up_th | (simp only [up_th]), rfl⟩), fun q e => (by cases e)⟩
  · unfold f_X11_windowSize
    rw [c_bl_ok h l1, bdX_inl]
    rw [(h.cw b l1).1]
  · unfold f_X12_windowSize
    rw [sq_eq, m_bl_ok hR hT1 hO l1, bd_some, if_pos rfl]
    rw [m_window hN hR hT1 hW1 hO h.wok l1, bd_some]
theorem ag_16 {N : Nat} (hN : 2000 ≤ N) : Ag_16 N Inv := by
  intro σ R a1 a2 hI
  obtain ⟨s, t, w, h⟩ := hI
  have hR := h.ro
  have hO := h.tok
  have hT := h.tv
  have hW := h.wv
  have q1 : Same σ (up σ 178 0 0) := same_up (by unfold Sc; omega)
  have hT1 := hT.same q1
  have hW1 := hW.same q1
  have h1 := h.same q1
  by_cases c1 : 0 ≤ a1.toInt ∧ a1.toInt < t 2
  rotate_left
  · refine ⟨.inr 0, σ, 0, up (up σ 178 0 0) 178 0 1, ?_, ?_, ⟨s, t, w, h1.same (same_up (by unfold Sc; omega))⟩, fun v e => (by cases e), fun q e => (by cases e; first | exact ⟨rfl, up_th⟩ | exact Or.inl ⟨rfl, up_th⟩ | exact Or.inr ⟨rfl, up_th⟩ | exact Or.inr (Or.inl ⟨rfl, up_th⟩) | exact Or.inr (Or.inr ⟨rfl, up_th⟩))⟩
    · unfold f_X11_vibration
      rw [c_bl_bad h c1, bdX_inr]
    · unfold f_X12_vibration
      rw [sq_eq, m_bl_bad hR hT1 hO c1, bd_some, if_neg (by decide)]
      try rfl
  obtain ⟨b, rfl, e1⟩ := i32_nI (by omega) c1.2
  have l1 : (b : Int) < t 2 := by omega
  by_cases c2 : 0 ≤ a2.toInt ∧ a2.toInt < t 0
  rotate_left
  · refine ⟨.inr 0, σ, 0, up (up σ 178 0 0) 178 0 1, ?_, ?_, ⟨s, t, w, h1.same (same_up (by unfold Sc; omega))⟩, fun v e => (by cases e), fun q e => (by cases e; first | exact ⟨rfl, up_th⟩ | exact Or.inl ⟨rfl, up_th⟩ | exact Or.inr ⟨rfl, up_th⟩ | exact Or.inr (Or.inl ⟨rfl, up_th⟩) | exact Or.inr (Or.inr ⟨rfl, up_th⟩))⟩
    · unfold f_X11_vibration
      rw [c_bl_ok h l1, bdX_inl, c_nb_bad h c2, bdX_inr]
    · unfold f_X12_vibration
      rw [sq_eq, m_bl_ok hR hT1 hO l1, bd_some, if_pos rfl, m_nb_bad hR hT1 hO c2, bd_some, if_neg (by decide)]
      try rfl
  obtain ⟨n, rfl, e2⟩ := i32_nI (by omega) c2.2
  have l2 : (n : Int) < t 0 := by omega
  refine ⟨.inl (iI (shk t w b n)), σ, iI (shk t w b n), up σ 178 0 0, ?_, ?_, ⟨s, t, w, h1⟩, fun v e => (by cases e; exact ⟨by first | exact up_th | (simp only [up_th]), rfl⟩), fun q e => (by cases e)⟩
  · unfold f_X11_vibration
    rw [c_bl_ok h l1, bdX_inl, c_nb_ok h l2, bdX_inl]
    have hw := winG_r hO l1 (dl w b)
    rw [← win_G] at hw
    rw [(h.cw b l1).1, c_shakes h l1 l2 hw, bd_some]
    rfl
  · unfold f_X12_vibration
    rw [sq_eq, m_bl_ok hR hT1 hO l1, bd_some, if_pos rfl, m_nb_ok hR hT1 hO l2, bd_some, if_pos rfl]
    rw [m_shakes hN hR hT1 hW1 hO h.wok l1 l2, bd_some]
theorem ag_18 {N : Nat} (hN : 2000 ≤ N) : Ag_18 N Inv := by
  intro σ R a1 hI
  obtain ⟨s, t, w, h⟩ := hI
  have hR := h.ro
  have hO := h.tok
  have hT := h.tv
  have hW := h.wv
  have q1 : Same σ (up σ 178 0 0) := same_up (by unfold Sc; omega)
  have hT1 := hT.same q1
  have hW1 := hW.same q1
  have h1 := h.same q1
  by_cases c1 : 0 ≤ a1.toInt ∧ a1.toInt < t 2
  rotate_left
  · refine ⟨.inr 0, σ, 0, up (up σ 178 0 0) 178 0 1, ?_, ?_, ⟨s, t, w, h1.same (same_up (by unfold Sc; omega))⟩, fun v e => (by cases e), fun q e => (by cases e; first | exact ⟨rfl, up_th⟩ | exact Or.inl ⟨rfl, up_th⟩ | exact Or.inr ⟨rfl, up_th⟩ | exact Or.inr (Or.inl ⟨rfl, up_th⟩) | exact Or.inr (Or.inr ⟨rfl, up_th⟩))⟩
    · unfold f_X11_tooStrongAt
      rw [c_bl_bad h c1, bdX_inr]
    · unfold f_X12_tooStrongAt
      rw [sq_eq, m_bl_bad hR hT1 hO c1, bd_some, if_neg (by decide)]
      try rfl
  obtain ⟨b, rfl, e1⟩ := i32_nI (by omega) c1.2
  have l1 : (b : Int) < t 2 := by omega
  refine ⟨.inl (bts (tst t w b) 0 (nN t) 0), σ, bts (tst t w b) 0 (nN t) 0, up σ 178 0 0, ?_, ?_, ⟨s, t, w, h1⟩, fun v e => (by cases e; exact ⟨by first | exact up_th | (simp only [up_th]), rfl⟩), fun q e => (by cases e)⟩
  · unfold f_X11_tooStrongAt
    rw [c_bl_ok h l1, bdX_inl]
    rw [(h.cw b l1).2.2]
  · unfold f_X12_tooStrongAt
    rw [sq_eq, m_bl_ok hR hT1 hO l1, bd_some, if_pos rfl]
    exact m_tsAt hN hR hT1 hW1 hO h.wok l1 (nN t) 0 N 0 (by omega) (by have := nN_c hO; omega)
