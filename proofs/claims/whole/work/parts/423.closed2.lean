/-! ===== shared minutes, hours, quiet minutes ===== -/
theorem cnt_add (p : Nat → Bool) : ∀ (a k b : Nat), cnt p k (a + b) = cnt p k a + cnt p (k + a) b := by
  intro a
  induction a with
  | zero =>
    intro k b
    rw [Nat.zero_add, Nat.add_zero]
    show _ = 0 + _
    omega
  | succ a ih =>
    intro k b
    rw [show a + 1 + b = (a + b) + 1 by omega, cnt_s, cnt_s, ih (k + 1) b, show k + 1 + a = k + (a + 1) by omega, Int.add_assoc]
theorem cnt_ind (q : Nat → Bool) {a b : Int} (h : 0 ≤ a ∧ a ≤ b ∧ b ≤ 1440) : cnt (fun j => decide (a ≤ (j : Int) ∧ (j : Int) < b) && q j) 0 1440 = cnt q a.toNat (b - a).toNat := by
  have e : (1440 : Nat) = a.toNat + ((b - a).toNat + (1440 - b).toNat) := by omega
  rw [e, cnt_add, cnt_add, Nat.zero_add]
  have e1 : cnt (fun j => decide (a ≤ (j : Int) ∧ (j : Int) < b) && q j) 0 a.toNat = 0 := (cnt_congr (q := fun _ => false) _ _ (fun j h1 h2 => by rw [decide_eq_false (by omega), Bool.false_and])).trans (cnt_f _ _)
  have e2 : cnt (fun j => decide (a ≤ (j : Int) ∧ (j : Int) < b) && q j) a.toNat (b - a).toNat = cnt q a.toNat (b - a).toNat := cnt_congr _ _ (fun j h1 h2 => by rw [decide_eq_true (by omega), Bool.true_and])
  have e3 : cnt (fun j => decide (a ≤ (j : Int) ∧ (j : Int) < b) && q j) (a.toNat + (b - a).toNat) (1440 - b).toNat = 0 := (cnt_congr (q := fun _ => false) _ _ (fun j h1 h2 => by rw [decide_eq_false (by omega), Bool.false_and])).trans (cnt_f _ _)
  rw [e1, e2, e3]
  omega
theorem shared_c {r : Nat} {F E : Nat → Int} (hr : Runs r F E) (q : Nat → Bool) : ∀ (m k : Nat), k + m = r → sumF (fun i => cnt q (F i).toNat (E i - F i).toNat) k m = cnt (fun j => anyN (fun i => decide (F i ≤ (j : Int) ∧ (j : Int) < E i)) k m && q j) 0 1440 := by
  intro m
  induction m with
  | zero =>
    intro k _
    exact (cnt_f 1440 0).symm
  | succ m ih =>
    intro k hk
    have h0 := hr.1 k (by omega)
    rw [sumF_s, ih (k + 1) (by omega), ← cnt_ind q (by omega), ← cnt_or]
    · refine cnt_congr _ _ (fun j _ _ => ?_)
      rw [anyN_s, Bool.and_or_distrib_right]
    · intro j _ _ ⟨h1, h2⟩
      rw [Bool.and_eq_true] at h1 h2
      obtain ⟨i, i1, i2, i3⟩ := (anyN_iff _ _ _).mp h2.1
      have h1 := of_decide_eq_true h1.1
      have i3 := of_decide_eq_true i3
      have := hr.2 k i (by omega) (by omega)
      omega
theorem shared_p {r : Nat} {F E : Nat → Int} (hr : Runs r F E) {p : Nat → Bool} (hp : ∀ m : Nat, m < 1440 → (p m = true ↔ inR F E r m)) (q : Nat → Bool) : sumF (fun i => cnt q (F i).toNat (E i - F i).toNat) 0 r = cnt (fun j => p j && q j) 0 1440 := by
  rw [shared_c hr q r 0 (by omega)]
  refine cnt_congr _ _ (fun j h1 h2 => ?_)
  congr 1
  rw [Bool.eq_iff_iff, anyN_iff, hp j (by omega)]
  refine ⟨fun ⟨i, _, i2, i3⟩ => ⟨i, by omega, of_decide_eq_true i3⟩, fun ⟨i, i1, i2⟩ => ⟨i, by omega, by omega, decide_eq_true i2⟩⟩
def bsC (S : Nat → Int) : Nat → Int → Int := fun h a => if S h ≤ (if a = -1 then 0 else S a.toNat) then a else (h : Int)
def bsM (S : Nat → Int) : Nat → Nat → Nat := fun h b => if S h ≤ S b then b else h
theorem bs_rel (S : Nat → Int) (hS : ∀ h, 0 ≤ S h) : ∀ (m k : Nat) (a : Int) (b : Nat), (a = -1 ∧ S b = 0 ∨ a = (b : Int) ∧ S b ≠ 0) → lp (bsC S) k m a = if S (lp (bsM S) k m b) = 0 then -1 else ((lp (bsM S) k m b : Nat) : Int) := by
  intro m
  induction m with
  | zero =>
    intro k a b h
    rw [lp_0, lp_0]
    rcases h with ⟨h1, h2⟩ | ⟨h1, h2⟩
    · rw [if_pos h2, h1]
    · rw [if_neg h2, h1]
  | succ m ih =>
    intro k a b h
    have h0 := hS k
    rw [lp_s, lp_s]
    refine ih (k + 1) _ _ ?_
    have hg : (if a = -1 then 0 else S a.toNat) = S b := by
      rcases h with ⟨h1, h2⟩ | ⟨h1, h2⟩
      · rw [if_pos h1, h2]
      · rw [if_neg (by omega), h1]
        rfl
    unfold bsC bsM
    rw [hg]
    by_cases c : S k ≤ S b
    · rw [if_pos c, if_pos c]
      exact h
    · rw [if_neg c, if_neg c]
      refine Or.inr ⟨rfl, ?_⟩
      have := hS b
      omega
section CL2
variable {N : Nat} {R : Nat → Nat → Nat} {s : Nat} {t w : Nat → Int} {σ : SI} {r : Nat} {F E : Nat → Int}
theorem c_sh41 (hN : 2000 ≤ N) (hR : RO R s) (hr : Runs r F E) (hr6 : r ≤ 6) (hM : MS σ 31 r F E) {r2 : Nat} {F2 E2 : Nat → Int} (hr2 : Runs r2 F2 E2) (hr26 : r2 ≤ 6) (hM2 : MS σ 34 r2 F2 E2) {q : Nat → Bool} (hq : ∀ m : Nat, m < 1440 → (q m = true ↔ inR F2 E2 r2 m)) : ∀ (m k n : Nat) (acc : Int), k + m = r → m < n → f_X11_sharedMinutes_41 N R n σ 1 (iI acc) (nI k) = some (.inl (iI (acc + sumF (fun i => cnt q (F i).toNat (E i - F i).toNat) k m)), σ) := by
  intro m
  induction m with
  | zero =>
    intro k n acc hk hm
    obtain ⟨n, rfl⟩ : ∃ q, n = q + 1 := ⟨n - 1, by omega⟩
    rw [f_X11_sharedMinutes_41, hR.r1_5, hM.1, if_pos (by rw [nI_leI (by omega) (by omega)]; omega)]
    show _ = some (Sum.inl (iI (acc + 0)), σ)
    rw [Int.add_zero]
  | succ m ih =>
    intro k n acc hk hm
    obtain ⟨n, rfl⟩ : ∃ q, n = q + 1 := ⟨n - 1, by omega⟩
    have h0 := hr.1 k (by omega)
    obtain ⟨s1, s2⟩ := hM.2 k (by omega)
    have e := c_sizeWithin (N := N) hN hR (o := 34) (Or.inr rfl) hr2 (by omega) hM2 hq (l := (F k).toNat) (len := (E k - F k).toNat) (by omega)
    rw [show ((F k).toNat : Int) + ((E k - F k).toNat : Int) = E k by omega, show ((F k).toNat : Int) = F k by omega] at e
    rw [f_X11_sharedMinutes_41, hR.r1_5, hR.r1_6, hM.1, if_neg (by rw [nI_leI (by omega) (by omega)]; omega), ck_nI (by omega) (by decide), ck_nI (by omega) (by decide), hR.r31_0, hR.r31_1, nI_clamp (by omega), s1, s2, e, bd_some, iI_add, nI_1, ih (k + 1) n _ (by omega) (by omega), sumF_s, Int.add_assoc]
theorem m_sh30 (hR : RO R s) {q : Nat → Bool} (x1 : Int32) : ∀ (m k n : Nat) (σ : SI), k + m = 1440 → m < n → (∀ j : Nat, j < 1440 → σ 186 j = bI (q j)) → (∀ j : Nat, j < k → σ 187 j = bI (q j)) → ∃ σ', f_X12_sharedMinutes_30 N R n σ 178 x1 (nI k) = bd (f_X12_paints N R σ' 178 x1) (fun _ σ8 => f_X12_sharedMinutes_65 N R N σ8 178 (0 : Int32) (0 : Int32)) ∧ (∀ j : Nat, j < 1440 → σ' 187 j = bI (q j)) ∧ ∀ x j, x ≠ 187 → σ' x j = σ x j := by
  intro m
  induction m with
  | zero =>
    intro k n σ hk hm h1 h2
    obtain ⟨n, rfl⟩ : ∃ q, n = q + 1 := ⟨n - 1, by omega⟩
    refine ⟨σ, ?_, fun j hj => h2 j (by omega), fun _ _ _ => rfl⟩
    rw [f_X12_sharedMinutes_30, if_pos (by rw [show k = 1440 by omega]; decide)]
  | succ m ih =>
    intro k n σ hk hm h1 h2
    obtain ⟨n, rfl⟩ : ∃ q, n = q + 1 := ⟨n - 1, by omega⟩
    obtain ⟨σ', g1, g2, g3⟩ := ih (k + 1) n (up σ 187 k (bI (q k))) (by omega) (by omega) (fun j hj => (if_neg (by omega)).trans (h1 j hj)) (fun j hj => by
      unfold up
      by_cases c : j = k
      · rw [if_pos ⟨rfl, c⟩, c]
      · rw [if_neg (by omega)]
        exact h2 j (by omega))
    refine ⟨σ', ?_, g2, fun x j hx => (g3 x j hx).trans (if_neg (by omega))⟩
    rw [f_X12_sharedMinutes_30, if_neg (by rw [show (1440 : Int32) = nI 1440 from rfl, nI_leI (by omega) (by omega)]; omega), ck_nI (by omega) (by decide), ck_nI (by omega) (by decide), sq_eq, hR.m17, hR.m18, nI_clamp (by omega), h1 k (by omega), vpb_b, nI_1]
    exact g1
theorem m_sh65 (hR : RO R s) {p q : Nat → Bool} (hp : ∀ j : Nat, j < 1440 → σ 186 j = bI (p j)) (hq : ∀ j : Nat, j < 1440 → σ 187 j = bI (q j)) : ∀ (m k n : Nat) (acc : Int), k + m = 1440 → m < n → f_X12_sharedMinutes_65 N R n σ 178 (iI acc) (nI k) = some (iI (acc + cnt (fun j => p j && q j) k m), σ) := by
  intro m
  induction m with
  | zero =>
    intro k n acc hk hm
    obtain ⟨n, rfl⟩ : ∃ q, n = q + 1 := ⟨n - 1, by omega⟩
    rw [f_X12_sharedMinutes_65, if_pos (by rw [show k = 1440 by omega]; decide)]
    show _ = some (iI (acc + 0), σ)
    rw [Int.add_zero]
  | succ m ih =>
    intro k n acc hk hm
    obtain ⟨n, rfl⟩ : ∃ q, n = q + 1 := ⟨n - 1, by omega⟩
    rw [f_X12_sharedMinutes_65, if_neg (by rw [show (1440 : Int32) = nI 1440 from rfl, nI_leI (by omega) (by omega)]; omega), ck_nI (by omega) (by decide), ck_nI (by omega) (by decide), hR.m17, hR.m18, nI_clamp (by omega), hp k (by omega), hq k (by omega), cnt_s, nI_1, show (0 : Int32) = iI 0 from rfl, show (1 : Int32) = iI 1 from rfl, iI_add, iI_add, ih (k + 1) n _ (by omega) (by omega), ih (k + 1) n _ (by omega) (by omega), Int.add_zero]
    cases p k
    · rw [bI_f, if_pos (show (0 : Int32) = iI 0 from rfl), Bool.false_and, if_neg (by decide), Int.zero_add]
    · rw [bI_t, if_neg (by decide), Bool.true_and]
      cases q k
      · rw [bI_f, if_pos (show (0 : Int32) = iI 0 from rfl), if_neg (by decide), Int.zero_add]
      · rw [bI_t, if_neg (by decide), if_pos rfl, Int.add_assoc]
/-! hours -/
def hsum (t tm : Nat → Int) (k h : Nat) : Int := sumF (fun rd => cnt (cov t tm rd) (60 * h) 60) 0 k
theorem hsum_r (t tm : Nat → Int) (h : Nat) : ∀ k, 0 ≤ hsum t tm k h ∧ hsum t tm k h ≤ 60 * (k : Int) := by
  intro k
  induction k with
  | zero => exact ⟨Int.le_refl _, Int.le_refl _⟩
  | succ k ih =>
    have := cnt_r (cov t tm (0 + k)) 60 (60 * h)
    unfold hsum at ih ⊢
    rw [sumF_last]
    omega
theorem hsum_s (t tm : Nat → Int) (k h : Nat) : hsum t tm (k + 1) h = hsum t tm k h + cnt (cov t tm k) (60 * h) 60 := by
  unfold hsum
  rw [sumF_last, Nat.zero_add]
theorem c_sh48 (hN : 2000 ≤ N) (hR : RO R s) (hr : Runs r F E) (hr6 : r ≤ 6) {p : Nat → Bool} (hp : ∀ m : Nat, m < 1440 → (p m = true ↔ inR F E r m)) (A : Nat → Int) {K : SI → Nat → Int32 → Option (Unit × SI)} (x1 : Int32) : ∀ (m k n : Nat) (σ : SI), k + m = 24 → m < n → MS σ 31 r F E → (∀ h, h < 24 → σ 37 h = iI (if h < k then A h + cnt p (60 * h) 60 else A h)) → ∃ σ', f_X11_sumHours_48 N R K n σ 1 x1 (nI k) = K σ' 1 (x1 + 1) ∧ (∀ h, h < 24 → σ' 37 h = iI (A h + cnt p (60 * h) 60)) ∧ ∀ x j, x ≠ 37 → σ' x j = σ x j := by
  intro m
  induction m with
  | zero =>
    intro k n σ hk hm hM hc
    obtain ⟨n, rfl⟩ : ∃ q, n = q + 1 := ⟨n - 1, by omega⟩
    refine ⟨σ, ?_, fun h hh => ?_, fun _ _ _ => rfl⟩
    · rw [f_X11_sumHours_48, if_pos (by rw [show k = 24 by omega]; decide)]
    · rw [hc h hh, if_pos (by omega)]
  | succ m ih =>
    intro k n σ hk hm hM hc
    obtain ⟨n, rfl⟩ : ∃ q, n = q + 1 := ⟨n - 1, by omega⟩
    have e : f_X3_sizeWithin N R σ 31 (nI (60 * k)) (nI (60 * k + 60)) = some (iI (cnt p (60 * k) 60), σ) := by
      rw [iI_nat, iI_nat]
      exact c_sizeWithin hN hR (Or.inl rfl) hr (by omega) hM hp (l := 60 * k) (len := 60) (by omega)
    obtain ⟨σ', g1, g2, g3⟩ := ih (k + 1) n (up σ 37 k (iI (A k + cnt p (60 * k) 60))) (by omega) (by omega) (hM.fr (fun a j h1 h2 => if_neg (by omega))) (fun h hh => by
      unfold up
      by_cases c : h = k
      · rw [if_pos ⟨rfl, c⟩, if_pos (by omega), c]
      · rw [if_neg (by omega), hc h hh]
        by_cases d : h < k
        · rw [if_pos d, if_pos (by omega)]
        · rw [if_neg d, if_neg (by omega)])
    refine ⟨σ', ?_, g2, fun x j hx => (g3 x j hx).trans (if_neg (by omega))⟩
    rw [f_X11_sumHours_48, if_neg (by rw [show (24 : Int32) = nI 24 from rfl, nI_leI (by omega) (by omega)]; omega), ck_nI (by omega) (by decide), show nI k * (60 : Int32) = nI (60 * k) from (by rw [show (60 : Int32) = nI 60 from rfl, nI_mul, Nat.mul_comm]), show nI (60 * k) + (60 : Int32) = nI (60 * k + 60) from nI_add _ _, hR.r1_5, e, bd_some, ck_nI (by omega) (by decide), sq_eq, hR.r1_7, nI_clamp (by omega), hc k (by omega), if_neg (by omega), iI_add, nI_1]
    exact g1
theorem c_sh23 (hN : 2000 ≤ N) : ∀ (m k n : Nat) (σ : SI), Iv σ R s t w → k + m = nR t → m < n → (∀ h, h < 24 → σ 37 h = iI (hsum t (tms w) k h)) → ∃ σ', f_X11_sumHours_23 N R n σ 1 (nI k) = some ((), σ') ∧ (∀ h, h < 24 → σ' 37 h = iI (hsum t (tms w) (nR t) h)) ∧ Same σ σ' := by
  intro m
  induction m with
  | zero =>
    intro k n σ h hk hm hc
    have hn := nR_c h.tok
    obtain ⟨n, rfl⟩ : ∃ q, n = q + 1 := ⟨n - 1, by omega⟩
    refine ⟨σ, ?_, fun h hh => ?_, Same.rf _⟩
    · rw [f_X11_sumHours_23, h.ro.site, h.cq.1.2.1, if_pos ((iI_leN (by omega)).mpr (by omega))]
    · rw [hc h hh, show nR t = k by omega]
  | succ m ih =>
    intro k n σ h hk hm hc
    have hn := nR_c h.tok
    obtain ⟨n, rfl⟩ : ∃ q, n = q + 1 := ⟨n - 1, by omega⟩
    obtain ⟨σ1, r, F, E, g1, hM, hr, hr6, hp, g2⟩ := c_collect hN h (o := 31) (Or.inl rfl) (rd := k) (by omega)
    obtain ⟨σ2, a1, a2, a3⟩ := c_sh48 (N := N) hN h.ro hr hr6 hp (hsum t (tms w) k) (K := fun σ x0 x1 => f_X11_sumHours_23 N R n σ x0 x1) (nI k) 24 0 N σ1 (by omega) (by omega) hM (fun h hh => by
      rw [g2 37 h (by omega), hc h hh, if_neg (by omega)])
    have s2 : Same σ σ2 := fun x j hn => (a3 x j (by unfold Sc at hn; omega)).trans (g2 x j (by unfold Sc at hn; omega))
    obtain ⟨σ', b1, b2, b3⟩ := ih (k + 1) n σ2 (h.same s2) (by omega) (by omega) (fun h hh => by rw [a2 h hh, hsum_s])
    refine ⟨σ', ?_, b2, s2.tr b3⟩
    rw [f_X11_sumHours_23, h.ro.site, h.cq.1.2.1, if_neg (fun q => absurd ((iI_leN (by omega)).mp q) (by omega)), h.ro.r1_5, g1, bd_some, l_0, a1, nI_1]
    exact b1
theorem c_sh2 (hN : 2000 ≤ N) : ∀ (m k n : Nat) (σ : SI), Iv σ R s t w → k + m = 24 → m < n → (∀ h, h < k → σ 37 h = 0) → ∃ σ', f_X11_sumHours_2 N R n σ 1 (nI k) = some ((), σ') ∧ (∀ h, h < 24 → σ' 37 h = iI (hsum t (tms w) (nR t) h)) ∧ Same σ σ' := by
  intro m
  induction m with
  | zero =>
    intro k n σ h hk hm hc
    have hn := nR_c h.tok
    obtain ⟨n, rfl⟩ : ∃ q, n = q + 1 := ⟨n - 1, by omega⟩
    obtain ⟨σ', g1, g2, g3⟩ := c_sh23 (N := N) hN (nR t) 0 N σ h (by omega) (by omega) (fun h hh => hc h (by omega))
    refine ⟨σ', ?_, g2, g3⟩
    rw [f_X11_sumHours_2, if_pos (by rw [show k = 24 by omega]; decide)]
    exact g1
  | succ m ih =>
    intro k n σ h hk hm hc
    obtain ⟨n, rfl⟩ : ∃ q, n = q + 1 := ⟨n - 1, by omega⟩
    have s1 : Same σ (up σ 37 k 0) := same_up (by unfold Sc; omega)
    obtain ⟨σ', g1, g2, g3⟩ := ih (k + 1) n (up σ 37 k 0) (h.same s1) (by omega) (by omega) (fun j hj => by
      unfold up
      by_cases c : j = k
      · rw [if_pos ⟨rfl, c⟩]
      · rw [if_neg (by omega)]
        exact hc j (by omega))
    refine ⟨σ', ?_, g2, s1.tr g3⟩
    rw [f_X11_sumHours_2, if_neg (by rw [show (24 : Int32) = nI 24 from rfl, nI_leI (by omega) (by omega)]; omega), ck_nI (by omega) (by decide), sq_eq, h.ro.r1_7, nI_clamp (by omega), nI_1]
    exact g1
theorem c_bs (hR : RO R s) {S : Nat → Int} (hS : ∀ h, 0 ≤ S h ∧ S h ≤ 100000) (hc : ∀ h, h < 24 → σ 37 h = iI (S h)) : ∀ (m k n : Nat) (a : Int), k + m = 24 → m < n → -1 ≤ a ∧ a < 24 → f_X11_busiestHour_10 N R n σ 1 (iI a) (iI (if a = -1 then 0 else S a.toNat)) (nI k) = some (iI (lp (bsC S) k m a), σ) := by
  intro m
  induction m with
  | zero =>
    intro k n a hk hm ha
    obtain ⟨n, rfl⟩ : ∃ q, n = q + 1 := ⟨n - 1, by omega⟩
    rw [f_X11_busiestHour_10, if_pos (by rw [show k = 24 by omega]; decide), lp_0]
  | succ m ih =>
    intro k n a hk hm ha
    obtain ⟨n, rfl⟩ : ∃ q, n = q + 1 := ⟨n - 1, by omega⟩
    have h1 := hS k
    have h2 : 0 ≤ (if a = -1 then 0 else S a.toNat) ∧ (if a = -1 then 0 else S a.toNat) ≤ 100000 := by
      have := hS a.toNat
      split <;> omega
    rw [f_X11_busiestHour_10, if_neg (by rw [show (24 : Int32) = nI 24 from rfl, nI_leI (by omega) (by omega)]; omega), ck_nI (by omega) (by decide), ck_nI (by omega) (by decide), hR.r1_7, nI_clamp (by omega), hc k (by omega), lp_s]
    unfold f_X11_busiestHour_35
    rw [nI_1]
    by_cases c : S k ≤ (if a = -1 then 0 else S a.toNat)
    · rw [if_pos ((iI_le (by omega)).mpr c), show bsC S k a = a from if_pos c]
      exact ih (k + 1) n a (by omega) (by omega) ha
    · rw [if_neg (fun q => c ((iI_le (by omega)).mp q)), show bsC S k a = (k : Int) from if_neg c]
      have e := ih (k + 1) n (k : Int) (by omega) (by omega) (by omega)
      rw [if_neg (by omega), show ((k : Int)).toNat = k from rfl, ← iI_nat] at e
      exact e
theorem m_bh45 (hN : 2000 ≤ N) (hR : RO R s) {p : Nat → Bool} (A : Nat → Int) {K : SI → Nat → Int32 → Option (Int32 × SI)} (x1 : Int32) : ∀ (m k n : Nat) (σ : SI), k + m = 24 → m < n → (∀ j : Nat, j < 1440 → σ 186 j = bI (p j)) → (∀ h, h < 24 → σ 188 h = iI (if h < k then A h + cnt p (60 * h) 60 else A h)) → ∃ σ', f_X12_busiestHour_45 N R K n σ 178 x1 (nI k) = K σ' 178 (x1 + 1) ∧ (∀ h, h < 24 → σ' 188 h = iI (A h + cnt p (60 * h) 60)) ∧ ∀ x j, x ≠ 188 → σ' x j = σ x j := by
  intro m
  induction m with
  | zero =>
    intro k n σ hk hm hp hc
    obtain ⟨n, rfl⟩ : ∃ q, n = q + 1 := ⟨n - 1, by omega⟩
    refine ⟨σ, ?_, fun h hh => ?_, fun _ _ _ => rfl⟩
    · rw [f_X12_busiestHour_45, if_pos (by rw [show k = 24 by omega]; decide)]
    · rw [hc h hh, if_pos (by omega)]
  | succ m ih =>
    intro k n σ hk hm hp hc
    obtain ⟨n, rfl⟩ : ∃ q, n = q + 1 := ⟨n - 1, by omega⟩
    have e : f_X12_paintedIn N R σ 178 (nI (60 * k)) (nI (60 * k + 59)) = some (iI (cnt p (60 * k) 60), σ) := by
      unfold f_X12_paintedIn
      have e0 := m_pin (N := N) hR hp (z := 60 * k + 60) (by omega) 60 (60 * k) N 0 (by omega) (by omega)
      rw [Int.zero_add, show ((60 * k + 60 : Nat) : Int) - 1 = ((60 * k + 59 : Nat) : Int) by omega, ← iI_nat (60 * k + 59)] at e0
      exact e0
    obtain ⟨σ', g1, g2, g3⟩ := ih (k + 1) n (up σ 188 k (iI (A k + cnt p (60 * k) 60))) (by omega) (by omega) (fun j hj => (if_neg (by omega)).trans (hp j hj)) (fun h hh => by
      unfold up
      by_cases c : h = k
      · rw [if_pos ⟨rfl, c⟩, if_pos (by omega), c]
      · rw [if_neg (by omega), hc h hh]
        by_cases d : h < k
        · rw [if_pos d, if_pos (by omega)]
        · rw [if_neg d, if_neg (by omega)])
    refine ⟨σ', ?_, g2, fun x j hx => (g3 x j hx).trans (if_neg (by omega))⟩
    rw [f_X12_busiestHour_45, if_neg (by rw [show (24 : Int32) = nI 24 from rfl, nI_leI (by omega) (by omega)]; omega), ck_nI (by omega) (by decide), show (60 : Int32) * nI k = nI (60 * k) from nI_mul 60 k, show nI (60 * k) + (59 : Int32) = nI (60 * k + 59) from nI_add _ _, e, bd_some, ck_nI (by omega) (by decide), sq_eq, hR.m19, nI_clamp (by omega), hc k (by omega), if_neg (by omega), iI_add, nI_1]
    exact g1
theorem m_bh91 (hR : RO R s) {S : Nat → Int} (hS : ∀ h, 0 ≤ S h ∧ S h ≤ 100000) (hc : ∀ h, h < 24 → σ 188 h = iI (S h)) : ∀ (m k n b : Nat), k + m = 24 → m < n → b < 24 → f_X12_busiestHour_91 N R n σ 178 (nI b) (nI k) = some (iI (if S (lp (bsM S) k m b) = 0 then -1 else ((lp (bsM S) k m b : Nat) : Int)), σ) := by
  intro m
  induction m with
  | zero =>
    intro k n b hk hm hb
    obtain ⟨n, rfl⟩ : ∃ q, n = q + 1 := ⟨n - 1, by omega⟩
    have h1 := hS b
    rw [f_X12_busiestHour_91, if_pos (by rw [show k = 24 by omega]; decide), ck_nI (by omega) (by decide), hR.m19, nI_clamp (by omega), hc b hb, lp_0]
    by_cases c : S b = 0
    · rw [if_pos (by rw [c]; rfl), if_pos c]
      rfl
    · rw [if_neg (by rw [show (0 : Int32) = iI 0 from rfl, iI_eq (by omega)]; exact c), if_neg c, iI_nat]
  | succ m ih =>
    intro k n b hk hm hb
    obtain ⟨n, rfl⟩ : ∃ q, n = q + 1 := ⟨n - 1, by omega⟩
    have h1 := hS b
    have h2 := hS k
    rw [f_X12_busiestHour_91, if_neg (by rw [show (24 : Int32) = nI 24 from rfl, nI_leI (by omega) (by omega)]; omega), ck_nI (by omega) (by decide), ck_nI (by omega) (by decide), hR.m19, nI_clamp (by omega), nI_clamp (by omega), hc b hb, hc k (by omega), lp_s]
    unfold f_X12_busiestHour_114
    rw [nI_1]
    by_cases c : S k ≤ S b
    · rw [if_pos ((iI_le (by omega)).mpr c), show bsM S k b = b from if_pos c]
      exact ih (k + 1) n b (by omega) (by omega) hb
    · rw [if_neg (fun q => c ((iI_le (by omega)).mp q)), show bsM S k b = k from if_neg c]
      exact ih (k + 1) n k (by omega) (by omega) (by omega)
theorem m_bh28 (hN : 2000 ≤ N) (hR : RO R s) (hO : TOk t) (hW : WOk t w) : ∀ (m k n : Nat) (σ : SI), TV t σ → WV w σ → k + m = nR t → m < n → (∀ h, h < 24 → σ 188 h = iI (hsum t (tms w) k h)) → ∃ σ', f_X12_busiestHour_28 N R n σ 178 (nI k) = some (iI (lp (bsC (hsum t (tms w) (nR t))) 0 24 (-1)), σ') ∧ Same σ σ' := by
  have hn := nR_c hO
  have hS : ∀ k, k ≤ 6 → ∀ h, 0 ≤ hsum t (tms w) k h ∧ hsum t (tms w) k h ≤ 100000 := fun k hk h => by
    have := hsum_r t (tms w) h k
    omega
  intro m
  induction m with
  | zero =>
    intro k n σ hT hV hk hm hc
    obtain ⟨n, rfl⟩ : ∃ q, n = q + 1 := ⟨n - 1, by omega⟩
    refine ⟨σ, ?_, Same.rf _⟩
    have e := m_bh91 (N := N) hR (hS k (by omega)) hc 23 1 N 0 (by omega) (by omega) (by omega)
    have hnk : nR t = k := by omega
    have h0 := (hS k (by omega) 0).1
    have hrel : bsC (hsum t (tms w) k) 0 (-1) = -1 ∧ hsum t (tms w) k 0 = 0 ∨ bsC (hsum t (tms w) k) 0 (-1) = ((0 : Nat) : Int) ∧ hsum t (tms w) k 0 ≠ 0 := by
      unfold bsC
      rw [if_pos rfl]
      by_cases c : hsum t (tms w) k 0 = 0
      · exact Or.inl ⟨if_pos (by omega), c⟩
      · exact Or.inr ⟨if_neg (by omega), c⟩
    rw [f_X12_busiestHour_28, ck1, hR.m11, cl1, hT, if_pos ((iI_leN (by omega)).mpr (by omega)), l_0, l_1, e, hnk, lp_s (bsC (hsum t (tms w) k)) 0 23 (-1), bs_rel (hsum t (tms w) k) (fun h => (hS k (by omega) h).1) 23 1 _ 0 hrel]
  | succ m ih =>
    intro k n σ hT hV hk hm hc
    obtain ⟨n, rfl⟩ : ∃ q, n = q + 1 := ⟨n - 1, by omega⟩
    obtain ⟨σ1, a1, a2, a3⟩ := m_paints hN hR hT hV hO hW (rd := k) (by omega)
    obtain ⟨σ2, b1, b2, b3⟩ := m_bh45 (N := N) hN hR (hsum t (tms w) k) (K := fun σ x0 x1 => f_X12_busiestHour_28 N R n σ x0 x1) (nI k) 24 0 N σ1 (by omega) (by omega) a2 (fun h hh => by
      rw [a3 188 h (by omega), hc h hh, if_neg (by omega)])
    have s2 : Same σ σ2 := fun x j hn => (b3 x j (by unfold Sc at hn; omega)).trans (a3 x j (by unfold Sc at hn; omega))
    obtain ⟨σ', c1, c2⟩ := ih (k + 1) n σ2 (hT.same s2) (hV.same s2) (by omega) (by omega) (fun h hh => by rw [b2 h hh, hsum_s])
    refine ⟨σ', ?_, s2.tr c2⟩
    rw [f_X12_busiestHour_28, ck1, hR.m11, cl1, hT, if_neg (fun q => absurd ((iI_leN (by omega)).mp q) (by omega)), a1, bd_some, l_0, b1, nI_1]
    exact c1
theorem m_bh7 (hN : 2000 ≤ N) (hR : RO R s) (hO : TOk t) (hW : WOk t w) : ∀ (m k n : Nat) (σ : SI), TV t σ → WV w σ → k + m = 24 → m < n → (∀ h, h < k → σ 188 h = 0) → ∃ σ', f_X12_busiestHour_7 N R n σ 178 (nI k) = some (iI (lp (bsC (hsum t (tms w) (nR t))) 0 24 (-1)), σ') ∧ Same σ σ' := by
  have hn := nR_c hO
  intro m
  induction m with
  | zero =>
    intro k n σ hT hV hk hm hc
    obtain ⟨n, rfl⟩ : ∃ q, n = q + 1 := ⟨n - 1, by omega⟩
    obtain ⟨σ', g1, g2⟩ := m_bh28 (N := N) hN hR hO hW (nR t) 0 N σ hT hV (by omega) (by omega) (fun h hh => hc h (by omega))
    refine ⟨σ', ?_, g2⟩
    rw [f_X12_busiestHour_7, if_pos (by rw [show k = 24 by omega]; decide)]
    exact g1
  | succ m ih =>
    intro k n σ hT hV hk hm hc
    obtain ⟨n, rfl⟩ : ∃ q, n = q + 1 := ⟨n - 1, by omega⟩
    have s1 : Same σ (up σ 188 k 0) := same_up (by unfold Sc; omega)
    obtain ⟨σ', g1, g2⟩ := ih (k + 1) n (up σ 188 k 0) (hT.same s1) (hV.same s1) (by omega) (by omega) (fun j hj => by
      unfold up
      by_cases c : j = k
      · rw [if_pos ⟨rfl, c⟩]
      · rw [if_neg (by omega)]
        exact hc j (by omega))
    refine ⟨σ', ?_, s1.tr g2⟩
    rw [f_X12_busiestHour_7, if_neg (by rw [show (24 : Int32) = nI 24 from rfl, nI_leI (by omega) (by omega)]; omega), ck_nI (by omega) (by decide), sq_eq, hR.m19, nI_clamp (by omega), nI_1]
    exact g1
/-! quiet minutes -/
theorem m_qm (hN : 2000 ≤ N) (hR : RO R s) (hT : TV t σ) (hO : TOk t) {q : Nat} (hq : (q : Int) < t 0) : ∀ (m k n : Nat) (acc : Int), k + m = 1440 → m < n → f_X12_quietMinutes_19 N R n σ 178 (nI q) (iI acc) (nI k) = some (iI (acc + cnt (fun j => still t q (j : Int)) k m), σ) := by
  intro m
  induction m with
  | zero =>
    intro k n acc hk hm
    obtain ⟨n, rfl⟩ : ∃ q, n = q + 1 := ⟨n - 1, by omega⟩
    rw [f_X12_quietMinutes_19, if_pos (by rw [show k = 1440 by omega]; decide)]
    show _ = some (iI (acc + 0), σ)
    rw [Int.add_zero]
  | succ m ih =>
    intro k n acc hk hm
    obtain ⟨n, rfl⟩ : ∃ q, n = q + 1 := ⟨n - 1, by omega⟩
    have e := m_isStill (N := N) hN hR hT hO hq (x := (k : Int)) (by omega)
    rw [← iI_nat] at e
    rw [f_X12_quietMinutes_19, if_neg (by rw [show (1440 : Int32) = nI 1440 from rfl, nI_leI (by omega) (by omega)]; omega), e, bd_some, cnt_s, nI_1]
    cases still t q (k : Int)
    · rw [bI_f, if_pos rfl, show (0 : Int32) = iI 0 from rfl, iI_add, ih (k + 1) n _ (by omega) (by omega), if_neg (by decide), Int.add_assoc]
    · rw [bI_t, if_neg (by decide), show (1 : Int32) = iI 1 from rfl, iI_add, ih (k + 1) n _ (by omega) (by omega), if_pos rfl, Int.add_assoc]
def stK (t : Nat → Int) (n k : Nat) (m : Int) : Bool := lp (fun k a => a || decide (t (81 + 18 * n + 10 + 2 * k) ≤ m ∧ m < t (81 + 18 * n + 11 + 2 * k))) 0 k false
theorem stK_s (t : Nat → Int) (n k : Nat) (m : Int) : stK t n (k + 1) m = (stK t n k m || decide (t (81 + 18 * n + 10 + 2 * k) ≤ m ∧ m < t (81 + 18 * n + 11 + 2 * k))) := by
  unfold stK
  rw [lp_add, lp_s, lp_0, Nat.zero_add]
theorem c_qm (hN : 2000 ≤ N) {q : Nat} (hq : (q : Int) < t 0) : ∀ (m k n : Nat) (σ : SI) (r : Nat) (F E : Nat → Int), Iv σ R s t w → k + m = (t (81 + 18 * q + 9)).toNat → m < n → MS σ 31 r F E → Runs r F E → r ≤ k → (∀ mm : Nat, mm < 1440 → (stK t q k (mm : Int) = true ↔ inR F E r mm)) → ∃ σ', f_X11_quietMinutes_15 N R n σ 1 (s + 10 + 3 * q) (nI k) = some (.inl (iI (cnt (fun j => still t q (j : Int)) 0 1440)), σ') ∧ ∀ x j, x < 31 ∨ 33 < x → σ' x j = σ x j := by
  intro m
  induction m with
  | zero =>
    intro k n σ r F E h hk hm hM hr hrk hp
    have h0 := h.tok.1
    have h4 := h.tok.n hq
    obtain ⟨n, rfl⟩ : ∃ q, n = q + 1 := ⟨n - 1, by omega⟩
    refine ⟨σ, ?_, fun _ _ _ => rfl⟩
    have e := c_size hN h.ro (Or.inl rfl) hr (by omega) hM (p := fun j => still t q (j : Int)) (fun mm hmm => by
      rw [← hp mm hmm]
      unfold still stK
      rw [show (t (81 + 18 * q + 9)).toNat = k by omega])
    rw [f_X11_quietMinutes_15, (h.cq.2.2.1 q hq).2.2.2.1, if_pos ((iI_leN (by omega)).mpr (by omega)), h.ro.r1_5, e, bd_some]
  | succ m ih =>
    intro k n σ r F E h hk hm hM hr hrk hp
    have h0 := h.tok.1
    have h4 := h.tok.n hq
    obtain ⟨n, rfl⟩ : ∃ q, n = q + 1 := ⟨n - 1, by omega⟩
    have h5 := h4.2.2.2.2 k (by omega)
    obtain ⟨e1, e2⟩ := (h.cq.2.2.1 q hq).2.2.2.2 k (by omega)
    obtain ⟨σ1, r1, F1, E1, a1, a2, a3, a4, a5, a6⟩ := c_add (N := N) hN h.ro (o := 31) (Or.inl rfl) hr (by omega) hM (l := t (81 + 18 * q + 10 + 2 * k)) (h := t (81 + 18 * q + 11 + 2 * k)) (by omega)
    obtain ⟨σ', b1, b2⟩ := ih (k + 1) n σ1 r1 F1 E1 (h.same (ms_same (o := 31) (Or.inl rfl) a6)) (by omega) (by omega) a2 a3 (by omega) (fun mm hmm => by
      rw [stK_s, Bool.or_eq_true, hp mm hmm, a5, decide_eq_true_eq])
    refine ⟨σ', ?_, fun x j hx => (b2 x j hx).trans (a6 x j hx)⟩
    rw [f_X11_quietMinutes_15, (h.cq.2.2.1 q hq).2.2.2.1, if_neg (fun z => absurd ((iI_leN (by omega)).mp z) (by omega)), ck_nI (by omega) (by decide), ck_nI (by omega) (by decide), h.ro.r1_5, h.ro.nbA q (by omega) 0 (by decide), h.ro.nbA q (by omega) 1 (by decide), nI_clamp (by omega), Nat.add_zero, show s + 11 + 3 * q + 1 = s + 12 + 3 * q by omega, e1, e2, a1, bd_some, nI_1]
    exact b1
end CL2
