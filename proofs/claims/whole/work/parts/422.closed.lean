/-! ===== closed minutes: collected by the class, painted by the reference ===== -/
theorem vpb_1 : vp_nar .boolean (1 : Int32) = 1 := rfl
theorem vpb_0 : vp_nar .boolean (0 : Int32) = 0 := rfl
theorem vpb_b (p : Bool) : vp_nar .boolean (bI p) = bI p := by cases p <;> rfl
section CLOSED
variable {N : Nat} {R : Nat → Nat → Nat} {s : Nat} {t w : Nat → Int} {σ : SI} {o : Nat}
def covP (t tm : Nat → Int) (r m : Nat) : Nat → Bool := fun b => decide (tm b ≠ -1 ∧ cF t (tm b) ≤ m ∧ (m : Int) < cE t (tm b)) && shut t b r
theorem cov_P (t tm : Nat → Int) (r m : Nat) : cov t tm r m = anyN (covP t tm r m) 0 (nB t) := rfl
theorem cF_r (hO : TOk t) {x : Int} (hx : 0 ≤ x ∧ x ≤ 1439) : 0 ≤ cF t x ∧ cF t x ≤ 1439 := by
  have h := hO.2.2.2.2.2.1
  unfold cF
  split <;> omega
theorem cE_r (hO : TOk t) {x : Int} (hx : 0 ≤ x ∧ x ≤ 1439) : 0 ≤ cE t x ∧ cE t x ≤ 1440 := by
  have h := hO.2.2.2.2.2.2.1
  unfold cE
  split <;> omega
theorem c_cF (h : Iv σ R s t w) {x : Int} (hx : 0 ≤ x ∧ x ≤ 1439) : f_X9_closingFirst N R σ s (iI x) = some (iI (cF t x), σ) := by
  have h6 := h.tok.2.2.2.2.2.1
  unfold f_X9_closingFirst cF
  rw [h.cq.1.2.2.2.2.2.2.1]
  by_cases c : x ≤ t 6
  · rw [if_pos ((iI_le (by omega)).mpr c)]
    by_cases d : x - t 6 < 0
    · rw [if_pos d]
      rfl
    · rw [if_neg d, show x - t 6 = 0 by omega]
      rfl
  · rw [if_neg (fun q => c ((iI_le (by omega)).mp q)), if_neg (by omega), iI_sub]
theorem c_cE (h : Iv σ R s t w) {x : Int} (hx : 0 ≤ x ∧ x ≤ 1439) : f_X9_closingEnd N R σ s (iI x) = some (iI (cE t x), σ) := by
  have h7 := h.tok.2.2.2.2.2.2.1
  unfold f_X9_closingEnd cE
  rw [h.cq.1.2.2.2.2.2.2.2.1, iI_add, show (1440 : Int32) = iI 1440 from rfl]
  by_cases c : 1440 ≤ x + t 7
  · rw [if_pos ((iI_le (by omega)).mpr c), if_neg (by omega)]
  · rw [if_neg (fun q => c ((iI_le (by omega)).mp q)), if_pos (by omega)]
theorem ms_same (ho : o = 31 ∨ o = 34) {σ' : SI} (q : ∀ x j, x < o ∨ o + 2 < x → σ' x j = σ x j) : Same σ σ' := fun x j hn => q x j (by unfold Sc at hn; omega)
theorem c_coll6 (hN : 2000 ≤ N) (ho : o = 31 ∨ o = 34) {rd : Nat} (hrd : (rd : Int) < t 1) : ∀ (m k n : Nat) (σ : SI) (r : Nat) (F E : Nat → Int), Iv σ R s t w → k + m = nB t → m < n → MS σ o r F E → Runs r F E → r ≤ k → (∀ mm : Nat, mm < 1440 → (anyN (covP t (tms w) rd mm) 0 k = true ↔ inR F E r mm)) → ∃ (σ' : SI) (r' : Nat) (F' E' : Nat → Int), f_X9_collectClosed_6 N R n σ s (nI rd) o (nI k) = some ((), σ') ∧ MS σ' o r' F' E' ∧ Runs r' F' E' ∧ r' ≤ nB t ∧ (∀ mm : Nat, mm < 1440 → (cov t (tms w) rd mm = true ↔ inR F' E' r' mm)) ∧ ∀ x j, x < o ∨ o + 2 < x → σ' x j = σ x j := by
  intro m
  induction m with
  | zero =>
    intro k n σ r F E h hk hm hM hr hrk hp
    have hB := nB_c h.tok
    obtain ⟨n, rfl⟩ : ∃ q, n = q + 1 := ⟨n - 1, by omega⟩
    refine ⟨σ, r, F, E, ?_, hM, hr, by omega, fun mm hmm => ?_, fun _ _ _ => rfl⟩
    · rw [f_X9_collectClosed_6, h.cq.1.2.2.1, if_pos ((iI_leN (by omega)).mpr (by omega))]
    · rw [cov_P, show nB t = k by omega]
      exact hp mm hmm
  | succ m ih =>
    intro k n σ r F E h hk hm hM hr hrk hp
    have hB := nB_c h.tok
    obtain ⟨n, rfl⟩ : ∃ q, n = q + 1 := ⟨n - 1, by omega⟩
    have hkb : (k : Int) < t 2 := by omega
    have hw := (h.wok k hkb).1
    have hR := h.ro
    rw [f_X9_collectClosed_6, h.cq.1.2.2.1, if_neg (fun q => absurd ((iI_leN (by omega)).mp q) (by omega)), ck_nI (by omega) (by decide), ck_nI (by omega) (by decide), hR.si 6 (by decide), hR.si 2 (by decide), show s + 1 + 6 = s + 7 by omega, show s + 1 + 2 = s + 3 by omega, nI_clamp (by omega), (h.cs k hkb).1, hR.bl k (by omega)]
    dsimp only [f_X9_collectClosed_61]
    rw [nI_1]
    by_cases c1 : w (14 * k) = -1
    · rw [if_pos (by rw [c1]; rfl)]
      refine ih (k + 1) n σ r F E h (by omega) (by omega) hM hr (by omega) (fun mm hmm => ?_)
      rw [anyN_last, Nat.zero_add, show covP t (tms w) rd mm k = false from (by unfold covP tms; rw [decide_eq_false (fun q => q.1 c1), Bool.false_and]), Bool.or_false]
      exact hp mm hmm
    · rw [if_neg (by rw [show (-1 : Int32) = iI (-1) from rfl, iI_eq (by omega)]; exact c1), c_closesRoad h hkb hrd, bd_some]
      cases hs : shut t k rd
      · rw [bI_f, if_pos rfl]
        refine ih (k + 1) n σ r F E h (by omega) (by omega) hM hr (by omega) (fun mm hmm => ?_)
        rw [anyN_last, Nat.zero_add, show covP t (tms w) rd mm k = false from (by unfold covP; rw [hs, Bool.and_false]), Bool.or_false]
        exact hp mm hmm
      · have hF := cF_r h.tok (x := w (14 * k)) (by omega)
        have hE := cE_r h.tok (x := w (14 * k)) (by omega)
        rw [bI_t, if_neg (by decide), ck_nI (by omega) (by decide), (h.cs k hkb).1, c_cF h (by omega), bd_some, ck_nI (by omega) (by decide), (h.cs k hkb).1, c_cE h (by omega), bd_some]
        obtain ⟨σ1, r1, F1, E1, a1, a2, a3, a4, a5, a6⟩ := c_add hN hR ho hr (by omega) hM (l := cF t (w (14 * k))) (h := cE t (w (14 * k))) (by omega)
        rw [a1, bd_some]
        obtain ⟨σ', r', F', E', b1, b2, b3, b4, b5, b6⟩ := ih (k + 1) n σ1 r1 F1 E1 (h.same (ms_same ho a6)) (by omega) (by omega) a2 a3 (by omega) (fun mm hmm => by
          rw [anyN_last, Nat.zero_add, Bool.or_eq_true, hp mm hmm, a5]
          refine or_congr Iff.rfl ?_
          unfold covP tms
          rw [hs, Bool.and_true, decide_eq_true_eq]
          exact ⟨fun q => q.2, fun q => ⟨c1, q⟩⟩)
        exact ⟨σ', r', F', E', b1, b2, b3, b4, b5, fun x j hx => (b6 x j hx).trans (a6 x j hx)⟩
theorem Runs.nil (F E : Nat → Int) : Runs 0 F E := ⟨fun i hi => by omega, fun i j _ hj => by omega⟩
theorem c_collect (hN : 2000 ≤ N) (h : Iv σ R s t w) (ho : o = 31 ∨ o = 34) {rd : Nat} (hrd : (rd : Int) < t 1) : ∃ (σ' : SI) (r' : Nat) (F' E' : Nat → Int), f_X9_collectClosed N R σ s (nI rd) o = some ((), σ') ∧ MS σ' o r' F' E' ∧ Runs r' F' E' ∧ r' ≤ 6 ∧ (∀ mm : Nat, mm < 1440 → (cov t (tms w) rd mm = true ↔ inR F' E' r' mm)) ∧ ∀ x j, x < o ∨ o + 2 < x → σ' x j = σ x j := by
  have hB := nB_c h.tok
  have q : ∀ x j, x < o ∨ o + 2 < x → up σ o 2 0 x j = σ x j := fun x j hx => if_neg (by omega)
  obtain ⟨σ', r', F', E', b1, b2, b3, b4, b5, b6⟩ := c_coll6 (N := N) hN ho hrd (nB t) 0 N (up σ o 2 0) 0 (fun _ => 0) (fun _ => 0) (h.same (ms_same ho q)) (by omega) (by omega) ⟨up_th, fun i hi => by omega⟩ (Runs.nil _ _) (by omega) (fun mm _ => ⟨fun z => (by cases z), fun ⟨i, i1, _⟩ => by omega⟩)
  refine ⟨σ', r', F', E', ?_, b2, b3, by omega, b5, fun x j hx => (b6 x j hx).trans (q x j hx)⟩
  unfold f_X9_collectClosed f_X3_clear
  rw [sq_eq, bd_some]
  exact b1
/-! the reference paints -/
theorem m_paint71 (hR : RO R s) (hO : TOk t) (hW : WOk t w) {b : Nat} (hb : (b : Int) < t 2) (hw : w (14 * b) ≠ -1) {K : SI → Nat → Int32 → Int32 → Option (Unit × SI)} (x1 : Int32) : ∀ (m k n : Nat) (σ : SI), k ≤ 1440 → m = (cE t (w (14 * b)) - k).toNat → m < n → TV t σ → WV w σ → ∃ σ', f_X12_paints_71 N R K n σ 178 x1 (nI b) (nI k) = K σ' 178 x1 (nI (b + 1)) ∧ (∀ j : Nat, σ' 186 j = if k ≤ j ∧ (j : Int) < cE t (w (14 * b)) then 1 else σ 186 j) ∧ ∀ x j, x ≠ 186 → σ' x j = σ x j := by
  have hB := nB_c hO
  have h1 := (hW b hb).1
  have hE := cE_r hO (x := w (14 * b)) (by omega)
  have h7 := hO.2.2.2.2.2.2.1
  have row : ∀ (n k : Nat) (σ : SI), TV t σ → WV w σ → k ≤ 1440 → f_X12_paints_71 N R K (n + 1) σ 178 x1 (nI b) (nI k) = if cE t (w (14 * b)) ≤ k then K σ 178 x1 (nI (b + 1)) else f_X12_paints_71 N R K n (up σ 186 k 1) 178 x1 (nI b) (nI (k + 1)) := by
    intro n k σ hT hV hk
    rw [f_X12_paints_71, m_time hR hV (by omega), bd_some, show (7 : Int32) = nI 7 from rfl, ck_nI (by decide) (by decide), nI_clamp (by decide), hR.m11, hT, iI_add, show (1440 : Int32) = iI 1440 from rfl, iI_minL (by omega), show (if w (14 * b) + t 7 < 1440 then w (14 * b) + t 7 else 1440) = cE t (w (14 * b)) from rfl]
    by_cases c : cE t (w (14 * b)) ≤ k
    · rw [if_pos ((iI_leN (by omega)).mpr c), if_pos c]
      unfold f_X12_paints_107
      rw [nI_1]
    · rw [if_neg (fun q => c ((iI_leN (by omega)).mp q)), if_neg c, ck_nI (by omega) (by decide), sq_eq, hR.m17, nI_clamp (by omega), vpb_1, nI_1]
  intro m
  induction m with
  | zero =>
    intro k n σ hk4 hk hm hT hV
    obtain ⟨n, rfl⟩ : ∃ q, n = q + 1 := ⟨n - 1, by omega⟩
    refine ⟨σ, ?_, fun j => by rw [if_neg (by omega)], fun _ _ _ => rfl⟩
    rw [row n k σ hT hV hk4, if_pos (by omega)]
  | succ m ih =>
    intro k n σ hk4 hk hm hT hV
    obtain ⟨n, rfl⟩ : ∃ q, n = q + 1 := ⟨n - 1, by omega⟩
    obtain ⟨σ', g1, g2, g3⟩ := ih (k + 1) n (up σ 186 k 1) (by omega) (by omega) (by omega) (fun q => (if_neg (by omega)).trans (hT q)) (fun q => (if_neg (by omega)).trans (hV q))
    refine ⟨σ', ?_, fun j => ?_, fun x j q => (g3 x j q).trans (if_neg (by omega))⟩
    · rw [row n k σ hT hV hk4, if_neg (by omega)]
      exact g1
    · rw [g2 j]
      unfold up
      by_cases c : j = k
      · rw [if_neg (by omega), if_pos ⟨rfl, c⟩, if_pos (by omega)]
      · by_cases d : k + 1 ≤ j ∧ (j : Int) < cE t (w (14 * b))
        · rw [if_pos d, if_pos (by omega)]
        · rw [if_neg d, if_neg (by omega), if_neg (by omega)]
theorem m_paint24 (hN : 2000 ≤ N) (hR : RO R s) (hO : TOk t) (hW : WOk t w) {rd : Nat} (hrd : (rd : Int) < t 1) : ∀ (m k n : Nat) (σ : SI), k + m = nB t → m < n → TV t σ → WV w σ → (∀ j : Nat, j < 1440 → σ 186 j = bI (anyN (covP t (tms w) rd j) 0 k)) → ∃ σ', f_X12_paints_24 N R n σ 178 (nI rd) (nI k) = some ((), σ') ∧ (∀ j : Nat, j < 1440 → σ' 186 j = bI (cov t (tms w) rd j)) ∧ ∀ x j, x ≠ 186 → σ' x j = σ x j := by
  have hB := nB_c hO
  have h6 := hO.2.2.2.2.2.1
  intro m
  induction m with
  | zero =>
    intro k n σ hk hm hT hV hc
    obtain ⟨n, rfl⟩ : ∃ q, n = q + 1 := ⟨n - 1, by omega⟩
    refine ⟨σ, ?_, fun j hj => ?_, fun _ _ _ => rfl⟩
    · rw [f_X12_paints_24, m_blasts hR hT, bd_some, if_pos ((iI_leN (by omega)).mpr (by omega))]
    · rw [cov_P, show nB t = k by omega]
      exact hc j hj
  | succ m ih =>
    intro k n σ hk hm hT hV hc
    obtain ⟨n, rfl⟩ : ∃ q, n = q + 1 := ⟨n - 1, by omega⟩
    have hkb : (k : Int) < t 2 := by omega
    have hw := (hW k hkb).1
    rw [f_X12_paints_24, m_blasts hR hT, bd_some, if_neg (fun q => absurd ((iI_leN (by omega)).mp q) (by omega)), m_time hR hV (by omega), bd_some]
    by_cases c1 : w (14 * k) = -1
    · rw [if_pos (by rw [c1]; rfl)]
      unfold f_X12_paints_107
      rw [nI_1]
      refine ih (k + 1) n σ (by omega) (by omega) hT hV (fun j hj => ?_)
      rw [anyN_last, Nat.zero_add, show covP t (tms w) rd j k = false from (by unfold covP tms; rw [decide_eq_false (fun q => q.1 c1), Bool.false_and]), Bool.or_false]
      exact hc j hj
    · rw [if_neg (by rw [show (-1 : Int32) = iI (-1) from rfl, iI_eq (by omega)]; exact c1), m_isShut hR hT hO hkb hrd, bd_some]
      cases hs : shut t k rd
      · rw [bI_f, if_pos rfl]
        unfold f_X12_paints_107
        rw [nI_1]
        refine ih (k + 1) n σ (by omega) (by omega) hT hV (fun j hj => ?_)
        rw [anyN_last, Nat.zero_add, show covP t (tms w) rd j k = false from (by unfold covP; rw [hs, Bool.and_false]), Bool.or_false]
        exact hc j hj
      · have hF := cF_r hO (x := w (14 * k)) (by omega)
        have hE := cE_r hO (x := w (14 * k)) (by omega)
        have eF : (if (0 : Int32) < iI (w (14 * k) - t 6) then iI (w (14 * k) - t 6) else (0 : Int32)) = nI (cF t (w (14 * k))).toNat := by
          refine (iI_maxR (a := 0) (b := w (14 * k) - t 6) (by omega)).trans ?_
          rw [iI_nat]
          congr 1
          unfold mx cF
          omega
        rw [bI_t, if_neg (by decide), m_time hR hV (by omega), bd_some, show (6 : Int32) = nI 6 from rfl, ck_nI (by decide) (by decide), nI_clamp (by decide), hR.m11, hT, iI_sub, eF]
        obtain ⟨σ1, a1, a2, a3⟩ := m_paint71 (N := N) hR hO hW hkb c1 (K := fun σ x0 x1 x2 => f_X12_paints_24 N R n σ x0 x1 x2) (nI rd) _ (cF t (w (14 * k))).toNat N σ (by omega) rfl (by omega) hT hV
        rw [a1]
        obtain ⟨σ', b1, b2, b3⟩ := ih (k + 1) n σ1 (by omega) (by omega) (fun q => (a3 _ _ (by omega)).trans (hT q)) (fun q => (a3 _ _ (by omega)).trans (hV q)) (fun j hj => by
          rw [a2 j, hc j hj, anyN_last, Nat.zero_add]
          unfold covP tms
          rw [hs, Bool.and_true]
          by_cases d : (cF t (w (14 * k))).toNat ≤ j ∧ (j : Int) < cE t (w (14 * k))
          · rw [if_pos d, decide_eq_true (by refine ⟨c1, ?_⟩; omega), Bool.or_true]
            rfl
          · rw [if_neg d, decide_eq_false (fun q => d (by omega)), Bool.or_false])
        exact ⟨σ', b1, b2, fun x j hx => (b3 x j hx).trans (a3 x j hx)⟩
theorem m_paint2 (hN : 2000 ≤ N) (hR : RO R s) (hO : TOk t) (hW : WOk t w) {rd : Nat} (hrd : (rd : Int) < t 1) : ∀ (m k n : Nat) (σ : SI), k + m = 1440 → m < n → TV t σ → WV w σ → (∀ j : Nat, j < k → σ 186 j = 0) → ∃ σ', f_X12_paints_2 N R n σ 178 (nI rd) (nI k) = some ((), σ') ∧ (∀ j : Nat, j < 1440 → σ' 186 j = bI (cov t (tms w) rd j)) ∧ ∀ x j, x ≠ 186 → σ' x j = σ x j := by
  have hB := nB_c hO
  intro m
  induction m with
  | zero =>
    intro k n σ hk hm hT hV hc
    obtain ⟨n, rfl⟩ : ∃ q, n = q + 1 := ⟨n - 1, by omega⟩
    obtain ⟨σ', g1, g2, g3⟩ := m_paint24 (N := N) hN hR hO hW hrd (nB t) 0 N σ (by omega) (by omega) hT hV (fun j hj => hc j (by omega))
    refine ⟨σ', ?_, g2, g3⟩
    rw [f_X12_paints_2, if_pos (by rw [show k = 1440 by omega]; decide)]
    exact g1
  | succ m ih =>
    intro k n σ hk hm hT hV hc
    obtain ⟨n, rfl⟩ : ∃ q, n = q + 1 := ⟨n - 1, by omega⟩
    obtain ⟨σ', g1, g2, g3⟩ := ih (k + 1) n (up σ 186 k 0) (by omega) (by omega) (fun q => (if_neg (by omega)).trans (hT q)) (fun q => (if_neg (by omega)).trans (hV q)) (fun j hj => by
      unfold up
      by_cases c : j = k
      · rw [if_pos ⟨rfl, c⟩]
      · rw [if_neg (by omega)]
        exact hc j (by omega))
    refine ⟨σ', ?_, g2, fun x j q => (g3 x j q).trans (if_neg (by omega))⟩
    rw [f_X12_paints_2, if_neg (by rw [show (1440 : Int32) = nI 1440 from rfl, nI_leI (by omega) (by omega)]; omega), ck_nI (by omega) (by decide), sq_eq, hR.m17, nI_clamp (by omega), vpb_0, nI_1]
    exact g1
theorem m_paints (hN : 2000 ≤ N) (hR : RO R s) (hT : TV t σ) (hV : WV w σ) (hO : TOk t) (hW : WOk t w) {rd : Nat} (hrd : (rd : Int) < t 1) : ∃ σ', f_X12_paints N R σ 178 (nI rd) = some ((), σ') ∧ (∀ j : Nat, j < 1440 → σ' 186 j = bI (cov t (tms w) rd j)) ∧ ∀ x j, x ≠ 186 → σ' x j = σ x j := by
  unfold f_X12_paints
  exact m_paint2 hN hR hO hW hrd 1440 0 N σ (by omega) (by omega) hT hV (fun j hj => by omega)
theorem m_pin (hR : RO R s) {p : Nat → Bool} (hp : ∀ j : Nat, j < 1440 → σ 186 j = bI (p j)) {z : Nat} (hz : z ≤ 1440) : ∀ (m k n : Nat) (acc : Int), k + m = z → m < n → f_X12_paintedIn_5 N R n σ 178 (iI ((z : Int) - 1)) (iI acc) (nI k) = some (iI (acc + cnt p k m), σ) := by
  intro m
  induction m with
  | zero =>
    intro k n acc hk hm
    obtain ⟨n, rfl⟩ : ∃ q, n = q + 1 := ⟨n - 1, by omega⟩
    rw [f_X12_paintedIn_5, if_pos ((iI_ltN (by omega)).mpr (by omega))]
    show _ = some (iI (acc + 0), σ)
    rw [Int.add_zero]
  | succ m ih =>
    intro k n acc hk hm
    obtain ⟨n, rfl⟩ : ∃ q, n = q + 1 := ⟨n - 1, by omega⟩
    rw [f_X12_paintedIn_5, if_neg (fun q => absurd ((iI_ltN (by omega)).mp q) (by omega)), ck_nI (by omega) (by decide), hR.m17, nI_clamp (by omega), hp k (by omega), cnt_s, nI_1]
    cases p k
    · rw [bI_f, if_pos rfl, show (0 : Int32) = iI 0 from rfl, iI_add, ih (k + 1) n _ (by omega) (by omega), if_neg (by decide), Int.add_assoc]
    · rw [bI_t, if_neg (by decide), show (1 : Int32) = iI 1 from rfl, iI_add, ih (k + 1) n _ (by omega) (by omega), if_pos rfl, Int.add_assoc]
theorem m_closedOf (hN : 2000 ≤ N) (hR : RO R s) (hT : TV t σ) (hV : WV w σ) (hO : TOk t) (hW : WOk t w) {rd : Nat} (hrd : (rd : Int) < t 1) : ∃ σ', f_X12_closedOf N R σ 178 (nI rd) = some (iI (clo t (tms w) rd), σ') ∧ ∀ x j, x ≠ 186 → σ' x j = σ x j := by
  obtain ⟨σ', g1, g2, g3⟩ := m_paints hN hR hT hV hO hW hrd
  refine ⟨σ', ?_, g3⟩
  unfold f_X12_closedOf f_X12_paintedIn
  have e : f_X12_paintedIn_5 N R N σ' 178 (1439 : Int32) (0 : Int32) (0 : Int32) = some (iI (clo t (tms w) rd), σ') := by
    have := m_pin (N := N) hR g2 (z := 1440) (by omega) 1440 0 N 0 (by omega) (by omega)
    rw [Int.zero_add] at this
    exact this
  rw [g1, bd_some, e, bd_some]
theorem clo_r (t tm : Nat → Int) (r : Nat) : 0 ≤ clo t tm r ∧ clo t tm r ≤ 1440 := cnt_r _ 1440 0
theorem m_inAll (hN : 2000 ≤ N) (hR : RO R s) (hO : TOk t) (hW : WOk t w) : ∀ (m k n : Nat) (acc : Int) (σ : SI), k + m = nR t → m < n → TV t σ → WV w σ → ∃ σ', f_X12_closedInAll_4 N R n σ 178 (iI acc) (nI k) = some (iI (acc + sumF (clo t (tms w)) k m), σ') ∧ ∀ x j, x ≠ 186 → σ' x j = σ x j := by
  have hn := nR_c hO
  intro m
  induction m with
  | zero =>
    intro k n acc σ hk hm hT hV
    obtain ⟨n, rfl⟩ : ∃ q, n = q + 1 := ⟨n - 1, by omega⟩
    refine ⟨σ, ?_, fun _ _ _ => rfl⟩
    rw [f_X12_closedInAll_4, ck1, hR.m11, cl1, hT, if_pos ((iI_leN (by omega)).mpr (by omega))]
    show _ = some (iI (acc + 0), σ)
    rw [Int.add_zero]
  | succ m ih =>
    intro k n acc σ hk hm hT hV
    obtain ⟨n, rfl⟩ : ∃ q, n = q + 1 := ⟨n - 1, by omega⟩
    obtain ⟨σ1, a1, a2⟩ := m_closedOf hN hR hT hV hO hW (rd := k) (by omega)
    obtain ⟨σ', b1, b2⟩ := ih (k + 1) n (acc + clo t (tms w) k) σ1 (by omega) (by omega) (fun q => (a2 _ _ (by omega)).trans (hT q)) (fun q => (a2 _ _ (by omega)).trans (hV q))
    refine ⟨σ', ?_, fun x j hx => (b2 x j hx).trans (a2 x j hx)⟩
    rw [f_X12_closedInAll_4, ck1, hR.m11, cl1, hT, if_neg (fun q => absurd ((iI_leN (by omega)).mp q) (by omega)), a1, bd_some, iI_add, nI_1, b1, sumF_s, Int.add_assoc]
theorem c_total (hN : 2000 ≤ N) : ∀ (m k n : Nat) (acc : Int) (σ : SI), Iv σ R s t w → k + m = nR t → m < n → ∃ σ', f_X9_closedTotal_4 N R n σ s 31 (iI acc) (nI k) = some (iI (acc + sumF (clo t (tms w)) k m), σ') ∧ ∀ x j, x < 31 ∨ 33 < x → σ' x j = σ x j := by
  intro m
  induction m with
  | zero =>
    intro k n acc σ h hk hm
    have hn := nR_c h.tok
    obtain ⟨n, rfl⟩ : ∃ q, n = q + 1 := ⟨n - 1, by omega⟩
    refine ⟨σ, ?_, fun _ _ _ => rfl⟩
    rw [f_X9_closedTotal_4, h.cq.1.2.1, if_pos ((iI_leN (by omega)).mpr (by omega))]
    show _ = some (iI (acc + 0), σ)
    rw [Int.add_zero]
  | succ m ih =>
    intro k n acc σ h hk hm
    have hn := nR_c h.tok
    obtain ⟨n, rfl⟩ : ∃ q, n = q + 1 := ⟨n - 1, by omega⟩
    obtain ⟨σ1, r, F, E, g1, hM, hr, hr6, hp, g2⟩ := c_collect hN h (o := 31) (Or.inl rfl) (rd := k) (by omega)
    have h1 := h.same (ms_same (o := 31) (Or.inl rfl) g2)
    obtain ⟨σ', b1, b2⟩ := ih (k + 1) n (acc + clo t (tms w) k) σ1 h1 (by omega) (by omega)
    refine ⟨σ', ?_, fun x j hx => (b2 x j hx).trans (g2 x j hx)⟩
    rw [f_X9_closedTotal_4, h.cq.1.2.1, if_neg (fun q => absurd ((iI_leN (by omega)).mp q) (by omega)), g1, bd_some, c_size hN h.ro (Or.inl rfl) hr (by omega) hM hp, bd_some, show cnt (cov t (tms w) k) 0 1440 = clo t (tms w) k from rfl, iI_add, nI_1, b1, sumF_s, Int.add_assoc]
theorem m_begins (hR : RO R s) {p : Nat → Bool} (hp : ∀ j : Nat, j < 1440 → σ 186 j = bI (p j)) {k : Nat} (hk : k < 1440) : f_X12_beginsRun N R σ 178 (nI k) = some (bI (bgn p k), σ) := by
  unfold f_X12_beginsRun f_X12_beginsRun_24 bgn
  rw [ck_nI (by omega) (by decide), hR.m17, nI_clamp (by omega), hp k hk]
  cases p k
  · rw [bI_f, if_pos rfl, Bool.false_and]
    rfl
  · rw [bI_t, if_neg (by decide), Bool.true_and]
    by_cases c : k = 0
    · rw [if_pos (by rw [c]; rfl), decide_eq_true c, Bool.true_or]
      rfl
    · rw [if_neg (by rw [show (0 : Int32) = nI 0 from rfl, nI_eq (by omega) (by omega)]; exact c), show (1 : Int32) = nI 1 from rfl, nI_sub (by omega), ck_nI (by omega) (by decide), nI_clamp (by omega), hp (k - 1) (by omega), decide_eq_false c, Bool.false_or]
      cases p (k - 1)
      · rfl
      · rfl
theorem m_closures (hR : RO R s) {p : Nat → Bool} (hp : ∀ j : Nat, j < 1440 → σ 186 j = bI (p j)) : ∀ (m k n : Nat) (acc : Int), k + m = 1440 → m < n → f_X12_closures_24 N R n σ 178 (iI acc) (nI k) = some (iI (acc + cnt (bgn p) k m), σ) := by
  intro m
  induction m with
  | zero =>
    intro k n acc hk hm
    obtain ⟨n, rfl⟩ : ∃ q, n = q + 1 := ⟨n - 1, by omega⟩
    rw [f_X12_closures_24, if_pos (by rw [show k = 1440 by omega]; decide)]
    show _ = some (iI (acc + 0), σ)
    rw [Int.add_zero]
  | succ m ih =>
    intro k n acc hk hm
    obtain ⟨n, rfl⟩ : ∃ q, n = q + 1 := ⟨n - 1, by omega⟩
    rw [f_X12_closures_24, if_neg (by rw [show (1440 : Int32) = nI 1440 from rfl, nI_leI (by omega) (by omega)]; omega), m_begins hR hp (by omega), bd_some, cnt_s, nI_1]
    cases bgn p k
    · rw [bI_f, if_pos rfl, show (0 : Int32) = iI 0 from rfl, iI_add, ih (k + 1) n _ (by omega) (by omega), if_neg (by decide), Int.add_assoc]
    · rw [bI_t, if_neg (by decide), show (1 : Int32) = iI 1 from rfl, iI_add, ih (k + 1) n _ (by omega) (by omega), if_pos rfl, Int.add_assoc]
theorem m_runAt {r : Nat} {F E : Nat → Int} (hR : RO R s) {p : Nat → Bool} (hp : ∀ j : Nat, j < 1440 → σ 186 j = bI (p j)) (hr : Runs r F E) (hr6 : r ≤ 6) (hq : ∀ m : Nat, m < 1440 → (p m = true ↔ inR F E r m)) (x : Int32) : ∀ (m k n c : Nat), k + m = 1440 → m < n → c ≤ r → (∀ i, i < c → F i < k) → (∀ i, c ≤ i → i < r → (k : Int) ≤ F i) → ¬ (0 ≤ x.toInt ∧ x.toInt < c) → f_X12_runAt_10 N R n σ 178 x (nI c) (nI k) = some (iI (if 0 ≤ x.toInt ∧ x.toInt < r then F x.toInt.toNat else -1), σ) := by
  intro m
  induction m with
  | zero =>
    intro k n c hk hm hc h1 h2 hx
    obtain ⟨n, rfl⟩ : ∃ q, n = q + 1 := ⟨n - 1, by omega⟩
    have e : c = r := by
      refine Nat.le_antisymm hc (Nat.le_of_not_lt fun q => ?_)
      have := h2 c (by omega) q
      have := hr.1 c q
      omega
    rw [f_X12_runAt_10, if_pos (by rw [show k = 1440 by omega]; decide), if_neg (by omega)]
    rfl
  | succ m ih =>
    intro k n c hk hm hc h1 h2 hx
    obtain ⟨n, rfl⟩ : ∃ q, n = q + 1 := ⟨n - 1, by omega⟩
    have hb := bgn_iff hr hq k (by omega)
    rw [f_X12_runAt_10, if_neg (by rw [show (1440 : Int32) = nI 1440 from rfl, nI_leI (by omega) (by omega)]; omega), m_begins hR hp (by omega), bd_some]
    unfold f_X12_runAt_41
    rw [nI_1, nI_1]
    cases hz : bgn p k
    · have hno : ∀ i, i < r → F i ≠ k := fun i i1 i2 => by
        rw [hb.mpr ⟨i, i1, i2⟩] at hz
        cases hz
      rw [bI_f, if_pos rfl]
      exact ih (k + 1) n c (by omega) (by omega) hc (fun i hi => by have := h1 i hi; omega) (fun i i1 i2 => by have := h2 i i1 i2; have := hno i i2; omega) hx
    · obtain ⟨i, i1, i2⟩ := hb.mp hz
      have hci : c ≤ i := Nat.le_of_not_lt fun q => by have := h1 i q; omega
      have hcc : F c = k := by
        have a1 := h2 c (by omega) (by omega)
        have a2 := (hr.mono (i := c) (j := i) hci i1).1
        omega
      have hcr : c < r := by omega
      rw [bI_t, if_neg (by decide)]
      by_cases d : x.toInt = c
      · rw [if_pos (by rw [iI_of x, d, iI_nat]), if_pos (by omega), d, show ((c : Int)).toNat = c from rfl, hcc, iI_nat]
      · rw [if_neg (fun q => d (by rw [← q, nI_toInt (by omega)]))]
        refine ih (k + 1) n (c + 1) (by omega) (by omega) (by omega) (fun i hi => ?_) (fun i i1 i2 => ?_) (by omega)
        · by_cases e : i = c
          · rw [e]
            omega
          · have := h1 i (by omega)
            omega
        · have a3 := hr.2 c i (by omega) i2
          have a4 := hr.1 c hcr
          omega
theorem m_cl32 {r : Nat} {F E : Nat → Int} (hR : RO R s) {p : Nat → Bool} (hp : ∀ j : Nat, j < 1440 → σ 186 j = bI (p j)) (hr : Runs r F E) (hq : ∀ m : Nat, m < 1440 → (p m = true ↔ inR F E r m)) {i : Nat} (hi : i < r) : ∀ (m k n : Nat), F i ≤ k → (k : Int) + m = E i → m < n → f_X12_closureLength_32 N R n σ 178 (iI (F i)) (nI k) = some (iI (E i - F i), σ) := by
  have h0 := hr.1 i hi
  intro m
  induction m with
  | zero =>
    intro k n h1 h2 hm
    obtain ⟨n, rfl⟩ : ∃ q, n = q + 1 := ⟨n - 1, by omega⟩
    have e : nI k - iI (F i) = iI (E i - F i) := by
      rw [iI_nat, iI_sub]
      congr 1
      omega
    rw [f_X12_closureLength_32, e]
    by_cases c : k = 1440
    · rw [if_pos (by rw [c]; decide)]
    · rw [if_neg (by rw [show (1440 : Int32) = nI 1440 from rfl, nI_leI (by omega) (by omega)]; omega), ck_nI (by omega) (by decide), hR.m17, nI_clamp (by omega), hp k (by omega)]
      have : p k = false := by
        cases hz : p k
        · rfl
        · obtain ⟨j, j1, j2, j3⟩ := (hq k (by omega)).mp hz
          rcases Nat.lt_trichotomy i j with g | g | g
          · have := hr.2 i j g j1
            omega
          · subst g
            omega
          · have := hr.2 j i g hi
            omega
      rw [this, bI_f, if_pos rfl]
  | succ m ih =>
    intro k n h1 h2 hm
    obtain ⟨n, rfl⟩ : ∃ q, n = q + 1 := ⟨n - 1, by omega⟩
    rw [f_X12_closureLength_32, if_neg (by rw [show (1440 : Int32) = nI 1440 from rfl, nI_leI (by omega) (by omega)]; omega), ck_nI (by omega) (by decide), hR.m17, nI_clamp (by omega), hp k (by omega), (hq k (by omega)).mpr ⟨i, hi, by omega, by omega⟩, bI_t, if_neg (by decide), nI_1]
    exact ih (k + 1) n (by omega) (by omega) (by omega)
end CLOSED
