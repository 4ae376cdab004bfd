/-! ===== reading rows and cells ===== -/
theorem n10 : ((1 : Int32) = 0) = False := eq_false (by decide)
theorem l_0 : (0 : Int32) = nI 0 := rfl
theorem l_1 : (1 : Int32) = nI 1 := rfl
section MACC
variable {N : Nat} {R : Nat → Nat → Nat} {s : Nat} {t w : Nat → Int} {σ : SI}
theorem m_ofNear (hR : RO R s) (hT : TV t σ) {n q : Nat} (hn : n < 8) (hq : q < 18) : f_X12_ofNear N R σ 178 (nI n) (nI q) = some (iI (t (81 + 18 * n + q)), σ) := by
  unfold f_X12_ofNear
  rw [show (81 : Int32) = nI 81 from rfl, show (18 : Int32) = nI 18 from rfl, nI_mul, nI_add, nI_add, ck_nI (by omega) (by omega), nI_clamp (by omega), hR.m11, hT]
theorem m_ofRoad (hR : RO R s) (hT : TV t σ) {n q : Nat} (hn : n < 6) (hq : q < 10) : f_X12_ofRoad N R σ 178 (nI n) (nI q) = some (iI (t (225 + 10 * n + q)), σ) := by
  unfold f_X12_ofRoad
  rw [show (225 : Int32) = nI 225 from rfl, show (10 : Int32) = nI 10 from rfl, nI_mul, nI_add, nI_add, ck_nI (by omega) (by omega), nI_clamp (by omega), hR.m11, hT]
theorem m_ofBlast (hR : RO R s) (hT : TV t σ) {n q : Nat} (hn : n < 6) (hq : q < 22) : f_X12_ofBlast N R σ 178 (nI n) (nI q) = some (iI (t (285 + 22 * n + q)), σ) := by
  unfold f_X12_ofBlast
  rw [show (285 : Int32) = nI 285 from rfl, show (22 : Int32) = nI 22 from rfl, nI_mul, nI_add, nI_add, ck_nI (by omega) (by omega), nI_clamp (by omega), hR.m11, hT]
theorem m_near6 (hR : RO R s) (hT : TV t σ) {n : Nat} (hn : n < 8) : f_X12_ofNear N R σ 178 (nI n) 6 = some (iI (t (81 + 18 * n + 6)), σ) := m_ofNear hR hT hn (q := 6) (by decide)
theorem m_near7 (hR : RO R s) (hT : TV t σ) {n : Nat} (hn : n < 8) : f_X12_ofNear N R σ 178 (nI n) 7 = some (iI (t (81 + 18 * n + 7)), σ) := m_ofNear hR hT hn (q := 7) (by decide)
theorem m_near8 (hR : RO R s) (hT : TV t σ) {n : Nat} (hn : n < 8) : f_X12_ofNear N R σ 178 (nI n) 8 = some (iI (t (81 + 18 * n + 8)), σ) := m_ofNear hR hT hn (q := 8) (by decide)
theorem m_near9 (hR : RO R s) (hT : TV t σ) {n : Nat} (hn : n < 8) : f_X12_ofNear N R σ 178 (nI n) 9 = some (iI (t (81 + 18 * n + 9)), σ) := m_ofNear hR hT hn (q := 9) (by decide)
theorem m_road6 (hR : RO R s) (hT : TV t σ) {n : Nat} (hn : n < 6) : f_X12_ofRoad N R σ 178 (nI n) 6 = some (iI (t (225 + 10 * n + 6)), σ) := m_ofRoad hR hT hn (q := 6) (by decide)
theorem m_road7 (hR : RO R s) (hT : TV t σ) {n : Nat} (hn : n < 6) : f_X12_ofRoad N R σ 178 (nI n) 7 = some (iI (t (225 + 10 * n + 7)), σ) := m_ofRoad hR hT hn (q := 7) (by decide)
theorem m_road8 (hR : RO R s) (hT : TV t σ) {n : Nat} (hn : n < 6) : f_X12_ofRoad N R σ 178 (nI n) 8 = some (iI (t (225 + 10 * n + 8)), σ) := m_ofRoad hR hT hn (q := 8) (by decide)
theorem m_road9 (hR : RO R s) (hT : TV t σ) {n : Nat} (hn : n < 6) : f_X12_ofRoad N R σ 178 (nI n) 9 = some (iI (t (225 + 10 * n + 9)), σ) := m_ofRoad hR hT hn (q := 9) (by decide)
theorem m_bl6 (hR : RO R s) (hT : TV t σ) {n : Nat} (hn : n < 6) : f_X12_ofBlast N R σ 178 (nI n) 6 = some (iI (t (285 + 22 * n + 6)), σ) := m_ofBlast hR hT hn (q := 6) (by decide)
theorem m_bl7 (hR : RO R s) (hT : TV t σ) {n : Nat} (hn : n < 6) : f_X12_ofBlast N R σ 178 (nI n) 7 = some (iI (t (285 + 22 * n + 7)), σ) := m_ofBlast hR hT hn (q := 7) (by decide)
theorem m_bl8 (hR : RO R s) (hT : TV t σ) {n : Nat} (hn : n < 6) : f_X12_ofBlast N R σ 178 (nI n) 8 = some (iI (t (285 + 22 * n + 8)), σ) := m_ofBlast hR hT hn (q := 8) (by decide)
theorem m_bl9 (hR : RO R s) (hT : TV t σ) {n : Nat} (hn : n < 6) : f_X12_ofBlast N R σ 178 (nI n) 9 = some (iI (t (285 + 22 * n + 9)), σ) := m_ofBlast hR hT hn (q := 9) (by decide)
theorem m_charges (hR : RO R s) (hT : TV t σ) {n : Nat} (hn : n < 6) : f_X12_charges N R σ 178 (nI n) = some (iI (t (285 + 22 * n + 9)), σ) := by
  unfold f_X12_charges
  rw [m_bl9 hR hT hn, bd_some]
theorem m_chargeOf (hR : RO R s) (hT : TV t σ) {n c : Nat} (hn : n < 6) (hc : c < 12) : f_X12_chargeOf N R σ 178 (nI n) (nI c) = some (iI (sz t n c), σ) := by
  unfold f_X12_chargeOf
  rw [show (10 : Int32) = nI 10 from rfl, nI_add, m_ofBlast hR hT hn (by omega), bd_some]
  unfold sz
  rw [show 285 + 22 * n + (10 + c) = 285 + 22 * n + 10 + c by omega]
theorem m_delayOf (hR : RO R s) (hW : WV w σ) {n c : Nat} (hn : n < 6) (hc : c < 12) : f_X12_delayOf N R σ 178 (nI n) (nI c) = some (iI (dl w n c), σ) := by
  unfold f_X12_delayOf
  rw [show (14 : Int32) = nI 14 from rfl, show (2 : Int32) = nI 2 from rfl, nI_mul, nI_add, nI_add, ck_nI (by omega) (by omega), nI_clamp (by omega), hR.m13, hW]
  rfl
theorem m_time (hR : RO R s) (hW : WV w σ) {n : Nat} (hn : n < 6) : f_X12_time N R σ 178 (nI n) = some (iI (w (14 * n)), σ) := by
  unfold f_X12_time
  rw [show (14 : Int32) = nI 14 from rfl, show (0 : Int32) = nI 0 from rfl, nI_mul, nI_add, ck_nI (by omega) (by omega), nI_clamp (by omega), hR.m13, hW]
  rfl
theorem m_hasFired (hR : RO R s) (hW : WV w σ) {n : Nat} (hn : n < 6) (h01 : w (14 * n + 1) = 0 ∨ w (14 * n + 1) = 1) : f_X12_hasFired N R σ 178 (nI n) = some (iI (w (14 * n + 1)), σ) := by
  unfold f_X12_hasFired
  rw [show (14 : Int32) = nI 14 from rfl, show (1 : Int32) = nI 1 from rfl, nI_mul, nI_add, ck_nI (by omega) (by omega), nI_clamp (by omega), hR.m13, hW]
  rcases h01 with e | e <;> rw [e]
  · rw [if_neg (by decide)]
    rfl
  · rw [if_pos (by decide)]
    rfl
theorem m_blasts (hR : RO R s) (hT : TV t σ) : f_X12_blasts N R σ 178 = some (iI (t 2), σ) := by
  unfold f_X12_blasts
  rw [show (2 : Int32) = nI 2 from rfl, ck_nI (by decide) (by decide), nI_clamp (by decide), hR.m11, hT]
theorem m_starts (hR : RO R s) (hT : TV t σ) (hO : TOk t) : f_X12_starts N R σ 178 = some (iI (nS t), σ) := by
  unfold f_X12_starts
  have h3 := hO.2.2.2.1
  have h5 := hO.2.2.2.2.1
  have h6 : (t 4 - t 3) / t 5 ≤ t 4 - t 3 := Int.ediv_le_self _ (by omega)
  have h7 : 0 ≤ (t 4 - t 3) / t 5 := Int.ediv_nonneg (by omega) (by omega)
  rw [show (4 : Int32) = nI 4 from rfl, show (3 : Int32) = nI 3 from rfl, show (5 : Int32) = nI 5 from rfl, show (1 : Int32) = iI 1 from rfl, ck_nI (by decide) (by decide), ck_nI (by decide) (by decide), ck_nI (by decide) (by decide), nI_clamp (by decide), nI_clamp (by decide), nI_clamp (by decide), hR.m11, hT, hT, hT,
    cd_ne (by rw [show (0 : Int32) = iI 0 from rfl, iI_eq (by omega)]; omega), iI_sub, iI_div (by omega) (by omega), iI_add]
  unfold nS
  congr 3
  omega
theorem m_startAt (hR : RO R s) (hT : TV t σ) (k : Nat) : f_X12_startAt N R σ 178 (nI k) = some (iI (stA t k), σ) := by
  unfold f_X12_startAt
  rw [show (3 : Int32) = nI 3 from rfl, show (5 : Int32) = nI 5 from rfl, ck_nI (by decide) (by decide), ck_nI (by decide) (by decide), nI_clamp (by decide), nI_clamp (by decide), hR.m11, hT, hT, iI_nat, iI_mul, iI_add]
  rfl
theorem m_in (x a b : Int32) : f_X12_in N R σ x a b = some (bI (decide (a.toInt ≤ x.toInt ∧ x.toInt ≤ b.toInt)), σ) := by
  unfold f_X12_in
  by_cases h1 : x < a
  · rw [if_pos h1]
    rw [Int32.lt_iff_toInt_lt] at h1
    rw [decide_eq_false (by omega)]
    rfl
  · rw [if_neg h1]
    rw [Int32.lt_iff_toInt_lt] at h1
    by_cases h2 : b < x
    · rw [if_pos h2]
      rw [Int32.lt_iff_toInt_lt] at h2
      rw [decide_eq_false (by omega)]
      rfl
    · rw [if_neg h2]
      rw [Int32.lt_iff_toInt_lt] at h2
      rw [decide_eq_true (by omega)]
      rfl
theorem m_throws0 (c : Int32) : f_X12_throwsIf N R σ 178 0 c = some (0, σ) := by
  unfold f_X12_throwsIf
  rw [if_pos rfl, cb_0]
theorem m_throws1 (c : Int32) : f_X12_throwsIf N R σ 178 1 c = some (1, up σ 178 0 c) := by
  unfold f_X12_throwsIf
  rw [if_neg (by decide), sq_eq, cb_1]
theorem iI_sub1 (a : Int) (h : -2147483647 ≤ a ∧ a ≤ 2147483647) : (iI a - 1).toInt = a - 1 := by
  rw [show (1 : Int32) = iI 1 from rfl, iI_sub, iI_toInt (by omega)]
theorem m_noBlast (hR : RO R s) (hT : TV t σ) (hO : TOk t) (x : Int32) : f_X12_noBlast N R σ 178 x = if 0 ≤ x.toInt ∧ x.toInt < t 2 then some (0, σ) else some (1, up σ 178 0 1) := by
  have h2 := hO.2.2.1
  unfold f_X12_noBlast
  rw [m_blasts hR hT, bd_some, m_in, bd_some, iI_sub1 _ (by omega), show (0 : Int32).toInt = 0 from rfl]
  by_cases h : 0 ≤ x.toInt ∧ x.toInt < t 2
  · rw [if_pos h, decide_eq_true (by omega), bI_t, if_neg (by decide), m_throws0, bd_some, cb_0]
  · rw [if_neg h, decide_eq_false (by omega), bI_f, if_pos rfl, m_throws1, bd_some, cb_1]
theorem m_noNear (hR : RO R s) (hT : TV t σ) (hO : TOk t) (x : Int32) : f_X12_noNear N R σ 178 x = if 0 ≤ x.toInt ∧ x.toInt < t 0 then some (0, σ) else some (1, up σ 178 0 1) := by
  have h2 := hO.1
  unfold f_X12_noNear
  rw [show ck (0 : Int32) 417 = ck (α := Int32 × SI) (nI 0) 417 from rfl, ck_nI (by decide) (by decide), show (0 : Int32).toNatClampNeg = 0 from rfl, hR.m11, hT, m_in, bd_some, iI_sub1 _ (by omega), show (0 : Int32).toInt = 0 from rfl]
  by_cases h : 0 ≤ x.toInt ∧ x.toInt < t 0
  · rw [if_pos h, decide_eq_true (by omega), bI_t, if_neg (by decide), m_throws0, bd_some, cb_0]
  · rw [if_neg h, decide_eq_false (by omega), bI_f, if_pos rfl, m_throws1, bd_some, cb_1]
theorem m_noRoad (hR : RO R s) (hT : TV t σ) (hO : TOk t) (x : Int32) : f_X12_noRoad N R σ 178 x = if 0 ≤ x.toInt ∧ x.toInt < t 1 then some (0, σ) else some (1, up σ 178 0 1) := by
  have h2 := hO.2.1
  unfold f_X12_noRoad
  rw [show ck (1 : Int32) 417 = ck (α := Int32 × SI) (nI 1) 417 from rfl, ck_nI (by decide) (by decide), show (1 : Int32).toNatClampNeg = 1 from rfl, hR.m11, hT, m_in, bd_some, iI_sub1 _ (by omega), show (0 : Int32).toInt = 0 from rfl]
  by_cases h : 0 ≤ x.toInt ∧ x.toInt < t 1
  · rw [if_pos h, decide_eq_true (by omega), bI_t, if_neg (by decide), m_throws0, bd_some, cb_0]
  · rw [if_neg h, decide_eq_false (by omega), bI_f, if_pos rfl, m_throws1, bd_some, cb_1]
theorem m_noCharge (hR : RO R s) (hT : TV t σ) {b : Nat} (hb : b < 6) (hc : 0 ≤ t (285 + 22 * b + 9) ∧ t (285 + 22 * b + 9) ≤ 12) (x : Int32) : f_X12_noCharge N R σ 178 (nI b) x = if 0 ≤ x.toInt ∧ x.toInt < t (285 + 22 * b + 9) then some (0, σ) else some (1, up σ 178 0 1) := by
  unfold f_X12_noCharge
  rw [m_bl9 hR hT hb, bd_some, m_in, bd_some, iI_sub1 _ (by omega), show (0 : Int32).toInt = 0 from rfl]
  by_cases h : 0 ≤ x.toInt ∧ x.toInt < t (285 + 22 * b + 9)
  · rw [if_pos h, decide_eq_true (by omega), bI_t, if_neg (by decide), m_throws0, bd_some, cb_0]
  · rw [if_neg h, decide_eq_false (by omega), bI_f, if_pos rfl, m_throws1, bd_some, cb_1]
theorem m_noMinute (x : Int32) : f_X12_noMinute N R σ 178 x = if 0 ≤ x.toInt ∧ x.toInt ≤ 1439 then some (0, σ) else some (1, up σ 178 0 2) := by
  unfold f_X12_noMinute
  rw [m_in, bd_some, show (0 : Int32).toInt = 0 from rfl, show (1439 : Int32).toInt = 1439 from rfl]
  by_cases h : 0 ≤ x.toInt ∧ x.toInt ≤ 1439
  · rw [if_pos h, decide_eq_true (by omega), bI_t, if_neg (by decide), m_throws0, bd_some, cb_0]
  · rw [if_neg h, decide_eq_false (by omega), bI_f, if_pos rfl, m_throws1, bd_some, cb_1]
-- the class's checks
theorem c_needBlast (hR : RO R s) (hB : σ s 11 = iI (t 2)) (hO : TOk t) (x : Int32) : f_X11_needBlast N R σ 1 x = if 0 ≤ x.toInt ∧ x.toInt < t 2 then some (.inl (), σ) else some (.inr 0, σ) := by
  have h2 := hO.2.2.1
  unfold f_X11_needBlast
  rw [hR.site, hB]
  have a1 : x < 0 ↔ x.toInt < 0 := Int32.lt_iff_toInt_lt
  have a2 : x < iI (t 2) ↔ x.toInt < t 2 := by rw [Int32.lt_iff_toInt_lt, iI_toInt (by omega)]
  by_cases h : 0 ≤ x.toInt ∧ x.toInt < t 2
  · rw [if_pos h, if_neg (by rw [a1]; omega), if_pos (by rw [a2]; omega)]
  · rw [if_neg h]
    by_cases h3 : x.toInt < 0
    · rw [if_pos (a1.mpr h3)]
      rfl
    · rw [if_neg (by rw [a1]; exact h3), if_neg (by rw [a2]; omega)]
      rfl
theorem c_blastAt (hR : RO R s) (hB : σ s 11 = iI (t 2)) (hO : TOk t) (x : Int32) : f_X11_blastAt N R σ 1 x = if 0 ≤ x.toInt ∧ x.toInt < t 2 then some (.inl (s + 40 + 5 * x.toInt.toNat), σ) else some (.inr 0, σ) := by
  have h2 := hO.2.2.1
  unfold f_X11_blastAt
  rw [c_needBlast hR hB hO]
  by_cases h : 0 ≤ x.toInt ∧ x.toInt < t 2
  · rw [if_pos h, if_pos h, bdX_inl]
    unfold ck
    rw [if_pos (by omega), hR.site, hR.si 2 (by decide), show s + 1 + 2 = s + 3 by omega]
    rw [show x.toNatClampNeg = x.toInt.toNat from rfl, hR.bl _ (by omega)]
  · rw [if_neg h, if_neg h, bdX_inr]
theorem c_neighbourAt (hR : RO R s) (hB : σ s 9 = iI (t 0)) (hO : TOk t) (x : Int32) : f_X11_neighbourAt N R σ 1 x = if 0 ≤ x.toInt ∧ x.toInt < t 0 then some (.inl (s + 10 + 3 * x.toInt.toNat), σ) else some (.inr 0, σ) := by
  have h2 := hO.1
  unfold f_X11_neighbourAt
  rw [hR.site, hB]
  have a1 : x < 0 ↔ x.toInt < 0 := Int32.lt_iff_toInt_lt
  have a2 : x < iI (t 0) ↔ x.toInt < t 0 := by rw [Int32.lt_iff_toInt_lt, iI_toInt (by omega)]
  by_cases h : 0 ≤ x.toInt ∧ x.toInt < t 0
  · rw [if_pos h, if_neg (by rw [a1]; omega), if_pos (by rw [a2]; omega)]
    unfold ck
    rw [if_pos (by omega), hR.si 0 (by decide), show s + 1 + 0 = s + 1 by omega]
    rw [show x.toNatClampNeg = x.toInt.toNat from rfl, hR.nb _ (by omega)]
  · rw [if_neg h]
    by_cases h3 : x.toInt < 0
    · rw [if_pos (a1.mpr h3)]
      rfl
    · rw [if_neg (by rw [a1]; exact h3), if_neg (by rw [a2]; omega)]
      rfl
theorem c_roadAt (hR : RO R s) (hB : σ s 10 = iI (t 1)) (hO : TOk t) (x : Int32) : f_X11_roadAt N R σ 1 x = if 0 ≤ x.toInt ∧ x.toInt < t 1 then some (.inl (s + 34 + x.toInt.toNat), σ) else some (.inr 0, σ) := by
  have h2 := hO.2.1
  unfold f_X11_roadAt
  rw [hR.site, hB]
  have a1 : x < 0 ↔ x.toInt < 0 := Int32.lt_iff_toInt_lt
  have a2 : x < iI (t 1) ↔ x.toInt < t 1 := by rw [Int32.lt_iff_toInt_lt, iI_toInt (by omega)]
  by_cases h : 0 ≤ x.toInt ∧ x.toInt < t 1
  · rw [if_pos h, if_neg (by rw [a1]; omega), if_pos (by rw [a2]; omega)]
    unfold ck
    rw [if_pos (by omega), hR.si 1 (by decide), show s + 1 + 1 = s + 2 by omega]
    rw [show x.toNatClampNeg = x.toInt.toNat from rfl, hR.rd _ (by omega)]
  · rw [if_neg h]
    by_cases h3 : x.toInt < 0
    · rw [if_pos (a1.mpr h3)]
      rfl
    · rw [if_neg (by rw [a1]; exact h3), if_neg (by rw [a2]; omega)]
      rfl
theorem c_needCharge {b : Nat} (hB : σ (s + 40 + 5 * b) 7 = iI (t (285 + 22 * b + 9))) (hc : 0 ≤ t (285 + 22 * b + 9) ∧ t (285 + 22 * b + 9) ≤ 12) (x : Int32) : f_X11_needCharge N R σ 1 (s + 40 + 5 * b) x = if 0 ≤ x.toInt ∧ x.toInt < t (285 + 22 * b + 9) then some (.inl (), σ) else some (.inr 0, σ) := by
  unfold f_X11_needCharge
  rw [hB]
  have a1 : x < 0 ↔ x.toInt < 0 := Int32.lt_iff_toInt_lt
  have a2 : x < iI (t (285 + 22 * b + 9)) ↔ x.toInt < t (285 + 22 * b + 9) := by rw [Int32.lt_iff_toInt_lt, iI_toInt (by omega)]
  by_cases h : 0 ≤ x.toInt ∧ x.toInt < t (285 + 22 * b + 9)
  · rw [if_pos h, if_neg (by rw [a1]; omega), if_pos (by rw [a2]; omega)]
  · rw [if_neg h]
    by_cases h3 : x.toInt < 0
    · rw [if_pos (a1.mpr h3)]
      rfl
    · rw [if_neg (by rw [a1]; exact h3), if_neg (by rw [a2]; omega)]
      rfl
theorem c_needRange (x a b : Int32) : f_X11_needRange N R σ 1 x a b = if a.toInt ≤ x.toInt ∧ x.toInt ≤ b.toInt then some (.inl (), σ) else some (.inr 1, σ) := by
  unfold f_X11_needRange
  have a1 : x < a ↔ x.toInt < a.toInt := Int32.lt_iff_toInt_lt
  have a2 : x ≤ b ↔ x.toInt ≤ b.toInt := Int32.le_iff_toInt_le
  by_cases h : a.toInt ≤ x.toInt ∧ x.toInt ≤ b.toInt
  · rw [if_pos h, if_neg (by rw [a1]; omega), if_pos (by rw [a2]; omega)]
  · rw [if_neg h]
    by_cases h3 : x.toInt < a.toInt
    · rw [if_pos (a1.mpr h3)]
      rfl
    · rw [if_neg (by rw [a1]; exact h3), if_neg (by rw [a2]; omega)]
      rfl
end MACC
