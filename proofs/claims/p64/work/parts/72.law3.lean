/-! ===== the reason, as the law asks it ===== -/
section VL3
variable {N : Nat} {R : Nat → Nat → Nat} {σ : SI} {sd : SDt} {ws : List WDt} {ns : List NDt} {rs : List RDt} {bs : List BDt}
/-- dust -/
theorem w_r163 (hRD : RDq R) (hQ : Qc σ sd ws ns rs bs) (hok : QOk sd ws ns rs bs) {b x : Nat} (hb : b < bs.length) (hx : x < 1440) : ∀ (m k n : Nat), k + m = ns.length → m < n → f_X12_reason_163 N R n σ 178 (nI b) (nI x) (nI k) = some (if anyN (isD (tQ sd ws ns rs bs) b (x / 60)) k m then (4 : Int32) else 0, σ) := by
  have h0 := hQ.1.1
  have hn2 := hok.2.2.1.1
  have ex : nI x / (60 : Int32) = nI (x / 60) := by
    rw [show (60 : Int32) = nI 60 from rfl, iI_nat, iI_nat, iI_div (by omega) (by omega), iI_nat]
    rfl
  intro m
  induction m with
  | zero =>
    intro k n hk hn
    obtain ⟨n, rfl⟩ : ∃ q, n = q + 1 := ⟨n - 1, by omega⟩
    rw [f_X12_reason_163, h0, if_pos (nI_le (by omega) (by omega))]
    rfl
  | succ m ih =>
    intro k n hk hn
    obtain ⟨n, rfl⟩ : ∃ q, n = q + 1 := ⟨n - 1, by omega⟩
    rw [f_X12_reason_163, h0, if_neg (nI_ge (by omega) (by omega)), ex, w_dusty hRD hQ hok hb (by omega) (by omega), bd_some, anyN_s]
    cases isD (tQ sd ws ns rs bs) b (x / 60) k with
    | true => rw [bI_t, if_neg (by decide), Bool.true_or]; rfl
    | false => rw [bI_f, if_pos rfl, nI_1, ih (k + 1) n (by omega) (by omega), Bool.false_or]
/-- quiet windows -/
theorem w_r107 (hN : 2000 ≤ N) (hRD : RDq R) (hQ : Qc σ sd ws ns rs bs) (hok : QOk sd ws ns rs bs) {b x : Nat} (hb : b < bs.length) (hx : x < 1440) : ∀ (m k n : Nat), k + m = ns.length → m < n → f_X12_reason_107 N R n σ 178 (nI b) (nI x) (nI k) = if anyN (fun n => still (tQ sd ws ns rs bs) n (x : Int) && heard (tQ sd ws ns rs bs) b n) k m then some ((3 : Int32), σ) else f_X12_reason_163 N R N σ 178 (nI b) (nI x) 0 := by
  have h0 := hQ.1.1
  have hn2 := hok.2.2.1.1
  have hb3 := hok.2.2.2.2.1.2
  obtain ⟨g1, g2, g3, g4, g5⟩ := hQ.2.2.2.2 b hb
  obtain ⟨q1, q2, q3, q4, -⟩ := hok.2.2.2.2.2 _ (getD_mem (x := (0, 0, 0, [])) hb)
  have r20 : R 178 20 = 190 := rd_21 hRD 11 (by decide)
  have tb := (T_b hok hb).2.2.1
  generalize (bs.getD b (0, 0, 0, [])).2.2.1 = rad at g3 q3 q4 tb
  have e9 : (9 : Int) * rad * rad = (3 * (rad : Int)) * (3 * (rad : Int)) := by
    have e1 : (3 * (rad : Int)) * (3 * (rad : Int)) = 3 * (3 * ((rad : Int) * rad)) := by
      rw [Int.mul_assoc, Int.mul_left_comm (rad : Int) 3 rad]
    have e2 : (9 : Int) * rad * rad = 9 * ((rad : Int) * rad) := Int.mul_assoc _ _ _
    rw [e1, e2]
    generalize (rad : Int) * rad = z
    omega
  have e9b : 0 ≤ (9 : Int) * rad * rad ∧ (9 : Int) * rad * rad ≤ 200000 := by
    have h1 : rad * rad ≤ 120 * 120 := Nat.mul_le_mul q4 q4
    have h2 : (9 : Int) * rad * rad = ((9 * (rad * rad) : Nat) : Int) := by
      rw [Int.mul_assoc]
      rfl
    omega
  intro m
  induction m with
  | zero =>
    intro k n hk hn
    obtain ⟨n, rfl⟩ : ∃ q, n = q + 1 := ⟨n - 1, by omega⟩
    rw [f_X12_reason_107, h0, if_pos (nI_le (by omega) (by omega))]
    rfl
  | succ m ih =>
    intro k n hk hn
    obtain ⟨n, rfl⟩ : ∃ q, n = q + 1 := ⟨n - 1, by omega⟩
    have hk2 : k < ns.length := by omega
    have hd := (dist_b hok hb hk2).2.2
    rw [f_X12_reason_107, h0, if_neg (nI_ge (by omega) (by omega)), w_quiet hRD hQ hok hk2 (by omega), bd_some, anyN_s]
    unfold f_X12_reason_154
    cases still (tQ sd ws ns rs bs) k (x : Int) with
    | false =>
      rw [bI_f, if_pos rfl, nI_1, Bool.false_and, Bool.false_or]
      exact ih (k + 1) n (by omega) (by omega)
    | true =>
      rw [bI_t, if_neg (by decide), w_far hRD hQ hok hb hk2, bd_some, ck_nI (by omega) (by decide), ck_nI (by omega) (by decide), r20, nI_clamp (by omega), g3, iI_nat rad, show (9 : Int32) = iI 9 from rfl, iI_mul, iI_mul, Bool.true_and]
      by_cases c : (9 : Int) * rad * rad < dist (tQ sd ws ns rs bs) b k
      · have hh : heard (tQ sd ws ns rs bs) b k = false := by
          unfold heard
          rw [tb, ← e9]
          exact decide_eq_false (by omega)
        rw [if_pos ((iI_lt (by omega)).mpr c), nI_1, hh, Bool.false_or]
        exact ih (k + 1) n (by omega) (by omega)
      · have hh : heard (tQ sd ws ns rs bs) b k = true := by
          unfold heard
          rw [tb, ← e9]
          exact decide_eq_true (by omega)
        rw [if_neg (fun z => c ((iI_lt (by omega)).mp z)), hh, Bool.true_or]
        rfl
/-- vibration -/
theorem w_r62 (hN : 2000 ≤ N) (hRD : RDq R) (hQ : Qc σ sd ws ns rs bs) (hok : QOk sd ws ns rs bs) {b x : Nat} (hb : b < bs.length) (hx : x < 1440) : ∀ (m k n : Nat), k + m = ns.length → m < n → f_X12_reason_62 N R n σ 178 (nI b) (nI x) (iI (win (tQ sd ws ns rs bs) (wQ bs) b)) (nI k) = if anyN (tst (tQ sd ws ns rs bs) (wQ bs) b) k m then some ((2 : Int32), σ) else f_X12_reason_107 N R N σ 178 (nI b) (nI x) 0 := by
  have h0 := hQ.1.1
  have hn2 := hok.2.2.1.1
  have hO := tQ_ok hok
  have t2 : tQ sd ws ns rs bs 2 = (bs.length : Int) := rfl
  have t0 : tQ sd ws ns rs bs 0 = (ns.length : Int) := rfl
  have r11 : R 178 11 = 181 := rd_21 hRD 2 (by decide)
  have hw := winG_r hO (b := b) (by omega) (dl (wQ bs) b)
  rw [← win_G] at hw
  intro m
  induction m with
  | zero =>
    intro k n hk hn
    obtain ⟨n, rfl⟩ : ∃ q, n = q + 1 := ⟨n - 1, by omega⟩
    rw [f_X12_reason_62, h0, if_pos (nI_le (by omega) (by omega))]
    rfl
  | succ m ih =>
    intro k n hk hn
    obtain ⟨n, rfl⟩ : ∃ q, n = q + 1 := ⟨n - 1, by omega⟩
    have hk2 : k < ns.length := by omega
    have hd := (dist_b hok hb hk2).2.2
    obtain ⟨k1, k2, k3, -⟩ := hQ.2.2.1 k hk2
    obtain ⟨y1, y2, y3, -⟩ := hok.2.2.1.2 _ (getD_mem (x := (0, 0, 0, none)) hk2)
    have hs := shk_r (w := wQ bs) hO (b := b) (n := k) (by omega) (by omega)
    have tk := (T_n hok hk2).2.2
    have e : (iI 1000 * iI (win (tQ sd ws ns rs bs) (wQ bs) b)) / (iI (dist (tQ sd ws ns rs bs) b k) + iI 1) = iI (shk (tQ sd ws ns rs bs) (wQ bs) b k) := by
      rw [iI_mul, iI_add, iI_div (by omega) (by omega)]
      rfl
    have hne : ¬ iI (dist (tQ sd ws ns rs bs) b k) + iI 1 = 0 := by
      rw [iI_add, show (0 : Int32) = iI 0 from rfl, iI_eq (by omega)]
      omega
    rw [f_X12_reason_62, h0, if_neg (nI_ge (by omega) (by omega)), w_far hRD hQ hok hb hk2, bd_some, show (1 : Int32) = iI 1 from rfl, cd_ne hne, show (1000 : Int32) = iI 1000 from rfl, e, ck_nI (by omega) (by decide), r11, nI_clamp (by omega), k3, iI_nat, anyN_s, show iI 1 = (1 : Int32) from rfl]
    by_cases c : shk (tQ sd ws ns rs bs) (wQ bs) b k ≤ ((ns.getD k (0, 0, 0, none)).2.2.1 : Int)
    · have ht : tst (tQ sd ws ns rs bs) (wQ bs) b k = false := by
        unfold tst
        rw [tk]
        exact decide_eq_false (by omega)
      rw [if_pos ((iI_le (by omega)).mpr c), nI_1, ht, Bool.false_or]
      exact ih (k + 1) n (by omega) (by omega)
    · have ht : tst (tQ sd ws ns rs bs) (wQ bs) b k = true := by
        unfold tst
        rw [tk]
        exact decide_eq_true (by omega)
      rw [if_neg (fun z => c ((iI_le (by omega)).mp z)), ht, Bool.true_or]
      rfl
end VL3
