/-! ===== the reason ===== -/
section VL4
variable {N : Nat} {R : Nat → Nat → Nat} {σ : SI} {sd : SDt} {ws : List WDt} {ns : List NDt} {rs : List RDt} {bs : List BDt}
theorem w_r23 (hN : 2000 ≤ N) (hRD : RDq R) (hQ : Qc σ sd ws ns rs bs) (hok : QOk sd ws ns rs bs) {b x : Nat} (hb : b < bs.length) : ∀ (m k n : Nat) (a : Int), k + m = (bs.getD b (0, 0, 0, [])).2.2.2.length → m < n → 0 ≤ a → a ≤ 12000 → f_X12_reason_23 N R n σ 178 (nI b) (nI x) (iI a) (nI k) = f_X12_reason_62 N R N σ 178 (nI b) (nI x) (iI (lp (fun c a => mx a (fromD (tQ sd ws ns rs bs) (wQ bs) b (dl (wQ bs) b c))) k m a)) 0 := by
  obtain ⟨g1, g2, g3, g4, g5⟩ := hQ.2.2.2.2 b hb
  obtain ⟨q1, q2, q3, q4, q5, q6, q7⟩ := hok.2.2.2.2.2 _ (getD_mem (x := (0, 0, 0, [])) hb)
  have hb3 := hok.2.2.2.2.1.2
  have hw := fun d hd => w_window (N := N) (R := R) (d := d) hN hRD hQ hok hb hd
  have hf := fun d => fromD_q hok hb d
  have hc := fun c hc => T_c (c := c) hok hb hc
  have r21 : R 178 21 = 191 := rd_21 hRD 12 (by decide)
  have r25 : R 178 25 = 198 := hRD.2.2.1
  have r8 : R 198 b = 199 + b := hRD.2.2.2.2.1 b (by omega)
  generalize (bs.getD b (0, 0, 0, [])).2.2.2 = cs at g4 g5 q5 q6 q7 hw hf hc ⊢
  intro m
  induction m with
  | zero =>
    intro k n a hk hn h0 ha
    obtain ⟨n, rfl⟩ : ∃ q, n = q + 1 := ⟨n - 1, by omega⟩
    rw [f_X12_reason_23, ck_nI (by omega) (by decide), r21, nI_clamp (by omega), g4, if_pos (nI_le (by omega) (by omega))]
    rfl
  | succ m ih =>
    intro k n a hk hn h0 ha
    obtain ⟨n, rfl⟩ : ∃ q, n = q + 1 := ⟨n - 1, by omega⟩
    have hkl : k < cs.length := by omega
    have y := q7 _ (getD_mem (x := (0, 0)) hkl)
    have hle := sumW_le (cs.getD k (0, 0)).2 cs q7
    have v2 := (g5 k hkl).2
    have e := hf (cs.getD k (0, 0)).2
    have ed := (hc k hkl).2
    rw [← ed] at e
    rw [f_X12_reason_23, ck_nI (by omega) (by decide), r21, nI_clamp (by omega), g4, if_neg (nI_ge hkl (by omega)), ck_nI (by omega) (by decide), ck_nI (by omega) (by decide), r25, nI_clamp (by omega), r8, v2, hw _ (by have := y.2.2; omega), bd_some, nI_1, iI_nat (sumW (cs.getD k (0, 0)).2 cs), ← e, lp_s]
    have hmx : (if iI a < iI (fromD (tQ sd ws ns rs bs) (wQ bs) b (dl (wQ bs) b k)) then iI (fromD (tQ sd ws ns rs bs) (wQ bs) b (dl (wQ bs) b k)) else iI a) = iI (mx a (fromD (tQ sd ws ns rs bs) (wQ bs) b (dl (wQ bs) b k))) := by
      unfold mx
      by_cases c : a < fromD (tQ sd ws ns rs bs) (wQ bs) b (dl (wQ bs) b k)
      · rw [if_pos c, if_pos ((iI_lt (by omega)).mpr c)]
      · rw [if_neg c, if_neg (fun z => c ((iI_lt (by omega)).mp z))]
    rw [hmx]
    refine ih (k + 1) n _ (by omega) (by omega) ?_ ?_
    · unfold mx
      split <;> omega
    · unfold mx
      split <;> omega
set_option maxHeartbeats 2000000 in
/-- reason -/
theorem w_reason (hN : 2000 ≤ N) (hRD : RDq R) (hQ : Qc σ sd ws ns rs bs) (hok : QOk sd ws ns rs bs) {b x : Nat} (hb : b < bs.length) (hx : x < 1440) : f_X12_reason N R σ 178 (nI b) (nI x) = some (iI (why (tQ sd ws ns rs bs) (wQ bs) (tms (wQ bs)) b (x : Int)), σ) := by
  obtain ⟨d1, d2, d3, d4, -⟩ := hok.1
  have h3 := hQ.1.2.2.2.1
  have h4 := hQ.1.2.2.2.2.1
  have hn2 := hok.2.2.1.1
  obtain ⟨q1, q2, q3, q4, q5, q6, q7⟩ := hok.2.2.2.2.2 _ (getD_mem (x := (0, 0, 0, [])) hb)
  have t3 : tQ sd ws ns rs bs 3 = (sd.1 : Int) := rfl
  have t4 : tQ sd ws ns rs bs 4 = (sd.2.1 : Int) := rfl
  have hnN : nN (tQ sd ws ns rs bs) = ns.length := rfl
  have hcr : crowd (tQ sd ws ns rs bs) (tms (wQ bs)) b (x : Int) = false := by
    unfold crowd
    refine anyN_f (fun o => decide_eq_false (fun z => ?_)) _ _
    have : tms (wQ bs) o = -1 := wQ_0 o
    exact z.2.1 this
  have h60 : ((x : Int) / 60).toNat = x / 60 := rfl
  have h23 := w_r23 (x := x) hN hRD hQ hok hb (bs.getD b (0, 0, 0, [])).2.2.2.length 0 N 0 (by omega) (by omega) (Int.le_refl 0) (by decide)
  have hW : lp (fun c a => mx a (fromD (tQ sd ws ns rs bs) (wQ bs) b (dl (wQ bs) b c))) 0 (bs.getD b (0, 0, 0, [])).2.2.2.length 0 = win (tQ sd ws ns rs bs) (wQ bs) b := by
    unfold win
    rw [T_nC hok hb]
  rw [hW] at h23
  have h62 := w_r62 hN hRD hQ hok hb hx ns.length 0 N (by omega) (by omega)
  have h107 := w_r107 hN hRD hQ hok hb hx ns.length 0 N (by omega) (by omega)
  have h163 := w_r163 (N := N) hRD hQ hok hb hx ns.length 0 N (by omega) (by omega)
  unfold why f_X12_reason
  rw [h3, h4, t3, t4, hnN, hcr, h60]
  by_cases c1 : x < sd.1
  · rw [if_pos (nI_lt c1 (by omega)), if_pos (by omega)]
    rfl
  · rw [if_neg (nI_nlt (by omega) (by omega))]
    by_cases c2 : sd.2.1 < x
    · rw [if_neg (nI_ge c2 (by omega)), if_pos (by omega)]
      rfl
    · rw [if_pos (nI_le (by omega) (by omega)), if_neg (by omega)]
      show f_X12_reason_23 N R N σ 178 (nI b) (nI x) (iI 0) (nI 0) = _
      rw [h23]
      show f_X12_reason_62 N R N σ 178 (nI b) (nI x) _ (nI 0) = _
      rw [h62]
      by_cases c3 : anyN (tst (tQ sd ws ns rs bs) (wQ bs) b) 0 ns.length = true
      · rw [if_pos c3, if_pos c3]
        rfl
      · rw [if_neg c3, if_neg c3]
        show f_X12_reason_107 N R N σ 178 (nI b) (nI x) (nI 0) = _
        rw [h107]
        by_cases c4 : anyN (fun n => still (tQ sd ws ns rs bs) n (x : Int) && heard (tQ sd ws ns rs bs) b n) 0 ns.length = true
        · rw [if_pos c4, if_pos c4]
          rfl
        · rw [if_neg c4, if_neg c4]
          show f_X12_reason_163 N R N σ 178 (nI b) (nI x) (nI 0) = _
          rw [h163]
          by_cases c5 : anyN (isD (tQ sd ws ns rs bs) b (x / 60)) 0 ns.length = true
          · rw [if_pos c5, if_pos c5]
            rfl
          · rw [if_neg c5, if_neg c5, if_neg (by decide)]
            rfl
end VL4
