/-! ===== whether a road comes within a radius, as the law asks it ===== -/
theorem lI_lt {a b : Int} (h : (-9223372036854775808 ≤ a ∧ a ≤ 9223372036854775807) ∧ -9223372036854775808 ≤ b ∧ b ≤ 9223372036854775807) : lI a < lI b ↔ a < b := by rw [Int64.lt_iff_toInt_lt, lI_toInt h.1, lI_toInt h.2]
theorem lg_zero {a b : Int} (h : (-9223372036854775808 ≤ a ∧ a ≤ 9223372036854775807) ∧ -9223372036854775808 ≤ b ∧ b ≤ 9223372036854775807) : lg_cmp (lI a) (lI b) = 0 ↔ a = b := by
  have h1 := lg_pos h
  have h2 := lg_neg h
  constructor
  · intro e
    rw [e] at h1 h2
    have n1 : ¬ b < a := fun z => absurd (h1.mpr z) (by decide)
    have n2 : ¬ a < b := fun z => absurd (h2.mpr z) (by decide)
    omega
  · intro e
    rw [e]
    unfold lg_cmp
    have : ¬ lI b < lI b := fun z => by rw [lI_lt (by omega)] at z; omega
    simp [this]
section VCM
variable {N : Nat} {R : Nat → Nat → Nat} {σ : SI} {sd : SDt} {ws : List WDt} {ns : List NDt} {rs : List RDt} {bs : List BDt}
set_option maxHeartbeats 2000000 in
theorem w_comes (hRD : RDq R) (hQ : Qc σ sd ws ns rs bs) (hok : QOk sd ws ns rs bs) {b r c : Nat} (hb : b < bs.length) (hr : r < rs.length) (hc : c ≤ 1500) : f_X12_comes N R σ 178 (nI b) (nI r) (nI c) = some (bI (near (tQ sd ws ns rs bs) b r (c : Int)), σ) := by
  obtain ⟨g1, g2, g3, g4, g5⟩ := hQ.2.2.2.2 b hb
  obtain ⟨k1, k2, k3, k4⟩ := hQ.2.2.2.1 r hr
  have hb3 := hok.2.2.2.2.1.2
  have hr2 := hok.2.2.2.1.1
  obtain ⟨q1, q2, -⟩ := hok.2.2.2.2.2 _ (getD_mem (x := (0, 0, 0, [])) hb)
  obtain ⟨y1, y2, y3, y4⟩ := hok.2.2.2.1.2 _ (getD_mem (x := (0, 0, 0, 0)) hr)
  have t2 := T_b hok hb
  have u6 : tQ sd ws ns rs bs (225 + 10 * r + 6) = ((rs.getD r (0, 0, 0, 0)).1 : Int) := tQ_r r 6 (by omega) (by decide)
  have u7 : tQ sd ws ns rs bs (225 + 10 * r + 7) = ((rs.getD r (0, 0, 0, 0)).2.1 : Int) := tQ_r r 7 (by omega) (by decide)
  have u8 : tQ sd ws ns rs bs (225 + 10 * r + 8) = ((rs.getD r (0, 0, 0, 0)).2.2.1 : Int) := tQ_r r 8 (by omega) (by decide)
  have u9 : tQ sd ws ns rs bs (225 + 10 * r + 9) = ((rs.getD r (0, 0, 0, 0)).2.2.2 : Int) := tQ_r r 9 (by omega) (by decide)
  have r14 : R 178 14 = 184 := rd_21 hRD 5 (by decide)
  have r15 : R 178 15 = 185 := rd_21 hRD 6 (by decide)
  have r16 : R 178 16 = 186 := rd_21 hRD 7 (by decide)
  have r17 : R 178 17 = 187 := rd_21 hRD 8 (by decide)
  have r18 : R 178 18 = 188 := rd_21 hRD 9 (by decide)
  have r19 : R 178 19 = 189 := rd_21 hRD 10 (by decide)
  have ckr : ∀ {α : Type} (x : Option α), ck (nI r) 2 x = x := fun x => ck_nI (by omega) (by decide)
  have ckb : ∀ {α : Type} (x : Option α), ck (nI b) 3 x = x := fun x => ck_nI (by omega) (by decide)
  have hcr : (nI r).toNatClampNeg = r := nI_clamp (by omega)
  have hcb : (nI b).toNatClampNeg = b := nI_clamp (by omega)
  unfold near
  rw [t2.1, t2.2.1, u6, u7, u8, u9]
  generalize (rs.getD r (0, 0, 0, 0)).1 = x1 at k1 y1 ⊢
  generalize (rs.getD r (0, 0, 0, 0)).2.1 = z1 at k2 y2 ⊢
  generalize (rs.getD r (0, 0, 0, 0)).2.2.1 = x2 at k3 y3 ⊢
  generalize (rs.getD r (0, 0, 0, 0)).2.2.2 = z2 at k4 y4 ⊢
  generalize (bs.getD b (0, 0, 0, [])).1 = bx at g1 q1 ⊢
  generalize (bs.getD b (0, 0, 0, [])).2.1 = bz at g2 q2 ⊢
  have hDX : (nI x2 - nI x1).toInt64 = lI ((x2 : Int) - x1) := by rw [iI_nat, iI_nat, iI_sub, iI_toL (by omega)]
  have hDY : (nI z2 - nI z1).toInt64 = lI ((z2 : Int) - z1) := by rw [iI_nat, iI_nat, iI_sub, iI_toL (by omega)]
  have hPX : (nI bx - nI x1).toInt64 = lI ((bx : Int) - x1) := by rw [iI_nat, iI_nat, iI_sub, iI_toL (by omega)]
  have hPY : (nI bz - nI z1).toInt64 = lI ((bz : Int) - z1) := by rw [iI_nat, iI_nat, iI_sub, iI_toL (by omega)]
  have hX1 : (nI x1).toInt64 = lI (x1 : Int) := by rw [iI_nat, iI_toL (by omega)]
  have hY1 : (nI z1).toInt64 = lI (z1 : Int) := by rw [iI_nat, iI_toL (by omega)]
  have hBX : (nI bx).toInt64 = lI (bx : Int) := by rw [iI_nat, iI_toL (by omega)]
  have hBY : (nI bz).toInt64 = lI (bz : Int) := by rw [iI_nat, iI_toL (by omega)]
  have hcc := mul_c (a := (c : Int)) (b := (c : Int)) (A := 1500) (B := 1500) (C := 2250000) (by omega) (by omega) rfl
  have hRR : (nI c * nI c).toInt64 = lI ((c : Int) * c) := by rw [iI_nat, iI_mul, iI_toL (by omega)]
  have m1 := mul_c (a := (x2 : Int) - x1) (b := (x2 : Int) - x1) (A := 299) (B := 299) (C := 89401) (by omega) (by omega) rfl
  have m2 := mul_c (a := (z2 : Int) - z1) (b := (z2 : Int) - z1) (A := 299) (B := 299) (C := 89401) (by omega) (by omega) rfl
  have m3 := mul_c (a := (bx : Int) - x1) (b := (x2 : Int) - x1) (A := 299) (B := 299) (C := 89401) (by omega) (by omega) rfl
  have m4 := mul_c (a := (bz : Int) - z1) (b := (z2 : Int) - z1) (A := 299) (B := 299) (C := 89401) (by omega) (by omega) rfl
  have n1 := sq_nn ((x2 : Int) - x1)
  have n2 := sq_nn ((z2 : Int) - z1)
  unfold f_X12_comes
  simp only [ckr, ckb, r14, r15, r16, r17, r18, r19, hcr, hcb, k1, k2, k3, k4, g1, g2, hDX, hDY, hPX, hPY, hX1, hY1, hBX, hBY, hRR, lI_mul, lI_add]
  obtain ⟨A, hA⟩ : ∃ A, A = ((x2 : Int) - x1) * ((x2 : Int) - x1) + ((z2 : Int) - z1) * ((z2 : Int) - z1) := ⟨_, rfl⟩
  obtain ⟨S, hS⟩ : ∃ S, S = ((bx : Int) - x1) * ((x2 : Int) - x1) + ((bz : Int) - z1) * ((z2 : Int) - z1) := ⟨_, rfl⟩
  rw [← hA, ← hS]
  have hAb : 0 ≤ A ∧ A ≤ 178802 := by omega
  have hSb : -178802 ≤ S ∧ S ≤ 178802 := by omega
  obtain ⟨sc, hsc⟩ : ∃ sc, sc = if A < 1 then 1 else A := ⟨_, rfl⟩
  obtain ⟨T, hT⟩ : ∃ T, T = if A = 0 then 0 else if (if S < A then S else A) < 0 then 0 else (if S < A then S else A) := ⟨_, rfl⟩
  have hscb : 1 ≤ sc ∧ sc ≤ 178802 := by rw [hsc]; split <;> omega
  have hTb : 0 ≤ T ∧ T ≤ 178802 := by rw [hT]; split <;> (try split) <;> (try split) <;> omega
  have hSC : (if lI A < (1 : Int64) then (1 : Int64) else lI A) = lI sc := by
    rw [hsc, show (1 : Int64) = lI 1 from rfl]
    by_cases z : A < 1
    · rw [if_pos z, if_pos ((lI_lt (by omega)).mpr z)]
    · rw [if_neg z, if_neg (fun q => z ((lI_lt (by omega)).mp q))]
  have hG := geo_near ((bx : Int) - x1) ((bz : Int) - z1) ((x2 : Int) - x1) ((z2 : Int) - z1) (c : Int) A S sc T hA hS hsc hT
  have e1 : (x1 : Int) * sc + T * ((x2 : Int) - x1) - (bx : Int) * sc = T * ((x2 : Int) - x1) - ((bx : Int) - x1) * sc := by rw [Int.sub_mul (bx : Int)]; omega
  have e2 : (z1 : Int) * sc + T * ((z2 : Int) - z1) - (bz : Int) * sc = T * ((z2 : Int) - z1) - ((bz : Int) - z1) * sc := by rw [Int.sub_mul (bz : Int)]; omega
  have w1 := mul_c (a := T) (b := (x2 : Int) - x1) (A := 178802) (B := 299) (C := 53461798) (by omega) (by omega) rfl
  have w2 := mul_c (a := T) (b := (z2 : Int) - z1) (A := 178802) (B := 299) (C := 53461798) (by omega) (by omega) rfl
  have w3 := mul_c (a := (bx : Int) - x1) (b := sc) (A := 299) (B := 178802) (C := 53461798) (by omega) (by omega) rfl
  have w4 := mul_c (a := (bz : Int) - z1) (b := sc) (A := 299) (B := 178802) (C := 53461798) (by omega) (by omega) rfl
  rw [← e1, ← e2] at hG
  have eX : -106923596 ≤ (x1 : Int) * sc + T * ((x2 : Int) - x1) - (bx : Int) * sc ∧ (x1 : Int) * sc + T * ((x2 : Int) - x1) - (bx : Int) * sc ≤ 106923596 := by omega
  have eY : -106923596 ≤ (z1 : Int) * sc + T * ((z2 : Int) - z1) - (bz : Int) * sc ∧ (z1 : Int) * sc + T * ((z2 : Int) - z1) - (bz : Int) * sc ≤ 106923596 := by omega
  have v1 := mul_c (A := 106923596) (B := 106923596) (C := 106923596 * 106923596) eX eX rfl
  have v2 := mul_c (A := 106923596) (B := 106923596) (C := 106923596 * 106923596) eY eY rfl
  have v3 := mul_c (a := (c : Int) * c) (b := sc) (A := 2250000) (B := 178802) (C := 402304500000) (by omega) (by omega) rfl
  have v4 := mul_c (a := (c : Int) * c * sc) (b := sc) (A := 402304500000) (B := 178802) (C := 402304500000 * 178802) (by omega) (by omega) rfl
  have fin : ∀ (U V : Int), (-9223372036854775808 ≤ U ∧ U ≤ 9223372036854775807) → (-9223372036854775808 ≤ V ∧ V ≤ 9223372036854775807) → (nearX ((bx : Int) - x1) ((bz : Int) - z1) ((x2 : Int) - x1) ((z2 : Int) - z1) (c : Int) = true ↔ U ≤ V) → (if 0 < lg_cmp (lI U) (lI V) then some ((0 : Int32), σ) else some ((1 : Int32), σ)) = some (bI (nearX ((bx : Int) - x1) ((bz : Int) - z1) ((x2 : Int) - x1) ((z2 : Int) - z1) (c : Int)), σ) := by
    intro U V hU hV hiff
    by_cases z : V < U
    · rw [if_pos ((lg_pos ⟨hU, hV⟩).mpr z)]
      cases hn : nearX ((bx : Int) - x1) ((bz : Int) - z1) ((x2 : Int) - x1) ((z2 : Int) - z1) (c : Int) with
      | true => have := hiff.mp hn; omega
      | false => rfl
    · rw [if_neg (fun q => z ((lg_pos ⟨hU, hV⟩).mp q)), hiff.mpr (by omega)]
      rfl
  have h0 : (0 : Int64) = lI 0 := rfl
  by_cases cA : A = 0
  · have hT0 : T = 0 := by rw [hT]; exact if_pos cA
    rw [h0, if_pos ((lg_zero (by omega)).mpr cA), ← h0, hSC, show (0 : Int64) = lI T from by rw [hT0]; exact h0]
    simp only [lI_mul, lI_add, lI_sub]
    exact fin _ _ (by omega) (by omega) hG
  · have hTT : (if (if lI S < lI A then lI S else lI A) < (0 : Int64) then (0 : Int64) else (if lI S < lI A then lI S else lI A)) = lI T := by
      rw [hT, if_neg cA, h0]
      have : (if lI S < lI A then lI S else lI A) = lI (if S < A then S else A) := by
        by_cases z : S < A
        · rw [if_pos z, if_pos ((lI_lt (by omega)).mpr z)]
        · rw [if_neg z, if_neg (fun q => z ((lI_lt (by omega)).mp q))]
      rw [this]
      have hm : -178802 ≤ (if S < A then S else A) ∧ (if S < A then S else A) ≤ 178802 := by split <;> omega
      generalize (if S < A then S else A) = M at hm ⊢
      by_cases z : M < 0
      · rw [if_pos z, if_pos ((lI_lt (by omega)).mpr z)]
      · rw [if_neg z, if_neg (fun q => z ((lI_lt (by omega)).mp q))]
    have hne : ¬ lg_cmp (lI A) (0 : Int64) = 0 := fun q => cA ((lg_zero (b := 0) (by omega)).mp q)
    rw [if_neg hne, hTT, hSC]
    simp only [lI_mul, lI_add, lI_sub]
    exact fin _ _ (by omega) (by omega) hG
end VCM
