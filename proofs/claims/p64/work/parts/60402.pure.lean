/-! ===== reading rows and cells ===== -/
theorem n10 : ((1 : Int32) = 0) = False := eq_false (by decide)
theorem l_0 : (0 : Int32) = nI 0 := rfl
theorem l_1 : (1 : Int32) = nI 1 := rfl
section MACC
variable {N : Nat} {R : Nat → Nat → Nat} {s : Nat} {t w : Nat → Int} {σ : SI}
theorem iI_sub1 (a : Int) (h : -2147483647 ≤ a ∧ a ≤ 2147483647) : (iI a - 1).toInt = a - 1 := by
  rw [show (1 : Int32) = iI 1 from rfl, iI_sub, iI_toInt (by omega)]
theorem c_needBlast (hR : RO R s) (hB : σ s 11 = iI (t 2)) (hO : TOk t) (x : Int32) : f_X11_needBlast N R σ 1 x = if 0 ≤ x.toInt ∧ x.toInt < t 2 then some (.inl (), σ) else some (.inr 0, σ) := by
  have h2 := hO.2.2.1
  unfold f_X11_needBlast
  rw [hR.site, hB]
  have a1 : x < 0 ↔ x.toInt < 0 := Int32.lt_iff_toInt_lt
  have a2 : x < iI (t 2) ↔ x.toInt < t 2 := by rw [Int32.lt_iff_toInt_lt, iI_toInt (by omega)]
  by_cases h : 0 ≤ x.toInt ∧ x.toInt < t 2
  · rw [if_pos h, if_neg (by rw [a1]; omega), if_pos (by rw [a2]; omega)]
  · rw [if_neg h]
    by_cases h3 : x.toInt < 0
    · rw [if_pos (a1.mpr h3)]
      rfl
    · rw [if_neg (by rw [a1]; exact h3), if_neg (by rw [a2]; omega)]
      rfl
theorem c_blastAt (hR : RO R s) (hB : σ s 11 = iI (t 2)) (hO : TOk t) (x : Int32) : f_X11_blastAt N R σ 1 x = if 0 ≤ x.toInt ∧ x.toInt < t 2 then some (.inl (s + 40 + 5 * x.toInt.toNat), σ) else some (.inr 0, σ) := by
  have h2 := hO.2.2.1
  unfold f_X11_blastAt
  rw [c_needBlast hR hB hO]
  by_cases h : 0 ≤ x.toInt ∧ x.toInt < t 2
  · rw [if_pos h, if_pos h, bdX_inl]
    unfold ck
    rw [if_pos (by omega), hR.site, hR.si 2 (by decide), show s + 1 + 2 = s + 3 by omega]
    rw [show x.toNatClampNeg = x.toInt.toNat from rfl, hR.bl _ (by omega)]
  · rw [if_neg h, if_neg h, bdX_inr]
theorem c_neighbourAt (hR : RO R s) (hB : σ s 9 = iI (t 0)) (hO : TOk t) (x : Int32) : f_X11_neighbourAt N R σ 1 x = if 0 ≤ x.toInt ∧ x.toInt < t 0 then some (.inl (s + 10 + 3 * x.toInt.toNat), σ) else some (.inr 0, σ) := by
  have h2 := hO.1
  unfold f_X11_neighbourAt
  rw [hR.site, hB]
  have a1 : x < 0 ↔ x.toInt < 0 := Int32.lt_iff_toInt_lt
  have a2 : x < iI (t 0) ↔ x.toInt < t 0 := by rw [Int32.lt_iff_toInt_lt, iI_toInt (by omega)]
  by_cases h : 0 ≤ x.toInt ∧ x.toInt < t 0
  · rw [if_pos h, if_neg (by rw [a1]; omega), if_pos (by rw [a2]; omega)]
    unfold ck
    rw [if_pos (by omega), hR.si 0 (by decide), show s + 1 + 0 = s + 1 by omega]
    rw [show x.toNatClampNeg = x.toInt.toNat from rfl, hR.nb _ (by omega)]
  · rw [if_neg h]
    by_cases h3 : x.toInt < 0
    · rw [if_pos (a1.mpr h3)]
      rfl
    · rw [if_neg (by rw [a1]; exact h3), if_neg (by rw [a2]; omega)]
      rfl
theorem c_roadAt (hR : RO R s) (hB : σ s 10 = iI (t 1)) (hO : TOk t) (x : Int32) : f_X11_roadAt N R σ 1 x = if 0 ≤ x.toInt ∧ x.toInt < t 1 then some (.inl (s + 34 + x.toInt.toNat), σ) else some (.inr 0, σ) := by
  have h2 := hO.2.1
  unfold f_X11_roadAt
  rw [hR.site, hB]
  have a1 : x < 0 ↔ x.toInt < 0 := Int32.lt_iff_toInt_lt
  have a2 : x < iI (t 1) ↔ x.toInt < t 1 := by rw [Int32.lt_iff_toInt_lt, iI_toInt (by omega)]
  by_cases h : 0 ≤ x.toInt ∧ x.toInt < t 1
  · rw [if_pos h, if_neg (by rw [a1]; omega), if_pos (by rw [a2]; omega)]
    unfold ck
    rw [if_pos (by omega), hR.si 1 (by decide), show s + 1 + 1 = s + 2 by omega]
    rw [show x.toNatClampNeg = x.toInt.toNat from rfl, hR.rd _ (by omega)]
  · rw [if_neg h]
    by_cases h3 : x.toInt < 0
    · rw [if_pos (a1.mpr h3)]
      rfl
    · rw [if_neg (by rw [a1]; exact h3), if_neg (by rw [a2]; omega)]
      rfl
theorem c_needRange (x a b : Int32) : f_X11_needRange N R σ 1 x a b = if a.toInt ≤ x.toInt ∧ x.toInt ≤ b.toInt then some (.inl (), σ) else some (.inr 1, σ) := by
  unfold f_X11_needRange
  have a1 : x < a ↔ x.toInt < a.toInt := Int32.lt_iff_toInt_lt
  have a2 : x ≤ b ↔ x.toInt ≤ b.toInt := Int32.le_iff_toInt_le
  by_cases h : a.toInt ≤ x.toInt ∧ x.toInt ≤ b.toInt
  · rw [if_pos h, if_neg (by rw [a1]; omega), if_pos (by rw [a2]; omega)]
  · rw [if_neg h]
    by_cases h3 : x.toInt < a.toInt
    · rw [if_pos (a1.mpr h3)]
      rfl
    · rw [if_neg (by rw [a1]; exact h3), if_neg (by rw [a2]; omega)]
      rfl
end MACC

