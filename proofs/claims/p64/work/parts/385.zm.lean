/-! ===== the state behind the rows of the quarry ===== -/
def zm_0 : Sg := alk 1 zP
theorem zr_zm_0 : Zr 178 zm_0 := Zr.alk (k := 1) zr_zP
def zm_1 : Sg := alk 1 (zm_0)
theorem zr_zm_1 : Zr 179 zm_1 := Zr.alk (k := 1) zr_zm_0
def zm_2 : Sg := uR (zm_1) 178 9 (179)
theorem zr_zm_2 : Zr 179 zm_2 := Zr.uR zr_zm_1 (by decide)
def zm_3 : Sg := alk 1 (zm_2)
theorem zr_zm_3 : Zr 180 zm_3 := Zr.alk (k := 1) zr_zm_2
def zm_4 : Sg := uR (zm_3) 178 10 (180)
theorem zr_zm_4 : Zr 180 zm_4 := Zr.uR zr_zm_3 (by decide)
def zm_5 : Sg := alk 1 (zm_4)
theorem zr_zm_5 : Zr 181 zm_5 := Zr.alk (k := 1) zr_zm_4
def zm_6 : Sg := uR (zm_5) 178 11 (181)
theorem zr_zm_6 : Zr 181 zm_6 := Zr.uR zr_zm_5 (by decide)
def zm_7 : Sg := alk 1 (zm_6)
theorem zr_zm_7 : Zr 182 zm_7 := Zr.alk (k := 1) zr_zm_6
def zm_8 : Sg := uR (zm_7) 178 12 (182)
theorem zr_zm_8 : Zr 182 zm_8 := Zr.uR zr_zm_7 (by decide)
def zm_9 : Sg := alk 1 (zm_8)
theorem zr_zm_9 : Zr 183 zm_9 := Zr.alk (k := 1) zr_zm_8
def zm_10 : Sg := uR (zm_9) 178 13 (183)
theorem zr_zm_10 : Zr 183 zm_10 := Zr.uR zr_zm_9 (by decide)
def zm_11 : Sg := alk 1 (zm_10)
theorem zr_zm_11 : Zr 184 zm_11 := Zr.alk (k := 1) zr_zm_10
def zm_12 : Sg := uR (zm_11) 178 14 (184)
theorem zr_zm_12 : Zr 184 zm_12 := Zr.uR zr_zm_11 (by decide)
def zm_13 : Sg := alk 1 (zm_12)
theorem zr_zm_13 : Zr 185 zm_13 := Zr.alk (k := 1) zr_zm_12
def zm_14 : Sg := uR (zm_13) 178 15 (185)
theorem zr_zm_14 : Zr 185 zm_14 := Zr.uR zr_zm_13 (by decide)
def zm_15 : Sg := alk 1 (zm_14)
theorem zr_zm_15 : Zr 186 zm_15 := Zr.alk (k := 1) zr_zm_14
def zm_16 : Sg := uR (zm_15) 178 16 (186)
theorem zr_zm_16 : Zr 186 zm_16 := Zr.uR zr_zm_15 (by decide)
def zm_17 : Sg := alk 1 (zm_16)
theorem zr_zm_17 : Zr 187 zm_17 := Zr.alk (k := 1) zr_zm_16
def zm_18 : Sg := uR (zm_17) 178 17 (187)
theorem zr_zm_18 : Zr 187 zm_18 := Zr.uR zr_zm_17 (by decide)
def zm_19 : Sg := alk 1 (zm_18)
theorem zr_zm_19 : Zr 188 zm_19 := Zr.alk (k := 1) zr_zm_18
def zm_20 : Sg := uR (zm_19) 178 18 (188)
theorem zr_zm_20 : Zr 188 zm_20 := Zr.uR zr_zm_19 (by decide)
def zm_21 : Sg := alk 1 (zm_20)
theorem zr_zm_21 : Zr 189 zm_21 := Zr.alk (k := 1) zr_zm_20
def zm_22 : Sg := uR (zm_21) 178 19 (189)
theorem zr_zm_22 : Zr 189 zm_22 := Zr.uR zr_zm_21 (by decide)
def zm_23 : Sg := alk 1 (zm_22)
theorem zr_zm_23 : Zr 190 zm_23 := Zr.alk (k := 1) zr_zm_22
def zm_24 : Sg := uR (zm_23) 178 20 (190)
theorem zr_zm_24 : Zr 190 zm_24 := Zr.uR zr_zm_23 (by decide)
def zm_25 : Sg := alk 1 (zm_24)
theorem zr_zm_25 : Zr 191 zm_25 := Zr.alk (k := 1) zr_zm_24
def zm_26 : Sg := uR (zm_25) 178 21 (191)
theorem zr_zm_26 : Zr 191 zm_26 := Zr.uR zr_zm_25 (by decide)
def zm_27 : Sg := alk 1 (zm_26)
theorem zr_zm_27 : Zr 192 zm_27 := Zr.alk (k := 1) zr_zm_26
def zm_28 : Sg := uR (zm_27) 178 22 (192)
theorem zr_zm_28 : Zr 192 zm_28 := Zr.uR zr_zm_27 (by decide)
def zm_29 : Sg := alk 1 (zm_28)
theorem zr_zm_29 : Zr 193 zm_29 := Zr.alk (k := 1) zr_zm_28
def zm_30 : Sg := uR (zm_29) 178 23 (193)
theorem zr_zm_30 : Zr 193 zm_30 := Zr.uR zr_zm_29 (by decide)
def zm_31 : Sg := alk (1 + 3) (mnS 193 3 (zm_30))
theorem zr_zm_31 : Zr 197 zm_31 := zr_mna (N := 3) zr_zm_30
def zm_32 : Sg := uR (zm_31) 178 24 (194)
theorem zr_zm_32 : Zr 197 zm_32 := Zr.uR zr_zm_31 (by decide)
def zm_33 : Sg := alk (1 + 3) (mnS 197 3 (zm_32))
theorem zr_zm_33 : Zr 201 zm_33 := zr_mna (N := 3) zr_zm_32
def zm_34 : Sg := uR (zm_33) 178 25 (198)
theorem zr_zm_34 : Zr 201 zm_34 := Zr.uR zr_zm_33 (by decide)
def zF : Sg := zm_34
theorem zr_zF : Zr 201 zF := zr_zm_34
theorem fk_lt {c k d : Nat} (h : fk c k = some d) : k < 27 := by
  refine Nat.lt_of_not_le fun hk => ?_
  obtain ⟨j, rfl⟩ : ∃ j, k = j + 27 := ⟨k - 27, by omega⟩
  unfold fk at h
  split at h
  all_goals first
    | (cases (show (none : Option Nat) = some d from h))
    | (rw [if_neg (by omega)] at h; cases h)
theorem kd_lt {o k d : Nat} (h : fk (kd o) k = some d) : o < 203 := by
  refine Nat.lt_of_not_le fun ho => ?_
  have e : kd o = 999999 := by
    unfold kd
    rw [if_neg (by omega), List.getD_eq_getElem?_getD, List.getElem?_eq_none (by show 202 ≤ o - 1; omega)]
    rfl
  rw [e] at h
  cases (show (none : Option Nat) = some d from h)
theorem zF_all : ∀ o, o < 203 → ∀ k, k < 27 → (match fk (kd o) k with | none => true | some d => decide (kd (zF.2.1 o k) = d ∧ 0 < zF.2.1 o k ∧ zF.2.1 o k ≤ 202)) = true := by decide +kernel
theorem zF_ok : ShR zF.2.1 := by
  intro o c k d ho hf
  subst ho
  have h := zF_all o (kd_lt hf) k (fk_lt hf)
  rw [hf] at h
  have h2 : kd (zF.2.1 o k) = d ∧ 0 < zF.2.1 o k ∧ zF.2.1 o k ≤ 202 := of_decide_eq_true h
  exact h2
