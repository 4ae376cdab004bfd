/-! ===== at the start both agree ===== -/
set_option maxRecDepth 100000 in
theorem zF_set : (zF.1 181 0 = 0 ∧ zF.1 181 1 = 0 ∧ zF.1 181 2 = 0) ∧ (zF.1 181 3 = 480 ∧ zF.1 181 4 = 960 ∧ zF.1 181 5 = 60 ∧ zF.1 181 6 = 10 ∧ zF.1 181 7 = 5 ∧ zF.1 181 8 = 15) ∧ (zF.1 38 9 = 0 ∧ zF.1 38 10 = 0 ∧ zF.1 38 11 = 0 ∧ zF.1 38 12 = 480 ∧ zF.1 38 13 = 960 ∧ zF.1 38 14 = 60 ∧ zF.1 38 15 = 10 ∧ zF.1 38 16 = 5 ∧ zF.1 38 17 = 15) := by decide +kernel
set_option maxRecDepth 100000 in
theorem zF_wind : ∀ h, h < 24 → zF.1 181 (9 + 3 * h) = 0 ∧ zF.1 181 (9 + 3 * h + 1) = 0 ∧ zF.1 181 (9 + 3 * h + 2) = 0 ∧ zF.1 46 h = -1 := by decide +kernel
set_option maxRecDepth 100000 in
theorem zF_rest : (zF.1 178 16 = 0 ∧ zF.1 5 2 = 0 ∧ zF.1 5 1 = 0 ∧ zF.1 23 5 = 0) ∧ (zF.1 3 1 = 0 ∧ zF.1 178 3 = 0 ∧ zF.1 3 3 = zF.1 178 9 ∧ zF.1 3 4 = zF.1 178 10) ∧ zF.1 29 1 = 0 ∧ zF.1 178 26 = 0 := by decide +kernel
theorem inv_0 : Inv zF.1 zF.2.1 := by
  obtain ⟨⟨a0, a1, a2⟩, ⟨a3, a4, a5, a6, a7, a8⟩, b9, b10, b11, b12, b13, b14, b15, b16, b17⟩ := zF_set
  obtain ⟨⟨r1, r2, r3, r4⟩, ⟨r5, r6, r7, r8⟩, r9, r10⟩ := zF_rest
  have z : (0 : Int32).toInt = 0 := rfl
  have e : ∀ k, iI (tO zF.1 k) = zF.1 181 k := fun k => (iI_of _).symm
  have t0 : tO zF.1 0 = 0 := by unfold tO; rw [a0]; rfl
  have t1 : tO zF.1 1 = 0 := by unfold tO; rw [a1]; rfl
  have t2 : tO zF.1 2 = 0 := by unfold tO; rw [a2]; rfl
  have t3 : tO zF.1 3 = 480 := by unfold tO; rw [a3]; rfl
  have t4 : tO zF.1 4 = 960 := by unfold tO; rw [a4]; rfl
  have t5 : tO zF.1 5 = 60 := by unfold tO; rw [a5]; rfl
  have t6 : tO zF.1 6 = 10 := by unfold tO; rw [a6]; rfl
  have t7 : tO zF.1 7 = 5 := by unfold tO; rw [a7]; rfl
  have t8 : tO zF.1 8 = 15 := by unfold tO; rw [a8]; rfl
  have no : ∀ b : Nat, ¬ (b : Int) < tO zF.1 2 := fun b => by omega
  refine ⟨38, tO zF.1, fun k => (zF.1 183 k).toInt, RO.start, fun k => iI_of _, fun k => iI_of _, ⟨by omega, by omega, by omega, by omega, by omega, by omega, by omega, by omega, fun h hh => ?_, fun n hn => absurd hn (by omega), fun r hr => absurd hr (by omega), fun b hb => absurd hb (no b)⟩, fun b hb => absurd hb (no b), ⟨?_, fun h hh => ?_, fun n hn => absurd hn (by omega), fun r hr => absurd hr (by omega), fun b hb => absurd hb (no b)⟩, fun b hb => absurd hb (no b), fun b hb => absurd hb (no b), fun b hb => absurd hb (no b), ⟨0, 0, by omega, by omega, r1, r2, r3, fun j hj => absurd hj (by omega)⟩, Or.inl r4, ⟨0, by omega, r5, r6, fun j hj => absurd hj (by omega), r7, r8⟩, ⟨0, by omega, r9, r10, fun j hj => absurd hj (by omega)⟩⟩
  · obtain ⟨h1, h2, h3, -⟩ := zF_wind h hh
    unfold tO
    rw [h1, h2, h3]
    decide
  · rw [e, e, e, e, e, e, e, e, e, a0, a1, a2, a3, a4, a5, a6, a7, a8]
    exact ⟨b9, b10, b11, b12, b13, b14, b15, b16, b17⟩
  · obtain ⟨h1, h2, h3, h4⟩ := zF_wind h hh
    have q : tO zF.1 (9 + 3 * h) = 0 := by unfold tO; rw [h1]; rfl
    rw [if_pos q]
    exact ⟨h4, fun c => absurd q c⟩
theorem ag_all {N : Nat} (hN : 2000 ≤ N) : AgAll N Inv := ⟨ag_0 hN, ag_1 hN, ag_2 hN, ag_3 hN, ag_4 hN, ag_5 hN, ag_6 hN, ag_7 hN, ag_8 hN, ag_9 hN, ag_10 hN, ag_11 hN, ag_12 hN, ag_13 hN, ag_14 hN, ag_15 hN, ag_16 hN, ag_17 hN, ag_18 hN, ag_19 hN, ag_20 hN, ag_21 hN, ag_22 hN, ag_23 hN, ag_24 hN, ag_25 hN, ag_26 hN, ag_27 hN, ag_28 hN, ag_29 hN, ag_30 hN, ag_31 hN, ag_32 hN, ag_33 hN, ag_34 hN, ag_35 hN, ag_36 hN, ag_37 hN, ag_38 hN, ag_39 hN, ag_40 hN, ag_41 hN, ag_42 hN, ag_43 hN, ag_44 hN, ag_45 hN, ag_46 hN, ag_47 hN, ag_48 hN, ag_49 hN, ag_50 hN, ag_51 hN, ag_52 hN, ag_53 hN, ag_54 hN, ag_55 hN, ag_56 hN, ag_57 hN, ag_58 hN, ag_59 hN, ag_60 hN⟩
