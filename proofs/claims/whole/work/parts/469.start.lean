/-! ===== from the first byte to the last ===== -/
def tO (σ : SI) : Nat → Int := fun k => (σ 181 k).toInt
def wO (σ : SI) : Nat → Int := fun k => (σ 184 k).toInt
theorem nI_int {m : Nat} (h : m < 2147483648) : (nI m).toInt = m := by rw [iI_nat, iI_toInt (by omega)]
theorem pk_hnP {σ : SI} {b L : Nat} (h : NmR σ (285 + 22 * b) L) : pk (tO σ) b = nI (hnP (lf σ (285 + 22 * b)) L) := by
  have h2 := h.2.1
  have z : (0 : Int32).toInt = 0 := rfl
  unfold pk
  have := lp_invI (P := fun j (a : Int32) => a = nI (hnP (lf σ (285 + 22 * b)) (if j < L then j else L))) (f := fun k (a : Int32) => if tO σ (285 + 22 * b + k) = 0 then a else a * 32 + iI (tO σ (285 + 22 * b + k)) - 97 + 1) 6 0 0 (by rw [if_pos (by have := h.1; omega)]; rfl) (fun j a h1 h3 ha => by
    by_cases c : j < L
    · have hl := h.2.2.1 j c
      rw [if_pos c] at ha
      have e : (if j + 1 < L then j + 1 else L) = j + 1 := by split <;> omega
      rw [e, ha, if_neg (show ¬ tO σ (285 + 22 * b + j) = 0 by unfold tO; omega)]
      show nI _ * 32 + iI (tO σ (285 + 22 * b + j)) - 97 + 1 = nI (hnP (lf σ (285 + 22 * b)) j * 32 + lf σ (285 + 22 * b) j)
      rw [show (32 : Int32) = iI 32 from rfl, show (97 : Int32) = iI 97 from rfl, show (1 : Int32) = iI 1 from rfl, iI_nat, iI_nat, iI_mul, iI_add, iI_sub, iI_add]
      congr 1
      unfold lf tO
      omega
    · rw [if_neg c] at ha
      rw [if_pos (show tO σ (285 + 22 * b + j) = 0 by unfold tO; rw [h.2.2.2 j (by omega) (by omega)]; rfl), show (if j + 1 < L then j + 1 else L) = L from if_neg (by omega)]
      exact ha)
  rw [if_neg (by omega)] at this
  exact this
theorem DT.ok {σc σm : SI} {D : Nat} (d : DT σc σm D) : TOk (tO σm) ∧ WOk (tO σm) (wO σm) ∧ Cq σc D (tO σm) ∧ Cs σc D (tO σm) (wO σm) := by
  obtain ⟨⟨⟨s3, s4, s5, s6, s7, s8⟩, r3, r5, r6, r7, r8⟩, dw, ⟨mn, n1, n2, n3, n4, n5⟩, ⟨mr, p1, p2, p3, p4⟩, ⟨mb, b1, b2, b3, b4, b5, b6⟩⟩ := d
  have e : ∀ k, iI (tO σm k) = σm 181 k := fun k => (iI_of _).symm
  have ew : ∀ k, iI (wO σm k) = σm 184 k := fun k => (iI_of _).symm
  have t0 : tO σm 0 = mn := by unfold tO; rw [n2, nI_int (by omega)]
  have t1 : tO σm 1 = mr := by unfold tO; rw [p2, nI_int (by omega)]
  have t2 : tO σm 2 = mb := by unfold tO; rw [b2, nI_int (by omega)]
  refine ⟨⟨by omega, by omega, by omega, r3, r5, r6, r7, r8, fun h hh => ?_, fun i hi => ?_, fun r hr j hj => ?_, fun b hb => ?_⟩, fun b hb => ?_, ⟨?_, fun h hh => ?_, fun i hi => ?_, fun r hr j hj => ?_, fun b hb => ?_⟩, fun b hb => ?_⟩
  · obtain ⟨h1, h2⟩ := dw h hh
    refine ⟨?_, h2⟩
    rcases h1 with h1 | h1
    · left; unfold tO; rw [h1.1]; rfl
    · right; unfold tO; rw [h1.1]; rfl
  · obtain ⟨⟨-, -, h2, h3, h4⟩, c, c1, c2, c3, c4⟩ := n4 i (by omega)
    have tc : tO σm (81 + 18 * i + 9) = c := by unfold tO; rw [c2, nI_int (by omega)]
    refine ⟨h2, h3, h4, by omega, fun k hk => ?_⟩
    have := c4 k (by omega)
    exact this.2.2
  · exact ((p4 r (by omega)).2 j hj).2
  · obtain ⟨⟨⟨L, l1, -⟩, -, h2, h3, h4⟩, c, c0, c1, c2, c3, c4⟩ := b4 b (by omega)
    have tc : tO σm (285 + 22 * b + 9) = c := by unfold tO; rw [c2, nI_int (by omega)]
    refine ⟨h2, h3, h4, by omega, fun k hk => (c4 k (by omega)).2.2.1, fun k hk => ?_⟩
    by_cases q : k < L
    · exact Or.inr (l1.2.2.1 k q)
    · left
      unfold tO
      rw [l1.2.2.2 k (by omega) hk]
      rfl
  · obtain ⟨-, c, c0, c1, c2, c3, c4⟩ := b4 b (by omega)
    have tc : tO σm (285 + 22 * b + 9) = c := by unfold tO; rw [c2, nI_int (by omega)]
    have hb6 := b6 b (by omega)
    refine ⟨?_, ?_, fun k hk => (c4 k (by omega)).2.2.2⟩
    · unfold wO
      rw [hb6.1]
      decide
    · left
      unfold wO
      rw [hb6.2.1]
      rfl
  · rw [e, e, e, e, e, e, e, e, e, n2, n3, p2, p3, b2, b3]
    exact ⟨rfl, rfl, rfl, s3, s4, s5, s6, s7, s8⟩
  · rw [e, e]
    obtain ⟨h1, h2⟩ := dw h hh
    rcases h1 with h1 | h1
    · have z : tO σm (9 + 3 * h) = 0 := by unfold tO; rw [h1.1]; rfl
      rw [if_pos z, h1.2]
      exact ⟨rfl, fun q => absurd z q⟩
    · have z : tO σm (9 + 3 * h) = 1 := by unfold tO; rw [h1.1]; rfl
      rw [if_neg (by omega)]
      exact ⟨h1.2.1, fun _ => h1.2.2⟩
  · obtain ⟨⟨-, h1, -⟩, c, c1, c2, c3, c4⟩ := n4 i (by omega)
    have tc : tO σm (81 + 18 * i + 9) = c := by unfold tO; rw [c2, nI_int (by omega)]
    rw [e, e, e, e, c2]
    refine ⟨h1.1, h1.2.1, h1.2.2, c3, fun k hk => ?_⟩
    have := c4 k (by omega)
    rw [e, e]
    exact ⟨this.1, this.2.1⟩
  · rw [e]
    exact ((p4 r (by omega)).2 j hj).1
  · obtain ⟨⟨⟨L, l1, l2⟩, h1, -⟩, c, c0, c1, c2, c3, c4⟩ := b4 b (by omega)
    have tc : tO σm (285 + 22 * b + 9) = c := by unfold tO; rw [c2, nI_int (by omega)]
    rw [e, e, e, e, c2, pk_hnP l1]
    refine ⟨h1.1, h1.2.1, h1.2.2.1, c3, fun k hk => ?_, l2⟩
    rw [e]
    exact (c4 k (by omega)).1
  · obtain ⟨⟨-, h1, -⟩, c, c0, c1, c2, c3, c4⟩ := b4 b (by omega)
    have tc : tO σm (285 + 22 * b + 9) = c := by unfold tO; rw [c2, nI_int (by omega)]
    have hb6 := b6 b (by omega)
    rw [ew, ew, hb6.1, hb6.2.1]
    refine ⟨hb6.2.2, h1.2.2.2, fun k hk => ?_⟩
    rw [ew]
    exact (c4 k (by omega)).2.1
section START
variable {N : Nat} {R : Nat → Nat → Nat} {s : Nat} {Q : Nat → Nat → Nat} {s2 : Nat} {n D : Nat}
theorem T_load (hN : 2000 ≤ N) (hR : RO R s) (hQ : RO Q s2) (hO : DO R D) {σ μ : SI} (hn : n ≤ 800) (hc : σ 3 1 = nI n) (hm : μ 178 3 = nI n) (hb : ∀ j, j < n → σ 4 j = μ 179 j) : ∃ (ok : Bool) (σc' σm' : SI), f_X5_parse N R σ 2 D = some (bI ok, σc') ∧ f_X12_load N Q μ 178 = f_X12_load_97 N Q σm' 178 ∧ TS (σ 4) n 0 ok σc' σm' ∧ (∀ o j, (o ≠ 3 ∨ (j ≠ 2 ∧ j ≠ 3 ∧ j ≠ 4)) → (o < D ∨ D + 70 ≤ o) → σc' o j = σ o j) ∧ (∀ o j, (o ≠ 178 ∨ (j ≠ 0 ∧ j ≠ 3 ∧ j ≠ 4 ∧ j ≠ 5 ∧ j ≠ 6 ∧ j ≠ 7 ∧ j ≠ 8)) → (o ≠ 181 ∨ 417 ≤ j) → o ≠ 182 → o ≠ 184 → σm' o j = μ o j) ∧ (∀ j, j < 417 → σm' 182 j = μ 181 j) ∧ σm' 178 0 = 0 ∧ σm' 178 3 = 0 ∧ (ok = true → DT σc' σm' D) := by
  have hD := hO.1
  obtain ⟨σa, r1, ⟨d9, d10, d11, d12, d13, d14, d15, d16, d17⟩, r3, r4, r5⟩ := c_reset (N := N) hN hO (up (up (up σ 3 2 0) 3 3 (-1)) 3 4 0)
  obtain ⟨μa, l1, l2, l3, l4, l5⟩ := m_ld35 (N := N) hN hQ 417 0 N (up (up (up (up (up (up μ 178 0 0) 178 6 (nI n)) 178 3 0) 178 4 0) 178 7 (-1)) 178 8 0) (by omega) (by omega)
  have T0 : TS (σ 4) n 0 true σa μa := by
    refine ⟨0, 0, ⟨hn, by omega, ?_, ?_, fun j hj => ?_⟩, ⟨hn, by omega, ?_, ?_, fun j hj => ?_⟩, fun _ => ⟨rfl, by omega, ?_, ?_, ?_, ?_⟩, fun z => by cases z⟩
    · exact (r5 _ _ (by omega)).trans ((if_neg (by omega)).trans ((if_neg (by omega)).trans ((if_neg (by omega)).trans hc)))
    · exact (r5 _ _ (by omega)).trans ((if_neg (by omega)).trans ((if_neg (by omega)).trans up_th))
    · exact (r5 _ _ (by omega)).trans ((if_neg (by omega)).trans ((if_neg (by omega)).trans (if_neg (by omega))))
    · exact (l5 _ _ (by omega) (by omega) (by omega)).trans ((if_neg (by omega)).trans ((if_neg (by omega)).trans ((if_neg (by omega)).trans ((if_neg (by omega)).trans up_th))))
    · exact (l5 _ _ (by omega) (by omega) (by omega)).trans ((if_neg (by omega)).trans ((if_neg (by omega)).trans up_th))
    · exact (l5 _ _ (by omega) (by omega) (by omega)).trans ((if_neg (by omega)).trans ((if_neg (by omega)).trans ((if_neg (by omega)).trans ((if_neg (by omega)).trans ((if_neg (by omega)).trans ((if_neg (by omega)).trans (hb j hj).symm))))))
    · exact (r5 _ _ (by omega)).trans ((if_neg (by omega)).trans up_th)
    · exact (r5 _ _ (by omega)).trans up_th
    · exact (l5 _ _ (by omega) (by omega) (by omega)).trans ((if_neg (by omega)).trans up_th)
    · exact (l5 _ _ (by omega) (by omega) (by omega)).trans up_th
  have z : (0 : Int32).toInt = 0 := rfl
  have bz : ∀ k, 9 ≤ k → k < 417 → μa 181 k = 0 := fun k a b => by
    rw [l3 k b]
    unfold bgT
    rw [if_neg (by omega), if_neg (by omega), if_neg (by omega), if_neg (by omega), if_neg (by omega), if_neg (by omega)]
  have d0 : DT σa μa D := by
    refine ⟨⟨?_, ?_⟩, fun h hh => ?_, ⟨0, by omega, l3 0 (by omega), d9, fun i hi => absurd hi (by omega), fun i _ hi => bz _ (by omega) (by omega)⟩, ⟨0, by omega, l3 1 (by omega), d10, fun i hi => absurd hi (by omega)⟩, ⟨0, by omega, l3 2 (by omega), d11, fun i hi => absurd hi (by omega), fun i _ hi => bz _ (by omega) (by omega), fun i hi => ⟨?_, ?_, r3 i hi⟩⟩⟩
    · rw [l3 3 (by omega), l3 4 (by omega), l3 5 (by omega), l3 6 (by omega), l3 7 (by omega), l3 8 (by omega)]
      exact ⟨d12, d13, d14, d15, d16, d17⟩
    · rw [l3 3 (by omega), l3 4 (by omega), l3 5 (by omega), l3 6 (by omega), l3 7 (by omega), l3 8 (by omega)]
      decide
    · rw [bz _ (by omega) (by omega), bz _ (by omega) (by omega), bz _ (by omega) (by omega)]
      exact ⟨Or.inl ⟨rfl, (r4 h hh).1⟩, by decide, by decide⟩
    · rw [l4 _ (by omega), if_pos (by omega)]
    · rw [l4 _ (by omega), if_neg (by omega)]
  obtain ⟨ok, σc', σm', e1, g1, T1, F1, G1, v1⟩ := T_loop hN hR hQ hO n 0 0 N N σa μa (by omega) (by omega) (by omega) (by omega) T0 d0
  refine ⟨ok, σc', σm', ?_, ?_, T1, fun o j q r => ?_, fun o j q r r' r'' => ?_, fun j hj => ?_, ?_, ?_, v1⟩
  · unfold f_X5_parse f_X10_begin
    rw [hR.r2_0, sq_eq, sq_eq, sq_eq, bd_some, r1, bd_some]
    exact e1
  · unfold f_X12_load
    rw [sq_eq, show up μ 178 0 0 178 3 = nI n from (if_neg (by omega)).trans hm, sq_eq, sq_eq, sq_eq, sq_eq, sq_eq]
    exact l1.trans g1
  · exact (F1 o j q r).trans ((r5 o j r).trans ((if_neg (by omega)).trans ((if_neg (by omega)).trans (if_neg (by omega)))))
  · exact (G1 o j (by omega) r r'').trans ((l5 o j r (by omega) (by omega)).trans ((if_neg (by omega)).trans ((if_neg (by omega)).trans ((if_neg (by omega)).trans ((if_neg (by omega)).trans ((if_neg (by omega)).trans (if_neg (by omega))))))))
  · exact (G1 _ _ (by omega) (by omega) (by omega)).trans ((l2 j (by omega) hj).trans ((if_neg (by omega)).trans ((if_neg (by omega)).trans ((if_neg (by omega)).trans ((if_neg (by omega)).trans ((if_neg (by omega)).trans (if_neg (by omega))))))))
  · exact (G1 _ _ (by omega) (by omega) (by omega)).trans ((l5 _ _ (by omega) (by omega) (by omega)).trans ((if_neg (by omega)).trans ((if_neg (by omega)).trans ((if_neg (by omega)).trans ((if_neg (by omega)).trans ((if_neg (by omega)).trans up_th))))))
  · exact (G1 _ _ (by omega) (by omega) (by omega)).trans ((l5 _ _ (by omega) (by omega) (by omega)).trans ((if_neg (by omega)).trans ((if_neg (by omega)).trans ((if_neg (by omega)).trans up_th))))
end START
