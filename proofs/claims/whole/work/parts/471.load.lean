/-! ===== load ===== -/
section LOAD
variable {N : Nat} {R : Nat → Nat → Nat} {s : Nat} {Q : Nat → Nat → Nat} {s2 : Nat} {t w w' : Nat → Int} {σ σ' σc Y : SI} {B : Nat → Int32} {n k : Nat}
theorem Cq.st (hO : TOk t) (h : Cq σ s t) (f : ∀ o k, s ≤ o → o < s + 70 → σ' o k = σ o k) : Cq σ' s t := by
  obtain ⟨c1, c2, c3, c4, c5⟩ := h
  have e0 : ∀ j, σ' s j = σ s j := fun j => f s j (by omega) (by omega)
  have eT := hO.1
  have eR := hO.2.1
  have eB := hO.2.2.1
  refine ⟨?_, fun h hh => ?_, fun n hn => ?_, fun r hr j hj => ?_, fun b hb => ?_⟩
  · simp only [e0]
    exact c1
  · rw [f (s + 8) h (by omega) (by omega), f (s + 9) h (by omega) (by omega)]
    exact c2 h hh
  · obtain ⟨n1, n2, n3, n4, n5⟩ := c3 n hn
    exact ⟨(f _ _ (by omega) (by omega)).trans n1, (f _ _ (by omega) (by omega)).trans n2, (f _ _ (by omega) (by omega)).trans n3, (f _ _ (by omega) (by omega)).trans n4, fun k hk => ⟨(f _ _ (by omega) (by omega)).trans (n5 k hk).1, (f _ _ (by omega) (by omega)).trans (n5 k hk).2⟩⟩
  · rw [f (s + 34 + r) j (by omega) (by omega)]
    exact c4 r hr j hj
  · obtain ⟨n1, n2, n3, n4, n5, n6⟩ := c5 b hb
    exact ⟨(f _ _ (by omega) (by omega)).trans n1, (f _ _ (by omega) (by omega)).trans n2, (f _ _ (by omega) (by omega)).trans n3, (f _ _ (by omega) (by omega)).trans n4, fun k hk => (f _ _ (by omega) (by omega)).trans (n5 k hk), (f _ _ (by omega) (by omega)).trans n6⟩
theorem Cs.st (hO : TOk t) (h : Cs σ s t w) (f : ∀ o k, s ≤ o → o < s + 70 → σ' o k = σ o k) : Cs σ' s t w := fun b hb => by
  have eB := hO.2.2.1
  obtain ⟨n1, n2, n3⟩ := h b hb
  exact ⟨(f _ _ (by omega) (by omega)).trans n1, (f _ _ (by omega) (by omega)).trans n2, fun k hk => (f _ _ (by omega) (by omega)).trans (n3 k hk)⟩
theorem Cd.st (hO : TOk t) (h : Cd σ s t) (f : ∀ o k, s ≤ o → o < s + 70 → σ' o k = σ o k) : Cd σ' s t := fun b hb => by
  have eB := hO.2.2.1
  obtain ⟨n1, n2, n3, n4⟩ := h b hb
  exact ⟨(f _ _ (by omega) (by omega)).trans n1, (f _ _ (by omega) (by omega)).trans n2, fun k hk => (f _ _ (by omega) (by omega)).trans (n3 k hk), fun k hk => (f _ _ (by omega) (by omega)).trans (n4 k hk)⟩
theorem Cw.st (hO : TOk t) (h : Cw σ s t w) (f : ∀ o k, s ≤ o → o < s + 70 → σ' o k = σ o k) : Cw σ' s t w := fun b hb => by
  have eB := hO.2.2.1
  obtain ⟨n1, n2, n3⟩ := h b hb
  exact ⟨(f _ _ (by omega) (by omega)).trans n1, (f _ _ (by omega) (by omega)).trans n2, (f _ _ (by omega) (by omega)).trans n3⟩
theorem WOk.cg (hO : TOk t) (h : WOk t w) (e : ∀ k, k < 84 → w' k = w k) : WOk t w' := fun b hb => by
  have eB := hO.2.2.1
  have hc := nC_c hO hb
  obtain ⟨n1, n2, n3⟩ := h b hb
  rw [e _ (by omega), e _ (by omega)]
  refine ⟨n1, n2, fun c hc => ?_⟩
  rw [e _ (by omega)]
  exact n3 c hc
theorem Cs.cg (hO : TOk t) (h : Cs σ s t w) (e : ∀ k, k < 84 → w' k = w k) : Cs σ s t w' := fun b hb => by
  have eB := hO.2.2.1
  have hc := nC_c hO hb
  obtain ⟨n1, n2, n3⟩ := h b hb
  rw [e _ (by omega), e _ (by omega)]
  refine ⟨n1, n2, fun c hc => ?_⟩
  rw [e _ (by omega)]
  exact n3 c hc
def Fl (s o k : Nat) : Prop := o = 3 ∨ (o = 178 ∧ (k = 0 ∨ 3 ≤ k ∧ k ≤ 10)) ∨ o = 182 ∨ o = 184 ∨ (146 - s ≤ o ∧ o < 146 - s + 70)
theorem Iv.fl (h : Iv σ R s t w) (q : ∀ o k, ¬ Fl s o k → σ' o k = σ o k) (hk : Ctk σ') : Iv σ' R s t w := by
  obtain ⟨hR, hT, hW, hTo, hWo, hq, hs, hd, hw, ⟨d, nx, h1, h2, h3, h4, h5, h6⟩, hp, -, ⟨x, x1, x2, x3, x4⟩⟩ := h
  have hs0 := hR.1
  have f : ∀ o k, s ≤ o → o < s + 70 → σ' o k = σ o k := fun o k a b => q o k (by unfold Fl; omega)
  have ep : ∀ j, σ' 185 j = σ 185 j := fun j => q 185 j (by unfold Fl; omega)
  refine ⟨hR, fun k => (q 181 k (by unfold Fl; omega)).trans (hT k), fun k => (q 183 k (by unfold Fl; omega)).trans (hW k), hTo, hWo, hq.st hTo f, hs.st hTo f, hd.st hTo f, hw.st hTo f, ⟨d, nx, h1, h2, ?_, ?_, ?_, ?_⟩, ?_, hk, ⟨x, x1, ?_, ?_, ?_⟩⟩
  · exact (q 178 16 (by unfold Fl; omega)).trans h3
  · exact (q 5 2 (by unfold Fl; omega)).trans h4
  · exact (q 5 1 (by unfold Fl; omega)).trans h5
  · intro j hj
    refine ⟨?_, fun b hb k hk => ?_⟩
    · simp only [ep]
      exact (h6 j hj).1
    · rw [ep, q (7 + (nx + 16 - d + j) % 16) _ (by unfold Fl; omega)]
      exact (h6 j hj).2 b hb k hk
  · unfold Cp
    rw [q 23 5 (by unfold Fl; omega), q 23 4 (by unfold Fl; omega)]
    rcases hp with hp | hp
    · exact Or.inl hp
    · exact Or.inr ⟨hp.1, hp.2.1, fun b hb => (q 26 b (by unfold Fl; omega)).trans (hp.2.2 b hb)⟩
  · exact (q 29 1 (by unfold Fl; omega)).trans x2
  · exact (q 178 26 (by unfold Fl; omega)).trans x3
  · intro j hj
    rw [q 30 j (by unfold Fl; omega), q 193 j (by unfold Fl; omega)]
    exact x4 j hj
theorem m_ld97_t (hN : 2000 ≤ N) (hQ : RO Q s2) (T : TS B n k true σc Y) : ∃ Z, f_X12_load_97 N Q Y 178 = some (Y 181 2, Z) ∧ (∀ k, k < 84 → Z 183 k = Y 184 k) ∧ Z 178 16 = 0 ∧ Z 178 9 = Y 178 7 ∧ Z 178 10 = Y 178 8 ∧ ∀ o k, (o ≠ 183 ∨ 84 ≤ k) → (o ≠ 178 ∨ (k ≠ 16 ∧ k ≠ 9 ∧ k ≠ 10)) → Z o k = Y o k := by
  obtain ⟨Z, i1, i2, i3, i4⟩ := m_ld156 (N := N) hQ 84 0 N (up (up Y 178 9 (Y 178 7)) 178 10 (Y 178 8)) (by omega) (by omega)
  refine ⟨Z, ?_, fun k hk => (i2 k (by omega) hk).trans ((if_neg (by omega)).trans (if_neg (by omega))), i3, ?_, ?_, fun o k q q' => (i4 o k (by omega) (by omega)).trans ((if_neg (by omega)).trans (if_neg (by omega)))⟩
  · unfold f_X12_load_97 f_X12_hasFailed f_X12_throwsIf
    rw [sq_eq, sq_eq, show up Y 178 9 (Y 178 7) 178 8 = Y 178 8 from if_neg (by omega), show up (up Y 178 9 (Y 178 7)) 178 10 (Y 178 8) 178 7 = -1 from (if_neg (by omega)).trans ((if_neg (by omega)).trans T.m1), if_pos rfl, bd_some, if_pos rfl, cb_0, bd_some, if_pos rfl, show f_X12_load_156 N Q N (up (up Y 178 9 (Y 178 7)) 178 10 (Y 178 8)) 178 0 = _ from i1, show up (up Y 178 9 (Y 178 7)) 178 10 (Y 178 8) 181 2 = Y 181 2 from (if_neg (by omega)).trans (if_neg (by omega))]
  · exact (i4 _ _ (by omega) (by omega)).trans ((if_neg (by omega)).trans up_th)
  · exact (i4 _ _ (by omega) (by omega)).trans up_th
theorem m_ld97_f (hN : 2000 ≤ N) (hQ : RO Q s2) (T : TS B n k false σc Y) : ∃ Z, f_X12_load_97 N Q Y 178 = some (0, Z) ∧ (∀ k, k < 417 → Z 181 k = Y 182 k) ∧ Z 178 0 = 1 ∧ Z 178 9 = Y 178 7 ∧ Z 178 10 = Y 178 8 ∧ ∀ o k, (o ≠ 181 ∨ 417 ≤ k) → (o ≠ 178 ∨ (k ≠ 0 ∧ k ≠ 9 ∧ k ≠ 10)) → Z o k = Y o k := by
  obtain ⟨Z, i1, i2, i4⟩ := m_ld127 (N := N) hQ 417 0 N (up (up (up Y 178 9 (Y 178 7)) 178 10 (Y 178 8)) 178 0 1) (by omega) (by omega)
  refine ⟨Z, ?_, fun k hk => (i2 k (by omega) hk).trans ((if_neg (by omega)).trans ((if_neg (by omega)).trans (if_neg (by omega)))), ?_, ?_, ?_, fun o k q q' => (i4 o k (by omega)).trans ((if_neg (by omega)).trans ((if_neg (by omega)).trans (if_neg (by omega))))⟩
  · unfold f_X12_load_97 f_X12_hasFailed f_X12_throwsIf
    rw [sq_eq, sq_eq, show up Y 178 9 (Y 178 7) 178 8 = Y 178 8 from if_neg (by omega), if_neg (show ¬ up (up Y 178 9 (Y 178 7)) 178 10 (Y 178 8) 178 7 = -1 by rw [show up (up Y 178 9 (Y 178 7)) 178 10 (Y 178 8) 178 7 = Y 178 7 from (if_neg (by omega)).trans (if_neg (by omega))]; exact T.m0), bd_some, if_neg (by decide), sq_eq, cb_1, bd_some, if_neg (by decide)]
    exact i1
  · exact (i4 _ _ (by omega)).trans up_th
  · exact (i4 _ _ (by omega)).trans ((if_neg (by omega)).trans ((if_neg (by omega)).trans up_th))
  · exact (i4 _ _ (by omega)).trans ((if_neg (by omega)).trans up_th)
theorem ag_2 {N : Nat} (hN : 2000 ≤ N) : Ag_2 N Inv := by
  intro σ R hI
  obtain ⟨s, t, w, h⟩ := hI
  have hR := h.ro
  have hs0 := hR.1
  have hO := hR.dO
  obtain ⟨n, n1, n2, n3, n4, -, -⟩ := h.ctk
  obtain ⟨ok, X, Y, e1, -, T1, F1, -, -, -, -, v1⟩ := T_load hN hR hR hO (μ := σ) n1 n2 n3 n4
  cases ok
  · -- a text that is refused
    obtain ⟨ok2, X2, Y2, e2, g2, T2, F2, G2, k2, -, z3, -⟩ := T_load hN hR hR hO (μ := up X 3 1 0) n1 n2 ((if_neg (by omega)).trans ((F1 _ _ (by omega) (by omega)).trans n3)) (fun j hj => (n4 j hj).trans ((if_neg (by omega)).trans (F1 _ _ (by omega) (by omega))).symm)
    have ee : (bI ok2, X2) = (bI false, X) := Option.some.inj (e2.symm.trans e1)
    have eX : X2 = X := congrArg Prod.snd ee
    have eo : ok2 = false := bI_0.mp ((congrArg Prod.fst ee).trans bI_f)
    subst eX
    subst eo
    obtain ⟨Z, l1, l2, l3, l4, l5, l6⟩ := m_ld97_f (N := N) hN hR T2
    obtain ⟨p, q', c1, c2, -, c4⟩ := T2
    obtain ⟨off, kd, o1, o2, o3, o4, o5, o6, o7⟩ := c4 rfl
    have fr : ∀ o k, ¬ Fl s o k → Z o k = σ o k := fun o k q => by
      unfold Fl at q
      by_cases c : o = 181 ∧ k < 417
      · rw [c.1, l2 k c.2, k2 k c.2]
        exact (if_neg (by omega)).trans (F1 _ _ (by omega) (by omega))
      · exact (l6 o k (by omega) (by omega)).trans ((G2 o k (by omega) (by omega) (by omega) (by omega)).trans ((if_neg (by omega)).trans (F1 _ _ (by omega) (by omega))))
    have zc : ∀ j, Z 3 j = up X2 3 1 0 3 j := fun j => (l6 3 j (by omega) (by omega)).trans (G2 3 j (by omega) (by omega) (by omega) (by omega))
    have hk : Ctk Z := by
      refine ⟨0, by omega, ?_, ?_, fun j hj => absurd hj (by omega), ?_, ?_⟩
      · rw [zc, up_th]
        rfl
      · exact (l6 _ _ (by omega) (by omega)).trans z3
      · rw [zc, l4, o6, ← o4]
        exact if_neg (by omega)
      · rw [zc, l5, o7, ← o5]
        exact if_neg (by omega)
    refine ⟨.inr 1, up X2 3 1 0, R, 0, Z, ?_, g2.trans l1, ⟨s, t, w, h.fl fr hk⟩, hR.ok, fun v q => (by cases q), fun q hq => ⟨(Sum.inr.inj hq).symm, l3⟩⟩
    unfold f_X11_load
    rw [hR.r1_0, hR.draft, e1, bd_some, hR.r2_0, sq_eq, bI_f, if_pos rfl]
  · -- a text that is taken
    have hR1 : RO (swR R 1) (146 - s) := hR.swap (by unfold swR; rw [if_neg (by omega), if_pos ⟨rfl, rfl⟩]) (by unfold swR; rw [if_pos ⟨rfl, rfl⟩]) (fun o k q => by unfold swR; rw [if_neg (by omega), if_neg (by omega)])
    have hD := hO.1
    obtain ⟨to, wo, cq, cs⟩ := (v1 rfl).ok
    have f3 : ∀ o k, 146 - s ≤ o → o < 146 - s + 70 → up X 3 1 0 o k = X o k := fun o k a b => if_neg (by omega)
    obtain ⟨S, q1, -, -, -, -, q2⟩ := c_survey (N := N) hN hR1 to wo (cq.st to f3) (cs.st to f3)
    have FV : ∀ o k, (o ≠ 3 ∨ (k ≠ 1 ∧ k ≠ 2 ∧ k ≠ 3 ∧ k ≠ 4)) → (o < 146 - s ∨ 146 - s + 70 ≤ o) → (o ≠ 5 ∨ k ≠ 2) → (o ≠ 23 ∨ k ≠ 5) → up (up S 5 2 0) 23 5 0 o k = σ o k := fun o k a b c d => (if_neg (by omega)).trans ((if_neg (by omega)).trans ((q2 o k (by omega)).trans ((if_neg (by omega)).trans (F1 o k (by omega) b))))
    obtain ⟨ok2, X2, Y2, e2, g2, T2, F2, G2, k2, z0, z3, v2⟩ := T_load hN hR hR1 hO (μ := up (up S 5 2 0) 23 5 0) n1 n2 ((FV _ _ (by omega) (by omega) (by omega) (by omega)).trans n3) (fun j hj => (n4 j hj).trans (FV _ _ (by omega) (by omega) (by omega) (by omega)).symm)
    have ee : (bI ok2, X2) = (bI true, X) := Option.some.inj (e2.symm.trans e1)
    have eX : X2 = X := congrArg Prod.snd ee
    have eo : ok2 = true := by
      cases ok2
      · have : bI false = bI true := congrArg Prod.fst ee
        exact absurd this (by decide)
      · rfl
    subst eX
    subst eo
    obtain ⟨to2, wo2, cq2, cs2⟩ := (v2 rfl).ok
    have w84 : ∀ k, k < 84 → (fun k => if k < 84 then wO Y2 k else (σ 183 k).toInt) k = wO Y2 k := fun k hk => if_pos hk
    obtain ⟨S', p1, p2, p3, p4, p5, -⟩ := c_survey (N := N) hN hR1 to2 (wo2.cg to2 w84) (cq2.st to2 f3) ((cs2.cg to2 w84).st to2 f3)
    have eS : S' = S := congrArg Prod.snd (Option.some.inj (p1.symm.trans q1))
    subst eS
    obtain ⟨Z, l1, l2, l3, l4, l5, l6⟩ := m_ld97_t (N := N) hN hR1 T2
    obtain ⟨pp, qq, c1, c2, c3, -⟩ := T2
    obtain ⟨-, -, x3, x4, y7, y8⟩ := c3 rfl
    have fZ : ∀ o k, (o < 178 ∨ 184 < o ∨ (o = 178 ∧ 16 < k)) → Z o k = up (up S' 5 2 0) 23 5 0 o k := fun o k a => (l6 o k (by omega) (by omega)).trans (G2 o k (by omega) (by omega) (by omega) (by omega))
    have fS : ∀ o k, 146 - s ≤ o → o < 146 - s + 70 → Z o k = S' o k := fun o k a b => (fZ o k (by omega)).trans ((if_neg (by omega)).trans (if_neg (by omega)))
    have z3c : ∀ j, Z 3 j = up X2 3 1 0 3 j := fun j => (fZ 3 j (by omega)).trans ((if_neg (by omega)).trans ((if_neg (by omega)).trans (q2 3 j (by omega))))
    have m181 : ∀ k, Z 181 k = Y2 181 k := fun k => l6 _ _ (by omega) (by omega)
    obtain ⟨d, nx, h1, h2, -, -, h5, -⟩ := h.ch
    obtain ⟨x, x1, xx2, xx3, xx4⟩ := h.ctx
    have hIv : Iv Z (swR R 1) (146 - s) (tO Y2) (fun k => if k < 84 then wO Y2 k else (σ 183 k).toInt) := by
      refine ⟨hR1, fun k => (m181 k).trans (iI_of _), fun k => ?_, to2, wo2.cg to2 w84, p2.st to2 fS, p3.st to2 fS, p4.st to2 fS, p5.st to2 fS, ⟨0, nx, by omega, h2, l3, ?_, ?_, fun j hj => absurd hj (by omega)⟩, Or.inl ?_, ⟨0, by omega, ?_, ?_, fun j hj => absurd hj (by omega), ?_, ?_⟩, ⟨x, x1, ?_, ?_, fun j hj => ?_⟩⟩
      · by_cases c : k < 84
        · rw [l2 k c]
          show _ = iI (if k < 84 then wO Y2 k else (σ 183 k).toInt)
          rw [if_pos c]
          exact iI_of _
        · show _ = iI (if k < 84 then wO Y2 k else (σ 183 k).toInt)
          rw [if_neg c, ← iI_of]
          exact (l6 _ _ (by omega) (by omega)).trans ((G2 _ _ (by omega) (by omega) (by omega) (by omega)).trans (FV _ _ (by omega) (by omega) (by omega) (by omega)))
      · exact (fZ 5 2 (by omega)).trans ((if_neg (by omega)).trans up_th)
      · exact (fZ 5 1 (by omega)).trans ((FV _ _ (by omega) (by omega) (by omega) (by omega)).trans h5)
      · exact (fZ 23 5 (by omega)).trans up_th
      · rw [z3c, up_th]
        rfl
      · exact (l6 _ _ (by omega) (by omega)).trans z3
      · rw [z3c, l4, y7, ← x3]
        exact if_neg (by omega)
      · rw [z3c, l5, y8, ← x4]
        exact if_neg (by omega)
      · exact (fZ 29 1 (by omega)).trans ((FV _ _ (by omega) (by omega) (by omega) (by omega)).trans xx2)
      · exact (fZ 178 26 (by omega)).trans ((FV _ _ (by omega) (by omega) (by omega) (by omega)).trans xx3)
      · rw [fZ 30 j (by omega), fZ 193 j (by omega), FV 30 j (by omega) (by omega) (by omega) (by omega), FV 193 j (by omega) (by omega) (by omega) (by omega)]
        exact xx4 j hj
    have r8 : swR R 1 1 8 = 146 - s := hR1.site
    refine ⟨.inl (up (up S' 5 2 0) 23 5 0 (146 - s) 11), up (up S' 5 2 0) 23 5 0, swR R 1, Y2 181 2, Z, ?_, g2.trans l1, ⟨_, _, _, hIv⟩, hR1.ok, fun v q => ⟨?_, ?_⟩, fun q hq => by cases hq⟩
    · unfold f_X11_load
      rw [hR.r1_0, hR.draft, e1, bd_some, hR.r2_0, sq_eq, bI_t, if_neg (by decide), r8, q1, bd_some, hR1.r1_1, hR1.r1_2]
      unfold f_X2_clear f_X6_forget
      rw [sq_eq, bd_some, sq_eq, bd_some]
    · exact (l6 _ _ (by omega) (by omega)).trans z0
    · rw [← Sum.inl.inj q]
      refine (if_neg (by omega)).trans ((if_neg (by omega)).trans (p2.1.2.2.1.trans ?_))
      exact (iI_of _).symm
end LOAD
