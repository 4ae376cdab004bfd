/-! ===== the site stays where its cells stay ===== -/
section VST
variable {N s : Nat} {R : Nat → Nat → Nat} {σ σ' : SI} {t w : Nat → Int}
theorem Cq.st (hO : TOk t) (h : Cq σ s t) (f : ∀ o k, s ≤ o → o < s + 70 → σ' o k = σ o k) : Cq σ' s t := by
  obtain ⟨c1, c2, c3, c4, c5⟩ := h
  have e0 : ∀ j, σ' s j = σ s j := fun j => f s j (by omega) (by omega)
  have eT := hO.1
  have eR := hO.2.1
  have eB := hO.2.2.1
  refine ⟨?_, fun h hh => ?_, fun n hn => ?_, fun r hr j hj => ?_, fun b hb => ?_⟩
  · simp only [e0]
    exact c1
  · rw [f (s + 8) h (by omega) (by omega), f (s + 9) h (by omega) (by omega)]
    exact c2 h hh
  · obtain ⟨n1, n2, n3, n4, n5⟩ := c3 n hn
    exact ⟨(f _ _ (by omega) (by omega)).trans n1, (f _ _ (by omega) (by omega)).trans n2, (f _ _ (by omega) (by omega)).trans n3, (f _ _ (by omega) (by omega)).trans n4, fun k hk => ⟨(f _ _ (by omega) (by omega)).trans (n5 k hk).1, (f _ _ (by omega) (by omega)).trans (n5 k hk).2⟩⟩
  · rw [f (s + 34 + r) j (by omega) (by omega)]
    exact c4 r hr j hj
  · obtain ⟨n1, n2, n3, n4, n5, n6⟩ := c5 b hb
    exact ⟨(f _ _ (by omega) (by omega)).trans n1, (f _ _ (by omega) (by omega)).trans n2, (f _ _ (by omega) (by omega)).trans n3, (f _ _ (by omega) (by omega)).trans n4, fun k hk => (f _ _ (by omega) (by omega)).trans (n5 k hk), (f _ _ (by omega) (by omega)).trans n6⟩
theorem Cs.st (hO : TOk t) (h : Cs σ s t w) (f : ∀ o k, s ≤ o → o < s + 70 → σ' o k = σ o k) : Cs σ' s t w := fun b hb => by
  have eB := hO.2.2.1
  obtain ⟨n1, n2, n3⟩ := h b hb
  exact ⟨(f _ _ (by omega) (by omega)).trans n1, (f _ _ (by omega) (by omega)).trans n2, fun k hk => (f _ _ (by omega) (by omega)).trans (n3 k hk)⟩
theorem Cd.st (hO : TOk t) (h : Cd σ s t) (f : ∀ o k, s ≤ o → o < s + 70 → σ' o k = σ o k) : Cd σ' s t := fun b hb => by
  have eB := hO.2.2.1
  obtain ⟨n1, n2, n3, n4⟩ := h b hb
  exact ⟨(f _ _ (by omega) (by omega)).trans n1, (f _ _ (by omega) (by omega)).trans n2, fun k hk => (f _ _ (by omega) (by omega)).trans (n3 k hk), fun k hk => (f _ _ (by omega) (by omega)).trans (n4 k hk)⟩
theorem Cw.st (hO : TOk t) (h : Cw σ s t w) (f : ∀ o k, s ≤ o → o < s + 70 → σ' o k = σ o k) : Cw σ' s t w := fun b hb => by
  have eB := hO.2.2.1
  obtain ⟨n1, n2, n3⟩ := h b hb
  exact ⟨(f _ _ (by omega) (by omega)).trans n1, (f _ _ (by omega) (by omega)).trans n2, (f _ _ (by omega) (by omega)).trans n3⟩
/-- what the planner knows stays where its cells stay -/
theorem Iv.keep (h : Iv σ R s t w) (f : ∀ o k, o ≤ 177 → σ' o k = σ o k) : Iv σ' R s t w := by
  have hs := h.1.1
  have q : ∀ o k, s ≤ o → o < s + 70 → σ' o k = σ o k := fun o k h1 h2 => f o k (by omega)
  exact ⟨h.1, trivial, trivial, h.tok, h.wok, h.cq.st h.tok q, h.cs.st h.tok q, h.cd.st h.tok q, h.cw.st h.tok q, trivial, trivial, trivial, trivial⟩
end VST
