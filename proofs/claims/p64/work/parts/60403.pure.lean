/-! ===== calls that read ===== -/
theorem up_th {σ : SI} {o k : Nat} {v : Int32} : up σ o k v o k = v := if_pos ⟨rfl, rfl⟩
section IVP
variable {N : Nat} {R : Nat → Nat → Nat} {s : Nat} {t w : Nat → Int} {σ : SI}
theorem Iv.ro (h : Iv σ R s t w) : RO R s := h.1
theorem Iv.tv (h : Iv σ R s t w) : TV t σ := h.2.1
theorem Iv.wv (h : Iv σ R s t w) : WV w σ := h.2.2.1
theorem Iv.tok (h : Iv σ R s t w) : TOk t := h.2.2.2.1
theorem Iv.wok (h : Iv σ R s t w) : WOk t w := h.2.2.2.2.1
theorem Iv.cq (h : Iv σ R s t w) : Cq σ s t := h.2.2.2.2.2.1
theorem Iv.cs (h : Iv σ R s t w) : Cs σ s t w := h.2.2.2.2.2.2.1
theorem Iv.cd (h : Iv σ R s t w) : Cd σ s t := h.2.2.2.2.2.2.2.1
theorem Iv.cw (h : Iv σ R s t w) : Cw σ s t w := h.2.2.2.2.2.2.2.2.1
theorem Iv.ch (h : Iv σ R s t w) : Ch σ t := h.2.2.2.2.2.2.2.2.2.1
theorem Iv.cp (h : Iv σ R s t w) : Cp σ t w := h.2.2.2.2.2.2.2.2.2.2.1
theorem Iv.ctk (h : Iv σ R s t w) : Ctk σ := h.2.2.2.2.2.2.2.2.2.2.2.1
theorem Iv.ctx (h : Iv σ R s t w) : Ctx σ := h.2.2.2.2.2.2.2.2.2.2.2.2
theorem Iv.bl7 (h : Iv σ R s t w) {b : Nat} (hb : (b : Int) < t 2) : σ (s + 40 + 5 * b) 7 = iI (t (285 + 22 * b + 9)) := (h.cq.2.2.2.2 b hb).2.2.2.1
theorem TOk.b (hO : TOk t) {b : Nat} (hb : (b : Int) < t 2) : (0 ≤ t (285 + 22 * b + 6) ∧ t (285 + 22 * b + 6) ≤ 999) ∧ (0 ≤ t (285 + 22 * b + 7) ∧ t (285 + 22 * b + 7) ≤ 999) ∧ (1 ≤ t (285 + 22 * b + 8) ∧ t (285 + 22 * b + 8) ≤ 500) ∧ (1 ≤ t (285 + 22 * b + 9) ∧ t (285 + 22 * b + 9) ≤ 12) ∧ (∀ c : Nat, (c : Int) < t (285 + 22 * b + 9) → 1 ≤ t (285 + 22 * b + 10 + c) ∧ t (285 + 22 * b + 10 + c) ≤ 999) ∧ ∀ k : Nat, k < 6 → t (285 + 22 * b + k) = 0 ∨ 97 ≤ t (285 + 22 * b + k) ∧ t (285 + 22 * b + k) ≤ 122 := hO.2.2.2.2.2.2.2.2.2.2.2 b hb
theorem TOk.n (hO : TOk t) {n : Nat} (hn : (n : Int) < t 0) : (0 ≤ t (81 + 18 * n + 6) ∧ t (81 + 18 * n + 6) ≤ 999) ∧ (0 ≤ t (81 + 18 * n + 7) ∧ t (81 + 18 * n + 7) ≤ 999) ∧ (0 ≤ t (81 + 18 * n + 8) ∧ t (81 + 18 * n + 8) ≤ 99999) ∧ (0 ≤ t (81 + 18 * n + 9) ∧ t (81 + 18 * n + 9) ≤ 4) ∧ ∀ k : Nat, (k : Int) < t (81 + 18 * n + 9) → 0 ≤ t (81 + 18 * n + 10 + 2 * k) ∧ t (81 + 18 * n + 10 + 2 * k) < t (81 + 18 * n + 11 + 2 * k) ∧ t (81 + 18 * n + 11 + 2 * k) ≤ 1440 := hO.2.2.2.2.2.2.2.2.2.1 n hn
theorem TOk.r (hO : TOk t) {r : Nat} (hr : (r : Int) < t 1) : ∀ j : Nat, j < 4 → 0 ≤ t (225 + 10 * r + 6 + j) ∧ t (225 + 10 * r + 6 + j) ≤ 999 := hO.2.2.2.2.2.2.2.2.2.2.1 r hr
theorem TOk.h (hO : TOk t) {k : Nat} (hk : k < 24) : (t (9 + 3 * k) = 0 ∨ t (9 + 3 * k) = 1) ∧ (0 ≤ t (9 + 3 * k + 1) ∧ t (9 + 3 * k + 1) ≤ 7) ∧ 0 ≤ t (9 + 3 * k + 2) ∧ t (9 + 3 * k + 2) ≤ 20 := hO.2.2.2.2.2.2.2.2.1 k hk
theorem Iv.chg (h : Iv σ R s t w) {b : Nat} (hb : (b : Int) < t 2) : 1 ≤ t (285 + 22 * b + 9) ∧ t (285 + 22 * b + 9) ≤ 12 := (h.tok.b hb).2.2.2.1
theorem c_bl_ok (h : Iv σ R s t w) {b : Nat} (hb : (b : Int) < t 2) : f_X11_blastAt N R σ 1 (nI b) = some (.inl (s + 40 + 5 * b), σ) := by
  have h2 := h.tok.2.2.1
  rw [c_blastAt h.ro h.cq.1.2.2.1 h.tok, nI_toInt (by omega), if_pos (by omega)]
  rfl
theorem c_bl_bad (h : Iv σ R s t w) {x : Int32} (hb : ¬ (0 ≤ x.toInt ∧ x.toInt < t 2)) : f_X11_blastAt N R σ 1 x = some (.inr 0, σ) := by
  rw [c_blastAt h.ro h.cq.1.2.2.1 h.tok, if_neg hb]
theorem c_nd_ok (h : Iv σ R s t w) {b : Nat} (hb : (b : Int) < t 2) : f_X11_needBlast N R σ 1 (nI b) = some (.inl (), σ) := by
  have h2 := h.tok.2.2.1
  rw [c_needBlast h.ro h.cq.1.2.2.1 h.tok, nI_toInt (by omega), if_pos (by omega)]
theorem c_nd_bad (h : Iv σ R s t w) {x : Int32} (hb : ¬ (0 ≤ x.toInt ∧ x.toInt < t 2)) : f_X11_needBlast N R σ 1 x = some (.inr 0, σ) := by
  rw [c_needBlast h.ro h.cq.1.2.2.1 h.tok, if_neg hb]
theorem c_nb_ok (h : Iv σ R s t w) {b : Nat} (hb : (b : Int) < t 0) : f_X11_neighbourAt N R σ 1 (nI b) = some (.inl (s + 10 + 3 * b), σ) := by
  have h2 := h.tok.1
  rw [c_neighbourAt h.ro h.cq.1.1 h.tok, nI_toInt (by omega), if_pos (by omega)]
  rfl
theorem c_nb_bad (h : Iv σ R s t w) {x : Int32} (hb : ¬ (0 ≤ x.toInt ∧ x.toInt < t 0)) : f_X11_neighbourAt N R σ 1 x = some (.inr 0, σ) := by
  rw [c_neighbourAt h.ro h.cq.1.1 h.tok, if_neg hb]
theorem c_rd_ok (h : Iv σ R s t w) {b : Nat} (hb : (b : Int) < t 1) : f_X11_roadAt N R σ 1 (nI b) = some (.inl (s + 34 + b), σ) := by
  have h2 := h.tok.2.1
  rw [c_roadAt h.ro h.cq.1.2.1 h.tok, nI_toInt (by omega), if_pos (by omega)]
  rfl
theorem c_rd_bad (h : Iv σ R s t w) {x : Int32} (hb : ¬ (0 ≤ x.toInt ∧ x.toInt < t 1)) : f_X11_roadAt N R σ 1 x = some (.inr 0, σ) := by
  rw [c_roadAt h.ro h.cq.1.2.1 h.tok, if_neg hb]
end IVP

