/-! ===== the next blast, the input buffer, the formatted text ===== -/
section NX
variable {N : Nat} {R : Nat → Nat → Nat} {s : Nat} {t w : Nat → Int} {σ : SI}
/-- the first blast from a minute on -/
def nxS (w : Nat → Int) (x : Int) : Nat → Int → Int := fun i a => if w (14 * i) ≠ -1 ∧ w (14 * i + 1) = 0 ∧ x ≤ w (14 * i) ∧ (a = -1 ∨ w (14 * i) < w (14 * a.toNat)) then (i : Int) else a
end NX


section BUF
variable {N : Nat} {R : Nat → Nat → Nat} {s : Nat} {t w : Nat → Int} {σ : SI}
/-! append -/
/-- byte j of a word -/
def byt (x : Int32) (j : Nat) : Int32 := vp_nar .byte ((x >>> (iI (24 - 8 * (j : Int)) &&& 31)).toInt8.toInt32)
theorem c_addWord (hR : RO R s) (x : Int32) (n0 : Nat) (hn : n0 + 4 ≤ 800) : ∀ (m k n : Nat) (σ : SI), k + m = 4 → m < n → σ 3 1 = nI (n0 + k) → ∃ σ', f_X10_addWord_3 N R n σ 3 x (iI (24 - 8 * (k : Int))) = some ((), σ') ∧ σ' 3 1 = nI (n0 + 4) ∧ (∀ j, σ' 4 j = if n0 + k ≤ j ∧ j < n0 + 4 then byt x (j - n0) else σ 4 j) ∧ ∀ o j, o ≠ 4 → (o ≠ 3 ∨ j ≠ 1) → σ' o j = σ o j := by
  intro m
  induction m with
  | zero =>
    intro k n σ hk hm h1
    obtain ⟨n, rfl⟩ : ∃ q, n = q + 1 := ⟨n - 1, by omega⟩
    refine ⟨σ, ?_, by rw [h1, show k = 4 by omega], fun j => by rw [if_neg (by omega)], fun o j _ _ => rfl⟩
    rw [f_X10_addWord_3, if_pos]
    rw [show (0 : Int32) = iI 0 from rfl, iI_lt (by omega)]
    omega
  | succ m ih =>
    intro k n σ hk hm h1
    obtain ⟨n, rfl⟩ : ∃ q, n = q + 1 := ⟨n - 1, by omega⟩
    obtain ⟨σ', g1, g2, g3, g4⟩ := ih (k + 1) n (up (up σ 4 (n0 + k) (byt x k)) 3 1 (nI (n0 + (k + 1)))) (by omega) (by omega) up_th
    refine ⟨σ', ?_, g2, fun j => ?_, fun o j h2 h3 => ?_⟩
    · rw [f_X10_addWord_3, if_neg (by rw [show (0 : Int32) = iI 0 from rfl, iI_lt (by omega)]; omega), h1, if_neg (by rw [show (800 : Int32) = nI 800 from rfl, nI_leI (by omega) (by omega)]; omega), ck_nI (by omega) (by decide), hR.r3_0, nI_clamp (by omega), sq_eq, sq_eq, show iI (24 - 8 * (k : Int)) + (-8) = iI (24 - 8 * ((k + 1 : Nat) : Int)) from by rw [show (-8 : Int32) = iI (-8) from rfl, iI_add]; congr 1; omega]
      have e : up σ 4 (n0 + k) (vp_nar .byte ((x >>> (iI (24 - 8 * (k : Int)) &&& 31)).toInt8.toInt32)) 3 1 + 1 = nI (n0 + (k + 1)) := by
        rw [show up σ 4 (n0 + k) (vp_nar .byte ((x >>> (iI (24 - 8 * (k : Int)) &&& 31)).toInt8.toInt32)) 3 1 = σ 3 1 from if_neg (by omega), h1, nI_1]
        rfl
      rw [e]
      exact g1
    · rw [g3 j]
      unfold up
      by_cases c : j = n0 + k
      · rw [if_neg (by omega), if_neg (by omega), if_pos ⟨rfl, c⟩, if_pos (by omega), show j - n0 = k by omega]
      · by_cases c2 : n0 + (k + 1) ≤ j ∧ j < n0 + 4
        · rw [if_pos c2, if_pos (by omega)]
        · rw [if_neg c2, if_neg (by omega), if_neg (by omega), if_neg (by omega)]
    · rw [g4 o j h2 h3]
      unfold up
      rw [if_neg (by omega), if_neg (by omega)]
theorem c_addW (hN : 2000 ≤ N) (hR : RO R s) (x : Int32) {n0 : Nat} (hn : n0 + 4 ≤ 800) (h1 : σ 3 1 = nI n0) : ∃ σ', f_X10_addWord N R σ 3 x = some ((), σ') ∧ σ' 3 1 = nI (n0 + 4) ∧ (∀ j, σ' 4 j = if n0 ≤ j ∧ j < n0 + 4 then byt x (j - n0) else σ 4 j) ∧ ∀ o j, o ≠ 4 → (o ≠ 3 ∨ j ≠ 1) → σ' o j = σ o j := by
  unfold f_X10_addWord
  exact c_addWord hR x n0 hn 4 0 N σ (by decide) (by omega) h1
end BUF


