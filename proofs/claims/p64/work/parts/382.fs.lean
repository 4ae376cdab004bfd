/-! ===== what reset comes to ===== -/
def wr (σ : SI) (a k m : Nat) (w : Nat → Int32) : SI := fun o j => if o = a ∧ k ≤ j ∧ j < k + m then w j else σ o j
theorem wr_0 (σ : SI) (a k : Nat) (w : Nat → Int32) : wr σ a k 0 w = σ := by
  funext o j
  unfold wr
  rw [if_neg (by omega)]
theorem wr_up (σ : SI) (a k m : Nat) (w : Nat → Int32) : wr (up σ a k (w k)) a (k + 1) m w = wr σ a k (m + 1) w := by
  funext o j
  unfold wr up
  by_cases h : o = a ∧ j = k
  · obtain ⟨rfl, rfl⟩ := h
    rw [if_neg (by omega), if_pos ⟨rfl, rfl⟩, if_pos (by omega)]
  · by_cases h2 : o = a ∧ k + 1 ≤ j ∧ j < k + 1 + m
    · rw [if_pos h2, if_pos (by omega)]
    · rw [if_neg h2, if_neg h, if_neg (by omega)]
theorem ck_nI {α : Type} {k len : Nat} {x : Option α} (h : k < len) (hl : len < 2 ^ 31) : ck (nI k) len x = x := by
  unfold ck
  rw [if_pos]
  rw [nI_toInt (by omega)]
  omega
theorem reset82 (N : Nat) (R : Nat → Nat → Nat) : ∀ (m k n : Nat) (σ : SI) (x0 : Nat), k + m = 6 → m < n → f_X9_reset_82 N R n σ x0 (nI k) = some ((), wr σ (R x0 6) k m (fun _ => -1)) := by
  intro m
  induction m with
  | zero =>
    intro k n σ x0 hk hn
    obtain ⟨n, rfl⟩ : ∃ q, n = q + 1 := ⟨n - 1, by omega⟩
    rw [f_X9_reset_82, if_pos (by rw [show k = 6 by omega]; decide), wr_0]
  | succ m ih =>
    intro k n σ x0 hk hn
    obtain ⟨n, rfl⟩ : ∃ q, n = q + 1 := ⟨n - 1, by omega⟩
    rw [f_X9_reset_82, if_neg (by rw [show (6 : Int32) = nI 6 from rfl, nI_leI (by omega) (by omega)]; omega), ck_nI (by omega) (by omega)]
    dsimp only [sq]
    rw [nI_1, ih (k + 1) n _ x0 (by omega) (by omega), nI_clamp (by omega), wr_up σ (R x0 6) k m (fun _ => -1)]
theorem reset54 (N : Nat) (R : Nat → Nat → Nat) : ∀ (m k n : Nat) (σ : SI) (x0 : Nat), k + m = 24 → m < n → f_X9_reset_54 N R n σ x0 (nI k) = f_X9_reset_82 N R N (wr (wr σ (R x0 7) k m (fun _ => -1)) (R x0 8) k m (fun _ => 0)) x0 0 := by
  intro m
  induction m with
  | zero =>
    intro k n σ x0 hk hn
    obtain ⟨n, rfl⟩ : ∃ q, n = q + 1 := ⟨n - 1, by omega⟩
    rw [f_X9_reset_54, if_pos (by rw [show k = 24 by omega]; decide), wr_0, wr_0]
  | succ m ih =>
    intro k n σ x0 hk hn
    obtain ⟨n, rfl⟩ : ∃ q, n = q + 1 := ⟨n - 1, by omega⟩
    rw [f_X9_reset_54, if_neg (by rw [show (24 : Int32) = nI 24 from rfl, nI_leI (by omega) (by omega)]; omega), ck_nI (by omega) (by omega)]
    dsimp only [sq]
    rw [ck_nI (by omega) (by omega), nI_1, ih (k + 1) n _ x0 (by omega) (by omega), nI_clamp (by omega)]
    refine congrArg (fun q => f_X9_reset_82 N R N q x0 0) ?_
    funext o j
    unfold wr up
    repeat' split
    all_goals first | rfl | (exfalso; omega)
def FS_reset (R : Nat → Nat → Nat) (σ : SI) (x0 : Nat) : SI := wr (wr (wr (up (up (up (up (up (up (up (up (up σ x0 9 0) x0 10 0) x0 11 0) x0 12 480) x0 13 960) x0 14 60) x0 15 10) x0 16 5) x0 17 15) (R x0 7) 0 24 (fun _ => -1)) (R x0 8) 0 24 (fun _ => 0)) (R x0 6) 0 6 (fun _ => -1)
theorem reset_eqN {N : Nat} (hN : 24 < N) (R : Nat → Nat → Nat) (σ : SI) (x0 : Nat) : f_X9_reset N R σ x0 = some ((), FS_reset R σ x0) := by
  unfold f_X9_reset
  dsimp only [sq]
  rw [← nI_0, reset54 N R 24 0 N _ x0 rfl hN, ← nI_0, reset82 N R 6 0 N _ x0 rfl (by omega), nI_0]
  rfl
theorem reset_eq (R : Nat → Nat → Nat) (σ : SI) (x0 : Nat) : f_X9_reset 100 R σ x0 = some ((), FS_reset R σ x0) := reset_eqN (by decide) R σ x0
theorem zI_wr {n a k m : Nat} {w : Nat → Int32} {σ : SI} (h : ∀ id, n < id → ∀ j, σ id j = 0) (ha : a ≤ n) : ∀ id, n < id → ∀ j, wr σ a k m w id j = 0 := fun id hid j => by
  unfold wr
  rw [if_neg (by omega)]
  exact h id hid j
theorem zI_up {n a k : Nat} {v : Int32} {σ : SI} (h : ∀ id, n < id → ∀ j, σ id j = 0) (ha : a ≤ n) : ∀ id, n < id → ∀ j, up σ a k v id j = 0 := fun id hid j => by
  unfold up
  rw [if_neg (by omega)]
  exact h id hid j
theorem zr_FS_reset {n x0 : Nat} {z : Sg} (hz : Zr n z) (hx : x0 ≤ n) (h : z.2.1 x0 6 ≤ n ∧ z.2.1 x0 7 ≤ n ∧ z.2.1 x0 8 ≤ n) : Zr n (mkN n (FS_reset z.2.1 z.1 x0) z.2.1 z.2.2.1) := by
  have h0 : ∀ id, n < id → ∀ j, z.1 id j = 0 := fun id hid j => (hz id hid).1 j
  have h1 : ∀ id, n < id → ∀ j, FS_reset z.2.1 z.1 x0 id j = 0 := by
    unfold FS_reset
    exact zI_wr (zI_wr (zI_wr (zI_up (zI_up (zI_up (zI_up (zI_up (zI_up (zI_up (zI_up (zI_up h0 hx) hx) hx) hx) hx) hx) hx) hx) hx) h.2.1) h.2.2) h.1
  exact fun id hid => ⟨fun j => h1 id hid j, (hz id hid).2⟩
