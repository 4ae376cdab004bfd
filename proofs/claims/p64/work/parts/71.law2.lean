/-! ===== dust, as the law asks it ===== -/
section VL2
variable {N : Nat} {R : Nat → Nat → Nat} {σ : SI} {sd : SDt} {ws : List WDt} {ns : List NDt} {rs : List RDt} {bs : List BDt}
theorem dT_eq {dx dy p q D : Int} {s : Nat} {F : Option (Int32 × SI)} {h : Nat} (hx : -300 ≤ dx ∧ dx ≤ 300) (hy : -300 ≤ dy ∧ dy ≤ 300) (hp : p = -1 ∨ p = 0 ∨ p = 1) (hq : q = -1 ∨ q = 0 ∨ q = 1) (hD : 0 ≤ D ∧ D ≤ 200000) (hs : s < 12) (hF : F = some (iI D, σ)) (hv : σ 193 h = nI s) (hh : h < 24) :
    (if iI dx * iI p + iI dy * iI q ≤ 0 then some ((0 : Int32), σ) else if iI dx * iI p + iI dy * iI q < iI dx * iI q - iI dy * iI p then some ((0 : Int32), σ) else if iI dx * iI p + iI dy * iI q < -(iI dx * iI q - iI dy * iI p) then some ((0 : Int32), σ) else bd F (fun a σ' => ck (nI h) 24 (ck (nI h) 24 (if ((2500 : Int32) * σ' 193 (nI h).toNatClampNeg) * σ' 193 (nI h).toNatClampNeg < a then some ((0 : Int32), σ') else some ((1 : Int32), σ'))))) = some (bI (decide (0 < dx * p + dy * q ∧ (if dx * q - dy * p < 0 then -(dx * q - dy * p) else dx * q - dy * p) ≤ dx * p + dy * q ∧ D ≤ (50 * (s : Int)) * (50 * (s : Int)))), σ) := by
  have hss : (2500 : Int) * s * s = (50 * (s : Int)) * (50 * (s : Int)) := by
    have e1 : (50 * (s : Int)) * (50 * (s : Int)) = 50 * (50 * ((s : Int) * s)) := by
      rw [Int.mul_assoc, Int.mul_left_comm (s : Int) 50 s]
    have e2 : (2500 : Int) * s * s = 2500 * ((s : Int) * s) := Int.mul_assoc _ _ _
    rw [e1, e2]
    generalize (s : Int) * s = z
    omega
  have hs2 : (2500 : Int) * s * s ≤ 400000 := by
    have h1 : s * s ≤ 12 * 12 := Nat.mul_le_mul (by omega) (by omega)
    have h2 : (2500 : Int) * s * s = ((2500 * (s * s) : Nat) : Int) := by
      rw [Int.mul_assoc]
      rfl
    omega
  have hs3 : 0 ≤ (2500 : Int) * s * s := by
    have h2 : (2500 : Int) * s * s = ((2500 * (s * s) : Nat) : Int) := by
      rw [Int.mul_assoc]
      rfl
    omega
  have eF : bd F (fun a σ' => ck (nI h) 24 (ck (nI h) 24 (if ((2500 : Int32) * σ' 193 (nI h).toNatClampNeg) * σ' 193 (nI h).toNatClampNeg < a then some ((0 : Int32), σ') else some ((1 : Int32), σ')))) = if (2500 : Int) * s * s < D then some ((0 : Int32), σ) else some ((1 : Int32), σ) := by
    rw [hF, bd_some, ck_nI hh (by decide), ck_nI hh (by decide), nI_clamp (by omega), hv, iI_nat s, show (2500 : Int32) = iI 2500 from rfl, iI_mul, iI_mul]
    by_cases c : (2500 : Int) * s * s < D
    · rw [if_pos c, if_pos ((iI_lt (by omega)).mpr c)]
    · rw [if_neg c, if_neg (fun z => c ((iI_lt (by omega)).mp z))]
  rw [eF, iI_mul, iI_mul, iI_mul, iI_mul, iI_add, iI_sub, iI_neg, show (0 : Int32) = iI 0 from rfl, ← hss]
  generalize (2500 : Int) * s * s = S at hs2 hs3 ⊢
  have hA : -600 ≤ dx * p + dy * q ∧ dx * p + dy * q ≤ 600 := by
    rcases hp with rfl | rfl | rfl <;> rcases hq with rfl | rfl | rfl <;> omega
  have hB : -600 ≤ dx * q - dy * p ∧ dx * q - dy * p ≤ 600 := by
    rcases hp with rfl | rfl | rfl <;> rcases hq with rfl | rfl | rfl <;> omega
  generalize dx * p + dy * q = A at hA ⊢
  generalize dx * q - dy * p = B at hB ⊢
  by_cases c1 : A ≤ 0
  · rw [if_pos ((iI_le (by omega)).mpr c1), decide_eq_false (by omega)]
    rfl
  · rw [if_neg (fun z => c1 ((iI_le (by omega)).mp z))]
    by_cases c2 : A < B
    · rw [if_pos ((iI_lt (by omega)).mpr c2), decide_eq_false (fun z => by
        obtain ⟨z1, z2, z3⟩ := z
        split at z2 <;> omega)]
      rfl
    · rw [if_neg (fun z => c2 ((iI_lt (by omega)).mp z))]
      by_cases c3 : A < -B
      · rw [if_pos ((iI_lt (by omega)).mpr c3), decide_eq_false (fun z => by
          obtain ⟨z1, z2, z3⟩ := z
          split at z2 <;> omega)]
        rfl
      · rw [if_neg (fun z => c3 ((iI_lt (by omega)).mp z))]
        by_cases c4 : S < D
        · rw [if_pos c4, decide_eq_false (fun z => by
            obtain ⟨z1, z2, z3⟩ := z
            omega)]
          rfl
        · rw [if_neg c4, decide_eq_true ⟨by omega, by split <;> omega, by omega⟩]
          rfl
theorem dist_b (hok : QOk sd ws ns rs bs) {b n : Nat} (hb : b < bs.length) (hn : n < ns.length) : (-300 ≤ tQ sd ws ns rs bs (81 + 18 * n + 6) - tQ sd ws ns rs bs (285 + 22 * b + 6) ∧ tQ sd ws ns rs bs (81 + 18 * n + 6) - tQ sd ws ns rs bs (285 + 22 * b + 6) ≤ 300) ∧ (-300 ≤ tQ sd ws ns rs bs (81 + 18 * n + 7) - tQ sd ws ns rs bs (285 + 22 * b + 7) ∧ tQ sd ws ns rs bs (81 + 18 * n + 7) - tQ sd ws ns rs bs (285 + 22 * b + 7) ≤ 300) ∧ 0 ≤ dist (tQ sd ws ns rs bs) b n ∧ dist (tQ sd ws ns rs bs) b n ≤ 200000 := by
  obtain ⟨q1, q2, -⟩ := hok.2.2.2.2.2 _ (getD_mem (x := (0, 0, 0, [])) hb)
  obtain ⟨y1, y2, -⟩ := hok.2.2.1.2 _ (getD_mem (x := (0, 0, 0, none)) hn)
  have t1 := T_n hok hn
  have t2 := T_b hok hb
  unfold dist
  rw [t1.1, t1.2.1, t2.1, t2.2.1]
  generalize (ns.getD n (0, 0, 0, none)).1 = a at y1 ⊢
  generalize (ns.getD n (0, 0, 0, none)).2.1 = c at y2 ⊢
  generalize (bs.getD b (0, 0, 0, [])).1 = d at q1 ⊢
  generalize (bs.getD b (0, 0, 0, [])).2.1 = f at q2 ⊢
  have sqb : ∀ z : Int, -299 ≤ z → z ≤ 299 → 0 ≤ z * z ∧ z * z ≤ 89401 := by
    intro z h1 h2
    have e : (z.natAbs : Int) * (z.natAbs : Int) = z * z := Int.natAbs_mul_self
    have h3 : z.natAbs * z.natAbs ≤ 299 * 299 := Nat.mul_le_mul (by omega) (by omega)
    have h4 : ((z.natAbs * z.natAbs : Nat) : Int) = z * z := e
    omega
  have s1 := sqb ((a : Int) - d) (by omega) (by omega)
  have s2 := sqb ((c : Int) - f) (by omega) (by omega)
  omega
set_option maxHeartbeats 800000 in
/-- isDusty -/
theorem w_dusty (hRD : RDq R) (hQ : Qc σ sd ws ns rs bs) (hok : QOk sd ws ns rs bs) {b n h : Nat} (hb : b < bs.length) (hn : n < ns.length) (hh : h < 24) : f_X12_isDusty N R σ 178 (nI b) (nI n) (nI h) = some (bI (isD (tQ sd ws ns rs bs) b h n), σ) := by
  obtain ⟨g1, g2, g3, g4, g5⟩ := hQ.2.2.2.2 b hb
  obtain ⟨k1, k2, k3, k4, k5⟩ := hQ.2.2.1 n hn
  have hw := hQ.2.1 h hh
  have hb3 := hok.2.2.2.2.1.2
  have hn2 := hok.2.2.1.1
  have hF := w_far (N := N) hRD hQ hok hb hn
  obtain ⟨b1, b2, b3⟩ := dist_b hok hb hn
  have r9 : R 178 9 = 179 := rd_21 hRD 0 (by decide)
  have r10 : R 178 10 = 180 := rd_21 hRD 1 (by decide)
  have r18 : R 178 18 = 188 := rd_21 hRD 9 (by decide)
  have r19 : R 178 19 = 189 := rd_21 hRD 10 (by decide)
  have r22 : R 178 22 = 192 := rd_21 hRD 13 (by decide)
  have r23 : R 178 23 = 193 := rd_21 hRD 14 (by decide)
  have ckh : ∀ {α : Type} (x : Option α), ck (nI h) 24 x = x := fun x => ck_nI hh (by decide)
  have ckn : ∀ {α : Type} (x : Option α), ck (nI n) 2 x = x := fun x => ck_nI (by omega) (by decide)
  have ckb : ∀ {α : Type} (x : Option α), ck (nI b) 3 x = x := fun x => ck_nI (by omega) (by decide)
  have e0 := tQ_w (sd := sd) (ws := ws) (ns := ns) (rs := rs) (bs := bs) h 0 hh (by decide)
  rw [Nat.add_zero] at e0
  have e1 := tQ_w (sd := sd) (ws := ws) (ns := ns) (rs := rs) (bs := bs) h 1 hh (by decide)
  have e2 := tQ_w (sd := sd) (ws := ws) (ns := ns) (rs := rs) (bs := bs) h 2 hh (by decide)
  have dX : σ 179 n - σ 188 b = iI (tQ sd ws ns rs bs (81 + 18 * n + 6) - tQ sd ws ns rs bs (285 + 22 * b + 6)) := by
    rw [k1, g1, iI_nat, iI_nat, iI_sub, (T_n hok hn).1, (T_b hok hb).1]
  have dY : σ 180 n - σ 189 b = iI (tQ sd ws ns rs bs (81 + 18 * n + 7) - tQ sd ws ns rs bs (285 + 22 * b + 7)) := by
    rw [k2, g2, iI_nat, iI_nat, iI_sub, (T_n hok hn).2.1, (T_b hok hb).2.1]
  have hcn : (nI n).toNatClampNeg = n := nI_clamp (by omega)
  have hcb : (nI b).toNatClampNeg = b := nI_clamp (by omega)
  have hch : (nI h).toNatClampNeg = h := nI_clamp (by omega)
  cases hwl : wl ws none h with
  | none =>
    rw [hwl] at hw e0
    unfold f_X12_isDusty isD
    rw [ckh, r22, hch, hw.1, if_neg (by decide), e0]
    rfl
  | some p =>
    rw [hwl] at hw e0 e1 e2
    obtain ⟨p1, p2⟩ := wl_ok ws none h hok.2.1.2 (fun p hp => by cases hp) p hwl
    have hv : σ 193 h = nI p.2 := hw.2
    have hd : σ 192 h = nI p.1 := hw.1
    have z1 : tQ sd ws ns rs bs (9 + 3 * h + 1) = (p.1 : Int) := e1
    have z2 : tQ sd ws ns rs bs (9 + 3 * h + 2) = (p.2 : Int) := e2
    have z0 : tQ sd ws ns rs bs (9 + 3 * h) = 1 := e0
    have hT := fun (u v : Int) hu hv' => dT_eq (σ := σ) (p := u) (q := v) (s := p.2) (h := h) b1 b2 hu hv' b3 p2 hF hv hh
    unfold isD
    rw [z0, z1, z2]
    unfold f_X12_isDusty f_X12_isDusty_84
    simp only [ckh, ckn, ckb, r9, r10, r18, r19, r22, r23, hcn, hcb, hch, hd, dX, dY]
    simp only [hch, ckh] at hT
    generalize p.1 = d at p1 ⊢
    have i0 : iI 0 = (0 : Int32) := by decide
    have i1 : iI 1 = (1 : Int32) := by decide
    have im : iI (-1) = (-1 : Int32) := by decide
    have fin : ∀ (P : Prop) [Decidable P], (some (bI (decide P), σ) : Option (Int32 × SI)) = some (bI (decide ((1 : Int) ≠ 0 ∧ P)), σ) := fun P _ => by
      have e : decide P = decide ((1 : Int) ≠ 0 ∧ P) := decide_eq_decide.mpr ⟨fun h => ⟨by decide, h⟩, fun h => h.2⟩
      rw [e]
    match d, p1 with
    | 0, _ =>
      have h9 := hT 0 (-1) (by decide) (by decide)
      rw [show wX ((0 : Nat) : Int) = 0 from by decide, show wY ((0 : Nat) : Int) = (-1) from by decide]
      rw [if_pos (by decide)]
      rw [if_pos (by decide)]
      rw [if_neg (by decide)]
      rw [if_pos (by decide)]
      rw [i0, im] at h9
      exact h9.trans (fin _)
    | 1, _ =>
      have h9 := hT 1 (-1) (by decide) (by decide)
      rw [show wX ((1 : Nat) : Int) = 1 from by decide, show wY ((1 : Nat) : Int) = (-1) from by decide]
      rw [if_pos (by decide)]
      rw [if_neg (by decide)]
      rw [if_neg (by decide)]
      rw [if_neg (by decide)]
      rw [if_pos (by decide)]
      rw [i1, im] at h9
      exact h9.trans (fin _)
    | 2, _ =>
      have h9 := hT 1 0 (by decide) (by decide)
      rw [show wX ((2 : Nat) : Int) = 1 from by decide, show wY ((2 : Nat) : Int) = 0 from by decide]
      rw [if_pos (by decide)]
      rw [if_neg (by decide)]
      rw [if_neg (by decide)]
      rw [if_pos (by decide)]
      rw [i1, i0] at h9
      exact h9.trans (fin _)
    | 3, _ =>
      have h9 := hT 1 1 (by decide) (by decide)
      rw [show wX ((3 : Nat) : Int) = 1 from by decide, show wY ((3 : Nat) : Int) = 1 from by decide]
      rw [if_pos (by decide)]
      rw [if_neg (by decide)]
      rw [if_neg (by decide)]
      rw [if_neg (by decide)]
      rw [if_neg (by decide)]
      rw [if_neg (by decide)]
      rw [i1] at h9
      exact h9.trans (fin _)
    | 4, _ =>
      have h9 := hT 0 1 (by decide) (by decide)
      rw [show wX ((4 : Nat) : Int) = 0 from by decide, show wY ((4 : Nat) : Int) = 1 from by decide]
      rw [if_pos (by decide)]
      rw [if_pos (by decide)]
      rw [if_neg (by decide)]
      rw [if_neg (by decide)]
      rw [if_neg (by decide)]
      rw [i0, i1] at h9
      exact h9.trans (fin _)
    | 5, _ =>
      have h9 := hT (-1) 1 (by decide) (by decide)
      rw [show wX ((5 : Nat) : Int) = (-1) from by decide, show wY ((5 : Nat) : Int) = 1 from by decide]
      rw [if_pos (by decide)]
      rw [if_neg (by decide)]
      rw [if_pos (by decide)]
      rw [if_neg (by decide)]
      rw [if_neg (by decide)]
      rw [if_neg (by decide)]
      rw [im, i1] at h9
      exact h9.trans (fin _)
    | 6, _ =>
      have h9 := hT (-1) 0 (by decide) (by decide)
      rw [show wX ((6 : Nat) : Int) = (-1) from by decide, show wY ((6 : Nat) : Int) = 0 from by decide]
      rw [if_pos (by decide)]
      rw [if_neg (by decide)]
      rw [if_pos (by decide)]
      rw [if_pos (by decide)]
      rw [im, i0] at h9
      exact h9.trans (fin _)
    | 7, _ =>
      have h9 := hT (-1) (-1) (by decide) (by decide)
      rw [show wX ((7 : Nat) : Int) = (-1) from by decide, show wY ((7 : Nat) : Int) = (-1) from by decide]
      rw [if_pos (by decide)]
      rw [if_neg (by decide)]
      rw [if_pos (by decide)]
      rw [if_neg (by decide)]
      rw [if_neg (by decide)]
      rw [if_pos (by decide)]
      rw [im] at h9
      exact h9.trans (fin _)
end VL2
