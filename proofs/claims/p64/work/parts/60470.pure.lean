/-! ===== the survey of a fresh site ===== -/
section SURVEY
variable {N : Nat} {R : Nat → Nat → Nat} {s : Nat} {t w : Nat → Int} {σ σ' : SI} {b : Nat}
def FS (s : Nat) (σ σ' : SI) : Prop := ∀ o k, (o < s + 40 ∨ s + 70 ≤ o ∨ ((o - s - 40) % 5 = 0 ∧ (k < 8 ∨ 12 < k)) ∨ (o - s - 40) % 5 = 1 ∨ (o - s - 40) % 5 = 2) → σ' o k = σ o k
theorem FS.rf (s : Nat) (σ : SI) : FS s σ σ := fun _ _ _ => rfl
theorem FS.tr {a c d : SI} (h : FS s a c) (g : FS s c d) : FS s a d := fun o k q => (g o k q).trans (h o k q)
theorem Cq.fs (hO : TOk t) (h : Cq σ s t) (f : FS s σ σ') : Cq σ' s t := by
  obtain ⟨c1, c2, c3, c4, c5⟩ := h
  have e0 : ∀ j, σ' s j = σ s j := fun j => f s j (by omega)
  have eT := hO.1
  have eR := hO.2.1
  have eB := hO.2.2.1
  refine ⟨?_, fun h hh => ?_, fun n hn => ?_, fun r hr j hj => ?_, fun b hb => ?_⟩
  · simp only [e0]
    exact c1
  · rw [f (s + 8) h (by omega), f (s + 9) h (by omega)]
    exact c2 h hh
  · obtain ⟨n1, n2, n3, n4, n5⟩ := c3 n hn
    exact ⟨(f _ _ (by omega)).trans n1, (f _ _ (by omega)).trans n2, (f _ _ (by omega)).trans n3, (f _ _ (by omega)).trans n4, fun k hk => ⟨(f _ _ (by omega)).trans (n5 k hk).1, (f _ _ (by omega)).trans (n5 k hk).2⟩⟩
  · rw [f (s + 34 + r) j (by omega)]
    exact c4 r hr j hj
  · obtain ⟨n1, n2, n3, n4, n5, n6⟩ := c5 b hb
    exact ⟨(f _ _ (by omega)).trans n1, (f _ _ (by omega)).trans n2, (f _ _ (by omega)).trans n3, (f _ _ (by omega)).trans n4, fun k hk => (f _ _ (by omega)).trans (n5 k hk), (f _ _ (by omega)).trans n6⟩
theorem Cs.fs (hO : TOk t) (h : Cs σ s t w) (f : FS s σ σ') : Cs σ' s t w := fun b hb => by
  have eB := hO.2.2.1
  obtain ⟨n1, n2, n3⟩ := h b hb
  exact ⟨(f _ _ (by omega)).trans n1, (f _ _ (by omega)).trans n2, fun k hk => (f _ _ (by omega)).trans (n3 k hk)⟩
theorem c_mn (hR : RO R s) (hO : TOk t) (hb : (b : Int) < t 2) : ∀ (m k fuel : Nat) (acc : Int32) (σ : SI), k + m = nN t → m < fuel → Cq σ s t → σ (s + 40 + 5 * b) 12 = acc → ∃ σ', f_X9_measureNeighbours_14 N R fuel σ s (s + 40 + 5 * b) (iI (3 * t (285 + 22 * b + 8))) (nI k) = some ((), σ') ∧ σ' (s + 40 + 5 * b) 12 = bts (heard t b) k m acc ∧ (∀ n, k ≤ n → n < nN t → σ' (s + 43 + 5 * b) n = iI (dist t b n)) ∧ ∀ o j, (o ≠ s + 40 + 5 * b ∨ j ≠ 12) → (o ≠ s + 43 + 5 * b ∨ j < k) → σ' o j = σ o j := by
  have hn := nN_c hO
  have eB := hO.2.2.1
  have b1 := hO.b hb
  intro m
  induction m with
  | zero =>
    intro k fuel acc σ hk hfu hq h12
    obtain ⟨fuel, rfl⟩ : ∃ q, fuel = q + 1 := ⟨fuel - 1, by omega⟩
    refine ⟨σ, ?_, h12, fun n h1 h2 => absurd h2 (by omega), fun _ _ _ _ => rfl⟩
    rw [f_X9_measureNeighbours_14, hq.1.1, hn.1, ← iI_nat, if_pos (by rw [nI_leI (by omega) (by omega)]; omega)]
  | succ m ih =>
    intro k fuel acc σ hk hfu hq h12
    obtain ⟨fuel, rfl⟩ : ∃ q, fuel = q + 1 := ⟨fuel - 1, by omega⟩
    have hk0 : (k : Int) < t 0 := by omega
    obtain ⟨c2, c3, -⟩ := hq.2.2.1 k hk0
    obtain ⟨c4, c5, -⟩ := hq.2.2.2.2 b hb
    have n1 := hO.n hk0
    have a1 := mul_c (a := t (81 + 18 * k + 6) - t (285 + 22 * b + 6)) (b := t (81 + 18 * k + 6) - t (285 + 22 * b + 6)) (A := 999) (B := 999) (C := 998001) (by omega) (by omega) rfl
    have a2 := mul_c (a := t (81 + 18 * k + 7) - t (285 + 22 * b + 7)) (b := t (81 + 18 * k + 7) - t (285 + 22 * b + 7)) (A := 999) (B := 999) (C := 998001) (by omega) (by omega) rfl
    have a3 := mul_c (a := 3 * t (285 + 22 * b + 8)) (b := 3 * t (285 + 22 * b + 8)) (A := 1500) (B := 1500) (C := 2250000) (by omega) (by omega) rfl
    have ed : ((iI (t (81 + 18 * k + 6)) - iI (t (285 + 22 * b + 6))) * (iI (t (81 + 18 * k + 6)) - iI (t (285 + 22 * b + 6)))) + ((iI (t (81 + 18 * k + 7)) - iI (t (285 + 22 * b + 7))) * (iI (t (81 + 18 * k + 7)) - iI (t (285 + 22 * b + 7)))) = iI (dist t b k) := by
      rw [iI_sub, iI_sub, iI_mul, iI_mul, iI_add]
      rfl
    rw [f_X9_measureNeighbours_14, hq.1.1, hn.1, ← iI_nat, if_neg (by rw [nI_leI (by omega) (by omega)]; omega), ck_nI (by omega) (by decide), ck_nI (by omega) (by decide)]
    unfold f_X11_squareSum
    dsimp only [f_X9_measureNeighbours_83]
    rw [bd_some, ck_nI (by omega) (by decide), sq_eq, nI_clamp (by omega), hR.si 0 (by omega), show s + 1 + 0 = s + 1 from rfl, hR.nb k (by omega), hR.blA b (by omega) 2 (by omega), c2, c3, c4, c5, ed, iI_mul, nI_1, show s + 41 + 5 * b + 2 = s + 43 + 5 * b by omega]
    have F : FS s σ (up σ (s + 43 + 5 * b) k (iI (dist t b k))) := fun o j q => if_neg (by omega)
    have e12 : up σ (s + 43 + 5 * b) k (iI (dist t b k)) (s + 40 + 5 * b) 12 = acc := (if_neg (by omega)).trans h12
    have hs : bts (heard t b) k (m + 1) acc = bts (heard t b) (k + 1) m (if heard t b k then acc ||| ((1 : Int32) <<< (nI k &&& 31)) else acc) := rfl
    rw [hs]
    have hdist : dist t b k = (t (81 + 18 * k + 6) - t (285 + 22 * b + 6)) * (t (81 + 18 * k + 6) - t (285 + 22 * b + 6)) + (t (81 + 18 * k + 7) - t (285 + 22 * b + 7)) * (t (81 + 18 * k + 7) - t (285 + 22 * b + 7)) := rfl
    have g := iI_lt (a := 3 * t (285 + 22 * b + 8) * (3 * t (285 + 22 * b + 8))) (b := dist t b k) (by omega)
    by_cases c : 3 * t (285 + 22 * b + 8) * (3 * t (285 + 22 * b + 8)) < dist t b k
    · have hh : heard t b k = false := decide_eq_false (by omega)
      rw [if_pos (g.mpr c), hh, if_neg (by decide)]
      obtain ⟨σ', i1, i2, i3, i4⟩ := ih (k + 1) fuel acc _ (by omega) (by omega) (hq.fs hO F) e12
      refine ⟨σ', i1, i2, fun n h1 h2 => ?_, fun o j q q' => (i4 o j q (by omega)).trans (if_neg (by omega))⟩
      by_cases e : n = k
      · rw [e, i4 _ _ (by omega) (by omega), up_th]
      · exact i3 n (by omega) h2
    · have hh : heard t b k = true := decide_eq_true (by omega)
      rw [if_neg (fun q => c (g.mp q)), hh, if_pos rfl, e12, sq_eq]
      obtain ⟨σ', i1, i2, i3, i4⟩ := ih (k + 1) fuel (acc ||| ((1 : Int32) <<< (nI k &&& 31))) (up (up σ (s + 43 + 5 * b) k (iI (dist t b k))) (s + 40 + 5 * b) 12 (acc ||| ((1 : Int32) <<< (nI k &&& 31)))) (by omega) (by omega) (hq.fs hO (F.tr (fun o j q => if_neg (by omega)))) up_th
      refine ⟨σ', i1, i2, fun n h1 h2 => ?_, fun o j q q' => (i4 o j q (by omega)).trans ((if_neg (by omega)).trans (if_neg (by omega)))⟩
      by_cases e : n = k
      · rw [e, i4 _ _ (by omega) (by omega)]
        exact (if_neg (by omega)).trans up_th
      · exact i3 n (by omega) h2
theorem c_mr (hR : RO R s) (hO : TOk t) (hb : (b : Int) < t 2) : ∀ (m k fuel : Nat) (acc : Int32) (σ : SI), k + m = nR t → m < fuel → Cq σ s t → σ (s + 40 + 5 * b) 11 = acc → ∃ σ', f_X9_measureRoads_7 N R fuel σ s (s + 40 + 5 * b) (nI k) = some ((), σ') ∧ σ' (s + 40 + 5 * b) 11 = bts (shut t b) k m acc ∧ ∀ o j, (o ≠ s + 40 + 5 * b ∨ j ≠ 11) → σ' o j = σ o j := by
  have hn := nR_c hO
  have eB := hO.2.2.1
  have b1 := hO.b hb
  intro m
  induction m with
  | zero =>
    intro k fuel acc σ hk hfu hq h12
    obtain ⟨fuel, rfl⟩ : ∃ q, fuel = q + 1 := ⟨fuel - 1, by omega⟩
    refine ⟨σ, ?_, h12, fun _ _ _ => rfl⟩
    rw [f_X9_measureRoads_7, hq.1.2.1, hn.1, ← iI_nat, if_pos (by rw [nI_leI (by omega) (by omega)]; omega)]
  | succ m ih =>
    intro k fuel acc σ hk hfu hq h12
    obtain ⟨fuel, rfl⟩ : ∃ q, fuel = q + 1 := ⟨fuel - 1, by omega⟩
    have hk0 : (k : Int) < t 1 := by omega
    obtain ⟨c4, c5, c6, -⟩ := hq.2.2.2.2 b hb
    rw [f_X9_measureRoads_7, hq.1.2.1, hn.1, ← iI_nat, if_neg (by rw [nI_leI (by omega) (by omega)]; omega), ck_nI (by omega) (by decide), nI_clamp (by omega), hR.si 1 (by omega), show s + 1 + 1 = s + 2 from rfl, hR.rd k (by omega), c4, c5, c6, c_comesWithin hO hb hk0 (hq.2.2.2.1 k hk0) (by omega), bd_some, h12]
    dsimp only [f_X9_measureRoads_51]
    rw [nI_1, sq_eq]
    have hs : bts (shut t b) k (m + 1) acc = bts (shut t b) (k + 1) m (if shut t b k then acc ||| ((1 : Int32) <<< (nI k &&& 31)) else acc) := rfl
    rw [hs, show near t b k (t (285 + 22 * b + 8)) = shut t b k from rfl]
    cases shut t b k
    · rw [bI_f, if_pos rfl, if_neg (by decide)]
      obtain ⟨σ', i1, i2, i4⟩ := ih (k + 1) fuel acc σ (by omega) (by omega) hq h12
      exact ⟨σ', i1, i2, i4⟩
    · rw [bI_t, if_neg (by decide), if_pos rfl]
      obtain ⟨σ', i1, i2, i4⟩ := ih (k + 1) fuel (acc ||| ((1 : Int32) <<< (nI k &&& 31))) (up σ (s + 40 + 5 * b) 11 (acc ||| ((1 : Int32) <<< (nI k &&& 31)))) (by omega) (by omega) (hq.fs hO (fun o j q => if_neg (by omega))) up_th
      exact ⟨σ', i1, i2, fun o j q => (i4 o j q).trans (if_neg (by omega))⟩
theorem wL_x {d : Int} (h : 0 ≤ d ∧ d ≤ 7) : wxL.getD d.toNat 0 = iI (wX d) ∧ wyL.getD d.toNat 0 = iI (wY d) := by
  rcases (show d = 0 ∨ d = 1 ∨ d = 2 ∨ d = 3 ∨ d = 4 ∨ d = 5 ∨ d = 6 ∨ d = 7 by omega) with rfl | rfl | rfl | rfl | rfl | rfl | rfl | rfl <;> exact ⟨rfl, rfl⟩
theorem dec3 {α : Type} {C1 C2 C3 : Prop} {_ : Decidable C1} {_ : Decidable C2} {_ : Decidable C3} {d : Bool} {x y : α} (g : (if C1 then some ((0 : Int32), σ) else if C2 then some ((0 : Int32), σ) else if C3 then some ((0 : Int32), σ) else some ((1 : Int32), σ)) = some (bI d, σ)) : (if C1 then x else if C2 then x else if C3 then x else y) = if d then y else x := by
  have z : ∀ {v : Int32}, some (v, σ) = some (bI d, σ) → v = bI d := fun q => by injection q with q; injection q
  by_cases c1 : C1
  · rw [if_pos c1] at g ⊢
    have := bI_0.mp (z g).symm
    rw [this, if_neg (by decide)]
  · rw [if_neg c1] at g ⊢
    by_cases c2 : C2
    · rw [if_pos c2] at g ⊢
      have := bI_0.mp (z g).symm
      rw [this, if_neg (by decide)]
    · rw [if_neg c2] at g ⊢
      by_cases c3 : C3
      · rw [if_pos c3] at g ⊢
        have := bI_0.mp (z g).symm
        rw [this, if_neg (by decide)]
      · rw [if_neg c3] at g ⊢
        have := z g
        cases d
        · cases this
        · rfl
theorem c_nd (hR : RO R s) (hO : TOk t) (hb : (b : Int) < t 2) {h : Nat} (hh : h < 24) (hq : Cq σ s t) (hf : t (9 + 3 * h) = 1) : ∀ (m k fuel : Nat) (acc : Int32), k + m = nN t → m < fuel → f_X9_neighboursInDust_38 N R fuel σ s (s + 40 + 5 * b) (iI (t (9 + 3 * h + 1))) ((50 : Int32) * iI (t (9 + 3 * h + 2))) acc (nI k) = some (bts (isD t b h) k m acc, σ) := by
  have hn := nN_c hO
  have eB := hO.2.2.1
  have b1 := hO.b hb
  have e3 := hO.h hh
  have hx := wXY_r (t (9 + 3 * h + 1))
  have hL := wL_x e3.2.1
  intro m
  induction m with
  | zero =>
    intro k fuel acc hk hfu
    obtain ⟨fuel, rfl⟩ : ∃ q, fuel = q + 1 := ⟨fuel - 1, by omega⟩
    rw [f_X9_neighboursInDust_38, hq.1.1, hn.1, ← iI_nat, if_pos (by rw [nI_leI (by omega) (by omega)]; omega)]
    rfl
  | succ m ih =>
    intro k fuel acc hk hfu
    obtain ⟨fuel, rfl⟩ : ∃ q, fuel = q + 1 := ⟨fuel - 1, by omega⟩
    have hk0 : (k : Int) < t 0 := by omega
    obtain ⟨c2, c3, -⟩ := hq.2.2.1 k hk0
    obtain ⟨c4, c5, -⟩ := hq.2.2.2.2 b hb
    have n1 := hO.n hk0
    have cki : ∀ {α : Type} (x : Option α), ck (iI (t (9 + 3 * h + 1))) 8 x = x := fun x => ck_iI (by omega) (by decide)
    have g := dustX (σ := σ) (dx := t (81 + 18 * k + 6) - t (285 + 22 * b + 6)) (dy := t (81 + 18 * k + 7) - t (285 + 22 * b + 7)) (x := wX (t (9 + 3 * h + 1))) (y := wY (t (9 + 3 * h + 1))) (sp := t (9 + 3 * h + 2)) (by omega)
    have hd : isD t b h k = decide (0 < (t (81 + 18 * k + 6) - t (285 + 22 * b + 6)) * wX (t (9 + 3 * h + 1)) + (t (81 + 18 * k + 7) - t (285 + 22 * b + 7)) * wY (t (9 + 3 * h + 1)) ∧ (if (t (81 + 18 * k + 6) - t (285 + 22 * b + 6)) * wY (t (9 + 3 * h + 1)) - (t (81 + 18 * k + 7) - t (285 + 22 * b + 7)) * wX (t (9 + 3 * h + 1)) < 0 then -((t (81 + 18 * k + 6) - t (285 + 22 * b + 6)) * wY (t (9 + 3 * h + 1)) - (t (81 + 18 * k + 7) - t (285 + 22 * b + 7)) * wX (t (9 + 3 * h + 1))) else (t (81 + 18 * k + 6) - t (285 + 22 * b + 6)) * wY (t (9 + 3 * h + 1)) - (t (81 + 18 * k + 7) - t (285 + 22 * b + 7)) * wX (t (9 + 3 * h + 1))) ≤ (t (81 + 18 * k + 6) - t (285 + 22 * b + 6)) * wX (t (9 + 3 * h + 1)) + (t (81 + 18 * k + 7) - t (285 + 22 * b + 7)) * wY (t (9 + 3 * h + 1)) ∧ (t (81 + 18 * k + 6) - t (285 + 22 * b + 6)) * (t (81 + 18 * k + 6) - t (285 + 22 * b + 6)) + (t (81 + 18 * k + 7) - t (285 + 22 * b + 7)) * (t (81 + 18 * k + 7) - t (285 + 22 * b + 7)) ≤ (50 * t (9 + 3 * h + 2)) * (50 * t (9 + 3 * h + 2))) := by
      unfold isD dist
      dsimp only
      rw [hf]
      exact decide_eq_decide.mpr ⟨fun q => q.2, fun q => ⟨by decide, q⟩⟩
    rw [← hd] at g
    have i0 := ih (k + 1) fuel acc (by omega) (by omega)
    have i1 := ih (k + 1) fuel (acc ||| ((1 : Int32) <<< (nI k &&& 31))) (by omega) (by omega)
    rw [f_X9_neighboursInDust_38, hq.1.1, hn.1, ← iI_nat, if_neg (by rw [nI_leI (by omega) (by omega)]; omega), ck_nI (by omega) (by decide), ck_nI (by omega) (by decide), cki, cki, cki, cki]
    unfold f_X11_squareSum
    dsimp only [f_X9_neighboursInDust_158]
    rw [bd_some, nI_clamp (by omega), iI_clamp (by omega), hL.1, hL.2, hR.si 0 (by omega), show s + 1 + 0 = s + 1 from rfl, hR.nb k (by omega), c2, c3, c4, c5, iI_sub, iI_sub, nI_1, i0, i1, show bts (isD t b h) k (m + 1) acc = bts (isD t b h) (k + 1) m (if isD t b h k then acc ||| ((1 : Int32) <<< (nI k &&& 31)) else acc) from rfl]
    refine (dec3 g).trans ?_
    cases isD t b h k <;> rfl
theorem bts_f {p : Nat → Bool} : ∀ (m k : Nat) (a : Int32), (∀ j, p j = false) → bts p k m a = a := by
  intro m
  induction m with
  | zero => intro k a _; rfl
  | succ m ih =>
    intro k a h
    show bts p (k + 1) m (if p k then _ else a) = a
    rw [h k, if_neg (by decide)]
    exact ih (k + 1) a h
theorem c_nid (hN : 2000 ≤ N) (hR : RO R s) (hO : TOk t) (hb : (b : Int) < t 2) {h : Nat} (hh : h < 24) (hq : Cq σ s t) : f_X9_neighboursInDust N R σ s (s + 40 + 5 * b) (nI h) = some (bts (isD t b h) 0 (nN t) 0, σ) := by
  have hn := nN_c hO
  have e3 := hO.h hh
  obtain ⟨c1, c2⟩ := hq.2.1 h hh
  unfold f_X9_neighboursInDust
  rw [ck_nI hh (by decide), ck_nI hh (by decide), nI_clamp (by omega), hR.si 7 (by omega), hR.si 8 (by omega), show s + 1 + 7 = s + 8 from rfl, show s + 1 + 8 = s + 9 from rfl, c1]
  rcases e3.1 with e | e
  · rw [if_pos e, if_pos (by decide), bts_f _ _ _ (fun j => ?_)]
    unfold isD
    dsimp only
    exact decide_eq_false (by omega)
  · rw [if_neg (show ¬ t (9 + 3 * h) = 0 by omega), c2 (by omega), if_neg (show ¬ iI (t (9 + 3 * h + 1)) < 0 by rw [show (0 : Int32) = iI 0 from rfl, iI_lt (by omega)]; omega), if_pos (show iI (t (9 + 3 * h + 1)) < Int32.ofNat 8 by rw [show Int32.ofNat 8 = iI 8 from rfl, iI_lt (by omega)]; omega)]
    exact c_nd hR hO hb hh hq e (nN t) 0 N 0 (by omega) (by omega)
theorem c_sv29 (hN : 2000 ≤ N) (hR : RO R s) (hO : TOk t) (hW : WOk t w) (hb : (b : Int) < t 2) {k2 : SI → Nat → Int32 → Option (Unit × SI)} : ∀ (m h fuel : Nat) (σ : SI), h + m = 24 → m < fuel → Cq σ s t → Cs σ s t w → (∀ n : Nat, (n : Int) < t 0 → σ (s + 43 + 5 * b) n = iI (dist t b n)) → ∃ σ', f_X9_survey_29 N R k2 fuel σ s (nI b) (s + 40 + 5 * b) (nI h) = k2 σ' s (nI (b + 1)) ∧ (∀ j, h ≤ j → j < 24 → σ' (s + 44 + 5 * b) j = bts (isD t b j) 0 (nN t) 0) ∧ (σ' (s + 40 + 5 * b) 8 = iI (win t w b) ∧ σ' (s + 40 + 5 * b) 9 = iI (wst t w b) ∧ σ' (s + 40 + 5 * b) 10 = bts (tst t w b) 0 (nN t) 0) ∧ ∀ o k, (o ≠ s + 40 + 5 * b ∨ (k < 8 ∨ 10 < k)) → (o ≠ s + 44 + 5 * b ∨ k < h) → σ' o k = σ o k := by
  have hn := nN_c hO
  have eB := hO.2.2.1
  have hc := nC_c hO hb
  intro m
  induction m with
  | zero =>
    intro h fuel σ hh hfu hq hs hd
    obtain ⟨fuel, rfl⟩ : ∃ q, fuel = q + 1 := ⟨fuel - 1, by omega⟩
    have W : Wc σ s t w b := ⟨hq.1.1, fun n hn => (hq.2.2.1 n hn).2.2.1, (hq.2.2.2.2 b hb).2.2.2.1, fun c hc => (hq.2.2.2.2 b hb).2.2.2.2.1 c (by omega), fun c hc => (hs b hb).2.2 c (by omega), hd, fun c hc => (hW b hb).2.2 c (by omega)⟩
    obtain ⟨σ', g1, g2, g3, g4, g5⟩ := c_weigh hN hR hO hb W
    refine ⟨σ', ?_, fun j a c => absurd c (by omega), ⟨g2, g3, g4⟩, fun o k q _ => g5 o k q⟩
    rw [f_X9_survey_29, if_pos (by rw [show (24 : Int32) = nI 24 from rfl, nI_leI (by omega) (by omega)]; omega), g1, bd_some, nI_1]
  | succ m ih =>
    intro h fuel σ hh hfu hq hs hd
    obtain ⟨fuel, rfl⟩ : ∃ q, fuel = q + 1 := ⟨fuel - 1, by omega⟩
    have F : FS s σ (up σ (s + 44 + 5 * b) h (bts (isD t b h) 0 (nN t) 0)) := fun o j q => if_neg (by omega)
    obtain ⟨σ', i1, i2, i3, i4⟩ := ih (h + 1) fuel (up σ (s + 44 + 5 * b) h (bts (isD t b h) 0 (nN t) 0)) (by omega) (by omega) (hq.fs hO F) (hs.fs hO F) (fun n hn => (if_neg (by omega)).trans (hd n hn))
    refine ⟨σ', ?_, fun j a c => ?_, i3, fun o k q q' => (i4 o k q (by omega)).trans (if_neg (by omega))⟩
    · rw [f_X9_survey_29, if_neg (by rw [show (24 : Int32) = nI 24 from rfl, nI_leI (by omega) (by omega)]; omega), c_nid hN hR hO hb (by omega) hq, bd_some, ck_nI (by omega) (by decide), nI_clamp (by omega), hR.blA b (by omega) 3 (by omega), show s + 41 + 5 * b + 3 = s + 44 + 5 * b by omega, sq_eq, nI_1]
      exact i1
    · by_cases e : j = h
      · rw [e, i4 _ _ (by omega) (by omega), up_th]
      · exact i2 j (by omega) c
theorem c_sv2 (hN : 2000 ≤ N) (hR : RO R s) (hO : TOk t) (hW : WOk t w) : ∀ (m b fuel : Nat) (σ : SI), b + m = nB t → m < fuel → Cq σ s t → Cs σ s t w → ∃ σ', f_X9_survey_2 N R fuel σ s (nI b) = some ((), σ') ∧ (∀ j : Nat, b ≤ j → j < nB t → (σ' (s + 40 + 5 * j) 11 = bts (shut t j) 0 (nR t) 0 ∧ σ' (s + 40 + 5 * j) 12 = bts (heard t j) 0 (nN t) 0 ∧ (∀ n : Nat, (n : Int) < t 0 → σ' (s + 43 + 5 * j) n = iI (dist t j n)) ∧ ∀ h : Nat, h < 24 → σ' (s + 44 + 5 * j) h = bts (isD t j h) 0 (nN t) 0) ∧ σ' (s + 40 + 5 * j) 8 = iI (win t w j) ∧ σ' (s + 40 + 5 * j) 9 = iI (wst t w j) ∧ σ' (s + 40 + 5 * j) 10 = bts (tst t w j) 0 (nN t) 0) ∧ FS s σ σ' ∧ ∀ o k, o < s + 40 + 5 * b → σ' o k = σ o k := by
  have hn := nN_c hO
  have hnr := nR_c hO
  have eB := hO.2.2.1
  have hnb : t 2 = (nB t : Int) ∧ nB t ≤ 6 := by unfold nB; omega
  intro m
  induction m with
  | zero =>
    intro b fuel σ hb hfu hq hs
    obtain ⟨fuel, rfl⟩ : ∃ q, fuel = q + 1 := ⟨fuel - 1, by omega⟩
    refine ⟨σ, ?_, fun j a c => absurd c (by omega), FS.rf s σ, fun _ _ _ => rfl⟩
    rw [f_X9_survey_2, hq.1.2.2.1, hnb.1, ← iI_nat, if_pos (by rw [nI_leI (by omega) (by omega)]; omega)]
  | succ m ih =>
    intro b fuel σ hb hfu hq hs
    obtain ⟨fuel, rfl⟩ : ∃ q, fuel = q + 1 := ⟨fuel - 1, by omega⟩
    have hb0 : (b : Int) < t 2 := by omega
    have b1 := hO.b hb0
    have F1 : FS s σ (up σ (s + 40 + 5 * b) 12 0) := fun o j q => if_neg (by omega)
    obtain ⟨σ1, g1, g2, g3, g4⟩ := c_mn (N := N) hR hO hb0 (nN t) 0 N 0 (up σ (s + 40 + 5 * b) 12 0) (by omega) (by omega) (hq.fs hO F1) up_th
    have F2 : FS s σ σ1 := F1.tr (fun o j q => g4 o j (by omega) (by omega))
    have F3 : FS s σ (up σ1 (s + 40 + 5 * b) 11 0) := F2.tr (fun o j q => if_neg (by omega))
    obtain ⟨σ2, i1, i2, i4⟩ := c_mr (N := N) hR hO hb0 (nR t) 0 N 0 (up σ1 (s + 40 + 5 * b) 11 0) (by omega) (by omega) (hq.fs hO F3) up_th
    have F4 : FS s σ σ2 := F3.tr (fun o j q => i4 o j (by omega))
    have hd2 : ∀ n : Nat, (n : Int) < t 0 → σ2 (s + 43 + 5 * b) n = iI (dist t b n) := fun n hn' => (i4 _ _ (by omega)).trans ((if_neg (by omega)).trans (g3 n (by omega) (by omega)))
    obtain ⟨σ3, k1, k2, ⟨k3, k4, k5⟩, k6⟩ := c_sv29 (N := N) hN hR hO hW hb0 (k2 := fun σ x0 x1 => f_X9_survey_2 N R fuel σ x0 x1) 24 0 N σ2 (by omega) (by omega) (hq.fs hO F4) (hs.fs hO F4) hd2
    have F5 : FS s σ σ3 := F4.tr (fun o j q => k6 o j (by omega) (by omega))
    obtain ⟨σ4, l1, l2, l3, l4⟩ := ih (b + 1) fuel σ3 (by omega) (by omega) (hq.fs hO F5) (hs.fs hO F5)
    refine ⟨σ4, ?_, fun j a c => ?_, F5.tr l3, fun o k q => (l4 o k (by omega)).trans ((k6 o k (by omega) (by omega)).trans ((i4 o k (by omega)).trans ((if_neg (by omega)).trans ((g4 o k (by omega) (by omega)).trans (if_neg (by omega))))))⟩
    · unfold f_X9_survey_2 f_X9_measureNeighbours f_X9_measureRoads
      rw [hq.1.2.2.1, hnb.1, ← iI_nat, if_neg (by rw [nI_leI (by omega) (by omega)]; omega), ck_nI (by omega) (by decide), nI_clamp (by omega), hR.si 2 (by omega), show s + 1 + 2 = s + 3 from rfl, hR.bl b (by omega), sq_eq, show σ (s + 40 + 5 * b) 6 = iI (t (285 + 22 * b + 8)) from (hq.2.2.2.2 b hb0).2.2.1, show (3 : Int32) = iI 3 from rfl, iI_mul, show f_X9_measureNeighbours_14 N R N (up σ (s + 40 + 5 * b) 12 0) s (s + 40 + 5 * b) (iI (3 * t (285 + 22 * b + 8))) 0 = some ((), σ1) from g1, bd_some, sq_eq, show f_X9_measureRoads_7 N R N (up σ1 (s + 40 + 5 * b) 11 0) s (s + 40 + 5 * b) 0 = some ((), σ2) from i1, bd_some, show f_X9_survey_29 N R (fun σ x0 x1 => f_X9_survey_2 N R fuel σ x0 x1) N σ2 s (nI b) (s + 40 + 5 * b) 0 = _ from k1]
      exact l1
    · by_cases e : j = b
      · subst e
        refine ⟨⟨?_, ?_, fun n hn' => ?_, fun h hh => ?_⟩, ?_, ?_, ?_⟩
        · exact (l4 _ _ (by omega)).trans ((k6 _ _ (by omega) (by omega)).trans i2)
        · exact (l4 _ _ (by omega)).trans ((k6 _ _ (by omega) (by omega)).trans ((i4 _ _ (by omega)).trans ((if_neg (by omega)).trans g2)))
        · exact (l4 _ _ (by omega)).trans ((k6 _ _ (by omega) (by omega)).trans (hd2 n hn'))
        · exact (l4 _ _ (by omega)).trans (k2 h (by omega) hh)
        · exact (l4 _ _ (by omega)).trans k3
        · exact (l4 _ _ (by omega)).trans k4
        · exact (l4 _ _ (by omega)).trans k5
      · exact l2 j (by omega) c
theorem c_survey (hN : 2000 ≤ N) (hR : RO R s) (hO : TOk t) (hW : WOk t w) (hq : Cq σ s t) (hs : Cs σ s t w) : ∃ σ', f_X9_survey N R σ s = some ((), σ') ∧ Cq σ' s t ∧ Cs σ' s t w ∧ Cd σ' s t ∧ Cw σ' s t w ∧ FS s σ σ' := by
  have eB := hO.2.2.1
  have hnb : t 2 = (nB t : Int) ∧ nB t ≤ 6 := by unfold nB; omega
  obtain ⟨σ', i1, i2, i3, -⟩ := c_sv2 hN hR hO hW (nB t) 0 N σ (by omega) (by omega) hq hs
  exact ⟨σ', i1, hq.fs hO i3, hs.fs hO i3, fun b hb => (i2 b (by omega) (by omega)).1, fun b hb => (i2 b (by omega) (by omega)).2, i3⟩
end SURVEY

