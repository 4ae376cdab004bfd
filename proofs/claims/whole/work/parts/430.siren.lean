/-! ===== sirens: a sorted row of keys, and ranks ===== -/
def smin (t tm : Nat → Int) (i : Nat) : Int := tm (i / 3) + (if i % 3 = 0 then -10 else if i % 3 = 1 then -1 else t 7)
def kc (t tm : Nat → Int) (i : Nat) : Int := ((smin t tm i + 10) * 4 + ((i % 3 : Nat) : Int)) * 8 + ((i / 3 : Nat) : Int)
def km (t tm : Nat → Int) (i : Nat) : Int := 100 * (smin t tm i + 100) + 10 * ((i % 3 : Nat) : Int) + ((i / 3 : Nat) : Int)
def tmd (tm : Nat → Int) (i : Nat) : Bool := decide (tm (i / 3) ≠ -1)
theorem kc_inj {t tm : Nat → Int} {i j : Nat} (hi : i < 18) (hj : j < 18) (h : kc t tm i = kc t tm j) : i = j := by
  unfold kc at h
  generalize smin t tm i = a at h
  generalize smin t tm j = c at h
  have h1 : i / 3 = j / 3 := by omega
  have h2 : i % 3 = j % 3 := by omega
  omega
theorem kc_lt {t tm : Nat → Int} {i j : Nat} (hi : i < 18) (hj : j < 18) : kc t tm i < kc t tm j ↔ km t tm i < km t tm j := by
  unfold kc km
  generalize smin t tm i = a
  generalize smin t tm j = c
  have b1 : i / 3 < 6 := by omega
  have b2 : j / 3 < 6 := by omega
  have k1 : i % 3 < 3 := by omega
  have k2 : j % 3 < 3 := by omega
  generalize i / 3 = p at b1 ⊢
  generalize j / 3 = q at b2 ⊢
  generalize i % 3 = u at k1 ⊢
  generalize j % 3 = v at k2 ⊢
  rcases Int.lt_trichotomy a c with g | g | g
  · constructor <;> intro _ <;> omega
  · subst g
    rcases Nat.lt_trichotomy u v with f | f | f
    · constructor <;> intro _ <;> omega
    · subst f
      constructor <;> intro _ <;> omega
    · constructor <;> intro _ <;> omega
  · constructor <;> intro _ <;> omega
def insF (K : Nat → Int) (pl : Nat) (x : Int) : Nat → Int := fun j => if j < pl then K j else if j = pl then x else K (j - 1)
def Srt (T : Nat) (K : Nat → Int) : Prop := ∀ i j, i < j → j < T → K i < K j
theorem insF_srt {T pl : Nat} {K : Nat → Int} {x : Int} (h : Srt T K) (hp : pl ≤ T) (h1 : ∀ j, j < pl → K j < x) (h2 : ∀ j, pl ≤ j → j < T → x < K j) : Srt (T + 1) (insF K pl x) := by
  intro i j hij hj
  unfold insF
  by_cases c1 : i < pl
  · rw [if_pos c1]
    by_cases d1 : j < pl
    · rw [if_pos d1]
      exact h i j hij (by omega)
    · rw [if_neg d1]
      by_cases d2 : j = pl
      · rw [if_pos d2]
        exact h1 i c1
      · rw [if_neg d2]
        exact h i (j - 1) (by omega) (by omega)
  · rw [if_neg c1]
    by_cases c2 : i = pl
    · rw [if_pos c2, if_neg (by omega), if_neg (by omega)]
      exact h2 _ (by omega) (by omega)
    · rw [if_neg c2, if_neg (by omega), if_neg (by omega)]
      exact h _ _ (by omega) (by omega)
theorem insF_cnt {T pl : Nat} {K : Nat → Int} {x : Int} (hp : pl ≤ T) (v : Int) : cnt (fun i => decide (insF K pl x i < v)) 0 (T + 1) = cnt (fun i => decide (K i < v)) 0 T + (if x < v then 1 else 0) := by
  have e : T + 1 = pl + (1 + (T - pl)) := by omega
  have e2 : T = pl + (T - pl) := by omega
  have sh : ∀ (m k : Nat), pl + 1 ≤ k → cnt (fun i => decide (insF K pl x i < v)) k m = cnt (fun i => decide (K i < v)) (k - 1) m := by
    intro m
    induction m with
    | zero => intro k _; rfl
    | succ m ih =>
      intro k hk
      rw [cnt_s, cnt_s, ih (k + 1) (by omega), show k + 1 - 1 = k - 1 + 1 by omega]
      have : insF K pl x k = K (k - 1) := by
        unfold insF
        rw [if_neg (by omega), if_neg (by omega)]
      rw [this]
  have a1 : cnt (fun i => decide (insF K pl x i < v)) 0 (T + 1) = cnt (fun i => decide (K i < v)) 0 pl + ((if x < v then 1 else 0) + cnt (fun i => decide (K i < v)) pl (T - pl)) := by
    rw [e, cnt_add, cnt_add, Nat.zero_add]
    have b1 : cnt (fun i => decide (insF K pl x i < v)) 0 pl = cnt (fun i => decide (K i < v)) 0 pl := cnt_congr _ _ (fun j _ h => by
      have : insF K pl x j = K j := if_pos (by omega)
      rw [this])
    have b2 : cnt (fun i => decide (insF K pl x i < v)) pl 1 = (if x < v then 1 else 0) := by
      rw [cnt_s]
      have : insF K pl x pl = x := by
        unfold insF
        rw [if_neg (by omega), if_pos rfl]
      rw [this]
      show _ + (0 : Int) = _
      by_cases c : x < v
      · rw [if_pos (decide_eq_true c), if_pos c]
        rfl
      · rw [if_neg (by rw [decide_eq_true_eq]; exact c), if_neg c]
        rfl
    rw [b1, b2, sh (T - pl) (pl + 1) (by omega), show pl + 1 - 1 = pl by omega]
  rw [a1]
  conv => rhs; rw [e2, cnt_add, Nat.zero_add]
  omega
theorem srt_rank {T : Nat} {K : Nat → Int} (h : Srt T K) {x : Nat} (hx : x < T) : cnt (fun i => decide (K i < K x)) 0 T = x := by
  have e : T = x + (T - x) := by omega
  rw [e, cnt_add, Nat.zero_add]
  have one : ∀ (m k : Nat), cnt (fun _ => true) k m = m := by
    intro m
    induction m with
    | zero => intro k; rfl
    | succ m ih =>
      intro k
      rw [cnt_s, ih (k + 1), if_pos rfl]
      omega
  have a1 : cnt (fun i => decide (K i < K x)) 0 x = x := (cnt_congr (q := fun _ => true) _ _ (fun j _ h2 => decide_eq_true (h j x (by omega) hx))).trans (one x 0)
  have a2 : cnt (fun i => decide (K i < K x)) x (T - x) = 0 := (cnt_congr (q := fun _ => false) _ _ (fun j h1 h2 => decide_eq_false (by
    by_cases c : x = j
    · subst c
      omega
    · have := h x j (by omega) (by omega)
      omega))).trans (cnt_f _ _)
  rw [a1, a2]
  omega
/-- the row holds the keys of the first L sirens that sound -/
def Hold (t tm : Nat → Int) (L T : Nat) (K : Nat → Int) : Prop := Srt T K ∧ (∀ v, cnt (fun i => decide (K i < v)) 0 T = cnt (fun j => tmd tm j && decide (kc t tm j < v)) 0 L) ∧ (∀ i, i < T → ∃ j, j < L ∧ tmd tm j = true ∧ kc t tm j = K i) ∧ ∀ j, j < L → tmd tm j = true → ∃ i, i < T ∧ K i = kc t tm j
theorem Hold.nil (t tm : Nat → Int) (K : Nat → Int) : Hold t tm 0 0 K := ⟨fun i j _ h => by omega, fun v => rfl, fun i h => by omega, fun j h => by omega⟩
theorem Hold.skip {t tm : Nat → Int} {L T : Nat} {K : Nat → Int} (h : Hold t tm L T K) (hn : tmd tm L = false) : Hold t tm (L + 1) T K := by
  obtain ⟨h1, h2, h3, h4⟩ := h
  refine ⟨h1, fun v => ?_, fun i hi => ?_, fun j hj ht => ?_⟩
  · rw [h2 v, cnt_add, Nat.zero_add, cnt_s, hn, Bool.false_and]
    show _ = _ + (_ + (0 : Int))
    rw [if_neg (by decide)]
    omega
  · obtain ⟨j, j1, j2⟩ := h3 i hi
    exact ⟨j, by omega, j2⟩
  · by_cases c : j = L
    · rw [c, hn] at ht
      cases ht
    · exact h4 j (by omega) ht
theorem Hold.put {t tm : Nat → Int} {L T : Nat} {K : Nat → Int} (h : Hold t tm L T K) (hL : L < 18) (ht : tmd tm L = true) {pl : Nat} (hp : pl ≤ T) (h5 : ∀ j, j < pl → K j ≤ kc t tm L) (h6 : ∀ j, pl ≤ j → j < T → kc t tm L < K j) : Hold t tm (L + 1) (T + 1) (insF K pl (kc t tm L)) := by
  obtain ⟨h1, h2, h3, h4⟩ := h
  have hne : ∀ i, i < T → K i ≠ kc t tm L := fun i hi e => by
    obtain ⟨j, j1, _, j3⟩ := h3 i hi
    have := kc_inj (by omega) hL (j3.trans e)
    omega
  refine ⟨insF_srt h1 hp (fun j hj => ?_) h6, fun v => ?_, fun i hi => ?_, fun j hj hz => ?_⟩
  · have := h5 j hj
    have := hne j (by omega)
    omega
  · rw [insF_cnt hp, h2 v, cnt_add, Nat.zero_add, cnt_s, ht, Bool.true_and]
    show _ = _ + (_ + (0 : Int))
    by_cases c : kc t tm L < v
    · rw [if_pos c, if_pos (decide_eq_true c)]
      omega
    · rw [if_neg c, if_neg (by rw [decide_eq_true_eq]; exact c)]
      omega
  · unfold insF
    by_cases c1 : i < pl
    · rw [if_pos c1]
      obtain ⟨j, j1, j2⟩ := h3 i (by omega)
      exact ⟨j, by omega, j2⟩
    · rw [if_neg c1]
      by_cases c2 : i = pl
      · rw [if_pos c2]
        exact ⟨L, by omega, ht, rfl⟩
      · rw [if_neg c2]
        obtain ⟨j, j1, j2⟩ := h3 (i - 1) (by omega)
        exact ⟨j, by omega, j2⟩
  · by_cases c : j = L
    · refine ⟨pl, by omega, ?_⟩
      unfold insF
      rw [if_neg (by omega), if_pos rfl, c]
    · obtain ⟨i, i1, i2⟩ := h4 j (by omega) hz
      by_cases d : i < pl
      · refine ⟨i, by omega, ?_⟩
        unfold insF
        rw [if_pos d]
        exact i2
      · refine ⟨i + 1, by omega, ?_⟩
        unfold insF
        rw [if_neg (by omega), if_neg (by omega), show i + 1 - 1 = i by omega]
        exact i2
/-- how many sirens sound before -/
def bfC (t tm : Nat → Int) (B : Nat) (v : Int) : Int := cnt (fun j => tmd tm j && decide (km t tm j < v)) 0 (3 * B)
theorem Hold.at {t tm : Nat → Int} {B T : Nat} {K : Nat → Int} (hB : B ≤ 6) (h : Hold t tm (3 * B) T K) {x : Nat} (hx : x < T) : ∃ i, i < 3 * B ∧ tmd tm i = true ∧ K x = kc t tm i ∧ bfC t tm B (km t tm i) = x ∧ ∀ j, j < 3 * B → tmd tm j = true → bfC t tm B (km t tm j) = x → j = i := by
  obtain ⟨h1, h2, h3, h4⟩ := h
  have hr : ∀ i, i < 3 * B → bfC t tm B (km t tm i) = cnt (fun j => tmd tm j && decide (kc t tm j < kc t tm i)) 0 (3 * B) := fun i hi => cnt_congr _ _ (fun j _ hj => by
    have := kc_lt (t := t) (tm := tm) (i := j) (j := i) (by omega) (by omega)
    congr 1
    rw [Bool.eq_iff_iff, decide_eq_true_eq, decide_eq_true_eq]
    exact this.symm)
  obtain ⟨i, i1, i2, i3⟩ := h3 x hx
  refine ⟨i, i1, i2, i3.symm, ?_, fun j hj ht e => ?_⟩
  · rw [hr i i1, i3, ← h2]
    exact srt_rank h1 hx
  · obtain ⟨y, y1, y2⟩ := h4 j hj ht
    have ey : bfC t tm B (km t tm j) = y := by
      rw [hr j hj, ← y2, ← h2]
      exact srt_rank h1 y1
    have : y = x := by omega
    subst this
    exact kc_inj (by omega) (by omega) (y2.symm.trans i3.symm)
section SIR
variable {N : Nat} {R : Nat → Nat → Nat} {s : Nat} {t w : Nat → Int} {σ : SI}
def SK (σ : SI) (T : Nat) (K : Nat → Int) : Prop := σ 27 1 = nI T ∧ ∀ i, i < T → σ 28 i = iI (K i)
theorem c_sins34 (hR : RO R s) {T : Nat} (hT : T ≤ 17) {K : Nat → Int} (hS : Srt T K) (hK : ∀ i, i < T → 0 ≤ K i ∧ K i ≤ 1000000) {x : Int} (hx : 0 ≤ x ∧ x ≤ 1000000) : ∀ (q n : Nat) (σ : SI), q ≤ T → q < n → σ 27 1 = nI T → (∀ j, j < q → σ 28 j = iI (K j)) → (∀ j, q < j → j ≤ T → σ 28 j = iI (K (j - 1)) ∧ x < K (j - 1)) → ∃ (σ' : SI) (pl : Nat), f_X8_insert_34 N R n σ 27 (iI x) (nI q) = some ((), σ') ∧ pl ≤ T ∧ (∀ j, j < pl → K j ≤ x) ∧ (∀ j, pl ≤ j → j < T → x < K j) ∧ SK σ' (T + 1) (insF K pl x) ∧ ∀ o j, o ≠ 27 → o ≠ 28 → σ' o j = σ o j := by
  have done : ∀ (q : Nat) (σ : SI), q ≤ T → σ 27 1 = nI T → (∀ j, j < q → σ 28 j = iI (K j)) → (∀ j, q < j → j ≤ T → σ 28 j = iI (K (j - 1)) ∧ x < K (j - 1)) → f_X8_insert_75 N R σ 27 (iI x) (nI q) = some ((), up (up σ 28 q (iI x)) 27 1 (nI (T + 1))) ∧ SK (up (up σ 28 q (iI x)) 27 1 (nI (T + 1))) (T + 1) (insF K q x) := by
    intro q σ hq e1 h1 h2
    refine ⟨?_, up_th, fun i hi => ?_⟩
    · unfold f_X8_insert_75
      rw [ck_nI (by omega) (by decide), sq_eq, sq_eq, hR.r27_0, nI_clamp (by omega), show up σ 28 q (iI x) 27 1 = σ 27 1 from if_neg (by omega), e1, nI_1]
    · unfold up insF
      rw [if_neg (by omega)]
      by_cases c : i = q
      · rw [if_pos ⟨rfl, c⟩, if_neg (by omega), if_pos c]
      · rw [if_neg (by omega)]
        by_cases d : i < q
        · rw [if_pos d]
          exact h1 i d
        · rw [if_neg d, if_neg c]
          exact (h2 i (by omega) (by omega)).1
  intro q
  induction q with
  | zero =>
    intro n σ hq hn e1 h1 h2
    obtain ⟨n, rfl⟩ : ∃ q, n = q + 1 := ⟨n - 1, by omega⟩
    obtain ⟨d1, d2⟩ := done 0 σ hq e1 h1 h2
    refine ⟨_, 0, ?_, by omega, fun j hj => by omega, fun j _ hj => (h2 (j + 1) (by omega) (by omega)).2, d2, fun o j h1 h2 => ?_⟩
    · rw [f_X8_insert_34, if_pos (by decide), d1]
    · unfold up
      rw [if_neg (by omega), if_neg (by omega)]
  | succ q ih =>
    intro n σ hq hn e1 h1 h2
    obtain ⟨n, rfl⟩ : ∃ q, n = q + 1 := ⟨n - 1, by omega⟩
    have hk := hK q (by omega)
    have row : f_X8_insert_34 N R (n + 1) σ 27 (iI x) (nI (q + 1)) = if K q ≤ x then f_X8_insert_75 N R σ 27 (iI x) (nI (q + 1)) else f_X8_insert_34 N R n (up σ 28 (q + 1) (iI (K q))) 27 (iI x) (nI q) := by
      rw [f_X8_insert_34, if_neg (by rw [show (0 : Int32) = nI 0 from rfl, nI_leI (by omega) (by omega)]; omega), show nI (q + 1) - (1 : Int32) = nI q from (by rw [show (1 : Int32) = nI 1 from rfl, nI_sub (by omega)]; rfl), ck_nI (by omega) (by decide), hR.r27_0, nI_clamp (by omega), h1 q (by omega)]
      by_cases c : K q ≤ x
      · rw [if_pos ((iI_le (by omega)).mpr c), if_pos c]
      · rw [if_neg (fun z => c ((iI_le (by omega)).mp z)), if_neg c, ck_nI (by omega) (by decide), ck_nI (by omega) (by decide), sq_eq, nI_clamp (by omega), nI_dec]
    rw [row]
    by_cases c : K q ≤ x
    · obtain ⟨d1, d2⟩ := done (q + 1) σ hq e1 h1 h2
      rw [if_pos c]
      refine ⟨_, q + 1, d1, by omega, fun j hj => ?_, fun j j1 j2 => (h2 (j + 1) (by omega) (by omega)).2, d2, fun o j h1 h2 => ?_⟩
      · by_cases e : j = q
        · rw [e]
          exact c
        · have := hS j q (by omega) (by omega)
          omega
      · unfold up
        rw [if_neg (by omega), if_neg (by omega)]
    · rw [if_neg c]
      obtain ⟨σ', pl, g1, g2, g3, g4, g5, g6⟩ := ih n (up σ 28 (q + 1) (iI (K q))) (by omega) (by omega) ((if_neg (by omega)).trans e1) (fun j hj => (if_neg (by omega)).trans (h1 j (by omega))) (fun j j1 j2 => by
        unfold up
        by_cases e : j = q + 1
        · rw [if_pos ⟨rfl, e⟩, e, show q + 1 - 1 = q by omega]
          exact ⟨rfl, by omega⟩
        · rw [if_neg (by omega)]
          exact h2 j (by omega) j2)
      exact ⟨σ', pl, g1, g2, g3, g4, g5, fun o j o1 o2 => (g6 o j o1 o2).trans (if_neg (by omega))⟩
theorem kc_r {tm : Nat → Int} (hO : TOk t) {i : Nat} (hi : i < 18) (h : 0 ≤ tm (i / 3) ∧ tm (i / 3) ≤ 1439) : 0 ≤ kc t tm i ∧ kc t tm i ≤ 100000 := by
  have h7 := hO.2.2.2.2.2.2.1
  unfold kc smin
  split <;> (try split) <;> omega
theorem km_r {tm : Nat → Int} (hO : TOk t) {i : Nat} (hi : i < 18) (h : 0 ≤ tm (i / 3) ∧ tm (i / 3) ≤ 1439) : 0 ≤ km t tm i ∧ km t tm i ≤ 1000000 := by
  have h7 := hO.2.2.2.2.2.2.1
  unfold km smin
  split <;> (try split) <;> omega
theorem c_sins (hN : 2000 ≤ N) (hR : RO R s) (hO : TOk t) {tm : Nat → Int} (htm : ∀ b : Nat, b < nB t → tm b = -1 ∨ 0 ≤ tm b ∧ tm b ≤ 1439) {L T : Nat} (hL : L < 3 * nB t) (hTL : T ≤ L) {K : Nat → Int} (hK : SK σ T K) (hH : Hold t tm L T K) (ht : tmd tm L = true) {a b c : Int32} (he : ((a + (10 : Int32)) * (4 : Int32) + b) * (8 : Int32) + c = iI (kc t tm L)) : ∃ (σ' : SI) (K' : Nat → Int), f_X8_insert N R σ 27 a b c = some ((), σ') ∧ SK σ' (T + 1) K' ∧ Hold t tm (L + 1) (T + 1) K' ∧ ∀ o j, o ≠ 27 → o ≠ 28 → σ' o j = σ o j := by
  have hB := nB_c hO
  have hr : ∀ j, j < 3 * nB t → tmd tm j = true → 0 ≤ tm (j / 3) ∧ tm (j / 3) ≤ 1439 := fun j hj hz => by
    have := htm (j / 3) (by omega)
    have h2 := of_decide_eq_true (show decide (tm (j / 3) ≠ -1) = true from hz)
    omega
  have hx := kc_r hO (i := L) (by omega) (hr L hL ht)
  obtain ⟨σ', pl, g1, g2, g3, g4, g5, g6⟩ := c_sins34 (N := N) hR (T := T) (by omega) hH.1 (fun i hi => by
    obtain ⟨j, j1, j2, j3⟩ := hH.2.2.1 i hi
    have := kc_r hO (i := j) (by omega) (hr j (by omega) j2)
    omega) (x := kc t tm L) (by omega) T N σ (by omega) (by omega) hK.1 hK.2 (fun j h1 h2 => by omega)
  refine ⟨σ', _, ?_, g5, hH.put (by omega) ht g2 g3 g4, g6⟩
  unfold f_X8_insert
  rw [hK.1, if_pos (by rw [show Int32.ofNat 18 = nI 18 from rfl, nI_ltI (by omega) (by omega)]; omega), he]
  exact g1
theorem smin_0 (t tm : Nat → Int) (b : Nat) : smin t tm (3 * b) = tm b - 10 := by
  unfold smin
  rw [show 3 * b / 3 = b by omega, if_pos (by omega)]
  omega
theorem smin_1 (t tm : Nat → Int) (b : Nat) : smin t tm (3 * b + 1) = tm b - 1 := by
  unfold smin
  rw [show (3 * b + 1) / 3 = b by omega, if_neg (by omega), if_pos (by omega)]
  omega
theorem smin_2 (t tm : Nat → Int) (b : Nat) : smin t tm (3 * b + 2) = tm b + t 7 := by
  unfold smin
  rw [show (3 * b + 2) / 3 = b by omega, if_neg (by omega), if_neg (by omega)]
theorem tmd_3 (tm : Nat → Int) (b j : Nat) (hj : j < 3) : tmd tm (3 * b + j) = decide (tm b ≠ -1) := by
  unfold tmd
  rw [show (3 * b + j) / 3 = b by omega]
def nT (tm : Nat → Int) (k : Nat) : Int := cnt (fun b => decide (tm b ≠ -1)) 0 k
theorem c_gath (hN : 2000 ≤ N) (hR : RO R s) (hO : TOk t) {tm : Nat → Int} (htm : ∀ b : Nat, b < nB t → tm b = -1 ∨ 0 ≤ tm b ∧ tm b ≤ 1439) : ∀ (m k n T : Nat) (K : Nat → Int) (σ : SI), k + m = nB t → m < n → σ s 11 = iI (t 2) → σ s 16 = iI (t 7) → (∀ b : Nat, b < nB t → σ (s + 7) b = iI (tm b)) → SK σ T K → Hold t tm (3 * k) T K → (T : Int) = 3 * nT tm k → ∃ (σ' : SI) (T' : Nat) (K' : Nat → Int), f_X8_gather_7 N R n σ 27 s (nI k) = some ((), σ') ∧ SK σ' T' K' ∧ Hold t tm (3 * nB t) T' K' ∧ (T' : Int) = 3 * nT tm (nB t) ∧ ∀ o j, o ≠ 27 → o ≠ 28 → σ' o j = σ o j := by
  have hB := nB_c hO
  have hs := hR.1
  intro m
  induction m with
  | zero =>
    intro k n T K σ hk hm e1 e2 e3 hK hH hT
    obtain ⟨n, rfl⟩ : ∃ q, n = q + 1 := ⟨n - 1, by omega⟩
    obtain rfl : k = nB t := by omega
    refine ⟨σ, T, K, ?_, hK, hH, hT, fun _ _ _ _ => rfl⟩
    rw [f_X8_gather_7, e1, if_pos ((iI_leN (by omega)).mpr (by omega))]
  | succ m ih =>
    intro k n T K σ hk hm e1 e2 e3 hK hH hT
    obtain ⟨n, rfl⟩ : ∃ q, n = q + 1 := ⟨n - 1, by omega⟩
    have hz := htm k (by omega)
    have hnr := cnt_r (fun b => decide (tm b ≠ -1)) k 0
    have hnT : nT tm (k + 1) = nT tm k + (if tm k ≠ -1 then 1 else 0) := by
      unfold nT
      rw [cnt_add, Nat.zero_add, cnt_s]
      show _ + (_ + (0 : Int)) = _
      by_cases c : tm k ≠ -1
      · rw [if_pos c, if_pos (decide_eq_true c)]
        omega
      · rw [if_neg c, if_neg (by rw [decide_eq_true_eq]; exact c)]
        omega
    have hTk : T ≤ 3 * k := by
      unfold nT at hT
      omega
    rw [f_X8_gather_7, e1, if_neg (fun q => absurd ((iI_leN (by omega)).mp q) (by omega)), ck_nI (by omega) (by decide), hR.si 6 (by decide), show s + 1 + 6 = s + 7 by omega, nI_clamp (by omega), e3 k (by omega)]
    unfold f_X8_gather_58
    rw [nI_1]
    by_cases c1 : tm k = -1
    · have t0 := tmd_3 tm k 0 (by omega)
      have t1 := tmd_3 tm k 1 (by omega)
      have t2 := tmd_3 tm k 2 (by omega)
      rw [decide_eq_false (fun q => q c1)] at t0 t1 t2
      rw [if_pos (by rw [c1]; rfl)]
      refine ih (k + 1) n T K σ (by omega) (by omega) e1 e2 e3 hK ((((hH.skip t0).skip t1).skip t2)) ?_
      rw [hnT, if_neg (fun q => q c1)]
      omega
    · have t0 := tmd_3 tm k 0 (by omega)
      have t1 := tmd_3 tm k 1 (by omega)
      have t2 := tmd_3 tm k 2 (by omega)
      rw [decide_eq_true c1] at t0 t1 t2
      obtain ⟨σ1, K1, a1, a2, a3, a4⟩ := c_sins (N := N) hN hR hO htm (L := 3 * k) (by omega) hTk hK hH t0 (a := iI (tm k) - (10 : Int32)) (b := (0 : Int32)) (c := nI k) (by
        unfold kc
        rw [smin_0, show 3 * k % 3 = 0 by omega, show 3 * k / 3 = k by omega, show (10 : Int32) = iI 10 from rfl, show (4 : Int32) = iI 4 from rfl, show (8 : Int32) = iI 8 from rfl, show (0 : Int32) = iI 0 from rfl, iI_nat, iI_sub, iI_add, iI_mul, iI_add, iI_mul, iI_add]
        rfl)
      obtain ⟨σ2, K2, b1, b2, b3, b4⟩ := c_sins (N := N) hN hR hO htm (L := 3 * k + 1) (by omega) (by omega) a2 a3 t1 (a := iI (tm k) - (1 : Int32)) (b := (1 : Int32)) (c := nI k) (by
        unfold kc
        rw [smin_1, show (3 * k + 1) % 3 = 1 by omega, show (3 * k + 1) / 3 = k by omega, show (10 : Int32) = iI 10 from rfl, show (4 : Int32) = iI 4 from rfl, show (8 : Int32) = iI 8 from rfl, show (1 : Int32) = iI 1 from rfl, iI_nat, iI_sub, iI_add, iI_mul, iI_add, iI_mul, iI_add]
        rfl)
      obtain ⟨σ3, K3, c1', c2, c3, c4⟩ := c_sins (N := N) hN hR hO htm (L := 3 * k + 2) (by omega) (by omega) b2 b3 t2 (a := iI (tm k) + iI (t 7)) (b := (2 : Int32)) (c := nI k) (by
        unfold kc
        rw [smin_2, show (3 * k + 2) % 3 = 2 by omega, show (3 * k + 2) / 3 = k by omega, show (10 : Int32) = iI 10 from rfl, show (4 : Int32) = iI 4 from rfl, show (8 : Int32) = iI 8 from rfl, show (2 : Int32) = iI 2 from rfl, iI_nat, iI_add, iI_add, iI_mul, iI_add, iI_mul, iI_add]
        rfl)
      have f1 : ∀ o j, 38 ≤ o → σ1 o j = σ o j := fun o j q => a4 o j (by omega) (by omega)
      have f2 : ∀ o j, 38 ≤ o → σ2 o j = σ o j := fun o j q => (b4 o j (by omega) (by omega)).trans (f1 o j q)
      have f3 : ∀ o j, 38 ≤ o → σ3 o j = σ o j := fun o j q => (c4 o j (by omega) (by omega)).trans (f2 o j q)
      obtain ⟨σ', T', K', d1, d2, d3, d4, d5⟩ := ih (k + 1) n (T + 1 + 1 + 1) K3 σ3 (by omega) (by omega) ((f3 _ _ (by omega)).trans e1) ((f3 _ _ (by omega)).trans e2) (fun b hb => (f3 _ _ (by omega)).trans (e3 b hb)) c2 c3 (by
        rw [hnT, if_pos c1]
        omega)
      refine ⟨σ', T', K', ?_, d2, d3, d4, fun o j o1 o2 => (d5 o j o1 o2).trans ((c4 o j o1 o2).trans ((b4 o j o1 o2).trans (a4 o j o1 o2)))⟩
      rw [if_neg (by rw [show (-1 : Int32) = iI (-1) from rfl, iI_eq (by omega)]; exact c1), a1, bd_some, b1, bd_some, f2 s 16 (by omega), e2, c1', bd_some]
      exact d1
theorem c_gather (hN : 2000 ≤ N) (h : Iv σ R s t w) : ∃ (σ' : SI) (T : Nat) (K : Nat → Int), f_X8_gather N R σ 27 s = some ((), σ') ∧ SK σ' T K ∧ Hold t (tms w) (3 * nB t) T K ∧ (T : Int) = 3 * nT (tms w) (nB t) ∧ Same σ σ' := by
  have hB := nB_c h.tok
  have hs := h.ro.1
  have f : ∀ o j, 38 ≤ o → up σ 27 1 0 o j = σ o j := fun o j q => if_neg (by omega)
  obtain ⟨σ', T, K, g1, g2, g3, g4, g5⟩ := c_gath (N := N) hN h.ro h.tok (tm := tms w) (fun b hb => by
    have := (h.wok b (by omega)).1
    unfold tms
    omega) (nB t) 0 N 0 (fun _ => 0) (up σ 27 1 0) (by omega) (by omega) ((f _ _ (by omega)).trans h.cq.1.2.2.1) ((f _ _ (by omega)).trans h.cq.1.2.2.2.2.2.2.2.1) (fun b hb => (f _ _ (by omega)).trans (h.cs b (by omega)).1) ⟨up_th, fun i hi => by omega⟩ (Hold.nil _ _ _) rfl
  refine ⟨σ', T, K, ?_, g2, g3, g4, fun o j q => (g5 o j (by unfold Sc at q; omega) (by unfold Sc at q; omega)).trans (if_neg (by unfold Sc at q; omega))⟩
  unfold f_X8_gather
  rw [sq_eq]
  exact g1
/-! the reference ranks -/
theorem m_timed4 (hR : RO R s) (hT : TV t σ) (hV : WV w σ) (hO : TOk t) (hW : WOk t w) : ∀ (m k n : Nat) (acc : Int), k + m = nB t → m < n → f_X12_timed_4 N R n σ 178 (iI acc) (nI k) = some (iI (acc + cnt (fun b => decide (tms w b ≠ -1)) k m), σ) := by
  have hB := nB_c hO
  intro m
  induction m with
  | zero =>
    intro k n acc hk hm
    obtain ⟨n, rfl⟩ : ∃ q, n = q + 1 := ⟨n - 1, by omega⟩
    rw [f_X12_timed_4, m_blasts hR hT, bd_some, if_pos ((iI_leN (by omega)).mpr (by omega))]
    show _ = some (iI (acc + 0), σ)
    rw [Int.add_zero]
  | succ m ih =>
    intro k n acc hk hm
    obtain ⟨n, rfl⟩ : ∃ q, n = q + 1 := ⟨n - 1, by omega⟩
    have hw := (hW k (by omega)).1
    rw [f_X12_timed_4, m_blasts hR hT, bd_some, if_neg (fun q => absurd ((iI_leN (by omega)).mp q) (by omega)), m_time hR hV (by omega), bd_some, cnt_s, nI_1]
    by_cases c : w (14 * k) = -1
    · rw [if_pos (by rw [c]; rfl), show (0 : Int32) = iI 0 from rfl, iI_add, ih (k + 1) n _ (by omega) (by omega), if_neg (by rw [decide_eq_true_eq]; exact fun q => q c), Int.add_assoc]
    · rw [if_neg (by rw [show (-1 : Int32) = iI (-1) from rfl, iI_eq (by omega)]; exact c), show (1 : Int32) = iI 1 from rfl, iI_add, ih (k + 1) n _ (by omega) (by omega), if_pos (show decide (tms w k ≠ -1) = true from decide_eq_true c), Int.add_assoc]
theorem m_timed (hN : 2000 ≤ N) (hR : RO R s) (hT : TV t σ) (hV : WV w σ) (hO : TOk t) (hW : WOk t w) : f_X12_timed N R σ 178 = some (iI (nT (tms w) (nB t)), σ) := by
  have hB := nB_c hO
  unfold f_X12_timed
  have e := m_timed4 (N := N) hR hT hV hO hW (nB t) 0 N 0 (by omega) (by omega)
  rw [Int.zero_add] at e
  exact e
theorem m_sirenOf (hR : RO R s) (hT : TV t σ) (hV : WV w σ) (hO : TOk t) {b k : Nat} (hb : (b : Int) < t 2) (hk : k < 3) : f_X12_sirenOf N R σ 178 (nI b) (nI k) = some (iI (km t (tms w) (3 * b + k)), σ) := by
  have hB := nB_c hO
  unfold f_X12_sirenOf
  rw [m_time hR hV (by omega), bd_some, show (7 : Int32) = nI 7 from rfl, ck_nI (by decide) (by decide), nI_clamp (by decide), hR.m11, hT]
  unfold km
  rcases (show k = 0 ∨ k = 1 ∨ k = 2 by omega) with rfl | rfl | rfl
  · rw [if_pos (show nI 0 = (0 : Int32) from rfl), show 3 * b + 0 = 3 * b by omega, smin_0, show 3 * b % 3 = 0 by omega, show 3 * b / 3 = b by omega, show (-10 : Int32) = iI (-10) from rfl, show (100 : Int32) = iI 100 from rfl, show (10 : Int32) = iI 10 from rfl, iI_nat, iI_nat, iI_add, iI_add, iI_mul, iI_mul, iI_add, iI_add]
    rfl
  · rw [if_neg (by decide), if_pos (show nI 1 = (1 : Int32) from rfl), smin_1, show (3 * b + 1) % 3 = 1 by omega, show (3 * b + 1) / 3 = b by omega, show (100 : Int32) = iI 100 from rfl, show (10 : Int32) = iI 10 from rfl, show (-1 : Int32) = iI (-1) from rfl, iI_nat, iI_nat, iI_add, iI_add, iI_mul, iI_mul, iI_add, iI_add]
    rfl
  · rw [if_neg (by decide), if_neg (by decide), smin_2, show (3 * b + 2) % 3 = 2 by omega, show (3 * b + 2) / 3 = b by omega, show (100 : Int32) = iI 100 from rfl, show (10 : Int32) = iI 10 from rfl, iI_nat, iI_nat, iI_add, iI_add, iI_mul, iI_mul, iI_add, iI_add]
    rfl
theorem tms_r (hW : WOk t w) {b : Nat} (hb : (b : Int) < t 2) (h : tms w b ≠ -1) : 0 ≤ tms w b ∧ tms w b ≤ 1439 := by
  have := (hW b hb).1
  unfold tms at h ⊢
  omega
theorem m_bf15 (hR : RO R s) (hT : TV t σ) (hV : WV w σ) (hO : TOk t) (hW : WOk t w) {K : SI → Nat → Int32 → Int32 → Int32 → Option (Int32 × SI)} {b : Nat} (hb : (b : Int) < t 2) {v : Int} (hv : 0 ≤ v ∧ v ≤ 1000000) : ∀ (m k n : Nat) (acc : Int), k + m = 3 → m < n → f_X12_before_15 N R K n σ 178 (iI v) (iI acc) (nI b) (nI k) = K σ 178 (iI v) (iI (acc + cnt (fun j => tmd (tms w) j && decide (km t (tms w) j < v)) (3 * b + k) m)) (nI (b + 1)) := by
  have hB := nB_c hO
  intro m
  induction m with
  | zero =>
    intro k n acc hk hm
    obtain ⟨n, rfl⟩ : ∃ q, n = q + 1 := ⟨n - 1, by omega⟩
    rw [f_X12_before_15, if_pos (by rw [show k = 3 by omega]; decide), nI_1]
    show _ = K σ 178 (iI v) (iI (acc + 0)) (nI (b + 1))
    rw [Int.add_zero]
  | succ m ih =>
    intro k n acc hk hm
    obtain ⟨n, rfl⟩ : ∃ q, n = q + 1 := ⟨n - 1, by omega⟩
    have hw := (hW b hb).1
    have ht := tmd_3 (tms w) b k (by omega)
    rw [f_X12_before_15, if_neg (by rw [show (3 : Int32) = nI 3 from rfl, nI_leI (by omega) (by omega)]; omega), m_time hR hV (by omega), bd_some, cnt_s, nI_1, ht]
    by_cases c : w (14 * b) = -1
    · rw [if_pos (by rw [c]; rfl), show (0 : Int32) = iI 0 from rfl, iI_add, ih (k + 1) n _ (by omega) (by omega), show decide (tms w b ≠ -1) = false from decide_eq_false (fun q => q c), Bool.false_and, if_neg (by decide), Int.add_assoc]
      rfl
    · have hr := km_r hO (tm := tms w) (i := 3 * b + k) (by omega) (by rw [show (3 * b + k) / 3 = b by omega]; exact tms_r hW hb c)
      rw [if_neg (by rw [show (-1 : Int32) = iI (-1) from rfl, iI_eq (by omega)]; exact c), m_sirenOf hR hT hV hO hb (by omega), bd_some, show decide (tms w b ≠ -1) = true from decide_eq_true c, Bool.true_and]
      by_cases d : v ≤ km t (tms w) (3 * b + k)
      · rw [if_pos ((iI_le (by omega)).mpr d), show (0 : Int32) = iI 0 from rfl, iI_add, ih (k + 1) n _ (by omega) (by omega), if_neg (by rw [decide_eq_true_eq]; omega), Int.add_assoc]
        rfl
      · rw [if_neg (fun q => d ((iI_le (by omega)).mp q)), show (1 : Int32) = iI 1 from rfl, iI_add, ih (k + 1) n _ (by omega) (by omega), if_pos (decide_eq_true (by omega)), Int.add_assoc]
        rfl
theorem m_bf4 (hN : 2000 ≤ N) (hR : RO R s) (hT : TV t σ) (hV : WV w σ) (hO : TOk t) (hW : WOk t w) {v : Int} (hv : 0 ≤ v ∧ v ≤ 1000000) : ∀ (m k n : Nat) (acc : Int), k + m = nB t → m < n → f_X12_before_4 N R n σ 178 (iI v) (iI acc) (nI k) = some (iI (acc + cnt (fun j => tmd (tms w) j && decide (km t (tms w) j < v)) (3 * k) (3 * m)), σ) := by
  have hB := nB_c hO
  intro m
  induction m with
  | zero =>
    intro k n acc hk hm
    obtain ⟨n, rfl⟩ : ∃ q, n = q + 1 := ⟨n - 1, by omega⟩
    rw [f_X12_before_4, m_blasts hR hT, bd_some, if_pos ((iI_leN (by omega)).mpr (by omega))]
    show _ = some (iI (acc + 0), σ)
    rw [Int.add_zero]
  | succ m ih =>
    intro k n acc hk hm
    obtain ⟨n, rfl⟩ : ∃ q, n = q + 1 := ⟨n - 1, by omega⟩
    rw [f_X12_before_4, m_blasts hR hT, bd_some, if_neg (fun q => absurd ((iI_leN (by omega)).mp q) (by omega)), l_0, m_bf15 (N := N) hR hT hV hO hW (by omega) hv 3 0 N acc (by omega) (by omega), ih (k + 1) n _ (by omega) (by omega), show 3 * (m + 1) = 3 + 3 * m by omega, cnt_add, Int.add_assoc, Nat.add_zero, show 3 * (k + 1) = 3 * k + 3 by omega]
theorem m_before (hN : 2000 ≤ N) (hR : RO R s) (hT : TV t σ) (hV : WV w σ) (hO : TOk t) (hW : WOk t w) {v : Int} (hv : 0 ≤ v ∧ v ≤ 1000000) : f_X12_before N R σ 178 (iI v) = some (iI (bfC t (tms w) (nB t) v), σ) := by
  have hB := nB_c hO
  unfold f_X12_before
  have e := m_bf4 (N := N) hN hR hT hV hO hW hv (nB t) 0 N 0 (by omega) (by omega)
  rw [Int.zero_add] at e
  exact e
theorem m_si12 (hN : 2000 ≤ N) (hR : RO R s) (hT : TV t σ) (hV : WV w σ) (hO : TOk t) (hW : WOk t w) {K : SI → Nat → Int32 → Int32 → Option (Int32 × SI)} {b x i : Nat} (hb : (b : Int) < t 2) (hx : x < 18) (hi : tmd (tms w) i = true) (hbi : bfC t (tms w) (nB t) (km t (tms w) i) = x) (hu : ∀ j, j < 3 * nB t → tmd (tms w) j = true → bfC t (tms w) (nB t) (km t (tms w) j) = x → j = i) : ∀ (m k n : Nat), k + m = 3 → m < n → f_X12_siren_12 N R K n σ 178 (nI x) (nI b) (nI k) = if 3 * b + k ≤ i ∧ i < 3 * b + 3 then some (iI (km t (tms w) i), σ) else K σ 178 (nI x) (nI (b + 1)) := by
  have hB := nB_c hO
  intro m
  induction m with
  | zero =>
    intro k n hk hm
    obtain ⟨n, rfl⟩ : ∃ q, n = q + 1 := ⟨n - 1, by omega⟩
    rw [f_X12_siren_12, if_pos (by rw [show k = 3 by omega]; decide), nI_1, if_neg (by omega)]
  | succ m ih =>
    intro k n hk hm
    obtain ⟨n, rfl⟩ : ∃ q, n = q + 1 := ⟨n - 1, by omega⟩
    have hw := (hW b hb).1
    have ht := tmd_3 (tms w) b k (by omega)
    rw [f_X12_siren_12, if_neg (by rw [show (3 : Int32) = nI 3 from rfl, nI_leI (by omega) (by omega)]; omega), m_time hR hV (by omega), bd_some]
    dsimp only [f_X12_siren_47]
    rw [nI_1]
    by_cases c : w (14 * b) = -1
    · have hne : 3 * b + k ≠ i := fun e => by
        rw [e, hi] at ht
        exact of_decide_eq_true ht.symm c
      rw [if_pos (by rw [c]; rfl), ih (k + 1) n (by omega) (by omega)]
      by_cases d : 3 * b + (k + 1) ≤ i ∧ i < 3 * b + 3
      · rw [if_pos d, if_pos (by omega)]
      · rw [if_neg d, if_neg (by omega)]
    · have hr := km_r hO (tm := tms w) (i := 3 * b + k) (by omega) (by rw [show (3 * b + k) / 3 = b by omega]; exact tms_r hW hb c)
      have hbr := cnt_r (fun j => tmd (tms w) j && decide (km t (tms w) j < km t (tms w) (3 * b + k))) (3 * nB t) 0
      have hbr : 0 ≤ bfC t (tms w) (nB t) (km t (tms w) (3 * b + k)) ∧ bfC t (tms w) (nB t) (km t (tms w) (3 * b + k)) ≤ ((3 * nB t : Nat) : Int) := hbr
      rw [if_neg (by rw [show (-1 : Int32) = iI (-1) from rfl, iI_eq (by omega)]; exact c), m_sirenOf hR hT hV hO hb (by omega), bd_some, m_before hN hR hT hV hO hW hr, bd_some]
      by_cases d : 3 * b + k = i
      · rw [d, hbi, if_pos (iI_nat x).symm, m_sirenOf hR hT hV hO hb (by omega), bd_some, if_pos (by omega), d]
      · have hne : bfC t (tms w) (nB t) (km t (tms w) (3 * b + k)) ≠ x := fun e => d (hu _ (by omega) (ht.trans (decide_eq_true c)) e)
        rw [if_neg (by rw [iI_nat, iI_eq (by omega)]; exact hne), ih (k + 1) n (by omega) (by omega)]
        by_cases d : 3 * b + (k + 1) ≤ i ∧ i < 3 * b + 3
        · rw [if_pos d, if_pos (by omega)]
        · rw [if_neg d, if_neg (by omega)]
theorem m_si2 (hN : 2000 ≤ N) (hR : RO R s) (hT : TV t σ) (hV : WV w σ) (hO : TOk t) (hW : WOk t w) {x i : Nat} (hx : x < 18) (hil : i < 3 * nB t) (hi : tmd (tms w) i = true) (hbi : bfC t (tms w) (nB t) (km t (tms w) i) = x) (hu : ∀ j, j < 3 * nB t → tmd (tms w) j = true → bfC t (tms w) (nB t) (km t (tms w) j) = x → j = i) : ∀ (m k n : Nat), k + m = nB t → m < n → 3 * k ≤ i → f_X12_siren_2 N R n σ 178 (nI x) (nI k) = some (iI (km t (tms w) i), σ) := by
  have hB := nB_c hO
  intro m
  induction m with
  | zero =>
    intro k n hk hm hki
    omega
  | succ m ih =>
    intro k n hk hm hki
    obtain ⟨n, rfl⟩ : ∃ q, n = q + 1 := ⟨n - 1, by omega⟩
    rw [f_X12_siren_2, m_blasts hR hT, bd_some, if_neg (fun q => absurd ((iI_leN (by omega)).mp q) (by omega)), l_0, m_si12 hN hR hT hV hO hW (by omega) hx hi hbi hu 3 0 N (by omega) (by omega)]
    by_cases c : i < 3 * k + 3
    · rw [if_pos (by omega)]
    · rw [if_neg (by omega)]
      exact ih (k + 1) n (by omega) (by omega) (by omega)
theorem m_noSiren (hN : 2000 ≤ N) (hR : RO R s) (hT : TV t σ) (hV : WV w σ) (hO : TOk t) (hW : WOk t w) {T : Nat} (hTT : (T : Int) = 3 * nT (tms w) (nB t)) (x : Int32) : f_X12_noSiren N R σ 178 x = if 0 ≤ x.toInt ∧ x.toInt < T then some (0, σ) else some (1, up σ 178 0 1) := by
  have hB := nB_c hO
  have hr := cnt_r (fun b => decide (tms w b ≠ -1)) (nB t) 0
  have hr : 0 ≤ nT (tms w) (nB t) ∧ nT (tms w) (nB t) ≤ (nB t : Int) := hr
  unfold f_X12_noSiren
  rw [m_timed hN hR hT hV hO hW, bd_some, show (3 : Int32) = iI 3 from rfl, iI_mul, m_in, bd_some, iI_sub1 _ (by omega), show (0 : Int32).toInt = 0 from rfl]
  by_cases c : 0 ≤ x.toInt ∧ x.toInt < T
  · rw [if_pos c, decide_eq_true (by omega), bI_t, if_neg (by decide), m_throws0, bd_some, cb_0]
  · rw [if_neg c, decide_eq_false (by omega), bI_f, if_pos rfl, m_throws1, bd_some, cb_1]
end SIR
