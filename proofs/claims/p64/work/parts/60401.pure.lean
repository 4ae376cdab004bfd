/-! ===== what holds between two calls ===== -/
/-- a loop from place k over m places -/
def lp {α : Type} (f : Nat → α → α) : Nat → Nat → α → α
  | _, 0, a => a
  | k, m + 1, a => lp f (k + 1) m (f k a)
theorem lp_0 {α : Type} (f : Nat → α → α) (k : Nat) (a : α) : lp f k 0 a = a := rfl
theorem lp_s {α : Type} (f : Nat → α → α) (k m : Nat) (a : α) : lp f k (m + 1) a = lp f (k + 1) m (f k a) := rfl
def mx (a b : Int) : Int := if a < b then b else a
def nN (t : Nat → Int) : Nat := (t 0).toNat
def nR (t : Nat → Int) : Nat := (t 1).toNat
def nB (t : Nat → Int) : Nat := (t 2).toNat
def nC (t : Nat → Int) (b : Nat) : Nat := (t (285 + 22 * b + 9)).toNat
def sz (t : Nat → Int) (b c : Nat) : Int := t (285 + 22 * b + 10 + c)
def dl (w : Nat → Int) (b c : Nat) : Int := w (14 * b + 2 + c)
def fromD (t w : Nat → Int) (b : Nat) (d : Int) : Int := lp (fun c a => a + (if d ≤ dl w b c ∧ dl w b c ≤ d + 7 then sz t b c else 0)) 0 (nC t b) 0
def win (t w : Nat → Int) (b : Nat) : Int := lp (fun c a => mx a (fromD t w b (dl w b c))) 0 (nC t b) 0
def wst (t w : Nat → Int) (b : Nat) : Int := lp (fun c a => if fromD t w b (dl w b c) = win t w b ∧ (a = -1 ∨ dl w b c < a) then dl w b c else a) 0 (nC t b) (-1)
def dist (t : Nat → Int) (b n : Nat) : Int := (t (81 + 18 * n + 6) - t (285 + 22 * b + 6)) * (t (81 + 18 * n + 6) - t (285 + 22 * b + 6)) + (t (81 + 18 * n + 7) - t (285 + 22 * b + 7)) * (t (81 + 18 * n + 7) - t (285 + 22 * b + 7))
def shk (t w : Nat → Int) (b n : Nat) : Int := 1000 * win t w b / (dist t b n + 1)
def tst (t w : Nat → Int) (b n : Nat) : Bool := decide (t (81 + 18 * n + 8) < shk t w b n)
def bts (p : Nat → Bool) : Nat → Nat → Int32 → Int32 := lp (fun i a => if p i then a ||| ((1 : Int32) <<< (nI i &&& 31)) else a)
def nearX (px py ex ey rad : Int) : Bool := if px * ex + py * ey ≤ 0 then decide (px * px + py * py ≤ rad * rad) else if ex * ex + ey * ey ≤ px * ex + py * ey then decide ((px - ex) * (px - ex) + (py - ey) * (py - ey) ≤ rad * rad) else decide ((px * ey - py * ex) * (px * ey - py * ex) ≤ rad * rad * (ex * ex + ey * ey))
def near (t : Nat → Int) (b r : Nat) (rad : Int) : Bool := nearX (t (285 + 22 * b + 6) - t (225 + 10 * r + 6)) (t (285 + 22 * b + 7) - t (225 + 10 * r + 7)) (t (225 + 10 * r + 8) - t (225 + 10 * r + 6)) (t (225 + 10 * r + 9) - t (225 + 10 * r + 7)) rad
def shut (t : Nat → Int) (b r : Nat) : Bool := near t b r (t (285 + 22 * b + 8))
def heard (t : Nat → Int) (b n : Nat) : Bool := decide (dist t b n ≤ (3 * t (285 + 22 * b + 8)) * (3 * t (285 + 22 * b + 8)))
def wX (d : Int) : Int := if d = 0 ∨ d = 4 then 0 else if d < 4 then 1 else -1
def wY (d : Int) : Int := if d = 2 ∨ d = 6 then 0 else if 2 < d ∧ d < 6 then 1 else -1
def isD (t : Nat → Int) (b h n : Nat) : Bool :=
  let dx := t (81 + 18 * n + 6) - t (285 + 22 * b + 6)
  let dy := t (81 + 18 * n + 7) - t (285 + 22 * b + 7)
  let x := wX (t (9 + 3 * h + 1))
  let y := wY (t (9 + 3 * h + 1))
  decide (t (9 + 3 * h) ≠ 0 ∧ 0 < dx * x + dy * y ∧ (if dx * y - dy * x < 0 then -(dx * y - dy * x) else dx * y - dy * x) ≤ dx * x + dy * y ∧ dist t b n ≤ (50 * t (9 + 3 * h + 2)) * (50 * t (9 + 3 * h + 2)))
/-- a name as the class packs it -/
def pk (t : Nat → Int) (b : Nat) : Int32 := lp (fun k (a : Int32) => if t (285 + 22 * b + k) = 0 then a else a * 32 + iI (t (285 + 22 * b + k)) - 97 + 1) 0 6 0
/-- the day, its start minutes -/
def nS (t : Nat → Int) : Nat := ((t 4 - t 3) / t 5 + 1).toNat
def stA (t : Nat → Int) (k : Nat) : Int := t 3 + t 5 * k
def still (t : Nat → Int) (n : Nat) (m : Int) : Bool := lp (fun k a => a || decide (t (81 + 18 * n + 10 + 2 * k) ≤ m ∧ m < t (81 + 18 * n + 11 + 2 * k))) 0 (t (81 + 18 * n + 9)).toNat false
def anyN (p : Nat → Bool) : Nat → Nat → Bool
  | _, 0 => false
  | k, m + 1 => p k || anyN p (k + 1) m
def crowd (t : Nat → Int) (tm : Nat → Int) (b : Nat) (m : Int) : Bool := anyN (fun o => decide (o ≠ b ∧ tm o ≠ -1 ∧ (if tm o - m < 0 then -(tm o - m) else tm o - m) < t 8)) 0 (nB t)
/-- the reason against a minute, if the blasts have the times tm -/
def why (t w tm : Nat → Int) (b : Nat) (m : Int) : Int :=
  if m < t 3 ∨ t 4 < m then 1
  else if anyN (tst t w b) 0 (nN t) then 2
  else if anyN (fun n => still t n m && heard t b n) 0 (nN t) then 3
  else if anyN (isD t b (m / 60).toNat) 0 (nN t) then 4
  else if crowd t tm b m then 5 else 0
def tms (w : Nat → Int) (b : Nat) : Int := w (14 * b)
/-- a minute at which the road r is closed, with the times tm -/
def cF (t : Nat → Int) (x : Int) : Int := if x - t 6 < 0 then 0 else x - t 6
def cE (t : Nat → Int) (x : Int) : Int := if x + t 7 < 1440 then x + t 7 else 1440
def cov (t tm : Nat → Int) (r m : Nat) : Bool := anyN (fun b => decide (tm b ≠ -1 ∧ cF t (tm b) ≤ m ∧ (m : Int) < cE t (tm b)) && shut t b r) 0 (nB t)
def cnt (p : Nat → Bool) : Nat → Nat → Int
  | _, 0 => 0
  | k, m + 1 => (if p k then 1 else 0) + cnt p (k + 1) m
def clo (t tm : Nat → Int) (r : Nat) : Int := cnt (cov t tm r) 0 1440
def sumF (f : Nat → Int) : Nat → Nat → Int
  | _, 0 => 0
  | k, m + 1 => f k + sumF f (k + 1) m
def cloA (t tm : Nat → Int) : Int := sumF (clo t tm) 0 (nR t)
/-- the best plan: all times for the open blasts, one blast after the other -/
def seekS (t w : Nat → Int) : Nat → Nat → (Nat → Int) → Int × (Nat → Int) → Int × (Nat → Int)
  | 0, _, tr, a => if a.1 ≠ -1 ∧ a.1 ≤ cloA t tr then a else (cloA t tr, tr)
  | m + 1, b, tr, a =>
    if tms w b ≠ -1 then seekS t w m (b + 1) (fun q => if q = b then tms w b else tr q) a
    else lp (fun k a => if why t w (tms w) b (stA t k) = 0 ∧ anyN (fun o => decide (tms w o = -1 ∧ (if tr o - stA t k < 0 then -(tr o - stA t k) else tr o - stA t k) < t 8)) 0 b = false then seekS t w m (b + 1) (fun q => if q = b then stA t k else tr q) a else a) 0 (nS t) a
def plS (t w : Nat → Int) : Int × (Nat → Int) :=
  let a := seekS t w (nB t) 0 (fun _ => -1) (-1, fun _ => -1)
  (a.1, fun b => if tms w b ≠ -1 then tms w b else if a.1 = -1 then -1 else a.2 b)
/-! ranges -/
def TOk (t : Nat → Int) : Prop := (0 ≤ t 0 ∧ t 0 ≤ 8) ∧ (0 ≤ t 1 ∧ t 1 ≤ 6) ∧ (0 ≤ t 2 ∧ t 2 ≤ 6) ∧ (0 ≤ t 3 ∧ t 3 ≤ t 4 ∧ t 4 ≤ 1439) ∧ (1 ≤ t 5 ∧ t 5 ≤ 240) ∧ (0 ≤ t 6 ∧ t 6 ≤ 60) ∧ (0 ≤ t 7 ∧ t 7 ≤ 60) ∧ (0 ≤ t 8 ∧ t 8 ≤ 240) ∧
  (∀ h : Nat, h < 24 → (t (9 + 3 * h) = 0 ∨ t (9 + 3 * h) = 1) ∧ (0 ≤ t (9 + 3 * h + 1) ∧ t (9 + 3 * h + 1) ≤ 7) ∧ 0 ≤ t (9 + 3 * h + 2) ∧ t (9 + 3 * h + 2) ≤ 20) ∧
  (∀ n : Nat, (n : Int) < t 0 → (0 ≤ t (81 + 18 * n + 6) ∧ t (81 + 18 * n + 6) ≤ 999) ∧ (0 ≤ t (81 + 18 * n + 7) ∧ t (81 + 18 * n + 7) ≤ 999) ∧ (0 ≤ t (81 + 18 * n + 8) ∧ t (81 + 18 * n + 8) ≤ 99999) ∧ (0 ≤ t (81 + 18 * n + 9) ∧ t (81 + 18 * n + 9) ≤ 4) ∧ ∀ k : Nat, (k : Int) < t (81 + 18 * n + 9) → 0 ≤ t (81 + 18 * n + 10 + 2 * k) ∧ t (81 + 18 * n + 10 + 2 * k) < t (81 + 18 * n + 11 + 2 * k) ∧ t (81 + 18 * n + 11 + 2 * k) ≤ 1440) ∧
  (∀ r : Nat, (r : Int) < t 1 → ∀ j : Nat, j < 4 → 0 ≤ t (225 + 10 * r + 6 + j) ∧ t (225 + 10 * r + 6 + j) ≤ 999) ∧
  (∀ b : Nat, (b : Int) < t 2 → (0 ≤ t (285 + 22 * b + 6) ∧ t (285 + 22 * b + 6) ≤ 999) ∧ (0 ≤ t (285 + 22 * b + 7) ∧ t (285 + 22 * b + 7) ≤ 999) ∧ (1 ≤ t (285 + 22 * b + 8) ∧ t (285 + 22 * b + 8) ≤ 500) ∧ (1 ≤ t (285 + 22 * b + 9) ∧ t (285 + 22 * b + 9) ≤ 12) ∧ (∀ c : Nat, (c : Int) < t (285 + 22 * b + 9) → 1 ≤ t (285 + 22 * b + 10 + c) ∧ t (285 + 22 * b + 10 + c) ≤ 999) ∧
    ∀ k : Nat, k < 6 → t (285 + 22 * b + k) = 0 ∨ 97 ≤ t (285 + 22 * b + k) ∧ t (285 + 22 * b + k) ≤ 122)
def WOk (t w : Nat → Int) : Prop := ∀ b : Nat, (b : Int) < t 2 → (-1 ≤ w (14 * b) ∧ w (14 * b) ≤ 1439) ∧ (w (14 * b + 1) = 0 ∨ w (14 * b + 1) = 1) ∧ ∀ c : Nat, (c : Int) < t (285 + 22 * b + 9) → 0 ≤ w (14 * b + 2 + c) ∧ w (14 * b + 2 + c) ≤ 9999
/-! the model's rows, and the class's cells that agree with them -/
def TV (_ : Nat → Int) (_ : SI) : Prop := True
def WV (_ : Nat → Int) (_ : SI) : Prop := True
def Cq (σ : SI) (s : Nat) (t : Nat → Int) : Prop := (σ s 9 = iI (t 0) ∧ σ s 10 = iI (t 1) ∧ σ s 11 = iI (t 2) ∧ σ s 12 = iI (t 3) ∧ σ s 13 = iI (t 4) ∧ σ s 14 = iI (t 5) ∧ σ s 15 = iI (t 6) ∧ σ s 16 = iI (t 7) ∧ σ s 17 = iI (t 8)) ∧
  (∀ h : Nat, h < 24 → σ (s + 8) h = (if t (9 + 3 * h) = 0 then iI (-1) else iI (t (9 + 3 * h + 1))) ∧ (t (9 + 3 * h) ≠ 0 → σ (s + 9) h = iI (t (9 + 3 * h + 2)))) ∧
  (∀ n : Nat, (n : Int) < t 0 → σ (s + 10 + 3 * n) 2 = iI (t (81 + 18 * n + 6)) ∧ σ (s + 10 + 3 * n) 3 = iI (t (81 + 18 * n + 7)) ∧ σ (s + 10 + 3 * n) 4 = iI (t (81 + 18 * n + 8)) ∧ σ (s + 10 + 3 * n) 5 = iI (t (81 + 18 * n + 9)) ∧ ∀ k : Nat, (k : Int) < t (81 + 18 * n + 9) → σ (s + 11 + 3 * n) k = iI (t (81 + 18 * n + 10 + 2 * k)) ∧ σ (s + 12 + 3 * n) k = iI (t (81 + 18 * n + 11 + 2 * k))) ∧
  (∀ r : Nat, (r : Int) < t 1 → ∀ j : Nat, j < 4 → σ (s + 34 + r) j = iI (t (225 + 10 * r + 6 + j))) ∧
  ∀ b : Nat, (b : Int) < t 2 → σ (s + 40 + 5 * b) 4 = iI (t (285 + 22 * b + 6)) ∧ σ (s + 40 + 5 * b) 5 = iI (t (285 + 22 * b + 7)) ∧ σ (s + 40 + 5 * b) 6 = iI (t (285 + 22 * b + 8)) ∧ σ (s + 40 + 5 * b) 7 = iI (t (285 + 22 * b + 9)) ∧ (∀ c : Nat, (c : Int) < t (285 + 22 * b + 9) → σ (s + 41 + 5 * b) c = iI (t (285 + 22 * b + 10 + c))) ∧ σ (s + 6) b = pk t b
def Cs (σ : SI) (s : Nat) (t w : Nat → Int) : Prop := ∀ b : Nat, (b : Int) < t 2 → σ (s + 7) b = iI (w (14 * b)) ∧ σ (s + 40 + 5 * b) 13 = iI (w (14 * b + 1)) ∧ ∀ c : Nat, (c : Int) < t (285 + 22 * b + 9) → σ (s + 42 + 5 * b) c = iI (w (14 * b + 2 + c))
/-- what the class works out of the text -/
def Cd (σ : SI) (s : Nat) (t : Nat → Int) : Prop := ∀ b : Nat, (b : Int) < t 2 → σ (s + 40 + 5 * b) 11 = bts (shut t b) 0 (nR t) 0 ∧ σ (s + 40 + 5 * b) 12 = bts (heard t b) 0 (nN t) 0 ∧ (∀ n : Nat, (n : Int) < t 0 → σ (s + 43 + 5 * b) n = iI (dist t b n)) ∧ ∀ h : Nat, h < 24 → σ (s + 44 + 5 * b) h = bts (isD t b h) 0 (nN t) 0
/-- what it works out of the delays -/
def Cw (σ : SI) (s : Nat) (t w : Nat → Int) : Prop := ∀ b : Nat, (b : Int) < t 2 → σ (s + 40 + 5 * b) 8 = iI (win t w b) ∧ σ (s + 40 + 5 * b) 9 = iI (wst t w b) ∧ σ (s + 40 + 5 * b) 10 = bts (tst t w b) 0 (nN t) 0
def Ch (_ : SI) (_ : Nat → Int) : Prop := True
def Cp (_ : SI) (_ _ : Nat → Int) : Prop := True
def Ctk (_ : SI) : Prop := True
def Ctx (_ : SI) : Prop := True
def Iv (σ : SI) (R : Nat → Nat → Nat) (s : Nat) (t w : Nat → Int) : Prop := RO R s ∧ TV t σ ∧ WV w σ ∧ TOk t ∧ WOk t w ∧ Cq σ s t ∧ Cs σ s t w ∧ Cd σ s t ∧ Cw σ s t w ∧ Ch σ t ∧ Cp σ t w ∧ Ctk σ ∧ Ctx σ
/-- cells that a call may use as it likes -/
def Sc (o k : Nat) : Prop := (24 ≤ o ∧ o ≤ 25) ∨ (27 ≤ o ∧ o ≤ 28) ∨ (31 ≤ o ∧ o ≤ 37) ∨ (o = 23 ∧ k = 3) ∨ (o = 178 ∧ (k = 0 ∨ (4 ≤ k ∧ k ≤ 8) ∨ k = 24)) ∨ o = 180 ∨ o = 182 ∨ o = 184 ∨ (186 ≤ o ∧ o ≤ 192) ∨ (o = 3 ∧ k = 2)
def Same (σ σ' : SI) : Prop := ∀ o k, ¬ Sc o k → σ' o k = σ o k
theorem Same.rf (σ : SI) : Same σ σ := fun _ _ _ => rfl
theorem Same.tr {a b c : SI} (h1 : Same a b) (h2 : Same b c) : Same a c := fun o k h => (h2 o k h).trans (h1 o k h)
theorem same_up {σ : SI} {o k : Nat} {v : Int32} (h : Sc o k) : Same σ (up σ o k v) := fun a j hn => by
  unfold up
  rw [if_neg]
  rintro ⟨rfl, rfl⟩
  exact hn h
