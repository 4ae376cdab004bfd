/-! ===== the drawn quarry as a table ===== -/
def wl : List WDt → Option (Nat × Nat) → Nat → Option (Nat × Nat)
  | [], x, _ => x
  | w :: ws, x, h => wl ws (if w.1 = h then some w.2 else x) h
def en1 : Option (Nat × Nat) → Int32
  | none => -1
  | some p => nI p.1
def en2 : Option (Nat × Nat) → Int32
  | none => 0
  | some p => nI p.2
theorem wF_wl : ∀ (ws : List WDt) (x : Option (Nat × Nat)) (h : Nat), wF ws (en1 x) h = en1 (wl ws x h)
  | [], x, h => rfl
  | w :: ws, x, h => by
    show wF ws (if w.1 = h then nI w.2.1 else en1 x) h = en1 (wl ws (if w.1 = h then some w.2 else x) h)
    rw [← wF_wl ws]
    by_cases e : w.1 = h
    · rw [if_pos e, if_pos e]; rfl
    · rw [if_neg e, if_neg e]
theorem sF_wl : ∀ (ws : List WDt) (x : Option (Nat × Nat)) (h : Nat), sF ws (en2 x) h = en2 (wl ws x h)
  | [], x, h => rfl
  | w :: ws, x, h => by
    show sF ws (if w.1 = h then nI w.2.2 else en2 x) h = en2 (wl ws (if w.1 = h then some w.2 else x) h)
    rw [← sF_wl ws]
    by_cases e : w.1 = h
    · rw [if_pos e, if_pos e]; rfl
    · rw [if_neg e, if_neg e]
theorem wl_ok : ∀ (ws : List WDt) (x : Option (Nat × Nat)) (h : Nat), (∀ w ∈ ws, WdOk w) → (∀ p, x = some p → p.1 < 8 ∧ p.2 < 12) → ∀ p, wl ws x h = some p → p.1 < 8 ∧ p.2 < 12
  | [], x, h, _, hx, p, hp => hx p hp
  | w :: ws, x, h, hw, hx, p, hp => by
    refine wl_ok ws (if w.1 = h then some w.2 else x) h (fun v hv => hw v (List.mem_cons_of_mem _ hv)) (fun q hq => ?_) p hp
    by_cases e : w.1 = h
    · rw [if_pos e] at hq
      cases hq
      exact (hw w List.mem_cons_self).2.2
    · rw [if_neg e] at hq
      exact hx q hq
def tWd (p : Option (Nat × Nat)) (q : Nat) : Nat := match p with
  | none => 0
  | some p => if q = 0 then 1 else if q = 1 then p.1 else p.2
def tN (d : NDt) (q : Nat) : Nat := if q = 6 then d.1 else if q = 7 then d.2.1 else if q = 8 then d.2.2.1 else if q = 9 then (if d.2.2.2 = none then 0 else 1) else if q = 10 then (d.2.2.2.getD (0, 0)).1 else if q = 11 then (d.2.2.2.getD (0, 0)).2 else 0
def tR (d : RDt) (q : Nat) : Nat := if q = 6 then d.1 else if q = 7 then d.2.1 else if q = 8 then d.2.2.1 else if q = 9 then d.2.2.2 else 0
def tB (b : Nat) (d : BDt) (q : Nat) : Nat := if q = 0 then 98 + b else if q < 6 then 0 else if q = 6 then d.1 else if q = 7 then d.2.1 else if q = 8 then d.2.2.1 else if q = 9 then d.2.2.2.length else (d.2.2.2.getD (q - 10) (0, 0)).1
/-- the table of a drawn quarry -/
def tQ (sd : SDt) (ws : List WDt) (ns : List NDt) (rs : List RDt) (bs : List BDt) : Nat → Int := fun k =>
  ((if k < 9 then ([ns.length, rs.length, bs.length, sd.1, sd.2.1, sd.2.2.1, sd.2.2.2.1, sd.2.2.2.2.1, sd.2.2.2.2.2] : List Nat).getD k 0
  else if k < 81 then tWd (wl ws none ((k - 9) / 3)) ((k - 9) % 3)
  else if k < 225 then tN (ns.getD ((k - 81) / 18) (0, 0, 0, none)) ((k - 81) % 18)
  else if k < 285 then tR (rs.getD ((k - 225) / 10) (0, 0, 0, 0)) ((k - 225) % 10)
  else if k < 417 then tB ((k - 285) / 22) (bs.getD ((k - 285) / 22) (0, 0, 0, [])) ((k - 285) % 22) else 0 : Nat) : Int)
def wQ (bs : List BDt) : Nat → Int := fun k => if k % 14 = 0 then -1 else if k % 14 = 1 then 0 else (((bs.getD (k / 14) (0, 0, 0, [])).2.2.2.getD (k % 14 - 2) (0, 0)).2 : Int)
section VTB
variable {sd : SDt} {ws : List WDt} {ns : List NDt} {rs : List RDt} {bs : List BDt}
theorem tQ_w (h q : Nat) (hh : h < 24) (hq : q < 3) : tQ sd ws ns rs bs (9 + 3 * h + q) = (tWd (wl ws none h) q : Int) := by
  unfold tQ
  rw [if_neg (by omega), if_pos (by omega), show (9 + 3 * h + q - 9) / 3 = h by omega, show (9 + 3 * h + q - 9) % 3 = q by omega]
theorem tQ_n (n q : Nat) (hn : n < 8) (hq : q < 18) : tQ sd ws ns rs bs (81 + 18 * n + q) = (tN (ns.getD n (0, 0, 0, none)) q : Int) := by
  unfold tQ
  rw [if_neg (by omega), if_neg (by omega), if_pos (by omega), show (81 + 18 * n + q - 81) / 18 = n by omega, show (81 + 18 * n + q - 81) % 18 = q by omega]
theorem tQ_r (r q : Nat) (hr : r < 6) (hq : q < 10) : tQ sd ws ns rs bs (225 + 10 * r + q) = (tR (rs.getD r (0, 0, 0, 0)) q : Int) := by
  unfold tQ
  rw [if_neg (by omega), if_neg (by omega), if_neg (by omega), if_pos (by omega), show (225 + 10 * r + q - 225) / 10 = r by omega, show (225 + 10 * r + q - 225) % 10 = q by omega]
theorem tQ_b (b q : Nat) (hb : b < 6) (hq : q < 22) : tQ sd ws ns rs bs (285 + 22 * b + q) = (tB b (bs.getD b (0, 0, 0, [])) q : Int) := by
  unfold tQ
  rw [if_neg (by omega), if_neg (by omega), if_neg (by omega), if_neg (by omega), if_pos (by omega), show (285 + 22 * b + q - 285) / 22 = b by omega, show (285 + 22 * b + q - 285) % 22 = q by omega]
theorem wQ_0 (b : Nat) : wQ bs (14 * b) = -1 := if_pos (by omega)
theorem wQ_1 (b : Nat) : wQ bs (14 * b + 1) = 0 := by
  unfold wQ
  rw [if_neg (by omega), if_pos (by omega)]
theorem wQ_c (b c : Nat) (hc : c < 12) : wQ bs (14 * b + 2 + c) = (((bs.getD b (0, 0, 0, [])).2.2.2.getD c (0, 0)).2 : Int) := by
  unfold wQ
  rw [if_neg (by omega), if_neg (by omega), show (14 * b + 2 + c) / 14 = b by omega, show (14 * b + 2 + c) % 14 - 2 = c by omega]
theorem getD_mem {α : Type} {l : List α} {j : Nat} {x : α} (h : j < l.length) : l.getD j x ∈ l := by
  rw [List.getD_eq_getElem?_getD, List.getElem?_eq_getElem h]
  exact List.getElem_mem h
theorem tN_v (d : NDt) : tN d 6 = d.1 ∧ tN d 7 = d.2.1 ∧ tN d 8 = d.2.2.1 ∧ tN d 9 = (if d.2.2.2 = none then 0 else 1) ∧ tN d 10 = (d.2.2.2.getD (0, 0)).1 ∧ tN d 11 = (d.2.2.2.getD (0, 0)).2 := ⟨rfl, rfl, rfl, rfl, rfl, rfl⟩
/-- what is known of the drawn lists -/
def QOk (sd : SDt) (ws : List WDt) (ns : List NDt) (rs : List RDt) (bs : List BDt) : Prop := SdOk sd ∧ (ws.length ≤ 2 ∧ ∀ w ∈ ws, WdOk w) ∧ (ns.length ≤ 2 ∧ ∀ d ∈ ns, NdOk d) ∧ (rs.length ≤ 2 ∧ ∀ d ∈ rs, RdOk d) ∧ (1 ≤ bs.length ∧ bs.length ≤ 3) ∧ ∀ d ∈ bs, BdOk d
set_option maxHeartbeats 4000000 in
theorem tQ_ok (h : QOk sd ws ns rs bs) : TOk (tQ sd ws ns rs bs) := by
  obtain ⟨⟨d1, d2, d3, d4, d5, d6, d7, d8, d9⟩, ⟨w1, w2⟩, ⟨n1, n2⟩, ⟨r1, r2⟩, ⟨b0, b1⟩, b2⟩ := h
  have t0 : tQ sd ws ns rs bs 0 = (ns.length : Int) := rfl
  have t1 : tQ sd ws ns rs bs 1 = (rs.length : Int) := rfl
  have t2 : tQ sd ws ns rs bs 2 = (bs.length : Int) := rfl
  have t3 : tQ sd ws ns rs bs 3 = (sd.1 : Int) := rfl
  have t4 : tQ sd ws ns rs bs 4 = (sd.2.1 : Int) := rfl
  have t5 : tQ sd ws ns rs bs 5 = (sd.2.2.1 : Int) := rfl
  have t6 : tQ sd ws ns rs bs 6 = (sd.2.2.2.1 : Int) := rfl
  have t7 : tQ sd ws ns rs bs 7 = (sd.2.2.2.2.1 : Int) := rfl
  have t8 : tQ sd ws ns rs bs 8 = (sd.2.2.2.2.2 : Int) := rfl
  refine ⟨by omega, by omega, by omega, by omega, by omega, by omega, by omega, by omega, fun h hh => ?_, fun n hn => ?_, fun r hr j hj => ?_, fun b hb => ?_⟩
  · have e0 := tQ_w (sd := sd) (ws := ws) (ns := ns) (rs := rs) (bs := bs) h 0 hh (by decide)
    rw [Nat.add_zero] at e0
    rw [e0, tQ_w h 1 hh (by decide), tQ_w h 2 hh (by decide)]
    cases hw : wl ws none h with
    | none => exact ⟨Or.inl rfl, ⟨Int.le_refl 0, by decide⟩, Int.le_refl 0, by decide⟩
    | some p =>
      have := wl_ok ws none h w2 (fun p hp => by cases hp) p hw
      refine ⟨Or.inr rfl, ?_, ?_⟩
      · show (0 : Int) ≤ (p.1 : Int) ∧ (p.1 : Int) ≤ 7
        omega
      · show (0 : Int) ≤ (p.2 : Int) ∧ (p.2 : Int) ≤ 20
        omega
  · have hn' : n < ns.length := by omega
    obtain ⟨q1, q2, q3, q4⟩ := n2 _ (getD_mem (x := (0, 0, 0, none)) hn')
    rw [tQ_n n 6 (by omega) (by decide), tQ_n n 7 (by omega) (by decide), tQ_n n 8 (by omega) (by decide), tQ_n n 9 (by omega) (by decide)]
    generalize hd : ns.getD n (0, 0, 0, none) = d at q1 q2 q3 q4
    have v := tN_v d
    rw [v.1, v.2.1, v.2.2.1, v.2.2.2.1]
    refine ⟨by omega, by omega, by omega, ⟨by split <;> omega, by split <;> omega⟩, fun k hk => ?_⟩
    cases ho : d.2.2.2 with
    | none =>
      rw [ho, if_pos rfl] at hk
      omega
    | some q =>
      rw [ho, if_neg (by simp)] at hk
      obtain rfl : k = 0 := by omega
      obtain ⟨y1, y2, y3, y4⟩ := q4 q (by rw [ho]; exact Option.mem_some_self q)
      have e10 := tQ_n (sd := sd) (ws := ws) (ns := ns) (rs := rs) (bs := bs) n 10 (by omega) (by decide)
      have e11 := tQ_n (sd := sd) (ws := ws) (ns := ns) (rs := rs) (bs := bs) n 11 (by omega) (by decide)
      rw [hd, v.2.2.2.2.1, ho] at e10
      rw [hd, v.2.2.2.2.2, ho] at e11
      rw [show 81 + 18 * n + 10 + 2 * 0 = 81 + 18 * n + 10 by omega, show 81 + 18 * n + 11 + 2 * 0 = 81 + 18 * n + 11 by omega, e10, e11]
      show (0 : Int) ≤ (q.1 : Int) ∧ (q.1 : Int) < (q.2 : Int) ∧ (q.2 : Int) ≤ 1440
      omega
  · have hr' : r < rs.length := by omega
    obtain ⟨q1, q2, q3, q4⟩ := r2 _ (getD_mem (x := (0, 0, 0, 0)) hr')
    rw [show 225 + 10 * r + 6 + j = 225 + 10 * r + (6 + j) by omega, tQ_r r (6 + j) (by omega) (by omega)]
    match j, hj with
    | 0, _ =>
      show (0 : Int) ≤ ((rs.getD r (0, 0, 0, 0)).1 : Int) ∧ ((rs.getD r (0, 0, 0, 0)).1 : Int) ≤ 999
      omega
    | 1, _ =>
      show (0 : Int) ≤ ((rs.getD r (0, 0, 0, 0)).2.1 : Int) ∧ ((rs.getD r (0, 0, 0, 0)).2.1 : Int) ≤ 999
      omega
    | 2, _ =>
      show (0 : Int) ≤ ((rs.getD r (0, 0, 0, 0)).2.2.1 : Int) ∧ ((rs.getD r (0, 0, 0, 0)).2.2.1 : Int) ≤ 999
      omega
    | 3, _ =>
      show (0 : Int) ≤ ((rs.getD r (0, 0, 0, 0)).2.2.2 : Int) ∧ ((rs.getD r (0, 0, 0, 0)).2.2.2 : Int) ≤ 999
      omega
  · have hb' : b < bs.length := by omega
    obtain ⟨q1, q2, q3, q4, q5, q6, q7⟩ := b2 _ (getD_mem (x := (0, 0, 0, [])) hb')
    have v6 := tQ_b (sd := sd) (ws := ws) (ns := ns) (rs := rs) (bs := bs) b 6 (by omega) (by decide)
    have v7 := tQ_b (sd := sd) (ws := ws) (ns := ns) (rs := rs) (bs := bs) b 7 (by omega) (by decide)
    have v8 := tQ_b (sd := sd) (ws := ws) (ns := ns) (rs := rs) (bs := bs) b 8 (by omega) (by decide)
    have v9 := tQ_b (sd := sd) (ws := ws) (ns := ns) (rs := rs) (bs := bs) b 9 (by omega) (by decide)
    have e6 : tQ sd ws ns rs bs (285 + 22 * b + 6) = ((bs.getD b (0, 0, 0, [])).1 : Int) := v6
    have e7 : tQ sd ws ns rs bs (285 + 22 * b + 7) = ((bs.getD b (0, 0, 0, [])).2.1 : Int) := v7
    have e8 : tQ sd ws ns rs bs (285 + 22 * b + 8) = ((bs.getD b (0, 0, 0, [])).2.2.1 : Int) := v8
    have e9 : tQ sd ws ns rs bs (285 + 22 * b + 9) = ((bs.getD b (0, 0, 0, [])).2.2.2.length : Int) := v9
    rw [e6, e7, e8, e9]
    refine ⟨by omega, by omega, by omega, by omega, fun c hc => ?_, fun k hk => ?_⟩
    · have hc' : c < (bs.getD b (0, 0, 0, [])).2.2.2.length := by omega
      have y := q7 _ (getD_mem (x := (0, 0)) hc')
      have e := tQ_b (sd := sd) (ws := ws) (ns := ns) (rs := rs) (bs := bs) b (10 + c) (by omega) (by omega)
      have e2 : tB b (bs.getD b (0, 0, 0, [])) (10 + c) = ((bs.getD b (0, 0, 0, [])).2.2.2.getD c (0, 0)).1 := by
        unfold tB
        rw [if_neg (by omega), if_neg (by omega), if_neg (by omega), if_neg (by omega), if_neg (by omega), if_neg (by omega), show 10 + c - 10 = c by omega]
      rw [show 285 + 22 * b + 10 + c = 285 + 22 * b + (10 + c) by omega, e, e2]
      obtain ⟨y1, y2, y3⟩ := y
      omega
    · rw [tQ_b b k (by omega) (by omega)]
      unfold tB
      by_cases k0 : k = 0
      · rw [if_pos k0]
        omega
      · rw [if_neg k0, if_pos hk]
        exact Or.inl rfl
theorem wQ_ok (h : QOk sd ws ns rs bs) : WOk (tQ sd ws ns rs bs) (wQ bs) := by
  intro b hb
  obtain ⟨-, -, -, -, ⟨b0, b1⟩, b2⟩ := h
  have t2 : tQ sd ws ns rs bs 2 = (bs.length : Int) := rfl
  have hb' : b < bs.length := by omega
  obtain ⟨q1, q2, q3, q4, q5, q6, q7⟩ := b2 _ (getD_mem (x := (0, 0, 0, [])) hb')
  rw [wQ_0, wQ_1]
  refine ⟨by omega, Or.inl rfl, fun c hc => ?_⟩
  have e9 : tQ sd ws ns rs bs (285 + 22 * b + 9) = ((bs.getD b (0, 0, 0, [])).2.2.2.length : Int) := tQ_b b 9 (by omega) (by decide)
  have hc' : c < (bs.getD b (0, 0, 0, [])).2.2.2.length := by omega
  have y := q7 _ (getD_mem (x := (0, 0)) hc')
  rw [wQ_c b c (by omega)]
  obtain ⟨y1, y2, y3⟩ := y
  omega
end VTB
