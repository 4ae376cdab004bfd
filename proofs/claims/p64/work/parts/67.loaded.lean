/-! ===== the drafted site says the table; the planner loads it ===== -/
section VLD
variable {N s : Nat} {R : Nat → Nat → Nat} {σ : SI} {sd : SDt} {ws : List WDt} {ns : List NDt} {rs : List RDt} {bs : List BDt}
theorem pk_q (b : Nat) (hb : b < 3) : pk (tQ sd ws ns rs bs) b = nI (2 + b) := by
  have e : ∀ k, k < 6 → tQ sd ws ns rs bs (285 + 22 * b + k) = if k = 0 then ((98 + b : Nat) : Int) else 0 := by
    intro k hk
    rw [tQ_b b k (by omega) (by omega)]
    unfold tB
    by_cases k0 : k = 0
    · rw [if_pos k0, if_pos k0]
    · rw [if_neg k0, if_neg k0, if_pos hk]
      rfl
  unfold pk lp lp lp lp lp lp lp
  rw [e 0 (by decide), e 1 (by decide), e 2 (by decide), e 3 (by decide), e 4 (by decide), e 5 (by decide)]
  match b, hb with
  | 0, _ => decide
  | 1, _ => decide
  | 2, _ => decide
set_option maxHeartbeats 4000000 in
theorem site_cq (h : QOk sd ws ns rs bs) (S : Site σ sd ws ns rs bs) : Cq σ 108 (tQ sd ws ns rs bs) := by
  obtain ⟨⟨c1, c2, c3, c4, c5, c6, c7, c8, c9⟩, sw, sn', sr, sb, st⟩ := S
  have hok := tQ_ok h
  obtain ⟨-, ⟨w1, w2⟩, ⟨n1, n2⟩, ⟨r1, r2⟩, ⟨b0, b1⟩, b2⟩ := h
  have t0 : tQ sd ws ns rs bs 0 = (ns.length : Int) := rfl
  have t1 : tQ sd ws ns rs bs 1 = (rs.length : Int) := rfl
  have t2 : tQ sd ws ns rs bs 2 = (bs.length : Int) := rfl
  refine ⟨⟨c1.trans (iI_nat _), c2.trans (iI_nat _), c3.trans (iI_nat _), c4.trans (iI_nat _), c5.trans (iI_nat _), c6.trans (iI_nat _), c7.trans (iI_nat _), c8.trans (iI_nat _), c9.trans (iI_nat _)⟩, fun h hh => ?_, fun n hn => ?_, fun r hr j hj => ?_, fun b hb => ?_⟩
  · have e0 := tQ_w (sd := sd) (ws := ws) (ns := ns) (rs := rs) (bs := bs) h 0 hh (by decide)
    rw [Nat.add_zero] at e0
    rw [e0, tQ_w h 1 hh (by decide), tQ_w h 2 hh (by decide)]
    have g1 : σ 116 h = en1 (wl ws none h) := (sw h hh).1.trans (wF_wl ws none h)
    have g2 : σ 117 h = en2 (wl ws none h) := (sw h hh).2.trans (sF_wl ws none h)
    refine ⟨?_, fun hne => ?_⟩
    · show σ 116 h = _
      rw [g1]
      cases wl ws none h with
      | none => rfl
      | some p => exact iI_nat p.1
    · show σ 117 h = _
      rw [g2]
      cases hw : wl ws none h with
      | none => rw [hw] at hne; exact absurd rfl hne
      | some p => exact iI_nat p.2
  · have hn' : n < ns.length := by omega
    obtain ⟨g1, g2, g3, g4, g5, g6⟩ := sn' n hn'
    have v := tN_v (ns.getD n (0, 0, 0, none))
    rw [tQ_n n 6 (by omega) (by decide), tQ_n n 7 (by omega) (by decide), tQ_n n 8 (by omega) (by decide), tQ_n n 9 (by omega) (by decide), v.1, v.2.1, v.2.2.1, v.2.2.2.1]
    refine ⟨g2.trans (iI_nat _), g3.trans (iI_nat _), g4.trans (iI_nat _), g5.trans (iI_nat _), fun k hk => ?_⟩
    cases ho : (ns.getD n (0, 0, 0, none)).2.2.2 with
    | none =>
      rw [ho, if_pos rfl] at hk
      omega
    | some q =>
      rw [ho, if_neg (by simp)] at hk
      obtain rfl : k = 0 := by omega
      have y := g6 q ho
      have e10 := tQ_n (sd := sd) (ws := ws) (ns := ns) (rs := rs) (bs := bs) n 10 (by omega) (by decide)
      have e11 := tQ_n (sd := sd) (ws := ws) (ns := ns) (rs := rs) (bs := bs) n 11 (by omega) (by decide)
      rw [v.2.2.2.2.1, ho] at e10
      rw [v.2.2.2.2.2, ho] at e11
      rw [show 81 + 18 * n + 10 + 2 * 0 = 81 + 18 * n + 10 by omega, show 81 + 18 * n + 11 + 2 * 0 = 81 + 18 * n + 11 by omega, e10, e11]
      exact ⟨y.1.trans (iI_nat _), y.2.trans (iI_nat _)⟩
  · have hr' : r < rs.length := by omega
    obtain ⟨g1, g2, g3, g4, g5⟩ := sr r hr'
    rw [show 225 + 10 * r + 6 + j = 225 + 10 * r + (6 + j) by omega, tQ_r r (6 + j) (by omega) (by omega)]
    match j, hj with
    | 0, _ => exact g2.trans (iI_nat _)
    | 1, _ => exact g3.trans (iI_nat _)
    | 2, _ => exact g4.trans (iI_nat _)
    | 3, _ => exact g5.trans (iI_nat _)
  · have hb' : b < bs.length := by omega
    obtain ⟨g1, g2, g3, g4, g5, g6, g7⟩ := sb b hb'
    obtain ⟨q1, q2, q3, q4, q5, q6, q7⟩ := b2 _ (getD_mem (x := (0, 0, 0, [])) hb')
    have e6 : tQ sd ws ns rs bs (285 + 22 * b + 6) = ((bs.getD b (0, 0, 0, [])).1 : Int) := tQ_b b 6 (by omega) (by decide)
    have e7 : tQ sd ws ns rs bs (285 + 22 * b + 7) = ((bs.getD b (0, 0, 0, [])).2.1 : Int) := tQ_b b 7 (by omega) (by decide)
    have e8 : tQ sd ws ns rs bs (285 + 22 * b + 8) = ((bs.getD b (0, 0, 0, [])).2.2.1 : Int) := tQ_b b 8 (by omega) (by decide)
    have e9 : tQ sd ws ns rs bs (285 + 22 * b + 9) = ((bs.getD b (0, 0, 0, [])).2.2.2.length : Int) := tQ_b b 9 (by omega) (by decide)
    rw [e6, e7, e8, e9, pk_q b (by omega)]
    refine ⟨g2.trans (iI_nat _), g3.trans (iI_nat _), g4.trans (iI_nat _), g5.trans (iI_nat _), fun c hc => ?_, g1⟩
    have hc' : c < (bs.getD b (0, 0, 0, [])).2.2.2.length := by omega
    have e := tQ_b (sd := sd) (ws := ws) (ns := ns) (rs := rs) (bs := bs) b (10 + c) (by omega) (by omega)
    have e2 : tB b (bs.getD b (0, 0, 0, [])) (10 + c) = ((bs.getD b (0, 0, 0, [])).2.2.2.getD c (0, 0)).1 := by
      unfold tB
      rw [if_neg (by omega), if_neg (by omega), if_neg (by omega), if_neg (by omega), if_neg (by omega), if_neg (by omega), show 10 + c - 10 = c by omega]
    rw [show 285 + 22 * b + 10 + c = 285 + 22 * b + (10 + c) by omega, e, e2]
    exact (g7 c hc').1.trans (iI_nat _)
theorem site_cs (h : QOk sd ws ns rs bs) (S : Site σ sd ws ns rs bs) : Cs σ 108 (tQ sd ws ns rs bs) (wQ bs) := by
  obtain ⟨-, sw, sn', sr, sb, st⟩ := S
  obtain ⟨-, -, -, -, ⟨b0, b1⟩, b2⟩ := h
  intro b hb
  have t2 : tQ sd ws ns rs bs 2 = (bs.length : Int) := rfl
  have hb' : b < bs.length := by omega
  obtain ⟨g1, g2, g3, g4, g5, g6, g7⟩ := sb b hb'
  obtain ⟨q1, q2, q3, q4, q5, q6, q7⟩ := b2 _ (getD_mem (x := (0, 0, 0, [])) hb')
  have e9 : tQ sd ws ns rs bs (285 + 22 * b + 9) = ((bs.getD b (0, 0, 0, [])).2.2.2.length : Int) := tQ_b b 9 (by omega) (by decide)
  rw [wQ_0, wQ_1]
  refine ⟨st b (by omega), g6, fun c hc => ?_⟩
  have hc' : c < (bs.getD b (0, 0, 0, [])).2.2.2.length := by omega
  rw [wQ_c b c (by omega)]
  exact (g7 c hc').2.trans (iI_nat _)
set_option maxHeartbeats 4000000 in
/-- the planner's load on the drawn text -/
theorem c_load (hN : 2000 ≤ N) (hR : RO R 38) {tx : List Nat} (h : QOk sd ws ns rs bs) (htx : tx = prS sd ++ (prWs ws ++ (prNs 0 ns ++ (prRs 0 rs ++ prBs 0 bs)))) (hlen : tx.length ≤ 400) (h31 : σ 3 1 = nI tx.length) (h40 : ∀ j, j < tx.length → σ 4 j = nI (tx.getD j 0)) : ∃ σ', f_X11_load N R σ 1 = some ((.inl (nI bs.length), σ'), swR R 1) ∧ Iv σ' (swR R 1) 108 (tQ sd ws ns rs bs) (wQ bs) ∧ σ' 3 4 = 0 ∧ ∀ o j, 177 < o → σ' o j = σ o j := by
  obtain ⟨s1, e1, k4, S1, f1⟩ := c_parse (N := N) hN hR h.1 h.2.1 h.2.2.1 h.2.2.2.1 ⟨h.2.2.2.2.1.2, h.2.2.2.2.2⟩ htx hlen h31 h40
  have hRs : RO (swR R 1) 108 := by
    have := hR.swap (R1 := swR R 1) (by unfold swR; rw [if_neg (by omega), if_pos ⟨rfl, rfl⟩]) (by unfold swR; rw [if_pos ⟨rfl, rfl⟩]) (fun o k q => by unfold swR; rw [if_neg (by omega), if_neg (by omega)])
    exact this
  obtain ⟨s2, u2⟩ : ∃ x, x = up s1 3 1 0 := ⟨_, rfl⟩
  have f2 : ∀ o j, o ≠ 3 ∨ j ≠ 1 → s2 o j = s1 o j := fun o j h => by rw [u2]; exact if_neg (by omega)
  have S2' : Site s2 sd ws ns rs bs := by
    obtain ⟨⟨c1, c2, c3, c4, c5, c6, c7, c8, c9⟩, sw, sn', sr, sb, st⟩ := S1
    have q : ∀ o j, 108 ≤ o → s2 o j = s1 o j := fun o j ho => f2 o j (by omega)
    exact ⟨⟨(q _ _ (by decide)).trans c1, (q _ _ (by decide)).trans c2, (q _ _ (by decide)).trans c3, (q _ _ (by decide)).trans c4, (q _ _ (by decide)).trans c5, (q _ _ (by decide)).trans c6, (q _ _ (by decide)).trans c7, (q _ _ (by decide)).trans c8, (q _ _ (by decide)).trans c9⟩,
      fun h hh => ⟨(q _ _ (by decide)).trans (sw h hh).1, (q _ _ (by decide)).trans (sw h hh).2⟩,
      fun j hj => ⟨(q _ _ (by omega)).trans (sn' j hj).1, (q _ _ (by omega)).trans (sn' j hj).2.1, (q _ _ (by omega)).trans (sn' j hj).2.2.1, (q _ _ (by omega)).trans (sn' j hj).2.2.2.1, (q _ _ (by omega)).trans (sn' j hj).2.2.2.2.1, fun x hx => ⟨(q _ _ (by omega)).trans ((sn' j hj).2.2.2.2.2 x hx).1, (q _ _ (by omega)).trans ((sn' j hj).2.2.2.2.2 x hx).2⟩⟩,
      fun j hj => ⟨(q _ _ (by omega)).trans (sr j hj).1, (q _ _ (by omega)).trans (sr j hj).2.1, (q _ _ (by omega)).trans (sr j hj).2.2.1, (q _ _ (by omega)).trans (sr j hj).2.2.2.1, (q _ _ (by omega)).trans (sr j hj).2.2.2.2⟩,
      fun j hj => ⟨(q _ _ (by omega)).trans (sb j hj).1, (q _ _ (by omega)).trans (sb j hj).2.1, (q _ _ (by omega)).trans (sb j hj).2.2.1, (q _ _ (by omega)).trans (sb j hj).2.2.2.1, (q _ _ (by omega)).trans (sb j hj).2.2.2.2.1, (q _ _ (by omega)).trans (sb j hj).2.2.2.2.2.1, fun c hc => ⟨(q _ _ (by omega)).trans ((sb j hj).2.2.2.2.2.2 c hc).1, (q _ _ (by omega)).trans ((sb j hj).2.2.2.2.2.2 c hc).2⟩⟩,
      fun b hb => (q _ _ (by decide)).trans (st b hb)⟩
  have hT := tQ_ok h
  have hW := wQ_ok h
  obtain ⟨s3, e3, q3, c3, d3, w3, f3⟩ := c_survey hN hRs hT hW (site_cq h S2') (site_cs h S2')
  obtain ⟨s4, u4⟩ : ∃ x, x = up s3 5 2 0 := ⟨_, rfl⟩
  have f4 : ∀ o j, o ≠ 5 → s4 o j = s3 o j := fun o j h => by rw [u4]; exact if_neg (by omega)
  obtain ⟨s5, u5⟩ : ∃ x, x = up s4 23 5 0 := ⟨_, rfl⟩
  have f5 : ∀ o j, o ≠ 23 → s5 o j = s4 o j := fun o j h => by rw [u5]; exact if_neg (by omega)
  have q : ∀ o k, 108 ≤ o → o < 108 + 70 → s5 o k = s3 o k := fun o k h1 h2 => by rw [f5 o k (by omega), f4 o k (by omega)]
  have r8 : swR R 1 1 8 = 108 := hRs.site
  refine ⟨s5, ?_, ⟨hRs, trivial, trivial, hT, hW, q3.st hT q, c3.st hT q, d3.st hT q, w3.st hT q, trivial, trivial, trivial, trivial⟩, ?_, fun o j ho => ?_⟩
  · unfold f_X11_load
    rw [hR.r1_0, hR.r2_0, hR.draft, e1, bd_some, sq_eq, ← u2, if_neg (by decide), r8, e3, bd_some, hRs.r1_1, hRs.r1_2]
    unfold f_X2_clear f_X6_forget
    rw [sq_eq, bd_some, ← u4, sq_eq, bd_some, ← u5, q 108 11 (by decide) (by decide), q3.1.2.2.1]
    rfl
  · rw [f5 3 4 (by decide), f4 3 4 (by decide), f3 3 4 (by omega), f2 3 4 (by omega), k4]
  · rw [f5 o j (by omega), f4 o j (by omega), f3 o j (by omega), f2 o j (by omega), f1 o j (by omega) (by omega)]
end VLD
