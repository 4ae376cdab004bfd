/-! ===== the whole text is read ===== -/
/-- what the drafted site holds -/
def Site (σ : SI) (sd : SDt) (ws : List WDt) (ns : List NDt) (rs : List RDt) (bs : List BDt) : Prop :=
  (σ 108 9 = nI ns.length ∧ σ 108 10 = nI rs.length ∧ σ 108 11 = nI bs.length ∧ σ 108 12 = nI sd.1 ∧ σ 108 13 = nI sd.2.1 ∧ σ 108 14 = nI sd.2.2.1 ∧ σ 108 15 = nI sd.2.2.2.1 ∧ σ 108 16 = nI sd.2.2.2.2.1 ∧ σ 108 17 = nI sd.2.2.2.2.2) ∧
  (∀ h, h < 24 → σ 116 h = wF ws (-1) h ∧ σ 117 h = sF ws 0 h) ∧ (∀ j, j < ns.length → NC σ j (ns.getD j (0, 0, 0, none))) ∧ (∀ j, j < rs.length → RC σ j (rs.getD j (0, 0, 0, 0))) ∧ (∀ j, j < bs.length → BC σ j (bs.getD j (0, 0, 0, []))) ∧ ∀ b, b < 6 → σ 115 b = -1
section VPP
variable {N s : Nat} {R : Nat → Nat → Nat} {σ : SI} {tx : List Nat}
theorem rs_fr (hR : RO R s) (o j : Nat) (h : o ≠ 108 ∧ o ≠ 115 ∧ o ≠ 116 ∧ o ≠ 117) : FS_reset R σ 108 o j = σ o j := by
  unfold FS_reset
  rw [D_si hR 6 (by decide), D_si hR 7 (by decide), D_si hR 8 (by decide)]
  unfold wr up
  rw [if_neg (by omega), if_neg (by omega), if_neg (by omega), if_neg (by omega), if_neg (by omega), if_neg (by omega), if_neg (by omega), if_neg (by omega), if_neg (by omega), if_neg (by omega), if_neg (by omega), if_neg (by omega)]
theorem rs_cnt (hR : RO R s) : FS_reset R σ 108 108 9 = nI 0 ∧ FS_reset R σ 108 108 10 = nI 0 ∧ FS_reset R σ 108 108 11 = nI 0 := by
  unfold FS_reset
  rw [D_si hR 6 (by decide), D_si hR 7 (by decide), D_si hR 8 (by decide)]
  unfold wr up
  refine ⟨?_, ?_, ?_⟩ <;> simp <;> rfl
theorem rs_win (hR : RO R s) (h : Nat) (hh : h < 24) : FS_reset R σ 108 116 h = -1 ∧ FS_reset R σ 108 117 h = 0 := by
  unfold FS_reset
  rw [D_si hR 6 (by decide), D_si hR 7 (by decide), D_si hR 8 (by decide)]
  unfold wr up
  refine ⟨?_, ?_⟩
  · rw [if_neg (by omega), if_neg (by omega), if_pos (by omega)]
  · rw [if_neg (by omega), if_pos (by omega)]
theorem rs_tim (hR : RO R s) (b : Nat) (hb : b < 6) : FS_reset R σ 108 115 b = -1 := by
  unfold FS_reset
  rw [D_si hR 6 (by decide), D_si hR 7 (by decide), D_si hR 8 (by decide)]
  unfold wr up
  rw [if_pos (by omega)]
set_option maxHeartbeats 4000000 in
theorem c_parse (hN : 2000 ≤ N) (hR : RO R s) {sd : SDt} {ws : List WDt} {ns : List NDt} {rs : List RDt} {bs : List BDt} (h1 : SdOk sd) (h2 : ws.length ≤ 2 ∧ ∀ w ∈ ws, WdOk w) (h3 : ns.length ≤ 2 ∧ ∀ d ∈ ns, NdOk d) (h4 : rs.length ≤ 2 ∧ ∀ d ∈ rs, RdOk d) (h5 : bs.length ≤ 3 ∧ ∀ d ∈ bs, BdOk d) (htx : tx = prS sd ++ (prWs ws ++ (prNs 0 ns ++ (prRs 0 rs ++ prBs 0 bs)))) (hlen : tx.length ≤ 400) (h31 : σ 3 1 = nI tx.length) (h40 : ∀ j, j < tx.length → σ 4 j = nI (tx.getD j 0)) : ∃ σ', f_X5_parse N R σ 2 108 = some (1, σ') ∧ σ' 3 4 = 0 ∧ Site σ' sd ws ns rs bs ∧ ∀ o j, o ≠ 3 → o < 108 ∨ 177 < o → σ' o j = σ o j := by
  obtain ⟨d1, d2, d3, d4, d5, d6, d7, d8, d9⟩ := h1
  obtain ⟨a0, ea⟩ : ∃ x, x = up (up (up σ 3 2 0) 3 3 (-1)) 3 4 0 := ⟨_, rfl⟩
  have fa : ∀ o j, o ≠ 3 ∨ j = 1 → a0 o j = σ o j := fun o j h => by
    rw [ea]
    unfold up
    rw [if_neg (by omega), if_neg (by omega), if_neg (by omega)]
  obtain ⟨a1, eb⟩ : ∃ x, x = FS_reset R a0 108 := ⟨_, rfl⟩
  have fb : ∀ o j, o ≠ 108 ∧ o ≠ 115 ∧ o ≠ 116 ∧ o ≠ 117 → a1 o j = a0 o j := fun o j h => by rw [eb]; exact rs_fr hR o j h
  have A0 : At a1 tx tx := by
    refine ⟨by rw [fb 3 1 (by omega), fa 3 1 (by omega), h31], by omega, fun j hj => by rw [fb 4 j (by omega), fa 4 j (by omega), h40 j hj], ?_, 0, ?_, Nat.zero_le _, rfl⟩
    · rw [fb 3 4 (by omega), ea]
      exact if_pos ⟨rfl, rfl⟩
    · rw [fb 3 2 (by omega), ea]
      unfold up
      rw [if_neg (by omega), if_neg (by omega), if_pos ⟨rfl, rfl⟩]
      rfl
  have hc := rs_cnt (σ := a0) hR
  have hw := rs_win (σ := a0) hR
  have ht := rs_tim (σ := a0) hR
  rw [← eb] at hc hw ht
  have B0 : At a1 tx (prS sd ++ (prWs ws ++ (prNs 0 ns ++ (prRs 0 rs ++ (prBs 0 bs ++ []))))) := by
    rw [List.append_nil, ← htx]
    exact A0
  rw [prS_eq] at B0
  obtain ⟨m, hm⟩ : ∃ m, N = (((((m + 1) + bs.length) + rs.length) + ns.length) + ws.length) + 4 := ⟨N - 5 - bs.length - rs.length - ns.length - ws.length, by omega⟩
  obtain ⟨b1, e1, B1, v1, f1⟩ := l_day hN hR d3 d4 B0
  obtain ⟨c1, g1, C1, w1⟩ := p_step (n := (((((m + 1) + bs.length) + rs.length) + ns.length) + ws.length) + 3) (i := 0) hN hR (by decide) (c := 100) (r := _) B0 (nsp_c (by decide) _) e1 B1
  obtain ⟨b2, e2, B2, v2, f2⟩ := l_step hN hR (by omega) C1
  obtain ⟨c2, g2, C2, w2⟩ := p_step (n := (((((m + 1) + bs.length) + rs.length) + ns.length) + ws.length) + 2) (i := 1) hN hR (by decide) (c := 115) (r := _) C1 (nsp_c (by decide) _) e2 B2
  obtain ⟨b3, e3, B3, v3, f3⟩ := l_close hN hR (by omega) (by omega) C2
  obtain ⟨c3, g3, C3, w3⟩ := p_step (n := (((((m + 1) + bs.length) + rs.length) + ns.length) + ws.length) + 1) (i := 2) hN hR (by decide) (c := 99) (r := _) C2 (nsp_c (by decide) _) e3 B3
  obtain ⟨b4, e4, B4, v4, f4⟩ := l_space hN hR (by omega) C3
  obtain ⟨c4, g4, C4, w4⟩ := p_step (n := (((((m + 1) + bs.length) + rs.length) + ns.length) + ws.length)) (i := 3) hN hR (by decide) (c := 115) (r := _) C3 (nsp_c (by decide) _) e4 B4
  have fr4 : ∀ o j, o ≠ 3 → ¬ (o = 108 ∧ 12 ≤ j) → c4 o j = a1 o j := fun o j q1 q2 => by rw [w4 o j (by omega), f4 o j (by omega) (by omega), w3 o j (by omega), f3 o j (by omega) (by omega) (by omega), w2 o j (by omega), f2 o j (by omega) (by omega), w1 o j (by omega), f1 o j (by omega) (by omega) (by omega)]
  obtain ⟨t1, k1, D1, p1, p2, p3⟩ := p_wind hN hR ws 4 (((m + 1) + bs.length) + rs.length + ns.length) c4 h2.2 (by omega) C4
  obtain ⟨t2, k2, D2, n1, n2, n3⟩ := p_near hN hR ns 0 (4 + ws.length) ((m + 1) + bs.length + rs.length) t1 h3.2 (by omega) (by omega) D1 (by rw [p3 108 9 (by omega) (by omega) (by omega), fr4 108 9 (by omega) (by omega)]; exact hc.1) (fun j hj => absurd hj (Nat.not_lt_zero j))
  obtain ⟨t3, k3, D3, r1, r2, r3⟩ := p_road hN hR rs 0 (4 + ws.length + ns.length) ((m + 1) + bs.length) t2 h4.2 (by omega) (by omega) D2 (by rw [n3 108 10 (by omega) (by omega) (by omega) (by omega), p3 108 10 (by omega) (by omega) (by omega), fr4 108 10 (by omega) (by omega)]; exact hc.2.1) (fun j hj => absurd hj (Nat.not_lt_zero j))
  obtain ⟨t4, k4, D4, b1', b2', b3'⟩ := p_blast hN hR bs 0 (4 + ws.length + ns.length + rs.length) (m + 1) t3 h5.2 (by omega) (by omega) D3 (by rw [r3 108 11 (by omega) (by omega) (by omega) (by omega), n3 108 11 (by omega) (by omega) (by omega) (by omega), p3 108 11 (by omega) (by omega) (by omega), fr4 108 11 (by omega) (by omega)]; exact hc.2.2) (fun j hj => absurd hj (Nat.not_lt_zero j))
  have hE := p_end (n := m) (i := 4 + ws.length + ns.length + rs.length + bs.length) hN hR (by omega) D4
  have fz : ∀ o j, o ≠ 3 → ¬ (o = 108 ∧ 9 ≤ j ∧ j ≤ 11) → ¬ (112 ≤ o ∧ o ≤ 114) → ¬ (118 ≤ o ∧ o ≤ 123) → ¬ (142 ≤ o ∧ o ≤ 143) → ¬ (148 ≤ o ∧ o ≤ 162) → t4 o j = t1 o j := fun o j q1 q2 q3 q4 q5 q6 => by rw [b3' o j (by omega) (by omega) (by omega) (by omega), r3 o j (by omega) (by omega) (by omega) (by omega), n3 o j (by omega) (by omega) (by omega) (by omega)]
  have fs : ∀ j, 12 ≤ j → t4 108 j = c4 108 j := fun j hj => by rw [fz 108 j (by omega) (by omega) (by omega) (by omega) (by omega) (by omega), p3 108 j (by omega) (by omega) (by omega)]
  refine ⟨t4, ?_, D4.2.2.2.1, ⟨⟨?_, ?_, ?_, ?_, ?_, ?_, ?_, ?_, ?_⟩, fun h hh => ⟨?_, ?_⟩, fun j hj => ?_, fun j hj => ?_, fun j hj => ?_, fun b hb => ?_⟩, fun o j q1 q2 => ?_⟩
  · unfold f_X5_parse f_X10_begin
    rw [hR.r2_0, sq_eq, sq_eq, sq_eq, bd_some, ← ea, reset_eqN (by omega), bd_some, ← eb]
    show f_X5_parse_13 N R N a1 2 108 (nI 0) = some (1, t4)
    rw [show f_X5_parse_13 N R N a1 2 108 (nI 0) = f_X5_parse_13 N R ((((((m + 1) + bs.length) + rs.length) + ns.length) + ws.length) + 4) a1 2 108 (nI 0) from by rw [← hm]]
    rw [g1, g2, g3, g4, k1, k2, k3, k4, hE]
  · rw [b3' 108 9 (by omega) (by omega) (by omega) (by omega), r3 108 9 (by omega) (by omega) (by omega) (by omega), n1, Nat.zero_add]
  · rw [b3' 108 10 (by omega) (by omega) (by omega) (by omega), r1, Nat.zero_add]
  · rw [b1', Nat.zero_add]
  · rw [fs 12 (by omega), w4 108 12 (by omega), f4 108 12 (by omega) (by omega), w3 108 12 (by omega), f3 108 12 (by omega) (by omega) (by omega), w2 108 12 (by omega), f2 108 12 (by omega) (by omega), w1 108 12 (by omega)]
    exact v1.1
  · rw [fs 13 (by omega), w4 108 13 (by omega), f4 108 13 (by omega) (by omega), w3 108 13 (by omega), f3 108 13 (by omega) (by omega) (by omega), w2 108 13 (by omega), f2 108 13 (by omega) (by omega), w1 108 13 (by omega)]
    exact v1.2
  · rw [fs 14 (by omega), w4 108 14 (by omega), f4 108 14 (by omega) (by omega), w3 108 14 (by omega), f3 108 14 (by omega) (by omega) (by omega), w2 108 14 (by omega)]
    exact v2
  · rw [fs 15 (by omega), w4 108 15 (by omega), f4 108 15 (by omega) (by omega), w3 108 15 (by omega)]
    exact v3.1
  · rw [fs 16 (by omega), w4 108 16 (by omega), f4 108 16 (by omega) (by omega), w3 108 16 (by omega)]
    exact v3.2
  · rw [fs 17 (by omega), w4 108 17 (by omega)]
    exact v4
  · rw [fz 116 h (by omega) (by omega) (by omega) (by omega) (by omega) (by omega), p1 h, fr4 116 h (by omega) (by omega), (hw h hh).1]
  · rw [fz 117 h (by omega) (by omega) (by omega) (by omega) (by omega) (by omega), p2 h, fr4 117 h (by omega) (by omega), (hw h hh).2]
  · have g := n2 j hj
    rw [Nat.zero_add] at g
    have q : ∀ o j, (o = 112 ∨ (118 ≤ o ∧ o ≤ 123)) → t4 o j = t2 o j := fun o j hq => by rw [b3' o j (by omega) (by omega) (by omega) (by omega), r3 o j (by omega) (by omega) (by omega) (by omega)]
    exact ⟨(q _ _ (by omega)).trans g.1, (q _ _ (by omega)).trans g.2.1, (q _ _ (by omega)).trans g.2.2.1, (q _ _ (by omega)).trans g.2.2.2.1, (q _ _ (by omega)).trans g.2.2.2.2.1, fun x hx => ⟨(q _ _ (by omega)).trans (g.2.2.2.2.2 x hx).1, (q _ _ (by omega)).trans (g.2.2.2.2.2 x hx).2⟩⟩
  · have g := r2 j hj
    rw [Nat.zero_add] at g
    have q : ∀ o j, (o = 113 ∨ (142 ≤ o ∧ o ≤ 143)) → t4 o j = t3 o j := fun o j hq => b3' o j (by omega) (by omega) (by omega) (by omega)
    exact ⟨(q _ _ (by omega)).trans g.1, (q _ _ (by omega)).trans g.2.1, (q _ _ (by omega)).trans g.2.2.1, (q _ _ (by omega)).trans g.2.2.2.1, (q _ _ (by omega)).trans g.2.2.2.2⟩
  · have g := b2' j hj
    rw [Nat.zero_add] at g
    exact g
  · rw [fz 115 b (by omega) (by omega) (by omega) (by omega) (by omega) (by omega), p3 115 b (by omega) (by omega) (by omega), fr4 115 b (by omega) (by omega)]
    exact ht b hb
  · rw [fz o j q1 (by omega) (by omega) (by omega) (by omega) (by omega), p3 o j (by omega) (by omega) (by omega), fr4 o j q1 (by omega), fb o j (by omega), fa o j (by omega)]
end VPP
