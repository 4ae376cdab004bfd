/-! ===== from the law's entry to its end, over what is asked of the pure functions ===== -/
theorem dL_law_0 : decode cL_law 0 = .ok (.new 8, 3) := by decide +kernel
theorem dL_law_3 : decode cL_law 3 = .ok (.dup, 1) := by decide +kernel
theorem dL_law_4 : decode cL_law 4 = .ok (.invokespecial 159, 3) := by decide +kernel
theorem dL_law_7 : decode cL_law 7 = .ok (.astore_n 1, 1) := by decide +kernel
theorem dL_law_8 : decode cL_law 8 = .ok (.new 160, 3) := by decide +kernel
theorem dL_law_11 : decode cL_law 11 = .ok (.dup, 1) := by decide +kernel
theorem dL_law_12 : decode cL_law 12 = .ok (.invokespecial 162, 3) := by decide +kernel
theorem dL_law_15 : decode cL_law 15 = .ok (.astore_n 2, 1) := by decide +kernel
theorem dL_law_16 : decode cL_law 16 = .ok (.iconst 1, 1) := by decide +kernel
theorem dL_law_17 : decode cL_law 17 = .ok (.newarray .long, 2) := by decide +kernel
theorem dL_law_19 : decode cL_law 19 = .ok (.astore_n 3, 1) := by decide +kernel
theorem dL_law_20 : decode cL_law 20 = .ok (.iconst 0, 1) := by decide +kernel
theorem dL_law_21 : decode cL_law 21 = .ok (.istore 4, 2) := by decide +kernel
def zF : Sg := alk 1 zm_32
set_option maxHeartbeats 4000000 in
set_option maxRecDepth 100000 in
theorem whole_open {N : Nat} {Inv : SI → (Nat → Nat → Nat) → Prop} (hIS : InvOk Inv) (hI0 : Inv zF.1 zF.2.1) (hAg : AgAll N Inv) {p : Program} {e : Jvm.Env} {s : State} {m : MethodId} {below : List Frame} {meth : Method} {c : Code} (l : Launch) (hflags : l.flags = flags0) {b L : Nat} {xs : Nat → Int32} (hL : L ≤ 3072) (C0 : lw_At p s m meth c b L xs) : W p l e room_1 s m #[Value.ref b] below meth c s.heap [] 0 0 (lw_Z below #[Value.ref b] s) (entryFrame m ([Value.ref b] : List Value).toArray 7) := by
  obtain ⟨hx, hb, hr, hml, hown, hts, hX, hbl, hlocks, hgv⟩ := id C0
  obtain ⟨g, hgb, hgH, hE⟩ := env_start hflags hts hbl hgv
  have hLo : Low g s.heap := ⟨by rw [hgH]; omega, by rw [hgH]; exact Nat.le_refl _, fun a _ => by rw [hgH]⟩
  have C : Cx l g p s m meth c cL_law 7 RL := ⟨hx, hb, hml, hown, hE, hLo, hlocks⟩
  have hb : c.code = cL_law := hb
  have hl := lv_entry ([.ref b]) (n := 7) (Nat.le_of_ble_eq_true rfl)
  rw [lg_entry_eq]
  generalize (lg_sl ([.ref b]) ++ List.replicate (7 - (lg_sl ([.ref b])).length) Slot.unset).toArray = ls at hl ⊢
  have hl : lv_has ls 7 [(0, .ref b)] := hl
  have S : StL g 0 s zI s.heap [] := ⟨⟨fun id h0 h1 => absurd (Nat.lt_of_lt_of_le h0 h1) (Nat.lt_irrefl 0), rfl, fun _ => by omega⟩, va_S.rf⟩
  generalize hH : s.heap = H at S ⊢
  generalize hlc : ([] : List Loc) = locs at S ⊢
  refine a_new C S (by decide) zr_zI KX11 df_X11 rfl ⟨cl_RL_8, iz_RX11, ni_RX11⟩ (Nat.le_of_ble_eq_true rfl) (Nat.le_of_ble_eq_true rfl) dL_law_0 (fun H S _ => ?_)
  have S : StL g 1 s zb_0 H locs := S
  refine lv_dup hx hb dL_law_3 rfl ?_
  refine v_callI C S ci_zb ⟨cd_X11_init, ni_RX11, ml_RL_159, in_X11_init⟩ rfl ⟨by decide, by decide⟩ rfl ⟨by decide, by decide⟩ hl.1 rfl (Nat.le_of_ble_eq_true rfl) ⟨Nat.le_of_ble_eq_true rfl, Nat.le_of_ble_eq_true rfl⟩ dL_law_4 (fun v σ' H locs hp S => ?_)
  obtain ⟨rfl, rfl⟩ := hp
  have S : StL g 177 s zb_27 H locs := S
  refine lv_astore_n (lv' := [(1, .ref (gb g + 1)), (0, .ref b)]) hx hb dL_law_7 rfl hl (by decide) rfl (fun ls hl => ?_)
  refine a_new C S (by decide) zr_zb_27 KX12 df_X12 rfl ⟨cl_RL_160, iz_RX12, ni_RX12⟩ (Nat.le_of_ble_eq_true rfl) (Nat.le_of_ble_eq_true rfl) dL_law_8 (fun H S _ => ?_)
  have S : StL g 178 s zm_0 H locs := S
  refine lv_dup hx hb dL_law_11 rfl ?_
  refine v_callI C S ci_zm ⟨cd_X12_init, ni_RX12, ml_RL_162, in_X12_init⟩ rfl ⟨by decide, by decide⟩ rfl ⟨by decide, by decide⟩ hl.1 rfl (Nat.le_of_ble_eq_true rfl) ⟨Nat.le_of_ble_eq_true rfl, Nat.le_of_ble_eq_true rfl⟩ dL_law_12 (fun v σ' H locs hp S => ?_)
  obtain ⟨rfl, rfl⟩ := hp
  have S : StL g 193 s zm_32 H locs := S
  refine lv_astore_n (lv' := [(2, .ref (gb g + 178)), (1, .ref (gb g + 1)), (0, .ref b)]) hx hb dL_law_15 rfl hl (by decide) rfl (fun ls hl => ?_)
  refine lv_iconst (v := (1 : Int32)) hx hb dL_law_16 (by decide) ?_
  refine a_newL C S (by decide) zr_zm_32 ac_long (len := 1) (by decide) rfl (by decide) (by decide) (Nat.le_of_ble_eq_true rfl) (Nat.le_of_ble_eq_true rfl) dL_law_17 (fun H S _ => ?_)
  have S : StL g 194 s zF H locs := S
  refine lv_astore_n (lv' := [(3, .ref (gb g + 194)), (2, .ref (gb g + 178)), (1, .ref (gb g + 1)), (0, .ref b)]) hx hb dL_law_19 rfl hl (by decide) rfl (fun ls hl => ?_)
  refine lv_iconst (v := (0 : Int32)) hx hb dL_law_20 (by decide) ?_
  refine lv_istore (lv' := [(4, .int 0), (3, .ref (gb g + 194)), (2, .ref (gb g + 178)), (1, .ref (gb g + 1)), (0, .ref b)]) hx hb dL_law_21 hl (by decide) rfl (fun ls hl => ?_)
  have S : SN 194 g s zF.1 zF.2.1 zF.2.2.1 H locs := SN.of (by decide +kernel) S
  have S : S2 g s zF.1 zF.2.1 zF.2.2.1 H locs := S
  refine W.widen (k := 200 + 4 * 0) (n := 20000 + 24 * 0) (Nat.le_of_ble_eq_true rfl) (Nat.le_of_ble_eq_true rfl) ?_
  exact law_loop C (by omega) hr hX hbl (by show ¬ (gb g < b); omega) hIS hAg hL (L + 1) 0 zF.1 zF.2.1 zF.2.2.1 0 (by omega) (by omega) nI_0.symm hI0 H locs ls S (lv_sub hl [4, 3, 2, 1, 0] rfl)
