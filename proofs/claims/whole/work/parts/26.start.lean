/-! THE START: both sides are made, then the loop -/
def lPs : List hm_Sh := [.inr 5, .inr 7, .inl (.byte, 1000), .inr 0, .inl (.long, 6), .inl (.int, 6), .inl (.int, 6), .inl (.int, 12), .inl (.int, 12), .inl (.int, 12), .inl (.int, 12), .inr 3, .inl (.int, 1000), .inl (.int, 4), .inl (.int, 4), .inl (.int, 32), .inl (.int, 7), .inr 4, .inr 0, .inl (.long, 6), .inl (.int, 6), .inl (.int, 6), .inl (.int, 12), .inl (.int, 12), .inl (.int, 12), .inl (.int, 12), .inr 3, .inl (.int, 1000), .inl (.int, 4), .inl (.int, 4), .inl (.int, 32), .inl (.int, 7), .inl (.int, 12), .inl (.long, 2496), .inr 2, .inl (.int, 12), .inl (.int, 8), .inl (.int, 8), .inr 1, .inl (.int, 20), .inl (.int, 20), .inr 6, .inl (.int, 204), .inl (.int, 16), .inl (.int, 6), .inr 8, .inl (.int, 144), .inl (.int, 4096), .inl (.int, 12), .inr 10, .inl (.long, 24), .inl (.int, 1536), .inl (.int, 24), .inr 9, .inl (.int, 64), .inl (.int, 64), .inl (.int, 64), .inl (.object "PaneSpots$Hold", 4), .inr 2, .inl (.int, 12), .inl (.int, 8), .inl (.int, 8), .inr 2, .inl (.int, 12), .inl (.int, 8), .inl (.int, 8), .inr 2, .inl (.int, 12), .inl (.int, 8), .inl (.int, 8), .inr 2, .inl (.int, 12), .inl (.int, 8), .inl (.int, 8)]
def lMd : List hm_Sh := [.inl (.int, 1000), .inl (.int, 1002), .inl (.int, 1002), .inl (.long, 1002), .inl (.long, 22), .inl (.int, 160), .inl (.int, 2200), .inl (.int, 2200), .inl (.long, 6), .inl (.int, 7), .inl (.int, 1100), .inl (.int, 1000), .inl (.boolean, 4), .inl (.int, 12), .inl (.int, 12), .inl (.int, 12), .inl (.int, 12), .inl (.int, 6), .inl (.int, 1536), .inl (.int, 384), .inl (.int, 384), .inl (.int, 384)]
def sh1 : List hm_Sh := [.inr 11] ++ lPs
def sh2 : List hm_Sh := sh1 ++ [.inr 12]
def sh3 : List hm_Sh := sh2 ++ lMd
def sh4 : List hm_Sh := sh3 ++ [.inl (.long, 1)]
def hm_zero : hm_M := (fun _ _ => 0, fun _ _ => 0, fun _ _ => 0)
theorem nw_L_8 : hm_NW RL 8 11 10 := ⟨rfl, RX11, TX11, rfl, iw_11, tyX11_ok, by decide +kernel, gW_c1 27 rfl rfl, gW_c1 28 rfl rfl, gW_c1 1 rfl rfl⟩
theorem nw_L_16 : hm_NW RL 16 12 35 := ⟨rfl, RX12, TX12, rfl, iw_12, tyX12_ok, by decide +kernel, gW_c5 193 rfl rfl, gW_c5 191 rfl rfl, gW_c1 13 rfl rfl⟩
theorem ml_L_15 : Cond.methodLink RL 15 yX11_init ∈ gW := gW_c1 29 rfl rfl
theorem ml_L_18 : Cond.methodLink RL 18 yX12_init ∈ gW := gW_c5 194 rfl rfl
theorem hm_le_s {n : Nat} : hm_le n (.ref 999999) := Or.inr (by decide)
theorem hm_MB0 (n : Nat) : hm_MB hm_zero n := ⟨fun _ _ => Nat.zero_le _, fun _ _ _ => ⟨rfl, rfl, rfl⟩⟩
set_option maxRecDepth 100000 in
set_option maxHeartbeats 4000000 in
theorem pre_walk {X0 : hm_X} (hC : hm_CA X0 X0 RL code 7 ret 1000 [] 0 0 601024 7293034) {M1 M2 : hm_M} (h1 : g_Ps_init [.inr 11] 1 hm_zero = some M1) (h2 : g_Md_init sh2 76 M1 = some M2) {Q : State → Prop}
    (kk : ∀ X, hm_CA X0 X RL code 7 ret 1000 sh4 99 25769 601024 7293034 → hm_U X 23 [(0, .ref 999999), (1, .ref 1), (2, .ref 76), (3, .ref 99), (4, .int (Int32.ofNat 0))] [] M2 Q) : hm_U X0 0 [(0, .ref 999999)] [] hm_zero Q := by
  have l0 : ∀ n : Nat, ∀ q ∈ ([(0, .ref 999999)] : List (Nat × Value)), hm_le n q.2 := fun n => List.forall_mem_cons.mpr ⟨hm_le_s, fun _ h => nomatch h⟩
  have l1 : ∀ n : Nat, 1 ≤ n → ∀ q ∈ ([(1, .ref 1), (0, .ref 999999)] : List (Nat × Value)), hm_le n q.2 := fun n h => List.forall_mem_cons.mpr ⟨hm_le_ref h, l0 n⟩
  have l2 : ∀ n : Nat, 76 ≤ n → ∀ q ∈ ([(2, .ref 76), (1, .ref 1), (0, .ref 999999)] : List (Nat × Value)), hm_le n q.2 := fun n h => List.forall_mem_cons.mpr ⟨hm_le_ref h, l1 n (by omega)⟩
  have b1 : hm_MB M1 75 := mB_Ps_init (l := [.inr 11]) (v0 := 1) rfl (hm_MB0 _) (by decide) h1
  have b2 : hm_MB M2 98 := mB_Md_init (l := sh2) (v0 := 76) rfl (b1.mono (by decide)) (by decide) h2
  refine jv_newobjW hC 0 rfl [.inr 11] rfl (hm_MB0 _) (by decide) nw_L_8 dL_law_0 (by decide) (by decide) (l0 _) (fun _ h => nomatch h) (fun X1 hC1 => ?_)
  refine jv_dup hC1.1 dL_law_3 rfl ?_
  refine jv_callIW hC1 1 rfl (a := 1) (st := [.ref 1]) sh1 rfl (kA_Ps_init (l := [.inr 11]) (v0 := 1) rfl (hm_MB0 _) (by decide) h1) mm_Ps_init ni_Ps_init rfl ml_L_15 dL_law_4 (by decide) rfl rfl (Nat.le_of_ble_eq_true rfl) (by decide) (by decide) (l0 _) (List.forall_mem_cons.mpr ⟨hm_le_ref (by decide), fun _ h => nomatch h⟩) (fun X2 hC2 => ?_)
  refine jv_astore_n hC2.1 [(1, .ref 1), (0, .ref 999999)] dL_law_7 (by decide) rfl ?_
  refine jv_newobjW hC2 75 rfl sh2 rfl b1 (by decide) nw_L_16 dL_law_8 (by decide) (by decide) (l1 _ (by decide)) (fun _ h => nomatch h) (fun X3 hC3 => ?_)
  refine jv_dup hC3.1 dL_law_11 rfl ?_
  refine jv_callIW hC3 76 rfl (a := 76) (st := [.ref 76]) sh3 rfl (kA_Md_init (l := sh2) (v0 := 76) rfl (b1.mono (by decide)) (by decide) h2) mm_Md_init ni_Md_init rfl ml_L_18 dL_law_12 (by decide) rfl rfl (Nat.le_of_ble_eq_true rfl) (by decide) (by decide) (l1 _ (by decide)) (List.forall_mem_cons.mpr ⟨hm_le_ref (by decide), fun _ h => nomatch h⟩) (fun X4 hC4 => ?_)
  refine jv_astore_n hC4.1 [(2, .ref 76), (1, .ref 1), (0, .ref 999999)] dL_law_15 (by decide) rfl ?_
  refine jv_iconst hC4.1 dL_law_16 c32_1 ?_
  refine jv_newarrW hC4 98 rfl sh4 rfl b2 (by decide) dL_law_17 rfl (Or.inr (Or.inl rfl)) ac_long (by decide) (by decide) (by decide) (by decide) (by decide) (l2 _ (by decide)) (fun _ h => nomatch h) (fun X5 hC5 => ?_)
  refine jv_astore_n hC5.1 [(3, .ref 99), (2, .ref 76), (1, .ref 1), (0, .ref 999999)] dL_law_19 (by decide) rfl ?_
  refine jv_iconst hC5.1 (v := Int32.ofNat 0) dL_law_20 (by decide) ?_
  refine jv_istore hC5.1 [(4, .int (Int32.ofNat 0)), (3, .ref 99), (2, .ref 76), (1, .ref 1), (0, .ref 999999)] dL_law_21 (by decide) rfl ?_
  refine jv_sub [4, 3, 2, 1, 0] (ls' := [(0, .ref 999999), (1, .ref 1), (2, .ref 76), (3, .ref 99), (4, .int (Int32.ofNat 0))]) rfl ?_
  exact jv_pc 23 rfl (kk X5 hC5)
theorem hm_Th.ag {n : Nat} {ad ad' : Nat → Nat} {A : Nat → Prop} {s : State} {H : Heap} (h : hm_ag n ad ad') (hS : hm_Th ad A s H) : hm_Th ad' A s H := by
  have e1 : ad' 1000002 = ad 1000002 := h _ (Or.inr (by decide))
  unfold hm_Th at hS ⊢
  rw [e1]
  exact hS
set_option maxRecDepth 100000 in
set_option maxHeartbeats 4000000 in
theorem start_of {J : hm_M → Prop} {M1 M2 : hm_M} (h1 : g_Ps_init [.inr 11] 1 hm_zero = some M1) (h2 : g_Md_init sh2 76 M1 = some M2) (hJ : J M2) (p_feed : pJ_feed (hm_sl sh4) J) (p_chapel : pJ_chapel (hm_sl sh4) J) (p_guild : pJ_guild (hm_sl sh4) J) (p_pane : pJ_pane (hm_sl sh4) J) (p_spot : pJ_spot (hm_sl sh4) J) (p_place : pJ_place (hm_sl sh4) J) (p_yields : pJ_yields (hm_sl sh4) J) (p_rents : pJ_rents (hm_sl sh4) J) (p_worth : pJ_worth (hm_sl sh4) J) (p_gain : pJ_gain (hm_sl sh4) J) (p_best : pJ_best (hm_sl sh4) J) (p_exchange : pJ_exchange (hm_sl sh4) J) (p_breaks : pJ_breaks (hm_sl sh4) J) (p_fallen : pJ_fallen (hm_sl sh4) J) (p_falls : pJ_falls (hm_sl sh4) J) (p_undo : pJ_undo (hm_sl sh4) J) (p_stall : pJ_stall (hm_sl sh4) J) (p_see : pJ_see (hm_sl sh4) J) (p_candles : pJ_candles (hm_sl sh4) J) (p_when : pJ_when (hm_sl sh4) J) (p_clear : pJ_clear (hm_sl sh4) J) (p_stains : pJ_stains (hm_sl sh4) J) (p_stood : pJ_stood (hm_sl sh4) J) (p_clouded : pJ_clouded (hm_sl sh4) J) (p_mark : pJ_mark (hm_sl sh4) J) (p_count : pJ_count (hm_sl sh4) J)
    {p : Program} {e : Env} {s : State} {m : MethodId} {below : List Frame} {meth : Method} {c : Code} (l : Launch) (htr : l.stackTraces = false) {b L : Nat} {xs : Nat → Int32} (hL : L ≤ 3584) (C0 : lw_At p s m meth c b L xs) : W p l e room_1 s m #[Value.ref b] below meth c s.heap [] 0 0 (lw_Z below #[Value.ref b] s) (entryFrame m ([Value.ref b] : List Value).toArray 7) := by
  obtain ⟨hx, hb, hret, hml, hown, hts, hX, hbl, hlk, hgv⟩ := C0
  have hg : ∀ w ∈ gW, w.before #[Value.ref b] s = true := fun w hw => hts w (tb_gW hw)
  obtain ⟨dC, dI, dA, hK⟩ := st_K hts
  obtain ⟨ad, hab, hSt, hTh⟩ := st_all hts hgv
  rw [lg_entry_eq]
  have hl := lv_entry ([.ref b] : List Value) (n := 7) (Nat.le_of_ble_eq_true rfl)
  let X0 : hm_X := ((p, l, e, room_1, s), (m, #[Value.ref b], below, meth, c), (dC, dI, dA, ad, fun r : Nat => s.heap.size ≤ r), (0, hm_sl [], 7, 0, 0))
  have hC : hm_CA X0 X0 RL code 7 ret 1000 [] 0 0 601024 7293034 := by
    refine ⟨⟨⟨hx, hb, hret, hml, hown, hg, hlk⟩, ⟨fun q h => h, hK, fun i j hi => absurd hi (Nat.not_lt_zero _), fun i hi => absurd hi (Nat.not_lt_zero _), hSt⟩, ⟨rfl, rfl, rfl, by decide, by decide, by decide, by decide, hm_sl_rng⟩⟩, hm_Ext.rf _, ⟨rfl, rfl, by decide, by decide⟩⟩
  have goal : hm_U X0 0 [(0, .ref 999999)] [] hm_zero (hm_QL X0) := by
    refine pre_walk hC h1 h2 (fun X hCX => ?_)
    have hQ : hm_QL X0 = hm_QL X := by
      obtain ⟨⟨p', l', e', R', s'⟩, ⟨m', args', below', meth', c'⟩, ⟨dC', dI', dA', ad', A'⟩, ⟨n', S', nL', cells, slots⟩⟩ := X
      obtain ⟨-, ⟨⟨rfl, rfl, rfl, rfl, rfl⟩, ⟨rfl, rfl, rfl, rfl, rfl⟩, -⟩, -⟩ := hCX
      rfl
    rw [hQ]
    refine law_loop (J := J) (n := 99) (xs := xs) rfl rfl rfl p_feed p_chapel p_guild p_pane p_spot p_place p_yields p_rents p_worth p_gain p_best p_exchange p_breaks p_fallen p_falls p_undo p_stall p_see p_candles p_when p_clear p_stains p_stood p_clouded p_mark p_count hL 600 X ?_ 0 M2 (Nat.zero_le _) (by omega) hJ
    obtain ⟨⟨p', l', e', R', s'⟩, ⟨m', args', below', meth', c'⟩, ⟨dC', dI', dA', ad', A'⟩, ⟨n', S', nL', cells, slots⟩⟩ := X
    obtain ⟨hCX1, ⟨⟨rfl, rfl, rfl, rfl, rfl⟩, ⟨rfl, rfl, rfl, rfl, rfl⟩, ⟨rfl, rfl, rfl, rfl⟩, hn', hle, hag⟩, ⟨rfl, rfl, -, -⟩⟩ := hCX
    have e9 : ad' 999999 = ad 999999 := hag 999999 (Or.inr (by decide))
    refine ⟨hCX1, rfl, by rw [e9, hab], by rw [e9, hab]; exact hX, rfl, by rw [e9, hab]; exact hbl, hTh.ag hag, htr, by decide, by decide, hL⟩
  refine goal s.heap [] _ ?_ va_S.rf ?_
  · intro k q hk
    have h0 : hm_ws dA ad (hm_sl []) 0 hm_zero = [] := rfl
    rw [h0] at hk
    cases hk
  · show lv_has _ 7 [(0, .ref (ad 999999))]
    rw [hab]
    exact hl
