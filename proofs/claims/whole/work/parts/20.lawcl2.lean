/-! the law's own clouded: its two contracts -/
theorem kl_ok {n : Nat} {S : hm_S} {v0 v3 len : Nat} {v1 v2 : Int32} {M : hm_M} {r : Int32} {M1 : hm_M} (hs : S v0 = some (.inr 11)) (h3 : S v3 = some (.inl (.long, len))) (hlen : 0 < len) (hF : f_Ps_clouded S v0 v1 v2 M = some (r, M1)) (l : Launch) (dC : Nat → ClassId) (dI : Nat → Nat → Nat) (dA : FieldType → ClassId) (ad : Nat → Nat) (sz : Nat) :
    Met l yL_clouded (.codeWith yL_clouded cL_clouded 5 (some .int) [(0, 10, 13, 13)] :: gW) (hm_roomA 41 1 6) (hm_PcT dC dI dA ad n S sz [.ref v0, .int v1, .int v2, .ref v3] M) (hm_Qc dC dI dA ad n S (hm_An ad n sz) (some (.int 0)) (hm_wL M1 v3 (0 : Int32).toNatClampNeg r.toInt64)) 1 6 (hm_An ad n sz) := by
  refine hm_Met_of_vx (vx_ofWH (cc := cL_clouded) (maxL := 5) (ret := some .int) (by decide) rfl ?_)
  intro p e s m args below meth c s₁ B hml hv
  obtain ⟨⟨rfl, hsz, hP, hK, hok, hSt, hr⟩, hTh⟩ := hv
  have hts := atoms_spec (ws := Cond.codeWith yL_clouded cL_clouded 5 (some .int) [(0, 10, 13, 13)] :: gW) B.pre
  subst hsz
  rw [lg_entry_eq]
  have hl := lv_entry (([.ref v0, .int v1, .int v2, .ref v3] : List Value).map (hm_tv ad)) (n := 5) (Nat.le_of_ble_eq_true rfl)
  rw [hm_args_map] at hl
  have hC0 : ∀ k w : Nat, k ≤ 1 → w ≤ 6 → hm_C ((p, l, e, hm_roomA 41 1 6, s), (m, (([.ref v0, .int v1, .int v2, .ref v3] : List Value).map (hm_tv ad)).toArray, below, meth, c), (dC, dI, dA, ad, hm_An ad n s.heap.size), (n, S, 5, k, w)) RL cL_clouded 5 (some .int) 41 n S := fun k w hk hw =>
    ⟨⟨B.exec, B.bytes, B.returns, hml, findClass_of_methodNamed B.named, fun w hw => hts w (List.mem_cons_of_mem _ hw), B.notSynchronized⟩, ⟨fun q h => Or.inr h, hK, hok, fun i hi => Or.inl ⟨i, hi, rfl⟩, hSt⟩, ⟨rfl, rfl, rfl, Nat.le_refl _, Nat.le_refl _, hk, hw, hr⟩⟩
  obtain ⟨X, hX⟩ : ∃ X : hm_X, X = ((p, l, e, hm_roomA 41 1 6, s), (m, (([.ref v0, .int v1, .int v2, .ref v3] : List Value).map (hm_tv ad)).toArray, below, meth, c), (dC, dI, dA, ad, hm_An ad n s.heap.size), (n, S, 5, 0, 0)) := ⟨_, rfl⟩
  have hC : hm_C X RL cL_clouded 5 (some .int) 41 n S := by rw [hX]; exact hC0 0 0 (by decide) (by decide)
  have goal : hm_U X 0 [(0, .ref v0), (1, .int v1), (2, .int v2), (3, .ref v3)] [] M (vx_MQ below (hm_Qc dC dI dA ad n S (hm_An ad n s.heap.size) (some (.int 0)) (hm_wL M1 v3 (0 : Int32).toNatClampNeg r.toInt64)) (fun _ _ _ => False) (([.ref v0, .int v1, .int v2, .ref v3] : List Value).map (hm_tv ad)).toArray s 1 6 (hm_An ad n s.heap.size)) := by
    refine jv_aload_n hC 3 dL_clouded_0 rfl ?_
    refine jv_iconst hC (v := 0) dL_clouded_1 (by decide) ?_
    refine jv_aload_n hC 0 dL_clouded_2 rfl ?_
    refine jv_iload_n hC 1 dL_clouded_3 rfl ?_
    refine jv_iload_n hC 2 dL_clouded_4 rfl ?_
    refine jv_pc 5 rfl ?_
    subst hX
    intro H locs la hP1 hS1 hl1
    refine kl_call (v3 := v3) (Nat.le_refl _) hC hTh hs (Nat.le_refl _) (Nat.le_refl _) (kx_clouded (Nat.le_refl _) hF l dC dI dA ad H.size) hP1 hS1 hl1.1 ?_ ?_
    · intro v st₀ t locs1 h0 hq hk
      obtain ⟨hv, hPt, hFt⟩ := hq
      cases hv
      have hCX := hC0 1 6 (Nat.le_refl _) (Nat.le_refl _)
      obtain ⟨X1, hX1⟩ : ∃ X : hm_X, X = ((p, l, e, hm_roomA 41 1 6, s), (m, (([.ref v0, .int v1, .int v2, .ref v3] : List Value).map (hm_tv ad)).toArray, below, meth, c), (dC, dI, dA, ad, hm_An ad n s.heap.size), (n, S, 5, 1, 6)) := ⟨_, rfl⟩
      rw [← hX1] at hCX
      have g1 : hm_U X1 8 [(0, .ref v0), (1, .int v1), (2, .int v2), (3, .ref v3)] [.int r, .int 0, .ref v3] M1 (hm_Q X1 (some (.int 0)) (hm_wL M1 v3 (0 : Int32).toNatClampNeg r.toInt64)) := by
        refine jv_i2l hCX dL_clouded_8 ?_
        refine jv_lastore hCX dL_clouded_9 h3 (vi_0 hlen) ?_
        refine jv_goto hCX 17 dL_clouded_10 (by decide) ?_
        refine jv_iconst hCX (v := 0) dL_clouded_17 (by decide) ?_
        exact jv_iret hCX dL_clouded_18
      subst hX1
      exact vx_ret (g1 t.heap locs1 la hPt (hk hFt) hl1)
    · intro q st₀ t locs1 E ce h0 hx
      exact hx.elim
  subst hX
  exact goal s.heap [] _ hP va_S.rf hl
theorem kl_bad {n : Nat} {S : hm_S} {v0 v3 : Nat} {v1 v2 : Int32} {M : hm_M} (hs : S v0 = some (.inr 11)) (hB : hm_badA S v0 v1 v2 M) (l : Launch) (htr : l.stackTraces = false) (dC : Nat → ClassId) (dI : Nat → Nat → Nat) (dA : FieldType → ClassId) (ad : Nat → Nat) (sz : Nat) :
    Met l yL_clouded (.codeWith yL_clouded cL_clouded 5 (some .int) [(0, 10, 13, 13)] :: gW) (hm_roomA 41 1 6) (hm_PcT dC dI dA ad n S sz [.ref v0, .int v1, .int v2, .ref v3] M) (hm_Qc dC dI dA ad n S (hm_An ad n sz) (some (.int 1)) M) 1 6 (hm_An ad n sz) := by
  refine hm_Met_of_vx (vx_ofWH (cc := cL_clouded) (maxL := 5) (ret := some .int) (by decide) rfl ?_)
  intro p e s m args below meth c s₁ B hml hv
  obtain ⟨⟨rfl, hsz, hP, hK, hok, hSt, hr⟩, hTh⟩ := hv
  have hts := atoms_spec (ws := Cond.codeWith yL_clouded cL_clouded 5 (some .int) [(0, 10, 13, 13)] :: gW) B.pre
  have htab := vx_table (x := yL_clouded) B (hts _ List.mem_cons_self)
  subst hsz
  rw [lg_entry_eq]
  have hl := lv_entry (([.ref v0, .int v1, .int v2, .ref v3] : List Value).map (hm_tv ad)) (n := 5) (Nat.le_of_ble_eq_true rfl)
  rw [hm_args_map] at hl
  have hC0 : ∀ k w : Nat, k ≤ 1 → w ≤ 6 → hm_C ((p, l, e, hm_roomA 41 1 6, s), (m, (([.ref v0, .int v1, .int v2, .ref v3] : List Value).map (hm_tv ad)).toArray, below, meth, c), (dC, dI, dA, ad, hm_An ad n s.heap.size), (n, S, 5, k, w)) RL cL_clouded 5 (some .int) 41 n S := fun k w hk hw =>
    ⟨⟨B.exec, B.bytes, B.returns, hml, findClass_of_methodNamed B.named, fun w hw => hts w (List.mem_cons_of_mem _ hw), B.notSynchronized⟩, ⟨fun q h => Or.inr h, hK, hok, fun i hi => Or.inl ⟨i, hi, rfl⟩, hSt⟩, ⟨rfl, rfl, rfl, Nat.le_refl _, Nat.le_refl _, hk, hw, hr⟩⟩
  obtain ⟨X, hX⟩ : ∃ X : hm_X, X = ((p, l, e, hm_roomA 41 1 6, s), (m, (([.ref v0, .int v1, .int v2, .ref v3] : List Value).map (hm_tv ad)).toArray, below, meth, c), (dC, dI, dA, ad, hm_An ad n s.heap.size), (n, S, 5, 0, 0)) := ⟨_, rfl⟩
  have hC : hm_C X RL cL_clouded 5 (some .int) 41 n S := by rw [hX]; exact hC0 0 0 (by decide) (by decide)
  have goal : hm_U X 0 [(0, .ref v0), (1, .int v1), (2, .int v2), (3, .ref v3)] [] M (vx_MQ below (hm_Qc dC dI dA ad n S (hm_An ad n s.heap.size) (some (.int 1)) M) (fun _ _ _ => False) (([.ref v0, .int v1, .int v2, .ref v3] : List Value).map (hm_tv ad)).toArray s 1 6 (hm_An ad n s.heap.size)) := by
    refine jv_aload_n hC 3 dL_clouded_0 rfl ?_
    refine jv_iconst hC (v := 0) dL_clouded_1 (by decide) ?_
    refine jv_aload_n hC 0 dL_clouded_2 rfl ?_
    refine jv_iload_n hC 1 dL_clouded_3 rfl ?_
    refine jv_iload_n hC 2 dL_clouded_4 rfl ?_
    refine jv_pc 5 rfl ?_
    subst hX
    intro H locs la hP1 hS1 hl1
    refine kl_call (v3 := v3) (Nat.le_refl _) hC hTh hs (Nat.le_refl _) (Nat.le_refl _) (kx_thrown (Nat.le_refl _) hB l htr dC dI dA ad H.size) hP1 hS1 hl1.1 ?_ ?_
    · intro v st₀ t locs1 h0 hq
      exact hq.elim
    · intro q st₀ t locs1 E ce h0 hx hce hcv hcl hk
      obtain ⟨rfl, hPt, hFt⟩ := hx
      have hS9 := hk hFt
      refine vx_catch (own := RL) (name := hm_NSE) (E := hm_NSE) (findClass_of_methodNamed B.named) [] { startPc := 0, endPc := 10, handlerPc := 13, catchType := 13 } [] (by rw [htab]; rfl) (fun _ h => nomatch h) (by decide) (by decide) (hts _ (List.mem_cons_of_mem _ cx_law)) (hTh.2.2.2.1.use rfl) hce hcv hcl ?_
      refine lv_astore (x := q) B.exec B.bytes dL_clouded_13 hl1 (by decide) rfl (fun la' hl' => ?_)
      refine lv_iconst (v := 1) B.exec B.bytes dL_clouded_15 (by decide) ?_
      exact vx_ret (W.iret B.exec B.bytes B.returns (fun t' ht hW => ⟨rfl, by rw [ht]; exact hPt, hS9.F ht⟩) hS9.2.2 dL_clouded_16 B.notSynchronized)
  subst hX
  exact goal s.heap [] _ hP va_S.rf hl
