/-! the resolved layer is right: mark and chapel -/
theorem mk_at {c : Nat} : ∀ k, k < 4 → hm_ib S0 59 (.object "PaneSpots$Hold") (nI k) = true ∧ rT c 59 k = 60 + 4 * k ∧ isHold (60 + 4 * k) := by
  intro k hk
  have h : k = 0 ∨ k = 1 ∨ k = 2 ∨ k = 3 := by omega
  rcases h with rfl | rfl | rfl | rfl
  · exact ⟨rfl, rfl, Or.inr (Or.inl rfl)⟩
  · exact ⟨rfl, rfl, Or.inr (Or.inr (Or.inl rfl))⟩
  · exact ⟨rfl, rfl, Or.inr (Or.inr (Or.inr (Or.inl rfl)))⟩
  · exact ⟨rfl, rfl, Or.inr (Or.inr (Or.inr (Or.inr rfl)))⟩
theorem hb_s' {α β : Type} {r : α} {M : hm_M} {k : α → hm_M → Option β} : hb (some (r, M)) k = k r M := Eq.trans (Eq.refl _) (Eq.refl _)
theorem hv_s' {β : Type} {M : hm_M} {k : hm_M → Option β} : hv (some M) k = k M := Eq.trans (Eq.refl _) (Eq.refl _)
theorem q_Ps_mark {c : Nat} (hc : isChap c) {v1 : Int32} {v2 : Int32} {N : hn} : f_Ps_mark S0 1 v1 v2 (N.1, N.2, rT c) = em c (F_Ps_mark c v1 v2 N) := by
  by_cases g1 : v1 < 0
  · simp only [f_Ps_mark, F_Ps_mark, g1, ↓reduceIte, em_s']
  · by_cases g2 : v1 < (4 : Int32)
    · obtain ⟨k, hk, rfl⟩ := i32_in (n := 4) g1 (fun y => by have := fa_trans g2 y; exact absurd this (by rw [fa_lt]; omega)) (by decide)
      obtain ⟨b1, b2, b3⟩ := mk_at (c := c) k hk
      have ck : (nI k).toNatClampNeg = k := nI_lt31 (by omega)
      have nz : (60 + 4 * k = 0) = False := eq_false (by omega)
      have n8 : (59 = 0) = False := eq_false (by decide)
      have n2 : (36 = 0) = False := eq_false (by decide)
      have n3 : (40 = 0) = False := eq_false (by decide)
      unfold f_Ps_mark F_Ps_mark
      simp only [my_ite, my_hg]
      simp only [g1, g2, my_T, my_F, ck, rT_1_8, rT_1_2, rT_1_3, b1, b2, b3, nz, n8, n2, n3, ne_eq, not_false_eq_true, S0_1, S0_h, isHold_36, q_Hold_copy hc, hv_em, hl_wI', em_my, em_v, em_l', em_s', q_History_forget hc, S0_40]
    · simp only [f_Ps_mark, F_Ps_mark, g1, g2, ↓reduceIte, em_s']
theorem fill35 {I : Nat → Nat → Int32} {L : Nat → Nat → Int64} {R : Nat → Nat → Nat} : f_J7_fill_d0a16 S0 35 (0 : Int64) (I, L, R) = some (I, (fun b k => if b = 35 ∧ k < 2496 then 0 else L b k), R) := by
  have l1 : hm_len S0 35 .long = 2496 := rfl
  have n0 : (2496 : Nat) ≠ 0 := by decide
  have e0 : f_J7_fill_d0a16 S0 35 (0 : Int64) (I, L, R) = f_J7_fill_d0a16_1 S0 hN 35 (0 : Int64) (0 : Int32) (nI 2496) (I, L, R) := by
    unfold f_J7_fill_d0a16
    have en : Int32.ofNat 2496 = nI 2496 := rfl
    rw [l1, hg_pos n0, hl_e, en]
  rw [e0]
  refine it_wp (B := b_J7_fill_d0a16_1 S0) (z := fun _ _ _ _ _ => none) (fun K j (s : Nat → Nat → Int64) => K 35 (0 : Int64) (nI j) (nI 2496) (I, s, R)) 2496
    (fun j s => s = fun b k => if b = 35 ∧ k < j then 0 else L b k)
    (Q := fun y => y = some (I, (fun b k => if b = 35 ∧ k < 2496 then 0 else L b k), R)) ?_ ?_ (n := hN) (k := 0) (s := L) (Nat.zero_le _) (hN_big (by omega)) ?_
  · intro K s hs
    have g : nI 2496 ≤ nI 2496 := by decide
    simp only [b_J7_fill_d0a16_1, g, ↓reduceIte, hs]
  · intro K j s hj hs
    right
    have g : ¬ nI 2496 ≤ nI j := fun z => by have := (nI_lei (by omega) (by omega)).mp z; omega
    have xj : hm_ib S0 35 .long (nI j) = true := by rw [ib_35]; exact ix_ok (by omega) (by decide)
    have cj : (nI j).toNatClampNeg = j := nI_lt31 (by omega)
    refine ⟨hm_up s 35 j 0, ?_, ?_⟩
    · rw [hs]
      funext b k
      unfold hm_up
      by_cases y : b = 35 ∧ k = j
      · rw [if_pos y, if_pos ⟨y.1, by omega⟩]
      · rw [if_neg y]
        show (if b = 35 ∧ k < j then 0 else L b k) = _
        by_cases z : b = 35 ∧ k < j
        · rw [if_pos z, if_pos ⟨z.1, by omega⟩]
        · rw [if_neg z, if_neg (fun w => by
            have : ¬ k = j := fun u => y ⟨w.1, u⟩
            exact z ⟨w.1, by omega⟩)]
    · simp only [b_J7_fill_d0a16_1, g, ↓reduceIte, xj, hg_pos, cj, hl_e, hm_wL, ← nI_succ]
  · funext b k
    rw [if_neg (fun w => by omega)]
theorem rT_sw {c : Nat} (hc : isChap c) : hm_up (hm_up (rT c) 19 0 (25 - c)) 2 1 c = rT (25 - c) := by
  have hcc : c = 5 ∨ c = 20 := hc
  funext a k
  unfold hm_up
  by_cases y : a = 2 ∧ k = 1
  · rw [if_pos y, y.1, y.2, rT_2_1]; omega
  · rw [if_neg y]
    by_cases z : a = 19 ∧ k = 0
    · rw [if_pos z, z.1, z.2, rT_19_0]
    · rw [if_neg z]
      unfold rT
      split <;> first | rfl | exact absurd ⟨rfl, rfl⟩ y | exact absurd ⟨rfl, rfl⟩ z
theorem q_Ps_chapel {c : Nat} (hc : isChap c) {N N1 : hn} {r : Int32} (h : F_Ps_chapel c N = some (r, N1)) : f_Ps_chapel S0 1 (N.1, N.2, rT c) = some (r, (N1.1, N1.2, rT (if r = 0 then 25 - c else c))) := by
  have hcc : c = 5 ∨ c = 20 := hc
  have n2 : (2 : Nat) ≠ 0 := by decide
  have n19 : (19 : Nat) ≠ 0 := by decide
  have n35 : (35 : Nat) ≠ 0 := by decide
  have n36 : (36 : Nat) ≠ 0 := by decide
  have n40 : (40 : Nat) ≠ 0 := by decide
  have n43 : (43 : Nat) ≠ 0 := by decide
  have nc : c ≠ 0 := by omega
  have nd : 25 - c ≠ 0 := by omega
  unfold F_Ps_chapel at h
  have qr := q_Reader_readAll hc (N := N)
  cases e : F_Reader_readAll c N with
  | none => rw [e] at h; exact absurd h (by simp [hbN])
  | some p =>
    obtain ⟨r0, Na⟩ := p
    rw [e, hbN_e] at h
    rw [e, em_s'] at qr
    unfold f_Ps_chapel
    simp only [rT_1_0, hg_pos S0_1, hg_pos n2, hg_pos S0_2, qr, hb_s']
    by_cases q : r0 = 0
    · rw [if_pos q] at h ⊢
      simp only [rT_1_1, rT_2_1, hg_pos n19, hg_pos nd, hg_pos S0_19]
      have en : f_Light_enter S0 19 (25 - c) (Na.1, Na.2, rT c) = some (c, ((eN0 (hn_wI Na 19 3 (-1 : Int32))).1, (eN0 (hn_wI Na 19 3 (-1 : Int32))).2, hm_up (rT c) 19 0 (25 - c))) := by
        have r2 : hm_up (rT c) 19 0 (25 - c) 19 2 = 35 := by unfold hm_up; rw [if_neg (by decide), rT_19_2]
        unfold f_Light_enter
        simp only [hg_pos S0_19, rT_19_0, hg_pos nc, hl_e, hg_pos nd, hm_wR, hm_wI, r2, hg_pos n35, fill35, hv_s']
        rfl
      rw [en, hb_s', hg_pos nc, hl_e]
      have wr : hm_wR ((eN0 (hn_wI Na 19 3 (-1 : Int32))).1, (eN0 (hn_wI Na 19 3 (-1 : Int32))).2, hm_up (rT c) 19 0 (25 - c)) 2 1 c = ((eN0 (hn_wI Na 19 3 (-1 : Int32))).1, (eN0 (hn_wI Na 19 3 (-1 : Int32))).2, rT (25 - c)) := by
        unfold hm_wR
        rw [rT_sw hc]
      rw [wr]
      simp only [rT_1_2, rT_1_1, rT_19_0, hg_pos n36, hg_pos n19, hg_pos S0_19, hg_pos nd, hg_pos (S0_h isHold_36), q_Hold_begin hc.d isHold_36 hc.d]
      cases e4 : F_Hold_begin (25 - c) 36 (25 - c) (eN0 (hn_wI Na 19 3 (-1 : Int32))) with
      | none => rw [e4] at h; exact absurd h (by simp [hvN])
      | some N4 =>
        rw [e4, hvN_e] at h
        rw [emv_s', hv_s']
        simp only [rT_1_3, hg_pos n40, hg_pos S0_40, q_History_forget hc.d]
        cases e5 : F_History_forget (25 - c) N4 with
        | none => rw [e5] at h; exact absurd h (by simp [hvN])
        | some N5 =>
          rw [e5, hvN_e] at h
          rw [emv_s', hv_s']
          simp only [rT_1_4, hg_pos n43, hg_pos S0_43, q_Rents_forget hc.d]
          cases e6 : F_Rents_forget (25 - c) N5 with
          | none => rw [e6] at h; exact absurd h (by simp [hvN])
          | some N6 =>
            rw [e6, hvN_e] at h
            rw [emv_s', hv_s', hl_e]
            simp only [Option.some.injEq, Prod.mk.injEq] at h
            obtain ⟨rfl, rfl⟩ := h
            rw [if_pos q]
            rfl
    · rw [if_neg q] at h ⊢
      simp only [Option.some.injEq, Prod.mk.injEq] at h
      obtain ⟨rfl, rfl⟩ := h
      rw [if_neg q]
