/-! CHAPEL: the line of a pane -/
def SN (D p b k : Nat) : Prop := (b = 3 ∧ k ≠ 1) ∨ (b = 2 ∧ k = 3) ∨ (D + 4 ≤ b ∧ b ≤ D + 7 ∧ k = p) ∨ (b = D ∧ k = 4)
def QN (p b k : Nat) : Prop := (b = 76 ∧ (k = 7 ∨ k = 8)) ∨ (b = 82 ∧ (k = 84 ∨ (97 + 4 * p ≤ k ∧ k ≤ 100 + 4 * p)))
theorem lpane_ok {c : Nat} (hc : c = 5 ∨ c = 20) {t : Nat → Nat} {n T i g p e f : Nat} {law : Law} {N M : hn} (hK : atK t n i N) (hM : bM t n T i M) (hd : dX t n (25 - c) i g p e f law N M) (hk : kd t n (sT t n i) = 132) :
    lOut t n T (25 - c) i N M (F_Reader_readPane c N) (hvN (F_Md_readPane c M) fun M1 => F_Md_takeSign c (59 : Int32) M1) := by
  obtain ⟨iT, sn⟩ := tok_in hM.1 hM.2.2.2.2.2.2 (by omega)
  obtain ⟨x0, x1, x2, x3, x4, x5, x6, x7, x8, x9⟩ := hd
  have hT := hM.T
  have y84 : hn_ix 160 (84 : Int32) = true := by decide
  have t84 : (84 : Int32).toNatClampNeg = 84 := rfl
  have p12 := x6.1
  have g6 := x5.1
  have cp : (nI p).toNatClampNeg = p := nI_lt31 (by omega)
  have e7 := hM.2.2.2.2.1
  have z1 : ¬ (1 : Int32) = 0 := by decide
  have toP : ∀ {N' : hn}, fr (SN (25 - c) p) L3 N N' → fr (PS (25 - c)) (PL (25 - c)) N N' := fun h => h.mono (fun b k y => by unfold SN at y; unfold PS; omega) (fun b k y => by unfold L3 at y; unfold PL; omega)
  have toM : ∀ {M' : hn}, fr (QN p) NL M M' → fr MS ML M M' := fun h => h.mono (fun b k y => by unfold QN at y; unfold MS; omega) (fun b k y => y.elim)
  have r2 : ∀ {N' N'' : hn}, fr R0 L3 N' N'' → fr (SN (25 - c) p) L3 N' N'' := fun h => h.mono (fun b k y => by unfold R0 at y; unfold SN; omega) (fun b k y => y)
  by_cases q6 : p = 12
  · have l6 : ¬ nI p < (12 : Int32) := fun y => by have := (nI_lti (b := 12) (by omega) (by decide)).mp y; omega
    have m6 : nI p = (12 : Int32) := by rw [q6]; rfl
    have bb := bad16 hM (f := 5) (by omega) (by omega)
    have w3 : F_Md_wrong c (5 : Int32) M = some (hn_wI M 76 8 (nI (5 + 16 * sT t n i))) := wrong_b (f := 5) hM
    have ts := takeSign_bad (c := c) (v := 59) (M := hn_wI M 76 8 (nI (5 + 16 * sT t n i))) wI_s bb.1 bb.2
    refine ⟨5, N, _, ?_, ?_, fr.refl, fr.wI (by unfold MS; omega), Or.inr ⟨5, i, by omega, by omega, rfl, hM.2.2.2.2.2.2, hK.2.1, wI_s⟩⟩
    · simp only [F_Reader_readPane, x4.1, hl_e, l6, ↓reduceIte]
    · simp only [F_Md_readPane, y84, hg_T, t84, x4.2, hl_e, m6, ↓reduceIte, w3, hvN_e, ts]
  · have pl : p < 12 := by omega
    have xp : hn_ix 12 (nI p) = true := ix_ok (by omega) (by decide)
    have l6 : nI p < (12 : Int32) := (nI_lti (b := 12) (by omega) (by decide)).mpr pl
    have m6 : ¬ nI p = (12 : Int32) := nI_ni (b := 12) (by omega) (by decide) (by omega)
    have x97 : hn_ix 160 (nI (97 + 4 * p)) = true := ix_ok (by omega) (by decide)
    have c97 : (nI (97 + 4 * p)).toNatClampNeg = 97 + 4 * p := nI_lt31 (by omega)
    obtain ⟨N1, d1, d2, d3⟩ := next_K (c := c) hK sn
    obtain ⟨M1, hM1e⟩ : ∃ M1, M1 = hn_wI M 76 7 (nI (i + 1)) := ⟨_, rfl⟩
    have hM1 : bM t n T (i + 1) M1 := by rw [hM1e]; exact hM.n iT
    have G1 : fr (QN p) NL M M1 := by rw [hM1e]; exact fr.wI (by unfold QN; omega)
    have F1 : fr (SN (25 - c) p) L3 N N1 := r2 (r0_o3 d2)
    have cA : F_Reader_readPane c N = hbN (F_Reader_takeNumber c (0 : Int32) (7 : Int32) N1) fun r4 N3 => (if r4 = 0 then hl (hn_wI N3 ((25 - c) + 4) p (N3.1 2 3)) fun N5 => hbN (xRow c (nI p) N5) fun r7 N6 => xP1 c (nI p) r7 N6 else xP1 c (nI p) r4 N3) := by
      simp only [F_Reader_readPane, x4.1, hl_e, l6, ↓reduceIte, d1, hvN_e, xp, hg_T, cp]
      rcases F_Reader_takeNumber c (0 : Int32) (7 : Int32) N1 with _ | ⟨r, N3⟩
      · rfl
      · by_cases q : r = 0
        · simp only [hbN_e, q, ↓reduceIte]
          exact xRow_eq xp cp (by rw [wI_s, wI_o (by omega)])
        · simp only [hbN_e, q, ↓reduceIte, B_Reader_readPane_2, xP1]
    have mA : F_Md_readPane c M = hbN (F_Md_takeNumber c (0 : Int32) (7 : Int32) M1) fun r5 N4 => hl (hn_wI N4 82 (97 + 4 * p) r5) fun N6 => F_Md_readPane_1 c hN (nI p) (nI (97 + 4 * p)) (0 : Int32) N6 := by
      simp only [F_Md_readPane, y84, hg_T, t84, x4.2, hl_e, m6, ↓reduceIte, e7, ← nI_succ, i97, x97, c97, ← hM1e]
    rw [cA, mA]
    rcases number_ok (c := c) (lo := 0) (hi := 7) d3 hM1 (by omega) (by omega) with ⟨a, N2, u1, u2, u3, u4, u5, u6, u7⟩ | ⟨f', u1, u2, u3, u4⟩
    rotate_left
    · have bb := bad16 hM1 (f := f') u1 u2
      have nz := nI_f5 u1 u2
      have u3' : F_Reader_takeNumber c (0 : Int32) (7 : Int32) N1 = some (nI f', N1) := u3
      have u4' : F_Md_takeNumber c (0 : Int32) (7 : Int32) M1 = some (0, hn_wI M1 76 8 (nI (f' + 16 * sT t n (i + 1)))) := u4
      have e8 : (hn_wI (hn_wI M1 76 8 (nI (f' + 16 * sT t n (i + 1)))) 82 (97 + 4 * p) 0).1 76 8 = nI (f' + 16 * sT t n (i + 1)) := by rw [wI_o (by decide)]; exact wI_s
      obtain ⟨M', e1, e2, e3⟩ := rp2_bad (c := c) pl e8 bb.1 bb.2
      have ts := takeSign_bad (c := c) (v := 59) e3 bb.1 bb.2
      refine ⟨nI f', N1, M', ?_, ?_, toP F1, (((toM G1).trans (fr.wI (by unfold MS; omega))).trans (fr.wI (by unfold MS; omega))).trans e2, Or.inr ⟨f', i + 1, u1, u2, rfl, hM1.2.2.2.2.2.2, d3.2.1, e3⟩⟩
      · simp only [u3', hbN_e, nz, ↓reduceIte, xP1, B_Reader_readPane_3, B_Reader_readPane_4, B_Reader_readPane_5, B_Reader_readPane_6, B_Reader_readPane_7]
      · simp only [u4', hbN_e, hl_e, rp1_bad p12 e8 bb.1 bb.2, e1, hvN_e, ts]
    · obtain ⟨F2, v23⟩ := r0_num u5
      have u4' : F_Reader_takeNumber c (0 : Int32) (7 : Int32) N1 = some (0, N2) := u4
      have u7' : F_Md_takeNumber c (0 : Int32) (7 : Int32) M1 = some (nI a, hn_wI M1 76 7 (nI (i + 1 + 1))) := u7
      obtain ⟨N3, hN3e⟩ : ∃ N3, N3 = hn_wI N2 (25 - c + 4) p (nI a) := ⟨_, rfl⟩
      obtain ⟨M3, hM3e⟩ : ∃ M3, M3 = hn_wI (hn_wI M1 76 7 (nI (i + 1 + 1))) 82 (97 + 4 * p) (nI a) := ⟨_, rfl⟩
      have hK3 : atK t n (i + 2) N3 := by rw [hN3e]; exact u6.w (by omega) (by omega)
      have hM3 : bM t n T (i + 2) M3 := by rw [hM3e]; exact (hM1.n (by omega)).w (by decide) (by decide) (by decide)
      have F3 : fr (SN (25 - c) p) L3 N N3 := by rw [hN3e]; exact (F1.trans (r2 F2)).trans (fr.wI (by unfold SN; omega))
      have G3 : fr (QN p) NL M M3 := by rw [hM3e]; exact (G1.trans (fr.wI (by unfold QN; omega))).trans (fr.wI (by unfold QN; omega))
      have cV : N3.1 (25 - c + 4) p = nI a := by rw [hN3e]; exact wI_s
      have mV : M3.1 82 (97 + 4 * p) = nI a := by rw [hM3e]; exact wI_s
      rcases prow_ok (c := c) hc hK3 hM3 pl (by rw [hN3e, wI_o (by omega), F2.1 _ _ (by unfold R0; omega), d2.1 _ (by omega)]; exact x4.1) (x6.fr (Nat.le_refl _) F3 G3 (fun j b _ _ _ => by unfold SN; omega) (fun j b _ _ _ => by unfold QN; omega)) cV mV (by omega) with ⟨b, N4, w1, w2, w3, w4, w5, w6⟩ | ⟨f', M', w1, w2, w3, w4, w5, w6⟩
      rotate_left
      · have bb := bad16 hM3 w1 w2
        have nz := nI_f5 w1 w2
        have ts := takeSign_bad (c := c) (v := 59) w6 bb.1 bb.2
        refine ⟨nI f', N3, M', ?_, ?_, toP F3, (toM G3).trans w5, Or.inr ⟨f', i + 2, w1, w2, rfl, hM3.2.2.2.2.2.2, hK3.2.1, w6⟩⟩
        · simp only [u4', hbN_e, ↓reduceIte, v23, hl_e, ← hN3e, w3, nz, xP1, B_Reader_readPane_3, B_Reader_readPane_4, B_Reader_readPane_5, B_Reader_readPane_6, B_Reader_readPane_7]
        · simp only [u7', hbN_e, hl_e, ← hM3e, w4, hvN_e, ts]
      · obtain ⟨N5, hN5e⟩ : ∃ N5, N5 = hn_wI N4 (25 - c + 5) p (nI b) := ⟨_, rfl⟩
        obtain ⟨M5, hM5e⟩ : ∃ M5, M5 = hn_wI (hn_wI M3 76 7 (nI (i + 2 + 1))) 82 (98 + 4 * p) (nI b) := ⟨_, rfl⟩
        have hK5 : atK t n (i + 3) N5 := by rw [hN5e]; exact w5.w (by omega) (by omega)
        have hM5 : bM t n T (i + 3) M5 := by rw [hM5e]; exact (hM3.n (by omega)).w (by decide) (by decide) (by decide)
        have F5 : fr (SN (25 - c) p) L3 N N5 := by rw [hN5e]; exact (F3.trans (r2 w4)).trans (fr.wI (by unfold SN; omega))
        have G5 : fr (QN p) NL M M5 := by rw [hM5e]; exact (G3.trans (fr.wI (by unfold QN; omega))).trans (fr.wI (by unfold QN; omega))
        have cV5 : N5.1 (25 - c + 4) p = nI a := by rw [hN5e, wI_o (by omega), w4.1 _ _ (by unfold R0; omega)]; exact cV
        have cW5 : N5.1 (25 - c + 5) p = nI b := by rw [hN5e]; exact wI_s
        have mV5 : M5.1 82 (97 + 4 * p) = nI a := by rw [hM5e, wI_n (by omega), wI_o (by decide)]; exact mV
        have mW5 : M5.1 82 (98 + 4 * p) = nI b := by rw [hM5e]; exact wI_s
        rw [← hN5e] at w3
        have cB : ∀ K : Int32 → hn → Option (Int32 × hn), hbN (F_Reader_takeNumber c (0 : Int32) (7 : Int32) N1) (fun r4 N3 => (if r4 = 0 then hl (hn_wI N3 ((25 - c) + 4) p (N3.1 2 3)) fun N5 => hbN (xRow c (nI p) N5) fun r7 N6 => K r7 N6 else K r4 N3)) = K 0 N5 := by
          intro K
          simp only [u4', hbN_e, ↓reduceIte, v23, hl_e, ← hN3e, w3]
        have mB : hbN (F_Md_takeNumber c (0 : Int32) (7 : Int32) M1) (fun r5 N4 => hl (hn_wI N4 82 (97 + 4 * p) r5) fun N6 => F_Md_readPane_1 c hN (nI p) (nI (97 + 4 * p)) (0 : Int32) N6) = hvN (F_Md_takeWord c (5 : Int32) M5) fun N4 => pTg c p N4 := by
          simp only [u7', hbN_e, hl_e, ← hM3e, w6, pT2, ← hM5e]
        rw [cB (fun r N6 => xP1 c (nI p) r N6), mB]
        rcases word_ok (c := c) (w := 5) hK5 hM5 (by omega) with ⟨iT5, N6, o1, o2, o3, o4⟩ | ⟨o1, o4⟩
        rotate_left
        · have bb := bad16 hM5 (f := 1) (by omega) (by omega)
          have o1' : F_Reader_take c (133 : Int32) N5 = some (1, N5) := o1
          have o4' : F_Md_takeWord c (5 : Int32) M5 = some (hn_wI (hn_wI M5 76 7 (nI (i + 3))) 76 8 (nI (1 + 16 * sT t n (i + 3)))) := o4
          have e8 : (hn_wI (hn_wI M5 76 7 (nI (i + 3))) 76 8 (nI (1 + 16 * sT t n (i + 3)))).1 76 8 = nI (1 + 16 * sT t n (i + 3)) := wI_s
          have ts := takeSign_bad (c := c) (v := 59) e8 bb.1 bb.2
          refine ⟨1, N5, _, ?_, ?_, toP F5, ((toM G5).trans (fr.wI (by unfold MS; omega))).trans (fr.wI (by unfold MS; omega)), Or.inr ⟨1, i + 3, by omega, by omega, rfl, hM5.2.2.2.2.2.2, hK5.2.1, e8⟩⟩
          · simp only [↓reduceIte, xP1, o1', hbN_e, z1, B_Reader_readPane_3, B_Reader_readPane_4, B_Reader_readPane_5, B_Reader_readPane_6, B_Reader_readPane_7]
          · simp only [o4', hvN_e, pTg, e8, bad8 bb.1 bb.2, ↓reduceIte, B_Md_readPane_3, rp4_bad e8 bb.1 bb.2, ts]
        · have o1' : F_Reader_take c (133 : Int32) N5 = some (0, N6) := o1
          have o4' : F_Md_takeWord c (5 : Int32) M5 = some (hn_wI M5 76 7 (nI (i + 3 + 1))) := o4
          obtain ⟨M6, hM6e⟩ : ∃ M6, M6 = hn_wI M5 76 7 (nI (i + 3 + 1)) := ⟨_, rfl⟩
          have hM6 : bM t n T (i + 4) M6 := by rw [hM6e]; exact hM5.n iT5
          have F6 : fr (SN (25 - c) p) L3 N N6 := F5.trans (r2 (r0_o3 o2))
          have G6 : fr (QN p) NL M M6 := by rw [hM6e]; exact G5.trans (fr.wI (by unfold QN; omega))
          rcases giver_ok (c := c) (p := p) hc o3 hM6 pl (by rw [F6.1 _ _ (by unfold SN; omega)]; exact x3.1) (by rw [G6.1 _ _ (by unfold QN; omega)]; exact x3.2) (x5.fr F6 G6 (fun j _ => by unfold SN L3; omega) (fun j _ => ⟨by unfold QN; omega, by unfold QN; omega, id⟩)) with ⟨x, N7, j1, j2, j3, j4, j5, j6⟩ | ⟨f', M', j1, j2, j3, j4, j5, j6⟩
          rotate_left
          · have bb := bad16 hM6 j1 j2
            have nz := nI_f5 j1 j2
            have ts := takeSign_bad (c := c) (v := 59) j6 bb.1 bb.2
            refine ⟨nI f', N6, M', ?_, ?_, toP F6, (toM G6).trans j5, Or.inr ⟨f', i + 4, j1, j2, rfl, hM6.2.2.2.2.2.2, o3.2.1, j6⟩⟩
            · simp only [↓reduceIte, xP1, o1', hbN_e, B_Reader_readPane_3, j3, nz, B_Reader_readPane_4, B_Reader_readPane_5, B_Reader_readPane_6, B_Reader_readPane_7]
            · simp only [o4', hvN_e, ← hM6e, j4, ts]
          · obtain ⟨M7, hM7e⟩ : ∃ M7, M7 = hn_wI (hn_wI M6 82 (99 + 4 * p) (nI x)) 76 7 (nI (i + 4 + 1)) := ⟨_, rfl⟩
            rw [← hM7e] at j6
            have hM7 : bM t n T (i + 5) M7 := by rw [hM7e]; exact (hM6.w (by decide) (by decide) (by decide)).n j2
            have F7 : fr (SN (25 - c) p) L3 N N7 := (F6.trans (fr.wI (by unfold SN; omega))).trans (r2 (r0_o3 j4))
            have G7 : fr (QN p) NL M M7 := by rw [hM7e]; exact (G6.trans (fr.wI (by unfold QN; omega))).trans (fr.wI (by unfold QN; omega))
            have cV7 : N7.1 (25 - c + 4) p = nI a := by rw [j4.1 _ (by omega), wI_o (by omega), o2.1 _ (by omega)]; exact cV5
            have cW7 : N7.1 (25 - c + 5) p = nI b := by rw [j4.1 _ (by omega), wI_o (by omega), o2.1 _ (by omega)]; exact cW5
            have cX7 : N7.1 (25 - c + 6) p = nI x := by rw [j4.1 _ (by omega)]; exact wI_s
            have mV7 : M7.1 82 (97 + 4 * p) = nI a := by rw [hM7e, wI_o (by decide), wI_n (by omega), hM6e, wI_o (by decide)]; exact mV5
            have mW7 : M7.1 82 (98 + 4 * p) = nI b := by rw [hM7e, wI_o (by decide), wI_n (by omega), hM6e, wI_o (by decide)]; exact mW5
            have mX7 : M7.1 82 (99 + 4 * p) = nI x := by rw [hM7e, wI_o (by decide)]; exact wI_s
            have cC : xP1 c (nI p) 0 N5 = B_Reader_readPane_4 c (nI p) 0 N7 := by
              simp only [↓reduceIte, xP1, o1', hbN_e, B_Reader_readPane_3, j3]
            have mC : (hvN (F_Md_takeWord c (5 : Int32) M5) fun N4 => pTg c p N4) = pT4 c p M7 := by
              simp only [o4', hvN_e, ← hM6e, j6]
            rw [cC, mC]
            rcases after_ok (c := c) (w := 6) (lo := 1) (hi := 7) j5 hM7 (by omega) (by omega) (by omega) with ⟨o, N8, N9, b1, b2, b3, b4, b5, b6, b7, b8, b9⟩ | ⟨b1, M8, b2, b3, b4⟩ | ⟨f', N8, M8, b1, b2, b3, b4, b5, b6, b7, b8, b9, b10⟩
            · have b4' : F_Reader_take c (134 : Int32) N7 = some (0, N8) := b4
              have b5' : F_Reader_takeNumber c (1 : Int32) (7 : Int32) N8 = some (0, N9) := b5
              have b9' : F_Md_takeAfter c (6 : Int32) (1 : Int32) (7 : Int32) M7 = some (nI o, hn_wI (hn_wI M7 76 7 (nI (i + 5 + 1))) 76 7 (nI (i + 5 + 2))) := b9
              obtain ⟨F9, v29⟩ := r0_num b7
              have hK10 : atK t n (i + 7) (hn_wI N9 (25 - c + 7) p (nI o)) := b8.w (by omega) (by omega)
              have w84 : (hn_wI (hn_wI (hn_wI M7 76 7 (nI (i + 5 + 1))) 76 7 (nI (i + 5 + 2))) 82 (100 + 4 * p) (nI o)).1 82 84 = nI p := by
                rw [wI_n (by omega), wI_o (by decide), wI_o (by decide), hM7e, wI_o (by decide), wI_n (by omega), hM6e, wI_o (by decide), hM5e, wI_n (by omega), wI_o (by decide), hM3e, wI_n (by omega), wI_o (by decide), hM1e, wI_o (by decide)]; exact x4.2
              obtain ⟨M10, hM10e⟩ : ∃ M10, M10 = hn_wI (hn_wI (hn_wI (hn_wI M7 76 7 (nI (i + 5 + 1))) 76 7 (nI (i + 5 + 2))) 82 (100 + 4 * p) (nI o)) 82 84 (nI (p + 1)) := ⟨_, rfl⟩
              have hM10 : bM t n T (i + 7) M10 := by rw [hM10e]; exact (((hM7.n (i' := i + 6) (by omega)).n (i' := i + 7) (by omega)).w (by decide) (by decide) (by decide)).w (by decide) (by decide) (by decide)
              have F10 : fr (SN (25 - c) p) L3 N (hn_wI N9 (25 - c + 7) p (nI o)) := ((F7.trans (r2 (r0_o3 b6))).trans (r2 F9)).trans (fr.wI (by unfold SN; omega))
              have G10 : fr (QN p) NL M M10 := by rw [hM10e]; exact (((G7.trans (fr.wI (by unfold QN; omega))).trans (fr.wI (by unfold QN; omega))).trans (fr.wI (by unfold QN; omega))).trans (fr.wI (by unfold QN; omega))
              have mE : pT4 c p M7 = some M10 := by
                simp only [pT4, b9', hbN_e, pT5, hl_e, w84, ← nI_succ, ← hM10e]
              rcases end_ok (c := c) hK10 hM10 with ⟨iT8, N11, s1, s2, s3, s4⟩ | ⟨s1, s4⟩
              · have D4 : N11.1 (25 - c) 4 = nI p := by
                  rw [s2.1 _ (by omega), wI_o (by omega), F9.1 _ _ (by unfold R0; omega), b6.1 _ (by omega), j4.1 _ (by omega), wI_o (by omega), o2.1 _ (by omega), hN5e, wI_o (by omega), w4.1 _ _ (by unfold R0; omega), hN3e, wI_o (by omega), F2.1 _ _ (by unfold R0; omega), d2.1 _ (by omega)]; exact x4.1
                have FF : fr (SN (25 - c) p) L3 N (hn_wI N11 (25 - c) 4 (nI (p + 1))) := (F10.trans (r2 (r0_o3 s2))).trans (fr.wI (by unfold SN; omega))
                have GG := G10.trans (fr.wI (N := M10) (a := 76) (i := 7) (v := nI (i + 7 + 1)) (S := QN p) (L := NL) (by unfold QN; omega))
                refine ⟨0, hn_wI N11 (25 - c) 4 (nI (p + 1)), _, ?_, ?_, toP FF, toM GG, Or.inl ⟨rfl, i + 8, g, p + 1, e, f, law, by omega, s3.w (by omega) (by omega), hM10.n iT8, ?_⟩⟩
                · simp only [↓reduceIte, B_Reader_readPane_4, b4', hbN_e, B_Reader_readPane_5, b5', B_Reader_readPane_6, xp, hg_T, cp, v29, hl_e, s1, B_Reader_readPane_7, D4, ← nI_succ]
                · simp only [mE, hvN_e, s4]
                · refine ⟨x0.fr FF GG (by unfold SN; omega) (by unfold QN; omega), x1.fr FF GG (by unfold SN; omega) (by unfold QN; omega), x2.fr FF GG (by unfold SN; omega) (by unfold QN; omega), ⟨?_, ?_⟩, ⟨wI_s, ?_⟩,
                    x5.fr FF GG (fun j _ => by unfold SN L3; omega) (fun j _ => ⟨by unfold QN; omega, by unfold QN; omega, id⟩), ⟨pl, ?_⟩, ⟨by omega, by omega, ?_, ?_⟩, x8.fr FF GG (by unfold SN; omega) (by unfold QN; omega) (by unfold QN; omega),
                    x9.fr (Nat.le_refl _) (Nat.le_refl _) FF GG (fun j _ => by unfold SN; omega) (fun j _ => by unfold SN; omega) (fun j _ => by unfold QN; omega) (fun j _ => by unfold QN; omega)⟩
                  · rw [FF.1 _ _ (by unfold SN; omega)]; exact x3.1
                  · rw [GG.1 _ _ (by unfold QN; omega)]; exact x3.2
                  · rw [wI_o (by decide), hM10e]; exact wI_s
                  · intro j hj
                    by_cases qj : j = p
                    · subst qj
                      refine ⟨a, b, x, o, by omega, by omega, j1, by omega, ?_, ?_, ?_, ?_, ?_, ?_, ?_, ?_⟩
                      · rw [wI_o (by omega), s2.1 _ (by omega), wI_o (by omega), F9.1 _ _ (by unfold R0; omega), b6.1 _ (by omega)]; exact cV7
                      · rw [wI_o (by decide), hM10e, wI_n (by omega), wI_n (by omega), wI_o (by decide), wI_o (by decide)]; exact mV7
                      · rw [wI_o (by omega), s2.1 _ (by omega), wI_o (by omega), F9.1 _ _ (by unfold R0; omega), b6.1 _ (by omega)]; exact cW7
                      · rw [wI_o (by decide), hM10e, wI_n (by omega), wI_n (by omega), wI_o (by decide), wI_o (by decide)]; exact mW7
                      · rw [wI_o (by omega), s2.1 _ (by omega), wI_o (by omega), F9.1 _ _ (by unfold R0; omega), b6.1 _ (by omega)]; exact cX7
                      · rw [wI_o (by decide), hM10e, wI_n (by omega), wI_n (by omega), wI_o (by decide), wI_o (by decide)]; exact mX7
                      · rw [wI_o (by omega), s2.1 _ (by omega)]; exact wI_s
                      · rw [wI_o (by decide), hM10e, wI_n (by omega)]; exact wI_s
                    · exact (x6.fr (Nat.le_refl _) FF GG (fun j b _ _ _ => by unfold SN; omega) (fun j b _ _ _ => by unfold QN; omega)).2 j (by omega)
                  · rw [FF.1 _ _ (by unfold SN; omega)]; exact x7.2.2.1
                  · rw [GG.1 _ _ (by unfold QN; omega)]; exact x7.2.2.2
              · refine ⟨1, _, _, ?_, ?_, toP F10, toM (G10.trans (fr.wI (by unfold QN; omega))), Or.inr ⟨1, i + 7, by omega, by omega, rfl, hM10.2.2.2.2.2.2, hK10.2.1, wI_s⟩⟩
                · simp only [↓reduceIte, B_Reader_readPane_4, b4', hbN_e, B_Reader_readPane_5, b5', B_Reader_readPane_6, xp, hg_T, cp, v29, hl_e, s1, B_Reader_readPane_7, z1]
                · simp only [mE, hvN_e, s4]
            · have bb := bad16 hM7 (f := 1) (by omega) (by omega)
              obtain ⟨M9, e1, e2, e3⟩ := pT5_bad (p := p) (v := 0) b4
              have ts := takeSign_bad (c := c) (v := 59) e3 bb.1 bb.2
              have b1' : F_Reader_take c (134 : Int32) N7 = some (1, N7) := b1
              have b2' : F_Md_takeAfter c (6 : Int32) (1 : Int32) (7 : Int32) M7 = some (0, M8) := b2
              refine ⟨1, _, M9, ?_, ?_, toP F7, ((toM G7).trans b3).trans e2, Or.inr ⟨1, i + 5, by omega, by omega, rfl, hM7.2.2.2.2.2.2, j5.2.1, e3⟩⟩
              · simp only [↓reduceIte, B_Reader_readPane_4, b1', hbN_e, z1, B_Reader_readPane_5, B_Reader_readPane_6, B_Reader_readPane_7]
              · simp only [pT4, b2', hbN_e, e1, hvN_e, ts]
            · have bb := bad16 (hM7.n (i' := i + 6) (by omega)) (f := f') b1 b2
              have nz := nI_f5 b1 b2
              obtain ⟨M9, e1, e2, e3⟩ := pT5_bad (p := p) (v := 0) b10
              have ts := takeSign_bad (c := c) (v := 59) e3 bb.1 bb.2
              have b4' : F_Reader_take c (134 : Int32) N7 = some (0, N8) := b4
              have b5' : F_Reader_takeNumber c (1 : Int32) (7 : Int32) N8 = some (nI f', N8) := b5
              have b8' : F_Md_takeAfter c (6 : Int32) (1 : Int32) (7 : Int32) M7 = some (0, M8) := b8
              refine ⟨nI f', N8, M9, ?_, ?_, toP (F7.trans (r2 (r0_o3 b6))), ((toM G7).trans b9).trans e2, Or.inr ⟨f', i + 6, b1, b2, rfl, by omega, b7.2.1, e3⟩⟩
              · simp only [↓reduceIte, B_Reader_readPane_4, b4', hbN_e, B_Reader_readPane_5, b5', nz, B_Reader_readPane_6, B_Reader_readPane_7]
              · simp only [pT4, b8', hbN_e, e1, hvN_e, ts]
