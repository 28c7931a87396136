/-! CHAPEL: the line of the floor -/
theorem lfloor_ok {c : Nat} (hc : c = 5 ∨ c = 20) {t : Nat → Nat} {n T i g p e f : Nat} {law : Law} {N M : hn} (hK : atK t n i N) (hM : bM t n T i M) (hd : dX t n (25 - c) i g p e f law N M) (hk : kd t n (sT t n i) = 128) :
    lOut t n T (25 - c) i N M (F_Reader_readFloor c N) (hvN (F_Md_readFloor c M) fun M1 => F_Md_takeSign c (59 : Int32) M1) := by
  obtain ⟨iT, sn⟩ := tok_in hM.1 hM.2.2.2.2.2.2 (by omega)
  obtain ⟨x0, x1, x2, x3, x4, x5, x6, x7, x8, x9⟩ := hd
  have y80 : hn_ix 160 (80 : Int32) = true := by decide
  have t80 : (80 : Int32).toNatClampNeg = 80 := rfl
  have y81 : hn_ix 160 (81 : Int32) = true := by decide
  have t81 : (81 : Int32).toNatClampNeg = 81 := rfl
  rcases once_ok (c := c) (m := 0) hK hk (by omega) sn with ⟨b, d1⟩ | ⟨b, N1, v, d1, d2, d3, d4⟩
  · have g15 : ¬ M.1 76 15 = 0 := x8.1.mp b
    have bb := bad16 hM (f := 3) (by omega) (by omega)
    have w3 : F_Md_wrong c (3 : Int32) M = some (hn_wI M 76 8 (nI (3 + 16 * sT t n i))) := wrong_b (f := 3) hM
    have ts := takeSign_bad (c := c) (v := 59) (M := hn_wI M 76 8 (nI (3 + 16 * sT t n i))) wI_s bb.1 bb.2
    have z3 : ¬ (3 : Int32) = 0 := by decide
    refine ⟨3, N, _, ?_, ?_, fr.refl, fr.wI (by unfold MS; omega), Or.inr ⟨3, i, by omega, by omega, rfl, hM.2.2.2.2.2.2, hK.2.1, wI_s⟩⟩
    · simp only [F_Reader_readFloor, B_Reader_readFloor_1, B_Reader_readFloor_2, d1, hbN_e, z3, ↓reduceIte]
    · simp only [F_Md_readFloor, g15, ↓reduceIte, w3, hvN_e, ts]
  · have g15 : M.1 76 15 = 0 := Decidable.byContradiction fun y => by have := x8.1.mpr y; rw [b] at this; exact absurd this (by decide)
    have hM1' : bM t n T (i + 1) (hn_wI (hn_wI M 76 15 1) 76 7 (nI (i + 1))) := (hM.f (by decide) (by decide)).n iT
    have e7 : (hn_wI M 76 15 (1 : Int32)).1 76 7 = nI i := by rw [wI_n (by decide)]; exact hM.2.2.2.2.1
    have F1 : fr (S2 (25 - c) 0 2) L3 N N1 := (fr.wI (by unfold S2; omega)).trans (fr.o3 d2 (fun k hk => by unfold S2; omega) (fun _ => rfl))
    have toP : ∀ {N' : hn}, fr (S2 (25 - c) 0 2) L3 N N' → fr (PS (25 - c)) (PL (25 - c)) N N' := fun h => h.mono (fun b k y => by unfold S2 at y; unfold PS; omega) (fun b k y => by unfold L3 at y; unfold PL; omega)
    have toM : ∀ {M' : hn}, fr (Q2 15 80 82) NL M M' → fr MS ML M M' := fun h => h.mono (fun b k y => by unfold Q2 at y; unfold MS; omega) (fun _ _ y => y.elim)
    have r2 : ∀ {N' N'' : hn}, fr R0 L3 N' N'' → fr (S2 (25 - c) 0 2) L3 N' N'' := fun h => h.mono (fun b k y => by unfold R0 at y; unfold S2; omega) (fun _ _ y => y)
    have G1' : fr (Q2 15 80 82) NL M (hn_wI (hn_wI M 76 15 1) 76 7 (nI (i + 1))) := (fr.wI (by unfold Q2; omega)).trans (fr.wI (by unfold Q2; omega))
    obtain ⟨M1, hM1e⟩ : ∃ M1, M1 = hn_wI (hn_wI M 76 15 1) 76 7 (nI (i + 1)) := ⟨_, rfl⟩
    have hM1 : bM t n T (i + 1) M1 := by rw [hM1e]; exact hM1'
    have G1 : fr (Q2 15 80 82) NL M M1 := by rw [hM1e]; exact G1'
    have v15 : M1.1 76 15 = 1 := by rw [hM1e, wI_n (by decide)]; exact wI_s
    have mA : F_Md_readFloor c M = hbN (F_Md_takeNumber c (1 : Int32) (8 : Int32) M1) fun r4 N3 => hl (hn_wI N3 82 80 r4) fun N5 => hbN (F_Md_takeNumber c (1 : Int32) (8 : Int32) N5) fun r7 N6 => hl (hn_wI N6 82 81 r7) fun N8 => some N8 := by
      simp only [F_Md_readFloor, g15, ↓reduceIte, hl_e, e7, ← nI_succ, y80, t80, y81, t81, hg_T, hM1e]
    rw [mA]
    have cA : F_Reader_readFloor c N = hbN (F_Reader_takeNumber c (1 : Int32) (8 : Int32) N1) fun r4 N3 => B_Reader_readFloor_1 c r4 N3 := by
      simp only [F_Reader_readFloor, d1, hbN_e, ↓reduceIte]
    rw [cA]
    rcases number_ok (c := c) (lo := 1) (hi := 8) d3 hM1 (by omega) (by omega) with ⟨a, N2, u1, u2, u3, u4, u5, u6, u7⟩ | ⟨f', u1, u2, u3, u4⟩
    · obtain ⟨F2, v23⟩ := r0_num u5
      have u4' : F_Reader_takeNumber c (1 : Int32) (8 : Int32) N1 = some (0, N2) := u4
      have u7' : F_Md_takeNumber c (1 : Int32) (8 : Int32) M1 = some (nI a, hn_wI M1 76 7 (nI (i + 1 + 1))) := u7
      have hK3 : atK t n (i + 2) (hn_wI N2 (25 - c) 0 (nI a)) := u6.w (by omega) (by omega)
      have hM3' : bM t n T (i + 2) (hn_wI (hn_wI M1 76 7 (nI (i + 1 + 1))) 82 80 (nI a)) := (hM1.n (by omega)).w (by decide) (by decide) (by decide)
      have F3 : fr (S2 (25 - c) 0 2) L3 N (hn_wI N2 (25 - c) 0 (nI a)) := (F1.trans (r2 F2)).trans (fr.wI (by unfold S2; omega))
      have G3' : fr (Q2 15 80 82) NL M (hn_wI (hn_wI M1 76 7 (nI (i + 1 + 1))) 82 80 (nI a)) := (G1.trans (fr.wI (by unfold Q2; omega))).trans (fr.wI (by unfold Q2; omega))
      obtain ⟨M3, hM3e⟩ : ∃ M3, M3 = hn_wI (hn_wI M1 76 7 (nI (i + 1 + 1))) 82 80 (nI a) := ⟨_, rfl⟩
      have hM3 : bM t n T (i + 2) M3 := by rw [hM3e]; exact hM3'
      have G3 : fr (Q2 15 80 82) NL M M3 := by rw [hM3e]; exact G3'
      have v80 : M3.1 82 80 = nI a := by rw [hM3e]; exact wI_s
      have v15' : M3.1 76 15 = 1 := by rw [hM3e, wI_o (by decide), wI_n (by decide)]; exact v15
      rcases number_ok (c := c) (lo := 1) (hi := 8) hK3 hM3 (by omega) (by omega) with ⟨a2, N4, p1, p2, p3, p4, p5, p6, p7⟩ | ⟨f', p1, p2, p3, p4⟩
      · obtain ⟨F4, v24⟩ := r0_num p5
        have p4' : F_Reader_takeNumber c (1 : Int32) (8 : Int32) (hn_wI N2 (25 - c) 0 (nI a)) = some (0, N4) := p4
        have p7' : F_Md_takeNumber c (1 : Int32) (8 : Int32) M3 = some (nI a2, hn_wI M3 76 7 (nI (i + 2 + 1))) := p7
        have hK5 : atK t n (i + 3) (hn_wI N4 (25 - c) 1 (nI a2)) := p6.w (by omega) (by omega)
        have hM5 : bM t n T (i + 3) (hn_wI (hn_wI M3 76 7 (nI (i + 2 + 1))) 82 81 (nI a2)) := (hM3.n (by omega)).w (by decide) (by decide) (by decide)
        have F5 : fr (S2 (25 - c) 0 2) L3 N (hn_wI N4 (25 - c) 1 (nI a2)) := (F3.trans (r2 F4)).trans (fr.wI (by unfold S2; omega))
        have G5 : fr (Q2 15 80 82) NL M (hn_wI (hn_wI M3 76 7 (nI (i + 2 + 1))) 82 81 (nI a2)) := (G3.trans (fr.wI (by unfold Q2; omega))).trans (fr.wI (by unfold Q2; omega))
        rcases end_ok (c := c) hK5 hM5 with ⟨iT5, N6, s1, s2, s3, s4⟩ | ⟨s1, s4⟩
        · have FF := F5.trans (r2 (r0_o3 s2))
          have GG := G5.trans (fr.wI (N := hn_wI (hn_wI M3 76 7 (nI (i + 2 + 1))) 82 81 (nI a2)) (a := 76) (i := 7) (v := nI (i + 3 + 1)) (S := Q2 15 80 82) (L := NL) (by unfold Q2; omega))
          refine ⟨0, N6, _, ?_, ?_, toP FF, toM GG, Or.inl ⟨rfl, i + 4, g, p, e, f, law, by omega, s3, hM5.n iT5, ?_⟩⟩
          · simp only [B_Reader_readFloor_1, B_Reader_readFloor_2, hbN_e, u4', ↓reduceIte, v23, hl_e, p4', v24, s1]
          · simp only [u7', hbN_e, hl_e, ← hM3e, p7', hvN_e, s4]
          · refine ⟨⟨a, u1, u2, ?_, ?_⟩, ⟨a2, p1, p2, ?_, ?_⟩, x2.fr FF GG (by unfold S2; omega) (by unfold Q2; omega), ⟨?_, ?_⟩, ⟨?_, ?_⟩,
              x5.fr FF GG (fun j _ => by unfold S2 L3; omega) (fun j hj => ⟨by unfold Q2; omega, by unfold Q2; omega, id⟩), x6.fr (Nat.le_refl _) FF GG (fun j b _ _ _ => by unfold S2; omega) (fun j b _ _ _ => by unfold Q2; omega), ⟨by omega, by omega, ?_, ?_⟩, ?_,
              x9.fr (Nat.le_refl _) (Nat.le_refl _) FF GG (fun j _ => by unfold S2; omega) (fun j _ => by unfold S2; omega) (fun j _ => by unfold Q2; omega) (fun j _ => by unfold Q2; omega)⟩
            · rw [s2.1 _ (by omega), wI_n (by decide), F4.1 _ _ (by unfold R0; omega)]; exact wI_s
            · rw [wI_o (by decide), wI_n (by decide), wI_o (by decide)]; exact v80
            · rw [s2.1 _ (by omega)]; exact wI_s
            · rw [wI_o (by decide)]; exact wI_s
            · rw [FF.1 _ _ (by unfold S2; omega)]; exact x3.1
            · rw [GG.1 _ _ (by unfold Q2; omega)]; exact x3.2
            · rw [FF.1 _ _ (by unfold S2; omega)]; exact x4.1
            · rw [GG.1 _ _ (by unfold Q2; omega)]; exact x4.2
            · rw [FF.1 _ _ (by unfold S2; omega)]; exact x7.2.2.1
            · rw [GG.1 _ _ (by unfold Q2; omega)]; exact x7.2.2.2
            · have v2 : N6.1 2 2 = v := by rw [s2.1 2 (by decide), wI_o (by omega), F4.1 2 2 (by unfold R0; omega), wI_o (by omega), F2.1 2 2 (by unfold R0; omega), d2.1 2 (by decide)]; exact wI_s
              unfold tdR
              rw [v2]
              refine ⟨?_, ?_, fun k hk => ?_⟩
              · rw [d4 0 (by omega)]
                rw [wI_n (by decide), wI_o (by decide), wI_n (by decide), v15']
                simp
              · rw [d4 11 (by omega), GG.1 76 16 (by unfold Q2; omega), ← x8.2.1]; simp
              · rw [d4 (7 + k) (by omega), ← x8.2.2 k hk]
                have : ¬ 7 + k = 0 := by omega
                simp [this]
        · refine ⟨1, _, _, ?_, ?_, toP F5, toM (G5.trans (fr.wI (by unfold Q2; omega))), Or.inr ⟨1, i + 3, by omega, by omega, rfl, hM5.2.2.2.2.2.2, hK5.2.1, wI_s⟩⟩
          · simp only [B_Reader_readFloor_1, B_Reader_readFloor_2, hbN_e, u4', ↓reduceIte, v23, hl_e, p4', v24, s1]
          · simp only [u7', hbN_e, hl_e, ← hM3e, p7', hvN_e, s4]
      · have bb := bad16 hM3 (f := f') p1 p2
        have nz := nI_f5 p1 p2
        have p3' : F_Reader_takeNumber c (1 : Int32) (8 : Int32) (hn_wI N2 (25 - c) 0 (nI a)) = some (nI f', hn_wI N2 (25 - c) 0 (nI a)) := p3
        have p4' : F_Md_takeNumber c (1 : Int32) (8 : Int32) M3 = some (0, hn_wI M3 76 8 (nI (f' + 16 * sT t n (i + 2)))) := p4
        have e8 : (hn_wI (hn_wI M3 76 8 (nI (f' + 16 * sT t n (i + 2)))) 82 81 0).1 76 8 = nI (f' + 16 * sT t n (i + 2)) := by rw [wI_o (by decide)]; exact wI_s
        have ts := takeSign_bad (c := c) (v := 59) e8 bb.1 bb.2
        refine ⟨nI f', _, _, ?_, ?_, toP F3, toM ((G3.trans (fr.wI (by unfold Q2; omega))).trans (fr.wI (by unfold Q2; omega))), Or.inr ⟨f', i + 2, p1, p2, rfl, hM3.2.2.2.2.2.2, hK3.2.1, e8⟩⟩
        · simp only [B_Reader_readFloor_1, B_Reader_readFloor_2, hbN_e, u4', ↓reduceIte, v23, hl_e, p3', nz]
        · simp only [u7', hbN_e, hl_e, ← hM3e, p4', hvN_e, ts]
    · have bb := bad16 hM1 (f := f') u1 u2
      have nz := nI_f5 u1 u2
      have u3' : F_Reader_takeNumber c (1 : Int32) (8 : Int32) N1 = some (nI f', N1) := u3
      have u4' : F_Md_takeNumber c (1 : Int32) (8 : Int32) M1 = some (0, hn_wI M1 76 8 (nI (f' + 16 * sT t n (i + 1)))) := u4
      have e8' : (hn_wI (hn_wI M1 76 8 (nI (f' + 16 * sT t n (i + 1)))) 82 80 0).1 76 8 = nI (f' + 16 * sT t n (i + 1)) := by rw [wI_o (by decide)]; exact wI_s
      have t2 := takeNumber_bad (c := c) (v := 1) (w := 8) e8' bb.1 bb.2
      have e8 : (hn_wI (hn_wI (hn_wI M1 76 8 (nI (f' + 16 * sT t n (i + 1)))) 82 80 0) 82 81 0).1 76 8 = nI (f' + 16 * sT t n (i + 1)) := by rw [wI_o (by decide)]; exact e8'
      have ts := takeSign_bad (c := c) (v := 59) e8 bb.1 bb.2
      refine ⟨nI f', N1, _, ?_, ?_, toP F1, toM (((G1.trans (fr.wI (by unfold Q2; omega))).trans (fr.wI (by unfold Q2; omega))).trans (fr.wI (by unfold Q2; omega))), Or.inr ⟨f', i + 1, u1, u2, rfl, hM1.2.2.2.2.2.2, d3.2.1, e8⟩⟩
      · simp only [B_Reader_readFloor_1, B_Reader_readFloor_2, hbN_e, u3', ↓reduceIte, nz]
      · simp only [u4', hbN_e, hl_e, t2, hvN_e, ts]
