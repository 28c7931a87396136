/-! CHAPEL: the line of a guild -/
def gT2 (g : Nat) (r7 : Int32) (M : hn) : Option hn := hl (hn_wI M 82 (86 + 2 * g) r7) fun N8 => hl (hn_wI N8 82 83 (N8.1 82 83 + (1 : Int32))) fun N9 => some N9
def gT1 (c g : Nat) (r4 : Int32) (M : hn) : Option hn := hl (hn_wI M 82 (85 + 2 * g) r4) fun N5 => hbN (F_Md_takeAfter c (3 : Int32) (0 : Int32) (9999 : Int32) N5) fun r7 N6 => gT2 g r7 N6
theorem gT2_bad {x g : Nat} {v : Int32} {M : hn} (h : M.1 76 8 = nI x) : ∃ M', gT2 g v M = some M' ∧ fr MS ML M M' ∧ M'.1 76 8 = nI x := by
  refine ⟨hn_wI (hn_wI M 82 (86 + 2 * g) v) 82 83 ((hn_wI M 82 (86 + 2 * g) v).1 82 83 + (1 : Int32)), by simp only [gT2, hl_e], (fr.wI (by unfold MS; omega)).trans (fr.wI (by unfold MS; omega)), ?_⟩
  rw [wI_o (by decide), wI_o (by decide)]; exact h
theorem gT1_bad {c x g : Nat} {v : Int32} {M : hn} (h : M.1 76 8 = nI x) (h0 : 0 < x) (h2 : x < 2147483648) : ∃ M', gT1 c g v M = some M' ∧ fr MS ML M M' ∧ M'.1 76 8 = nI x := by
  have h' : (hn_wI M 82 (85 + 2 * g) v).1 76 8 = nI x := by rw [wI_o (by decide)]; exact h
  obtain ⟨M1, d1, d2, d3⟩ := takeAfter_bad (c := c) (v := 3) (w := 0) (u := 9999) h' h0 h2
  obtain ⟨M2, e1, e2, e3⟩ := gT2_bad (g := g) (v := 0) d3
  exact ⟨M2, by simp only [gT1, hl_e, d1, hbN_e, e1], ((fr.wI (by unfold MS; omega)).trans d2).trans e2, e3⟩
def SG (D g b k : Nat) : Prop := (b = 3 ∧ k ≠ 1) ∨ (b = 2 ∧ k = 3) ∨ ((b = D + 2 ∨ b = D + 3) ∧ k = g) ∨ (b = D ∧ k = 3)
def LG (D g b k : Nat) : Prop := b = 3 ∨ (b = D + 1 ∧ k = g)
def QG (g b k : Nat) : Prop := (b = 76 ∧ (k = 7 ∨ k = 8)) ∨ (b = 82 ∧ (k = 83 ∨ k = 85 + 2 * g ∨ k = 86 + 2 * g))
def LQ (g b k : Nat) : Prop := b = 85 ∧ k = g
theorem lguild_ok {c : Nat} (hc : c = 5 ∨ c = 20) {t : Nat → Nat} {n T i g p e f : Nat} {law : Law} {N M : hn} (hK : atK t n i N) (hM : bM t n T i M) (hd : dX t n (25 - c) i g p e f law N M) (hk : kd t n (sT t n i) = 129) :
    lOut t n T (25 - c) i N M (F_Reader_readGuild c N) (hvN (F_Md_readGuild c M) fun M1 => F_Md_takeSign c (59 : Int32) M1) := by
  obtain ⟨iT, sn⟩ := tok_in hM.1 hM.2.2.2.2.2.2 (by omega)
  obtain ⟨x0, x1, x2, x3, x4, x5, x6, x7, x8, x9⟩ := hd
  have hT := hM.T
  have hlt := hM.2.2.1
  have y83 : hn_ix 160 (83 : Int32) = true := by decide
  have t83 : (83 : Int32).toNatClampNeg = 83 := rfl
  have g6 := x5.1
  have xg : hn_ix 6 (nI g) = true ∨ g = 6 := by
    by_cases q : g = 6
    · exact Or.inr q
    · exact Or.inl (ix_ok (by omega) (by decide))
  have cg : (nI g).toNatClampNeg = g := nI_lt31 (by omega)
  have e7 := hM.2.2.2.2.1
  have toP : ∀ {N' : hn}, fr (SG (25 - c) g) (LG (25 - c) g) N N' → fr (PS (25 - c)) (PL (25 - c)) N N' := fun h => h.mono (fun b k y => by unfold SG at y; unfold PS; omega) (fun b k y => by unfold LG at y; unfold PL; omega)
  have toM : ∀ {M' : hn}, fr (QG g) (LQ g) M M' → fr MS ML M M' := fun h => h.mono (fun b k y => by unfold QG at y; unfold MS; omega) (fun b k y => by unfold LQ at y; unfold ML; omega)
  have r2 : ∀ {N' N'' : hn}, fr R0 L3 N' N'' → fr (SG (25 - c) g) (LG (25 - c) g) N' N'' := fun h => h.mono (fun b k y => by unfold R0 at y; unfold SG; omega) (fun b k y => by unfold L3 at y; unfold LG; omega)
  rcases xg with xg | q6
  rotate_left
  · have l6 : ¬ nI g < (6 : Int32) := fun y => by have := (nI_lti (b := 6) (by omega) (by decide)).mp y; omega
    have m6 : nI g = (6 : Int32) := by rw [q6]; rfl
    have bb := bad16 hM (f := 5) (by omega) (by omega)
    have w3 : F_Md_wrong c (5 : Int32) M = some (hn_wI M 76 8 (nI (5 + 16 * sT t n i))) := wrong_b (f := 5) hM
    have ts := takeSign_bad (c := c) (v := 59) (M := hn_wI M 76 8 (nI (5 + 16 * sT t n i))) wI_s bb.1 bb.2
    refine ⟨5, N, _, ?_, ?_, fr.refl, fr.wI (by unfold MS; omega), Or.inr ⟨5, i, by omega, by omega, rfl, hM.2.2.2.2.2.2, hK.2.1, wI_s⟩⟩
    · simp only [F_Reader_readGuild, x3.1, hl_e, l6, ↓reduceIte]
    · simp only [F_Md_readGuild, y83, hg_T, t83, x3.2, hl_e, m6, ↓reduceIte, w3, hvN_e, ts]
  · have gl : g < 6 := by
      rcases Nat.lt_or_ge g 6 with y | y
      · exact y
      · have : g = 6 := by omega
        subst this; exact absurd xg (by decide)
    have l6 : nI g < (6 : Int32) := (nI_lti (b := 6) (by omega) (by decide)).mpr gl
    have m6 : ¬ nI g = (6 : Int32) := nI_ni (b := 6) (by omega) (by decide) (by omega)
    have i85 : (85 : Int32) + (2 : Int32) * nI g = nI (85 + 2 * g) := by rw [show (85 : Int32) = nI 85 from rfl, show (2 : Int32) = nI 2 from rfl, nI_m, nI_a]
    have i86 : nI (85 + 2 * g) + (1 : Int32) = nI (86 + 2 * g) := by rw [show (1 : Int32) = nI 1 from rfl, nI_a]; exact congrArg nI (by omega)
    have x85 : hn_ix 160 (nI (85 + 2 * g)) = true := ix_ok (by omega) (by decide)
    have c85 : (nI (85 + 2 * g)).toNatClampNeg = 85 + 2 * g := nI_lt31 (by omega)
    have x86 : hn_ix 160 (nI (86 + 2 * g)) = true := ix_ok (by omega) (by decide)
    have c86 : (nI (86 + 2 * g)).toNatClampNeg = 86 + 2 * g := nI_lt31 (by omega)
    obtain ⟨N1, d1, d2, d3⟩ := next_K (c := c) hK sn
    have hM1 : bM t n T (i + 1) (hn_wI M 76 7 (nI (i + 1))) := hM.n iT
    have nm := isName_ok (c := c) hM1
    obtain ⟨k4, kb⟩ := d3.k4
    have cA : F_Reader_readGuild c N = hbN (F_Reader_takeNewName c (nI g) N1) fun r4 N3 => (if r4 = 0 then hbN (F_Reader_take c (130 : Int32) N3) fun r6 N5 => B_Reader_readGuild_1 c (nI g) r6 N5 else B_Reader_readGuild_1 c (nI g) r4 N3) := by
      simp only [F_Reader_readGuild, x3.1, hl_e, l6, ↓reduceIte, d1, hvN_e]
    rw [cA]
    have mB : ∀ {x : Nat} {M' : hn}, M'.1 76 8 = nI x → 0 < x → x < 2147483648 → B_Md_readGuild_1 c (nI g) M' = some M' := fun h h0 h2 => by
      have z : ¬ nI _ ≤ (0 : Int32) := fun y => by have := (nI_lei (b := 0) h2 (by decide)).mp y; omega
      simp only [B_Md_readGuild_1, h, z, ↓reduceIte]
    by_cases qn : 143 ≤ kd t n (sT t n (i + 1))
    · obtain ⟨iT1, sn1⟩ := tok_in hM1.1 hM1.2.2.2.2.2.2 (by omega)
      rw [if_pos qn] at nm
      have l143 : ¬ nI (kd t n (sT t n (i + 1))) < (143 : Int32) := fun y => by have := (nI_lti (b := 143) (by omega) (by decide)).mp y; omega
      have w6 : N1.2 3 6 = lN (wv 32 t (sT t n (i + 1)) (tE t n (sT t n (i + 1)) - sT t n (i + 1))) := d3.2.2.2.2.1 (by omega)
      have v80 : (hn_wI M 76 7 (nI (i + 1))).2 80 (i + 1) = lN (va t n (sT t n (i + 1))) := (hM1.1.2.2.2 (i + 1) hM1.2.2.2.2.2.2).2.2 iT1
      have fd := named_ok (c := c) (D := 25 - c) (g := g) (w := N1.2 3 6) (N := N1) (P := fun j => decide (N1.2 (25 - c + 1) j = N1.2 3 6)) (by rw [d2.1 _ (by omega)]; exact x3.1) g6 (fun j _ => decide_eq_true_iff.symm)
      have md := mfind_ok (c := c) (i := i + 1) (g := g) (M := hn_wI M 76 7 (nI (i + 1))) (P := fun j => decide (N1.2 (25 - c + 1) j = N1.2 3 6)) wI_s (by omega) (by rw [wI_o (by decide)]; exact x3.2) g6 (fun j hj => by
        obtain ⟨a, b, q, y1, y2, y3, y4, y5, y6, y7, y8, y9⟩ := x5.2 j hj
        rw [decide_eq_true_iff, d2.2.2 _ (by omega), y8, w6, v80, wI_2, y9]
        exact (tok_same (fun h => hlt _ h) (fun h => hlt _ h) (by omega) (by omega)).symm)
      have z1 : ¬ (1 : Int32) = 0 := by decide
      rcases fdx_or (P := fun j => decide (N1.2 (25 - c + 1) j = N1.2 3 6)) g 0 with hx | ⟨x, -, hx2, hx⟩
      · rw [hx] at fd md
        have hK2 : atK t n (i + 1) (hn_wL N1 (25 - c + 1) g (N1.2 3 6)) := d3.l (by omega)
        obtain ⟨N2, f1, f2, f3⟩ := next_K (c := c) hK2 sn1
        have m10 : (-1 : Int32) < 0 := by decide
        have cN : F_Reader_takeNewName c (nI g) N1 = some (0, N2) := by
          simp only [F_Reader_takeNewName, F_Tape_isName, k4, l143, ↓reduceIte, hbN_e, z1, fd, xg, hg_T, cg, hl_e, f1, hvN_e]
        have e7' : (hn_wL (hn_wI M 76 7 (nI (i + 1))) 85 g (lN (va t n (sT t n (i + 1))))).1 76 7 = nI (i + 1) := by rw [wL_1]; exact wI_s
        have e8' : (hn_wI M 76 7 (nI (i + 1))).1 76 8 = 0 := hM1.2.2.2.2.2.1
        have z0 : (0 : Int32) ≤ 0 := by decide
        have xi : hn_ix 1002 (nI (i + 1)) = true := ix_ok (by omega) (by decide)
        have ci : (nI (i + 1)).toNatClampNeg = i + 1 := nI_lt31 (by omega)
        obtain ⟨M2, hM2e⟩ : ∃ M2, M2 = hn_wI (hn_wL (hn_wI M 76 7 (nI (i + 1))) 85 g (lN (va t n (sT t n (i + 1))))) 76 7 (nI (i + 2)) := ⟨_, rfl⟩
        have hM2 : bM t n T (i + 2) M2 := by rw [hM2e]; exact (hM1.l).n iT1
        have G2 : fr (QG g) (LQ g) M M2 := by rw [hM2e]; exact ((fr.wI (by unfold QG; omega)).trans (fr.wL (by unfold LQ; omega))).trans (fr.wI (by unfold QG; omega))
        have n85 : M2.2 85 g = lN (va t n (sT t n (i + 1))) := by rw [hM2e, wI_2]; exact wL_s
        have e7w : (hn_wI M 76 7 (nI (i + 1))).1 76 7 = nI (i + 1) := wI_s
        have mN : F_Md_readGuild c M = hbN (F_Md_takeAfter c (2 : Int32) (0 : Int32) (7 : Int32) M2) fun r4 N3 => gT1 c g r4 N3 := by
          simp only [F_Md_readGuild, y83, hg_T, t83, x3.2, hl_e, m6, ↓reduceIte, e7, ← nI_succ, nm, hbN_e, z1, md, m10, B_Md_readGuild_1, e8', z0, e7w, xi, ci, v80, xg, cg, e7', ← hM2e, i85, i86, x85, c85, x86, c86, gT1, gT2]
        rw [cN, mN]
        have F1 : fr (SG (25 - c) g) (LG (25 - c) g) N N2 := ((r2 (r0_o3 d2)).trans (fr.wL (by unfold LG; omega))).trans (r2 (r0_o3 f2))
        rcases after_ok (c := c) (w := 2) (lo := 0) (hi := 7) f3 hM2 (by omega) (by omega) (by omega) with ⟨a, N3, N4, a1, a2, a3, a4, a5, a6, a7, a8, a9⟩ | ⟨a1, M3, a2, a3, a4⟩ | ⟨f', N3, M3, a1, a2, a3, a4, a5, a6, a7, a8, a9, a10⟩
        · have a4' : F_Reader_take c (130 : Int32) N2 = some (0, N3) := a4
          have a5' : F_Reader_takeNumber c (0 : Int32) (7 : Int32) N3 = some (0, N4) := a5
          have a9' : F_Md_takeAfter c (2 : Int32) (0 : Int32) (7 : Int32) M2 = some (nI a, hn_wI (hn_wI M2 76 7 (nI (i + 2 + 1))) 76 7 (nI (i + 2 + 2))) := a9
          obtain ⟨F4, v23⟩ := r0_num a7
          have hK5 : atK t n (i + 4) (hn_wI N4 (25 - c + 2) g (nI a)) := a8.w (by omega) (by omega)
          obtain ⟨M5, hM5e⟩ : ∃ M5, M5 = hn_wI (hn_wI (hn_wI M2 76 7 (nI (i + 2 + 1))) 76 7 (nI (i + 2 + 2))) 82 (85 + 2 * g) (nI a) := ⟨_, rfl⟩
          have hM5 : bM t n T (i + 4) M5 := by rw [hM5e]; exact ((hM2.n (i' := i + 3) (by omega)).n (i' := i + 4) (by omega)).w (by decide) (by decide) (by decide)
          have F5 : fr (SG (25 - c) g) (LG (25 - c) g) N (hn_wI N4 (25 - c + 2) g (nI a)) := ((F1.trans (r2 (r0_o3 a6))).trans (r2 F4)).trans (fr.wI (by unfold SG; omega))
          have G5 : fr (QG g) (LQ g) M M5 := by rw [hM5e]; exact ((G2.trans (fr.wI (by unfold QG; omega))).trans (fr.wI (by unfold QG; omega))).trans (fr.wI (by unfold QG; omega))
          have n85' : M5.2 85 g = lN (va t n (sT t n (i + 1))) := by rw [hM5e]; exact n85
          have v85 : M5.1 82 (85 + 2 * g) = nI a := by rw [hM5e]; exact wI_s
          have cL2 : (F_Reader_take c (130 : Int32) N2) = some (0, N3) := a4
          rcases after_ok (c := c) (w := 3) (lo := 0) (hi := 9999) hK5 hM5 (by omega) (by omega) (by omega) with ⟨o, N6, N7, b1, b2, b3, b4, b5, b6, b7, b8, b9⟩ | ⟨b1, M6, b2, b3, b4⟩ | ⟨f', N6, M6, b1, b2, b3, b4, b5, b6, b7, b8, b9, b10⟩
          · have b4' : F_Reader_take c (131 : Int32) (hn_wI N4 (25 - c + 2) g (nI a)) = some (0, N6) := b4
            have b5' : F_Reader_takeNumber c (0 : Int32) (9999 : Int32) N6 = some (0, N7) := b5
            have b9' : F_Md_takeAfter c (3 : Int32) (0 : Int32) (9999 : Int32) M5 = some (nI o, hn_wI (hn_wI M5 76 7 (nI (i + 4 + 1))) 76 7 (nI (i + 4 + 2))) := b9
            obtain ⟨F7, v27⟩ := r0_num b7
            have hK8 : atK t n (i + 6) (hn_wI N7 (25 - c + 3) g (nI o)) := b8.w (by omega) (by omega)
            have w83 : (hn_wI (hn_wI (hn_wI M5 76 7 (nI (i + 4 + 1))) 76 7 (nI (i + 4 + 2))) 82 (86 + 2 * g) (nI o)).1 82 83 = nI g := by
              rw [wI_n (by omega), wI_o (by decide), wI_o (by decide), hM5e, wI_n (by omega), wI_o (by decide), wI_o (by decide), hM2e, wI_o (by decide), wL_1, wI_o (by decide)]; exact x3.2
            obtain ⟨M8, hM8e⟩ : ∃ M8, M8 = hn_wI (hn_wI (hn_wI (hn_wI M5 76 7 (nI (i + 4 + 1))) 76 7 (nI (i + 4 + 2))) 82 (86 + 2 * g) (nI o)) 82 83 (nI (g + 1)) := ⟨_, rfl⟩
            have hM8 : bM t n T (i + 6) M8 := by rw [hM8e]; exact (((hM5.n (i' := i + 5) (by omega)).n (i' := i + 6) (by omega)).w (by decide) (by decide) (by decide)).w (by decide) (by decide) (by decide)
            have F8 : fr (SG (25 - c) g) (LG (25 - c) g) N (hn_wI N7 (25 - c + 3) g (nI o)) := ((F5.trans (r2 (r0_o3 b6))).trans (r2 F7)).trans (fr.wI (by unfold SG; omega))
            have G8 : fr (QG g) (LQ g) M M8 := by rw [hM8e]; exact (((G5.trans (fr.wI (by unfold QG; omega))).trans (fr.wI (by unfold QG; omega))).trans (fr.wI (by unfold QG; omega))).trans (fr.wI (by unfold QG; omega))
            have mE : gT1 c g (nI a) (hn_wI (hn_wI M2 76 7 (nI (i + 2 + 1))) 76 7 (nI (i + 2 + 2))) = some M8 := by
              simp only [gT1, hl_e, ← hM5e, b9', hbN_e, gT2, w83, ← nI_succ, ← hM8e]
            rcases end_ok (c := c) hK8 hM8 with ⟨iT8, N9, s1, s2, s3, s4⟩ | ⟨s1, s4⟩
            · have D3 : N9.1 (25 - c) 3 = nI g := by
                rw [s2.1 _ (by omega), wI_o (by omega), F7.1 _ _ (by unfold R0; omega), b6.1 _ (by omega), wI_o (by omega), F4.1 _ _ (by unfold R0; omega), a6.1 _ (by omega), f2.1 _ (by omega), wL_1, d2.1 _ (by omega)]; exact x3.1
              have FF : fr (SG (25 - c) g) (LG (25 - c) g) N (hn_wI N9 (25 - c) 3 (nI (g + 1))) := (F8.trans (r2 (r0_o3 s2))).trans (fr.wI (by unfold SG; omega))
              have GG := G8.trans (fr.wI (N := M8) (a := 76) (i := 7) (v := nI (i + 6 + 1)) (S := QG g) (L := LQ g) (by unfold QG; omega))
              refine ⟨0, hn_wI N9 (25 - c) 3 (nI (g + 1)), _, ?_, ?_, toP FF, toM GG, Or.inl ⟨rfl, i + 7, g + 1, p, e, f, law, by omega, s3.w (by omega) (by omega), hM8.n iT8, ?_⟩⟩
              · simp only [hbN_e, ↓reduceIte, a4', B_Reader_readGuild_1, a5', B_Reader_readGuild_2, xg, hg_T, cg, v23, hl_e, b4', B_Reader_readGuild_3, b5', B_Reader_readGuild_4, v27, s1, B_Reader_readGuild_5, D3, ← nI_succ]
              · simp only [a9', hbN_e, mE, hvN_e, s4]
              · refine ⟨x0.fr FF GG (by unfold SG; omega) (by unfold QG; omega), x1.fr FF GG (by unfold SG; omega) (by unfold QG; omega), x2.fr FF GG (by unfold SG; omega) (by unfold QG; omega), ⟨wI_s, ?_⟩, ⟨?_, ?_⟩,
                  ⟨gl, ?_⟩, x6.fr (by omega) FF GG (fun j b _ _ _ => by unfold SG; omega) (fun j b _ _ _ => by unfold QG; omega), ⟨by omega, by omega, ?_, ?_⟩, x8.fr FF GG (by unfold SG; omega) (by unfold QG; omega) (by unfold QG; omega),
                  x9.fr (Nat.le_refl _) (Nat.le_refl _) FF GG (fun j _ => by unfold SG; omega) (fun j _ => by unfold SG; omega) (fun j _ => by unfold QG; omega) (fun j _ => by unfold QG; omega)⟩
                · rw [wI_o (by decide), hM8e]; exact wI_s
                · rw [FF.1 _ _ (by unfold SG; omega)]; exact x4.1
                · rw [GG.1 _ _ (by unfold QG; omega)]; exact x4.2
                · intro j hj
                  by_cases qj : j = g
                  · subst qj
                    refine ⟨a, o, sT t n (i + 1), by omega, by omega, qn, ?_, ?_, ?_, ?_, ?_, ?_⟩
                    · rw [wI_o (by omega), s2.1 _ (by omega), wI_o (by omega), F7.1 _ _ (by unfold R0; omega), b6.1 _ (by omega)]; exact wI_s
                    · rw [wI_o (by decide), hM8e, wI_n (by omega), wI_n (by omega), wI_o (by decide), wI_o (by decide)]; exact v85
                    · rw [wI_o (by omega), s2.1 _ (by omega)]; exact wI_s
                    · rw [wI_o (by decide), hM8e, wI_n (by omega)]; exact wI_s
                    · rw [wI_2, s2.2.2 _ (by omega), wI_2, F7.2 _ _ (by unfold L3; omega), b6.2.2 _ (by omega), wI_2, F4.2 _ _ (by unfold L3; omega), a6.2.2 _ (by omega), f2.2.2 _ (by omega), wL_s]; exact w6
                    · rw [wI_2, hM8e, wI_2, wI_2, wI_2, wI_2]; exact n85'
                  · have := (x5.fr FF GG (fun j _ => by unfold SG LG; omega) (fun j _ => by unfold QG LQ; omega)).2 j (by omega)
                    exact this
                · rw [FF.1 _ _ (by unfold SG; omega)]; exact x7.2.2.1
                · rw [GG.1 _ _ (by unfold QG; omega)]; exact x7.2.2.2
            · have z1' : ¬ (1 : Int32) = 0 := by decide
              refine ⟨1, _, _, ?_, ?_, toP F8, toM (G8.trans (fr.wI (by unfold QG; omega))), Or.inr ⟨1, i + 6, by omega, by omega, rfl, hM8.2.2.2.2.2.2, hK8.2.1, wI_s⟩⟩
              · simp only [hbN_e, ↓reduceIte, a4', B_Reader_readGuild_1, a5', B_Reader_readGuild_2, xg, hg_T, cg, v23, hl_e, b4', B_Reader_readGuild_3, b5', B_Reader_readGuild_4, v27, s1, B_Reader_readGuild_5, z1']
              · simp only [a9', hbN_e, mE, hvN_e, s4]
          · have bb := bad16 hM5 (f := 1) (by omega) (by omega)
            obtain ⟨M7, e1, e2, e3⟩ := gT2_bad (g := g) (v := 0) b4
            have ts := takeSign_bad (c := c) (v := 59) e3 bb.1 bb.2
            have b1' : F_Reader_take c (131 : Int32) (hn_wI N4 (25 - c + 2) g (nI a)) = some (1, hn_wI N4 (25 - c + 2) g (nI a)) := b1
            have b2' : F_Md_takeAfter c (3 : Int32) (0 : Int32) (9999 : Int32) M5 = some (0, M6) := b2
            refine ⟨1, _, M7, ?_, ?_, toP F5, ((toM G5).trans b3).trans e2, Or.inr ⟨1, i + 4, by omega, by omega, rfl, hM5.2.2.2.2.2.2, hK5.2.1, e3⟩⟩
            · simp only [hbN_e, ↓reduceIte, a4', B_Reader_readGuild_1, a5', B_Reader_readGuild_2, xg, hg_T, cg, v23, hl_e, b1', B_Reader_readGuild_3, z1, B_Reader_readGuild_4, B_Reader_readGuild_5]
            · simp only [a9', hbN_e, gT1, hl_e, ← hM5e, b2', e1, hvN_e, ts]
          · have bb := bad16 (hM5.n (i' := i + 5) (by omega)) (f := f') b1 b2
            have nz := nI_f5 b1 b2
            obtain ⟨M7, e1, e2, e3⟩ := gT2_bad (g := g) (v := 0) b10
            have ts := takeSign_bad (c := c) (v := 59) e3 bb.1 bb.2
            have b4' : F_Reader_take c (131 : Int32) (hn_wI N4 (25 - c + 2) g (nI a)) = some (0, N6) := b4
            have b5' : F_Reader_takeNumber c (0 : Int32) (9999 : Int32) N6 = some (nI f', N6) := b5
            have b8' : F_Md_takeAfter c (3 : Int32) (0 : Int32) (9999 : Int32) M5 = some (0, M6) := b8
            refine ⟨nI f', N6, M7, ?_, ?_, toP (F5.trans (r2 (r0_o3 b6))), ((toM G5).trans b9).trans e2, Or.inr ⟨f', i + 5, b1, b2, rfl, by omega, b7.2.1, e3⟩⟩
            · simp only [hbN_e, ↓reduceIte, a4', B_Reader_readGuild_1, a5', B_Reader_readGuild_2, xg, hg_T, cg, v23, hl_e, b4', B_Reader_readGuild_3, b5', nz, B_Reader_readGuild_4, B_Reader_readGuild_5]
            · simp only [a9', hbN_e, gT1, hl_e, ← hM5e, b8', e1, hvN_e, ts]
        · have bb := bad16 hM2 (f := 1) (by omega) (by omega)
          obtain ⟨M7, e1, e2, e3⟩ := gT1_bad (c := c) (g := g) (v := 0) a4 bb.1 bb.2
          have ts := takeSign_bad (c := c) (v := 59) e3 bb.1 bb.2
          have a1' : F_Reader_take c (130 : Int32) N2 = some (1, N2) := a1
          have a2' : F_Md_takeAfter c (2 : Int32) (0 : Int32) (7 : Int32) M2 = some (0, M3) := a2
          refine ⟨1, N2, M7, ?_, ?_, toP F1, ((toM G2).trans a3).trans e2, Or.inr ⟨1, i + 2, by omega, by omega, rfl, hM2.2.2.2.2.2.2, f3.2.1, e3⟩⟩
          · simp only [hbN_e, ↓reduceIte, a1', B_Reader_readGuild_1, z1, B_Reader_readGuild_2, B_Reader_readGuild_3, B_Reader_readGuild_4, B_Reader_readGuild_5]
          · simp only [a2', hbN_e, e1, hvN_e, ts]
        · have bb := bad16 (hM2.n (i' := i + 3) (by omega)) (f := f') a1 a2
          have nz := nI_f5 a1 a2
          obtain ⟨M7, e1, e2, e3⟩ := gT1_bad (c := c) (g := g) (v := 0) a10 bb.1 bb.2
          have ts := takeSign_bad (c := c) (v := 59) e3 bb.1 bb.2
          have a4' : F_Reader_take c (130 : Int32) N2 = some (0, N3) := a4
          have a5' : F_Reader_takeNumber c (0 : Int32) (7 : Int32) N3 = some (nI f', N3) := a5
          have a8' : F_Md_takeAfter c (2 : Int32) (0 : Int32) (7 : Int32) M2 = some (0, M3) := a8
          refine ⟨nI f', N3, M7, ?_, ?_, toP (F1.trans (r2 (r0_o3 a6))), ((toM G2).trans a9).trans e2, Or.inr ⟨f', i + 3, a1, a2, rfl, by omega, a7.2.1, e3⟩⟩
          · simp only [hbN_e, ↓reduceIte, a4', B_Reader_readGuild_1, a5', nz, B_Reader_readGuild_2, B_Reader_readGuild_3, B_Reader_readGuild_4, B_Reader_readGuild_5]
          · simp only [a8', hbN_e, e1, hvN_e, ts]
      · rw [hx] at fd md
        have nx : ¬ nI x = (-1 : Int32) := nI_nm (by omega)
        have nx2 : ¬ nI x < (0 : Int32) := nI_nn (by omega)
        have z3 : ¬ (3 : Int32) = 0 := by decide
        have bb := bad16 hM1 (f := 3) (by omega) (by omega)
        have w3 : F_Md_wrong c (3 : Int32) (hn_wI M 76 7 (nI (i + 1))) = some (hn_wI (hn_wI M 76 7 (nI (i + 1))) 76 8 (nI (3 + 16 * sT t n (i + 1)))) := wrong_b (f := 3) hM1
        have e8 : (hn_wI (hn_wI M 76 7 (nI (i + 1))) 76 8 (nI (3 + 16 * sT t n (i + 1)))).1 76 8 = nI (3 + 16 * sT t n (i + 1)) := wI_s
        have ts := takeSign_bad (c := c) (v := 59) e8 bb.1 bb.2
        have tl := mB e8 bb.1 bb.2
        refine ⟨3, N1, _, ?_, ?_, r0_P (r0_o3 d2), (fr.wI (by unfold MS; omega)).trans (fr.wI (by unfold MS; omega)), Or.inr ⟨3, i + 1, by omega, by omega, rfl, by omega, d3.2.1, e8⟩⟩
        · simp only [F_Reader_takeNewName, F_Tape_isName, k4, l143, ↓reduceIte, hbN_e, z1, fd, nx, z3, B_Reader_readGuild_1, B_Reader_readGuild_2, B_Reader_readGuild_3, B_Reader_readGuild_4, B_Reader_readGuild_5]
        · simp only [F_Md_readGuild, y83, hg_T, t83, x3.2, hl_e, m6, ↓reduceIte, e7, ← nI_succ, nm, hbN_e, z1, md, nx2, w3, hvN_e, tl, ts]
    · rw [if_neg qn] at nm
      have l143 : nI (kd t n (sT t n (i + 1))) < (143 : Int32) := (nI_lti (b := 143) (by omega) (by decide)).mpr (by omega)
      have z1 : ¬ (1 : Int32) = 0 := by decide
      have bb := bad16 hM1 (f := 1) (by omega) (by omega)
      have w3 : F_Md_wrong c (1 : Int32) (hn_wI M 76 7 (nI (i + 1))) = some (hn_wI (hn_wI M 76 7 (nI (i + 1))) 76 8 (nI (1 + 16 * sT t n (i + 1)))) := wrong_b (f := 1) hM1
      have e8 : (hn_wI (hn_wI M 76 7 (nI (i + 1))) 76 8 (nI (1 + 16 * sT t n (i + 1)))).1 76 8 = nI (1 + 16 * sT t n (i + 1)) := wI_s
      have ts := takeSign_bad (c := c) (v := 59) e8 bb.1 bb.2
      have tl := mB e8 bb.1 bb.2
      refine ⟨1, N1, _, ?_, ?_, r0_P (r0_o3 d2), (fr.wI (by unfold MS; omega)).trans (fr.wI (by unfold MS; omega)), Or.inr ⟨1, i + 1, by omega, by omega, rfl, by omega, d3.2.1, e8⟩⟩
      · simp only [F_Reader_takeNewName, F_Tape_isName, k4, l143, ↓reduceIte, hbN_e, z1, B_Reader_readGuild_1, B_Reader_readGuild_2, B_Reader_readGuild_3, B_Reader_readGuild_4, B_Reader_readGuild_5]
      · simp only [F_Md_readGuild, y83, hg_T, t83, x3.2, hl_e, m6, ↓reduceIte, e7, ← nI_succ, nm, hbN_e, w3, hvN_e, tl, ts]
