/-! CHAPEL: the draft, alike on both sides -/
def nbR (lo hi : Nat) (N : hn) (b k : Nat) (M : hn) (b' k' : Nat) : Prop := ∃ a, lo ≤ a ∧ a ≤ hi ∧ N.1 b k = nI a ∧ M.1 b' k' = nI a
def guR (t : Nat → Nat) (n D g : Nat) (N M : hn) : Prop := g ≤ 6 ∧ ∀ j, j < g → ∃ a b q, a < 8 ∧ b < 10000 ∧ 143 ≤ kd t n q ∧
  N.1 (D + 2) j = nI a ∧ M.1 82 (85 + 2 * j) = nI a ∧ N.1 (D + 3) j = nI b ∧ M.1 82 (86 + 2 * j) = nI b ∧ N.2 (D + 1) j = lN (wv 32 t q (tE t n q - q)) ∧ M.2 85 j = lN (va t n q)
def paR (D g p : Nat) (N M : hn) : Prop := p ≤ 12 ∧ ∀ j, j < p → ∃ a b o k, a < 8 ∧ b < 4 ∧ o < g ∧ k < 8 ∧
  N.1 (D + 4) j = nI a ∧ M.1 82 (97 + 4 * j) = nI a ∧ N.1 (D + 5) j = nI b ∧ M.1 82 (98 + 4 * j) = nI b ∧ N.1 (D + 6) j = nI o ∧ M.1 82 (99 + 4 * j) = nI o ∧ N.1 (D + 7) j = nI k ∧ M.1 82 (100 + 4 * j) = nI k
def tdR (law : Law) (N M : hn) : Prop := (bt (N.1 2 2) 0 = true ↔ ¬ M.1 76 15 = 0) ∧ (bt (N.1 2 2) 11 = true ↔ ¬ M.1 76 16 = 0) ∧ ∀ k, k < 4 → (bt (N.1 2 2) (7 + k) = true ↔ ¬ law k = none)
def lw1 (D e f k : Nat) (o : Option (List (Nat × Int32))) (N M : hn) : Prop :=
  (∀ l, o = some l → l ≠ [] ∧ okL k 0 l 1 ∧
    (∃ s, N.1 (D + 10) k = nI s ∧ N.1 (D + 11) k = nI (s + l.length) ∧ s + l.length ≤ e ∧ ∀ j (hj : j < l.length), N.1 (D + 9) (s + j) = enc l[j]) ∧
    (∃ s, M.1 82 (145 + k) = nI s ∧ s + l.length < f ∧ (∀ j (hj : j < l.length), M.1 83 (1100 + s + j) = nI l[j].1 ∧ M.1 84 (1100 + s + j) = l[j].2) ∧ M.1 83 (1100 + s + l.length) = 0)) ∧
  (o = none → N.1 (D + 10) k = 0 ∧ N.1 (D + 11) k = 0 ∧ M.1 82 (145 + k) = -1)
def lwR (D e f : Nat) (law : Law) (N M : hn) : Prop := ∀ k, k < 4 → lw1 D e f k (law k) N M
theorem nbR.fr {lo hi b k b' k' : Nat} {S L S' L' : Nat → Nat → Prop} {N M N' M' : hn} (h : nbR lo hi N b k M b' k') (h1 : fr S L N N') (h2 : fr S' L' M M') (a1 : ¬ S b k) (a2 : ¬ S' b' k') : nbR lo hi N' b k M' b' k' := by
  obtain ⟨a, y1, y2, y3, y4⟩ := h
  exact ⟨a, y1, y2, by rw [h1.1 _ _ a1]; exact y3, by rw [h2.1 _ _ a2]; exact y4⟩
theorem guR.fr {t : Nat → Nat} {n D g : Nat} {S L S' L' : Nat → Nat → Prop} {N M N' M' : hn} (h : guR t n D g N M) (h1 : fr S L N N') (h2 : fr S' L' M M')
    (a1 : ∀ j, j < g → ¬ S (D + 2) j ∧ ¬ S (D + 3) j ∧ ¬ L (D + 1) j) (a2 : ∀ j, j < g → ¬ S' 82 (85 + 2 * j) ∧ ¬ S' 82 (86 + 2 * j) ∧ ¬ L' 85 j) : guR t n D g N' M' := by
  refine ⟨h.1, fun j hj => ?_⟩
  obtain ⟨a, b, q, y1, y2, y3, y4, y5, y6, y7, y8, y9⟩ := h.2 j hj
  obtain ⟨b1, b2, b3⟩ := a1 j hj
  obtain ⟨c1, c2, c3⟩ := a2 j hj
  exact ⟨a, b, q, y1, y2, y3, by rw [h1.1 _ _ b1]; exact y4, by rw [h2.1 _ _ c1]; exact y5, by rw [h1.1 _ _ b2]; exact y6, by rw [h2.1 _ _ c2]; exact y7, by rw [h1.2 _ _ b3]; exact y8, by rw [h2.2 _ _ c3]; exact y9⟩
theorem paR.fr {D g g' p : Nat} {S L S' L' : Nat → Nat → Prop} {N M N' M' : hn} (h : paR D g p N M) (hg : g ≤ g') (h1 : fr S L N N') (h2 : fr S' L' M M')
    (a1 : ∀ j b, j < p → D + 4 ≤ b → b ≤ D + 7 → ¬ S b j) (a2 : ∀ j b, j < p → 97 ≤ b → b ≤ 100 → ¬ S' 82 (b + 4 * j)) : paR D g' p N' M' := by
  refine ⟨h.1, fun j hj => ?_⟩
  obtain ⟨a, b, o, k, x1, x2, x3, x4, y1, y2, y3, y4, y5, y6, y7, y8⟩ := h.2 j hj
  exact ⟨a, b, o, k, x1, x2, by omega, x4, by rw [h1.1 _ _ (a1 j _ hj (by omega) (by omega))]; exact y1, by rw [h2.1 _ _ (a2 j _ hj (by omega) (by omega))]; exact y2,
    by rw [h1.1 _ _ (a1 j _ hj (by omega) (by omega))]; exact y3, by rw [h2.1 _ _ (a2 j _ hj (by omega) (by omega))]; exact y4,
    by rw [h1.1 _ _ (a1 j _ hj (by omega) (by omega))]; exact y5, by rw [h2.1 _ _ (a2 j _ hj (by omega) (by omega))]; exact y6,
    by rw [h1.1 _ _ (a1 j _ hj (by omega) (by omega))]; exact y7, by rw [h2.1 _ _ (a2 j _ hj (by omega) (by omega))]; exact y8⟩
theorem tdR.fr {law : Law} {S L S' L' : Nat → Nat → Prop} {N M N' M' : hn} (h : tdR law N M) (h1 : fr S L N N') (h2 : fr S' L' M M') (a1 : ¬ S 2 2) (a2 : ¬ S' 76 15) (a3 : ¬ S' 76 16) : tdR law N' M' := by
  unfold tdR; rw [h1.1 _ _ a1, h2.1 _ _ a2, h2.1 _ _ a3]; exact h
theorem lw1.fr {D e f e' f' k : Nat} {o : Option (List (Nat × Int32))} {S L S' L' : Nat → Nat → Prop} {N M N' M' : hn} (h : lw1 D e f k o N M) (he : e ≤ e') (hf : f ≤ f') (h1 : fr S L N N') (h2 : fr S' L' M M')
    (a1 : ¬ S (D + 10) k ∧ ¬ S (D + 11) k) (a2 : ∀ j, j < e → ¬ S (D + 9) j) (a3 : ¬ S' 82 (145 + k)) (a4 : ∀ j, j < f → ¬ S' 83 (1100 + j) ∧ ¬ S' 84 (1100 + j)) : lw1 D e' f' k o N' M' := by
  obtain ⟨y1, y2⟩ := h
  refine ⟨fun l hl => ?_, fun hl => ?_⟩
  · obtain ⟨z1, z2, ⟨s, w1, w2, w3, w4⟩, ⟨s', x1, x2, x3, x4⟩⟩ := y1 l hl
    refine ⟨z1, z2, ⟨s, by rw [h1.1 _ _ a1.1]; exact w1, by rw [h1.1 _ _ a1.2]; exact w2, by omega, fun j hj => by rw [h1.1 _ _ (a2 _ (by omega))]; exact w4 j hj⟩,
      ⟨s', by rw [h2.1 _ _ a3]; exact x1, by omega, fun j hj => ?_, ?_⟩⟩
    · have := a4 (s' + j) (by omega)
      rw [← Nat.add_assoc] at this
      rw [h2.1 _ _ this.1, h2.1 _ _ this.2]; exact x3 j hj
    · have := a4 (s' + l.length) (by omega)
      rw [← Nat.add_assoc] at this
      rw [h2.1 _ _ this.1]; exact x4
  · obtain ⟨z1, z2, z3⟩ := y2 hl
    exact ⟨by rw [h1.1 _ _ a1.1]; exact z1, by rw [h1.1 _ _ a1.2]; exact z2, by rw [h2.1 _ _ a3]; exact z3⟩
theorem lwR.fr {D e f e' f' : Nat} {law : Law} {S L S' L' : Nat → Nat → Prop} {N M N' M' : hn} (h : lwR D e f law N M) (he : e ≤ e') (hf : f ≤ f') (h1 : fr S L N N') (h2 : fr S' L' M M')
    (a1 : ∀ k, k < 4 → ¬ S (D + 10) k ∧ ¬ S (D + 11) k) (a2 : ∀ j, j < e → ¬ S (D + 9) j) (a3 : ∀ k, k < 4 → ¬ S' 82 (145 + k)) (a4 : ∀ j, j < f → ¬ S' 83 (1100 + j) ∧ ¬ S' 84 (1100 + j)) : lwR D e' f' law N' M' :=
  fun k hk => (h k hk).fr he hf h1 h2 (a1 k hk) a2 (a3 k hk) a4
def dX (t : Nat → Nat) (n D i g p e f : Nat) (law : Law) (N M : hn) : Prop :=
  nbR 1 8 N D 0 M 82 80 ∧ nbR 1 8 N D 1 M 82 81 ∧ nbR 0 8 N D 2 M 82 82 ∧ (N.1 D 3 = nI g ∧ M.1 82 83 = nI g) ∧ (N.1 D 4 = nI p ∧ M.1 82 84 = nI p) ∧
  guR t n D g N M ∧ paR D g p N M ∧ (e ≤ i ∧ f ≤ i ∧ N.1 (D + 8) 1 = nI e ∧ M.1 76 13 = nI f) ∧ tdR law N M ∧ lwR D e f law N M
def lBad (t : Nat → Nat) (n T : Nat) (r : Int32) (N M : hn) : Prop := ∃ f i1, 1 ≤ f ∧ f ≤ 5 ∧ r = nI f ∧ i1 ≤ T ∧ N.1 3 3 = nI (sT t n i1) ∧ M.1 76 8 = nI (f + 16 * sT t n i1)
def lOut (t : Nat → Nat) (n T D i : Nat) (N M : hn) (A : Option (Int32 × hn)) (B : Option hn) : Prop :=
  ∃ r N' M', A = some (r, N') ∧ B = some M' ∧ fr (PS D) (PL D) N N' ∧ fr MS ML M M' ∧
    ((r = 0 ∧ ∃ i' g p e f law, i < i' ∧ atK t n i' N' ∧ bM t n T i' M' ∧ dX t n D i' g p e f law N' M') ∨ lBad t n T r N' M')
/-- reading alone -/
def R0 (b k : Nat) : Prop := (b = 3 ∧ k ≠ 1) ∨ (b = 2 ∧ k = 3)
def L3 (b _k : Nat) : Prop := b = 3
theorem r0_o3 {N N' : hn} (h : off3 N N') : fr R0 L3 N N' := fr.o3 h (fun k hk => Or.inl ⟨rfl, hk⟩) (fun _ => rfl)
theorem r0_num {N N' : hn} {a : Nat} (h : off3 (hn_wI N 2 3 (nI a)) N') : fr R0 L3 N N' ∧ N'.1 2 3 = nI a :=
  ⟨(fr.wI (Or.inr ⟨rfl, rfl⟩)).trans (r0_o3 h), by rw [h.1 2 (by decide)]; exact wI_s⟩
theorem r0_P {D : Nat} {N N' : hn} (h : fr R0 L3 N N') : fr (PS D) (PL D) N N' := h.mono (fun b k y => by unfold R0 at y; unfold PS; omega) (fun b k y => by unfold L3 at y; unfold PL; omega)
theorem nI_f5 {f : Nat} (h : 1 ≤ f) (h5 : f ≤ 5) : ¬ nI f = (0 : Int32) := nI_ni (b := 0) (by omega) (by decide) (by omega)
/-- sets of a line of one or two numbers -/
def S2 (D lo hi b k : Nat) : Prop := (b = 3 ∧ k ≠ 1) ∨ b = 2 ∨ (b = D ∧ lo ≤ k ∧ k < hi)
def Q2 (w lo hi b k : Nat) : Prop := (b = 76 ∧ (k = 7 ∨ k = 8 ∨ k = w)) ∨ (b = 82 ∧ lo ≤ k ∧ k < hi)
def NL (_b _k : Nat) : Prop := False
theorem cloud_ok {c : Nat} (hc : c = 5 ∨ c = 20) {t : Nat → Nat} {n T i g p e f : Nat} {law : Law} {N M : hn} (hK : atK t n i N) (hM : bM t n T i M) (hd : dX t n (25 - c) i g p e f law N M) (hk : kd t n (sT t n i) = 139) :
    lOut t n T (25 - c) i N M (F_Reader_readCloud c N) (hvN (F_Md_readCloud c M) fun M1 => F_Md_takeSign c (59 : Int32) M1) := by
  obtain ⟨iT, sn⟩ := tok_in hM.1 hM.2.2.2.2.2.2 (by omega)
  obtain ⟨x0, x1, x2, x3, x4, x5, x6, x7, x8, x9⟩ := hd
  have y82 : hn_ix 160 (82 : Int32) = true := by decide
  have t82 : (82 : Int32).toNatClampNeg = 82 := rfl
  rcases once_ok (c := c) (m := 11) hK hk (by omega) sn with ⟨b, d1⟩ | ⟨b, N1, v, d1, d2, d3, d4⟩
  · have g16 : ¬ M.1 76 16 = 0 := x8.2.1.mp b
    have bb := bad16 hM (f := 3) (by omega) (by omega)
    have w3 : F_Md_wrong c (3 : Int32) M = some (hn_wI M 76 8 (nI (3 + 16 * sT t n i))) := wrong_b (f := 3) hM
    have ts := takeSign_bad (c := c) (v := 59) (M := hn_wI M 76 8 (nI (3 + 16 * sT t n i))) wI_s bb.1 bb.2
    have z3 : ¬ (3 : Int32) = 0 := by decide
    refine ⟨3, N, _, ?_, ?_, fr.refl, fr.wI (by unfold MS; omega), Or.inr ⟨3, i, by omega, by omega, rfl, hM.2.2.2.2.2.2, hK.2.1, wI_s⟩⟩
    · simp only [F_Reader_readCloud, B_Reader_readCloud_1, d1, hbN_e, z3, ↓reduceIte]
    · simp only [F_Md_readCloud, g16, ↓reduceIte, w3, hvN_e, ts]
  · have g16 : M.1 76 16 = 0 := Decidable.byContradiction fun y => by have := x8.2.1.mpr y; rw [b] at this; exact absurd this (by decide)
    have hM1 : bM t n T (i + 1) (hn_wI (hn_wI M 76 16 1) 76 7 (nI (i + 1))) := (hM.f (by decide) (by decide)).n iT
    have e7 : (hn_wI M 76 16 (1 : Int32)).1 76 7 = nI i := by rw [wI_n (by decide)]; exact hM.2.2.2.2.1
    have F1 : fr (S2 (25 - c) 2 3) L3 N N1 := (fr.wI (by unfold S2; omega)).trans (fr.o3 d2 (fun k hk => by unfold S2; omega) (fun _ => rfl))
    have toP : ∀ {N' : hn}, fr (S2 (25 - c) 2 3) L3 N N' → fr (PS (25 - c)) (PL (25 - c)) N N' := fun h => h.mono (fun b k y => by unfold S2 at y; unfold PS; omega) (fun b k y => by unfold L3 at y; unfold PL; omega)
    have toM : ∀ {M' : hn}, fr (Q2 16 82 83) NL M M' → fr MS ML M M' := fun h => h.mono (fun b k y => by unfold Q2 at y; unfold MS; omega) (fun _ _ y => y.elim)
    have r2 : ∀ {N' N'' : hn}, fr R0 L3 N' N'' → fr (S2 (25 - c) 2 3) L3 N' N'' := fun h => h.mono (fun b k y => by unfold R0 at y; unfold S2; omega) (fun _ _ y => y)
    have G1 : fr (Q2 16 82 83) NL M (hn_wI (hn_wI M 76 16 1) 76 7 (nI (i + 1))) := (fr.wI (by unfold Q2; omega)).trans (fr.wI (by unfold Q2; omega))
    rcases number_ok (c := c) (lo := 0) (hi := 8) d3 hM1 (by omega) (by omega) with ⟨a, N2, u1, u2, u3, u4, u5, u6, u7⟩ | ⟨f', u1, u2, u3, u4⟩
    · obtain ⟨F2, v23⟩ := r0_num u5
      have u4' : F_Reader_takeNumber c (0 : Int32) (8 : Int32) N1 = some (0, N2) := u4
      have u7' : F_Md_takeNumber c (0 : Int32) (8 : Int32) (hn_wI (hn_wI M 76 16 1) 76 7 (nI (i + 1))) = some (nI a, hn_wI (hn_wI (hn_wI M 76 16 1) 76 7 (nI (i + 1))) 76 7 (nI (i + 1 + 1))) := u7
      have hK3 : atK t n (i + 2) (hn_wI N2 (25 - c) 2 (nI a)) := u6.w (by omega) (by omega)
      have hM3 : bM t n T (i + 2) (hn_wI (hn_wI (hn_wI (hn_wI M 76 16 1) 76 7 (nI (i + 1))) 76 7 (nI (i + 1 + 1))) 82 82 (nI a)) := (hM1.n (by omega)).w (by decide) (by decide) (by decide)
      have F3 : fr (S2 (25 - c) 2 3) L3 N (hn_wI N2 (25 - c) 2 (nI a)) := (F1.trans (r2 F2)).trans (fr.wI (by unfold S2; omega))
      have G3 : fr (Q2 16 82 83) NL M (hn_wI (hn_wI (hn_wI (hn_wI M 76 16 1) 76 7 (nI (i + 1))) 76 7 (nI (i + 1 + 1))) 82 82 (nI a)) := (G1.trans (fr.wI (by unfold Q2; omega))).trans (fr.wI (by unfold Q2; omega))
      rcases end_ok (c := c) hK3 hM3 with ⟨iT3, N4, s1, s2, s3, s4⟩ | ⟨s1, s4⟩
      · refine ⟨0, N4, _, ?_, ?_, toP (F3.trans (r2 (r0_o3 s2))), toM (G3.trans (fr.wI (by unfold Q2; omega))), Or.inl ⟨rfl, i + 3, g, p, e, f, law, by omega, s3, hM3.n iT3, ?_⟩⟩
        · simp only [F_Reader_readCloud, B_Reader_readCloud_1, d1, hbN_e, u4', ↓reduceIte, v23, hl_e, s1]
        · simp only [F_Md_readCloud, g16, ↓reduceIte, hl_e, e7, ← nI_succ, u7', hbN_e, y82, hg_T, t82, hvN_e, s4]
        · have FF := F3.trans (r2 (r0_o3 s2))
          have GG := G3.trans (fr.wI (N := hn_wI (hn_wI (hn_wI (hn_wI M 76 16 1) 76 7 (nI (i + 1))) 76 7 (nI (i + 1 + 1))) 82 82 (nI a)) (a := 76) (i := 7) (v := nI (i + 2 + 1)) (S := Q2 16 82 83) (L := NL) (by unfold Q2; omega))
          refine ⟨x0.fr FF GG (by unfold S2; omega) (by unfold Q2; omega), x1.fr FF GG (by unfold S2; omega) (by unfold Q2; omega), ⟨a, u1, u2, ?_, ?_⟩, ⟨?_, ?_⟩, ⟨?_, ?_⟩,
            x5.fr FF GG (fun j _ => by unfold S2 L3; omega) (fun j hj => ⟨by unfold Q2; omega, by unfold Q2; omega, id⟩), x6.fr (Nat.le_refl _) FF GG (fun j b _ _ _ => by unfold S2; omega) (fun j b _ _ _ => by unfold Q2; omega), ⟨by omega, by omega, ?_, ?_⟩, ?_,
            x9.fr (Nat.le_refl _) (Nat.le_refl _) FF GG (fun j _ => by unfold S2; omega) (fun j _ => by unfold S2; omega) (fun j _ => by unfold Q2; omega) (fun j _ => by unfold Q2; omega)⟩
          · rw [s2.1 _ (by omega)]; exact wI_s
          · rw [wI_o (by decide)]; exact wI_s
          · rw [FF.1 _ _ (by unfold S2; omega)]; exact x3.1
          · rw [GG.1 _ _ (by unfold Q2; omega)]; exact x3.2
          · rw [FF.1 _ _ (by unfold S2; omega)]; exact x4.1
          · rw [GG.1 _ _ (by unfold Q2; omega)]; exact x4.2
          · rw [FF.1 _ _ (by unfold S2; omega)]; exact x7.2.2.1
          · rw [GG.1 _ _ (by unfold Q2; omega)]; exact x7.2.2.2
          · have v2 : N4.1 2 2 = v := by rw [s2.1 2 (by decide), wI_o (by omega), F2.1 2 2 (by unfold R0; omega), d2.1 2 (by decide)]; exact wI_s
            unfold tdR
            rw [v2]
            refine ⟨?_, ?_, fun k hk => ?_⟩
            · rw [d4 0 (by omega), GG.1 76 15 (by unfold Q2; omega), ← x8.1]; simp
            · rw [d4 11 (by omega)]
              rw [wI_n (by decide), wI_o (by decide), wI_n (by decide), wI_n (by decide), wI_s]
              simp
            · rw [d4 (7 + k) (by omega), ← x8.2.2 k hk]
              have : ¬ 7 + k = 11 := by omega
              simp [this]
      · have bb := bad16 hM3 (f := 1) (by omega) (by omega)
        refine ⟨1, _, _, ?_, ?_, toP F3, toM (G3.trans (fr.wI (by unfold Q2; omega))), Or.inr ⟨1, i + 2, by omega, by omega, rfl, hM3.2.2.2.2.2.2, hK3.2.1, wI_s⟩⟩
        · simp only [F_Reader_readCloud, B_Reader_readCloud_1, d1, hbN_e, u4', ↓reduceIte, v23, hl_e, s1]
        · simp only [F_Md_readCloud, g16, ↓reduceIte, hl_e, e7, ← nI_succ, u7', hbN_e, y82, hg_T, t82, hvN_e, s4]
    · have bb := bad16 hM1 (f := f') u1 u2
      have nz := nI_f5 u1 u2
      have u3' : F_Reader_takeNumber c (0 : Int32) (8 : Int32) N1 = some (nI f', N1) := u3
      have u4' : F_Md_takeNumber c (0 : Int32) (8 : Int32) (hn_wI (hn_wI M 76 16 1) 76 7 (nI (i + 1))) = some (0, hn_wI (hn_wI (hn_wI M 76 16 1) 76 7 (nI (i + 1))) 76 8 (nI (f' + 16 * sT t n (i + 1)))) := u4
      have e8 : (hn_wI (hn_wI (hn_wI (hn_wI M 76 16 1) 76 7 (nI (i + 1))) 76 8 (nI (f' + 16 * sT t n (i + 1)))) 82 82 0).1 76 8 = nI (f' + 16 * sT t n (i + 1)) := by rw [wI_o (by decide)]; exact wI_s
      have ts := takeSign_bad (c := c) (v := 59) e8 bb.1 bb.2
      refine ⟨nI f', N1, _, ?_, ?_, toP F1, toM ((G1.trans (fr.wI (by unfold Q2; omega))).trans (fr.wI (by unfold Q2; omega))), Or.inr ⟨f', i + 1, u1, u2, rfl, hM1.2.2.2.2.2.2, d3.2.1, e8⟩⟩
      · simp only [F_Reader_readCloud, B_Reader_readCloud_1, d1, hbN_e, u3', ↓reduceIte, nz]
      · simp only [F_Md_readCloud, g16, ↓reduceIte, hl_e, e7, ← nI_succ, u4', hbN_e, y82, hg_T, t82, hvN_e, ts]
