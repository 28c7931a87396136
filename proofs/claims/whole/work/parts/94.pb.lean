/-! CHAPEL: the line of a pane: row and giver in step -/
def xRow1 (c : Nat) (v1 : Int32) (N : hn) : Option (Int32 × hn) :=
  hbN (F_Reader_takeNumber c (0 : Int32) (3 : Int32) N) fun r2 N1 => (if r2 = 0 then hg (hn_ix 12 v1 = true) <|
  hl (hn_wI N1 ((25 - c) + 5) v1.toNatClampNeg (N1.1 2 3)) fun N3 => some (r2, N3) else some (r2, N1))
def xRow (c : Nat) (v1 : Int32) (N : hn) : Option (Int32 × hn) :=
  (if (N.1 3 4) = (2 : Int32) then hg (hn_ix 12 v1 = true) <|
  hbN (F_Chapel_hasPaneAt c (25 - c) (N.1 ((25 - c) + 4) v1.toNatClampNeg) (N.1 3 5) N) fun r2 N1 => (if r2 = 0 then xRow1 c v1 N1
  else some ((3 : Int32), N1)) else xRow1 c v1 N)
def xP1 (c : Nat) (v1 : Int32) (v2 : Int32) (N : hn) : Option (Int32 × hn) :=
  (if v2 = 0 then hbN (F_Reader_take c (133 : Int32) N) fun r2 N1 => B_Reader_readPane_3 c v1 r2 N1 else B_Reader_readPane_3 c v1 v2 N)
theorem hbN_n {α β : Type} {k : α → hn → Option β} : hbN none k = none := rfl
theorem xP2_eq {c p : Nat} (xp : hn_ix 12 (nI p) = true) (cp : (nI p).toNatClampNeg = p) {N : hn} : (hbN (F_Reader_takeNumber c (0 : Int32) (3 : Int32) N) fun r9 N8 => B_Reader_readPane_2 c (nI p) r9 N8) = hbN (xRow1 c (nI p) N) fun r7 N6 => xP1 c (nI p) r7 N6 := by
  unfold xRow1
  rcases F_Reader_takeNumber c (0 : Int32) (3 : Int32) N with _ | ⟨r, N1⟩
  · rfl
  · by_cases q : r = 0
    · simp only [hbN_e, q, ↓reduceIte, xp, hg_T, hl_e, B_Reader_readPane_2, xP1]
    · simp only [hbN_e, q, ↓reduceIte, B_Reader_readPane_2, xP1]
theorem xRow_eq {c p : Nat} (xp : hn_ix 12 (nI p) = true) (cp : (nI p).toNatClampNeg = p) {N : hn} (h : N.1 2 3 = N.1 ((25 - c) + 4) p) :
    (hbN (F_Reader_isRowOfPane c (N.1 2 3) N) fun r7 N6 => (if r7 = 0 then hbN (F_Reader_takeNumber c (0 : Int32) (3 : Int32) N6) fun r9 N8 => B_Reader_readPane_1 c (nI p) r9 N8 else B_Reader_readPane_1 c (nI p) (3 : Int32) N6)) = hbN (xRow c (nI p) N) fun r7 N6 => xP1 c (nI p) r7 N6 := by
  have z1 : ¬ (1 : Int32) = 0 := by decide
  have z3 : ¬ (3 : Int32) = 0 := by decide
  unfold xRow F_Reader_isRowOfPane
  by_cases q : N.1 3 4 = (2 : Int32)
  · simp only [q, ↓reduceIte, xp, hg_T, cp, h]
    rcases F_Chapel_hasPaneAt c (25 - c) (N.1 ((25 - c) + 4) p) (N.1 3 5) N with _ | ⟨r, N1⟩
    · rfl
    · by_cases qr : r = 0
      · simp only [hbN_e, qr, ↓reduceIte, B_Reader_readPane_1]
        exact xP2_eq xp cp
      · simp only [hbN_e, qr, ↓reduceIte, B_Reader_readPane_1, B_Reader_readPane_2, xP1, z1, z3]
  · simp only [q, ↓reduceIte, hbN_e, B_Reader_readPane_1]
    exact xP2_eq xp cp
theorem prow_ok {c : Nat} (hc : c = 5 ∨ c = 20) {t : Nat → Nat} {n T i g p a : Nat} {N M : hn} (hK : atK t n i N) (hM : bM t n T i M) (hp : p < 12) (h4 : N.1 (25 - c) 4 = nI p) (hpa : paR (25 - c) g p N M) (hNa : N.1 (25 - c + 4) p = nI a) (hMa : M.1 82 (97 + 4 * p) = nI a) (ha : a < 8) :
    (∃ b N', b < 4 ∧ i + 1 ≤ T ∧ xRow c (nI p) N = some (0, hn_wI N' (25 - c + 5) p (nI b)) ∧ fr R0 L3 N N' ∧ atK t n (i + 1) N' ∧ F_Md_readPane_1 c hN (nI p) (nI (97 + 4 * p)) (0 : Int32) M = pT2 c p (nI b) (hn_wI M 76 7 (nI (i + 1)))) ∨
    (∃ f M', 1 ≤ f ∧ f ≤ 5 ∧ xRow c (nI p) N = some (nI f, N) ∧ F_Md_readPane_1 c hN (nI p) (nI (97 + 4 * p)) (0 : Int32) M = some M' ∧ fr MS ML M M' ∧ M'.1 76 8 = nI (f + 16 * sT t n i)) := by
  have hT := hM.T
  have hi := hM.2.2.2.2.2.2
  have xp : hn_ix 12 (nI p) = true := ix_ok (by omega) (by decide)
  have cp : (nI p).toNatClampNeg = p := nI_lt31 (by omega)
  obtain ⟨k4, kb⟩ := hK.k4
  have e8 := hM.2.2.2.2.2.1
  have e7 := hM.2.2.2.2.1
  have e78 := (hM.1.2.2.2 i hi).2.1
  have sb := tok_so (t := t) (n := n) (p := sT t n i)
  have tn := tok_num (n := n) (p := sT t n i) (fun h => hM.2.2.1 _ h)
  -- what is left where no pane stands there
  have rest : xRow c (nI p) N = xRow1 c (nI p) N → F_Md_readPane_1 c hN (nI p) (nI (97 + 4 * p)) (0 : Int32) M = B_Md_readPane_2 c (nI (97 + 4 * p)) M →
    (∃ b N', b < 4 ∧ i + 1 ≤ T ∧ xRow c (nI p) N = some (0, hn_wI N' (25 - c + 5) p (nI b)) ∧ fr R0 L3 N N' ∧ atK t n (i + 1) N' ∧ F_Md_readPane_1 c hN (nI p) (nI (97 + 4 * p)) (0 : Int32) M = pT2 c p (nI b) (hn_wI M 76 7 (nI (i + 1)))) ∨
    (∃ f M', 1 ≤ f ∧ f ≤ 5 ∧ xRow c (nI p) N = some (nI f, N) ∧ F_Md_readPane_1 c hN (nI p) (nI (97 + 4 * p)) (0 : Int32) M = some M' ∧ fr MS ML M M' ∧ M'.1 76 8 = nI (f + 16 * sT t n i)) := by
    intro cR mR
    rw [cR, mR, pT2_eq hp]
    rcases number_ok (c := c) (lo := 0) (hi := 3) hK hM (by omega) (by omega) with ⟨b, N2, u1, u2, u3, u4, u5, u6, u7⟩ | ⟨f', u1, u2, u3, u4⟩
    · obtain ⟨F2, v23⟩ := r0_num u5
      have u4' : F_Reader_takeNumber c (0 : Int32) (3 : Int32) N = some (0, N2) := u4
      have u7' : F_Md_takeNumber c (0 : Int32) (3 : Int32) M = some (nI b, hn_wI M 76 7 (nI (i + 1))) := u7
      refine Or.inl ⟨b, N2, by omega, u3, ?_, F2, u6, ?_⟩
      · simp only [xRow1, u4', hbN_e, ↓reduceIte, xp, hg_T, cp, v23, hl_e]
      · simp only [u7', hbN_e]
    · have u3' : F_Reader_takeNumber c (0 : Int32) (3 : Int32) N = some (nI f', N) := u3
      have u4' : F_Md_takeNumber c (0 : Int32) (3 : Int32) M = some (0, hn_wI M 76 8 (nI (f' + 16 * sT t n i))) := u4
      have nz := nI_f5 u1 u2
      have bb := bad16 hM u1 u2
      obtain ⟨M', d1, d2, d3⟩ := pT2_bad (c := c) (p := p) (v := 0) (M := hn_wI M 76 8 (nI (f' + 16 * sT t n i))) wI_s bb.1 bb.2
      refine Or.inr ⟨f', M', u1, u2, ?_, ?_, (fr.wI (by unfold MS; omega)).trans d2, d3⟩
      · simp only [xRow1, u3', hbN_e, nz, ↓reduceIte]
      · simp only [u4', hbN_e, d1]
  by_cases q : kd t n (sT t n i) = 2
  · obtain ⟨v, v1, v2, v3, v4⟩ := num_val hK hM q
    have e4 : N.1 3 4 = (2 : Int32) := by rw [k4, q]; rfl
    by_cases hit : ∃ j, j < p ∧ N.1 (25 - c + 4) j = nI a ∧ N.1 (25 - c + 5) j = nI v
    · obtain ⟨j, j1, j2, j3⟩ := hit
      obtain ⟨aj, bj, oj, kj, w1, w2, w3, w4, y1, y2, y3, y4, -⟩ := hpa.2 j j1
      have z1 : ¬ (1 : Int32) = 0 := by decide
      have hh := hasPane_hit (c := c) (v1 := nI a) (v2 := nI v) h4 (by omega) j1 j2 j3
      have bb := bad16 hM (f := 3) (by omega) (by omega)
      have w3 : F_Md_wrong c (3 : Int32) M = some (hn_wI M 76 8 (nI (3 + 16 * sT t n i))) := wrong_b (f := 3) hM
      have ra := rp1_hit (c := c) (p := p) (i := i) (j0 := j) (v2 := 97 + 4 * p) (by omega) (by omega) (by omega) e8 e7 v4 v3 j1 (by rw [y2, hMa]; exact y1.symm.trans j2) (by rw [y4]; exact (i64_eq (by omega) (by omega)).mpr (y3.symm.trans j3)) w3 bb.1 bb.2
      obtain ⟨M', d1, d2, d3⟩ := rp2_bad (c := c) hp (M := hn_wI M 76 8 (nI (3 + 16 * sT t n i))) wI_s bb.1 bb.2
      refine Or.inr ⟨3, M', by omega, by omega, ?_, ra.trans d1, (fr.wI (by unfold MS; omega)).trans d2, d3⟩
      simp only [xRow, e4, ↓reduceIte, xp, hg_T, cp, hNa, v2, hh, hbN_e, z1]
      rfl
    · have hh := hasPane_miss (c := c) (D := 25 - c) (p := p) (v1 := nI a) (v2 := nI v) h4 (by omega) (fun j hj y => hit ⟨j, hj, y⟩)
      refine rest ?_ ?_
      · simp only [xRow, e4, ↓reduceIte, xp, hg_T, cp, hNa, v2, hh, hbN_e]
      · refine rp1_miss (so' := 2) (i := i) (val := lN v) (by omega) (by omega) (by omega) e8 e7 v4 (by omega) (fun _ => v3) (fun _ j hj y => hit ?_)
        obtain ⟨aj, bj, oj, kj, w1, w2, w3, w4, y1, y2, y3, y4, -⟩ := hpa.2 j hj
        refine ⟨j, hj, ?_, ?_⟩
        · rw [y1, ← y2, y.1, hMa]
        · rw [y4] at y; rw [y3]; exact (i64_eq (by omega) (by omega)).mp y.2
  · have g : ¬ N.1 3 4 = (2 : Int32) := by rw [k4]; exact nI_ni (b := 2) (by omega) (by decide) q
    refine rest ?_ ?_
    · simp only [xRow, g, ↓reduceIte]
    · exact rp1_miss (so' := so t n (sT t n i)) (i := i) (val := 0) (by omega) (by omega) (by omega) e8 e7 e78 sb (fun y => absurd (tn.mp y) q) (fun y => absurd (tn.mp y) q)
def pT5 (p : Nat) (r6 : Int32) (N5 : hn) : Option hn := hl (hn_wI N5 82 (100 + 4 * p) r6) fun N7 => hl (hn_wI N7 82 84 (N7.1 82 84 + (1 : Int32))) fun N8 => some N8
theorem pT5_bad {x p : Nat} {v : Int32} {M : hn} (h : M.1 76 8 = nI x) : ∃ M', pT5 p v M = some M' ∧ fr MS ML M M' ∧ M'.1 76 8 = nI x := by
  refine ⟨hn_wI (hn_wI M 82 (100 + 4 * p) v) 82 84 ((hn_wI M 82 (100 + 4 * p) v).1 82 84 + (1 : Int32)), by simp only [pT5, hl_e], (fr.wI (by unfold MS; omega)).trans (fr.wI (by unfold MS; omega)), ?_⟩
  rw [wI_o (by decide), wI_o (by decide)]; exact h
def pT4 (c p : Nat) (M : hn) : Option hn := hbN (F_Md_takeAfter c (6 : Int32) (1 : Int32) (7 : Int32) M) fun r6 N5 => pT5 p r6 N5
theorem giver_ok {c : Nat} (hc : c = 5 ∨ c = 20) {t : Nat → Nat} {n T i g p : Nat} {N M : hn} (hK : atK t n i N) (hM : bM t n T i M) (hp : p < 12) (h3 : N.1 (25 - c) 3 = nI g) (m3 : M.1 82 83 = nI g) (hgu : guR t n (25 - c) g N M) :
    (∃ x N', x < g ∧ i + 1 ≤ T ∧ F_Reader_takeGiver c (nI p) N = some (0, N') ∧ off3 (hn_wI N (25 - c + 6) p (nI x)) N' ∧ atK t n (i + 1) N' ∧ pTg c p M = pT4 c p (hn_wI (hn_wI M 82 (99 + 4 * p) (nI x)) 76 7 (nI (i + 1)))) ∨
    (∃ f M', 1 ≤ f ∧ f ≤ 5 ∧ F_Reader_takeGiver c (nI p) N = some (nI f, N) ∧ pTg c p M = some M' ∧ fr MS ML M M' ∧ M'.1 76 8 = nI (f + 16 * sT t n i)) := by
  have hT := hM.T
  have hlt := hM.2.2.1
  have hi := hM.2.2.2.2.2.2
  have g6 := hgu.1
  have nm := isName_ok (c := c) hM
  obtain ⟨k4, kb⟩ := hK.k4
  have e8 := hM.2.2.2.2.2.1
  have e7 := hM.2.2.2.2.1
  have z1 : ¬ (1 : Int32) = 0 := by decide
  have z0 : (0 : Int32) ≤ 0 := by decide
  have xp : hn_ix 12 (nI p) = true := ix_ok (by omega) (by decide)
  have cp : (nI p).toNatClampNeg = p := nI_lt31 (by omega)
  by_cases qn : 143 ≤ kd t n (sT t n i)
  · obtain ⟨iT1, sn1⟩ := tok_in hM.1 hi (by omega)
    rw [if_pos qn] at nm
    have l143 : ¬ nI (kd t n (sT t n i)) < (143 : Int32) := fun y => by have := (nI_lti (b := 143) (by omega) (by decide)).mp y; omega
    have w6 : N.2 3 6 = lN (wv 32 t (sT t n i) (tE t n (sT t n i) - sT t n i)) := hK.2.2.2.2.1 (by omega)
    have v80 : M.2 80 i = lN (va t n (sT t n i)) := (hM.1.2.2.2 i hi).2.2 iT1
    have fd := named_ok (c := c) (D := 25 - c) (g := g) (w := N.2 3 6) (N := N) (P := fun j => decide (N.2 (25 - c + 1) j = N.2 3 6)) h3 g6 (fun j _ => decide_eq_true_iff.symm)
    have md := mfind_ok (c := c) (i := i) (g := g) (M := M) (P := fun j => decide (N.2 (25 - c + 1) j = N.2 3 6)) e7 (by omega) m3 g6 (fun j hj => by
      obtain ⟨a, b, q, y1, y2, y3, y4, y5, y6, y7, y8, y9⟩ := hgu.2 j hj
      rw [decide_eq_true_iff, y8, w6, v80, y9]
      exact (tok_same (fun h => hlt _ h) (fun h => hlt _ h) (by omega) (by omega)).symm)
    rcases fdx_or (P := fun j => decide (N.2 (25 - c + 1) j = N.2 3 6)) g 0 with hx | ⟨x, -, hx2, hx⟩
    · rw [hx] at fd md
      have m10 : ¬ (0 : Int32) ≤ -1 := by decide
      have bb := bad16 hM (f := 2) (by omega) (by omega)
      have w3 : F_Md_wrong c (2 : Int32) M = some (hn_wI M 76 8 (nI (2 + 16 * sT t n i))) := wrong_b (f := 2) hM
      have r4 := rp4_bad (c := c) (v2 := nI (97 + 4 * p)) (M := hn_wI M 76 8 (nI (2 + 16 * sT t n i))) wI_s bb.1 bb.2
      refine Or.inr ⟨2, _, by omega, by omega, ?_, ?_, fr.wI (by unfold MS; omega), wI_s⟩
      · simp only [F_Reader_takeGiver, F_Tape_isName, k4, l143, ↓reduceIte, hbN_e, z1, fd]
        rfl
      · simp only [pTg, e8, ↓reduceIte, nm, hbN_e, z1, B_Md_readPane_3, md, m10, w3, hvN_e, r4]
    · rw [hx] at fd md
      have nx : ¬ nI x = (-1 : Int32) := nI_nm (by omega)
      have nx2 : (0 : Int32) ≤ nI x := nI_p (by omega)
      obtain ⟨N', f1, f2, f3⟩ := next_K (c := c) (hK.w (a := 25 - c + 6) (j := p) (v := nI x) (by omega) (by omega)) sn1
      have x99 : hn_ix 160 (nI (99 + 4 * p)) = true := ix_ok (by omega) (by decide)
      have c99 : (nI (99 + 4 * p)).toNatClampNeg = 99 + 4 * p := nI_lt31 (by omega)
      have x100 : hn_ix 160 (nI (100 + 4 * p)) = true := ix_ok (by omega) (by decide)
      have c100 : (nI (100 + 4 * p)).toNatClampNeg = 100 + 4 * p := nI_lt31 (by omega)
      have y84 : hn_ix 160 (84 : Int32) = true := by decide
      have t84 : (84 : Int32).toNatClampNeg = 84 := rfl
      have e7' : (hn_wI M 82 (99 + 4 * p) (nI x)).1 76 7 = nI i := by rw [wI_o (by decide)]; exact e7
      refine Or.inl ⟨x, N', by omega, iT1, ?_, f2, f3, ?_⟩
      · simp only [F_Reader_takeGiver, F_Tape_isName, k4, l143, ↓reduceIte, hbN_e, z1, fd, nx, xp, hg_T, cp, hl_e, f1, hvN_e]
      · simp only [pTg, e8, ↓reduceIte, nm, hbN_e, z1, B_Md_readPane_3, md, nx2, B_Md_readPane_4, z0, i99', x99, hg_T, c99, hl_e, e7', ← nI_succ, i100', x100, c100, y84, t84, pT4, pT5]
  · rw [if_neg qn] at nm
    have l143 : nI (kd t n (sT t n i)) < (143 : Int32) := (nI_lti (b := 143) (by omega) (by decide)).mpr (by omega)
    have bb := bad16 hM (f := 1) (by omega) (by omega)
    have w3 : F_Md_wrong c (1 : Int32) M = some (hn_wI M 76 8 (nI (1 + 16 * sT t n i))) := wrong_b (f := 1) hM
    have r4 := rp4_bad (c := c) (v2 := nI (97 + 4 * p)) (M := hn_wI M 76 8 (nI (1 + 16 * sT t n i))) wI_s bb.1 bb.2
    refine Or.inr ⟨1, _, by omega, by omega, ?_, ?_, fr.wI (by unfold MS; omega), wI_s⟩
    · simp only [F_Reader_takeGiver, F_Tape_isName, k4, l143, ↓reduceIte, hbN_e]
      rfl
    · simp only [pTg, e8, ↓reduceIte, nm, hbN_e, w3, hvN_e, r4]
