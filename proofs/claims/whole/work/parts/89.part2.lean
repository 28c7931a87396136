/-! CHAPEL: a part, in step -/
theorem part_gen {c : Nat} (hc : c = 5 ∨ c = 20) {t : Nat → Nat} {n T k e0 f0 hb v : Nat} (hk : k < 4) (hv5 : v ≤ 5) {rP : Int32 → hn → Option (Int32 × hn)} {mP : Int32 → hn → Option hn}
    (hS : v < 5 → xSub t n T (25 - c) k e0 f0 hb (rP (nI (v + 1))) (mP (nI (v + 1)))) : xSub t n T (25 - c) k e0 f0 (hb + 4) (E_Reader_readPart c rP (nI v)) (E_Md_takePart c mP (nI v)) := by
  intro i l N M hP hM
  obtain ⟨k4, kb⟩ := hP.k4
  have hi := hP.2.1
  have hT := hM.T
  have hn' := hM.2.1
  have pb := sT_b (t := t) (n := n) i
  have e7 := hM.2.2.2.2.1
  have e8 := hM.2.2.2.2.2.1
  have z : ¬ (1 : Int32) = 0 := by decide
  have z8 : (0 : Int32) ≤ 0 := by decide
  have ent := ent_md (c := c) hM hi hk mP (nI v)
  have st := starts_t k hk (kd t n (sT t n i)) (by omega) c N k4 hP.2.2.1
  by_cases qs : stT k (kd t n (sT t n i)) = true
  · rw [if_pos qs] at ent st
    by_cases q5 : v = 5
    · subst q5
      have g5 : ¬ nI 5 < (5 : Int32) := by decide
      have g5' : nI 5 = (5 : Int32) := rfl
      have w : F_Md_wrong c (5 : Int32) M = some (hn_wI M 76 8 (nI (5 + 16 * sT t n i))) := wrong_ok (f := 5) hM hi
      refine ⟨5, N, hn_wI M 76 8 (nI (5 + 16 * sT t n i)), ?_, ?_, pF.refl, mF.w (Or.inr (Or.inl rfl)), Or.inr (mk_bad (f := 5) hP hM (by omega) (by omega))⟩
      · simp only [E_Reader_readPart, st, hbN_e, z, ↓reduceIte, g5]
      · rw [ent]
        simp only [B_Md_takePart_2, g5', ↓reduceIte, w, hvN_e]
        exact part3_bad wI_s (by omega) (by omega)
    · have hv : v < 5 := by omega
      have hU := hS hv
      have g5 : nI v < (5 : Int32) := (nI_lti (b := 5) (by omega) (by decide)).mpr hv
      have g5' : ¬ nI v = (5 : Int32) := nI_ni (b := 5) (by omega) (by decide) q5
      have ev : nI v + (1 : Int32) = nI (v + 1) := (nI_succ v).symm
      have k1 : kd t n (sT t n i) ≠ 1 := fun e => by rw [e] at qs; simp [stT] at qs
      obtain ⟨iT, sn⟩ := tok_in hM.1 hi k1
      obtain ⟨N1, d1, d2, d3⟩ := next_K (c := c) hP.1 sn
      have hP1 := hP.next d2 d3 iT (by omega)
      have w12 := hM.wd (c := c) (w := 12) hi (by decide)
      have b1 := hP.2.2.2.2.1
      have b2 := hM.2.2.2.2.2.2.2.2.1
      by_cases q140 : kd t n (sT t n i) = 140
      · -- not
        rw [if_pos q140] at w12
        have w12' : F_Md_isWord c (12 : Int32) M = some (1, M) := w12
        have e4 : N.1 3 4 = (140 : Int32) := by rw [k4, q140]; rfl
        have n40 : ¬ (140 : Int32) = 40 := by decide
        have n2 : ¬ (140 : Int32) = 2 := by decide
        obtain ⟨r, N3, M3, N4, M4, p1, p2, p3, p4, p5, p6, p7⟩ := not_step (c := c) hU hP1 (w7_N hM) hT (by omega) b1 b2
        have p3' : F_Laws_add c ((25 - c) + 8) (-(140 : Int32)) N3 = some N4 := p3
        refine ⟨r, N4, M4, ?_, ?_, (pF.o3 d2).trans p5, (mF.w (Or.inl rfl)).trans p6, ?_⟩
        · simp only [E_Reader_readPart, B_Reader_readPart_2, B_Reader_readPart_3, st, hbN_e, z, ↓reduceIte, g5, hl_e, e4, d1, hvN_e, n40, n2, ev, p1, p3']
        · rw [ent]
          simp only [B_Md_takePart_2, B_Md_takePart_3, g5', ↓reduceIte, e8, z8, hasWord_1 w12' e7, hbN_e, z, ev, p2, hvN_e, p4]
        · rcases p7 with ⟨w0, i2, l2, w1, w2, w3, w4, w5⟩ | bad
          · exact Or.inl ⟨w0, i2, l2, w1, w2, w3, w4, fun h hh => w5 h (by omega)⟩
          · exact Or.inr bad
      · rw [if_neg q140] at w12
        have w12' : F_Md_isWord c (12 : Int32) M = some (0, M) := w12
        have hM2 := w7_M hM
        have s40 := hM2.sg (c := c) hi (show cS 40 = true by decide)
        have n140 : ¬ nI (kd t n (sT t n i)) = (140 : Int32) := nI_ni (b := 140) (by omega) (by decide) q140
        by_cases q40 : kd t n (sT t n i) = 40
        · -- brackets
          rw [if_pos q40] at s40
          have s40' : F_Md_isSign c (40 : Int32) (hn_wI M 76 7 (nI i + 0)) = some (1, hn_wI M 76 7 (nI i + 0)) := s40
          have e4 : N.1 3 4 = (40 : Int32) := by rw [k4, q40]; rfl
          obtain ⟨r, N2, M2, a1, a2, a3, a4, a5⟩ := all_ok hc hU (i + 1) l N1 _ hP1 (w7_N hM2)
          have fP := (pF.o3 (D := 25 - c) (e0 := e0) d2).trans a3
          have fM := ((mF.w (f0 := f0) (i := 7) (v := nI i + 0) (M := M) (Or.inl rfl)).trans (mF.w (i := 7) (v := nI (i + 1)) (Or.inl rfl))).trans a4
          have eB : E_Md_takePart c mP (nI v) M = hvN (F_Md_takeSign c (41 : Int32) M2) fun N6 => some N6 := by
            rw [ent]
            simp only [B_Md_takePart_2, B_Md_takePart_3, g5', ↓reduceIte, e8, z8, hasWord_0 w12' e7, hbN_e, hasSign_1 s40' hM2.2.2.2.2.1, z, ev, a2, hvN_e]
          rw [eB]
          rcases a5 with ⟨rfl, i', l', y1, y2, y3, y4, y5⟩ | bad
          · have hi' := y3.2.1
            by_cases q41 : kd t n (sT t n i') = 41
            · obtain ⟨iT', sn'⟩ := tok_in y4.1 hi' (by omega)
              obtain ⟨N3, u1, u2, u3⟩ := next_K (c := c) y3.1 sn'
              have u4 : N2.1 3 4 = (41 : Int32) := by rw [y3.k4.1, q41]; rfl
              have ts : F_Md_takeSign c (41 : Int32) M2 = some (hn_wI M2 76 7 (nI (i' + 1))) := takeSign_y (m := 41) y4 hi' (by decide) q41
              refine ⟨0, N3, hn_wI M2 76 7 (nI (i' + 1)), ?_, by simp only [ts, hvN_e], fP.trans (pF.o3 u2), fM.trans (mF.w (Or.inl rfl)), Or.inl ⟨rfl, i' + 1, l', by omega, by omega, y3.next u2 u3 iT' (by omega), w7_N y4, fun h hh => y5 h (by omega)⟩⟩
              simp only [E_Reader_readPart, st, hbN_e, z, ↓reduceIte, g5, hl_e, e4, d1, hvN_e, ev, a1, u4, u1]
            · have kb' := y3.k4.2
              have u4 : ¬ N2.1 3 4 = (41 : Int32) := by rw [y3.k4.1]; exact nI_ni (b := 41) (by omega) (by decide) q41
              have ts : F_Md_takeSign c (41 : Int32) M2 = some (hn_wI M2 76 8 (nI (1 + 16 * sT t n i'))) := takeSign_n (m := 41) y4 hi' (by decide) q41
              refine ⟨1, N2, _, ?_, by simp only [ts, hvN_e], fP, fM.trans (mF.w (Or.inr (Or.inl rfl))), Or.inr ((mk_bad (f := 1) y3 y4 (by omega) (by omega)).mono (by omega) (by simp) (by simp; omega))⟩
              simp only [E_Reader_readPart, B_Reader_readPart_1, st, hbN_e, z, ↓reduceIte, g5, hl_e, e4, d1, hvN_e, ev, a1, u4]
          · have bad' := bad
            obtain ⟨f, i1, i2, g, e2, c1, c2, c3, c4, c5, c6, c7, c8, c9, c10, c11, c12, c13, c14, c15, c16⟩ := bad
            have sb := sT_b (t := t) (n := n) i1
            have r0 : ¬ r = 0 := by
              rw [c3]; intro y
              have := (nI_eqi (b := 0) (by omega) (by decide)).mp y; omega
            have ts : F_Md_takeSign c (41 : Int32) M2 = some M2 := takeSign_bad c10 (by omega) (by omega)
            refine ⟨r, N2, M2, ?_, by simp only [ts, hvN_e], fP, fM, Or.inr (bad'.mono (by omega) (Nat.le_refl _) (by omega))⟩
            simp only [E_Reader_readPart, B_Reader_readPart_1, st, hbN_e, z, ↓reduceIte, g5, hl_e, e4, d1, hvN_e, ev, a1, r0]
        · rw [if_neg q40] at s40
          have s40' : F_Md_isSign c (40 : Int32) (hn_wI M 76 7 (nI i + 0)) = some (0, hn_wI M 76 7 (nI i + 0)) := s40
          have n40 : ¬ nI (kd t n (sT t n i)) = (40 : Int32) := nI_ni (b := 40) (by omega) (by decide) q40
          have hM3 := w7_M hM2
          have e7' := hM2.2.2.2.2.1
          have sP : ∀ q : Nat × Int32, ∃ N', F_Laws_add c ((25 - c) + 8) (enc q) N1 = some N' ∧ pF (25 - c) e0 N1 N' ∧ xP t n T (25 - c) k e0 (i + 1) (l ++ [q]) N' := fun q => xP_add (c := c) hP1 hT (by omega) (by omega)
          by_cases q2 : kd t n (sT t n i) = 2
          · -- a number
            rw [if_pos q2] at ent
            have h35 := hP.1.2.2.2.1 q2
            have tv : va t n (sT t n i) = nv t (sT t n i) (tE t n (sT t n i) - sT t n i) ∧ va t n (sT t n i) < 10000 := by
              rcases tok_or t n (sT t n i) (fun y => hM.2.2.1 _ y) with y | y | y | y | y
              · obtain ⟨-, y1, -⟩ := y; omega
              · obtain ⟨-, -, -, y1, y2⟩ := y; exact ⟨y1, y2⟩
              · obtain ⟨-, y0, y1, -⟩ := y; have := cS_in y0; omega
              · obtain ⟨-, y1, -⟩ := y; omega
              · obtain ⟨-, y1, -⟩ := y; omega
            rw [← tv.1] at h35
            obtain ⟨a, ha⟩ : ∃ a, a = va t n (sT t n i) := ⟨_, rfl⟩
            have v80 := (hM3.1.2.2.2 i hi).2.2 iT
            rw [← ha] at h35 tv v80
            obtain ⟨N2, u1, u2, u3⟩ := sP (1, nI a)
            have u1' : F_Laws_add c ((25 - c) + 8) (nI a) N1 = some N2 := u1
            obtain ⟨M', m1, m2, m3, m4⟩ := leaf_md (c := c) (q := (1, nI a)) hM3 iT
            have m1' : F_Md_emit c (1 : Int32) (nI a) (hn_wI (hn_wI M 76 7 (nI i + 0)) 76 7 (nI i + 0)) = some M' := m1
            have e4 : N.1 3 4 = (2 : Int32) := by rw [k4, q2]; rfl
            have n40' : ¬ (2 : Int32) = 40 := by decide
            have n140' : ¬ (2 : Int32) = 140 := by decide
            have x0 : hn_ix 1002 (nI i) = true := ix_ok (by omega) (by decide)
            have c0 : (nI i).toNatClampNeg = i := nI_lt31 (by omega)
            have e32 : (lN a).toInt32 = nI a := lN_32 (by omega)
            have e7'' := hM3.2.2.2.2.1
            refine ⟨0, N2, hn_wI M' 76 7 (nI (i + 1)), ?_, ?_, (pF.o3 d2).trans u2, ((mF.w (Or.inl rfl)).trans (mF.w (Or.inl rfl))).trans m3, Or.inl ⟨rfl, i + 1, [(1, nI a)], by omega, by simp; omega, u3, m4, fun h hh => okL_one (Or.inl ⟨rfl, nI_p (by omega), by omega, rfl⟩)⟩⟩
            · simp only [E_Reader_readPart, B_Reader_readPart_2, B_Reader_readPart_3, st, hbN_e, z, ↓reduceIte, g5, hl_e, e4, h35, d1, hvN_e, n40', n140', u1']
            · rw [ent]
              simp only [B_Md_takePart_2, B_Md_takePart_3, B_Md_takePart_4, B_Md_takePart_5, g5', ↓reduceIte, e8, z8, hasWord_0 w12' e7, hbN_e, hasSign_0 s40' e7', z, e7'', x0, hg_T, c0, v80, e32, m1', hvN_e, m2, hl_e, ← nI_succ]
          · -- a fact
            rw [if_neg q2] at ent
            have qf : 143 ≤ kd t n (sT t n i) ∧ kd t n (sT t n i) ≤ 149 ∧ may k (kd t n (sT t n i) - 143) = true := by
              unfold stT at qs
              simp only [Bool.or_eq_true, Bool.and_eq_true, decide_eq_true_eq] at qs
              rcases qs with ((y | y) | y) | ⟨⟨y1, y2⟩, y3⟩
              · exact absurd y q2
              · exact absurd y q140
              · exact absurd y q40
              · exact ⟨y1, y2, y3⟩
            obtain ⟨f, hf⟩ : ∃ f, kd t n (sT t n i) = 143 + f := ⟨kd t n (sT t n i) - 143, by omega⟩
            have f7 : f < 7 := by omega
            have hm : may k f = true := by have := qf.2.2; rw [hf, show 143 + f - 143 = f by omega] at this; exact this
            have fc : fcT k (kd t n (sT t n i)) 7 = nI f := by
              unfold fcT
              rw [if_pos ⟨qf.1, by omega, qf.2.2⟩]; exact congrArg nI (by omega)
            rw [fc] at ent
            rw [hf] at k4
            have ex : -(nI (143 + f)) = enc (2, nI f) := by
              rw [← nI_a]; rfl
            obtain ⟨N2, u1, u2, u3⟩ := sP (2, nI f)
            rw [← ex] at u1
            obtain ⟨M', m1, m2, m3, m4⟩ := leaf_md (c := c) (q := (2, nI f)) hM3 iT
            have m1' : F_Md_emit c (2 : Int32) (nI f) (hn_wI (hn_wI M 76 7 (nI i + 0)) 76 7 (nI i + 0)) = some M' := m1
            have n40' : ¬ nI (143 + f) = (40 : Int32) := nI_ni (b := 40) (by omega) (by decide) (by omega)
            have n140' : ¬ nI (143 + f) = (140 : Int32) := nI_ni (b := 140) (by omega) (by decide) (by omega)
            have n2' : ¬ nI (143 + f) = (2 : Int32) := nI_ni (b := 2) (by omega) (by decide) (by omega)
            refine ⟨0, N2, hn_wI M' 76 7 (nI (i + 1)), ?_, ?_, (pF.o3 d2).trans u2, ((mF.w (Or.inl rfl)).trans (mF.w (Or.inl rfl))).trans m3, Or.inl ⟨rfl, i + 1, [(2, nI f)], by omega, by simp; omega, u3, m4, fun h hh => okL_one (Or.inr (Or.inl ⟨rfl, ⟨f, may_F f7 hm, rfl⟩, by omega, rfl⟩))⟩⟩
            · simp only [E_Reader_readPart, B_Reader_readPart_2, B_Reader_readPart_3, st, hbN_e, z, ↓reduceIte, g5, hl_e, k4, d1, hvN_e, n40', n140', n2', u1]
            · rw [ent]
              simp only [B_Md_takePart_2, B_Md_takePart_3, B_Md_takePart_4, B_Md_takePart_5, g5', ↓reduceIte, e8, z8, hasWord_0 w12' e7, hbN_e, hasSign_0 s40' e7', m1', hvN_e, m2, hl_e, ← nI_succ]
  · rw [if_neg qs] at ent st
    refine ⟨1, N, hn_wI M 76 8 (nI (1 + 16 * sT t n i)), ?_, ent, pF.refl, mF.w (Or.inr (Or.inl rfl)), Or.inr (mk_bad (f := 1) hP hM (by omega) (by omega))⟩
    simp only [E_Reader_readPart, st, hbN_e, ↓reduceIte]
/-- a part at a depth: what fuel lasts, what height it needs -/
theorem part_ok {c : Nat} (hc : c = 5 ∨ c = 20) {t : Nat → Nat} {n T k e0 f0 : Nat} (hk : k < 4) : ∀ (d v nA nB : Nat), v + d = 5 → d < nA → d < nB → xSub t n T (25 - c) k e0 f0 (4 * d + 4) (F_Reader_readPart c nA (nI v)) (F_Md_takePart c nB (nI v))
  | 0, v, nA, nB, hv, hA, hB => by
    obtain ⟨nA, rfl⟩ : ∃ x, nA = x + 1 := ⟨nA - 1, by omega⟩
    obtain ⟨nB, rfl⟩ : ∃ x, nB = x + 1 := ⟨nB - 1, by omega⟩
    exact part_gen (hb := 0) hc hk (by omega) (rP := F_Reader_readPart c nA) (mP := F_Md_takePart c nB) (fun h => by omega)
  | d + 1, v, nA, nB, hv, hA, hB => by
    obtain ⟨nA, rfl⟩ : ∃ x, nA = x + 1 := ⟨nA - 1, by omega⟩
    obtain ⟨nB, rfl⟩ : ∃ x, nB = x + 1 := ⟨nB - 1, by omega⟩
    exact part_gen (hb := 4 * d + 4) hc hk (by omega) (rP := F_Reader_readPart c nA) (mP := F_Md_takePart c nB) (fun _ => part_ok hc hk d (v + 1) nA nB (by omega) (by omega) (by omega))
/-- a law's whole text: 28 places of the 32 -/
theorem text_ok {c : Nat} (hc : c = 5 ∨ c = 20) {t : Nat → Nat} {n T k e0 f0 : Nat} (hk : k < 4) : xSub t n T (25 - c) k e0 f0 (24 + 3 + 1) (F_Reader_readE c (F_Reader_readPart c hD) (0 : Int32)) (F_Md_all c (F_Md_takePart c hD) (0 : Int32)) :=
  all_ok hc (rP := F_Reader_readPart c hD) (mP := F_Md_takePart c hD) (v1 := 0) (part_ok hc hk 5 0 hD hD rfl (by decide) (by decide))
