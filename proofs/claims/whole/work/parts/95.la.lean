/-! CHAPEL: the line of a law -/
def R17 (b k : Nat) : Prop := b = 76 ∧ k = 17
def lwV (x j : Nat) : Int32 := if 135 ≤ x ∧ x < 135 + j then nI (x - 135) else -1
def rlE (c : Nat) (s : hn) : Option hn := (if 0 ≤ (s.1 76 17) then hl (((145 : Int32) + (s.1 76 17)) : Int32) fun x1 => hg (hn_ix 160 x1 = true) <|
      (if (s.1 82 x1.toNatClampNeg) < 0 then hl (hn_wI s 76 7 ((s.1 76 7) + (1 : Int32))) fun N2 => hg (hn_ix 160 x1 = true) <|
      hl (hn_wI N2 82 x1.toNatClampNeg (N2.1 76 13)) fun N3 => hvN (F_Md_all c (F_Md_takePart c hD) (0 : Int32) N3) fun N4 =>
      hvN (F_Md_emit c (0 : Int32) (0 : Int32) N4) fun N5 => some N5 else hvN (F_Md_wrong c (3 : Int32) s) fun N6 => some N6)
      else hvN (F_Md_wrong c (1 : Int32) s) fun N7 => some N7)
theorem rl_ok {c : Nat} {t : Nat → Nat} {n T i : Nat} {M : hn} (hM : bM t n T i M) : ∃ s, fr R17 NL M s ∧ bM t n T i s ∧ s.1 76 17 = lwV (kd t n (sT t n i)) 4 ∧ F_Md_readLaw c M = rlE c s := by
  have h0 : fr R17 NL M (hn_wI M 76 17 (-1)) := fr.wI ⟨rfl, rfl⟩
  have e0 : F_Md_readLaw c M = F_Md_readLaw_1 c hN (0 : Int32) (hn_wI M 76 17 (-1)) := by simp only [F_Md_readLaw, hl_e]
  rw [e0]
  refine it_wp (B := B_Md_readLaw_1 c) (z := fun _ _ => none) (fun K j (s : hn) => K (nI j) s) 4
    (fun j s => fr R17 NL M s ∧ bM t n T i s ∧ s.1 76 17 = lwV (kd t n (sT t n i)) j)
    (Q := fun y => ∃ s, fr R17 NL M s ∧ bM t n T i s ∧ s.1 76 17 = lwV (kd t n (sT t n i)) 4 ∧ y = rlE c s) ?_ ?_ (n := hN) (k := 0) (s := hn_wI M 76 17 (-1)) (Nat.zero_le _) (hN_big (by omega)) ⟨h0, hM.f (by decide) (by decide), by rw [wI_s]; unfold lwV; rw [if_neg (by omega)]⟩
  · intro K s ⟨h1, h2, h3⟩
    refine ⟨s, h1, h2, h3, ?_⟩
    have g : (4 : Int32) ≤ nI 4 := by decide
    rw [B_Md_readLaw_1, if_pos g, rlE]
  · intro K j s hj ⟨h1, h2, h3⟩
    right
    have g : ¬ (4 : Int32) ≤ nI j := nI_ge (b := 4) hj (by decide)
    have w := h2.wd (c := c) (w := 7 + j) (by omega)
    have e : (7 : Int32) + nI j = nI (7 + j) := by rw [show (7 : Int32) = nI 7 from rfl, nI_a]
    have z1 : ¬ (1 : Int32) = 0 := by decide
    by_cases q : kd t n (sT t n i) = 128 + (7 + j)
    · rw [if_pos q] at w
      refine ⟨hn_wI s 76 17 (nI j), ⟨h1.trans (fr.wI ⟨rfl, rfl⟩), h2.f (by decide) (by decide), ?_⟩, ?_⟩
      · rw [wI_s]; unfold lwV; rw [if_pos (by omega)]; exact congrArg nI (by omega)
      · simp only [B_Md_readLaw_1, B_Md_readLaw_2, g, ↓reduceIte, e, w, hbN_e, z1, hl_e, ← nI_succ]
    · rw [if_neg q] at w
      refine ⟨hn_wI s 76 17 (s.1 76 17), ⟨h1.trans (fr.wI ⟨rfl, rfl⟩), h2.f (by decide) (by decide), ?_⟩, ?_⟩
      · rw [wI_s, h3]; unfold lwV
        by_cases y : 135 ≤ kd t n (sT t n i) ∧ kd t n (sT t n i) < 135 + j
        · rw [if_pos y, if_pos (by omega)]
        · rw [if_neg y, if_neg (by omega)]
      · simp only [B_Md_readLaw_1, B_Md_readLaw_2, g, ↓reduceIte, e, w, hbN_e, hl_e, ← nI_succ]
/-- no line begins so -/
theorem noline_ok {c : Nat} {t : Nat → Nat} {n T i : Nat} {M : hn} (hM : bM t n T i M) (hk : ¬ (135 ≤ kd t n (sT t n i) ∧ kd t n (sT t n i) ≤ 138)) : ∃ M', (hvN (F_Md_readLaw c M) fun M1 => F_Md_takeSign c (59 : Int32) M1) = some M' ∧ fr MS ML M M' ∧ M'.1 76 8 = nI (1 + 16 * sT t n i) := by
  obtain ⟨s, h1, h2, h3, h4⟩ := rl_ok (c := c) hM
  have v : s.1 76 17 = -1 := by rw [h3]; unfold lwV; rw [if_neg (by omega)]
  have g : ¬ (0 : Int32) ≤ -1 := by decide
  have bb := bad16 hM (f := 1) (by omega) (by omega)
  have w1 : F_Md_wrong c (1 : Int32) s = some (hn_wI s 76 8 (nI (1 + 16 * sT t n i))) := wrong_b (f := 1) h2
  have ts := takeSign_bad (c := c) (v := 59) (M := hn_wI s 76 8 (nI (1 + 16 * sT t n i))) wI_s bb.1 bb.2
  refine ⟨hn_wI s 76 8 (nI (1 + 16 * sT t n i)), ?_, (h1.mono (fun b k y => by unfold R17 at y; unfold MS; omega) (fun _ _ y => y.elim)).trans (fr.wI (by unfold MS; omega)), wI_s⟩
  rw [h4]
  simp only [rlE, v, g, ↓reduceIte, w1, hvN_e, ts]
def SL (D e k0 b k : Nat) : Prop := (b = 3 ∧ k ≠ 1) ∨ b = 2 ∨ (b = D + 8 ∧ k = 1) ∨ (b = D + 9 ∧ e ≤ k) ∨ ((b = D + 10 ∨ b = D + 11) ∧ k = k0)
def QL (f k0 b k : Nat) : Prop := (b = 76 ∧ (k = 7 ∨ k = 8 ∨ k = 13 ∨ k = 17)) ∨ (b = 82 ∧ k = 145 + k0) ∨ ((b = 83 ∨ b = 84) ∧ 1100 + f ≤ k)
theorem pF.sl {D e k0 : Nat} {N N' : hn} (h : pF D e N N') : fr (SL D e k0) L3 N N' := by
  refine ⟨fun b k hb => ?_, fun b k hb => by rw [h.2.2.2.2 b hb]⟩
  unfold SL at hb
  by_cases q3 : b = 3
  · subst q3
    have : k = 1 := by omega
    subst this; exact h.2.1
  · by_cases q8 : b = D + 8
    · subst q8; exact h.2.2.1 k (by omega)
    · by_cases q9 : b = D + 9
      · subst q9; exact h.2.2.2.1 k (by omega)
      · rw [h.1 b q3 q8 q9]
theorem mF.ql {f k0 : Nat} {M M' : hn} (h : mF f M M') : fr (QL f k0) NL M M' := by
  refine ⟨fun b k hb => ?_, fun b k _ => by rw [h.2.2.2]⟩
  unfold QL at hb
  by_cases q6 : b = 76
  · subst q6; exact h.2.1 k (by omega) (by omega) (by omega)
  · by_cases q3 : b = 83
    · subst q3; exact (h.2.2.1 k (by omega)).1
    · by_cases q4 : b = 84
      · subst q4; exact (h.2.2.1 k (by omega)).2
      · rw [h.1 b q6 q3 q4]
theorem law_ok {c : Nat} (hc : c = 5 ∨ c = 20) {t : Nat → Nat} {n T i g p e f k : Nat} {law : Law} {N M : hn} (hK : atK t n i N) (hM : bM t n T i M) (hd : dX t n (25 - c) i g p e f law N M) (hk : kd t n (sT t n i) = 135 + k) (k4 : k < 4) :
    lOut t n T (25 - c) i N M (F_Reader_readLaw c N) (hvN (F_Md_readLaw c M) fun M1 => F_Md_takeSign c (59 : Int32) M1) := by
  obtain ⟨iT, sn⟩ := tok_in hM.1 hM.2.2.2.2.2.2 (by omega)
  obtain ⟨x0, x1, x2, x3, x4, x5, x6, x7, x8, x9⟩ := hd
  have hT := hM.T
  have g6 := x5.1
  have p12 := x6.1
  obtain ⟨s, S1, S2, S3, S4⟩ := rl_ok (c := c) hM
  have v17 : s.1 76 17 = nI k := by rw [S3, hk]; unfold lwV; rw [if_pos (by omega)]; exact congrArg nI (by omega)
  have z0 : (0 : Int32) ≤ nI k := nI_p (by omega)
  have e145 : (145 : Int32) + nI k = nI (145 + k) := by rw [show (145 : Int32) = nI 145 from rfl, nI_a]
  have x145 : hn_ix 160 (nI (145 + k)) = true := ix_ok (by omega) (by decide)
  have c145 : (nI (145 + k)).toNatClampNeg = 145 + k := nI_lt31 (by omega)
  have s145 : s.1 82 (145 + k) = M.1 82 (145 + k) := S1.1 _ _ (by unfold R17; omega)
  have toM : ∀ {M' : hn}, fr (QL f k) NL M M' → fr MS ML M M' := fun h => h.mono (fun b k y => by unfold QL at y; unfold MS; omega) (fun b k y => y.elim)
  have toP : ∀ {N' : hn}, fr (SL (25 - c) e k) L3 N N' → fr (PS (25 - c)) (PL (25 - c)) N N' := fun h => h.mono (fun b k y => by unfold SL at y; unfold PS; omega) (fun b k y => by unfold L3 at y; unfold PL; omega)
  have r2 : ∀ {N' N'' : hn}, fr R0 L3 N' N'' → fr (SL (25 - c) e k) L3 N' N'' := fun h => h.mono (fun b k y => by unfold R0 at y; unfold SL; omega) (fun b k y => y)
  have GS : fr (QL f k) NL M s := S1.mono (fun b k y => by unfold R17 at y; unfold QL; omega) (fun _ _ y => y)
  have c34 := hK.k4.1
  rw [hk] at c34
  have hK1 : atK t n i (hn_wI N 2 4 (nI (135 + k))) := hK.w (by decide) (by decide)
  have v22 : (hn_wI N 2 4 (nI (135 + k))).1 2 2 = N.1 2 2 := wI_n (by decide)
  rw [S4]
  simp only [rlE, v17, z0, ↓reduceIte, e145, hl_e, x145, hg_T, c145, s145]
  rcases once_ok (c := c) (m := 7 + k) hK1 (by omega) (by omega) sn with ⟨b, d1⟩ | ⟨b, N2, v, d1, d2, d3, d4⟩
  · rw [v22] at b
    have lk : ¬ law k = none := (x8.2.2 k k4).mp b
    obtain ⟨l, hl⟩ : ∃ l, law k = some l := by
      cases e : law k with
      | none => exact absurd e lk
      | some l => exact ⟨l, rfl⟩
    obtain ⟨s', w1, w2, -⟩ := ((x9 k k4).1 l hl).2.2.2
    have ws : s' < 2147483648 := by have := x7.2.1; omega
    have g145 : ¬ M.1 82 (145 + k) < 0 := by rw [w1]; exact nI_nn ws
    have bb := bad16 hM (f := 3) (by omega) (by omega)
    have w3 : F_Md_wrong c (3 : Int32) s = some (hn_wI s 76 8 (nI (3 + 16 * sT t n i))) := wrong_b (f := 3) S2
    have ts := takeSign_bad (c := c) (v := 59) (M := hn_wI s 76 8 (nI (3 + 16 * sT t n i))) wI_s bb.1 bb.2
    have z3 : ¬ (3 : Int32) = 0 := by decide
    refine ⟨3, hn_wI N 2 4 (nI (135 + k)), hn_wI s 76 8 (nI (3 + 16 * sT t n i)), ?_, ?_, fr.wI (by unfold PS; omega), (toM GS).trans (fr.wI (by unfold MS; omega)), Or.inr ⟨3, i, by omega, by omega, rfl, hM.2.2.2.2.2.2, hK1.2.1, wI_s⟩⟩
    · simp only [F_Reader_readLaw, c34, hl_e, d1, hbN_e, z3, ↓reduceIte, B_Reader_readLaw_1]
    · simp only [g145, ↓reduceIte, w3, hvN_e, ts]
  · rw [v22] at b
    have lk : law k = none := Decidable.byContradiction fun y => by have := (x8.2.2 k k4).mpr y; rw [b] at this; exact absurd this (by decide)
    obtain ⟨w1, w2, w3⟩ := (x9 k k4).2 lk
    have g145 : M.1 82 (145 + k) < 0 := by rw [w3]; decide
    have e7 : s.1 76 7 = nI i := S2.2.2.2.2.1
    have v24 : N2.1 2 4 = nI (135 + k) := by rw [d2.1 2 (by decide), wI_n (by decide)]; exact wI_s
    obtain ⟨l1, l2, l3⟩ := law_lit k k4
    have x4' : hn_ix 4 (nI k) = true := ix_ok (by omega) (by decide)
    have ck : (nI k).toNatClampNeg = k := nI_lt31 (by omega)
    have z1 : ¬ (1 : Int32) = 0 := by decide
    have v81 : N2.1 (25 - c + 8) 1 = nI e := by rw [d2.1 _ (by omega), wI_o (by omega), wI_o (by omega)]; exact x7.2.2.1
    obtain ⟨N3, hN3e⟩ : ∃ N3, N3 = hn_wI N2 (25 - c + 8 + 2) k (nI e) := ⟨_, rfl⟩
    have hK3 : atK t n (i + 1) N3 := by rw [hN3e]; exact d3.w (by omega) (by omega)
    have F3 : fr (SL (25 - c) e k) L3 N N3 := by
      rw [hN3e]
      exact (((fr.wI (by unfold SL; omega)).trans (fr.wI (by unfold SL; omega))).trans (r2 (r0_o3 d2))).trans (fr.wI (by unfold SL; omega))
    have op : F_Laws_open c (25 - c + 8) (nI (135 + k)) N2 = some N3 := by
      simp only [F_Laws_open, F_Laws_isLaw, l1, l2, ↓reduceIte, hbN_e, z1, l3, x4', hg_T, ck, v81, hl_e, ← hN3e]
    have v13 : (hn_wI s 76 7 (nI (i + 1))).1 76 13 = nI f := by rw [wI_n (by decide), S1.1 _ _ (by unfold R17; omega)]; exact x7.2.2.2
    obtain ⟨M3, hM3e⟩ : ∃ M3, M3 = hn_wI (hn_wI s 76 7 (nI (i + 1))) 82 (145 + k) (nI f) := ⟨_, rfl⟩
    have hM3 : bM t n T (i + 1) M3 := by rw [hM3e]; exact (S2.n iT).w (by decide) (by decide) (by decide)
    have G3 : fr (QL f k) NL M M3 := by rw [hM3e]; exact (GS.trans (fr.wI (by unfold QL; omega))).trans (fr.wI (by unfold QL; omega))
    have xp : xP t n T (25 - c) k e (i + 1) [] N3 := by
      refine ⟨hK3, by omega, ?_, ?_, by simp; omega, fun j hj => absurd hj (by simp)⟩
      · rw [hN3e, wI_o (by omega)]; exact v24
      · rw [hN3e, wI_o (by omega), v81]; rfl
    have xm : xM t n T k f (i + 1) [] M3 := by
      refine ⟨hM3.1, hM3.2.1, hM3.2.2.1, hM3.2.2.2.1, hM3.2.2.2.2.1, hM3.2.2.2.2.2.1, ?_, ?_, by simp; omega, fun j hj => absurd hj (by simp)⟩
      · rw [hM3e, wI_o (by decide), wI_n (by decide)]; exact v17
      · rw [hM3e, wI_o (by decide), v13]; rfl
    obtain ⟨r, N4, M4, t1, t2, t3, t4, t5⟩ := text_ok (c := c) hc (t := t) (n := n) (T := T) (e0 := e) (f0 := f) k4 (i + 1) [] N3 M3 xp xm
    have F4 : fr (SL (25 - c) e k) L3 N N4 := F3.trans t3.sl
    have G4 : fr (QL f k) NL M M4 := G3.trans t4.ql
    have mA : (hvN (if M.1 82 (145 + k) < 0 then hl (hn_wI s 76 7 (s.1 76 7 + (1 : Int32))) fun N2 => hl (hn_wI N2 82 (145 + k) (N2.1 76 13)) fun N3 => hvN (F_Md_all c (F_Md_takePart c hD) (0 : Int32) N3) fun N4 => hvN (F_Md_emit c (0 : Int32) (0 : Int32) N4) fun N5 => some N5 else hvN (F_Md_wrong c (3 : Int32) s) fun N6 => some N6) fun M1 => F_Md_takeSign c (59 : Int32) M1)
        = hvN (F_Md_emit c (0 : Int32) (0 : Int32) M4) fun M1 => F_Md_takeSign c (59 : Int32) M1 := by
      simp only [g145, ↓reduceIte, hl_e, e7, ← nI_succ, v13, ← hM3e, t2, hvN_e]
      cases F_Md_emit c (0 : Int32) (0 : Int32) M4 <;> rfl
    simp only [hl_e] at mA ⊢
    rw [mA]
    have cA : F_Reader_readLaw c N = B_Reader_readLaw_1 c r N4 := by
      simp only [F_Reader_readLaw, c34, hl_e, d1, hbN_e, ↓reduceIte, v24, op, hvN_e, t1]
    rw [cA]
    rcases t5 with ⟨rfl, i', l, j1, j2, j3, j4, j5⟩ | ⟨f', i1, i2, gg, e2, j1, j2, j3, j4, j5, j6, j7, j8, j9, j10, j11, j12, j13, j14, j15, j16⟩
    · rw [List.nil_append] at j3 j4
      obtain ⟨p1, p2, p3, p4, p5, p6⟩ := j3
      obtain ⟨q1, q2, q3, q4, q5, q6, q7, q8, q9, q10⟩ := j4
      have em := emit_ok (c := c) (v := 0) (w := 0) q8 (by omega)
      obtain ⟨M5, hM5e⟩ : ∃ M5, M5 = hn_wI (hn_wI (hn_wI M4 83 (1100 + (f + l.length)) 0) 84 (1100 + (f + l.length)) 0) 76 13 (nI (f + l.length + 1)) := ⟨_, rfl⟩
      rw [← hM5e] at em
      have hM4 : bM t n T i' M4 := ⟨q1, q2, q3, q4, q5, q6, p2⟩
      have hM5 : bM t n T i' M5 := by rw [hM5e]; exact ((hM4.w (by decide) (by decide) (by decide)).w (by decide) (by decide) (by decide)).f (by decide) (by decide)
      have G5 : fr (QL f k) NL M M5 := by rw [hM5e]; exact ((G4.trans (fr.wI (by unfold QL; omega))).trans (fr.wI (by unfold QL; omega))).trans (fr.wI (by unfold QL; omega))
      obtain ⟨N5, hN5e⟩ : ∃ N5, N5 = hn_wI N4 (25 - c + 8 + 3) k (nI (e + l.length)) := ⟨_, rfl⟩
      have hK5 : atK t n i' N5 := by rw [hN5e]; exact p1.w (by omega) (by omega)
      have F5 : fr (SL (25 - c) e k) L3 N N5 := by rw [hN5e]; exact F4.trans (fr.wI (by unfold SL; omega))
      have cl : F_Laws_close c (25 - c + 8) (nI (135 + k)) N4 = some N5 := by
        simp only [F_Laws_close, F_Laws_isLaw, l1, l2, ↓reduceIte, hbN_e, z1, l3, x4', hg_T, ck, p4, hl_e, ← hN5e]
      rcases end_ok (c := c) hK5 hM5 with ⟨iT5, N6, s1, s2, s3, s4⟩ | ⟨s1, s4⟩
      · have FF := F5.trans (r2 (r0_o3 s2))
        have GG := G5.trans (fr.wI (N := M5) (a := 76) (i := 7) (v := nI (i' + 1)) (S := QL f k) (L := NL) (by unfold QL; omega))
        refine ⟨0, N6, _, ?_, ?_, toP FF, toM GG, Or.inl ⟨rfl, i' + 1, g, p, e + l.length, f + l.length + 1, (fun j => if j = k then some l else law j), by omega, s3, hM5.n iT5, ?_⟩⟩
        · simp only [B_Reader_readLaw_1, ↓reduceIte, p3, cl, hvN_e, s1, hbN_e]
        · simp only [em, hvN_e, s4]
        · refine ⟨x0.fr FF GG (by unfold SL; omega) (by unfold QL; omega), x1.fr FF GG (by unfold SL; omega) (by unfold QL; omega), x2.fr FF GG (by unfold SL; omega) (by unfold QL; omega), ⟨?_, ?_⟩, ⟨?_, ?_⟩,
            x5.fr FF GG (fun j _ => by unfold SL L3; omega) (fun j _ => ⟨by unfold QL; omega, by unfold QL; omega, id⟩), x6.fr (Nat.le_refl _) FF GG (fun j b _ _ _ => by unfold SL; omega) (fun j b _ _ _ => by unfold QL; omega), ⟨by omega, by omega, ?_, ?_⟩, ?_, ?_⟩
          · rw [FF.1 _ _ (by unfold SL; omega)]; exact x3.1
          · rw [GG.1 _ _ (by unfold QL; omega)]; exact x3.2
          · rw [FF.1 _ _ (by unfold SL; omega)]; exact x4.1
          · rw [GG.1 _ _ (by unfold QL; omega)]; exact x4.2
          · rw [s2.1 _ (by omega), hN5e, wI_o (by omega)]; exact p4
          · rw [wI_n (by decide), hM5e]; exact wI_s
          · have v2 : N6.1 2 2 = v := by rw [s2.1 2 (by decide), hN5e, wI_o (by omega), t3.1 2 (by decide) (by omega) (by omega), hN3e, wI_o (by omega), d2.1 2 (by decide)]; exact wI_s
            unfold tdR
            rw [v2]
            refine ⟨?_, ?_, fun k' hk' => ?_⟩
            · rw [d4 0 (by omega), GG.1 76 15 (by unfold QL; omega), ← x8.1, v22]
              have : ¬ 0 = 7 + k := by omega
              simp [this]
            · rw [d4 11 (by omega), GG.1 76 16 (by unfold QL; omega), ← x8.2.1, v22]
              have : ¬ 11 = 7 + k := by omega
              simp [this]
            · rw [d4 (7 + k') (by omega), v22]
              by_cases y : k' = k
              · subst y; simp
              · have y' : ¬ 7 + k' = 7 + k := by omega
                have := x8.2.2 k' hk'
                simp only [y, y', ↓reduceIte, decide_false, Bool.or_false]
                exact this
          · intro k' hk'
            by_cases y : k' = k
            · subst y
              simp only [↓reduceIte]
              refine ⟨fun l' hl' => ?_, fun hl' => by simp at hl'⟩
              have : l' = l := by simpa using hl'.symm
              subst this
              refine ⟨?_, j5 0 (by omega), ⟨e, ?_, ?_, by omega, fun j hj => ?_⟩, ⟨f, ?_, by omega, fun j hj => ?_, ?_⟩⟩
              · intro y
                have := j5 0 (by omega)
                rw [y] at this
                exact absurd (show (0 : Nat) = 1 from this) (by decide)
              · rw [s2.1 _ (by omega), hN5e, wI_o (by omega), t3.1 _ (by omega) (by omega) (by omega), hN3e]; exact wI_s
              · rw [s2.1 _ (by omega), hN5e]; exact wI_s
              · rw [s2.1 _ (by omega), hN5e, wI_o (by omega)]; exact p6 j hj
              · rw [wI_o (by decide), hM5e, wI_o (by decide), wI_o (by decide), wI_o (by decide), t4.1 _ (by decide) (by decide) (by decide), hM3e]; exact wI_s
              · rw [wI_o (by decide), wI_o (by decide), hM5e, wI_o (by decide), wI_o (by decide), wI_n (by omega), wI_o (by decide), wI_n (by omega), wI_o (by decide)]; exact q10 j hj
              · rw [wI_o (by decide), hM5e, wI_o (by decide), wI_o (by decide), show 1100 + f + l'.length = 1100 + (f + l'.length) by omega]; exact wI_s
            · simp only [y, ↓reduceIte]
              exact (x9 k' hk').fr (by omega) (by omega) FF GG (by unfold SL; omega) (fun j _ => by unfold SL; omega) (by unfold QL; omega) (fun j _ => by unfold QL; omega)
      · refine ⟨1, N5, hn_wI M5 76 8 (nI (1 + 16 * sT t n i')), ?_, ?_, toP F5, toM (G5.trans (fr.wI (by unfold QL; omega))), Or.inr ⟨1, i', by omega, by omega, rfl, p2, hK5.2.1, wI_s⟩⟩
        · simp only [B_Reader_readLaw_1, ↓reduceIte, p3, cl, hvN_e, s1, hbN_e]
        · simp only [em, hvN_e, s4]
    · have sb := sT_b (t := t) (n := n) i1
      have hn' := hM.2.1
      have nz := nI_f5 j1 j2
      have gb : gg ≤ 1000 := by simp only [List.length_nil] at j15 j16; omega
      have em := emit_ok (c := c) (v := 0) (w := 0) j14 gb
      have e8 : (hn_wI (hn_wI (hn_wI M4 83 (1100 + gg) 0) 84 (1100 + gg) 0) 76 13 (nI (gg + 1))).1 76 8 = nI (f' + 16 * sT t n i1) := by rw [wI_n (by decide), wI_o (by decide), wI_o (by decide)]; exact j10
      have ts := takeSign_bad (c := c) (v := 59) e8 (by omega) (by omega)
      refine ⟨r, N4, _, ?_, ?_, toP F4, (((toM G4).trans (fr.wI (by unfold MS; omega))).trans (fr.wI (by unfold MS; omega))).trans (fr.wI (by unfold MS; omega)), Or.inr ⟨f', i1, j1, j2, j3, j4, j5, e8⟩⟩
      · rw [j3]; simp only [B_Reader_readLaw_1, nz, ↓reduceIte]
      · simp only [em, hvN_e, ts]
