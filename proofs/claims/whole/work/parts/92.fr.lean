/-! CHAPEL: lines: frames; words, ends, once -/
def fr (S L : Nat → Nat → Prop) (N N' : hn) : Prop := (∀ b k, ¬ S b k → N'.1 b k = N.1 b k) ∧ (∀ b k, ¬ L b k → N'.2 b k = N.2 b k)
theorem fr.refl {S L : Nat → Nat → Prop} {N : hn} : fr S L N N := ⟨fun _ _ _ => rfl, fun _ _ _ => rfl⟩
theorem fr.trans {S L : Nat → Nat → Prop} {N N1 N2 : hn} (h : fr S L N N1) (h2 : fr S L N1 N2) : fr S L N N2 :=
  ⟨fun b k a => (h2.1 b k a).trans (h.1 b k a), fun b k a => (h2.2 b k a).trans (h.2 b k a)⟩
theorem fr.mono {S L S' L' : Nat → Nat → Prop} {N N' : hn} (h : fr S L N N') (hS : ∀ b k, S b k → S' b k) (hL : ∀ b k, L b k → L' b k) : fr S' L' N N' :=
  ⟨fun b k a => h.1 b k (fun y => a (hS b k y)), fun b k a => h.2 b k (fun y => a (hL b k y))⟩
theorem fr.wI {S L : Nat → Nat → Prop} {N : hn} {a i : Nat} {v : Int32} (h : S a i) : fr S L N (hn_wI N a i v) :=
  ⟨fun b k hb => by rw [wI_i, if_neg]; rintro ⟨rfl, rfl⟩; exact hb h, fun _ _ _ => rfl⟩
theorem fr.wL {S L : Nat → Nat → Prop} {N : hn} {a i : Nat} {v : Int64} (h : L a i) : fr S L N (hn_wL N a i v) :=
  ⟨fun _ _ _ => rfl, fun b k hb => by rw [wL_i, if_neg]; rintro ⟨rfl, rfl⟩; exact hb h⟩
theorem fr.o3 {S L : Nat → Nat → Prop} {N N' : hn} (h : off3 N N') (hS : ∀ k, k ≠ 1 → S 3 k) (hL : ∀ k, L 3 k) : fr S L N N' := by
  refine ⟨fun b k hb => ?_, fun b k hb => ?_⟩
  · by_cases q : b = 3
    · subst q
      by_cases q1 : k = 1
      · subst q1; exact h.2.1
      · exact absurd (hS k q1) hb
    · rw [h.1 b q]
  · by_cases q : b = 3
    · subst q; exact absurd (hL k) hb
    · rw [h.2.2 b q]
/-- what reading a line may change -/
def PS (D b k : Nat) : Prop := b = 2 ∨ (b = 3 ∧ k ≠ 1) ∨ (D ≤ b ∧ b ≤ D + 13)
def PL (D b _k : Nat) : Prop := b = 3 ∨ b = D + 1
def MS (b k : Nat) : Prop := (b = 76 ∧ (k = 7 ∨ k = 8 ∨ k = 13 ∨ k = 15 ∨ k = 16 ∨ k = 17)) ∨ (b = 82 ∧ 80 ≤ k) ∨ ((b = 83 ∨ b = 84) ∧ 1100 ≤ k)
def ML (b _k : Nat) : Prop := b = 85
theorem atK.w {t : Nat → Nat} {n i a j : Nat} {v : Int32} {N : hn} (h : atK t n i N) (h3 : a ≠ 3) (h4 : a ≠ 4) : atK t n i (hn_wI N a j v) := by
  obtain ⟨⟨y1, y2, y3⟩, y4⟩ := h
  refine ⟨⟨by rw [wI_o (Ne.symm h3)]; exact y1, y2, fun j hj => by rw [wI_o (Ne.symm h4)]; exact y3 j hj⟩, ?_⟩
  unfold atP; rw [wI_o (Ne.symm h3), wI_2]; exact y4
theorem atK.l {t : Nat → Nat} {n i a j : Nat} {v : Int64} {N : hn} (h : atK t n i N) (h3 : a ≠ 3) : atK t n i (hn_wL N a j v) := by
  obtain ⟨⟨y1, y2, y3⟩, y4⟩ := h
  refine ⟨⟨y1, y2, y3⟩, ?_⟩
  unfold atP; rw [wL_o (Ne.symm h3), wL_1]; exact y4
theorem atK.k4 {t : Nat → Nat} {n i : Nat} {N : hn} (h : atK t n i N) : N.1 3 4 = nI (kd t n (sT t n i)) ∧ kd t n (sT t n i) ≤ 150 := ⟨h.2.2.1, tok_kd (fun q => (h.1.2.2 _ q).2)⟩
theorem bM.w {t : Nat → Nat} {n T i a j : Nat} {v : Int32} {M : hn} (h : bM t n T i M) (h1 : a ≠ 76) (h2 : a ≠ 78) (h3 : a ≠ 79) : bM t n T i (hn_wI M a j v) := by
  obtain ⟨⟨a1, a2, a3, a4⟩, y2, y3, y4, y5, y6, y7⟩ := h
  refine ⟨⟨a1, a2, a3, fun k hk => ?_⟩, y2, y3, y4, by rw [wI_o (Ne.symm h1)]; exact y5, by rw [wI_o (Ne.symm h1)]; exact y6, y7⟩
  rw [wI_o (Ne.symm h2), wI_o (Ne.symm h3)]; exact a4 k hk
theorem bM.f {t : Nat → Nat} {n T i j : Nat} {v : Int32} {M : hn} (h : bM t n T i M) (h1 : j ≠ 7) (h2 : j ≠ 8) : bM t n T i (hn_wI M 76 j v) := by
  obtain ⟨⟨a1, a2, a3, a4⟩, y2, y3, y4, y5, y6, y7⟩ := h
  refine ⟨⟨a1, a2, a3, fun k hk => ?_⟩, y2, y3, y4, by rw [wI_n (Ne.symm h1)]; exact y5, by rw [wI_n (Ne.symm h2)]; exact y6, y7⟩
  rw [wI_o (by decide), wI_o (by decide)]; exact a4 k hk
theorem bM.n {t : Nat → Nat} {n T i i' : Nat} {M : hn} (h : bM t n T i M) (h1 : i' ≤ T) : bM t n T i' (hn_wI M 76 7 (nI i')) := by
  obtain ⟨⟨a1, a2, a3, a4⟩, y2, y3, y4, y5, y6, y7⟩ := h
  refine ⟨⟨a1, a2, a3, fun k hk => ?_⟩, y2, y3, y4, wI_s, by rw [wI_n (by decide)]; exact y6, h1⟩
  rw [wI_o (by decide), wI_o (by decide)]; exact a4 k hk
theorem bM.l {t : Nat → Nat} {n T i j : Nat} {v : Int64} {M : hn} (h : bM t n T i M) : bM t n T i (hn_wL M 85 j v) := by
  obtain ⟨⟨a1, a2, a3, a4⟩, y2, y3, y4, y5, y6, y7⟩ := h
  refine ⟨⟨a1, a2, a3, fun k hk => ?_⟩, y2, y3, fun k hk => ?_, y5, y6, y7⟩
  · rw [wL_1, wL_o (by decide)]; exact a4 k hk
  · rw [wL_o (by decide)]; exact y4 k hk
theorem bM.sg {c : Nat} {t : Nat → Nat} {n T i m : Nat} {M : hn} (h : bM t n T i M) (hm : cS m = true) : F_Md_isSign c (nI m) M = some (if kd t n (sT t n i) = m then 1 else 0, M) :=
  isSign_ok h.1 h.2.1 h.2.2.1 h.2.2.2.2.1 h.2.2.2.2.2.1 h.2.2.2.2.2.2 hm
theorem bM.wd {c : Nat} {t : Nat → Nat} {n T i w : Nat} {M : hn} (h : bM t n T i M) (hw : w < 22) : F_Md_isWord c (nI w) M = some (if kd t n (sT t n i) = 128 + w then 1 else 0, M) :=
  isWord_ok h.1 h.2.1 h.2.2.1 h.2.2.2.1 h.2.2.2.2.1 h.2.2.2.2.2.1 h.2.2.2.2.2.2 hw
theorem bad16 {t : Nat → Nat} {n T i f : Nat} {M : hn} (h : bM t n T i M) (h1 : 1 ≤ f) (h5 : f ≤ 5) : 0 < f + 16 * sT t n i ∧ f + 16 * sT t n i < 2147483648 := by
  have := sT_b (t := t) (n := n) i
  have := h.2.1
  omega
theorem ctake_y {c : Nat} {t : Nat → Nat} {n i m : Nat} {N : hn} (hP : atK t n i N) (hk : kd t n (sT t n i) = m) (sn : sT t n i < n) : ∃ N', F_Reader_take c (nI m) N = some (0, N') ∧ off3 N N' ∧ atK t n (i + 1) N' := by
  have k4 := hP.k4.1
  obtain ⟨N', d1, d2, d3⟩ := next_K (c := c) hP sn
  refine ⟨N', ?_, d2, d3⟩
  rw [hk] at k4
  simp only [F_Reader_take, k4, ↓reduceIte, d1, hvN_e]
theorem ctake_n {c : Nat} {t : Nat → Nat} {n i m : Nat} {N : hn} (hP : atK t n i N) (hm : m < 1000) (hk : kd t n (sT t n i) ≠ m) : F_Reader_take c (nI m) N = some (1, N) := by
  obtain ⟨k4, kb⟩ := hP.k4
  have g := nI_ni (show kd t n (sT t n i) < 2147483648 by omega) (show m < 2147483648 by omega) hk
  simp only [F_Reader_take, k4, g, ↓reduceIte]
theorem nI_z (i : Nat) : nI i + (0 : Int32) = nI i := by rw [show (0 : Int32) = nI 0 from rfl, nI_a, Nat.add_zero]
/-- a word that must stand here -/
theorem word_ok {c : Nat} {t : Nat → Nat} {n T i w : Nat} {N M : hn} (hK : atK t n i N) (hM : bM t n T i M) (hw : w < 22) :
    (i < T ∧ ∃ N', F_Reader_take c (nI (128 + w)) N = some (0, N') ∧ off3 N N' ∧ atK t n (i + 1) N' ∧ F_Md_takeWord c (nI w) M = some (hn_wI M 76 7 (nI (i + 1)))) ∨
    (F_Reader_take c (nI (128 + w)) N = some (1, N) ∧ F_Md_takeWord c (nI w) M = some (hn_wI (hn_wI M 76 7 (nI i)) 76 8 (nI (1 + 16 * sT t n i)))) := by
  have e7 := hM.2.2.2.2.1
  have z : ¬ (1 : Int32) = 0 := by decide
  by_cases q : kd t n (sT t n i) = 128 + w
  · left
    obtain ⟨iT, sn⟩ := tok_in hM.1 hM.2.2.2.2.2.2 (by omega)
    obtain ⟨N', d1, d2, d3⟩ := ctake_y (c := c) hK q sn
    have s := hM.wd (c := c) hw
    rw [if_pos q] at s
    refine ⟨iT, N', d1, d2, d3, ?_⟩
    simp only [F_Md_takeWord, hasWord_1 s e7, hbN_e, z, ↓reduceIte]
  · right
    have s := hM.wd (c := c) hw
    rw [if_neg q] at s
    refine ⟨ctake_n hK (by omega) q, ?_⟩
    have hM' := hM.n hM.2.2.2.2.2.2
    have w1 : F_Md_wrong c (1 : Int32) (hn_wI M 76 7 (nI i)) = some (hn_wI (hn_wI M 76 7 (nI i)) 76 8 (nI (1 + 16 * sT t n i))) := wrong_b (f := 1) hM'
    simp only [F_Md_takeWord, hasWord_0 s e7, hbN_e, ↓reduceIte, nI_z, w1, hvN_e]
theorem takeWord_bad {c x : Nat} {v : Int32} {M : hn} (h : M.1 76 8 = nI x) (h0 : 0 < x) (h2 : x < 2147483648) : ∃ M', F_Md_takeWord c v M = some M' ∧ fr MS ML M M' ∧ M'.1 76 8 = nI x := by
  have s := isWord_bad (c := c) (v := v) h h0 h2
  have e8 : (hn_wI M 76 7 (M.1 76 7 + 0)).1 76 8 = nI x := by rw [wI_n (by decide)]; exact h
  refine ⟨hn_wI M 76 7 (M.1 76 7 + 0), ?_, fr.wI (by unfold MS; omega), e8⟩
  simp only [F_Md_takeWord, hasWord_0 s rfl, hbN_e, ↓reduceIte, wrong_bad e8 h0 h2, hvN_e]
theorem takeAfter_bad {c x : Nat} {v w u : Int32} {M : hn} (h : M.1 76 8 = nI x) (h0 : 0 < x) (h2 : x < 2147483648) : ∃ M', F_Md_takeAfter c v w u M = some (0, M') ∧ fr MS ML M M' ∧ M'.1 76 8 = nI x := by
  obtain ⟨M', d1, d2, d3⟩ := takeWord_bad (c := c) (v := v) h h0 h2
  exact ⟨M', by simp only [F_Md_takeAfter, d1, hvN_e, takeNumber_bad d3 h0 h2, hbN_e], d2, d3⟩
/-- a word, then a number -/
theorem after_ok {c : Nat} {t : Nat → Nat} {n T i w lo hi : Nat} {N M : hn} (hK : atK t n i N) (hM : bM t n T i M) (hw : w < 22) (hlo : lo ≤ 9999) (hhi : hi ≤ 9999) :
    (∃ a N1 N2, lo ≤ a ∧ a ≤ hi ∧ i + 2 ≤ T ∧ F_Reader_take c (nI (128 + w)) N = some (0, N1) ∧ F_Reader_takeNumber c (nI lo) (nI hi) N1 = some (0, N2) ∧ off3 N N1 ∧ off3 (hn_wI N1 2 3 (nI a)) N2 ∧ atK t n (i + 2) N2 ∧ F_Md_takeAfter c (nI w) (nI lo) (nI hi) M = some (nI a, hn_wI (hn_wI M 76 7 (nI (i + 1))) 76 7 (nI (i + 2)))) ∨
    (F_Reader_take c (nI (128 + w)) N = some (1, N) ∧ ∃ M', F_Md_takeAfter c (nI w) (nI lo) (nI hi) M = some (0, M') ∧ fr MS ML M M' ∧ M'.1 76 8 = nI (1 + 16 * sT t n i)) ∨
    (∃ f N1 M', 1 ≤ f ∧ f ≤ 5 ∧ i + 1 ≤ T ∧ F_Reader_take c (nI (128 + w)) N = some (0, N1) ∧ F_Reader_takeNumber c (nI lo) (nI hi) N1 = some (nI f, N1) ∧ off3 N N1 ∧ atK t n (i + 1) N1 ∧ F_Md_takeAfter c (nI w) (nI lo) (nI hi) M = some (0, M') ∧ fr MS ML M M' ∧ M'.1 76 8 = nI (f + 16 * sT t n (i + 1))) := by
  rcases word_ok (c := c) hK hM hw with ⟨iT, N1, d1, d2, d3, d4⟩ | ⟨d1, d4⟩
  · have hM1 := hM.n (i' := i + 1) iT
    rcases number_ok (c := c) d3 hM1 hlo hhi with ⟨a, N2, u1, u2, u3, u4, u5, u6, u7⟩ | ⟨f, u1, u2, u3, u4⟩
    · exact Or.inl ⟨a, N1, N2, u1, u2, by omega, d1, u4, d2, u5, u6, by simp only [F_Md_takeAfter, d4, hvN_e, u7, hbN_e]⟩
    · exact Or.inr (Or.inr ⟨f, N1, hn_wI (hn_wI M 76 7 (nI (i + 1))) 76 8 (nI (f + 16 * sT t n (i + 1))), u1, u2, by omega, d1, u3, d2, d3, by simp only [F_Md_takeAfter, d4, hvN_e, u4, hbN_e], (fr.wI (by unfold MS; omega)).trans (fr.wI (by unfold MS; omega)), wI_s⟩)
  · have b := bad16 hM (f := 1) (by omega) (by omega)
    have t3 := takeNumber_bad (c := c) (v := nI lo) (w := nI hi) (M := hn_wI (hn_wI M 76 7 (nI i)) 76 8 (nI (1 + 16 * sT t n i))) wI_s b.1 b.2
    exact Or.inr (Or.inl ⟨d1, hn_wI (hn_wI M 76 7 (nI i)) 76 8 (nI (1 + 16 * sT t n i)), by simp only [F_Md_takeAfter, d4, hvN_e, t3, hbN_e], (fr.wI (by unfold MS; omega)).trans (fr.wI (by unfold MS; omega)), wI_s⟩)
/-- the ; of a line -/
theorem end_ok {c : Nat} {t : Nat → Nat} {n T i : Nat} {N M : hn} (hK : atK t n i N) (hM : bM t n T i M) :
    (i < T ∧ ∃ N', F_Reader_take c (59 : Int32) N = some (0, N') ∧ off3 N N' ∧ atK t n (i + 1) N' ∧ F_Md_takeSign c (59 : Int32) M = some (hn_wI M 76 7 (nI (i + 1)))) ∨
    (F_Reader_take c (59 : Int32) N = some (1, N) ∧ F_Md_takeSign c (59 : Int32) M = some (hn_wI M 76 8 (nI (1 + 16 * sT t n i)))) := by
  have e7 := hM.2.2.2.2.1
  have z : ¬ (1 : Int32) = 0 := by decide
  have s : F_Md_isSign c (59 : Int32) M = _ := hM.sg (c := c) (m := 59) (by decide)
  by_cases q : kd t n (sT t n i) = 59
  · left
    obtain ⟨iT, sn⟩ := tok_in hM.1 hM.2.2.2.2.2.2 (by omega)
    obtain ⟨N', d1, d2, d3⟩ := ctake_y (c := c) hK q sn
    rw [if_pos q] at s
    refine ⟨iT, N', d1, d2, d3, ?_⟩
    simp only [F_Md_takeSign, s, hbN_e, z, ↓reduceIte, e7, hl_e, ← nI_succ]
  · right
    rw [if_neg q] at s
    refine ⟨ctake_n (m := 59) hK (by omega) q, ?_⟩
    have w1 : F_Md_wrong c (1 : Int32) M = some (hn_wI M 76 8 (nI (1 + 16 * sT t n i))) := wrong_b (f := 1) hM
    simp only [F_Md_takeSign, s, hbN_e, ↓reduceIte, w1, hvN_e]
theorem bt_and0 {x : Int32} {k : Nat} (hk : k < 32) : x &&& ((1 : Int32) <<< (nI k &&& 31)) = 0 ↔ bt x k = false := by
  constructor
  · intro h
    have := congrArg (fun y => bt y k) h
    simp only [b_and, bt_1sh hk hk, b_0] at this
    simpa using this
  · intro h
    refine b_ext (fun i hi => ?_)
    rw [b_and, bt_1sh hk hi, b_0]
    by_cases q : i = k
    · subst q; rw [h]; rfl
    · simp [q]
/-- told once -/
theorem once_ok {c : Nat} {t : Nat → Nat} {n i m : Nat} {N : hn} (hK : atK t n i N) (hk : kd t n (sT t n i) = 128 + m) (hm : m < 12) (sn : sT t n i < n) :
    (bt (N.1 2 2) m = true ∧ F_Reader_takeOnce c N = some (3, N)) ∨
    (bt (N.1 2 2) m = false ∧ ∃ N' v, F_Reader_takeOnce c N = some (0, N') ∧ off3 (hn_wI N 2 2 v) N' ∧ atK t n (i + 1) N' ∧ ∀ j, j < 32 → bt v j = (bt (N.1 2 2) j || decide (j = m))) := by
  have k4 := hK.k4.1
  rw [hk] at k4
  have e : nI (128 + m) - (128 : Int32) = nI m := by rw [show (128 : Int32) = nI 128 from rfl, nI_s (by omega)]; exact congrArg nI (by omega)
  have b := bt_and0 (x := N.1 2 2) (k := m) (by omega)
  cases q : bt (N.1 2 2) m with
  | true =>
    left
    have g : ¬ N.1 2 2 &&& ((1 : Int32) <<< (nI m &&& 31)) = 0 := fun y => by rw [b.mp y] at q; exact absurd q (by decide)
    exact ⟨rfl, by simp only [F_Reader_takeOnce, k4, e, hl_e, g, ↓reduceIte]⟩
  | false =>
    right
    have g := b.mpr q
    obtain ⟨N', d1, d2, d3⟩ := next_K (c := c) (hK.w (a := 2) (j := 2) (v := N.1 2 2 ||| ((1 : Int32) <<< (nI m &&& 31))) (by decide) (by decide)) sn
    refine ⟨rfl, N', _, ?_, d2, d3, fun j hj => by rw [b_or, bt_1sh (by omega) hj]⟩
    simp only [F_Reader_takeOnce, k4, e, hl_e, g, ↓reduceIte, d1, hvN_e]
