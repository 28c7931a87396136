/-! CHAPEL: laws' texts, both sides in step (N: the class's memory, M: the reference's; D: the draft's cell) -/
def pF (D e0 : Nat) (N N' : hn) : Prop := (∀ b, b ≠ 3 → b ≠ D + 8 → b ≠ D + 9 → N'.1 b = N.1 b) ∧ N'.1 3 1 = N.1 3 1 ∧ (∀ k, k ≠ 1 → N'.1 (D + 8) k = N.1 (D + 8) k) ∧ (∀ j, j < e0 → N'.1 (D + 9) j = N.1 (D + 9) j) ∧ (∀ b, b ≠ 3 → N'.2 b = N.2 b)
theorem pF.refl {D e0 : Nat} {N : hn} : pF D e0 N N := ⟨fun _ _ _ _ => rfl, rfl, fun _ _ => rfl, fun _ _ => rfl, fun _ _ => rfl⟩
theorem pF.trans {D e0 : Nat} {N N1 N2 : hn} (h : pF D e0 N N1) (h2 : pF D e0 N1 N2) : pF D e0 N N2 :=
  ⟨fun b a1 a2 a3 => (h2.1 b a1 a2 a3).trans (h.1 b a1 a2 a3), h2.2.1.trans h.2.1, fun k a => (h2.2.2.1 k a).trans (h.2.2.1 k a), fun j a => (h2.2.2.2.1 j a).trans (h.2.2.2.1 j a), fun b a => (h2.2.2.2.2 b a).trans (h.2.2.2.2 b a)⟩
theorem pF.o3 {D e0 : Nat} {N N' : hn} (h : off3 N N') : pF D e0 N N' := by
  refine ⟨fun b a _ _ => h.1 b a, h.2.1, fun k _ => ?_, fun j _ => ?_, fun b a => h.2.2 b a⟩
  · rw [h.1 (D + 8) (by omega)]
  · rw [h.1 (D + 9) (by omega)]
def mF (f0 : Nat) (M M' : hn) : Prop := (∀ b, b ≠ 76 → b ≠ 83 → b ≠ 84 → M'.1 b = M.1 b) ∧ (∀ k, k ≠ 7 → k ≠ 8 → k ≠ 13 → M'.1 76 k = M.1 76 k) ∧ (∀ j, j < 1100 + f0 → M'.1 83 j = M.1 83 j ∧ M'.1 84 j = M.1 84 j) ∧ M'.2 = M.2
theorem mF.refl {f0 : Nat} {M : hn} : mF f0 M M := ⟨fun _ _ _ _ => rfl, fun _ _ _ _ => rfl, fun _ _ => ⟨rfl, rfl⟩, rfl⟩
theorem mF.trans {f0 : Nat} {M M1 M2 : hn} (h : mF f0 M M1) (h2 : mF f0 M1 M2) : mF f0 M M2 :=
  ⟨fun b a1 a2 a3 => (h2.1 b a1 a2 a3).trans (h.1 b a1 a2 a3), fun k a1 a2 a3 => (h2.2.1 k a1 a2 a3).trans (h.2.1 k a1 a2 a3), fun j a => ⟨(h2.2.2.1 j a).1.trans (h.2.2.1 j a).1, (h2.2.2.1 j a).2.trans (h.2.2.1 j a).2⟩, h2.2.2.2.trans h.2.2.2⟩
theorem mF.w {f0 i : Nat} {v : Int32} {M : hn} (hi : i = 7 ∨ i = 8 ∨ i = 13) : mF f0 M (hn_wI M 76 i v) := ⟨fun b a _ _ => wI_o a, fun k _ _ _ => wI_n (by omega), fun j _ => by rw [wI_o (by decide), wI_o (by decide)]; exact ⟨rfl, rfl⟩, rfl⟩
/-- at the i-th token, l told so far -/
def xP (t : Nat → Nat) (n T D k e0 i : Nat) (l : List (Nat × Int32)) (N : hn) : Prop :=
  atK t n i N ∧ i ≤ T ∧ N.1 2 4 = nI (135 + k) ∧ N.1 (D + 8) 1 = nI (e0 + l.length) ∧ e0 + l.length ≤ i ∧ ∀ j (hj : j < l.length), N.1 (D + 9) (e0 + j) = enc l[j]
def xM (t : Nat → Nat) (n T k f0 i : Nat) (l : List (Nat × Int32)) (M : hn) : Prop :=
  tkR t n T M ∧ n ≤ 1000 ∧ (∀ j, j < n → t j < 128) ∧ wordsR M ∧ M.1 76 7 = nI i ∧ M.1 76 8 = 0 ∧ M.1 76 17 = nI k ∧ M.1 76 13 = nI (f0 + l.length) ∧ f0 + l.length ≤ i ∧ ∀ j (hj : j < l.length), M.1 83 (1100 + f0 + j) = nI l[j].1 ∧ M.1 84 (1100 + f0 + j) = l[j].2
/-- both went wrong at one place -/
def xBad (t : Nat → Nat) (n T D e0 f0 i a : Nat) (r : Int32) (N M : hn) : Prop :=
  ∃ f i1 i2 g2 e2, 1 ≤ f ∧ f ≤ 5 ∧ r = nI f ∧ i1 ≤ T ∧ N.1 3 3 = nI (sT t n i1) ∧ tapP t n N ∧ N.1 (D + 8) 1 = nI e2 ∧ e0 ≤ e2 ∧ e2 ≤ 1000 ∧
    M.1 76 8 = nI (f + 16 * sT t n i1) ∧ M.1 76 7 = nI i2 ∧ i2 ≤ T ∧ i ≤ i2 ∧ M.1 76 13 = nI g2 ∧ f0 + a ≤ g2 ∧ g2 + i ≤ i2 + (f0 + a)
def xOut (t : Nat → Nat) (n T D k e0 f0 i : Nat) (l : List (Nat × Int32)) (hb : Nat) (N M : hn) (A : Option (Int32 × hn)) (B : Option hn) : Prop :=
  ∃ r N' M', A = some (r, N') ∧ B = some M' ∧ pF D e0 N N' ∧ mF f0 M M' ∧
    ((r = 0 ∧ ∃ i' l', i < i' ∧ l'.length + i ≤ i' ∧ xP t n T D k e0 i' (l ++ l') N' ∧ xM t n T k f0 i' (l ++ l') M' ∧ ∀ h, h + hb ≤ 32 → okL k h l' (h + 1)) ∨ xBad t n T D e0 f0 i l.length r N' M')
def xSub (t : Nat → Nat) (n T D k e0 f0 hb : Nat) (A : hn → Option (Int32 × hn)) (B : hn → Option hn) : Prop :=
  ∀ i l N M, xP t n T D k e0 i l N → xM t n T k f0 i l M → xOut t n T D k e0 f0 i l hb N M (A N) (B M)
/-! what the reference asks of a token -/
theorem xM.lt {t : Nat → Nat} {n T k f0 i : Nat} {l : List (Nat × Int32)} {M : hn} (h : xM t n T k f0 i l M) : ∀ p, p < n → t p < 128 := h.2.2.1
theorem isSign_ok {c : Nat} {t : Nat → Nat} {n T i m : Nat} {M : hn} (hk : tkR t n T M) (hn' : n ≤ 1000) (ht : ∀ j, j < n → t j < 128) (h7 : M.1 76 7 = nI i) (h8 : M.1 76 8 = 0) (hi : i ≤ T) (hm : cS m = true) :
    F_Md_isSign c (nI m) M = some (if kd t n (sT t n i) = m then 1 else 0, M) := by
  obtain ⟨k1, k2, k3, k4⟩ := hk
  obtain ⟨-, a2, a3⟩ := k4 i hi
  have x0 : hn_ix 1002 (nI i) = true := ix_ok (by omega) (by decide)
  have c0 : (nI i).toNatClampNeg = i := nI_lt31 (by omega)
  have ts := tok_sign (n := n) (p := sT t n i) (fun h => ht _ h) hm
  have sb := tok_so (t := t) (n := n) (p := sT t n i)
  have hm' := cS_in hm
  by_cases q : so t n (sT t n i) = 3
  · have g : nI (so t n (sT t n i)) = (3 : Int32) := by rw [q]; rfl
    have iT : i < T := by
      rcases Nat.lt_or_ge i T with y | y
      · exact y
      · have : i = T := by omega
        rw [this, k2] at q
        unfold so at q; rw [if_pos (Nat.le_refl _)] at q; omega
    have v := a3 iT
    by_cases q2 : kd t n (sT t n i) = m
    · have e := (ts.mpr q2).2
      have g2 : lg_cmp (lN m) (nI m).toInt64 = 0 := lgc.mpr (nI_64 (by omega)).symm
      simp only [F_Md_isSign, h8, ↓reduceIte, h7, x0, hg_T, c0, a2, g, v, e, g2, q2]
    · have g2 : ¬ lg_cmp (lN (va t n (sT t n i))) (nI m).toInt64 = 0 := fun z => q2 (ts.mp ⟨q, by rw [lgc.mp z, nI_64 (by omega)]⟩)
      simp only [F_Md_isSign, h8, ↓reduceIte, h7, x0, hg_T, c0, a2, g, v, g2, q2]
  · have g : ¬ nI (so t n (sT t n i)) = (3 : Int32) := fun z => q ((nI_eqi (b := 3) (by omega) (by decide)).mp z)
    have q2 : ¬ kd t n (sT t n i) = m := fun z => q (ts.mpr z).1
    simp only [F_Md_isSign, h8, ↓reduceIte, h7, x0, hg_T, c0, a2, g, q2]
theorem isWord_ok {c : Nat} {t : Nat → Nat} {n T i w : Nat} {M : hn} (hk : tkR t n T M) (hn' : n ≤ 1000) (ht : ∀ j, j < n → t j < 128) (hw : wordsR M) (h7 : M.1 76 7 = nI i) (h8 : M.1 76 8 = 0) (hi : i ≤ T) (hm : w < 22) :
    F_Md_isWord c (nI w) M = some (if kd t n (sT t n i) = 128 + w then 1 else 0, M) := by
  obtain ⟨k1, k2, k3, k4⟩ := hk
  obtain ⟨-, a2, a3⟩ := k4 i hi
  have x0 : hn_ix 1002 (nI i) = true := ix_ok (by omega) (by decide)
  have c0 : (nI i).toNatClampNeg = i := nI_lt31 (by omega)
  have x1 : hn_ix 22 (nI w) = true := ix_ok (by omega) (by decide)
  have c1 : (nI w).toNatClampNeg = w := nI_lt31 (by omega)
  have ts := tok_word (n := n) (p := sT t n i) (fun h => ht _ h) hm
  have sb := tok_so (t := t) (n := n) (p := sT t n i)
  by_cases q : so t n (sT t n i) = 1
  · have g : nI (so t n (sT t n i)) = (1 : Int32) := by rw [q]; rfl
    have iT : i < T := by
      rcases Nat.lt_or_ge i T with y | y
      · exact y
      · have : i = T := by omega
        rw [this, k2] at q
        unfold so at q; rw [if_pos (Nat.le_refl _)] at q; omega
    have v := a3 iT
    by_cases q2 : kd t n (sT t n i) = 128 + w
    · have e := (ts.mpr q2).2
      have g2 : lg_cmp (lN (wordS w)) (lN (wordS w)) = 0 := lgc.mpr rfl
      simp only [F_Md_isWord, h8, ↓reduceIte, h7, x0, x1, hg_T, c0, c1, a2, g, v, e, hw w hm, g2, q2]
    · have g2 : ¬ lg_cmp (lN (va t n (sT t n i))) (lN (wordS w)) = 0 := fun z => q2 (ts.mp ⟨q, lgc.mp z⟩)
      simp only [F_Md_isWord, h8, ↓reduceIte, h7, x0, x1, hg_T, c0, c1, a2, g, v, hw w hm, g2, q2]
  · have g : ¬ nI (so t n (sT t n i)) = (1 : Int32) := fun z => q ((nI_eqi (b := 1) (by omega) (by decide)).mp z)
    have q2 : ¬ kd t n (sT t n i) = 128 + w := fun z => q (ts.mpr z).1
    simp only [F_Md_isWord, h8, ↓reduceIte, h7, x0, hg_T, c0, a2, g, q2]
