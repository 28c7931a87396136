/-! the values of the laws: a row of (kind, number), as the reference has it -/
theorem t_0 : (0 : Int32).toNatClampNeg = 0 := rfl
theorem t_1 : (1 : Int32).toNatClampNeg = 1 := rfl
theorem t_2 : (2 : Int32).toNatClampNeg = 2 := rfl
theorem t_3 : (3 : Int32).toNatClampNeg = 3 := rfl
theorem t_4 : (4 : Int32).toNatClampNeg = 4 := rfl
theorem t_5 : (5 : Int32).toNatClampNeg = 5 := rfl
theorem t_6 : (6 : Int32).toNatClampNeg = 6 := rfl
theorem t_7 : (7 : Int32).toNatClampNeg = 7 := rfl
theorem t_12 : (12 : Int32).toNatClampNeg = 12 := rfl
theorem t_13 : (13 : Int32).toNatClampNeg = 13 := rfl
theorem t_65 : (65 : Int32).toNatClampNeg = 65 := rfl
theorem t_66 : (66 : Int32).toNatClampNeg = 66 := rfl
theorem t_67 : (67 : Int32).toNatClampNeg = 67 := rfl
theorem t_68 : (68 : Int32).toNatClampNeg = 68 := rfl
theorem x_7_0 : hn_ix 7 (0 : Int32) = true := by decide
theorem x_7_1 : hn_ix 7 (1 : Int32) = true := by decide
theorem x_7_2 : hn_ix 7 (2 : Int32) = true := by decide
theorem x_7_3 : hn_ix 7 (3 : Int32) = true := by decide
theorem x_7_4 : hn_ix 7 (4 : Int32) = true := by decide
theorem x_7_5 : hn_ix 7 (5 : Int32) = true := by decide
theorem x_7_6 : hn_ix 7 (6 : Int32) = true := by decide
theorem x_160_0 : hn_ix 160 (0 : Int32) = true := by decide
theorem x_160_1 : hn_ix 160 (1 : Int32) = true := by decide
theorem x_160_2 : hn_ix 160 (2 : Int32) = true := by decide
theorem x_160_3 : hn_ix 160 (3 : Int32) = true := by decide
theorem x_160_4 : hn_ix 160 (4 : Int32) = true := by decide
theorem x_160_65 : hn_ix 160 (65 : Int32) = true := by decide
theorem x_160_66 : hn_ix 160 (66 : Int32) = true := by decide
theorem x_160_67 : hn_ix 160 (67 : Int32) = true := by decide
theorem x_160_68 : hn_ix 160 (68 : Int32) = true := by decide
theorem x_1000_12 : hn_ix 1000 (12 : Int32) = true := by decide
theorem x_1000_13 : hn_ix 1000 (13 : Int32) = true := by decide
theorem x_1100_0 : hn_ix 1100 (0 : Int32) = true := by decide
theorem x_32_0 : hn_ix 32 (0 : Int32) = true := by decide
theorem x_24_0 : hn_ix 24 (0 : Int32) = true := by decide
theorem x_4096_0 : hn_ix 4096 (0 : Int32) = true := by decide
def bth (c : Nat) (a b : Int32) : Int32 :=
  if c = 4 then a + b else if c = 5 then a - b else if c = 6 then a * b
  else if c = 7 then (if b ≤ a then 0 else 1) else if c = 8 then (if a = b then 1 else 0)
  else if c = 9 then (if a = 0 then 0 else if b = 0 then 0 else 1) else (if a = 0 then (if b = 0 then 0 else 1) else 1)
def stp (fx : Nat → Int32) (s : List Int32) (q : Nat × Int32) : List Int32 :=
  if q.1 = 1 then q.2 :: s else if q.1 = 2 then fx q.2.toNatClampNeg :: s
  else if q.1 = 3 then (match s with
    | [] => []
    | x :: r => (if x = 0 then 1 else 0) :: r)
  else (match s with
    | y :: x :: r => bth q.1 x y :: r
    | s => s)
def runL (fx : Nat → Int32) (l : List (Nat × Int32)) (s : List Int32) : List Int32 := l.foldl (stp fx) s
def valL (fx : Nat → Int32) (l : List (Nat × Int32)) : Int32 := (runL fx l []).headD 0
/-- which fact may stand in which law (0 east, 1 deep, 2 dark, 3 rent) -/
def mayF (k f : Nat) : Prop := f < 7 ∧ (f < 2 ∨ (f < 4 ∧ k < 2) ∨ (4 ≤ f ∧ k = 3))
/-- a piece of a law at a height of the stack, and the height behind it -/
def okI (k h : Nat) (q : Nat × Int32) (h' : Nat) : Prop :=
  (q.1 = 1 ∧ 0 ≤ q.2 ∧ h < 32 ∧ h' = h + 1) ∨ (q.1 = 2 ∧ (∃ f, mayF k f ∧ q.2 = nI f) ∧ h < 32 ∧ h' = h + 1) ∨
  (q.1 = 3 ∧ 1 ≤ h ∧ h' = h) ∨ (4 ≤ q.1 ∧ q.1 ≤ 10 ∧ 2 ≤ h ∧ h' + 1 = h)
def okL (k : Nat) : Nat → List (Nat × Int32) → Nat → Prop
  | h, [], h' => h = h'
  | h, q :: l, h' => ∃ m, okI k h q m ∧ okL k m l h'
theorem okL_app {k : Nat} {l r : List (Nat × Int32)} : ∀ {h m h' : Nat}, okL k h l m → okL k m r h' → okL k h (l ++ r) h' := by
  induction l with
  | nil => intro h m h' h1 h2; have e : h = m := h1; subst e; exact h2
  | cons q l ih => intro h m h' h1 h2; obtain ⟨a, h3, h4⟩ := h1; exact ⟨a, h3, ih h4 h2⟩
theorem okL_one {k h h' : Nat} {q : Nat × Int32} (hq : okI k h q h') : okL k h [q] h' := ⟨h', hq, rfl⟩
def rowS (row : Nat → Int32) : List Int32 → Prop
  | [] => True
  | x :: r => row r.length = x ∧ rowS row r
theorem rowS_cong {f g : Nat → Int32} : ∀ {s : List Int32}, (∀ i, i < s.length → g i = f i) → rowS f s → rowS g s
  | [], _, _ => trivial
  | x :: r, h, hr => ⟨by rw [h _ (by simp)]; exact hr.1, rowS_cong (fun i hi => h i (by simp; omega)) hr.2⟩
def off1 (a : Nat) (N N' : hn) : Prop := (∀ b, b ≠ a → N'.1 b = N.1 b) ∧ N'.2 = N.2
theorem off1.refl {a : Nat} {N : hn} : off1 a N N := ⟨fun _ _ => rfl, rfl⟩
theorem off1.trans {a : Nat} {N N1 N2 : hn} (h : off1 a N N1) (h2 : off1 a N1 N2) : off1 a N N2 := ⟨fun b hb => (h2.1 b hb).trans (h.1 b hb), h2.2.trans h.2⟩
theorem off1.w {a i : Nat} {v : Int32} {N : hn} : off1 a N (hn_wI N a i v) := ⟨fun _ hb => wI_o hb, rfl⟩
theorem runL_cong {k : Nat} {fx fy : Nat → Int32} (h : ∀ f, mayF k f → fx f = fy f) : ∀ {l : List (Nat × Int32)} {a b : Nat} {s : List Int32}, okL k a l b → runL fx l s = runL fy l s
  | [], _, _, _, _ => rfl
  | q :: l, a, b, s, ho => by
    obtain ⟨m, h1, h2⟩ := ho
    have e : stp fx s q = stp fy s q := by
      rcases h1 with h1 | ⟨h1, ⟨f, h3, h4⟩, -⟩ | h1 | h1
      · simp [stp, h1.1]
      · have : f < 7 := h3.1
        simp only [stp, h1, h4, nI_lt31 (show f < 2147483648 by omega), h f h3]
      · simp [stp, h1.1]
      · have a1 : ¬ q.1 = 1 := by omega
        have a2 : ¬ q.1 = 2 := by omega
        simp [stp, a1, a2]
    show runL fx l (stp fx s q) = runL fy l (stp fy s q)
    rw [e]
    exact runL_cong h h2
theorem valL_cong {k : Nat} {fx fy : Nat → Int32} (h : ∀ f, mayF k f → fx f = fy f) {l : List (Nat × Int32)} (ho : okL k 0 l 1) : valL fx l = valL fy l := by
  unfold valL; rw [runL_cong h ho]
theorem md_both {c : Nat} {q : Nat} {a b : Int32} {N : hn} (h1 : 4 ≤ q) (h2 : q ≤ 10) : F_Md_both c (nI q) a b N = some (bth q a b, N) := by
  have h : q = 4 ∨ q = 5 ∨ q = 6 ∨ q = 7 ∨ q = 8 ∨ q = 9 ∨ q = 10 := by omega
  rcases h with rfl | rfl | rfl | rfl | rfl | rfl | rfl
  · rfl
  · rfl
  · rfl
  · show (if b ≤ a then some ((0 : Int32), N) else some ((1 : Int32), N)) = some ((if b ≤ a then (0 : Int32) else 1), N)
    split <;> rfl
  · show (if a = b then some ((1 : Int32), N) else some ((0 : Int32), N)) = some ((if a = b then (1 : Int32) else 0), N)
    split <;> rfl
  · show (if a = 0 then some ((0 : Int32), N) else (if b = 0 then some ((0 : Int32), N) else some ((1 : Int32), N))) = some ((if a = 0 then (0 : Int32) else if b = 0 then 0 else 1), N)
    split
    · rfl
    · split <;> rfl
  · show (if a = 0 then (if b = 0 then some ((0 : Int32), N) else some ((1 : Int32), N)) else some ((1 : Int32), N)) = some ((if a = 0 then (if b = 0 then (0 : Int32) else 1) else 1), N)
    split
    · split <;> rfl
    · rfl
theorem ev_md {c k : Nat} : ∀ (l : List (Nat × Int32)) (s : List Int32) (i n : Nat) (N : hn), okL k s.length l 1 → s.length ≤ 32 → rowS (N.1 87) s →
    (∀ j (hj : j < l.length), N.1 83 (i + j) = nI l[j].1 ∧ N.1 84 (i + j) = l[j].2) → N.1 83 (i + l.length) = 0 → i + l.length < 2200 → l.length < n →
    ∃ N', F_Md_worthAt_1 c n (nI s.length) (nI i) N = some ((runL (N.1 86) l s).headD 0, N') ∧ off1 87 N N' := by
  intro l
  induction l with
  | nil =>
    intro s i n N hh hs hr ho he hi hn
    obtain ⟨m, rfl⟩ : ∃ m, n = m + 1 := ⟨n - 1, by omega⟩
    have e : s.length = 1 := hh
    obtain ⟨x, rfl⟩ := List.length_eq_one_iff.mp e
    refine ⟨N, ?_, off1.refl⟩
    show B_Md_worthAt_1 c (F_Md_worthAt_1 c m) (nI 1) (nI i) N = some (x, N)
    have hi' : i < 2200 := hi
    have he' : N.1 83 i = 0 := he
    have hx : N.1 87 0 = x := hr.1
    simp only [B_Md_worthAt_1, ix_ok hi' (by decide), hg_T, nI_lt31 (show i < 2147483648 by omega), he', ↓reduceIte, x_1100_0, t_0, hx]
  | cons q l ih =>
    intro s i n N hh hs hr ho he hi hn
    obtain ⟨m, rfl⟩ : ∃ m, n = m + 1 := ⟨n - 1, by omega⟩
    obtain ⟨h', hq, hl⟩ := hh
    have hn' : l.length < m := by simp at hn; omega
    have hi2 : i + 1 + l.length < 2200 := by simp at hi; omega
    have hi' : i < 2200 := by omega
    obtain ⟨o1, o2⟩ := ho 0 (by simp)
    simp only [Nat.add_zero, List.getElem_cons_zero] at o1 o2
    have ho' : ∀ j (hj : j < l.length), N.1 83 (i + 1 + j) = nI l[j].1 ∧ N.1 84 (i + 1 + j) = l[j].2 := by
      intro j hj
      have := ho (j + 1) (by simp; omega)
      simpa [Nat.add_assoc, Nat.add_comm 1 j] using this
    have he' : N.1 83 (i + 1 + l.length) = 0 := by
      have := he; simp only [List.length_cons] at this
      rw [show i + 1 + l.length = i + (l.length + 1) by omega]; exact this
    have go : ∀ (s' : List Int32) (p : Nat) (v : Int32), okL k s'.length l 1 → s'.length ≤ 32 → rowS ((hn_wI N 87 p v).1 87) s' →
        ∃ N', F_Md_worthAt_1 c m (nI s'.length) (nI (i + 1)) (hn_wI N 87 p v) = some ((runL (N.1 86) l s').headD 0, N') ∧ off1 87 N N' := by
      intro s' p v a1 a2 a3
      obtain ⟨N', b1, b2⟩ := ih s' (i + 1) m (hn_wI N 87 p v) a1 a2 a3 (by simpa only [wI_o (show (83 : Nat) ≠ 87 by decide), wI_o (show (84 : Nat) ≠ 87 by decide)] using ho') (by simpa only [wI_o (show (83 : Nat) ≠ 87 by decide)] using he') hi2 hn'
      rw [wI_o (show (86 : Nat) ≠ 87 by decide)] at b1
      exact ⟨N', b1, off1.w.trans b2⟩
    have hci : (nI i).toNatClampNeg = i := nI_lt31 (by omega)
    have hx1 : hn_ix 2200 (nI i) = true := ix_ok hi' (by decide)
    show ∃ N', B_Md_worthAt_1 c (F_Md_worthAt_1 c m) (nI s.length) (nI i) N = some ((runL (N.1 86) l (stp (N.1 86) s q)).headD 0, N') ∧ off1 87 N N'
    have hsl : (nI s.length).toNatClampNeg = s.length := nI_lt31 (by omega)
    rcases hq with ⟨q1, q2, q3, rfl⟩ | ⟨q1, ⟨f, q4, q5⟩, q3, rfl⟩ | ⟨q1, q2, rfl⟩ | ⟨q1, q2, q3, q4⟩
    · have hix : hn_ix 1100 (nI s.length) = true := ix_ok (by omega) (by decide)
      have e0 : ¬ nI 1 = (0 : Int32) := by decide
      have e1 : nI 1 = (1 : Int32) := rfl
      rw [q1] at o1
      simp only [B_Md_worthAt_1, hx1, hg_T, hci, o1, e0, ↓reduceIte, hl_s, e1, B_Md_worthAt_2, B_Md_worthAt_3, o2, hix, hsl]
      rw [show stp (N.1 86) s q = q.2 :: s by simp [stp, q1], ← nI_succ, ← nI_succ]
      exact go (q.2 :: s) s.length q.2 hl (by simp; omega) ⟨wI_s, rowS_cong (fun j hj => wI_n (by omega)) hr⟩
    · have hix : hn_ix 1100 (nI s.length) = true := ix_ok (by omega) (by decide)
      have hf : f < 7 := q4.1
      have hix2 : hn_ix 7 (nI f) = true := ix_ok hf (by decide)
      have hcf : (nI f).toNatClampNeg = f := nI_lt31 (by omega)
      have e0 : ¬ (2 : Int32) = (0 : Int32) := by decide
      have e1 : nI 2 = (2 : Int32) := rfl
      have e2 : ¬ (2 : Int32) = (1 : Int32) := by decide
      rw [q1, e1] at o1
      rw [q5] at o2
      simp only [B_Md_worthAt_1, hx1, hg_T, hci, o1, e0, ↓reduceIte, hl_s, e2, B_Md_worthAt_2, B_Md_worthAt_3, o2, hix, hsl, hix2, hcf]
      rw [show stp (N.1 86) s q = N.1 86 f :: s by simp [stp, q1, q5, hcf], ← nI_succ, ← nI_succ]
      exact go (N.1 86 f :: s) s.length (N.1 86 f) hl (by simp; omega) ⟨wI_s, rowS_cong (fun j hj => wI_n (by omega)) hr⟩
    · obtain ⟨x, r, rfl⟩ : ∃ x r, s = x :: r := by
        cases s with
        | nil => simp at q2
        | cons x r => exact ⟨x, r, rfl⟩
      simp only [List.length_cons] at *
      have e1 : nI 3 = (3 : Int32) := rfl
      have e0 : ¬ (3 : Int32) = (0 : Int32) := by decide
      have e2 : ¬ (3 : Int32) = (1 : Int32) := by decide
      have e3 : ¬ (3 : Int32) = (2 : Int32) := by decide
      rw [q1, e1] at o1
      have e4 : nI (r.length + 1) - 1 = nI r.length := nI_pred _
      have hix : hn_ix 1100 (nI r.length) = true := ix_ok (by omega) (by decide)
      have hcr : (nI r.length).toNatClampNeg = r.length := nI_lt31 (by omega)
      have hx : N.1 87 r.length = x := hr.1
      simp only [B_Md_worthAt_1, hx1, hg_T, hci, o1, e0, ↓reduceIte, hl_s, e2, e3, e4, hix, hcr, hx, B_Md_worthAt_4]
      have key : ∀ v : Int32, ∃ N', F_Md_worthAt_1 c m (nI (r.length + 1)) (nI (i + 1)) (hn_wI N 87 r.length v) = some ((runL (N.1 86) l (v :: r)).headD 0, N') ∧ off1 87 N N' := by
        intro v
        exact go (v :: r) r.length v hl (by simp; omega) ⟨wI_s, rowS_cong (fun j hj => wI_n (by omega)) hr.2⟩
      rw [show stp (N.1 86) (x :: r) q = (if x = 0 then (1 : Int32) else 0) :: r by simp [stp, q1], ← nI_succ]
      by_cases hx0 : x = 0
      · rw [if_pos hx0, if_pos hx0]; exact key 1
      · rw [if_neg hx0, if_neg hx0]; exact key 0
    · obtain ⟨y, x, r, rfl⟩ : ∃ y x r, s = y :: x :: r := by
        match s, q3 with
        | y :: x :: r, _ => exact ⟨y, x, r, rfl⟩
      simp only [List.length_cons] at *
      have b0 : ¬ nI q.1 = (0 : Int32) := fun e => by have := (nI_eqi (b := 0) (by omega) (by decide)).mp e; omega
      have b1 : ¬ nI q.1 = (1 : Int32) := fun e => by have := (nI_eqi (b := 1) (by omega) (by decide)).mp e; omega
      have b2 : ¬ nI q.1 = (2 : Int32) := fun e => by have := (nI_eqi (b := 2) (by omega) (by decide)).mp e; omega
      have b3 : ¬ nI q.1 = (3 : Int32) := fun e => by have := (nI_eqi (b := 3) (by omega) (by decide)).mp e; omega
      have e4 : nI (r.length + 1 + 1) + -1 = nI (r.length + 1) := by rw [← Int32.sub_eq_add_neg]; exact nI_pred _
      have e5 : nI (r.length + 1) - 1 = nI r.length := nI_pred _
      have hix : hn_ix 1100 (nI r.length) = true := ix_ok (by omega) (by decide)
      have hix2 : hn_ix 1100 (nI (r.length + 1)) = true := ix_ok (by omega) (by decide)
      have hcr : (nI r.length).toNatClampNeg = r.length := nI_lt31 (by omega)
      have hcr2 : (nI (r.length + 1)).toNatClampNeg = r.length + 1 := nI_lt31 (by omega)
      have hx : N.1 87 r.length = x := hr.2.1
      have hy : N.1 87 (r.length + 1) = y := hr.1
      simp only [B_Md_worthAt_1, hx1, hg_T, hci, o1, b0, b1, b2, b3, ↓reduceIte, hl_s, e4, e5, hix, hix2, hcr, hcr2, hx, hy, md_both q1 q2, hbN_s]
      have n1 : ¬ q.1 = 1 := by omega
      have n2 : ¬ q.1 = 2 := by omega
      have n3 : ¬ q.1 = 3 := by omega
      rw [show stp (N.1 86) (y :: x :: r) q = bth q.1 x y :: r by simp [stp, n1, n2, n3], ← nI_succ]
      have e6 : r.length + 1 = h' := by omega
      exact go (bth q.1 x y :: r) r.length (bth q.1 x y) (by rw [List.length_cons, e6]; exact hl) (by simp; omega) ⟨wI_s, rowS_cong (fun j hj => wI_n (by omega)) hr.2.2⟩
/-- a law of the reference's memory, at a place of the codes -/
def segM (N : hn) (i : Nat) (l : List (Nat × Int32)) : Prop :=
  (∀ j (hj : j < l.length), N.1 83 (i + j) = nI l[j].1 ∧ N.1 84 (i + j) = l[j].2) ∧ N.1 83 (i + l.length) = 0 ∧ i + l.length < 2200
theorem worthAt_ok {c k i : Nat} {l : List (Nat × Int32)} {N : hn} (ho : okL k 0 l 1) (hs : segM N i l) : ∃ N', F_Md_worthAt c (nI i) N = some (valL (N.1 86) l, N') ∧ off1 87 N N' := by
  obtain ⟨h1, h2, h3⟩ := hs
  exact ev_md l [] i hN N ho (by simp) trivial h1 h2 h3 (hN_big (by omega))
