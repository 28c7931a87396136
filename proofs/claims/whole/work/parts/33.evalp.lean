/-! the values of the laws: the class's side -/
def enc (q : Nat × Int32) : Int32 :=
  if q.1 = 1 then q.2 else if q.1 = 2 then -(143 + q.2) else if q.1 = 3 then -140 else if q.1 = 4 then -43 else if q.1 = 5 then -45
  else if q.1 = 6 then -42 else if q.1 = 7 then -60 else if q.1 = 8 then -61 else if q.1 = 9 then -141 else -142
theorem enc_f : ∀ f, f < 7 → (¬ (0 : Int32) ≤ -(143 + nI f)) ∧ (¬ - -(143 + nI f) < (143 : Int32)) ∧ (¬ (149 : Int32) < - -(143 + nI f)) ∧ (- -(143 + nI f)) - (143 : Int32) = nI f ∧ -(143 + nI f) < (0 : Int32) := by decide
theorem enc_b0 : ∀ q, q < 11 → 4 ≤ q → (¬ (0 : Int32) ≤ enc (q, 0)) ∧ (- enc (q, 0) < (143 : Int32)) ∧ ¬ enc (q, 0) = (-140 : Int32) := by decide
theorem enc_b {q : Nat} {a : Int32} (h1 : 4 ≤ q) (h2 : q ≤ 10) : (¬ (0 : Int32) ≤ enc (q, a)) ∧ (- enc (q, a) < (143 : Int32)) ∧ ¬ enc (q, a) = (-140 : Int32) := by
  have e : enc (q, a) = enc (q, 0) := by
    have n1 : ¬ q = 1 := by omega
    have n2 : ¬ q = 2 := by omega
    simp [enc, n1, n2]
  rw [e]
  exact enc_b0 q (by omega) h1
theorem ps_both {c : Nat} {q : Nat} {a b x : Int32} {N : hn} (h1 : 4 ≤ q) (h2 : q ≤ 10) : F_Laws_joined c (-enc (q, x)) a b N = some (bth q a b, N) := by
  have h : q = 4 ∨ q = 5 ∨ q = 6 ∨ q = 7 ∨ q = 8 ∨ q = 9 ∨ q = 10 := by omega
  rcases h with rfl | rfl | rfl | rfl | rfl | rfl | rfl
  · rfl
  · rfl
  · rfl
  · show (if b ≤ a then some ((0 : Int32), N) else some ((1 : Int32), N)) = some ((if b ≤ a then (0 : Int32) else 1), N)
    split <;> rfl
  · show (if a = b then some ((1 : Int32), N) else some ((0 : Int32), N)) = some ((if a = b then (1 : Int32) else 0), N)
    split <;> rfl
  · show (if a = 0 then some ((0 : Int32), N) else (if b = 0 then some ((0 : Int32), N) else some ((1 : Int32), N))) = some ((if a = 0 then (0 : Int32) else if b = 0 then 0 else 1), N)
    split
    · rfl
    · split <;> rfl
  · show (if a = 0 then (if b = 0 then some ((0 : Int32), N) else some ((1 : Int32), N)) else some ((1 : Int32), N)) = some ((if a = 0 then (if b = 0 then (0 : Int32) else 1) else 1), N)
    split
    · split <;> rfl
    · rfl
theorem isLaws.big {v : Nat} (h : isLaws v) : v = 13 ∨ v = 28 := h
theorem ev_ps {c k v0 : Nat} (hv : isLaws v0) : ∀ (l : List (Nat × Int32)) (s : List Int32) (i e n : Nat) (N : hn), okL k s.length l 1 → s.length ≤ 32 → rowS (N.1 (v0 + 4)) s →
    (∀ j (hj : j < l.length), N.1 (v0 + 1) (i + j) = enc l[j]) → e = i + l.length → e ≤ 1000 → l.length < n →
    ∃ N', F_Laws_valueOf_1 c n v0 (nI e) (nI s.length) (nI i) N = some ((runL (N.1 (v0 + 5)) l s).headD 0, N') ∧ off1 (v0 + 4) N N' := by
  intro l
  induction l with
  | nil =>
    intro s i e n N hh hs hr ho he hi hn
    obtain ⟨m, rfl⟩ : ∃ m, n = m + 1 := ⟨n - 1, by omega⟩
    have e1 : s.length = 1 := hh
    obtain ⟨x, rfl⟩ := List.length_eq_one_iff.mp e1
    refine ⟨N, ?_, off1.refl⟩
    simp only [List.length_nil, Nat.add_zero] at he
    subst he
    show B_Laws_valueOf_1 c (F_Laws_valueOf_1 c m) v0 (nI _) (nI 1) (nI _) N = some (x, N)
    have hx : N.1 (v0 + 4) 0 = x := hr.1
    have h1 : nI e ≤ nI e := Int32.le_refl _
    simp only [B_Laws_valueOf_1, h1, ↓reduceIte, B_Laws_valueOf_5, x_32_0, hg_T, t_0, hx]
  | cons q l ih =>
    intro s i e n N hh hs hr ho he hi hn
    obtain ⟨m, rfl⟩ : ∃ m, n = m + 1 := ⟨n - 1, by omega⟩
    obtain ⟨h', hq, hl⟩ := hh
    have hn' : l.length < m := by simp at hn; omega
    have he2 : e = i + 1 + l.length := by simp at he; omega
    have hi' : i < 1000 := by omega
    have o1 := ho 0 (by simp)
    simp only [Nat.add_zero, List.getElem_cons_zero] at o1
    have ho' : ∀ j (hj : j < l.length), N.1 (v0 + 1) (i + 1 + j) = enc l[j] := by
      intro j hj
      have := ho (j + 1) (by simp; omega)
      simpa [Nat.add_assoc, Nat.add_comm 1 j] using this
    have go : ∀ (s' : List Int32) (p : Nat) (v : Int32), okL k s'.length l 1 → s'.length ≤ 32 → rowS ((hn_wI N (v0 + 4) p v).1 (v0 + 4)) s' →
        ∃ N', F_Laws_valueOf_1 c m v0 (nI e) (nI s'.length) (nI (i + 1)) (hn_wI N (v0 + 4) p v) = some ((runL (N.1 (v0 + 5)) l s').headD 0, N') ∧ off1 (v0 + 4) N N' := by
      intro s' p v a1 a2 a3
      obtain ⟨N', b1, b2⟩ := ih s' (i + 1) e m (hn_wI N (v0 + 4) p v) a1 a2 a3 (by simpa only [wI_o (show v0 + 1 ≠ v0 + 4 by omega)] using ho') he2 hi hn'
      rw [wI_o (show v0 + 5 ≠ v0 + 4 by omega)] at b1
      exact ⟨N', b1, off1.w.trans b2⟩
    have hci : (nI i).toNatClampNeg = i := nI_lt31 (by omega)
    have hx1 : hn_ix 1000 (nI i) = true := ix_ok hi' (by decide)
    have g1 : ¬ nI e ≤ nI i := nI_ge (by omega) (by omega)
    have g2 : ¬ (1000 : Int32) ≤ nI i := nI_ge hi' (by decide)
    show ∃ N', B_Laws_valueOf_1 c (F_Laws_valueOf_1 c m) v0 (nI e) (nI s.length) (nI i) N = some ((runL (N.1 (v0 + 5)) l (stp (N.1 (v0 + 5)) s q)).headD 0, N') ∧ off1 (v0 + 4) N N'
    have hsl : (nI s.length).toNatClampNeg = s.length := nI_lt31 (by omega)
    rcases hq with ⟨q1, q2, q3, rfl⟩ | ⟨q1, ⟨f, q4, q5⟩, q3, rfl⟩ | ⟨q1, q2, rfl⟩ | ⟨q1, q2, q3, q4⟩
    · have hix : hn_ix 32 (nI s.length) = true := ix_ok q3 (by decide)
      have ee : enc q = q.2 := by simp [enc, q1]
      have g3 : ¬ (32 : Int32) ≤ nI s.length := nI_ge q3 (by decide)
      have g4 : ¬ q.2 < 0 := (fun h => absurd q2 (fa_of_lt h).2.1)
      rw [ee] at o1
      simp only [B_Laws_valueOf_1, g1, g2, hx1, hg_T, hci, o1, q2, ↓reduceIte, hl_s, B_Laws_valueOf_2, B_Laws_valueOf_3, g3, g4, ib_w4 hv, hix, hsl]
      rw [show stp (N.1 (v0 + 5)) s q = q.2 :: s by simp [stp, q1], ← nI_succ, ← nI_succ]
      exact go (q.2 :: s) s.length q.2 hl (by simp; omega) ⟨wI_s, rowS_cong (fun j hj => wI_n (by omega)) hr⟩
    · have hix : hn_ix 32 (nI s.length) = true := ix_ok q3 (by decide)
      have hf : f < 7 := q4.1
      have hix2 : hn_ix 7 (nI f) = true := ix_ok hf (by decide)
      have hcf : (nI f).toNatClampNeg = f := nI_lt31 (by omega)
      have ee : enc q = -(143 + nI f) := by simp [enc, q1, q5]
      obtain ⟨k1, k2, k3, k4, k5⟩ := enc_f f hf
      have g3 : ¬ (32 : Int32) ≤ nI s.length := nI_ge q3 (by decide)
      have z1 : ¬ (1 : Int32) = 0 := by decide
      rw [ee] at o1
      simp only [B_Laws_valueOf_1, g1, g2, hx1, hg_T, hci, o1, k1, ↓reduceIte, hl_s, F_Laws_isFact, k2, k3, hbN_s, z1, B_Laws_valueOf_2, B_Laws_valueOf_3, g3, k4, k5, hix2, hcf, ib_w4 hv, hix, hsl]
      rw [show stp (N.1 (v0 + 5)) s q = N.1 (v0 + 5) f :: s by simp [stp, q1, q5, hcf], ← nI_succ, ← nI_succ]
      exact go (N.1 (v0 + 5) f :: s) s.length (N.1 (v0 + 5) f) hl (by simp; omega) ⟨wI_s, rowS_cong (fun j hj => wI_n (by omega)) hr⟩
    · obtain ⟨x, r, rfl⟩ : ∃ x r, s = x :: r := by
        cases s with
        | nil => simp at q2
        | cons x r => exact ⟨x, r, rfl⟩
      simp only [List.length_cons] at *
      have ee : enc q = -140 := by simp [enc, q1]
      rw [ee] at o1
      have k1 : ¬ (0 : Int32) ≤ -140 := by decide
      have k2 : - (-140 : Int32) < 143 := by decide
      have e4 : nI (r.length + 1) - 1 = nI r.length := nI_pred _
      have hix : hn_ix 32 (nI r.length) = true := ix_ok (by omega) (by decide)
      have hcr : (nI r.length).toNatClampNeg = r.length := nI_lt31 (by omega)
      have hx : N.1 (v0 + 4) r.length = x := hr.1
      have g3 : ¬ nI (r.length + 1) < (1 : Int32) := nI_nlt (b := 1) (by omega) (by omega)
      simp only [B_Laws_valueOf_1, g1, g2, hx1, hg_T, hci, o1, k1, ↓reduceIte, hl_s, F_Laws_isFact, k2, hbN_s, g3, e4, hix, hcr, hx, B_Laws_valueOf_4, ib_w4 hv]
      have key : ∀ v : Int32, ∃ N', F_Laws_valueOf_1 c m v0 (nI e) (nI (r.length + 1)) (nI (i + 1)) (hn_wI N (v0 + 4) r.length v) = some ((runL (N.1 (v0 + 5)) l (v :: r)).headD 0, N') ∧ off1 (v0 + 4) N N' := by
        intro v
        exact go (v :: r) r.length v hl (by simp; omega) ⟨wI_s, rowS_cong (fun j hj => wI_n (by omega)) hr.2⟩
      rw [show stp (N.1 (v0 + 5)) (x :: r) q = (if x = 0 then (1 : Int32) else 0) :: r by simp [stp, q1], ← nI_succ]
      by_cases hx0 : x = 0
      · rw [if_pos hx0, if_pos hx0]; exact key 1
      · rw [if_neg hx0, if_neg hx0]; exact key 0
    · obtain ⟨y, x, r, rfl⟩ : ∃ y x r, s = y :: x :: r := by
        match s, q3 with
        | y :: x :: r, _ => exact ⟨y, x, r, rfl⟩
      simp only [List.length_cons] at *
      obtain ⟨k1, k2, k3⟩ := enc_b (a := q.2) q1 q2
      have e4 : nI (r.length + 1 + 1) + -1 = nI (r.length + 1) := by rw [← Int32.sub_eq_add_neg]; exact nI_pred _
      have e5 : nI (r.length + 1) - 1 = nI r.length := nI_pred _
      have hix : hn_ix 32 (nI r.length) = true := ix_ok (by omega) (by decide)
      have hix2 : hn_ix 32 (nI (r.length + 1)) = true := ix_ok (by omega) (by decide)
      have hcr : (nI r.length).toNatClampNeg = r.length := nI_lt31 (by omega)
      have hcr2 : (nI (r.length + 1)).toNatClampNeg = r.length + 1 := nI_lt31 (by omega)
      have hx : N.1 (v0 + 4) r.length = x := hr.2.1
      have hy : N.1 (v0 + 4) (r.length + 1) = y := hr.1
      have g3 : ¬ nI (r.length + 1 + 1) < (2 : Int32) := nI_nlt (b := 2) (by omega) (by omega)
      have o1' : N.1 (v0 + 1) i = enc (q.1, q.2) := o1
      simp only [B_Laws_valueOf_1, g1, g2, hx1, hg_T, hci, o1', k1, ↓reduceIte, hl_s, F_Laws_isFact, k2, k3, hbN_s, g3, e4, e5, hix, hix2, hcr, hcr2, hx, hy, ps_both q1 q2]
      have n1 : ¬ q.1 = 1 := by omega
      have n2 : ¬ q.1 = 2 := by omega
      have n3 : ¬ q.1 = 3 := by omega
      rw [show stp (N.1 (v0 + 5)) (y :: x :: r) q = bth q.1 x y :: r by simp [stp, n1, n2, n3], ← nI_succ]
      have e6 : r.length + 1 = h' := by omega
      exact go (bth q.1 x y :: r) r.length (bth q.1 x y) (by rw [List.length_cons, e6]; exact hl) (by simp; omega) ⟨wI_s, rowS_cong (fun j hj => wI_n (by omega)) hr.2.2⟩
/-- a law of the class's memory -/
def segP (N : hn) (v0 k : Nat) (l : List (Nat × Int32)) : Prop :=
  ∃ i, N.1 (v0 + 2) k = nI i ∧ N.1 (v0 + 3) k = nI (i + l.length) ∧ i + l.length ≤ 1000 ∧ ∀ j (hj : j < l.length), N.1 (v0 + 1) (i + j) = enc l[j]
theorem law_lit : ∀ k, k < 4 → (¬ nI (135 + k) < (135 : Int32)) ∧ (¬ (138 : Int32) < nI (135 + k)) ∧ nI (135 + k) - (135 : Int32) = nI k := by decide
theorem valueOf_told {c k v0 : Nat} (hv : isLaws v0) (hk : k < 4) {l : List (Nat × Int32)} {N : hn} (hl : l ≠ []) (ho : okL k 0 l 1) (hs : segP N v0 k l) :
    ∃ N', F_Laws_valueOf c v0 (nI (135 + k)) N = some (valL (N.1 (v0 + 5)) l, N') ∧ off1 (v0 + 4) N N' := by
  obtain ⟨i, h1, h2, h3, h4⟩ := hs
  obtain ⟨k1, k2, k3⟩ := law_lit k hk
  have z1 : ¬ (1 : Int32) = 0 := by decide
  have hix : hn_ix 4 (nI k) = true := ix_ok hk (by decide)
  have hck : (nI k).toNatClampNeg = k := nI_lt31 (by omega)
  have hp : 0 < l.length := List.length_pos_iff.mpr hl
  have hlt : nI i < nI (i + l.length) := nI_lt (by omega) (by omega)
  simp only [F_Laws_valueOf, F_Laws_isLaw, k1, k2, k3, ↓reduceIte, hbN_s, z1, hix, hg_T, hck, hl_s, h1, h2, hlt]
  exact ev_ps hv l [] i _ hN N ho (by simp) trivial h4 rfl h3 (hN_big (by omega))
theorem valueOf_untold {c k v0 : Nat} (hk : k < 4) {N : hn} (h : N.1 (v0 + 2) k = nI 0 ∧ N.1 (v0 + 3) k = nI 0) :
    F_Laws_valueOf c v0 (nI (135 + k)) N = some ((if k = 0 then N.1 (v0 + 5) 1 - 12 else if k = 1 then N.1 (v0 + 5) 3 else if k = 2 then (if N.1 (v0 + 5) 1 < 6 then 1 else if N.1 (v0 + 5) 1 ≤ 18 then 0 else 1) else 1), N) := by
  obtain ⟨k1, k2, k3⟩ := law_lit k hk
  have z1 : ¬ (1 : Int32) = 0 := by decide
  have hix : hn_ix 4 (nI k) = true := ix_ok hk (by decide)
  have hck : (nI k).toNatClampNeg = k := nI_lt31 (by omega)
  have hlt : ¬ nI 0 < nI 0 := by decide
  simp only [F_Laws_valueOf, F_Laws_isLaw, k1, k2, k3, ↓reduceIte, hbN_s, z1, hix, hg_T, hck, hl_s, h.1, h.2, hlt]
  have hh : k = 0 ∨ k = 1 ∨ k = 2 ∨ k = 3 := by omega
  rcases hh with rfl | rfl | rfl | rfl
  · rfl
  · rfl
  · have e1 : ¬ nI (135 + 2) = (135 : Int32) := by decide
    have e2 : ¬ nI (135 + 2) = (136 : Int32) := by decide
    have e3 : nI (135 + 2) = (137 : Int32) := by decide
    simp only [F_Laws_valueUntold, x_7_1, hg_T, hl_s, t_1, e1, e2, e3, ↓reduceIte]
    simp only [show ¬ (137 : Int32) = 135 by decide, show ¬ (137 : Int32) = 136 by decide, ↓reduceIte]
    split
    · rfl
    · split <;> rfl
  · rfl
