/-! CHAPEL: which word it is -/
def WT : List Nat := (WL.map (fun w => w ++ [32])).flatten
def scn (t : Nat → Nat) (p len : Nat) : List Nat → Nat → Nat → Bool → Nat
  | [], _, _, _ => 150
  | x :: r, k, o, ok => if x = 32 then (if ok = true ∧ o = len then k else scn t p len r (k + 1) 0 true) else scn t p len r k (o + 1) (ok && decide (o < len) && decide (t (p + o) = x))
theorem scn_w {t : Nat → Nat} {p len : Nat} : ∀ (w r : List Nat) (k o : Nat) (ok : Bool), (∀ x, x ∈ w → x ≠ 32) →
    scn t p len (w ++ 32 :: r) k o ok = if ok = true ∧ len = o + w.length ∧ ∀ i, i < w.length → t (p + o + i) = w.getD i 0 then k else scn t p len r (k + 1) 0 true
  | [], r, k, o, ok, _ => by
    rw [List.nil_append, scn, if_pos rfl]
    by_cases q : ok = true ∧ o = len
    · rw [if_pos q, if_pos ⟨q.1, by simp [q.2], fun i hi => absurd hi (Nat.not_lt_zero i)⟩]
    · rw [if_neg q, if_neg (fun z => q ⟨z.1, by have := z.2.1; simp at this; exact this.symm⟩)]
  | x :: w, r, k, o, ok, h => by
    have hx : x ≠ 32 := h x (by simp)
    rw [List.cons_append, scn, if_neg hx, scn_w w r k (o + 1) _ (fun y hy => h y (by simp [hy]))]
    have e : ((ok && decide (o < len) && decide (t (p + o) = x)) = true ∧ len = o + 1 + w.length ∧ ∀ i, i < w.length → t (p + (o + 1) + i) = w.getD i 0) ↔ (ok = true ∧ len = o + (x :: w).length ∧ ∀ i, i < (x :: w).length → t (p + o + i) = (x :: w).getD i 0) := by
      simp only [Bool.and_eq_true, decide_eq_true_eq, List.length_cons]
      constructor
      · rintro ⟨⟨⟨a1, a2⟩, a3⟩, a4, a5⟩
        refine ⟨a1, by omega, ?_⟩
        intro i hi
        cases i with
        | zero => exact a3
        | succ i =>
          have := a5 i (by omega)
          rw [show p + o + (i + 1) = p + (o + 1) + i by omega, this]; rfl
      · rintro ⟨a1, a2, a3⟩
        refine ⟨⟨⟨a1, by omega⟩, a3 0 (by omega)⟩, by omega, ?_⟩
        intro i hi
        have := a3 (i + 1) (by omega)
        rw [show p + (o + 1) + i = p + o + (i + 1) by omega, this]; rfl
    by_cases q : ok = true ∧ len = o + (x :: w).length ∧ ∀ i, i < (x :: w).length → t (p + o + i) = (x :: w).getD i 0
    · rw [if_pos q, if_pos (e.mpr q)]
    · rw [if_neg q, if_neg (fun z => q (e.mp z))]
theorem scn_ws {t : Nat → Nat} {p len : Nat} : ∀ (ws : List (List Nat)) (k : Nat), (∀ w, w ∈ ws → ∀ x, x ∈ w → x ≠ 32) →
    (∃ j, j < ws.length ∧ scn t p len ((ws.map (fun w => w ++ [32])).flatten) k 0 true = k + j ∧ isW t p len (ws.getD j [])) ∨
    (scn t p len ((ws.map (fun w => w ++ [32])).flatten) k 0 true = 150 ∧ ∀ j, j < ws.length → ¬ isW t p len (ws.getD j []))
  | [], k, _ => Or.inr ⟨rfl, fun j hj => absurd hj (Nat.not_lt_zero j)⟩
  | w :: ws, k, h => by
    have e : ((w :: ws).map (fun w => w ++ [32])).flatten = w ++ 32 :: (ws.map (fun w => w ++ [32])).flatten := by simp
    rw [e, scn_w w _ k 0 true (h w (by simp))]
    by_cases q : true = true ∧ len = 0 + w.length ∧ ∀ i, i < w.length → t (p + 0 + i) = w.getD i 0
    · rw [if_pos q]
      left
      refine ⟨0, by simp, rfl, ?_, ?_⟩
      · have := q.2.1; simpa using this
      · intro i hi
        have h1 : len = 0 + w.length := q.2.1
        exact q.2.2 i (by omega)
    · rw [if_neg q]
      rcases scn_ws ws (k + 1) (fun v hv => h v (by simp [hv])) with ⟨j, j1, j2, j3⟩ | ⟨j1, j2⟩
      · left; exact ⟨j + 1, by simp; exact j1, by rw [j2]; omega, j3⟩
      · right
        refine ⟨j1, ?_⟩
        intro j hj
        cases j with
        | zero =>
          rintro ⟨a1, a2⟩
          have a1' : len = w.length := a1
          exact q ⟨rfl, by omega, fun i hi => a2 i (by omega)⟩
        | succ j => exact j2 j (by simpa using hj)
/-- the kind of a word -/
def kw (t : Nat → Nat) (p len : Nat) : Nat := scn t p len WT 128 0 true
theorem kw_ok (t : Nat → Nat) (p len : Nat) : (∃ j, j < 22 ∧ kw t p len = 128 + j ∧ isW t p len (WW j)) ∨ (kw t p len = 150 ∧ ∀ j, j < 22 → ¬ isW t p len (WW j)) :=
  scn_ws (t := t) (p := p) (len := len) WL 128 (by decide)
theorem kw_i {t : Nat → Nat} {p len k : Nat} (hk : k < 22) : kw t p len = 128 + k ↔ isW t p len (WW k) := by
  rcases kw_ok t p len with ⟨j, j1, j2, j3⟩ | ⟨j1, j2⟩
  · constructor
    · intro h; have : j = k := by omega
      subst this; exact j3
    · intro h; rw [j2, isW_u j1 hk j3 h]
  · constructor
    · intro h; omega
    · intro h; exact absurd h (j2 k hk)
theorem kw_b (t : Nat → Nat) (p len : Nat) : 128 ≤ kw t p len ∧ kw t p len ≤ 150 := by
  rcases kw_ok t p len with ⟨j, j1, j2, j3⟩ | ⟨j1, j2⟩ <;> omega
theorem WT_len : WT.length = 106 := by decide
theorem WT_chr : ∀ j, j < 106 → hm_chr 0 (nI j) = nI (WT.getD j 0) ∧ WT.getD j 0 < 128 := by decide
theorem kindOfWord_ok {c p e n : Nat} {t : Nat → Nat} {N : hn} (hn' : n ≤ 1000) (he : e ≤ n) (hpe : p ≤ e) (h33 : N.1 3 3 = nI p) (h32 : N.1 3 2 = nI e) (ht : ∀ i, i < n → N.1 4 i = nI (t i) ∧ t i < 128) :
    F_Tape_kindOfWord c N = some (nI (kw t p (e - p)), N) := by
  refine it_wp (B := B_Tape_kindOfWord_1 c) (z := fun _ _ _ _ _ => none) (fun K j (s : Nat × Nat × Bool) => K (nI s.1) (nI s.2.1) (if s.2.2 then 1 else 0) (nI j) N) 106
    (fun j s => s.1 ≤ 128 + j ∧ s.2.1 ≤ j ∧ scn t p (e - p) (WT.drop j) s.1 s.2.1 s.2.2 = kw t p (e - p))
    (Q := fun x => x = some (nI (kw t p (e - p)), N)) ?_ ?_ (n := hN) (k := 0) (s := (128, 0, true)) (Nat.zero_le _) (hN_big (by omega)) ⟨Nat.le_refl _, Nat.le_refl _, rfl⟩
  · rintro K ⟨k, o, ok⟩ ⟨i1, i2, i3⟩
    dsimp only at i1 i2 i3 ⊢
    have g : (106 : Int32) ≤ nI 106 := by decide
    have e0 : WT.drop 106 = [] := by decide
    rw [e0, scn] at i3
    simp only [B_Tape_kindOfWord_1, g, ↓reduceIte, ← i3]
    rfl
  · rintro K j ⟨k, o, ok⟩ hj ⟨i1, i2, i3⟩
    dsimp only at i1 i2 i3 ⊢
    have g : ¬ (106 : Int32) ≤ nI j := nI_ge (b := 106) hj (by decide)
    have gd : (0 : Int32) ≤ nI j ∧ nI j < 106 := ⟨nI_p (by omega), (nI_lti (b := 106) (by omega) (by decide)).mpr hj⟩
    obtain ⟨w1, w2⟩ := WT_chr j hj
    have ed : WT.drop j = WT.getD j 0 :: WT.drop (j + 1) := by
      rw [List.drop_eq_getElem_cons (by rw [WT_len]; exact hj), List.getD_eq_getElem?_getD, List.getElem?_eq_getElem (by rw [WT_len]; exact hj), Option.getD_some]
    rw [ed, scn] at i3
    generalize WT.getD j 0 = x at w1 w2 i3
    have eo : nI p + nI o = nI (p + o) := nI_a p o
    by_cases qx : x = 32
    · subst qx
      rw [if_pos rfl] at i3
      have g32 : nI 32 = (32 : Int32) := rfl
      by_cases qo : ok = true
      · subst qo
        have z : ¬ (1 : Int32) = 0 := by decide
        by_cases ql : o = e - p
        · left
          rw [if_pos ⟨rfl, ql⟩] at i3
          have ee : nI (p + o) = nI e := congrArg nI (by omega)
          simp only [B_Tape_kindOfWord_1, g, ↓reduceIte, gd, and_self, hg_T, hl_e, w1, g32, z, h33, h32, eo, ee, i3]
        · right
          rw [if_neg (fun z => ql z.2)] at i3
          have ee : ¬ nI (p + o) = nI e := fun z => by have := (nI_eqi (by omega) (by omega)).mp z; omega
          refine ⟨(k + 1, 0, true), ⟨by dsimp only; omega, Nat.zero_le _, i3⟩, ?_⟩
          simp only [B_Tape_kindOfWord_1, B_Tape_kindOfWord_4, g, ↓reduceIte, gd, and_self, hg_T, hl_e, w1, g32, z, h33, h32, eo, ee, ← nI_succ]
          rfl
      · right
        have qo' : ok = false := by simpa using qo
        subst qo'
        rw [if_neg (fun z => qo z.1)] at i3
        refine ⟨(k + 1, 0, true), ⟨by dsimp only; omega, Nat.zero_le _, i3⟩, ?_⟩
        simp only [B_Tape_kindOfWord_1, B_Tape_kindOfWord_4, g, ↓reduceIte, gd, and_self, hg_T, hl_e, w1, g32, Bool.false_eq_true, ← nI_succ]
        rfl
    · right
      rw [if_neg qx] at i3
      have gx : ¬ nI x = (32 : Int32) := fun z => qx ((nI_eqi (b := 32) (by omega) (by decide)).mp z)
      refine ⟨(k, o + 1, ok && decide (o < e - p) && decide (t (p + o) = x)), ⟨by dsimp only; omega, by dsimp only; omega, i3⟩, ?_⟩
      by_cases qo : ok = true
      · subst qo
        have z : ¬ (1 : Int32) = 0 := by decide
        by_cases ql : o < e - p
        · have gl : ¬ nI e ≤ nI (p + o) := fun z => by have := (nI_lei (by omega) (by omega)).mp z; omega
          have x1 : hn_ix 1000 (nI (p + o)) = true := ix_ok (by omega) (by decide)
          have c1 : (nI (p + o)).toNatClampNeg = p + o := nI_lt31 (by omega)
          obtain ⟨t1, t2⟩ := ht (p + o) (by omega)
          by_cases qt : t (p + o) = x
          · have ee : nI (t (p + o)) = nI x := by rw [qt]
            simp only [B_Tape_kindOfWord_1, B_Tape_kindOfWord_3, g, ↓reduceIte, gd, and_self, hg_T, hl_e, w1, gx, z, h33, h32, eo, gl, x1, c1, t1, ee, ← nI_succ, ql, qt, decide_true, Bool.and_self]
          · have ee : ¬ nI (t (p + o)) = nI x := fun z => qt ((nI_eqi (by omega) (by omega)).mp z)
            simp only [B_Tape_kindOfWord_1, B_Tape_kindOfWord_2, B_Tape_kindOfWord_3, g, ↓reduceIte, gd, and_self, hg_T, hl_e, w1, gx, z, h33, h32, eo, gl, x1, c1, t1, ee, ← nI_succ, ql, qt, decide_true, decide_false, Bool.and_false, Bool.false_eq_true]
        · have gl : nI e ≤ nI (p + o) := (nI_lei (by omega) (by omega)).mpr (by omega)
          simp only [B_Tape_kindOfWord_1, B_Tape_kindOfWord_2, B_Tape_kindOfWord_3, g, ↓reduceIte, gd, and_self, hg_T, hl_e, w1, gx, z, h33, h32, eo, gl, ← nI_succ, ql, decide_false, Bool.and_false, Bool.false_and, Bool.false_eq_true]
      · have qo' : ok = false := by simpa using qo
        subst qo'
        simp only [B_Tape_kindOfWord_1, B_Tape_kindOfWord_2, B_Tape_kindOfWord_3, g, ↓reduceIte, gd, and_self, hg_T, hl_e, w1, gx, Bool.false_and, Bool.false_eq_true, ← nI_succ]
