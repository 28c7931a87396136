/-! CHAPEL: facts that a law may name -/
def may (k f : Nat) : Bool := decide (f < 2) || (decide (f < 4) && decide (k < 2)) || (decide (4 ≤ f) && decide (k = 3))
theorem may_F {k f : Nat} (h7 : f < 7) (h : may k f = true) : mayF k f := by
  simp only [may, Bool.or_eq_true, Bool.and_eq_true, decide_eq_true_eq] at h
  refine ⟨h7, ?_⟩
  omega
/-- the fact at a token, or -1 -/
def fcT (k x b : Nat) : Int32 := if 143 ≤ x ∧ x < 143 + b ∧ may k (x - 143) = true then nI (x - 143) else -1
theorem factHere_ok {c : Nat} {t : Nat → Nat} {n T k f0 i : Nat} {l : List (Nat × Int32)} {M : hn} (h : xM t n T k f0 i l M) (hi : i ≤ T) (hk : k < 4) : F_Md_factHere c M = some (fcT k (kd t n (sT t n i)) 7, M) := by
  have h17 := h.2.2.2.2.2.2.1
  have l2 : (nI k < (2 : Int32)) ↔ k < 2 := nI_lti (b := 2) (by omega) (by decide)
  have l3 : (nI k = (3 : Int32)) ↔ k = 3 := nI_eqi (b := 3) (by omega) (by decide)
  obtain ⟨x, hx⟩ : ∃ x, x = kd t n (sT t n i) := ⟨_, rfl⟩
  have wd : ∀ w, w < 22 → F_Md_isWord c (nI w) M = some (if x = 128 + w then 1 else 0, M) := fun w hw => by rw [hx]; exact h.wd hi hw
  rw [← hx]
  refine it_wp (B := B_Md_factHere_1 c) (z := fun _ _ _ => none) (fun K j (v : Int32) => K v (nI j) M) 7
    (fun j v => v = fcT k x j) (Q := fun y => y = some (fcT k x 7, M)) ?_ ?_ (n := hN) (k := 0) (Nat.zero_le _) (hN_big (by omega)) ?_
  · intro K v hv
    have g : (7 : Int32) ≤ nI 7 := by decide
    simp only [B_Md_factHere_1, g, ↓reduceIte, hv]
  · intro K j v hj hv
    right
    have g7 : ¬ (7 : Int32) ≤ nI j := nI_ge (b := 7) hj (by decide)
    have j2 : (nI j < (2 : Int32)) ↔ j < 2 := nI_lti (b := 2) (by omega) (by decide)
    have j4 : ((4 : Int32) ≤ nI j) ↔ 4 ≤ j := nI_lei (a := 4) (by decide) (by omega)
    have j4' : (nI j < (4 : Int32)) ↔ j < 4 := nI_lti (b := 4) (by omega) (by decide)
    have e15 : (15 : Int32) + nI j = nI (15 + j) := by rw [show (15 : Int32) = nI 15 from rfl, nI_a]
    have w := wd (15 + j) (by omega)
    have z : ¬ (1 : Int32) = 0 := by decide
    -- asked
    have ask : B_Md_factHere_4 c K v (nI j) (1 : Int32) M = K (if x = 143 + j then nI j else v) (nI (j + 1)) M := by
      by_cases q : x = 143 + j
      · rw [if_pos q]
        rw [if_pos (by omega)] at w
        simp only [B_Md_factHere_4, B_Md_factHere_6, z, ↓reduceIte, e15, w, hbN_e, ← nI_succ]
      · rw [if_neg q]
        rw [if_neg (by omega)] at w
        simp only [B_Md_factHere_4, B_Md_factHere_5, B_Md_factHere_6, z, ↓reduceIte, e15, w, hbN_e, ← nI_succ]
    have pas : B_Md_factHere_3 c K v (nI j) M = K v (nI (j + 1)) M := by
      simp only [B_Md_factHere_3, B_Md_factHere_4, B_Md_factHere_5, B_Md_factHere_6, ↓reduceIte, ← nI_succ]
    have yes : may k j = true → fcT k x (j + 1) = if x = 143 + j then nI j else v := by
      intro hm
      rw [hv]
      unfold fcT
      by_cases q : x = 143 + j
      · rw [if_pos q, if_pos ⟨by omega, by omega, by rw [show x - 143 = j by omega]; exact hm⟩]; exact congrArg nI (by omega)
      · rw [if_neg q]
        by_cases q2 : 143 ≤ x ∧ x < 143 + j ∧ may k (x - 143) = true
        · rw [if_pos q2, if_pos ⟨q2.1, by omega, q2.2.2⟩]
        · rw [if_neg q2, if_neg (fun y => q2 ⟨y.1, by omega, y.2.2⟩)]
    have no : ¬ may k j = true → fcT k x (j + 1) = v := by
      intro hm
      rw [hv]
      unfold fcT
      by_cases q2 : 143 ≤ x ∧ x < 143 + j ∧ may k (x - 143) = true
      · rw [if_pos q2, if_pos ⟨q2.1, by omega, q2.2.2⟩]
      · rw [if_neg q2, if_neg]
        rintro ⟨y1, y2, y3⟩
        by_cases e : x = 143 + j
        · rw [show x - 143 = j by omega] at y3; exact hm y3
        · exact q2 ⟨y1, by omega, y3⟩
    refine ⟨fcT k x (j + 1), rfl, ?_⟩
    by_cases a : j < 2
    · rw [yes (by simp [may, a])]
      have g := j2.mpr a
      simp only [B_Md_factHere_1, g7, ↓reduceIte, g, ask]
    · have g2 : ¬ nI j < (2 : Int32) := fun y => a (j2.mp y)
      by_cases b : 4 ≤ j
      · have g4 := j4.mpr b
        have g4' : ¬ nI j < (4 : Int32) := fun y => by have := j4'.mp y; omega
        by_cases d : k = 3
        · rw [yes (by simp [may, b, d])]
          have g3 := l3.mpr d
          simp only [B_Md_factHere_1, B_Md_factHere_2, g7, ↓reduceIte, g2, g4, g4', h17, g3, ask]
        · rw [no (by simp [may, a, d]; omega)]
          have g3 : ¬ nI k = (3 : Int32) := fun y => d (l3.mp y)
          simp only [B_Md_factHere_1, B_Md_factHere_2, g7, ↓reduceIte, g2, g4, g4', h17, g3, pas]
      · have g4 : ¬ (4 : Int32) ≤ nI j := fun y => b (j4.mp y)
        have g4' : nI j < (4 : Int32) := j4'.mpr (by omega)
        by_cases d : k < 2
        · rw [yes (by simp [may, d]; omega)]
          have g3 := l2.mpr d
          simp only [B_Md_factHere_1, g7, ↓reduceIte, g2, g4, h17, g3, ask]
        · rw [no (by simp [may, a, d]; omega)]
          have g3 : ¬ nI k < (2 : Int32) := fun y => d (l2.mp y)
          simp only [B_Md_factHere_1, B_Md_factHere_2, g7, ↓reduceIte, g2, g4, g4', h17, g3, pas]
  · unfold fcT; rw [if_neg (by omega)]
/-- what may begin a part -/
def stT (k x : Nat) : Bool := decide (x = 2) || decide (x = 140) || decide (x = 40) || (decide (143 ≤ x) && decide (x ≤ 149) && may k (x - 143))
theorem starts_t : ∀ k, k < 4 → ∀ x, x < 151 → ∀ (c : Nat) (N : hn), N.1 3 4 = nI x → N.1 2 4 = nI (135 + k) → F_Reader_startsPart c N = some (if stT k x then 1 else 0, N) := by
  intro k hk x hx c N h4 h24
  have e : ∀ y : Nat, y < 2147483648 → ((nI x = nI y) ↔ x = y) := fun y hy => nI_eqi (by omega) hy
  have ek : ∀ y : Nat, y < 2147483648 → ((nI (135 + k) = nI y) ↔ 135 + k = y) := fun y hy => nI_eqi (by omega) hy
  have l1 : (nI x < nI 143) ↔ x < 143 := nI_lti (by omega) (by decide)
  have l2 : (nI 149 < nI x) ↔ 149 < x := nI_lti (by decide) (by omega)
  have z : ¬ (1 : Int32) = 0 := by decide
  unfold F_Reader_startsPart F_Tape_isFact F_Reader_isFactOf B_Reader_isFactOf_1
  simp only [h4, h24, show (2 : Int32) = nI 2 from rfl, show (140 : Int32) = nI 140 from rfl, show (40 : Int32) = nI 40 from rfl, show (143 : Int32) = nI 143 from rfl, show (149 : Int32) = nI 149 from rfl, show (144 : Int32) = nI 144 from rfl, show (145 : Int32) = nI 145 from rfl, show (146 : Int32) = nI 146 from rfl, show (135 : Int32) = nI 135 from rfl, show (136 : Int32) = nI 136 from rfl, show (138 : Int32) = nI 138 from rfl, e 2 (by decide), e 140 (by decide), e 40 (by decide), e 143 (by decide), e 144 (by decide), e 145 (by decide), e 146 (by decide), ek 135 (by decide), ek 136 (by decide), ek 138 (by decide), l1, l2]
  unfold stT may
  by_cases a1 : x = 2
  · simp [a1]
  · by_cases a2 : x = 140
    · simp [a2]
    · by_cases a3 : x = 40
      · simp [a3]
      · by_cases a4 : x < 143
        · have : ¬ 143 ≤ x := by omega
          simp only [a1, a2, a3, a4, ↓reduceIte, hbN_e, this, decide_false, Bool.false_and, Bool.or_self, Bool.false_eq_true]
        · by_cases a5 : 149 < x
          · have : ¬ x ≤ 149 := by omega
            simp only [a1, a2, a3, a4, a5, ↓reduceIte, hbN_e, this, decide_false, Bool.and_false, Bool.false_and, Bool.or_self, Bool.false_eq_true]
          · have b1 : 143 ≤ x := by omega
            have b2 : x ≤ 149 := by omega
            by_cases c1 : x = 143
            · subst c1; simp [h4, h24, e 143 (by decide), e 144 (by decide), e 145 (by decide), e 146 (by decide), ek 135 (by decide), ek 136 (by decide), ek 138 (by decide), hbN_e, z]
            · by_cases c2 : x = 144
              · subst c2; simp [h4, h24, e 143 (by decide), e 144 (by decide), e 145 (by decide), e 146 (by decide), ek 135 (by decide), ek 136 (by decide), ek 138 (by decide), hbN_e, z]
              · by_cases c3 : x = 145 ∨ x = 146
                · by_cases d : k < 2
                  · have d' : 135 + k = 135 ∨ 135 + k = 136 := by omega
                    rcases c3 with rfl | rfl <;> rcases d' with d' | d' <;> simp [h4, h24, e 143 (by decide), e 144 (by decide), e 145 (by decide), e 146 (by decide), ek 135 (by decide), ek 136 (by decide), ek 138 (by decide), d', d, hbN_e, z]
                  · have n1 : ¬ 135 + k = 135 := by omega
                    have n2 : ¬ 135 + k = 136 := by omega
                    have n3 : ¬ k = 0 := by omega
                    have n4 : ¬ k = 1 := by omega
                    rcases c3 with rfl | rfl <;> simp [n3, n4, h4, h24, e 143 (by decide), e 144 (by decide), e 145 (by decide), e 146 (by decide), ek 135 (by decide), ek 136 (by decide), ek 138 (by decide), n1, n2, d, hbN_e, z]
                · have c4 : ¬ x = 145 := by omega
                  have c5 : ¬ x = 146 := by omega
                  have b3 : 4 ≤ x - 143 := by omega
                  have b4 : ¬ x - 143 < 4 := by omega
                  have b5 : ¬ x - 143 < 2 := by omega
                  by_cases d : k = 3
                  · subst d; simp [h4, h24, e 143 (by decide), e 144 (by decide), e 145 (by decide), e 146 (by decide), ek 135 (by decide), ek 136 (by decide), ek 138 (by decide), a1, a2, a3, a4, a5, c1, c2, c4, c5, b1, b2, b3, b4, b5, hbN_e, z]
                  · have n1 : ¬ 135 + k = 138 := by omega
                    simp [h4, h24, e 143 (by decide), e 144 (by decide), e 145 (by decide), e 146 (by decide), ek 135 (by decide), ek 136 (by decide), ek 138 (by decide), a1, a2, a3, a4, a5, c1, c2, c4, c5, b1, b2, b3, b4, b5, n1, d, hbN_e, z]
