/-! THE RELATION of the two sides in one memory -/
def holdR (v base : Nat) (ch : Nat → Int32) (N : hn) : Prop :=
  N.1 v 5 = nI (nP ch) ∧ N.1 v 1 = N.1 88 (base + 12) ∧ (∀ i, nP ch ≤ i → i < 32 → bt (N.1 88 (base + 12)) i = false) ∧
  (∀ p, p < nP ch → N.1 (v + 1) p = N.1 88 (base + p) ∧ ∃ o, o < nG ch ∧ N.1 88 (base + p) = nI o) ∧
  (∀ p, nP ch ≤ p → p < 12 → N.1 (v + 1) p = -1) ∧
  (∃ s, s ≤ 8 ∧ N.1 v 2 = nI s ∧ N.1 88 (base + 13) = nI s ∧ ∀ i, i < s → ∃ x y, x < nW ch ∧ y < nD ch ∧ N.1 88 (base + 14 + 3 * i) = nI x ∧ N.1 88 (base + 15 + 3 * i) = nI y ∧ N.1 (v + 2) i = nI (8 * y + x) ∧ N.1 (v + 3) i = N.1 88 (base + 16 + 3 * i))
/-- what undoes one doing: owners and broken ahead of it, out of those behind it -/
def undoS (P : Nat) (a b : Int32) (st : Nat → Int32) (hi lo : Nat) : Prop :=
  ∃ x, x < P ∧ a = nI x ∧ ((b = -1 ∧ (∀ p, p < P → st (lo + p) = st (hi + p)) ∧ st (lo + 12) = st (hi + 12) ^^^ ((1 : Int32) <<< (nI x &&& 31))) ∨
    (∃ y, y < P ∧ y ≠ x ∧ b = nI y ∧ (∀ p, p < P → st (lo + p) = if p = x then st (hi + y) else if p = y then st (hi + x) else st (hi + p)) ∧ st (lo + 12) = st (hi + 12)))
def undoR (ch : Nat → Int32) (N : hn) : Prop :=
  ∃ n nx, n ≤ 20 ∧ nx < 20 ∧ N.1 40 2 = nI n ∧ N.1 40 3 = nI nx ∧ N.1 76 21 = nI n ∧
    ∀ i, i < n → undoS (nP ch) (N.1 41 ((nx + 20 - (n - i)) % 20)) (N.1 42 ((nx + 20 - (n - i)) % 20)) (N.1 88) (if i + 1 = n then 0 else 40 * (6 + i)) (40 * (5 + i))
def marksR (ch : Nat → Int32) (N : hn) : Prop :=
  ∀ m, m < 4 → (N.1 89 m = 0 ∨ N.1 89 m = 1) ∧ (bt (N.1 1 9) m = true ↔ ¬ N.1 89 m = 0) ∧ (bt (N.1 1 9) m = true → holdR (60 + 4 * m) (40 * (1 + m)) ch N)
def tapeR (N : hn) : Prop :=
  ∃ n, n ≤ 1000 ∧ N.1 3 1 = nI n ∧ N.1 76 2 = nI n ∧ ∀ i, i < n → ∃ m, (m = 10 ∨ (32 ≤ m ∧ m ≤ 126)) ∧ N.1 4 i = nI m ∧ N.1 77 i = nI m
def wordS : Nat → Nat := fun k => [11873910, 14195609, 22961072, 791486, 812340, 561, 236773452, 255357, 209658, 204658, 919137, 6251635, 19741, 1891, 573, 1172060, 426554, 236781366, 25220, 24, 25, 24853015].getD k 0
def wordsR (N : hn) : Prop := ∀ k, k < 22 → N.2 81 k = lN (wordS k)
/-- the class's caches -/
def cacheP (c : Nat) (ch : Nat → Int32) (law : Law) (N : hn) : Prop := chapP c ch law N ∧ litP c ch law N ∧ rentP ch law N
def RR (c : Nat) (ch : Nat → Int32) (law : Law) (N : hn) : Prop :=
  isChap c ∧ chOK ch ∧ lawOK law ∧ cacheP c ch law N ∧ mchap ch law N ∧ holdR 36 0 ch N ∧ undoR ch N ∧ marksR ch N ∧ tapeR N ∧ N.1 76 23 = 0 ∧ wordsR N
theorem holdR.off {v base : Nat} {ch : Nat → Int32} {N N' : hn} (h : holdR v base ch N) (h0 : N'.1 v = N.1 v) (h1 : N'.1 (v + 1) = N.1 (v + 1)) (h2 : N'.1 (v + 2) = N.1 (v + 2)) (h3 : N'.1 (v + 3) = N.1 (v + 3)) (h88 : N'.1 88 = N.1 88) : holdR v base ch N' := by
  unfold holdR; rw [h0, h1, h2, h3, h88]; exact h
theorem undoR.off {ch : Nat → Int32} {N N' : hn} (h : undoR ch N) (h40 : N'.1 40 = N.1 40) (h41 : N'.1 41 = N.1 41) (h42 : N'.1 42 = N.1 42) (h76 : N'.1 76 21 = N.1 76 21) (h88 : N'.1 88 = N.1 88) : undoR ch N' := by
  unfold undoR; rw [h40, h41, h42, h76, h88]; exact h
theorem marksR.off {ch : Nat → Int32} {N N' : hn} (h : marksR ch N) (h1 : N'.1 1 = N.1 1) (h60 : ∀ b, 60 ≤ b → b ≤ 75 → N'.1 b = N.1 b) (h88 : N'.1 88 = N.1 88) (h89 : N'.1 89 = N.1 89) : marksR ch N' := by
  intro m hm
  obtain ⟨a1, a2, a3⟩ := h m hm
  rw [h89, h1]
  refine ⟨a1, a2, fun b => (a3 b).off (h60 _ (by omega) (by omega)) (h60 _ (by omega) (by omega)) (h60 _ (by omega) (by omega)) (h60 _ (by omega) (by omega)) h88⟩
theorem tapeR.off {N N' : hn} (h : tapeR N) (h3 : N'.1 3 = N.1 3) (h4 : N'.1 4 = N.1 4) (h76 : N'.1 76 2 = N.1 76 2) (h77 : N'.1 77 = N.1 77) : tapeR N' := by
  unfold tapeR; rw [h3, h4, h76, h77]; exact h
/-- a question put to the class -/
theorem RR.qP {c : Nat} {ch : Nat → Int32} {law : Law} {N N' : hn} (h : RR c ch law N) (ho : offQ c N N') (hl : litP c ch law N') (hr : rentP ch law N') : RR c ch law N' := by
  obtain ⟨a1, a2, a3, ⟨a4, a5, a6⟩, a7, a8, a9, a10, a11, a12, a13⟩ := h
  have hcc : c = 5 ∨ c = 20 := a1
  refine ⟨a1, a2, a3, ⟨a4.offQ a1 ho, hl, hr⟩, a7.off (ho.1 _ (by omega)) (ho.1 _ (by omega)) (ho.1 _ (by omega)),
    a8.off (ho.1 _ (by omega)) (ho.1 _ (by omega)) (ho.1 _ (by omega)) (ho.1 _ (by omega)) (ho.1 _ (by omega)),
    a9.off (ho.1 _ (by omega)) (ho.1 _ (by omega)) (ho.1 _ (by omega)) (by rw [ho.1 76 (by omega)]) (ho.1 _ (by omega)),
    a10.off (ho.1 _ (by omega)) (fun b _ _ => ho.1 b (by omega)) (ho.1 _ (by omega)) (ho.1 _ (by omega)),
    a11.off (ho.1 _ (by omega)) (ho.1 _ (by omega)) (by rw [ho.1 76 (by omega)]) (ho.1 _ (by omega)), by rw [ho.1 76 (by omega)]; exact a12, ?_⟩
  intro k hk
  rw [ho.2 81 (by decide) (by decide)]; exact a13 k hk
def offM (N N' : hn) : Prop := (∀ b, b ≠ 76 → b ≠ 86 → b ≠ 87 → ¬ (90 ≤ b ∧ b ≤ 98) → N'.1 b = N.1 b) ∧ (∀ k, k ≠ 0 → k ≠ 28 → N'.1 76 k = N.1 76 k) ∧ (∀ b, b ≠ 76 → N'.2 b = N.2 b)
theorem offM.refl {N : hn} : offM N N := ⟨fun _ _ _ _ _ => rfl, fun _ _ _ => rfl, fun _ _ => rfl⟩
theorem offM.trans {N N1 N2 : hn} (h : offM N N1) (h2 : offM N1 N2) : offM N N2 :=
  ⟨fun b a1 a2 a3 a4 => (h2.1 b a1 a2 a3 a4).trans (h.1 b a1 a2 a3 a4), fun k a1 a2 => (h2.2.1 k a1 a2).trans (h.2.1 k a1 a2), fun b a => (h2.2.2 b a).trans (h.2.2 b a)⟩
theorem offM.ofA {N N' : hn} (h : offA N N') : offM N N' := ⟨fun b a1 a2 a3 a4 => h.1 b a2 a3 (by omega) (by omega), fun k _ _ => by rw [h.1 76 (by decide) (by decide) (by decide) (by decide)], fun b _ => by rw [h.2]⟩
theorem offM.ofF {N N' : hn} (h : offF N N') : offM N N' := offM.ofA (offA.ofF h)
theorem offM.thr {N : hn} {v : Int32} : offM N (hn_wI N 76 0 v) := ⟨fun b a1 _ _ _ => wI_o a1, fun k a1 _ => wI_n a1, fun _ _ => rfl⟩
theorem offM.w {a i : Nat} {v : Int32} {N : hn} (h : 90 ≤ a ∧ a ≤ 98) : offM N (hn_wI N a i v) := ⟨fun b a1 _ _ a4 => wI_o (fun e => a4 (by omega)), fun k _ _ => by rw [wI_o (by omega)], fun _ _ => rfl⟩
/-- a question put to the reference -/
theorem RR.qM {c : Nat} {ch : Nat → Int32} {law : Law} {N N' : hn} (h : RR c ch law N) (ho : offM N N') : RR c ch law N' := by
  obtain ⟨a1, a2, a3, ⟨a4, a5, a6⟩, a7, a8, a9, a10, a11, a12, a13⟩ := h
  have hcc : c = 5 ∨ c = 20 := a1
  have o : ∀ b, b < 76 → N'.1 b = N.1 b := fun b hb => ho.1 b (by omega) (by omega) (by omega) (by omega)
  have o82 : N'.1 82 = N.1 82 := ho.1 82 (by decide) (by decide) (by decide) (by omega)
  have o83 : N'.1 83 = N.1 83 := ho.1 83 (by decide) (by decide) (by decide) (by omega)
  have o84 : N'.1 84 = N.1 84 := ho.1 84 (by decide) (by decide) (by decide) (by omega)
  have o88 : N'.1 88 = N.1 88 := ho.1 88 (by decide) (by decide) (by decide) (by omega)
  have o89 : N'.1 89 = N.1 89 := ho.1 89 (by decide) (by decide) (by decide) (by omega)
  have o77 : N'.1 77 = N.1 77 := ho.1 77 (by decide) (by decide) (by decide) (by omega)
  refine ⟨a1, a2, a3, ⟨a4.off a1 (fun b _ _ => o b (by omega)), ⟨?_, ?_⟩, a6.off (o _ (by decide)) (o _ (by decide)) (o _ (by decide))⟩, a7.off o82 o83 o84,
    a8.off (o _ (by decide)) (o _ (by decide)) (o _ (by decide)) (o _ (by decide)) o88,
    a9.off (o _ (by decide)) (o _ (by decide)) (o _ (by decide)) (ho.2.1 21 (by decide) (by decide)) o88,
    a10.off (o _ (by decide)) (fun b _ _ => o b (by omega)) o88 o89, a11.off (o _ (by decide)) (o _ (by decide)) (ho.2.1 2 (by decide) (by decide)) o77, ?_, ?_⟩
  · unfold yrP; rw [ho.2.2 35 (by decide)]; exact a5.1
  · unfold atT; rw [o 19 (by decide), o 34 (by decide), o (c + 13) (by omega)]; exact a5.2
  · rw [ho.2.1 23 (by decide) (by decide)]; exact a12
  · intro k hk
    rw [ho.2.2 81 (by decide)]; exact a13 k hk
theorem RR.own {c : Nat} {ch : Nat → Int32} {law : Law} {N : hn} (h : RR c ch law N) : ownM ch N := by
  obtain ⟨-, -, -, -, -, a8, -⟩ := h
  intro p hp
  have := (a8.2.2.2.1 p hp).2
  rwa [Nat.zero_add] at this
theorem RR.P {c : Nat} {ch : Nat → Int32} {law : Law} {N : hn} (h : RR c ch law N) : nP ch ≤ 12 ∧ nG ch ≤ 6 ∧ ch 4 = nI (nP ch) ∧ ch 3 = nI (nG ch) ∧ N.1 82 4 = nI (nP ch) ∧ N.1 82 3 = nI (nG ch) ∧ N.1 c 4 = nI (nP ch) ∧ N.1 c 3 = nI (nG ch) := by
  obtain ⟨-, ⟨-, -, -, ⟨g1, g2⟩, ⟨p1, p2⟩, -⟩, -, ⟨b1, -⟩, a7, -⟩ := h
  exact ⟨p2, g2, p1, g1, by rw [a7.1 4 (by decide), p1], by rw [a7.1 3 (by decide), g1], by rw [b1.1 4 (by decide), p1], by rw [b1.1 3 (by decide), g1]⟩
/-- the lit ones, as the class has them -/
theorem lit_ok {c : Nat} {ch : Nat → Int32} {law : Law} {N : hn} (h : RR c ch law N) : ∃ x, F_Hold_lit c 36 N = some (x, N) ∧ ∀ i, i < 32 → bt x i = (decide (i < nP ch) && !bt (N.1 88 12) i) := by
  have hP := h.P.1
  obtain ⟨-, -, -, -, -, ⟨b1, b2, -⟩, -⟩ := h
  refine ⟨_, rfl, ?_⟩
  intro i hi
  rw [b_and, b1, bt_msk _ (by omega) i hi, b2, bt_not hi, Nat.zero_add]
theorem litB_eq {c : Nat} {ch : Nat → Int32} {law : Law} {N : hn} (h : RR c ch law N) : litB N = fun p => !bt (N.1 88 12) p := by
  obtain ⟨-, -, -, -, -, -, -, -, -, a12, -⟩ := h
  funext p
  unfold litB
  rw [a12, b_0]; simp
