/-! answers: stains, stood -/
theorem can_stain {c : Nat} (w d H col : Int32) : (∀ N, F_Ps_isStained c w d H col N = some (0, N) ∧ F_Md_canStain c w d H col N = some (0, N)) ∨
    (∃ w' d' H' : Nat, w = nI w' ∧ d = nI d' ∧ H = nI H' ∧ w' < 52 ∧ d' + H' ≤ 24 ∧ 1 ≤ H' ∧ H' ≤ 6 ∧ ∀ N, F_Ps_isStained c w d H col N = some (1, N) ∧ F_Md_canStain c w d H col N = some (1, N)) := by
  have z : ¬ (1 : Int32) = 0 := by decide
  by_cases ht : inR 52 w ∧ inR 24 d
  · obtain ⟨⟨w, hw, rfl⟩, ⟨d, hd, rfl⟩⟩ := ht
    by_cases h1 : H < 1
    · left; intro N
      refine ⟨?_, ?_⟩
      · simp only [F_Ps_isStained, psT_y hw hd, hbN_e, z, ↓reduceIte, h1]
      · simp only [F_Md_canStain, mdT_y hw hd, hbN_e, z, ↓reduceIte, F_Md_within, h1]
    · by_cases h2 : 6 < H
      · left; intro N
        refine ⟨?_, ?_⟩
        · simp only [F_Ps_isStained, psT_y hw hd, hbN_e, z, ↓reduceIte, h1, h2]
        · simp only [F_Md_canStain, mdT_y hw hd, hbN_e, z, ↓reduceIte, F_Md_within, h1, h2]
      · by_cases h3 : 24 < nI d + H
        · left; intro N
          refine ⟨?_, ?_⟩
          · simp only [F_Ps_isStained, psT_y hw hd, hbN_e, z, ↓reduceIte, h1, h2, h3]
          · simp only [F_Md_canStain, mdT_y hw hd, hbN_e, z, ↓reduceIte, F_Md_within, h1, h2, h3]
        · by_cases h4 : col < 0
          · left; intro N
            refine ⟨?_, ?_⟩
            · simp only [F_Ps_isStained, psT_y hw hd, hbN_e, z, ↓reduceIte, h1, h2, h3, h4]
            · simp only [F_Md_canStain, mdT_y hw hd, hbN_e, z, ↓reduceIte, F_Md_within, h1, h2, h3, h4]
          · by_cases h5 : ((1 : Int32) <<< (((3 : Int32) * H) &&& 31)) ≤ col
            · left; intro N
              refine ⟨?_, ?_⟩
              · simp only [F_Ps_isStained, psT_y hw hd, hbN_e, z, ↓reduceIte, h1, h2, h3, h4, h5]
              · simp only [F_Md_canStain, mdT_y hw hd, hbN_e, z, ↓reduceIte, F_Md_within, h1, h2, h3, h4, h5]
            · right
              have hH0 : ¬ H < 0 := by
                rw [fa_lt] at h1 ⊢
                have a : (1 : Int32).toInt = 1 := by decide
                have b : (0 : Int32).toInt = 0 := by decide
                omega
              have hH7 : ¬ nI 7 ≤ H := by
                rw [fa_lt] at h2; rw [fa_le, nI_toInt (by decide)]
                have a : (6 : Int32).toInt = 6 := by decide
                omega
              obtain ⟨H', hH, rfl⟩ := i32_in hH0 hH7 (by decide)
              have k1 : 1 ≤ H' := by
                by_cases q : 1 ≤ H'
                · exact q
                · exact absurd (nI_lt (a := H') (b := 1) (by omega) (by decide)) h1
              have k2 : d + H' ≤ 24 := by
                by_cases q : d + H' ≤ 24
                · exact q
                · exfalso; apply h3; rw [nI_a]; exact nI_lt (a := 24) (by omega) (by omega)
              refine ⟨w, d, H', rfl, rfl, rfl, hw, k2, k1, by omega, ?_⟩
              intro N
              refine ⟨?_, ?_⟩
              · simp only [F_Ps_isStained, psT_y hw hd, hbN_e, z, ↓reduceIte, h1, h2, h3, h4, h5]
              · simp only [F_Md_canStain, mdT_y hw hd, hbN_e, z, ↓reduceIte, F_Md_within, h1, h2, h3, h4, h5]
  · left; intro N
    refine ⟨?_, ?_⟩
    · simp only [F_Ps_isStained, psT_n ht, hbN_e, ↓reduceIte]
    · simp only [F_Md_canStain, mdT_n ht, hbN_e, ↓reduceIte]
theorem a_stains {c : Nat} {ch : Nat → Int32} {law : Law} {N : hn} (h : RR c ch law N) (w d H col : Int32) : alike c ch law (F_Ps_stains c w d H col) (F_Md_stains c w d H col) N := by
  have z : ¬ (1 : Int32) = 0 := by decide
  rcases can_stain (c := c) w d H col with q | ⟨w, d, H, rfl, rfl, rfl, hw, hd, h1, h6, q⟩
  · refine ⟨-1, N, _, ?_, ?_, h.thr (v := 0)⟩
    · simp only [F_Ps_stains, (q N).1, hbN_e, ↓reduceIte]
    · simp only [F_Md_stains, hl_e, (q _).2, hbN_e, ↓reduceIte]
  · obtain ⟨l, l1, l2⟩ := lit_ok h
    obtain ⟨N1, a1, a2, a3⟩ := rows_ok h (H := H) (t := w * 24 + d) (cols := col) l2 h1 h6 (by omega)
    have hX := a2.thr (v := 0)
    obtain ⟨N2, b1, b2, -⟩ := stains_md hX (cols := col) hw hd h1 h6
    rw [wI_o (by decide), a3] at b1
    refine ⟨nI (fb_sm (wkN (mayS ch law (N.1 88) (w * 24 + d) col) (H - 1)) 64), N1, N2, ?_, ?_, b2⟩
    · simp only [F_Ps_stains, (q N).1, hbN_e, z, ↓reduceIte, l1, F_Ps_timeOf, time_eq, a1]
    · have e : fb_sm (bhS ch law (N.1 88) (w * 24 + d) col H 0) 64 = fb_sm (wkN (mayS ch law (N.1 88) (w * 24 + d) col) (H - 1)) 64 := by
        rw [wk_all]; rfl
      simp only [F_Md_stains, hl_e, (q _).2, hbN_e, z, ↓reduceIte, b1, e]
/-! stood -/
def anF (E : Int32) (f : Nat → Int32) (S : Nat → Bool) : Nat → Int32
  | 0 => E
  | n + 1 => if S n then anF E f S n &&& f n else anF E f S n
theorem bt_anF {E : Int32} {f : Nat → Int32} {S : Nat → Bool} {i : Nat} : ∀ {n : Nat}, bt (anF E f S n) i = true ↔ bt E i = true ∧ ∀ p, p < n → S p = true → bt (f p) i = true
  | 0 => by rw [anF]; simp
  | n + 1 => by
    rw [anF]
    by_cases e : S n = true
    · rw [if_pos e, b_and, Bool.and_eq_true, bt_anF (n := n)]
      constructor
      · rintro ⟨⟨h1, h2⟩, h3⟩
        refine ⟨h1, fun p hp hs => ?_⟩
        by_cases q : p = n
        · subst q; exact h3
        · exact h2 p (by omega) hs
      · rintro ⟨h1, h2⟩; exact ⟨⟨h1, fun p hp hs => h2 p (by omega) hs⟩, h2 n (by omega) e⟩
    · rw [if_neg e, bt_anF (n := n)]
      constructor
      · rintro ⟨h1, h2⟩
        refine ⟨h1, fun p hp hs => ?_⟩
        by_cases q : p = n
        · subst q; exact absurd hs e
        · exact h2 p (by omega) hs
      · rintro ⟨h1, h2⟩; exact ⟨h1, fun p hp hs => h2 p (by omega) hs⟩
theorem own_lt {c : Nat} {ch : Nat → Int32} {law : Law} {N : hn} (h : RR c ch law N) {t k i : Nat} (hi : i < 32) (hb : bt (ownS ch law (N.1 88) t (nI k)) i = true) : i < nG ch := by
  obtain ⟨hP, hG, -⟩ := h.P
  unfold ownS at hb
  obtain ⟨p, p1, -, p3⟩ := bt_orF.mp hb
  obtain ⟨o, o1, o2⟩ := h.own p p1
  rw [o2, bt_1sh (by omega) hi] at p3
  simp at p3; omega
theorem a_stood {c : Nat} {ch : Nat → Int32} {law : Law} {N : hn} (h : RR c ch law N) (w d H col iv some' : Int32) : alike c ch law (F_Ps_stood c w d H col iv some') (F_Md_stood c w d H col iv some') N := by
  have z : ¬ (1 : Int32) = 0 := by decide
  obtain ⟨hP, hG, -⟩ := h.P
  rcases can_stain (c := c) w d H col with q | ⟨w, d, H, rfl, rfl, rfl, hw, hd, h1, h6, q⟩
  · refine ⟨-1, N, _, ?_, ?_, h.thr (v := 0)⟩
    · simp only [F_Ps_stood, (q N).1, hbN_e, ↓reduceIte]
    · simp only [F_Md_stood, hl_e, (q _).2, hbN_e, ↓reduceIte]
  · have eH : nI H - (1 : Int32) = nI (H - 1) := nI_s (b := 1) h1
    by_cases hi : inR H iv
    · obtain ⟨i, hi, rfl⟩ := hi
      have g0 : ¬ nI i < 0 := nI_nn (by omega)
      have g1 : nI i < nI H := nI_lt hi (by omega)
      obtain ⟨l, l1, l2⟩ := lit_ok h
      obtain ⟨N1, a1, a2, a3, a4, a5⟩ := meet_ok h (H := H) (t := w * 24 + d) (i := i) (cols := col) l2 h6 hi (by omega)
      have hX := a2.thr (v := 0)
      obtain ⟨N2, b1, b2, b3⟩ := stains_md hX (cols := col) hw hd h1 h6
      rw [wI_o (by decide), a3] at b1 b3
      obtain ⟨-, -, -, -, -, m3, -, -⟩ := b2.P
      have w1 : F_Md_within c (nI i) (0 : Int32) (nI (H - 1)) (hn_wI N1 76 0 0) = some (1, _) := mdW_y (k := H - 1) (by omega) (by omega)
      -- how many rows there are
      have tot : fb_sm (bhS ch law (N.1 88) (w * 24 + d) col H 0) 64 ≤ 200000 := by
        have : ∀ k, k < 64 → bhS ch law (N.1 88) (w * 24 + d) col H 0 k ≤ 3125 := by
          intro k hk
          have a := wk_le (M := fun n => mayS ch law (N.1 88) (w * 24 + d) col (H - 1 - n)) (H - 1 - 0) k hk
          have b : 5 ^ (H - 1 - 0) ≤ 5 ^ 5 := Nat.pow_le_pow_right (by decide) (by omega)
          unfold bhS; omega
        have := fb_sm_bound this
        omega
      have mid : 0 < fb_sm (bhS ch law (N.1 88) (w * 24 + d) col H 0) 64 ↔ anyF (psS ch law (N.1 88) (w * 24 + d) col H i) 64 = true := by
        have := wk_mid (M := mayS ch law (N.1 88) (w * 24 + d) col) (m := H - 1) (i := i) (by omega)
        rw [anyF_iff]
        refine Iff.trans this ?_
        constructor
        · rintro ⟨k, k1, k2, k3⟩; exact ⟨k, k1, by unfold psS; simp [k2, k3]⟩
        · rintro ⟨k, k1, k2⟩; unfold psS at k2; simp only [Bool.and_eq_true, decide_eq_true_eq] at k2; exact ⟨k, k1, k2.1, k2.2⟩
      -- the owners at a place
      have ow : ∀ k, k < 64 → ∀ {α : Type} (R : Int32 → hn → Option α), (hbN (F_Hold_lit c 36 N1) fun r4 N3 => hbN (F_Light_panesOn c (nI k) r4 N3) fun r6 N5 => hbN (F_Hold_ownersOf c 36 r6 N5) R) = R (ownS ch law (N.1 88) (w * 24 + d + i) (nI k)) N1 := by
        intro k hk α R
        obtain ⟨l', l1', l2'⟩ := lit_ok a2
        rw [l1', hbN_e, on_ps a2 hk a4 l2', hbN_e, own_ps a2 hk, hbN_e, a3]
      have ow31 : ∀ k, bt (orF (fun k => ownS ch law (N.1 88) (w * 24 + d + i) (nI k)) (psS ch law (N.1 88) (w * 24 + d) col H i) k) 31 = false := by
        intro k
        by_cases q : bt (orF (fun k => ownS ch law (N.1 88) (w * 24 + d + i) (nI k)) (psS ch law (N.1 88) (w * 24 + d) col H i) k) 31 = true
        · obtain ⟨p, -, -, p3⟩ := bt_orF.mp q
          have := own_lt h (by decide) p3
          omega
        · simpa using q
      -- the class's two answers
      have cs : F_Ps_ownersOnSome c N1 = some ((if anyF (psS ch law (N.1 88) (w * 24 + d) col H i) 64 then orF (fun k => ownS ch law (N.1 88) (w * 24 + d + i) (nI k)) (psS ch law (N.1 88) (w * 24 + d) col H i) 64 else -1), N1) := by
        refine it_wp (B := B_Ps_ownersOnSome_1 c) (z := fun _ _ _ => none) (fun K k (s : Int32) => K s (nI k) N1) 64 (fun k s => s = if anyF (psS ch law (N.1 88) (w * 24 + d) col H i) k then orF (fun k => ownS ch law (N.1 88) (w * 24 + d + i) (nI k)) (psS ch law (N.1 88) (w * 24 + d) col H i) k else -1)
          (Q := fun x => x = some ((if anyF (psS ch law (N.1 88) (w * 24 + d) col H i) 64 then orF (fun k => ownS ch law (N.1 88) (w * 24 + d + i) (nI k)) (psS ch law (N.1 88) (w * 24 + d) col H i) 64 else -1), N1)) ?_ ?_ (n := hN) (k := 0) (s := -1) (by omega) (hN_big (by omega)) rfl
        · intro K s hs
          have g : (64 : Int32) ≤ nI 64 := by decide
          simp only [B_Ps_ownersOnSome_1, g, ↓reduceIte, hs]
        · intro K k s hk hs
          right
          refine ⟨_, rfl, ?_⟩
          have g : ¬ (64 : Int32) ≤ nI k := nI_ge (b := 64) hk (by decide)
          by_cases q1 : psS ch law (N.1 88) (w * 24 + d) col H i k = true
          · simp only [B_Ps_ownersOnSome_1, g, ↓reduceIte, a5 k hk, q1, hbN_e, z, B_Ps_ownersOnSome_2, anyF, Bool.or_true, orF, ← nI_succ]
            rw [ow k hk]
            by_cases q2 : anyF (psS ch law (N.1 88) (w * 24 + d) col H i) k = true
            · rw [q2, if_pos rfl] at hs
              have n1 : ¬ s = -1 := by
                intro e
                have a := ow31 k
                rw [← hs, e] at a
                exact absurd a (by decide)
              rw [if_neg n1, hs]
            · have q2' : anyF (psS ch law (N.1 88) (w * 24 + d) col H i) k = false := by simpa using q2
              rw [q2'] at hs
              simp only [Bool.false_eq_true, ↓reduceIte] at hs
              have e0 : orF (fun k => ownS ch law (N.1 88) (w * 24 + d + i) (nI k)) (psS ch law (N.1 88) (w * 24 + d) col H i) k = 0 := by
                rw [orF_ext (m := 0) (by omega) (fun j _ hj => by
                  by_cases q3 : psS ch law (N.1 88) (w * 24 + d) col H i j = true
                  · exact absurd (anyF_iff.mpr ⟨j, hj, q3⟩) q2
                  · simpa using q3)]
                rfl
              rw [if_pos hs, e0]
              simp
          · have q1' : psS ch law (N.1 88) (w * 24 + d) col H i k = false := by simpa using q1
            simp only [B_Ps_ownersOnSome_1, g, ↓reduceIte, a5 k hk, q1', Bool.false_eq_true, hbN_e, anyF, Bool.or_false, orF, or_0, hs, ← nI_succ]
      have ca : F_Ps_ownersOnAll c N1 = some (anF (-1) (fun k => ownS ch law (N.1 88) (w * 24 + d + i) (nI k)) (psS ch law (N.1 88) (w * 24 + d) col H i) 64, N1) := by
        refine it_wp (B := B_Ps_ownersOnAll_1 c) (z := fun _ _ _ => none) (fun K k (s : Int32) => K s (nI k) N1) 64 (fun k s => s = anF (-1) (fun k => ownS ch law (N.1 88) (w * 24 + d + i) (nI k)) (psS ch law (N.1 88) (w * 24 + d) col H i) k)
          (Q := fun x => x = some (anF (-1) (fun k => ownS ch law (N.1 88) (w * 24 + d + i) (nI k)) (psS ch law (N.1 88) (w * 24 + d) col H i) 64, N1)) ?_ ?_ (n := hN) (k := 0) (s := -1) (by omega) (hN_big (by omega)) rfl
        · intro K s hs
          have g : (64 : Int32) ≤ nI 64 := by decide
          simp only [B_Ps_ownersOnAll_1, g, ↓reduceIte, hs]
        · intro K k s hk hs
          right
          refine ⟨_, rfl, ?_⟩
          have g : ¬ (64 : Int32) ≤ nI k := nI_ge (b := 64) hk (by decide)
          by_cases q1 : psS ch law (N.1 88) (w * 24 + d) col H i k = true
          · simp only [B_Ps_ownersOnAll_1, g, ↓reduceIte, a5 k hk, q1, hbN_e, z, anF, hl_e, ← nI_succ]
            rw [ow k hk, hs]
          · have q1' : psS ch law (N.1 88) (w * 24 + d) col H i k = false := by simpa using q1
            simp only [B_Ps_ownersOnAll_1, g, ↓reduceIte, a5 k hk, q1', Bool.false_eq_true, hbN_e, anF, hs, ← nI_succ]
      have lead : F_Ps_stood c (nI w) (nI d) (nI H) col (nI i) some' N = (if some' = 0 then hbN (F_Ps_ownersOnAll c N1) fun r9 N8 => some (r9, N8) else hbN (F_Ps_ownersOnSome c N1) fun r11 N10 => some (r11, N10)) := by
        simp only [F_Ps_stood, (q N).1, hbN_e, z, ↓reduceIte, g0, g1, l1, F_Ps_timeOf, time_eq, a1, hvN_e]
      by_cases hany : anyF (psS ch law (N.1 88) (w * 24 + d) col H i) 64 = true
      · have t0 : ¬ nI (fb_sm (bhS ch law (N.1 88) (w * 24 + d) col H 0) 64) = 0 := nI_ne0 (mid.mpr hany) (by omega)
        -- the reference's loop
        have ml : F_Md_stood_1 c hN (nI i) some' (0 : Int32) (((1 : Int32) <<< (nI (nG ch) &&& 31)) - (1 : Int32)) (nI (64 * i)) N2 =
            some ((if some' = 0 then anF (((1 : Int32) <<< (nI (nG ch) &&& 31)) - (1 : Int32)) (fun k => ownS ch law (N.1 88) (w * 24 + d + i) (nI k)) (psS ch law (N.1 88) (w * 24 + d) col H i) 64 else orF (fun k => ownS ch law (N.1 88) (w * 24 + d + i) (nI k)) (psS ch law (N.1 88) (w * 24 + d) col H i) 64), N2) := by
          have e64 : ((64 : Int32) * nI i) + (64 : Int32) = nI (64 * i + 64) := by rw [show (64 : Int32) = nI 64 from rfl, nI_m, nI_a]
          refine it_wp (B := B_Md_stood_1 c) (z := fun _ _ _ _ _ _ => none) (fun K k (s : Int32 × Int32) => K (nI i) some' s.1 s.2 (nI (64 * i + k)) N2) 64 (fun k s => s.1 = orF (fun k => ownS ch law (N.1 88) (w * 24 + d + i) (nI k)) (psS ch law (N.1 88) (w * 24 + d) col H i) k ∧ s.2 = anF (((1 : Int32) <<< (nI (nG ch) &&& 31)) - (1 : Int32)) (fun k => ownS ch law (N.1 88) (w * 24 + d + i) (nI k)) (psS ch law (N.1 88) (w * 24 + d) col H i) k)
            (Q := fun x => x = some ((if some' = 0 then anF (((1 : Int32) <<< (nI (nG ch) &&& 31)) - (1 : Int32)) (fun k => ownS ch law (N.1 88) (w * 24 + d + i) (nI k)) (psS ch law (N.1 88) (w * 24 + d) col H i) 64 else orF (fun k => ownS ch law (N.1 88) (w * 24 + d + i) (nI k)) (psS ch law (N.1 88) (w * 24 + d) col H i) 64), N2)) ?_ ?_ (n := hN) (k := 0) (s := (0, ((1 : Int32) <<< (nI (nG ch) &&& 31)) - (1 : Int32))) (by omega) (hN_big (by omega)) ⟨rfl, rfl⟩
          · rintro K ⟨s1, s2⟩ ⟨i1, i2⟩
            dsimp only at i1 i2
            have g : nI (64 * i + 64) ≤ nI (64 * i + 64) := Int32.le_refl _
            simp only [B_Md_stood_1, e64, g, ↓reduceIte, i1, i2]
            split <;> rfl
          · rintro K k ⟨s1, s2⟩ hk ⟨i1, i2⟩
            dsimp only at i1 i2
            right
            have g : ¬ nI (64 * i + 64) ≤ nI (64 * i + k) := nI_ge (by omega) (by omega)
            have x1 : hn_ix 384 (nI (64 * i + k)) = true := ix_ok (by omega) (by decide)
            have c1 : (nI (64 * i + k)).toNatClampNeg = 64 * i + k := nI_lt31 (by omega)
            obtain ⟨d1, d2, d3⟩ := b3 i k hi hk
            have w1' := wk_le (M := mayS ch law (N.1 88) (w * 24 + d) col) i k hk
            have w2' := wk_le (M := fun n => mayS ch law (N.1 88) (w * 24 + d) col (H - 1 - n)) (H - 1 - i) k hk
            have p1 : 5 ^ i ≤ 5 ^ 5 := Nat.pow_le_pow_right (by decide) (by omega)
            have p2 : 5 ^ (H - 1 - i) ≤ 5 ^ 5 := Nat.pow_le_pow_right (by decide) (by omega)
            have pos : ∀ m, m ≤ 3125 → (nI m ≤ 0 ↔ ¬ 0 < m) := by
              intro m hm
              rw [show (0 : Int32) = nI 0 from rfl, nI_lei (by omega) (by decide)]; omega
            have ek : nI (64 * i + k) + (1 : Int32) = nI (64 * i + (k + 1)) := by rw [← nI_succ]; rfl
            by_cases q1 : 0 < wkN (mayS ch law (N.1 88) (w * 24 + d) col) i k
            · have n1 : ¬ nI (wkN (mayS ch law (N.1 88) (w * 24 + d) col) i k) ≤ 0 := fun z => (pos _ (by omega)).mp z q1
              have hm : mayS ch law (N.1 88) (w * 24 + d) col i k = true := by
                by_cases q9 : mayS ch law (N.1 88) (w * 24 + d) col i k = true
                · exact q9
                · cases i with
                  | zero => rw [wkN, if_neg q9] at q1; omega
                  | succ i => rw [wkN, if_neg q9] at q1; omega
              rw [hm, if_pos rfl] at d2
              by_cases q2 : 0 < bhS ch law (N.1 88) (w * 24 + d) col H i k
              · have n2 : ¬ nI (bhS ch law (N.1 88) (w * 24 + d) col H i k) ≤ 0 := fun z => (pos _ (by unfold bhS; omega)).mp z q2
                have ps : psS ch law (N.1 88) (w * 24 + d) col H i k = true := by unfold psS; unfold bhS at q2; simp [q1, q2]
                refine ⟨(s1 ||| ownS ch law (N.1 88) (w * 24 + d + i) (nI k), s2 &&& ownS ch law (N.1 88) (w * 24 + d + i) (nI k)), ⟨?_, ?_⟩, ?_⟩
                · rw [orF, if_pos ps, ← i1]
                · rw [anF, if_pos ps, ← i2]
                · simp only [B_Md_stood_1, e64, g, ↓reduceIte, x1, hg_T, c1, d1, d2, d3, n1, n2, hl_e, ek]
              · have n2 : nI (bhS ch law (N.1 88) (w * 24 + d) col H i k) ≤ 0 := (pos _ (by unfold bhS; omega)).mpr q2
                have ps : psS ch law (N.1 88) (w * 24 + d) col H i k = false := by unfold psS; unfold bhS at q2; simp [q2]
                refine ⟨(s1, s2), ⟨?_, ?_⟩, ?_⟩
                · rw [orF, ps]; simp [i1]
                · rw [anF, ps]; simp [i2]
                · simp only [B_Md_stood_1, e64, g, ↓reduceIte, x1, hg_T, c1, d1, d3, n1, n2, ek]
            · have n1 : nI (wkN (mayS ch law (N.1 88) (w * 24 + d) col) i k) ≤ 0 := (pos _ (by omega)).mpr q1
              have ps : psS ch law (N.1 88) (w * 24 + d) col H i k = false := by unfold psS; simp [q1]
              refine ⟨(s1, s2), ⟨?_, ?_⟩, ?_⟩
              · rw [orF, ps]; simp [i1]
              · rw [anF, ps]; simp [i2]
              · simp only [B_Md_stood_1, e64, g, ↓reduceIte, x1, hg_T, c1, d1, n1, ek]
        have e64' : (64 : Int32) * nI i = nI (64 * i) := by rw [show (64 : Int32) = nI 64 from rfl, nI_m]
        have mlead : F_Md_stood c (nI w) (nI d) (nI H) col (nI i) some' N1 = F_Md_stood_1 c hN (nI i) some' (0 : Int32) (((1 : Int32) <<< (nI (nG ch) &&& 31)) - (1 : Int32)) (nI (64 * i)) N2 := by
          simp only [F_Md_stood, hl_e, (q _).2, hbN_e, z, ↓reduceIte, eH, w1, b1, t0, guilds_ok, m3, e64']
        by_cases hs : some' = 0
        · refine ⟨anF (-1) (fun k => ownS ch law (N.1 88) (w * 24 + d + i) (nI k)) (psS ch law (N.1 88) (w * 24 + d) col H i) 64, N1, N2, ?_, ?_, b2⟩
          · rw [lead, if_pos hs, ca, hbN_e]
          · rw [mlead, ml, if_pos hs]
            congr 2
            apply b_ext
            intro j hj
            obtain ⟨p, p1, p2⟩ := anyF_iff.mp hany
            have iff : bt (anF (((1 : Int32) <<< (nI (nG ch) &&& 31)) - (1 : Int32)) (fun k => ownS ch law (N.1 88) (w * 24 + d + i) (nI k)) (psS ch law (N.1 88) (w * 24 + d) col H i) 64) j = true ↔ bt (anF (-1) (fun k => ownS ch law (N.1 88) (w * 24 + d + i) (nI k)) (psS ch law (N.1 88) (w * 24 + d) col H i) 64) j = true := by
              rw [bt_anF, bt_anF, bt_msk _ (by omega) j hj, b_m1 j hj]
              constructor
              · rintro ⟨-, r⟩; exact ⟨rfl, r⟩
              · rintro ⟨-, r⟩; exact ⟨by have := own_lt h hj (r p p1 p2); simpa using this, r⟩
            cases e1 : bt (anF (((1 : Int32) <<< (nI (nG ch) &&& 31)) - (1 : Int32)) (fun k => ownS ch law (N.1 88) (w * 24 + d + i) (nI k)) (psS ch law (N.1 88) (w * 24 + d) col H i) 64) j
            · cases e2 : bt (anF (-1) (fun k => ownS ch law (N.1 88) (w * 24 + d + i) (nI k)) (psS ch law (N.1 88) (w * 24 + d) col H i) 64) j
              · rfl
              · rw [iff.mpr e2] at e1; exact absurd e1 (by decide)
            · rw [iff.mp e1]
        · refine ⟨orF (fun k => ownS ch law (N.1 88) (w * 24 + d + i) (nI k)) (psS ch law (N.1 88) (w * 24 + d) col H i) 64, N1, N2, ?_, ?_, b2⟩
          · rw [lead, if_neg hs, cs, hbN_e, if_pos hany]
          · rw [mlead, ml, if_neg hs]
      · have hz : fb_sm (bhS ch law (N.1 88) (w * 24 + d) col H 0) 64 = 0 := by
          rcases Nat.eq_zero_or_pos (fb_sm (bhS ch law (N.1 88) (w * 24 + d) col H 0) 64) with e | e
          · exact e
          · exact absurd (mid.mp e) hany
        have hz' : nI (fb_sm (bhS ch law (N.1 88) (w * 24 + d) col H 0) 64) = 0 := by rw [hz]; rfl
        have hany' : anyF (psS ch law (N.1 88) (w * 24 + d) col H i) 64 = false := by simpa using hany
        have ea : anF (-1) (fun k => ownS ch law (N.1 88) (w * 24 + d + i) (nI k)) (psS ch law (N.1 88) (w * 24 + d) col H i) 64 = -1 := by
          apply b_ext
          intro j hj
          rw [b_m1 j hj, bt_anF]
          refine ⟨b_m1 j hj, fun p hp hs => absurd (anyF_iff.mpr ⟨p, hp, hs⟩) hany⟩
        refine ⟨-1, N1, N2, ?_, ?_, b2⟩
        · rw [lead, ca, cs, hany', ea, hbN_e, hbN_e]
          simp
        · simp only [F_Md_stood, hl_e, (q _).2, hbN_e, z, ↓reduceIte, eH, w1, b1, hz']
    · have w1 : F_Md_within c iv (0 : Int32) (nI (H - 1)) (hn_wI N 76 0 0) = some (0, _) := mdW_n (k := H - 1) (by omega) (by rw [show H - 1 + 1 = H by omega]; exact hi)
      refine ⟨-1, N, _, ?_, ?_, h.thr (v := 0)⟩
      · rcases inR_n (by omega) hi with r | ⟨r1, r2⟩
        · simp only [F_Ps_stood, (q N).1, hbN_e, z, ↓reduceIte, r]
        · have r3 : ¬ iv < nI H := fun e => absurd r2 (fa_of_lt e).2.1
          simp only [F_Ps_stood, (q N).1, hbN_e, z, ↓reduceIte, r1, r3]
      · simp only [F_Md_stood, hl_e, (q _).2, hbN_e, z, ↓reduceIte, eH, w1]
