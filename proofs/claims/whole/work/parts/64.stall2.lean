/-! answers: stall -/
theorem stall_md {c : Nat} {ch : Nat → Int32} {law : Law} {N : hn} (h : RR c ch law N) {w d H g : Nat} (hw : w < 52) (hd : d + H ≤ 24) (h1 : 1 ≤ H) (hg : g < 6) {v : Int32} (hv : v = -1 ∨ inR H v) :
    ∃ N', F_Md_stall_2 c hN (nI g) (nI w) (nI d) v (nI H) (0 : Int32) N = some ((if v = -1 then nI (cR (fun i => stS ch law (N.1 88) (w * 24 + d + i) g) H (H - 1) (plR (fun i => stS ch law (N.1 88) (w * 24 + d + i) g) H 0)) else nI (plR (fun i => stS ch law (N.1 88) (w * 24 + d + i) g) H v.toNatClampNeg)), N') ∧ RR c ch law N' := by
  obtain ⟨-, a2, -⟩ := id h
  obtain ⟨S, eS⟩ : ∃ S, S = fun i => stS ch law (N.1 88) (w * 24 + d + i) g := ⟨_, rfl⟩
  rw [← eS]
  have hS : ∀ i, ∃ k, k < 64 ∧ S i k = true := fun i => by rw [eS]; exact stS_some a2
  have bg : BIG = 1000000 := rfl
  have sc : ∀ X s : hn, RR c ch law X → off1 95 X s → RR c ch law s := fun X s hX ho => hX.qM ⟨fun b _ _ _ q => ho.1 b (by omega), fun k _ _ => by rw [ho.1 76 (by decide)], fun b _ => by rw [ho.2]⟩
  -- back from the last hour
  have l3 : ∀ X : hn, RR c ch law X → rsR S H (H - 1) X → ∃ N', F_Md_stall_3 c hN v (nI (H - 1) - (1 : Int32)) X = some ((if v = -1 then nI (cR S H (H - 1) (plR S H 0)) else nI (plR S H v.toNatClampNeg)), N') ∧ RR c ch law N' := by
    intro X hX hr
    refine it_wp (B := B_Md_stall_3 c) (z := fun _ _ _ => none) (fun K j (s : hn) => K v (nI (H - 1 - j) - (1 : Int32)) s) (H - 1)
      (fun j s => off1 95 X s ∧ rsR S H (H - 1 - j) s)
      (Q := fun x => ∃ N', x = some ((if v = -1 then nI (cR S H (H - 1) (plR S H 0)) else nI (plR S H v.toNatClampNeg)), N') ∧ RR c ch law N') ?_ ?_ (n := hN) (k := 0) (s := X) (by omega) (hN_big (by omega)) ⟨off1.refl, hr⟩
    · rintro K s ⟨i1, i2⟩
      rw [Nat.sub_self] at i2
      refine ⟨s, ?_, sc X s hX i1⟩
      have g0 : nI (H - 1 - (H - 1)) - (1 : Int32) < 0 := by rw [Nat.sub_self]; decide
      simp only [B_Md_stall_3, g0, ↓reduceIte]
      exact walk_md h1 (by omega) hS i2 hv
    · rintro K j s hj ⟨i1, i2⟩
      right
      obtain ⟨m, hm⟩ : ∃ m, H - 1 - j = m + 1 := ⟨H - 1 - j - 1, by omega⟩
      have e0 : nI (H - 1 - j) - (1 : Int32) = nI m := by rw [hm]; exact nI_pred m
      have e2 : H - 1 - (j + 1) = m := by omega
      have g0 : ¬ nI m < 0 := nI_nn (by omega)
      rw [hm] at i2
      have inner : ∃ s', F_Md_stall_4 c K hN v (nI m) (0 : Int32) s = K v (nI m + (-1 : Int32)) s' ∧ off1 95 s s' ∧ rsR S H m s' := by
        refine it_wp (B := B_Md_stall_4 c K) (z := fun _ _ _ _ => none) (fun K' k (s' : hn) => K' v (nI m) (nI k) s') 64
          (fun k s' => off1 95 s s' ∧ (∀ k', k' < 64 → s'.1 95 (64 * m + k') = rsV (S m k') (if k' < k then cR S H (H - 1 - m) k' else 0)) ∧ ∀ q, (q < 64 * m ∨ 64 * m + 64 ≤ q) → s'.1 95 q = s.1 95 q)
          (Q := fun x => ∃ s', x = K v (nI m + (-1 : Int32)) s' ∧ off1 95 s s' ∧ rsR S H m s') ?_ ?_ (n := hN) (k := 0) (s := s) (by omega) (hN_big (by omega)) ⟨off1.refl, fun k' hk' => by rw [i2 m k' (by omega) hk', if_neg (by omega), if_neg (by omega)], fun _ _ => rfl⟩
        · rintro K' s' ⟨j1, j2, j3⟩
          refine ⟨s', ?_, j1, ?_⟩
          · have g1 : (64 : Int32) ≤ nI 64 := by decide
            simp only [B_Md_stall_4, g1, ↓reduceIte]
          · intro i k hi hk
            by_cases e : i = m
            · subst e; rw [j2 k hk, if_pos hk, if_pos (Nat.le_refl _)]
            · rw [j3 _ (by omega), i2 i k hi hk]
              by_cases z : m + 1 ≤ i
              · rw [if_pos z, if_pos (by omega)]
              · rw [if_neg z, if_neg (by omega)]
        · rintro K' k s' hk ⟨j1, j2, j3⟩
          right
          have g1 : ¬ (64 : Int32) ≤ nI k := nI_ge (b := 64) hk (by decide)
          have e1 : ((64 : Int32) * nI m) + nI k = nI (64 * m + k) := by rw [show (64 : Int32) = nI 64 from rfl, nI_m, nI_a]
          have x1 : hn_ix 1536 (nI (64 * m + k)) = true := ix_ok (by omega) (by decide)
          have c1 : (nI (64 * m + k)).toNatClampNeg = 64 * m + k := nI_lt31 (by omega)
          have vk := j2 k hk
          rw [if_neg (Nat.lt_irrefl k)] at vk
          have er : H - 1 - m = (H - 1 - (m + 1)) + 1 := by omega
          have eS' : H - 1 - (H - 1 - (m + 1)) = m + 1 := by omega
          have ce : cR S H (H - 1 - m) k = mnF (S (m + 1)) (fun e => dst k e + cR S H (H - 1 - (m + 1)) e) 64 := by rw [er, cR, eS']
          have fin : ∀ x : Int32, x = rsV (S m k) (cR S H (H - 1 - m) k) → (off1 95 s (hn_wI s' 95 (64 * m + k) x) ∧ (∀ k', k' < 64 → (hn_wI s' 95 (64 * m + k) x).1 95 (64 * m + k') = rsV (S m k') (if k' < k + 1 then cR S H (H - 1 - m) k' else 0)) ∧ ∀ q, (q < 64 * m ∨ 64 * m + 64 ≤ q) → (hn_wI s' 95 (64 * m + k) x).1 95 q = s.1 95 q) := by
            intro x hx
            refine ⟨j1.trans off1.w, ?_, ?_⟩
            · intro k' hk'
              by_cases e : k' = k
              · subst e; rw [wI_s, if_pos (by omega), hx]
              · rw [wI_n (by omega), j2 k' hk']
                by_cases z : k' < k
                · rw [if_pos z, if_pos (by omega)]
                · rw [if_neg z, if_neg (by omega)]
            · intro q hq; rw [wI_n (by omega)]; exact j3 q hq
          by_cases q : S m k = true
          · have vk' : s'.1 95 (64 * m + k) = (0 : Int32) := by rw [vk, q]; rfl
            have g2 : (0 : Int32) < (100000000 : Int32) := by decide
            have lo := least_ok (c := c) (i := m) (k := k) (by omega) hk (S := S (m + 1)) (f := fun e => cR S H (H - 1 - (m + 1)) e) (N := s') (fun e he => by
              rw [j3 _ (by omega), i2 (m + 1) e (by omega) he, if_pos (Nat.le_refl _)]) (fun e he => by
              have a := cR_le (H := H) hS (H - 1 - (m + 1)) e he
              have b := dst_le hk he
              show dst k e + cR S H (H - 1 - (m + 1)) e < BIG
              omega) (hS (m + 1))
            rw [← ce] at lo
            refine ⟨_, fin (nI (cR S H (H - 1 - m) k)) (by rw [q]; rfl), ?_⟩
            simp only [B_Md_stall_4, B_Md_stall_5, g1, ↓reduceIte, e1, x1, hg_T, c1, vk', g2, lo, hbN_e, hl_e, ← nI_succ]
          · have q' : S m k = false := by simpa using q
            have vk' : s'.1 95 (64 * m + k) = (100000000 : Int32) := by rw [vk, q']; rfl
            have g2 : ¬ (100000000 : Int32) < (100000000 : Int32) := by decide
            refine ⟨_, fin 100000000 (by rw [q']; rfl), ?_⟩
            simp only [B_Md_stall_4, B_Md_stall_5, g1, ↓reduceIte, e1, x1, hg_T, c1, vk', g2, hl_e, ← nI_succ]
      obtain ⟨s', w1, w2, w3⟩ := inner
      refine ⟨s', ⟨i1.trans w2, by rw [e2]; exact w3⟩, ?_⟩
      show B_Md_stall_3 c K v (nI (H - 1 - j) - (1 : Int32)) s = K v (nI (H - 1 - (j + 1)) - (1 : Int32)) s'
      rw [e0, e2]
      simp only [B_Md_stall_3, g0, ↓reduceIte]
      rw [w1, Int32.sub_eq_add_neg]
  refine it_wp (B := B_Md_stall_2 c) (z := fun _ _ _ _ _ _ _ => none) (fun K i (s : hn) => K (nI g) (nI w) (nI d) v (nI H) (nI i) s) H
    (fun i s => RR c ch law s ∧ s.1 88 = N.1 88 ∧ ∀ j k, j < i → k < 64 → s.1 95 (64 * j + k) = rsV (S j k) 0)
    (Q := fun x => ∃ N', x = some ((if v = -1 then nI (cR S H (H - 1) (plR S H 0)) else nI (plR S H v.toNatClampNeg)), N') ∧ RR c ch law N') ?_ ?_ (n := hN) (k := 0) (s := N) (by omega) (hN_big (by omega)) ⟨h, rfl, fun j k hj => absurd hj (Nat.not_lt_zero j)⟩
  · rintro K s ⟨i1, i2, i3⟩
    have hr : rsR S H (H - 1) s := by
      intro i k hi hk
      rw [i3 i k hi hk]
      by_cases z : H - 1 ≤ i
      · rw [if_pos z, show H - 1 - i = 0 by omega]; rfl
      · rw [if_neg z]
    obtain ⟨N', w1, w2⟩ := l3 s i1 hr
    have g1 : nI H ≤ nI H := Int32.le_refl _
    have e2 : nI H - (2 : Int32) = nI (H - 1) - (1 : Int32) := by
      have : nI H = nI (H - 1) + 1 := by rw [← nI_succ]; congr 1; omega
      rw [this, Int32.sub_eq_add_neg, Int32.sub_eq_add_neg, Int32.add_assoc]; rfl
    refine ⟨N', ?_, w2⟩
    simp only [B_Md_stall_2, g1, ↓reduceIte, hl_e, e2]
    exact w1
  · rintro K i s hi ⟨i1, i2, i3⟩
    right
    have g1 : ¬ nI H ≤ nI i := nI_ge hi (by omega)
    have e1 : nI d + nI i = nI (d + i) := nI_a d i
    obtain ⟨N1, m1, m2, m3, m4, m5⟩ := may_ok i1 (w := w) (d := d) (i := i) (g := g) hw (by omega) hg
    rw [i2] at m3 m4
    refine ⟨N1, ⟨m2, m3, ?_⟩, ?_⟩
    · intro j k hj hk
      by_cases e : j = i
      · subst e; rw [m4 k hk, eS]
      · rw [m5 _ (by omega)]; exact i3 j k (by omega) hk
    · simp only [B_Md_stall_2, g1, ↓reduceIte, e1, m1, hvN_e, ← nI_succ]
theorem a_stall {c : Nat} {ch : Nat → Int32} {law : Law} {N : hn} (h : RR c ch law N) (vg vw vh vl v : Int32) : alike c ch law (F_Ps_stall c vg vw vh vl v) (F_Md_stall c vg vw vh vl v) N := by
  obtain ⟨hP, hG, -, -, -, -, -, p3⟩ := h.P
  have z : ¬ (1 : Int32) = 0 := by decide
  have hX := h.thr (v := 0)
  obtain ⟨-, -, -, -, -, x3, -, -⟩ := hX.P
  by_cases hgi : inR (nG ch) vg
  · obtain ⟨g, hg0, rfl⟩ := hgi
    by_cases ht : inR 52 vw ∧ inR 24 vh
    · obtain ⟨⟨w, hw, rfl⟩, ⟨d, hd, rfl⟩⟩ := ht
      by_cases hl : inR 24 vl
      · obtain ⟨l, hl, rfl⟩ := hl
        by_cases hdl : d ≤ l
        · have g1 : nI d ≤ nI l := nI_le hdl (by omega)
          have g2 : ¬ nI l < nI d := nI_nlt hdl (by omega)
          have g3 : ¬ (23 : Int32) < nI l := nI_nlt (a := 23) (by omega) (by decide)
          have wl : ∀ X, F_Md_within c (nI l) (nI d) (23 : Int32) X = some (1, X) := fun X => by simp only [F_Md_within, g2, g3, ↓reduceIte]
          have es : nI l - nI d = nI (l - d) := nI_s hdl
          have eH : nI (l - d) + (1 : Int32) = nI (l - d + 1) := (nI_succ _).symm
          by_cases hv : v = -1 ∨ inR (l - d + 1) v
          · obtain ⟨x, lx1, lx2⟩ := lit_ok h
            have hb : ∀ i, i < 32 → bt (bitsF (fun p => decide (N.1 88 p = nI g)) (nP ch) &&& x) i = (decide (i < nP ch) && (decide (N.1 88 i = nI g) && !bt (N.1 88 12) i)) := by
              intro i hi
              rw [b_and, bt_bitsF (by omega) hi, lx2 i hi]
              by_cases q : i < nP ch
              · simp [q]
              · simp [q]
            obtain ⟨N1, f1, f2, f3, f4, f5⟩ := find_ok h (t := w * 24 + d) (H := l - d + 1) (g := g) (by omega) (by omega) (by omega) (by omega) hb
            have hX1 := f2.thr (v := 0)
            obtain ⟨-, -, -, -, -, y3, -, -⟩ := hX1.P
            obtain ⟨N2, m1, m2⟩ := stall_md hX1 (w := w) (d := d) (H := l - d + 1) (g := g) hw (by omega) (by omega) (by omega) hv
            rw [wI_o (by decide), f3] at m1
            have n1 : ¬ v < (-1 : Int32) := by
              rcases hv with rfl | ⟨k, hk, rfl⟩
              · decide
              · intro e
                rw [fa_lt, nI_toInt (by omega)] at e
                have : (-1 : Int32).toInt = -1 := by decide
                omega
            have n2 : v < nI (l - d + 1) := by
              rcases hv with rfl | ⟨k, hk, rfl⟩
              · rw [fa_lt, nI_toInt (by omega)]
                have : (-1 : Int32).toInt = -1 := by decide
                omega
              · exact nI_lt hk (by omega)
            have mw : v = -1 ∨ F_Md_within c v (0 : Int32) (nI (l - d)) (hn_wI N1 76 0 0) = some (1, hn_wI N1 76 0 0) := by
              rcases hv with q | ⟨k, hk, rfl⟩
              · exact Or.inl q
              · exact Or.inr (mdW_y (k := l - d) (by omega) hk)
            have mlead : F_Md_stall c (nI g) (nI w) (nI d) (nI l) v N1 = F_Md_stall_2 c hN (nI g) (nI w) (nI d) v (nI (l - d + 1)) (0 : Int32) (hn_wI N1 76 0 0) := by
              by_cases q : v = -1
              · simp only [F_Md_stall, hl_e, mdG_y (show nG ch < 2147483648 by omega) hg0 y3, hbN_e, z, ↓reduceIte, mdT_y hw hd, wl, q, B_Md_stall_1, es, eH]
              · simp only [F_Md_stall, hl_e, mdG_y (show nG ch < 2147483648 by omega) hg0 y3, hbN_e, z, ↓reduceIte, mdT_y hw hd, wl, q, es, mw.resolve_left q, B_Md_stall_1, eH]
            have plead : F_Ps_stall c (nI g) (nI w) (nI d) (nI l) v N = (if v = (-1 : Int32) then some ((N1.1 51 3), N1) else hg (hn_ix 24 v = true) <| some ((N1.1 54 v.toNatClampNeg), N1)) := by
              simp only [F_Ps_stall, psG_y (show nG ch < 2147483648 by omega) hg0 p3, hbN_e, z, ↓reduceIte, psT_y hw hd, psT_y hw hl, g1, es, eH, hl_e, n1, n2, panesOf_ok, bitsF_own h (show g < 2147483648 by omega), lx1, F_Ps_timeOf, time_eq, f1, hvN_e]
            refine ⟨_, N1, N2, ?_, by rw [mlead]; exact m1, m2⟩
            rw [plead]
            rcases hv with rfl | ⟨k, hk, rfl⟩
            · rw [if_pos rfl, if_pos rfl, f4]
            · have nm : ¬ nI k = (-1 : Int32) := nI_nm (by omega)
              rw [if_neg nm, if_neg nm, nI_lt31 (by omega), hg_pos (ix_ok (n := 24) (by omega) (by decide)), f5 k hk]
          · have n0 : ¬ v = -1 := fun e => hv (Or.inl e)
            have nr : ¬ inR (l - d + 1) v := fun e => hv (Or.inr e)
            have wv : F_Md_within c v (0 : Int32) (nI (l - d)) (hn_wI N 76 0 0) = some (0, _) := mdW_n (k := l - d) (by omega) nr
            refine ⟨-1, N, _, ?_, ?_, hX⟩
            · rcases inR_n (by omega) nr with r | ⟨r1, r2⟩
              · have n1 : v < (-1 : Int32) := by
                  rw [fa_lt] at r ⊢
                  have a1 : (-1 : Int32).toInt = -1 := by decide
                  have a2 : (0 : Int32).toInt = 0 := by decide
                  have a3 : v.toInt ≠ -1 := fun e => n0 ((fa_eq _ _).mpr (by rw [e, a1]))
                  omega
                simp only [F_Ps_stall, psG_y (show nG ch < 2147483648 by omega) hg0 p3, hbN_e, z, ↓reduceIte, psT_y hw hd, psT_y hw hl, g1, es, eH, hl_e, n1]
              · have n1 : ¬ v < (-1 : Int32) := by
                  intro e
                  rw [fa_lt] at r1 e
                  have a1 : (-1 : Int32).toInt = -1 := by decide
                  have a2 : (0 : Int32).toInt = 0 := by decide
                  omega
                have n2 : ¬ v < nI (l - d + 1) := fun e => absurd r2 (fa_of_lt e).2.1
                simp only [F_Ps_stall, psG_y (show nG ch < 2147483648 by omega) hg0 p3, hbN_e, z, ↓reduceIte, psT_y hw hd, psT_y hw hl, g1, es, eH, hl_e, n1, n2]
            · simp only [F_Md_stall, hl_e, mdG_y (show nG ch < 2147483648 by omega) hg0 x3, hbN_e, z, ↓reduceIte, mdT_y hw hd, wl, n0, es, wv]
        · have g1 : ¬ nI d ≤ nI l := nI_ge (by omega) (by omega)
          have g2 : nI l < nI d := nI_lt (by omega) (by omega)
          refine ⟨-1, N, _, ?_, ?_, hX⟩
          · simp only [F_Ps_stall, psG_y (show nG ch < 2147483648 by omega) hg0 p3, hbN_e, z, ↓reduceIte, psT_y hw hd, psT_y hw hl, g1]
          · simp only [F_Md_stall, hl_e, mdG_y (show nG ch < 2147483648 by omega) hg0 x3, hbN_e, z, ↓reduceIte, mdT_y hw hd, F_Md_within, g2]
      · have tn : ¬ (inR 52 (nI w) ∧ inR 24 vl) := fun e => hl e.2
        refine ⟨-1, N, _, ?_, ?_, hX⟩
        · simp only [F_Ps_stall, psG_y (show nG ch < 2147483648 by omega) hg0 p3, hbN_e, z, ↓reduceIte, psT_y hw hd, psT_n tn]
        · rcases inR_n (by decide) hl with r | ⟨r1, r2⟩
          · have g2 : vl < nI d := by
              rw [fa_lt] at r ⊢
              rw [nI_toInt (by omega)]
              have a2 : (0 : Int32).toInt = 0 := by decide
              omega
            simp only [F_Md_stall, hl_e, mdG_y (show nG ch < 2147483648 by omega) hg0 x3, hbN_e, z, ↓reduceIte, mdT_y hw hd, F_Md_within, g2]
          · have g2 : ¬ vl < nI d := by
              intro e
              rw [fa_lt, nI_toInt (by omega)] at e
              rw [fa_le, nI_toInt (by decide)] at r2
              omega
            have g3 : (23 : Int32) < vl := by
              rw [fa_le, nI_toInt (by decide)] at r2
              rw [fa_lt]
              have a2 : (23 : Int32).toInt = 23 := by decide
              omega
            simp only [F_Md_stall, hl_e, mdG_y (show nG ch < 2147483648 by omega) hg0 x3, hbN_e, z, ↓reduceIte, mdT_y hw hd, F_Md_within, g2, g3]
    · refine ⟨-1, N, _, ?_, ?_, hX⟩
      · simp only [F_Ps_stall, psG_y (show nG ch < 2147483648 by omega) hg0 p3, hbN_e, z, ↓reduceIte, psT_n ht]
      · simp only [F_Md_stall, hl_e, mdG_y (show nG ch < 2147483648 by omega) hg0 x3, hbN_e, z, ↓reduceIte, mdT_n ht]
  · refine ⟨-1, N, _, ?_, ?_, hX⟩
    · simp only [F_Ps_stall, psG_n (show nG ch < 2147483648 by omega) hgi p3, hbN_e, ↓reduceIte]
    · simp only [F_Md_stall, hl_e, mdG_n (show nG ch < 2147483648 by omega) hgi x3, hbN_e, ↓reduceIte]
