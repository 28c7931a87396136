/-! answers: best -/
def bsS (ch : Nat → Int32) (law : Law) (st : Nat → Int32) (v : Int32) : Int32 :=
  if v = -1 then nI (Vf (gG ch law st) 12 (L0 (nP ch))) else nI (chS (gG ch law st) (nP ch) (nP ch) 0 (L0 (nP ch)) (fun _ => 0) v.toNatClampNeg)
theorem best_md {c : Nat} {ch : Nat → Int32} {law : Law} {N : hn} (h : RR c ch law N) (hY : ∀ q, q < nP ch → N.1 91 q = Yd ch law (N.1 88) q) {v : Int32} (hv : v = -1 ∨ inR (nP ch) v) :
    ∃ N', F_Md_best_2 c hN v (0 : Int32) N = some (bsS ch law (N.1 88) v, N') ∧ RR c ch law N' := by
  have hP := h.P.1
  refine it_wp (B := B_Md_best_2 c) (z := fun _ _ _ => none) (fun K k (s : hn) => K v (nI k) s) 12
    (fun k s => tqR N s ∧ ∀ i, i < k → s.1 92 i = -1)
    (Q := fun x => ∃ N', x = some (bsS ch law (N.1 88) v, N') ∧ RR c ch law N') ?_ ?_ (n := hN) (k := 0) (s := N) (Nat.zero_le _) (hN_big (by omega)) ⟨⟨offM.refl, rfl⟩, fun i hi => absurd hi (Nat.not_lt_zero i)⟩
  · rintro K s ⟨i1, i2⟩
    have g : (12 : Int32) ≤ nI 12 := by decide
    obtain ⟨s', d1, d2, d3, d4⟩ := tries_ok h hY rfl (nP ch) 0 hD (L0 (nP ch)) (fun _ => 0) 0 0 (hn_wI s 76 28 (-1 : Int32)) (by omega) (show nP ch < 20 by omega)
      (fun k hk => ⟨Nat.zero_le _, of_decide_eq_true hk⟩) (fun _ => by omega) i1.w28
      (fun k hk => by rw [wI_o (by decide), i2 k (by omega)]; simp [L0, hk]) (by rw [wI_s]; decide) (by omega) (by omega)
    obtain ⟨f1, f2⟩ := d4.1 (Nat.zero_le _)
    rw [Nat.zero_add] at f1
    have hr := h.qM d2.1
    have d1' : F_Md_tries c hD (0 : Int32) (0 : Int32) (hn_wI s 76 28 (-1 : Int32)) = some s' := d1
    rcases hv with rfl | ⟨k, hk, rfl⟩
    · refine ⟨s', ?_, hr⟩
      simp only [B_Md_best_2, g, ↓reduceIte, hl_e, d1', hvN_e, f1, bsS]
    · have nm : ¬ nI k = (-1 : Int32) := nI_nm (by omega)
      have x1 : hn_ix 12 (nI k) = true := ix_ok (by omega) (by decide)
      have c1 : (nI k).toNatClampNeg = k := nI_lt31 (by omega)
      refine ⟨s', ?_, hr⟩
      simp only [B_Md_best_2, g, ↓reduceIte, hl_e, d1', hvN_e, nm, x1, hg_T, c1, f2 k hk, bsS]
  · rintro K k s hk ⟨i1, i2⟩
    right
    have g : ¬ (12 : Int32) ≤ nI k := nI_ge (b := 12) hk (by decide)
    have x1 : hn_ix 12 (nI k) = true := ix_ok (by omega) (by decide)
    have c1 : (nI k).toNatClampNeg = k := nI_lt31 (by omega)
    refine ⟨hn_wI s 92 k (-1 : Int32), ⟨i1.w (by omega), ?_⟩, by simp only [B_Md_best_2, g, ↓reduceIte, x1, hg_T, c1, hl_e, ← nI_succ]⟩
    intro i hi
    by_cases q : i = k
    · subst q; rw [wI_s]
    · rw [wI_n q]; exact i2 i (by omega)
theorem a_best {c : Nat} {ch : Nat → Int32} {law : Law} {N : hn} (h : RR c ch law N) (v : Int32) : alike c ch law (F_Ps_best c v) (F_Md_best c v) N := by
  obtain ⟨hP, -, -, -, -, -, p4, -⟩ := h.P
  have z : ¬ (1 : Int32) = 0 := by decide
  by_cases hv : v = -1 ∨ inR (nP ch) v
  · obtain ⟨y, N1, b1, b2, b3, b4, b5⟩ := h.year
    have o88 : N1.1 88 = N.1 88 := b4.1 88 (by omega)
    obtain ⟨N3, d1, d2, d3, d4, d5⟩ := settle_ok b3 b2 (fun q hq => by rw [o88]; exact b5 q hq) (fun _ => 0)
    have hX := d2.thr (v := 0)
    obtain ⟨-, -, -, -, x4, -, -, -⟩ := hX.P
    obtain ⟨N4, e1, e2, e3, e4⟩ := hX.myear
    have q88 : (hn_wI N3 76 0 0).1 88 = N.1 88 := by rw [wI_o (by decide), d3, o88]
    have r88 : N4.1 88 = N.1 88 := by rw [e3.1 88 (by decide) (by decide) (by decide) (by decide)]; exact q88
    rw [q88] at e4
    obtain ⟨N5, f1, f2⟩ := best_md e2 (fun q hq => by rw [r88]; exact e4 q hq) hv
    rw [r88] at f1
    rw [o88] at d4 d5
    refine ⟨bsS ch law (N.1 88) v, N3, N5, ?_, ?_, f2⟩
    · rcases hv with rfl | ⟨k, hk, rfl⟩
      · simp only [F_Ps_best, B_Ps_best_1, ↓reduceIte, b1, hbN_e, d1, hvN_e, d4, bsS]
      · have nm : ¬ nI k = (-1 : Int32) := nI_nm (by omega)
        have x1 : hn_ix 12 (nI k) = true := ix_ok (by omega) (by decide)
        have c1 : (nI k).toNatClampNeg = k := nI_lt31 (by omega)
        simp only [F_Ps_best, B_Ps_best_1, nm, ↓reduceIte, psP_y (show nP ch < 2147483648 by omega) hk p4, z, b1, hbN_e, d1, hvN_e, x1, hg_T, c1, d5 k hk, bsS]
    · rcases hv with rfl | ⟨k, hk, rfl⟩
      · simp only [F_Md_best, B_Md_best_1, hl_e, ↓reduceIte, e1, hvN_e, f1]
      · have nm : ¬ nI k = (-1 : Int32) := nI_nm (by omega)
        simp only [F_Md_best, B_Md_best_1, hl_e, nm, ↓reduceIte, mdP_y (show nP ch < 2147483648 by omega) hk x4, hbN_e, z, e1, hvN_e, f1]
  · have hX := h.thr (v := 0)
    obtain ⟨-, -, -, -, x4, -, -, -⟩ := hX.P
    have n1 : ¬ v = -1 := fun e => hv (Or.inl e)
    have n2 : ¬ inR (nP ch) v := fun e => hv (Or.inr e)
    refine ⟨-1, N, hn_wI N 76 0 0, ?_, ?_, hX⟩
    · simp only [F_Ps_best, n1, ↓reduceIte, psP_n (show nP ch < 2147483648 by omega) n2 p4, hbN_e]
    · simp only [F_Md_best, hl_e, n1, ↓reduceIte, mdP_n (show nP ch < 2147483648 by omega) n2 x4, hbN_e]
