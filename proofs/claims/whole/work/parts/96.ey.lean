/-! CHAPEL: a_chapel -/
theorem a_chapel {c : Nat} {ch : Nat → Int32} {law : Law} {N : hn} (h : RR c ch law N) (hlow : lowL ch law) :
    ∃ r N1 N2 ch' law', F_Ps_chapel c N = some (r, N1) ∧ F_Md_chapel c N1 = some (r, N2) ∧ RR (if r = 0 then 25 - c else c) ch' law' N2 ∧ lowL ch' law' := by
  have h0 := h
  obtain ⟨a1, a2, a3, ⟨a4, a5, a6⟩, a7, a8, a9, a10, ⟨n, n1, n2, n3, n4⟩, a12, a13⟩ := h
  have hcc : c = 5 ∨ c = 20 := a1
  obtain ⟨t, ht⟩ : ∃ t : Nat → Nat, t = fun i => (N.1 4 i).toNatClampNeg := ⟨_, rfl⟩
  have tt : ∀ i, i < n → N.1 4 i = nI (t i) ∧ t i < 128 ∧ N.1 77 i = nI (t i) := fun i hi => by
    obtain ⟨m, m1, m2, m3⟩ := n4 i hi
    have : t i = m := by rw [ht]; dsimp only; rw [m2]; exact nI_lt31 (by omega)
    rw [this]
    exact ⟨m2, by omega, m3⟩
  have hP : tapP t n N := ⟨n2, n1, fun i hi => ⟨(tt i hi).1, (tt i hi).2.1⟩⟩
  obtain ⟨a, Nf, M0, e1, e2, e3, e4, e5, e6, e7⟩ := read_ok hcc (M := N) hP n3 (fun i hi => (tt i hi).2.2) a13
  by_cases q : a = 0
  · subst q
    obtain ⟨i0, g0, p0, u1, u2, law0, u3, ud⟩ := e7 rfl
    obtain ⟨-, -, -, -, ⟨p1, -⟩, -, ⟨p12, -⟩, -⟩ := ud
    obtain ⟨X, hX⟩ : ∃ X : hn, X = eN0 (hn_wI Nf 19 3 (-1 : Int32)) := ⟨_, rfl⟩
    have X1 : X.1 = (hn_wI Nf 19 3 (-1 : Int32)).1 := by rw [hX]; rfl
    have X2 : ∀ b, b ≠ 35 → X.2 b = Nf.2 b := fun b hb => by
      funext k; rw [hX]; show (if b = 35 ∧ k < 2496 then 0 else Nf.2 b k) = _; rw [if_neg (fun y => hb y.1)]
    have X35 : ∀ k, k < 2496 → X.2 35 k = 0 := fun k hk => by rw [hX]; show (if 35 = 35 ∧ k < 2496 then 0 else Nf.2 35 k) = _; rw [if_pos ⟨rfl, hk⟩]
    obtain ⟨N4, f1, f2, f3, f4, f5, f6⟩ := hbeg_ok (c := 25 - c) (D := 25 - c) (p := p0) (N := X) (by omega) (by rw [X1, wI_o (by omega)]; exact p1) p12
    obtain ⟨N1, hN1⟩ : ∃ N1 : hn, N1 = hn_wI (hn_wI (hn_wI (hn_wI (hn_wI N4 40 2 (0 : Int32)) 40 3 (0 : Int32)) 43 2 (0 : Int32)) 43 3 (0 : Int32)) 1 9 (0 : Int32) := ⟨_, rfl⟩
    have cA : F_Ps_chapel c N = some (0, N1) := by
      simp only [F_Ps_chapel, e1, hbN_e, ↓reduceIte, ← hX, f1, hvN_e, F_History_forget, F_Rents_forget, hl_e, hN1]
    have hB : ∀ b k, b ≠ 1 → b ≠ 40 → b ≠ 43 → b ≠ 36 → b ≠ 37 → b ≠ 19 → N1.1 b k = Nf.1 b k := fun b k b1 b2 b3 b4 b5 b6 => by
      rw [hN1, wI_o b1, wI_o b3, wI_o b3, wI_o b2, wI_o b2, f2.1 b k (by first | omega | (dsimp only; omega)), X1, wI_o b6]
    have hL : N1.2 = X.2 := by
      funext b k
      rw [hN1, wI_2, wI_2, wI_2, wI_2, wI_2, f2.2 b k id]
    have hC : ∀ b k, 76 ≤ b → N1.1 b k = N.1 b k := fun b k hb => by
      rw [hB b k (by omega) (by omega) (by omega) (by omega) (by omega) (by omega), e3.1 b k (by unfold PS0; omega)]
    have hw1 : wordsR N1 := fun k hk => by
      rw [hL, X2 81 (by decide), e3.2 81 k (by unfold PL; omega)]; exact a13 k hk
    obtain ⟨a', Nf', M', e1', e2', e3', e4', e5', e6', e7'⟩ := read_ok hcc (M := N1) hP (by rw [hC 76 2 (by omega)]; exact n3) (fun i hi => by rw [hC 77 i (by omega)]; exact (tt i hi).2.2) hw1
    have ee : a' = 0 ∧ Nf' = Nf := by
      have := e1'.symm.trans e1
      simp only [Option.some.injEq, Prod.mk.injEq] at this
      exact this
    obtain ⟨rfl, rfl⟩ := ee
    obtain ⟨i, g, p, e, f, law', w1, wd⟩ := e7' rfl
    have pp : p = p0 := by
      have := p1.symm.trans wd.2.2.2.2.1.1
      exact ((nI_eqi (by omega) (by have := wd.2.2.2.2.2.2.1.1; omega)).mp this).symm
    subst pp
    obtain ⟨N2, k1, k2, k3, k4, k5, k6, k7, k8, k9⟩ := end5 (c := c) (M := M') (f := f) wd.2.2.2.2.2.2.2.1.2.2.2 (by have := wd.2.2.2.2.2.2.2.1.2.1; omega)
    rw [if_pos rfl] at e2'
    have hD : ∀ b k, b < 76 → N2.1 b k = N1.1 b k := fun b k hb => by
      rw [k2.1 b k (by unfold E5; omega), e4'.1 b k (by unfold MS0; omega)]
    have hL2 : ∀ b, b ≠ 80 → b ≠ 85 → N2.2 b = N1.2 b := fun b b1 b2 => by
      funext k
      rw [k2.2 b k id, e4'.2 b k (by unfold ML0; omega)]
    have fin := RR.told (c := 25 - c) (N2 := N2) a1.d wd w1
      (fun b k b1 b2 => by rw [hD b k (by omega), hB b k (by omega) (by omega) (by omega) (by omega) (by omega) (by omega)]) k9 k8
      (by rw [hD 19 3 (by omega), hN1, wI_o (by decide), wI_o (by decide), wI_o (by decide), wI_o (by decide), wI_o (by decide), f2.1 19 3 (by first | omega | (dsimp only; omega)), X1]; exact wI_s)
      (fun k hk => by rw [hL2 35 (by decide) (by decide), hL]; exact X35 k hk)
      ⟨by rw [hD 43 2 (by omega), hN1, wI_o (by decide), wI_n (by decide)]; exact wI_s, by rw [hD 43 3 (by omega), hN1, wI_o (by decide)]; exact wI_s⟩
      ⟨by rw [hD 36 5 (by omega), hN1, wI_o (by decide), wI_o (by decide), wI_o (by decide), wI_o (by decide), wI_o (by decide)]; exact f3,
       by rw [hD 36 1 (by omega), hN1, wI_o (by decide), wI_o (by decide), wI_o (by decide), wI_o (by decide), wI_o (by decide)]; exact f4,
       by rw [hD 36 2 (by omega), hN1, wI_o (by decide), wI_o (by decide), wI_o (by decide), wI_o (by decide), wI_o (by decide)]; exact f5⟩
      (fun q hq => by rw [hD 37 q (by omega), hN1, wI_o (by decide), wI_o (by decide), wI_o (by decide), wI_o (by decide), wI_o (by decide), f6 q hq, X1, wI_o (by omega)])
      k7 ⟨k5, k6⟩
      ⟨by rw [hD 40 2 (by omega), hN1, wI_o (by decide), wI_o (by decide), wI_o (by decide), wI_n (by decide)]; exact wI_s, by rw [hD 40 3 (by omega), hN1, wI_o (by decide), wI_o (by decide), wI_o (by decide)]; exact wI_s⟩
      k4 k3 (by rw [hD 1 9 (by omega), hN1]; exact wI_s)
      ⟨by rw [hD 3 1 (by omega), hB 3 1 (by omega) (by omega) (by omega) (by omega) (by omega) (by omega)]; exact e5, by rw [k2.1 76 2 (by unfold E5; omega)]; exact e6'⟩
      (by rw [k2.1 76 23 (by unfold E5; omega), e4'.1 76 23 (by unfold MS0; omega), hC 76 23 (by omega)]; exact a12)
      (fun k hk => by rw [hL2 81 (by decide) (by decide)]; exact hw1 k hk)
    exact ⟨0, N1, N2, _, law', cA, e2'.trans k1, by rw [if_pos rfl]; exact fin.1, fin.2⟩
  · obtain ⟨a', Nf', M', e1', e2', e3', e4', e5', e6', e7'⟩ := read_ok hcc (M := Nf) hP (by rw [e3.1 76 2 (by unfold PS0; omega)]; exact n3) (fun i hi => by rw [e3.1 77 i (by unfold PS0; omega)]; exact (tt i hi).2.2) (fun k hk => by rw [e3.2 81 k (by unfold PL; omega)]; exact a13 k hk)
    have ee : a' = a ∧ Nf' = Nf := by
      have := e1'.symm.trans e1
      simp only [Option.some.injEq, Prod.mk.injEq] at this
      exact this
    obtain ⟨rfl, rfl⟩ := ee
    rw [if_neg q] at e2'
    refine ⟨a', Nf', M', ch, law, ?_, e2', by rw [if_neg q]; exact h0.fault hlow e3 e4' e5 e6', hlow⟩
    simp only [F_Ps_chapel, e1, hbN_e, q, ↓reduceIte]
