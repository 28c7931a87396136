/-! CHAPEL: both sides alike -/
def lowL (ch : Nat → Int32) (law : Law) : Prop := ∀ k, k < 4 → ∀ l, law k = some l → ∃ i, ch (65 + k) = nI i ∧ i + l.length < 1100
theorem RR.fault {c : Nat} {ch : Nat → Int32} {law : Law} {N N1 N2 : hn} (h : RR c ch law N) (hlow : lowL ch law) (h1 : fr (PS0 (25 - c)) (PL (25 - c)) N N1) (h2 : fr MS0 ML0 N1 N2) (h31 : N1.1 3 1 = 0) (h762 : N2.1 76 2 = 0) : RR c ch law N2 := by
  obtain ⟨a1, a2, a3, ⟨a4, a5, a6⟩, a7, a8, a9, a10, a11, a12, a13⟩ := h
  have hcc : c = 5 ∨ c = 20 := a1
  have o : ∀ b, ¬ PS0 (25 - c) b 0 → (b < 76 ∨ b = 88 ∨ b = 89) → N2.1 b = N.1 b := fun b q1 q2 => by
    funext k
    rw [h2.1 b k (by unfold MS0; omega), h1.1 b k (by unfold PS0 at q1 ⊢; omega)]
  have q2 : ∀ b, b ≠ 80 → b ≠ 85 → b ≠ 3 → b ≠ 25 - c + 1 → N2.2 b = N.2 b := fun b w1 w2 w3 w4 => by
    funext k
    rw [h2.2 b k (by unfold ML0; omega), h1.2 b k (by unfold PL; omega)]
  have o76 : ∀ k, k = 21 ∨ k = 23 → N2.1 76 k = N.1 76 k := fun k q => by
    rw [h2.1 76 k (by unfold MS0; omega), h1.1 76 k (by unfold PS0; omega)]
  have o82 : ∀ k, k < 80 → N2.1 82 k = N.1 82 k := fun k q => by
    rw [h2.1 82 k (by unfold MS0; omega), h1.1 82 k (by unfold PS0; omega)]
  have o8 : ∀ b k, (b = 83 ∨ b = 84) → k < 1100 → N2.1 b k = N.1 b k := fun b k q w => by
    rw [h2.1 b k (by unfold MS0; omega), h1.1 b k (by unfold PS0; omega)]
  have ps : ∀ b, b ≠ 2 → b ≠ 3 → ¬ (25 - c ≤ b ∧ b ≤ 25 - c + 13) → ¬ PS0 (25 - c) b 0 := fun b _ _ _ => by unfold PS0; omega
  refine ⟨a1, a2, a3, ⟨a4.off a1 (fun b q1 q2 => o b (ps b (by omega) (by omega) (by omega)) (by omega)), ⟨?_, ?_⟩, a6.off (o _ (ps _ (by omega) (by omega) (by omega)) (by omega)) (o _ (ps _ (by omega) (by omega) (by omega)) (by omega)) (o _ (ps _ (by omega) (by omega) (by omega)) (by omega))⟩, ⟨?_, ?_⟩,
    a8.off (o _ (ps _ (by omega) (by omega) (by omega)) (by omega)) (o _ (ps _ (by omega) (by omega) (by omega)) (by omega)) (o _ (ps _ (by omega) (by omega) (by omega)) (by omega)) (o _ (ps _ (by omega) (by omega) (by omega)) (by omega)) (o _ (ps _ (by omega) (by omega) (by omega)) (by omega)),
    a9.off (o _ (ps _ (by omega) (by omega) (by omega)) (by omega)) (o _ (ps _ (by omega) (by omega) (by omega)) (by omega)) (o _ (ps _ (by omega) (by omega) (by omega)) (by omega)) (o76 21 (by omega)) (o _ (ps _ (by omega) (by omega) (by omega)) (by omega)),
    a10.off (o _ (ps _ (by omega) (by omega) (by omega)) (by omega)) (fun b b1 b2 => o _ (ps _ (by omega) (by omega) (by omega)) (by omega)) (o _ (ps _ (by omega) (by omega) (by omega)) (by omega)) (o _ (ps _ (by omega) (by omega) (by omega)) (by omega)),
    ⟨0, by omega, ?_, h762, fun i hi => by omega⟩, by rw [o76 23 (by omega)]; exact a12, ?_⟩
  · unfold yrP; rw [q2 35 (by decide) (by decide) (by decide) (by omega)]; exact a5.1
  · unfold atT; rw [o 19 (ps _ (by omega) (by omega) (by omega)) (by omega), o 34 (ps _ (by omega) (by omega) (by omega)) (by omega), o (c + 13) (ps _ (by omega) (by omega) (by omega)) (by omega)]; exact a5.2
  · intro k hk; rw [o82 k hk]; exact a7.1 k hk
  · intro k hk
    have := a7.2 k hk
    cases e : law k with
    | none => rw [e] at this; show N2.1 82 (65 + k) = -1; rw [o82 _ (by omega)]; exact this
    | some l =>
      rw [e] at this
      obtain ⟨i, i1, i2, i3, i4⟩ := this
      obtain ⟨i', j1, j2⟩ := hlow k hk l e
      have ei : i = i' := by
        have : nI i = nI i' := by rw [← i1, a7.1 (65 + k) (by omega), j1]
        exact (nI_eqi (by omega) (by omega)).mp this
      subst ei
      show ∃ i, N2.1 82 (65 + k) = nI i ∧ segM N2 i l
      refine ⟨i, by rw [o82 _ (by omega)]; exact i1, fun j hj => ?_, ?_, i4⟩
      · rw [o8 83 _ (by omega) (by omega), o8 84 _ (by omega) (by omega)]; exact i2 j hj
      · rw [o8 83 _ (by omega) (by omega)]; exact i3
  · rw [h2.1 3 1 (by unfold MS0; omega)]; exact h31
  · intro k hk
    rw [q2 81 (by decide) (by decide) (by decide) (by omega)]; exact a13 k hk
theorem RR.told {c n i g p e f : Nat} {t : Nat → Nat} {law : Law} {Nf M' N2 : hn} (hc : isChap c) (hd : dX t n c i g p e f law Nf M') (hi : i ≤ 1000)
    (hA : ∀ b k, c ≤ b → b ≤ c + 13 → N2.1 b k = Nf.1 b k) (h82 : ∀ k, k < 80 → N2.1 82 k = M'.1 82 (80 + k)) (h8 : ∀ j, j < f → N2.1 83 j = M'.1 83 (1100 + j) ∧ N2.1 84 j = M'.1 84 (1100 + j))
    (h19 : N2.1 19 3 = -1) (h35 : ∀ k, k < 2496 → N2.2 35 k = 0) (h43 : N2.1 43 2 = 0 ∧ N2.1 43 3 = 0) (h36 : N2.1 36 5 = nI p ∧ N2.1 36 1 = 0 ∧ N2.1 36 2 = 0)
    (h37 : ∀ q, q < 12 → N2.1 37 q = if q < p then Nf.1 (c + 6) q else -1) (h88 : ∀ q, q < 12 → N2.1 88 q = M'.1 82 (99 + 4 * q)) (h812 : N2.1 88 12 = 0 ∧ N2.1 88 13 = 0) (h40 : N2.1 40 2 = 0 ∧ N2.1 40 3 = 0) (h21 : N2.1 76 21 = 0)
    (h89 : ∀ m, m < 4 → N2.1 89 m = 0) (h19' : N2.1 1 9 = 0) (ht : N2.1 3 1 = 0 ∧ N2.1 76 2 = 0) (h23 : N2.1 76 23 = 0) (hw : wordsR N2) :
    RR c (fun k => M'.1 82 (80 + k)) law N2 ∧ lowL (fun k => M'.1 82 (80 + k)) law := by
  obtain ⟨⟨w, w1, w2, w3, w4⟩, ⟨d, d1, d2, d3, d4⟩, ⟨cl, -, l2, l3, l4⟩, ⟨g1, g2⟩, ⟨p1, p2⟩, ⟨g6, gu⟩, ⟨p12, pa⟩, ⟨e1, e2, e3, e4⟩, td, lw⟩ := hd
  have hcc : c = 5 ∨ c = 20 := hc
  obtain ⟨ch, hch⟩ : ∃ ch : Nat → Int32, ch = fun k => M'.1 82 (80 + k) := ⟨_, rfl⟩
  rw [← hch]
  have c0 : ch 0 = nI w := by rw [hch]; exact w4
  have c1 : ch 1 = nI d := by rw [hch]; exact d4
  have c2 : ch 2 = nI cl := by rw [hch]; exact l4
  have c3 : ch 3 = nI g := by rw [hch]; exact g2
  have c4 : ch 4 = nI p := by rw [hch]; exact p2
  have nw : nW ch = w := by unfold nW; rw [c0]; exact nI_lt31 (by omega)
  have nd : nD ch = d := by unfold nD; rw [c1]; exact nI_lt31 (by omega)
  have nc : nC ch = cl := by unfold nC; rw [c2]; exact nI_lt31 (by omega)
  have ng : nG ch = g := by unfold nG; rw [c3]; exact nI_lt31 (by omega)
  have np : nP ch = p := by unfold nP; rw [c4]; exact nI_lt31 (by omega)
  have cp : ∀ q a, 97 ≤ a → a ≤ 100 → ch (a - 80 + 4 * q) = M'.1 82 (a + 4 * q) := fun q a _ _ => by rw [hch]; exact congrArg _ (by omega)
  have cg : ∀ q a, 85 ≤ a → a ≤ 86 → ch (a - 80 + 2 * q) = M'.1 82 (a + 2 * q) := fun q a _ _ => by rw [hch]; exact congrArg _ (by omega)
  have ck : ∀ k, ch (65 + k) = M'.1 82 (145 + k) := fun k => by rw [hch]; exact congrArg _ (by omega)
  refine ⟨⟨hc, ?_, ?_, ⟨?_, ⟨?_, Or.inl h19⟩, ?_⟩, ⟨?_, ?_⟩, ?_, ?_, ?_, ⟨0, by omega, ht.1, ht.2, fun i hi => by omega⟩, h23, hw⟩, ?_⟩
  · unfold chOK
    rw [nw, nd, nc, ng, np]
    refine ⟨⟨c0, w1, w2⟩, ⟨c1, d1, d2⟩, ⟨c2, l2⟩, ⟨c3, g6⟩, ⟨c4, p12⟩, fun q hq => ?_, fun q hq => ?_⟩
    · obtain ⟨a, b, o, k, z1, z2, z3, z4, y1, y2, y3, y4, y5, y6, y7, y8⟩ := pa q hq
      exact ⟨⟨a, z1, (cp q 97 (by omega) (by omega)).trans y2⟩, ⟨b, z2, (cp q 98 (by omega) (by omega)).trans y4⟩, ⟨o, z3, (cp q 99 (by omega) (by omega)).trans y6⟩, ⟨k, z4, (cp q 100 (by omega) (by omega)).trans y8⟩⟩
    · obtain ⟨a, b, o, z1, z2, z3, y1, y2, y3, y4, -⟩ := gu q hq
      exact ⟨⟨a, z1, (cg q 85 (by omega) (by omega)).trans y2⟩, ⟨b, z2, (cg q 86 (by omega) (by omega)).trans y4⟩⟩
  · intro k hk l hl
    exact ⟨((lw k hk).1 l hl).1, ((lw k hk).1 l hl).2.1⟩
  · refine ⟨fun k hk => ?_, fun q hq => ?_, fun q hq => ?_, fun k hk => ?_⟩
    · rw [hA c k (by omega) (by omega)]
      have k' : k = 0 ∨ k = 1 ∨ k = 2 ∨ k = 3 ∨ k = 4 := by omega
      rcases k' with rfl | rfl | rfl | rfl | rfl
      · rw [w3, c0]
      · rw [d3, c1]
      · rw [l3, c2]
      · rw [g1, c3]
      · rw [p1, c4]
    · rw [np] at hq
      obtain ⟨a, b, o, k, z1, z2, z3, z4, y1, y2, y3, y4, y5, y6, y7, y8⟩ := pa q hq
      refine ⟨?_, ?_, ?_⟩
      · rw [hA _ _ (by omega) (by omega), y1]; exact (y2.symm.trans (cp q 97 (by omega) (by omega)).symm)
      · rw [hA _ _ (by omega) (by omega), y3]; exact (y4.symm.trans (cp q 98 (by omega) (by omega)).symm)
      · rw [hA _ _ (by omega) (by omega), y7]; exact (y8.symm.trans (cp q 100 (by omega) (by omega)).symm)
    · rw [ng] at hq
      obtain ⟨a, b, o, z1, z2, z3, y1, y2, y3, y4, -⟩ := gu q hq
      refine ⟨?_, ?_⟩
      · rw [hA _ _ (by omega) (by omega), y1]; exact (y2.symm.trans (cg q 85 (by omega) (by omega)).symm)
      · rw [hA _ _ (by omega) (by omega), y3]; exact (y4.symm.trans (cg q 86 (by omega) (by omega)).symm)
    · cases el : law k with
      | none =>
        obtain ⟨z1, z2, -⟩ := (lw k hk).2 el
        show N2.1 (c + 10) k = nI 0 ∧ N2.1 (c + 11) k = nI 0
        rw [hA _ _ (by omega) (by omega), hA _ _ (by omega) (by omega)]; exact ⟨z1, z2⟩
      | some l =>
        obtain ⟨-, -, ⟨s, s1, s2, s3, s4⟩, -⟩ := (lw k hk).1 l el
        show segP N2 (c + 8) k l
        refine ⟨s, ?_, ?_, by omega, fun j hj => ?_⟩
        · rw [hA _ _ (by omega) (by omega)]; exact s1
        · rw [hA _ _ (by omega) (by omega)]; exact s2
        · rw [hA _ _ (by omega) (by omega)]; exact s4 j hj
  · intro u hu
    left
    rw [h35 _ (by omega)]; decide
  · exact ⟨0, 0, by omega, by omega, fun _ => rfl, h43.1, h43.2, fun i hi => by omega⟩
  · intro k hk; rw [h82 k hk, hch]
  · intro k hk
    cases el : law k with
    | none =>
      obtain ⟨-, -, z3⟩ := (lw k hk).2 el
      show N2.1 82 (65 + k) = -1
      rw [h82 _ (by omega), show 80 + (65 + k) = 145 + k by omega]; exact z3
    | some l =>
      obtain ⟨-, -, -, ⟨s, s1, s2, s3, s4⟩⟩ := (lw k hk).1 l el
      show ∃ i, N2.1 82 (65 + k) = nI i ∧ segM N2 i l
      refine ⟨s, ?_, fun j hj => ?_, ?_, by omega⟩
      · rw [h82 _ (by omega), show 80 + (65 + k) = 145 + k by omega]; exact s1
      · rw [(h8 _ (by omega)).1, (h8 _ (by omega)).2, ← Nat.add_assoc]; exact s3 j hj
      · rw [(h8 _ (by omega)).1, ← Nat.add_assoc]; exact s4
  · unfold holdR
    rw [np, ng]
    refine ⟨h36.1, ?_, fun i _ hi => ?_, fun q hq => ?_, fun q q1 q2 => ?_, ⟨0, by omega, h36.2.2, ?_, fun i hi => by omega⟩⟩
    · rw [h36.2.1, Nat.zero_add, h812.1]
    · rw [Nat.zero_add, h812.1, b_0]
    · obtain ⟨a, b, o, k, z1, z2, z3, z4, y1, y2, y3, y4, y5, y6, y7, y8⟩ := pa q hq
      rw [Nat.zero_add]
      refine ⟨?_, o, z3, ?_⟩
      · rw [show 36 + 1 = 37 from rfl, h37 q (by omega), if_pos hq, h88 q (by omega), y5, y6]
      · rw [h88 q (by omega)]; exact y6
    · rw [show 36 + 1 = 37 from rfl, h37 q (by omega), if_neg (by omega)]
    · rw [Nat.zero_add]; exact h812.2
  · exact ⟨0, 0, by omega, by omega, h40.1, h40.2, h21, fun i hi => by omega⟩
  · intro m hm
    rw [h89 m hm, h19', b_0]
    exact ⟨Or.inl rfl, by simp, fun y => by simp at y⟩
  · intro k hk l hl
    obtain ⟨-, -, -, ⟨s, s1, s2, s3, s4⟩⟩ := (lw k hk).1 l hl
    exact ⟨s, (ck k).trans s1, by omega⟩
