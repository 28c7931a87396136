/-! THE PURE PART, all together -/
theorem pj_q {fP fM : hm_M → Option (Int32 × hm_M)} {FP FM : Nat → hn → Option (Int32 × hn)} (q1 : ∀ c N, isChap c → fP (N.1, N.2, rT c) = em c (FP c N)) (q2 : ∀ c N, isChap c → fM (N.1, N.2, rT c) = em c (FM c N))
    (al : ∀ c ch law N, RR c ch law N → alike c ch law (FP c) (FM c) N) (M : hm_M) (hJ : JJ M) : ∃ (r : Int32) (M1 M2 : hm_M), fP M = some (r, M1) ∧ fM M1 = some (r, M2) ∧ JJ M2 := by
  obtain ⟨c, ch, law, N, rfl, hR, hL⟩ := hJ
  obtain ⟨r, N1, N2, e1, e2, e3⟩ := al c ch law N hR
  refine ⟨r, (N1.1, N1.2, rT c), (N2.1, N2.2, rT c), ?_, ?_, c, ch, law, N2, rfl, e3, hL⟩
  · rw [q1 c N hR.1, e1, em_s']
  · rw [q2 c N1 hR.1, e2, em_s']
theorem pj_feed : pJ_feed (hm_sl sh4) JJ := fun a1 a2 a3 M hJ =>
  pj_q (fP := f_Ps_feed S0 1 a1 a2 a3) (fM := f_Md_feed S0 76 a1 a2 a3) (FP := fun c => F_Ps_feed c a1 a2 a3) (FM := fun c => F_Md_feed c a1 a2 a3) (fun _ _ hc => q_Ps_feed hc) (fun _ _ hc => q_Md_feed hc) (fun _ _ _ _ h => a_feed h a1 a2 a3) M hJ
theorem pj_guild : pJ_guild (hm_sl sh4) JJ := fun a1 a2 M hJ =>
  pj_q (fP := f_Ps_guild S0 1 a1 a2) (fM := f_Md_guild S0 76 a1 a2) (FP := fun c => F_Ps_guild c a1 a2) (FM := fun c => F_Md_guild c a1 a2) (fun _ _ hc => q_Ps_guild hc) (fun _ _ hc => q_Md_guild hc) (fun _ _ _ _ h => a_guild h a1 a2) M hJ
theorem pj_pane : pJ_pane (hm_sl sh4) JJ := fun a1 a2 M hJ =>
  pj_q (fP := f_Ps_pane S0 1 a1 a2) (fM := f_Md_pane S0 76 a1 a2) (FP := fun c => F_Ps_pane c a1 a2) (FM := fun c => F_Md_pane c a1 a2) (fun _ _ hc => q_Ps_pane hc) (fun _ _ hc => q_Md_pane hc) (fun _ _ _ _ h => a_pane h a1 a2) M hJ
theorem pj_spot : pJ_spot (hm_sl sh4) JJ := fun a1 a2 a3 M hJ =>
  pj_q (fP := f_Ps_spot S0 1 a1 a2 a3) (fM := f_Md_spot S0 76 a1 a2 a3) (FP := fun c => F_Ps_spot c a1 a2 a3) (FM := fun c => F_Md_spot c a1 a2 a3) (fun _ _ hc => q_Ps_spot hc) (fun _ _ hc => q_Md_spot hc) (fun _ _ _ _ h => a_spot h a1 a2 a3) M hJ
theorem pj_place : pJ_place (hm_sl sh4) JJ := fun a1 a2 a3 a4 a5 M hJ =>
  pj_q (fP := f_Ps_place S0 1 a1 a2 a3 a4 a5) (fM := f_Md_place S0 76 a1 a2 a3 a4 a5) (FP := fun c => F_Ps_place c a1 a2 a3 a4 a5) (FM := fun c => F_Md_place c a1 a2 a3 a4 a5) (fun _ _ hc => q_Ps_place hc) (fun _ _ hc => q_Md_place hc) (fun _ _ _ _ h => a_place h a1 a2 a3 a4 a5) M hJ
theorem pj_yields : pJ_yields (hm_sl sh4) JJ := fun a1 M hJ =>
  pj_q (fP := f_Ps_yields S0 1 a1) (fM := f_Md_yields S0 76 a1) (FP := fun c => F_Ps_yields c a1) (FM := fun c => F_Md_yields c a1) (fun _ _ hc => q_Ps_yields hc) (fun _ _ hc => q_Md_yields hc) (fun _ _ _ _ h => a_yields h a1) M hJ
theorem pj_rents : pJ_rents (hm_sl sh4) JJ := fun a1 M hJ =>
  pj_q (fP := f_Ps_rents S0 1 a1) (fM := f_Md_rents S0 76 a1) (FP := fun c => F_Ps_rents c a1) (FM := fun c => F_Md_rents c a1) (fun _ _ hc => q_Ps_rents hc) (fun _ _ hc => q_Md_rents hc) (fun _ _ _ _ h => a_rents h a1) M hJ
theorem pj_worth : pJ_worth (hm_sl sh4) JJ := fun a1 a2 M hJ =>
  pj_q (fP := f_Ps_worth S0 1 a1 a2) (fM := f_Md_worth S0 76 a1 a2) (FP := fun c => F_Ps_worth c a1 a2) (FM := fun c => F_Md_worth c a1 a2) (fun _ _ hc => q_Ps_worth hc) (fun _ _ hc => q_Md_worth hc) (fun _ _ _ _ h => a_worth h a1 a2) M hJ
theorem pj_gain : pJ_gain (hm_sl sh4) JJ := fun a1 a2 M hJ =>
  pj_q (fP := f_Ps_gain S0 1 a1 a2) (fM := f_Md_gain S0 76 a1 a2) (FP := fun c => F_Ps_gain c a1 a2) (FM := fun c => F_Md_gain c a1 a2) (fun _ _ hc => q_Ps_gain hc) (fun _ _ hc => q_Md_gain hc) (fun _ _ _ _ h => a_gain h a1 a2) M hJ
theorem pj_best : pJ_best (hm_sl sh4) JJ := fun a1 M hJ =>
  pj_q (fP := f_Ps_best S0 1 a1) (fM := f_Md_best S0 76 a1) (FP := fun c => F_Ps_best c a1) (FM := fun c => F_Md_best c a1) (fun _ _ hc => q_Ps_best hc) (fun _ _ hc => q_Md_best hc) (fun _ _ _ _ h => a_best h a1) M hJ
theorem pj_exchange : pJ_exchange (hm_sl sh4) JJ := fun a1 a2 M hJ =>
  pj_q (fP := f_Ps_exchange S0 1 a1 a2) (fM := f_Md_exchange S0 76 a1 a2) (FP := fun c => F_Ps_exchange c a1 a2) (FM := fun c => F_Md_exchange c a1 a2) (fun _ _ hc => q_Ps_exchange hc) (fun _ _ hc => q_Md_exchange hc) (fun _ _ _ _ h => a_exchange h a1 a2) M hJ
theorem pj_breaks : pJ_breaks (hm_sl sh4) JJ := fun a1 a2 M _ hJ =>
  pj_q (fP := f_Ps_breaks S0 1 a1 a2) (fM := f_Md_breaks S0 76 a1 a2) (FP := fun c => F_Ps_breaks c a1 a2) (FM := fun c => F_Md_breaks c a1 a2) (fun _ _ hc => q_Ps_breaks hc) (fun _ _ hc => q_Md_breaks hc) (fun _ _ _ _ h => a_breaks h a1 a2) M hJ
theorem pj_fallen : pJ_fallen (hm_sl sh4) JJ := fun  M hJ =>
  pj_q (fP := f_Ps_fallen S0 1) (fM := f_Md_fallen S0 76) (FP := fun c => F_Ps_fallen c) (FM := fun c => F_Md_fallen c) (fun _ _ hc => q_Ps_fallen hc) (fun _ _ hc => q_Md_fallen hc) (fun _ _ _ _ h => a_fallen h) M hJ
theorem pj_falls : pJ_falls (hm_sl sh4) JJ := fun a1 M hJ =>
  pj_q (fP := f_Ps_falls S0 1 a1) (fM := f_Md_falls S0 76 a1) (FP := fun c => F_Ps_falls c a1) (FM := fun c => F_Md_falls c a1) (fun _ _ hc => q_Ps_falls hc) (fun _ _ hc => q_Md_falls hc) (fun _ _ _ _ h => a_falls h a1) M hJ
theorem pj_undo : pJ_undo (hm_sl sh4) JJ := fun  M hJ =>
  pj_q (fP := f_Ps_undo S0 1) (fM := f_Md_undo S0 76) (FP := fun c => F_Ps_undo c) (FM := fun c => F_Md_undo c) (fun _ _ hc => q_Ps_undo hc) (fun _ _ hc => q_Md_undo hc) (fun _ _ _ _ h => a_undo h) M hJ
theorem pj_stall : pJ_stall (hm_sl sh4) JJ := fun a1 a2 a3 a4 a5 M hJ =>
  pj_q (fP := f_Ps_stall S0 1 a1 a2 a3 a4 a5) (fM := f_Md_stall S0 76 a1 a2 a3 a4 a5) (FP := fun c => F_Ps_stall c a1 a2 a3 a4 a5) (FM := fun c => F_Md_stall c a1 a2 a3 a4 a5) (fun _ _ hc => q_Ps_stall hc) (fun _ _ hc => q_Md_stall hc) (fun _ _ _ _ h => a_stall h a1 a2 a3 a4 a5) M hJ
theorem pj_see : pJ_see (hm_sl sh4) JJ := fun a1 a2 a3 M hJ =>
  pj_q (fP := f_Ps_see S0 1 a1 a2 a3) (fM := f_Md_see S0 76 a1 a2 a3) (FP := fun c => F_Ps_see c a1 a2 a3) (FM := fun c => F_Md_see c a1 a2 a3) (fun _ _ hc => q_Ps_see hc) (fun _ _ hc => q_Md_see hc) (fun _ _ _ _ h => a_see h a1 a2 a3) M hJ
theorem pj_candles : pJ_candles (hm_sl sh4) JJ := fun a1 a2 M hJ =>
  pj_q (fP := f_Ps_candles S0 1 a1 a2) (fM := f_Md_candles S0 76 a1 a2) (FP := fun c => F_Ps_candles c a1 a2) (FM := fun c => F_Md_candles c a1 a2) (fun _ _ hc => q_Ps_candles hc) (fun _ _ hc => q_Md_candles hc) (fun _ _ _ _ h => a_candles h a1 a2) M hJ
theorem pj_when : pJ_when (hm_sl sh4) JJ := fun a1 M hJ =>
  pj_q (fP := f_Ps_when S0 1 a1) (fM := f_Md_when S0 76 a1) (FP := fun c => F_Ps_when c a1) (FM := fun c => F_Md_when c a1) (fun _ _ hc => q_Ps_when hc) (fun _ _ hc => q_Md_when hc) (fun _ _ _ _ h => a_when h a1) M hJ
theorem pj_clear : pJ_clear (hm_sl sh4) JJ := fun  M hJ =>
  pj_q (fP := f_Ps_clear S0 1) (fM := f_Md_clear S0 76) (FP := fun c => F_Ps_clear c) (FM := fun c => F_Md_clear c) (fun _ _ hc => q_Ps_clear hc) (fun _ _ hc => q_Md_clear hc) (fun _ _ _ _ h => a_clear h) M hJ
theorem pj_stains : pJ_stains (hm_sl sh4) JJ := fun a1 a2 a3 a4 M hJ =>
  pj_q (fP := f_Ps_stains S0 1 a1 a2 a3 a4) (fM := f_Md_stains S0 76 a1 a2 a3 a4) (FP := fun c => F_Ps_stains c a1 a2 a3 a4) (FM := fun c => F_Md_stains c a1 a2 a3 a4) (fun _ _ hc => q_Ps_stains hc) (fun _ _ hc => q_Md_stains hc) (fun _ _ _ _ h => a_stains h a1 a2 a3 a4) M hJ
theorem pj_stood : pJ_stood (hm_sl sh4) JJ := fun a1 a2 a3 a4 a5 a6 M _ hJ =>
  pj_q (fP := f_Ps_stood S0 1 a1 a2 a3 a4 a5 a6) (fM := f_Md_stood S0 76 a1 a2 a3 a4 a5 a6) (FP := fun c => F_Ps_stood c a1 a2 a3 a4 a5 a6) (FM := fun c => F_Md_stood c a1 a2 a3 a4 a5 a6) (fun _ _ hc => q_Ps_stood hc) (fun _ _ hc => q_Md_stood hc) (fun _ _ _ _ h => a_stood h a1 a2 a3 a4 a5 a6) M hJ
theorem pj_mark : pJ_mark (hm_sl sh4) JJ := fun a1 a2 M _ hJ =>
  pj_q (fP := f_Ps_mark S0 1 a1 a2) (fM := f_Md_mark S0 76 a1 a2) (FP := fun c => F_Ps_mark c a1 a2) (FM := fun c => F_Md_mark c a1 a2) (fun _ _ hc => q_Ps_mark hc) (fun _ _ hc => q_Md_mark hc) (fun _ _ _ _ h => a_mark h a1 a2) M hJ
theorem pj_count : pJ_count (hm_sl sh4) JJ := fun a1 M hJ =>
  pj_q (fP := f_Ps_count S0 1 a1) (fM := f_Md_count S0 76 a1) (FP := fun c => F_Ps_count c a1) (FM := fun c => F_Md_count c a1) (fun _ _ hc => q_Ps_count hc) (fun _ _ hc => q_Md_count hc) (fun _ _ _ _ h => a_count h a1) M hJ
theorem pj_chapel : pJ_chapel (hm_sl sh4) JJ := by
  intro M hJ
  obtain ⟨c, ch, law, N, rfl, hR, hL⟩ := hJ
  obtain ⟨r, N1, N2, ch', law', e1, e2, e3, e4⟩ := a_chapel hR hL
  have e5 : f_Md_chapel S0 76 (N1.1, N1.2, rT (if r = 0 then 25 - c else c)) = some (r, (N2.1, N2.2, rT (if r = 0 then 25 - c else c))) := by
    rw [q_Md_chapel e3.1, md_c _ c, e2, em_s']
  exact ⟨r, _, _, q_Ps_chapel hR.1 e1, e5, _, ch', law', N2, rfl, e3, e4⟩
theorem RR.l99 {c : Nat} {ch : Nat → Int32} {law : Law} {N : hn} {v : Int64} (h : RR c ch law N) : RR c ch law (hn_wL N 99 0 v) := by
  obtain ⟨a1, a2, a3, ⟨a4, a5, a6⟩, a7, a8, a9, a10, a11, a12, a13⟩ := h
  refine ⟨a1, a2, a3, ⟨a4, ⟨?_, a5.2⟩, a6⟩, a7, a8, a9, a10, a11, a12, ?_⟩
  · unfold yrP; rw [wL_o (by decide)]; exact a5.1
  · intro k hk; rw [wL_o (by decide)]; exact a13 k hk
theorem pj_clouded : pJ_clouded (hm_sl sh4) JJ := by
  intro a1 a2 M hJ
  obtain ⟨c, ch, law, N, rfl, hR, hL⟩ := hJ
  have hc := hR.1
  by_cases g : inR 10000 a1 ∧ (a2 = -1 ∨ inR (nG ch) a2)
  · left
    obtain ⟨⟨seed, hs, rfl⟩, hv⟩ := g
    obtain ⟨N1, e1, e2, e3⟩ := cld_ps hR hs hv
    obtain ⟨r, hr⟩ : ∃ r, r = cldS ch law (N.1 88) seed a2 := ⟨_, rfl⟩
    rw [← hr] at e1
    obtain ⟨N2, f1, f2, f3, f4⟩ := cld_md (e2.l99 (v := r.toInt64)) hs hv
    have f1 : F_Md_clouded c (nI seed) a2 (hn_wL N1 99 0 r.toInt64) = some (r, N2) := by
      rw [f1, wL_1, e3, ← hr]
    have q1 : f_Ps_clouded S0 1 (nI seed) a2 (N.1, N.2, rT c) = some (r, (N1.1, N1.2, rT c)) := by rw [q_Ps_clouded hc, e1, em_s']
    have q2 : f_Md_clouded S0 76 (nI seed) a2 ((hn_wL N1 99 0 r.toInt64).1, (hn_wL N1 99 0 r.toInt64).2, rT c) = some (r, (N2.1, N2.2, rT c)) := by rw [q_Md_clouded hc, f1, em_s']
    have q3 : f_Md_thrown S0 76 (N2.1, N2.2, rT c) = some (0, (N2.1, N2.2, rT c)) := by rw [q_Md_thrown hc, F_Md_thrown, f3, em_s']
    exact ⟨r, (N1.1, N1.2, rT c), (N2.1, N2.2, rT c), (N2.1, N2.2, rT c), q1, q2, q3, by show N2.2 99 0 = r.toInt64; rw [f4]; exact wL_s, c, ch, law, N2, rfl, f2, hL⟩
  · right
    obtain ⟨N2, f1, f2, f3⟩ := cld_bad hR g
    have q2 : f_Md_clouded S0 76 a1 a2 (N.1, N.2, rT c) = some (0, (N2.1, N2.2, rT c)) := by rw [q_Md_clouded hc, f1, em_s']
    have q3 : f_Md_thrown S0 76 (N2.1, N2.2, rT c) = some (1, (N2.1, N2.2, rT c)) := by rw [q_Md_thrown hc, F_Md_thrown, f3, em_s']
    refine ⟨?_, 0, (N2.1, N2.2, rT c), (N2.1, N2.2, rT c), q2, q3, c, ch, law, N2, rfl, f2, hL⟩
    by_cases g1 : a1 < 0
    · exact Or.inl g1
    · by_cases g2 : 9999 < a1
      · exact Or.inr (Or.inl g2)
      · have i1 : inR 10000 a1 := by
          refine i32_in g1 (fun y => g2 ?_) (by decide)
          have l : (9999 : Int32) < nI 10000 := by decide
          exact fa_trans l y
        have i2 : ¬ (a2 = -1 ∨ inR (nG ch) a2) := fun y => g ⟨i1, y⟩
        refine Or.inr (Or.inr ⟨fun y => i2 (Or.inl y), S0_1, ?_⟩)
        obtain ⟨-, hG, -, -, -, -, -, p3⟩ := hR.P
        have qg : f_Ps_isGuild S0 1 a2 (N.1, N.2, rT c) = em c (F_Ps_isGuild c a2 N) := q_Ps_isGuild hc
        have fg : F_Ps_isGuild c a2 N = some (0, N) := by
          by_cases w1 : a2 < 0
          · simp only [F_Ps_isGuild, w1, ↓reduceIte]
          · by_cases w2 : nI (nG ch) ≤ a2
            · simp only [F_Ps_isGuild, w1, ↓reduceIte, p3, w2]
            · exact absurd (Or.inr (i32_in w1 w2 (by omega))) i2
        show f_Ps_isGuild S0 1 a2 (N.1, N.2, rT c) = some (0, (N.1, N.2, rT c))
        rw [qg, fg, em_s']
theorem pure_all : ∃ (J : hm_M → Prop) (M1 M2 : hm_M), g_Ps_init [.inr 11] 1 hm_zero = some M1 ∧ g_Md_init sh2 76 M1 = some M2 ∧ J M2 ∧ pJ_feed (hm_sl sh4) J ∧ pJ_chapel (hm_sl sh4) J ∧ pJ_guild (hm_sl sh4) J ∧ pJ_pane (hm_sl sh4) J ∧ pJ_spot (hm_sl sh4) J ∧ pJ_place (hm_sl sh4) J ∧ pJ_yields (hm_sl sh4) J ∧ pJ_rents (hm_sl sh4) J ∧ pJ_worth (hm_sl sh4) J ∧ pJ_gain (hm_sl sh4) J ∧ pJ_best (hm_sl sh4) J ∧ pJ_exchange (hm_sl sh4) J ∧ pJ_breaks (hm_sl sh4) J ∧ pJ_fallen (hm_sl sh4) J ∧ pJ_falls (hm_sl sh4) J ∧ pJ_undo (hm_sl sh4) J ∧ pJ_stall (hm_sl sh4) J ∧ pJ_see (hm_sl sh4) J ∧ pJ_candles (hm_sl sh4) J ∧ pJ_when (hm_sl sh4) J ∧ pJ_clear (hm_sl sh4) J ∧ pJ_stains (hm_sl sh4) J ∧ pJ_stood (hm_sl sh4) J ∧ pJ_clouded (hm_sl sh4) J ∧ pJ_mark (hm_sl sh4) J ∧ pJ_count (hm_sl sh4) J := by
  obtain ⟨M1, M2, e1, e2, e3⟩ := ini_J
  exact ⟨JJ, M1, M2, e1, e2, e3, pj_feed, pj_chapel, pj_guild, pj_pane, pj_spot, pj_place, pj_yields, pj_rents, pj_worth, pj_gain, pj_best, pj_exchange, pj_breaks, pj_fallen, pj_falls, pj_undo, pj_stall, pj_see, pj_candles, pj_when, pj_clear, pj_stains, pj_stood, pj_clouded, pj_mark, pj_count⟩
