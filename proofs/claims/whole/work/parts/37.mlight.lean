/-! where light falls: the reference's side -/
def lawM (law : Law) (N : hn) : Prop := ∀ k, k < 4 → match law k with
  | some l => ∃ i, N.1 82 (65 + k) = nI i ∧ segM N i l
  | none => N.1 82 (65 + k) = -1
def mchap (ch : Nat → Int32) (law : Law) (N : hn) : Prop := (∀ k, k < 80 → N.1 82 k = ch k) ∧ lawM law N
theorem mchap.off {ch : Nat → Int32} {law : Law} {N N' : hn} (h : mchap ch law N) (h82 : N'.1 82 = N.1 82) (h83 : N'.1 83 = N.1 83) (h84 : N'.1 84 = N.1 84) : mchap ch law N' := by
  refine ⟨?_, ?_⟩
  · rw [h82]; exact h.1
  · intro k hk
    have := h.2 k hk
    cases e : law k with
    | none => rw [e] at this; show N'.1 82 (65 + k) = -1; rw [h82]; exact this
    | some l =>
      rw [e] at this
      show ∃ i, N'.1 82 (65 + k) = nI i ∧ segM N' i l
      unfold segM
      rw [h82, h83, h84]; exact this
def offF (N N' : hn) : Prop := (∀ b, b ≠ 86 → b ≠ 87 → b ≠ 90 → N'.1 b = N.1 b) ∧ N'.2 = N.2
theorem offF.refl {N : hn} : offF N N := ⟨fun _ _ _ _ => rfl, rfl⟩
theorem offF.trans {N N1 N2 : hn} (h : offF N N1) (h2 : offF N1 N2) : offF N N2 := ⟨fun b a1 a2 a3 => (h2.1 b a1 a2 a3).trans (h.1 b a1 a2 a3), h2.2.trans h.2⟩
theorem offF.w86 {i : Nat} {v : Int32} {N : hn} : offF N (hn_wI N 86 i v) := ⟨fun _ h1 _ _ => wI_o h1, rfl⟩
theorem offF.w90 {i : Nat} {v : Int32} {N : hn} : offF N (hn_wI N 90 i v) := ⟨fun _ _ _ h1 => wI_o h1, rfl⟩
theorem offF.o87 {N N' : hn} (h : off1 87 N N') : offF N N' := ⟨fun b _ h1 _ => h.1 b h1, h.2⟩
theorem mchap.offF {ch : Nat → Int32} {law : Law} {N N' : hn} (h : mchap ch law N) (ho : offF N N') : mchap ch law N' :=
  h.off (ho.1 82 (by decide) (by decide) (by decide)) (ho.1 83 (by decide) (by decide) (by decide)) (ho.1 84 (by decide) (by decide) (by decide))
theorem md_law {c k : Nat} {ch : Nat → Int32} {law : Law} {X : hn} (hk : k < 4) (hl : lawOK law) (hm : mchap ch law X) {α : Type} (K : Int32 → hn → Option α) (E : Option α) (D : Int32)
    (hE : E = K D X) (hD : law k = none → D = lawV law k (X.1 86)) :
    ∃ X', (if 0 ≤ X.1 82 (65 + k) then hbN (F_Md_worthAt c (X.1 82 (65 + k)) X) K else E) = K (lawV law k (X.1 86)) X' ∧ off1 87 X X' := by
  have h := hm.2 k hk
  cases e : law k with
  | none =>
    rw [e] at h
    have h' : X.1 82 (65 + k) = -1 := h
    refine ⟨X, ?_, off1.refl⟩
    rw [h', if_neg (by decide), hE, ← hD e]
  | some l =>
    rw [e] at h
    obtain ⟨i, h1, h2⟩ := h
    obtain ⟨X', a1, a2⟩ := worthAt_ok (c := c) (hl k hk l e).2 h2
    refine ⟨X', ?_, a2⟩
    have hi : i < 2147483648 := by have := h2.2.2; omega
    rw [h1, if_pos (nI_p hi), a1, hbN_s]
    simp only [lawV, e]
theorem paneOf_0 {c p : Nat} {N : hn} (hp : p < 12) : F_Md_paneOf c (nI p) (0 : Int32) N = some (N.1 82 (17 + 4 * p), N) := by
  have e : ((17 : Int32) + ((4 : Int32) * nI p)) + (0 : Int32) = nI (17 + 4 * p) := by
    rw [show (17 : Int32) = nI 17 from rfl, show (4 : Int32) = nI 4 from rfl, show (0 : Int32) = nI 0 from rfl, nI_m, nI_a, nI_a]; rfl
  simp only [F_Md_paneOf, e, ix_ok (show 17 + 4 * p < 160 by omega) (by decide), hg_T, nI_lt31 (show 17 + 4 * p < 2147483648 by omega)]
theorem paneOf_1 {c p : Nat} {N : hn} (hp : p < 12) : F_Md_paneOf c (nI p) (1 : Int32) N = some (N.1 82 (18 + 4 * p), N) := by
  have e : ((17 : Int32) + ((4 : Int32) * nI p)) + (1 : Int32) = nI (18 + 4 * p) := by
    rw [show (17 : Int32) = nI 17 from rfl, show (4 : Int32) = nI 4 from rfl, show (1 : Int32) = nI 1 from rfl, nI_m, nI_a, nI_a]; congr 1; omega
  simp only [F_Md_paneOf, e, ix_ok (show 18 + 4 * p < 160 by omega) (by decide), hg_T, nI_lt31 (show 18 + 4 * p < 2147483648 by omega)]
theorem paneOf_3 {c p : Nat} {N : hn} (hp : p < 12) : F_Md_paneOf c (nI p) (3 : Int32) N = some (N.1 82 (20 + 4 * p), N) := by
  have e : ((17 : Int32) + ((4 : Int32) * nI p)) + (3 : Int32) = nI (20 + 4 * p) := by
    rw [show (17 : Int32) = nI 17 from rfl, show (4 : Int32) = nI 4 from rfl, show (3 : Int32) = nI 3 from rfl, nI_m, nI_a, nI_a]; congr 1; omega
  simp only [F_Md_paneOf, e, ix_ok (show 20 + 4 * p < 160 by omega) (by decide), hg_T, nI_lt31 (show 20 + 4 * p < 2147483648 by omega)]
theorem ownerOf_ok {c p : Nat} {N : hn} (hp : p < 1000) : F_Md_ownerOf c (nI p) N = some (N.1 88 p, N) := by
  have e : (0 : Int32) + nI p = nI p := Int32.zero_add _
  simp only [F_Md_ownerOf, e, ix_ok hp (by decide), hg_T, nI_lt31 (show p < 2147483648 by omega)]
theorem panes_ok {c : Nat} {N : hn} : F_Md_panes c N = some (N.1 82 4, N) := by simp only [F_Md_panes, x_160_4, hg_T, t_4]
theorem guilds_ok {c : Nat} {N : hn} : F_Md_guilds c N = some (N.1 82 3, N) := by simp only [F_Md_guilds, x_160_3, hg_T, t_3]
theorem seens_ok {c : Nat} {N : hn} : F_Md_seens c N = some (N.1 88 13, N) := by simp only [F_Md_seens, x_1000_13, hg_T, t_13]
theorem isOn_ok {c : Nat} {x y : Int32} {N : hn} : F_Md_isOn c x y N = some ((if x < 0 then 0 else if N.1 82 0 ≤ x then 0 else if y < 0 then 0 else if N.1 82 1 ≤ y then 0 else 1), N) := by
  simp only [F_Md_isOn, x_160_0, x_160_1, hg_T, t_0, t_1]
  split
  · rfl
  · split
    · rfl
    · split
      · rfl
      · split <;> rfl
theorem isBroken_ok {c p : Nat} {N : hn} (hp : p < 32) : F_Md_isBroken c (nI p) N = some ((if bt (N.1 88 12) p then 1 else 0), N) := by
  simp only [F_Md_isBroken, x_1000_12, hg_T, t_12, bt_sh hp]
  split <;> rfl
theorem spF_eq {ch : Nat → Int32} (hch : chOK ch) {law : Law} {t p : Nat} (hp : p < nP ch) (hd : lawV law 2 (facT t 0 0) = 0) :
    spF ch law t p = if xS ch law t p < 0 then -1 else if ch 0 ≤ xS ch law t p then -1 else if yS ch law t p < 0 then -1 else if ch 1 ≤ yS ch law t p then -1 else 8 * yS ch law t p + xS ch law t p := by
  obtain ⟨⟨w1, -, w2⟩, ⟨d1, -, d2⟩, -⟩ := hch
  unfold spF aS spotN
  rw [if_pos hp, if_pos hd]
  split
  · exact spF_0
  · split
    · exact spF_0
    · split
      · exact spF_0
      · split
        · exact spF_0
        · rename_i h1 h2 h3 h4
          rw [w1] at h2
          rw [d1] at h4
          obtain ⟨x, hx, ex⟩ := i32_in h1 h2 (by omega)
          obtain ⟨y, hy, ey⟩ := i32_in h3 h4 (by omega)
          rw [ex, ey, show (8 : Int32) = nI 8 from rfl, nI_m, nI_a, nI_lt31 (by omega), nI_pred]
theorem spF_dark {ch : Nat → Int32} {law : Law} {t p : Nat} (hd : ¬ lawV law 2 (facT t 0 0) = 0) : spF ch law t p = -1 := by
  unfold spF aS spotN
  rw [if_neg hd, ite_self]; decide
theorem isDark_ok {c : Nat} {ch : Nat → Int32} {law : Law} {N : hn} (hl : lawOK law) (hm : mchap ch law N) {t : Nat} :
    ∃ N', F_Md_isDark c (nI (t / 24)) (nI (t % 24)) N = some ((if lawV law 2 (facT t 0 0) = 0 then 0 else 1), N') ∧ offF N N' := by
  obtain ⟨N2, en⟩ : ∃ N2, N2 = hn_wI (hn_wI N 86 0 (nI (t / 24))) 86 1 (nI (t % 24)) := ⟨_, rfl⟩
  have n0 : N2.1 86 0 = nI (t / 24) := by rw [en, wI_n (by decide), wI_s]
  have n1 : N2.1 86 1 = nI (t % 24) := by rw [en, wI_s]
  have no : offF N N2 := by rw [en]; exact offF.w86.trans offF.w86
  have ef : lawV law 2 (N2.1 86) = lawV law 2 (facT t 0 0) := by
    apply lawV_cong hl (by decide)
    intro f hf
    have hf' : f < 2 := by have := hf.2; omega
    have : f = 0 ∨ f = 1 := by omega
    rcases this with rfl | rfl
    · rw [n0]; rfl
    · rw [n1]; rfl
  obtain ⟨N', a1, a2⟩ := md_law (c := c) (k := 2) (by decide) hl (hm.offF no) (fun r4 N3 => (if r4 = 0 then some ((0 : Int32), N3) else some ((1 : Int32), N3)))
    (if nI (t % 24) < (6 : Int32) then some ((1 : Int32), N2) else (if nI (t % 24) ≤ (18 : Int32) then some ((0 : Int32), N2) else some ((1 : Int32), N2)))
    (if nI (t % 24) < 6 then 1 else if nI (t % 24) ≤ 18 then 0 else 1) (by
      have z1 : ¬ (1 : Int32) = 0 := by decide
      by_cases q : nI (t % 24) < 6
      · simp only [q, ↓reduceIte, z1]
      · by_cases q2 : nI (t % 24) ≤ 18
        · simp only [q, q2, ↓reduceIte]
        · simp only [q, q2, ↓reduceIte, z1]) (by
      intro e
      simp only [lawV, e, n1]; rfl)
  refine ⟨N', ?_, no.trans (offF.o87 a2)⟩
  simp only [F_Md_isDark, x_7_0, x_7_1, hg_T, hl_s, t_0, t_1, x_160_67, t_67]
  rw [← en]
  refine Eq.trans a1 ?_
  rw [ef]
  by_cases q : lawV law 2 (facT t 0 0) = 0
  · rw [if_pos q, if_pos q]
  · rw [if_neg q, if_neg q]
/-- what the reference holds lit: not broken, its guild not fallen -/
def litB (N : hn) (p : Nat) : Bool := !(bt (N.1 88 12) p) && !(bt (N.1 76 23) (N.1 88 p).toNatClampNeg)
def ownM (ch : Nat → Int32) (N : hn) : Prop := ∀ p, p < nP ch → ∃ o, o < nG ch ∧ N.1 88 p = nI o
theorem bt_shz {x : Int32} {k : Nat} (hk : k < 32) : ((x >>> (nI k &&& 31)) &&& (1 : Int32)) = 0 ↔ bt x k = false := by
  rw [bt_sh0 hk]
  cases bt x k <;> simp
theorem findLight_pane {c : Nat} {ch : Nat → Int32} {law : Law} {N : hn} (hch : chOK ch) (hl : lawOK law) (hm : mchap ch law N) {t p : Nat} (hp : p < nP ch)
    (hd : lawV law 2 (facT t 0 0) = 0) (K : Int32 → Int32 → Int32 → Int32 → hn → Option hn) (hb : bt (N.1 88 12) p = false) {o : Nat} (ho : o < 32) (hw : N.1 88 p = nI o) (hdg : bt (N.1 76 23) o = false) (hix : p < 12) :
    ∃ N', B_Md_findLight_1 c K (nI (t / 24)) (nI (t % 24)) 0 (nI p) N = K (nI (t / 24)) (nI (t % 24)) 0 (nI (p + 1)) (hn_wI N' 90 p (spF ch law t p)) ∧ offF N N' ∧ (∀ q, q ≠ p → N'.1 90 q = N.1 90 q) := by
  obtain ⟨-, -, -, -, ⟨p1, p2⟩, -⟩ := id hch
  have k4 : N.1 82 4 = nI (nP ch) := by rw [hm.1 4 (by decide), p1]
  have g1 : ¬ nI (nP ch) ≤ nI p := nI_ge hp (by omega)
  have x1 : hn_ix 12 (nI p) = true := ix_ok hix (by decide)
  have c1 : (nI p).toNatClampNeg = p := nI_lt31 (by omega)
  obtain ⟨N3, e3⟩ : ∃ N3, N3 = hn_wI N 90 p (-1 : Int32) := ⟨_, rfl⟩
  have o3 : offF N N3 := by rw [e3]; exact offF.w90
  have q3 : ∀ q, q ≠ p → N3.1 90 q = N.1 90 q := fun q hq => by rw [e3, wI_n hq]
  have hb3 : bt (N3.1 88 12) p = false := by rw [o3.1 _ (by decide) (by decide) (by decide)]; exact hb
  have hw3 : N3.1 88 p = nI o := by rw [o3.1 _ (by decide) (by decide) (by decide)]; exact hw
  have hdg3 : ((N3.1 76 23 >>> (nI o &&& 31)) &&& (1 : Int32)) = 0 := by rw [o3.1 _ (by decide) (by decide) (by decide)]; exact (bt_shz ho).mpr hdg
  obtain ⟨N15, e15⟩ : ∃ N15, N15 = hn_wI (hn_wI (hn_wI (hn_wI N3 86 0 (nI (t / 24))) 86 1 (nI (t % 24))) 86 2 (ch (17 + 4 * p))) 86 3 (ch (18 + 4 * p)) := ⟨_, rfl⟩
  have o15 : offF N3 N15 := by rw [e15]; exact offF.w86.trans (offF.w86.trans (offF.w86.trans offF.w86))
  have m15 : mchap ch law N15 := (hm.offF o3).offF o15
  have f0 : N15.1 86 0 = nI (t / 24) := by rw [e15, wI_n (by decide), wI_n (by decide), wI_n (by decide), wI_s]
  have f1 : N15.1 86 1 = nI (t % 24) := by rw [e15, wI_n (by decide), wI_n (by decide), wI_s]
  have f2 : N15.1 86 2 = ch (17 + 4 * p) := by rw [e15, wI_n (by decide), wI_s]
  have f3 : N15.1 86 3 = ch (18 + 4 * p) := by rw [e15, wI_s]
  have fc : ∀ k, k < 2 → ∀ (X : hn), X.1 86 = N15.1 86 → lawV law k (X.1 86) = lawV law k (facT t (ch (17 + 4 * p)) (ch (18 + 4 * p))) := by
    intro k hk X hX
    apply lawV_cong hl (by omega)
    intro f hf
    have hf' : f < 4 := by have := hf.2; omega
    rw [hX]
    have : f = 0 ∨ f = 1 ∨ f = 2 ∨ f = 3 := by omega
    rcases this with rfl | rfl | rfl | rfl
    · rw [f0]; rfl
    · rw [f1]; rfl
    · rw [f2]; rfl
    · rw [f3]; rfl
  have pc : ∀ X : hn, X.1 82 = N.1 82 → X.1 82 (17 + 4 * p) = ch (17 + 4 * p) ∧ X.1 82 (18 + 4 * p) = ch (18 + 4 * p) := by
    intro X hX; rw [hX]; exact ⟨hm.1 _ (by omega), hm.1 _ (by omega)⟩
  have o82 : ∀ {X Y : hn}, offF X Y → Y.1 82 = X.1 82 := fun h => h.1 82 (by decide) (by decide) (by decide)
  -- east
  obtain ⟨N18, a1, a2⟩ := md_law (c := c) (k := 0) (by decide) hl m15 (fun r19 N18 => B_Md_findLight_2 c K (nI (t / 24)) (nI (t % 24)) 0 (nI p) r19 (ch (17 + 4 * p)) N18)
    (B_Md_findLight_2 c K (nI (t / 24)) (nI (t % 24)) 0 (nI p) (nI (t % 24) - (12 : Int32)) (ch (17 + 4 * p)) N15) (nI (t % 24) - 12) rfl (by
      intro e; simp only [lawV, e, f1]; rfl)
  have m18 : mchap ch law N18 := m15.offF (offF.o87 a2)
  have g18 : N18.1 86 = N15.1 86 := a2.1 86 (by decide)
  have x18 : N18.1 82 = N.1 82 := (o82 (offF.o87 a2)).trans ((o82 o15).trans (o82 o3))
  obtain ⟨N20, b1, b2⟩ := md_law (c := c) (k := 1) (by decide) hl m18 (fun r3 N2 => B_Md_findLight_3 c K (nI (t / 24)) (nI (t % 24)) 0 (nI p) (xS ch law t p) r3 N2)
    (B_Md_findLight_3 c K (nI (t / 24)) (nI (t % 24)) 0 (nI p) (xS ch law t p) (ch (18 + 4 * p)) N18) (ch (18 + 4 * p)) rfl (by
      intro e; simp only [lawV, e, g18, f3]; rfl)
  have x20 : N20.1 82 = N.1 82 := (o82 (offF.o87 b2)).trans x18
  have oall : offF N N20 := o3.trans (o15.trans ((offF.o87 a2).trans (offF.o87 b2)))
  refine ⟨N20, ?_, oall, ?_⟩
  · have s1 : B_Md_findLight_1 c K (nI (t / 24)) (nI (t % 24)) 0 (nI p) N = (if 0 ≤ N15.1 82 (65 + 0) then hbN (F_Md_worthAt c (N15.1 82 (65 + 0)) N15) (fun r19 N18 => B_Md_findLight_2 c K (nI (t / 24)) (nI (t % 24)) 0 (nI p) r19 (ch (17 + 4 * p)) N18) else B_Md_findLight_2 c K (nI (t / 24)) (nI (t % 24)) 0 (nI p) (nI (t % 24) - (12 : Int32)) (ch (17 + 4 * p)) N15) := by
      have z0 : ¬ ((false : Bool) = true) := by decide
      simp only [B_Md_findLight_1, panes_ok, hbN_s, k4, g1, ↓reduceIte, x1, hg_T, hl_s, c1]
      rw [← e3]
      simp only [isBroken_ok (show p < 32 by omega), hb3, Bool.false_eq_true, hbN_s, ↓reduceIte, ownerOf_ok (show p < 1000 by omega), hw3, hdg3, x_7_0, x_7_1, x_7_2, x_7_3, hg_T, hl_s, t_0, t_1, t_2, t_3, paneOf_0 hix, paneOf_1 hix, x_160_65, t_65]
      have p1' : N3.1 82 = N.1 82 := o82 o3
      simp only [wI_o (show (82 : Nat) ≠ 86 by decide), p1', (pc N rfl).1, (pc N rfl).2]
      rw [← e15]
      have p15 : N15.1 82 = N.1 82 := (o82 o15).trans p1'
      simp only [p15]
    rw [s1, a1, fc 0 (by decide) N15 rfl]
    have s2 : B_Md_findLight_2 c K (nI (t / 24)) (nI (t % 24)) 0 (nI p) (lawV law 0 (facT t (ch (17 + 4 * p)) (ch (18 + 4 * p)))) (ch (17 + 4 * p)) N18 = (if 0 ≤ N18.1 82 (65 + 1) then hbN (F_Md_worthAt c (N18.1 82 (65 + 1)) N18) (fun r3 N2 => B_Md_findLight_3 c K (nI (t / 24)) (nI (t % 24)) 0 (nI p) (xS ch law t p) r3 N2) else B_Md_findLight_3 c K (nI (t / 24)) (nI (t % 24)) 0 (nI p) (xS ch law t p) (ch (18 + 4 * p)) N18) := by
      simp only [B_Md_findLight_2, hl_s, x_160_66, hg_T, t_66, paneOf_1 hix, hbN_s, (pc N18 x18).2]
      rfl
    rw [s2, b1, fc 1 (by decide) N18 g18]
    have k0 : N20.1 82 0 = ch 0 := by rw [x20]; exact hm.1 0 (by decide)
    have k1 : N20.1 82 1 = ch 1 := by rw [x20]; exact hm.1 1 (by decide)
    have ey : lawV law 1 (facT t (ch (17 + 4 * p)) (ch (18 + 4 * p))) = yS ch law t p := rfl
    rw [spF_eq hch hp hd, ey]
    simp only [B_Md_findLight_3, isOn_ok, hbN_s, k0, k1, B_Md_findLight_4, x1, hg_T, c1, hl_s, ← nI_succ]
    have z1 : ¬ (1 : Int32) = 0 := by decide
    by_cases q1 : xS ch law t p < 0
    · simp only [q1, ↓reduceIte]
    · by_cases q2 : ch 0 ≤ xS ch law t p
      · simp only [q1, q2, ↓reduceIte]
      · by_cases q3 : yS ch law t p < 0
        · simp only [q1, q2, q3, ↓reduceIte]
        · by_cases q4 : ch 1 ≤ yS ch law t p
          · simp only [q1, q2, q3, q4, ↓reduceIte]
          · simp only [q1, q2, q3, q4, ↓reduceIte, z1]
  · intro q hq
    rw [b2.1 90 (by decide), a2.1 90 (by decide), show N15.1 90 = N3.1 90 by rw [e15, wI_o (by decide), wI_o (by decide), wI_o (by decide), wI_o (by decide)]]
    exact q3 q hq
theorem findLight_ok {c : Nat} {ch : Nat → Int32} {law : Law} {N : hn} (hch : chOK ch) (hl : lawOK law) (hm : mchap ch law N) (hw : ownM ch N) {t : Nat} (ht : t < 1248) :
    ∃ N', F_Md_findLight c (nI (t / 24)) (nI (t % 24)) N = some N' ∧ offF N N' ∧ ∀ p, p < nP ch → N'.1 90 p = if litB N p then spF ch law t p else -1 := by
  obtain ⟨-, -, -, ⟨g1, g2⟩, ⟨p1, p2⟩, -⟩ := id hch
  obtain ⟨N1, d1, d2⟩ := isDark_ok (c := c) hl hm (t := t)
  unfold F_Md_findLight
  rw [d1, hbN_s]
  refine it_wp (B := B_Md_findLight_1 c) (z := fun _ _ _ _ _ => none) (fun K k (s : hn) => K (nI (t / 24)) (nI (t % 24)) (if lawV law 2 (facT t 0 0) = 0 then 0 else 1) (nI k) s) (nP ch)
    (fun k s => offF N s ∧ ∀ p, p < k → s.1 90 p = if litB N p then spF ch law t p else -1)
    (Q := fun x => ∃ N', x = some N' ∧ offF N N' ∧ ∀ p, p < nP ch → N'.1 90 p = if litB N p then spF ch law t p else -1) ?_ ?_ (n := hN) (k := 0) (s := N1) (by omega) (hN_big (by omega)) ⟨d2, fun p hp => absurd hp (Nat.not_lt_zero p)⟩
  · rintro K s ⟨i1, i2⟩
    refine ⟨s, ?_, i1, i2⟩
    have k4 : s.1 82 4 = nI (nP ch) := by rw [i1.1 82 (by decide) (by decide) (by decide), hm.1 4 (by decide), p1]
    have g : nI (nP ch) ≤ nI (nP ch) := Int32.le_refl _
    simp only [B_Md_findLight_1, panes_ok, hbN_s, k4, g, ↓reduceIte]
  · rintro K k s hk ⟨i1, i2⟩
    right
    obtain ⟨o, o1, o2⟩ := hw k hk
    have k4 : s.1 82 4 = nI (nP ch) := by rw [i1.1 82 (by decide) (by decide) (by decide), hm.1 4 (by decide), p1]
    have gg : ¬ nI (nP ch) ≤ nI k := nI_ge hk (by omega)
    have x1 : hn_ix 12 (nI k) = true := ix_ok (by omega) (by decide)
    have c1 : (nI k).toNatClampNeg = k := nI_lt31 (by omega)
    have s88 : s.1 88 = N.1 88 := i1.1 88 (by decide) (by decide) (by decide)
    have s76 : s.1 76 = N.1 76 := i1.1 76 (by decide) (by decide) (by decide)
    have lb : litB N k = (!(bt (N.1 88 12) k) && !(bt (N.1 76 23) o)) := by unfold litB; rw [o2, nI_lt31 (by omega)]
    have upd : ∀ (X : hn) (v : Int32), (∀ q, q ≠ k → X.1 90 q = s.1 90 q) → v = (if litB N k then spF ch law t k else -1) → ∀ p, p < k + 1 → (hn_wI X 90 k v).1 90 p = if litB N p then spF ch law t p else -1 := by
      intro X v hX hv p hp
      by_cases e : p = k
      · subst e; rw [wI_s, hv]
      · rw [wI_n e, hX p e]; exact i2 p (by omega)
    have nolit : (if litB N k then spF ch law t k else -1) = -1 → (∃ X : hn, B_Md_findLight_1 c K (nI (t / 24)) (nI (t % 24)) (if lawV law 2 (facT t 0 0) = 0 then 0 else 1) (nI k) s = K (nI (t / 24)) (nI (t % 24)) (if lawV law 2 (facT t 0 0) = 0 then 0 else 1) (nI (k + 1)) (hn_wI s 90 k (-1))) →
        ∃ s', (offF N s' ∧ ∀ p, p < k + 1 → s'.1 90 p = if litB N p then spF ch law t p else -1) ∧ B_Md_findLight_1 c K (nI (t / 24)) (nI (t % 24)) (if lawV law 2 (facT t 0 0) = 0 then 0 else 1) (nI k) s = K (nI (t / 24)) (nI (t % 24)) (if lawV law 2 (facT t 0 0) = 0 then 0 else 1) (nI (k + 1)) s' := by
      rintro e ⟨-, q⟩
      exact ⟨_, ⟨i1.trans offF.w90, upd s (-1) (fun _ _ => rfl) e.symm⟩, q⟩
    by_cases hd : lawV law 2 (facT t 0 0) = 0
    · by_cases hb : bt (N.1 88 12) k = true
      · apply nolit (by rw [lb, hb]; rfl)
        refine ⟨s, ?_⟩
        have hb3 : bt ((hn_wI s 90 k (-1)).1 88 12) k = true := by rw [wI_o (by decide), s88]; exact hb
        have z1 : ¬ (1 : Int32) = 0 := by decide
        simp only [B_Md_findLight_1, panes_ok, hbN_s, k4, gg, ↓reduceIte, x1, hg_T, hl_s, c1, hd, isBroken_ok (show k < 32 by omega), hb3, z1, ← nI_succ]
      · have hb' : bt (N.1 88 12) k = false := by simpa using hb
        by_cases hdg : bt (N.1 76 23) o = true
        · apply nolit (by rw [lb, hb', hdg]; rfl)
          refine ⟨s, ?_⟩
          have hb3 : bt ((hn_wI s 90 k (-1)).1 88 12) k = false := by rw [wI_o (by decide), s88]; exact hb'
          have hw3 : (hn_wI s 90 k (-1)).1 88 k = nI o := by rw [wI_o (by decide), s88]; exact o2
          have hz : ¬ (((hn_wI s 90 k (-1)).1 76 23 >>> (nI o &&& 31)) &&& (1 : Int32)) = 0 := by
            rw [wI_o (by decide), s76, bt_shz (by omega), hdg]; decide
          have z0 : ¬ ((false : Bool) = true) := by decide
          simp only [B_Md_findLight_1, panes_ok, hbN_s, k4, gg, ↓reduceIte, x1, hg_T, hl_s, c1, hd, isBroken_ok (show k < 32 by omega), hb3, Bool.false_eq_true, ownerOf_ok (show k < 1000 by omega), hw3, hz, ← nI_succ]
        · have hdg' : bt (N.1 76 23) o = false := by simpa using hdg
          obtain ⟨N', b1, b2, b3⟩ := findLight_pane (c := c) hch hl (hm.offF i1) hk hd K (by rw [s88]; exact hb') (show o < 32 by omega) (by rw [s88]; exact o2) (by rw [s76]; exact hdg') (by omega)
          refine ⟨hn_wI N' 90 k (spF ch law t k), ⟨i1.trans (b2.trans offF.w90), upd N' _ b3 ?_⟩, ?_⟩
          · rw [lb, hb', hdg']; rfl
          · simp only [hd, ↓reduceIte]
            exact b1
    · apply nolit (by rw [spF_dark hd, ite_self])
      refine ⟨s, ?_⟩
      have z1 : ¬ (1 : Int32) = 0 := by decide
      simp only [B_Md_findLight_1, panes_ok, hbN_s, k4, gg, ↓reduceIte, x1, hg_T, hl_s, c1, hd, z1, ← nI_succ]
