/-! ALLOCATION: arrays of references, final fields, constructors -/
/-- the method is a constructor -/
def hm_ini (X : hm_X) : Prop := match X with
  | (_, (_, _, _, meth, _), _, _) => meth.name = "<init>"
section RowsB
variable {X0 X : hm_X} {own : String} {cc : ByteArray} {nL : Nat} {ret : Option FieldType} {d n : Nat} {S : hm_S} {l : List hm_Sh} {ce sl mc ms : Nat} {pc : Nat} {ls : List (Nat × Value)} {st : List Value} {M : hm_M} {Q : State → Prop}
theorem jv_anew (hC : hm_CA X0 X own cc nL ret d l ce sl mc ms) (hM : hm_MB M l.length) (h9 : l.length + 1 < 900000) {idx : Nat} {len : Int32} {N : Nat} (hd : decode cc pc = .ok (.anewarray idx, 3)) (hcl : Cond.classLink own idx "PaneSpots$Hold" ∈ gW) (hlen : ¬ len < 0) (hN : len.toNatClampNeg = N) (hby : N ≤ 60000)
    (hk : ce + 1 ≤ mc) (hw : sl + N ≤ ms) (hls : ∀ q ∈ ls, hm_le l.length q.2) (hst : ∀ v ∈ st, hm_le l.length v) (kk : ∀ X : hm_X, hm_CA X0 X own cc nL ret d (l ++ [.inl (.object "PaneSpots$Hold", N)]) (ce + 1) (sl + N) mc ms → hm_U X (pc + 3) ls (.ref (l.length + 1) :: st) M Q) : hm_U X pc ls (.int len :: st) M Q := by
  obtain ⟨⟨p, l', e, R, s⟩, ⟨m, args, below, meth, c⟩, ⟨dC, dI, dA, ad, A⟩, ⟨n', S', nL', cells, slots⟩⟩ := X
  have hC0 := hC
  obtain ⟨⟨⟨hx, hb, -, hml, hown, hts, -⟩, ⟨hA, hK, hok, hAn, hSt⟩, ⟨rfl, rfl, rfl, hfr, hlo, hce, hsl, hr⟩⟩, hE, ⟨rfl, rfl, hmc, hms⟩⟩ := hC
  intro H locs la hP hS hl
  have z := hM.2 (l.length + 1) (by omega)
  refine va_newq hx hb hown (hts _ hcl) hSt.2.2.2.2.2.2.2 hK hP (hm_D hok hAn) hS hA hlen hN (by omega) (by omega) (by omega) hd (fun q cA H1 hK1 hP1 hD1 hS1 => ?_)
  have hcA : cA = dA (.object "PaneSpots$Hold") := by
    obtain ⟨kA, comp, g1, g2, g3, g4⟩ := (hK1.2 5 (cA, .object "PaneSpots$Hold") rfl).2
    obtain ⟨kA', comp', f1, f2, f3, f4⟩ := (hK.2 4 (dA (.object "PaneSpots$Hold"), .object "PaneSpots$Hold") rfl).2
    exact Option.some.inj (g4.symm.trans f4)
  subst hcA
  have hag : hm_ag l.length ad (hm_up (fun _ => ad) 0 (l.length + 1) q 0) := by
    intro k hk
    simp only [hm_up]
    rw [if_neg (by omega)]
  have hE1 : hm_E dA (hm_up (fun _ => ad) 0 (l.length + 1) q 0) (hm_sl (l ++ [.inl (.object "PaneSpots$Hold", N)])) M (l.length + 1) = .inl (dA (.object "PaneSpots$Hold"), N, .inr (.inr (.inr (.inr (fun _ => none))))) := by
    rw [hm_E_arr (n := N) (ty := .object "PaneSpots$Hold") (hm_sl_new (k := 0) rfl)]
    simp only [hm_ar, (z _).2.2, hm_on]
    rfl
  have hwp := hm_ws_push (dA := dA) (x := .inl (.object "PaneSpots$Hold", N)) (ad := ad) (q := q) hM h9
  rw [hE1] at hwp
  have k2 := kk _ (hm_grow (M := M) (w := N) (x := .inl (.object "PaneSpots$Hold", N)) (q := q) hC0 h9 hk hw hD1) H1 locs la (by
    have hlen : (l ++ [(.inl (.object "PaneSpots$Hold", N) : hm_Sh)]).length = l.length + 1 := by simp
    rw [hlen] at hwp
    rw [hwp]; exact hP1) hS1 (by rw [hm_ls_ag hag hls]; exact hl)
  rw [List.map_cons, hm_st_ag hag hst] at k2
  have e : hm_tv (hm_up (fun _ => ad) 0 (l.length + 1) q 0) (.ref (l.length + 1)) = .ref q := by simp [hm_tv, hm_up]
  rw [e] at k2
  exact k2
theorem jv_aastore (hC : hm_C X own cc nL ret d n S) {a len x : Nat} {i : Int32} (hd : decode cc pc = .ok (.aastore, 1)) (hs : S a = some (.inl (.object "PaneSpots$Hold", len))) (hx0 : S x = some (.inr 2)) (hi : vp_in i len) (kk : hm_U X (pc + 1) ls st (hm_wR M a i.toNatClampNeg x) Q) : hm_U X pc ls (.ref x :: .int i :: .ref a :: st) M Q := by
  obtain ⟨⟨p, l, e, R, s⟩, ⟨m, args, below, meth, c⟩, ⟨dC, dI, dA, ad, A⟩, ⟨n', S', nL', cells, slots⟩⟩ := X
  obtain ⟨⟨hx, hb, -, -, hown, hts, -⟩, ⟨hA, hK, hok, hAn, -⟩, ⟨rfl, -, rfl, -, -, -, -, hr⟩⟩ := hC
  intro H locs la hP hS hl
  obtain ⟨r1, r2⟩ := hr _ _ hs
  obtain ⟨q1, q2⟩ := hr _ _ hx0
  refine va_astq hx hb hK hP (hm_D hok hAn) hS (a - 1) 4 (x - 1) 2 (r := (RX2, TX2, 6)) (n := len) (f := fun i => hm_on ad (M.2.2 a i)) (by rw [hm_ws_at r1 r2, hm_E_arr hs]; rfl) rfl (by rw [hm_ws_at q1 q2, hm_E_obj hx0]) rfl hi hd (fun H1 locs1 hP1 _ hS1 => kk H1 locs1 la ?_ hS1 hl)
  rw [hm_ws_arr (M := M) (M' := hm_wR M a i.toNatClampNeg x) hs r1 r2 (by
    simp only [hm_ar, hm_wR]
    congr 5
    funext j
    simp only [hm_up, va_up]
    by_cases hj : j = i.toNatClampNeg
    · subst hj
      simp only [and_self, if_true, hm_on, if_neg (show ¬ x = 0 by omega)]
    · simp [hj]) (fun b hb => hm_E_same rfl rfl (hm_up_ne hb))] at hP1
  exact hP1
/-- a final field, in its class's constructor -/
theorem jv_putRF (hC : hm_C X own cc nL ret d n S) {idx ci k a x : Nat} (hf : hm_FL own idx ci k true) (hown' : ∀ {C T}, vwCl[ci]? = some (C, T, hm_N ci) → C = own) (hin : hm_ini X) (hd : decode cc pc = .ok (.putfield idx, 3)) (hk : hm_kd (hm_ty ci k) = 2) (hs : S a = some (.inr ci)) (hz : x ≠ 0) (kk : hm_U X (pc + 3) ls st (hm_wR M a k x) Q) : hm_U X pc ls (.ref x :: .ref a :: st) M Q := by
  obtain ⟨⟨p, l, e, R, s⟩, ⟨m, args, below, meth, c⟩, ⟨dC, dI, dA, ad, A⟩, ⟨n', S', nL', cells, slots⟩⟩ := X
  obtain ⟨⟨hx, hb, -, -, hown, hts, -⟩, ⟨hA, hK, hok, hAn, -⟩, ⟨rfl, -, rfl, -, -, -, -, hr⟩⟩ := hC
  obtain ⟨hkN, C, T, hc, hiw, hl0, hty, hnm, hfin, hdc⟩ := hf
  have hCo := hown' hc
  intro H locs la hP hS hl
  obtain ⟨r1, r2⟩ := hr _ _ hs
  have hnf : ∀ v : Nat, narrow (hm_ty ci k) (.ref v) = .ref v ∧ fits (hm_ty ci k) (.ref v) = true := by
    intro v
    cases h : hm_ty ci k <;> rw [h] at hk <;> first | (exact ⟨rfl, rfl⟩) | (cases hk)
  refine va_putF hx hb hts hiw (hm_ty ci) hty hnm hown hK hP (hm_D hok hAn) hS (a - 1) (fs := hm_fs ad M a ci) (by rw [hm_ws_at r1 r2, hm_E_obj hs]) hc k hkN (hts _ hl0) (fun _ h => h) hfin hin (hdc.trans hCo) (hty k hkN) (hnf _).1 (hnf _).2 (by simp [hm_fs, hkN]) hd (fun H1 locs1 hP1 _ hS1 => kk H1 locs1 la ?_ hS1 hl)
  rw [hm_ws_put (M := M) (M' := hm_wR M a k x) hs r1 r2 hkN (by rw [hm_fv2 hk]; simp only [hm_wR]; rw [hm_up_at, hm_on, if_neg hz]; rfl) (fun b hb => hm_E_same rfl rfl (hm_up_ne hb)) (fun j hj => hm_fv_same rfl rfl (hm_up_nj hj))] at hP1
  exact hP1
end RowsB
def hm_roomA (d mc ms : Nat) : Room := { frames := d, cells := mc, slots := ms, locals := 64 * d }
def hm_QcA (dC : Nat → ClassId) (dI : Nat → Nat → Nat) (dA : FieldType → ClassId) (ad : Nat → Nat) (n : Nat) (A : Nat → Prop) (l' : List hm_Sh) (M : hm_M) : Array Value → State → Outcome → State → Prop := fun _ st oc t =>
  oc = .returned none ∧ (∃ ad' : Nat → Nat, hm_ag n ad ad' ∧ va_P (dC, dI) vwCl (hm_ws dA ad' (hm_sl l') l'.length M) t.heap ∧ hm_ok ad' l'.length ∧ ∀ i, i < l'.length → A (ad' (i + 1))) ∧ va_F A st t
def hm_KA (y : MethodName) (cc : ByteArray) (nL : Nat) (d : Nat) (l l' : List hm_Sh) (as : List Value) (M M' : hm_M) (mc ms : Nat) : Prop :=
  ∀ (la : Launch) (dC : Nat → ClassId) (dI : Nat → Nat → Nat) (dA : FieldType → ClassId) (ad : Nat → Nat) (sz : Nat), Met la y (.code y cc nL none :: gW) (hm_roomA d mc ms) (hm_Pc dC dI dA ad l.length (hm_sl l) sz as M) (hm_QcA dC dI dA ad l.length (hm_An ad l.length sz) l' M') mc ms (hm_An ad l.length sz)
def hm_QA (X0 : hm_X) (l' : List hm_Sh) (M : hm_M) (mc ms : Nat) : State → Prop :=
  match X0 with
  | ((p, l, e, R, s), (m, args, below, meth, c), (dC, dI, dA, ad, A), (n, S, nL, cells, slots)) => MQ below (hm_QcA dC dI dA ad n A l' M) args s mc ms A
section RowsC
variable {X0 X : hm_X} {own : String} {cc : ByteArray} {nL : Nat} {ret : Option FieldType} {d : Nat} {l : List hm_Sh} {ce sl mc ms : Nat} {pc : Nat} {ls : List (Nat × Value)} {st : List Value} {M : hm_M} {Q : State → Prop}
theorem jv_vretA (hC : hm_CA X0 X own cc nL none d l ce sl mc ms) (h1 : ce ≤ mc) (h2 : sl ≤ ms) (hd : decode cc pc = .ok (.return_, 1)) : hm_U X pc ls [] M (hm_QA X0 l M mc ms) := by
  obtain ⟨⟨p, l', e, R, s⟩, ⟨m, args, below, meth, c⟩, ⟨dC, dI, dA, ad, A⟩, ⟨n', S', nL', cells, slots⟩⟩ := X
  obtain ⟨⟨p0, l0, e0, R0, s0⟩, ⟨m0, args0, below0, meth0, c0⟩, ⟨dC0, dI0, dA0, ad0, A0⟩, ⟨n0, S0, nL0, cells0, slots0⟩⟩ := X0
  obtain ⟨⟨⟨hx, hb, hret, hml, hown, hts, hlk⟩, ⟨hA, hK, hok, hAn, hSt⟩, ⟨rfl, rfl, rfl, hfr, hlo, hce, hsl, hr⟩⟩, ⟨⟨rfl, rfl, rfl, rfl, rfl⟩, ⟨rfl, rfl, rfl, rfl, rfl⟩, ⟨rfl, rfl, rfl, rfl⟩, rfl, hn, hag⟩, ⟨rfl, rfl, hmc, hms⟩⟩ := hC
  intro H locs la hP hS hl
  refine W.widen (k := mc) (n := ms) h1 h2 ?_
  exact W.vret hx hb hret (fun t ht hW => ⟨rfl, ⟨ad, hag, by rw [ht]; exact hP, hok, hAn⟩, hS.F ht⟩) hS.2.2 hd hlk
theorem jv_callI (hC : hm_CA X0 X own cc nL ret d l ce sl mc ms) {y : MethodName} {cy : ByteArray} {nY dy np idx a k w : Nat} {l2 : List hm_Sh} {M1 : hm_M} (as : List Value) {st0 : List Value} (hk : hm_KA y cy nY dy l (l ++ l2) (.ref a :: as) M M1 k w) (hm : hm_MM y cy nY none np) (hi : Cond.instanceMethod y ∈ gW) (hyn : y.name = "<init>") (hl0 : Cond.methodLink own idx y ∈ gW)
    (hd : decode cc pc = .ok (.invokespecial idx, 3)) (hdd : dy + 1 ≤ d) (hn : as.length = np) (hst : st0 = as.reverse ++ .ref a :: st) (hw : (st.map fun v => v.category).sum ≤ 8) (hk1 : ce + k ≤ mc) (hw1 : sl + w ≤ ms) (hls : ∀ q ∈ ls, hm_le l.length q.2) (hst9 : ∀ v ∈ st, hm_le l.length v)
    (kk : ∀ X : hm_X, hm_CA X0 X own cc nL ret d (l ++ l2) (ce + k) (sl + w) mc ms → hm_U X (pc + 3) ls st M1 Q) : hm_U X pc ls st0 M Q := by
  obtain ⟨⟨p, l', e, R, s⟩, ⟨m, args, below, meth, c⟩, ⟨dC, dI, dA, ad, A⟩, ⟨n', S', nL', cells, slots⟩⟩ := X
  obtain ⟨⟨⟨hx, hb, hret, hml, hown, hts, hlk⟩, ⟨hA, hK, hok, hAn, hSt⟩, ⟨rfl, rfl, rfl, hfr, hlo, hce, hsl, hr⟩⟩, hE, ⟨rfl, rfl, hmc, hms⟩⟩ := hC
  obtain ⟨hm1, hm2, hm3, hm4, hm5, hm6, hm7⟩ := hm
  intro H locs la hP hS hl
  have hgd : GoodIn gW (.code y cy nY none :: gW) := fun w h => by
    rcases List.mem_cons.mp h with h | h
    · subst h; exact gW_good _ hm1
    · exact gW_good _ h
  have cw : CallB R s args own idx y cy nY none (.code y cy nY none :: gW) (hm_roomA dy k w) k w np ∧ y.name = "<init>" ∧ (Cond.instanceMethod y).before args s = true := by
    refine ⟨⟨rfl, rfl, Nat.le_trans hdd hfr, ?_, pay_in hts hgd, List.mem_cons_self, hts _ hm1, hts _ hm2, ⟨hm3, hm4⟩, ?_, hts _ hl0⟩, hyn, hts _ hi⟩
    · show 8 + (nY + 11) + 64 * dy ≤ R.locals
      omega
    · intro sig h
      rw [h] at hm5
      exact (Option.some.inj hm5).symm
  have hin := hm_An_in hA hAn hS
  have hrun := va_runI (below := below) (meth := meth) (e := e) (locs := locs) (As := as.map (hm_tv ad)) (b := ad a) (rest := st.map (hm_tv ad)) (g := F0 m pc la (st0.map (hm_tv ad))) ⟨hx, hb, hml, hown, hts⟩ (hk l' dC dI dA ad H.size) cw ⟨hm_blind, fun U hU hW => ⟨rfl, by rw [hU], by rw [hU]; exact hP, va_K.moved hW.alike hK, hok, hSt.to hS hU hW hin, hr⟩⟩ rfl (by rw [List.length_map]; exact hn) hl.1 (by rw [hst]; simp [hm_tv]) (hm_cat hw) hd ⟨Nat.le_trans hk1 hmc, Nat.le_trans hw1 hms⟩
  intro T hT X
  obtain ⟨v, st₀, t, T', L, h0, X', hL, e1, e2, ⟨hv, ⟨ad', hag, hPt, hok', hAn'⟩, hz, hkk⟩, go⟩ := hrun T hT X
  cases hv
  rw [h0] at hz hkk
  obtain ⟨t2, a1, b1⟩ := kk ((p, l', e, R, s), (m, args, below, meth, c), (dC, dI, dA, ad', A), ((l ++ l2).length, hm_sl (l ++ l2), nL', cells + k, slots + w))
    ⟨⟨⟨hx, hb, hret, hml, hown, hts, hlk⟩, ⟨hA, hK, hok', fun i hi => hin _ (hAn' i hi), hSt.ag hag⟩, ⟨rfl, rfl, rfl, hfr, hlo, Nat.le_trans hk1 hmc, Nat.le_trans hw1 hms, hm_sl_rng⟩⟩, by
      obtain ⟨⟨p0, l0, e0, R0, s0⟩, ⟨m0, args0, below0, meth0, c0⟩, ⟨dC0, dI0, dA0, ad0, A0⟩, ⟨n0, S0, nL0, cells0, slots0⟩⟩ := X0
      obtain ⟨g1, g2, g3, g4, g5, g6⟩ := hE
      exact ⟨g1, g2, g3, g4, by rw [List.length_append]; omega, fun k hk => (hag k (by omega)).trans (g6 k hk)⟩, ⟨rfl, rfl, hmc, hms⟩⟩
    T'.heap (locs ++ L) la (by rw [e1]; exact hPt)
    ⟨Nat.le_trans hS.1 (by rw [e1]; exact hz), fun q h1 h2 => by rw [e1, hkk q (Nat.lt_of_lt_of_le h1 hS.1) (fun z => h2 (hin q z))]; exact hS.2.1 q h1 h2, fun q hq => by
      rcases List.mem_append.mp hq with h | h
      · exact hS.2.2 q h
      · exact hin _ (hL q h)⟩ (by rw [hm_ls_ag hag hls]; exact hl) T' rfl X'
  refine ⟨t2, go t2 ?_, b1⟩
  rw [hm_st_ag hag hst9] at a1
  exact a1
end RowsC
theorem hm_enterA {y : MethodName} {cc : ByteArray} {nL d np mc ms : Nat} {l l' : List hm_Sh} {as : List Value} {M M' : hm_M} (hm : hm_MM y cc nL none np) (hyn : y.name = "<init>") (ha : (lg_sl as).length ≤ nL)
    (body : ∀ X : hm_X, hm_ini X → hm_CA X X y.cls cc nL none d l 0 0 mc ms → hm_U X 0 (lv_args 0 as) [] M (hm_QA X l' M' mc ms)) : hm_KA y cc nL d l l' as M M' mc ms := by
  intro la dC dI dA ad sz
  refine Met.ofW (cc := cc) (maxL := nL) (ret := none) hm.2.2.2.2.2.1 rfl ?_
  intro p e s m args below meth c s₁ B hml hv
  obtain ⟨rfl, hsz, hP, hK, hok, hSt, hr⟩ := hv
  have hts := atoms_spec (ws := Cond.code y cc nL none :: gW) B.pre
  subst hsz
  rw [lg_entry_eq]
  have hl := lv_entry (as.map (hm_tv ad)) (n := nL) (by rw [hm_sl_len]; exact ha)
  rw [hm_args_map] at hl
  exact body ((p, la, e, hm_roomA d mc ms, s), (m, (as.map (hm_tv ad)).toArray, below, meth, c), (dC, dI, dA, ad, hm_An ad l.length s.heap.size), (l.length, hm_sl l, nL, 0, 0))
    (((name_of_methodNamed B.named B.method).1).trans hyn)
    ⟨⟨⟨B.exec, B.bytes, B.returns, hml, findClass_of_methodNamed B.named, fun w hw => hts w (List.mem_cons_of_mem _ hw), B.notSynchronized⟩, ⟨fun q h => Or.inr h, hK, hok, fun i hi => Or.inl ⟨i, hi, rfl⟩, hSt⟩, ⟨rfl, rfl, rfl, Nat.le_refl _, Nat.le_refl _, Nat.zero_le _, Nat.zero_le _, hr⟩⟩, hm_Ext.rf _, ⟨rfl, rfl, Nat.le_refl _, Nat.le_refl _⟩⟩ s.heap [] _ hP va_S.rf hl
theorem hm_ini.ext {X0 X : hm_X} (h : hm_ini X0) (hE : hm_Ext X0 X) : hm_ini X := by
  obtain ⟨⟨p, l', e, R, s⟩, ⟨m, args, below, meth, c⟩, ⟨dC, dI, dA, ad, A⟩, ⟨n', S', nL', cells, slots⟩⟩ := X
  obtain ⟨⟨p0, l0, e0, R0, s0⟩, ⟨m0, args0, below0, meth0, c0⟩, ⟨dC0, dI0, dA0, ad0, A0⟩, ⟨n0, S0, nL0, cells0, slots0⟩⟩ := X0
  obtain ⟨-, ⟨-, -, -, rfl, -⟩, -⟩ := hE
  exact h
