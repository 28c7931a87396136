/-! THE RESOLVED LAYER: its lemmas -/
def isChap (v : Nat) : Prop := v = 5 ∨ v = 20
def isLaws (v : Nat) : Prop := v = 13 ∨ v = 28
def isHold (v : Nat) : Prop := v = 36 ∨ v = 60 ∨ v = 64 ∨ v = 68 ∨ v = 72
theorem isChap.d {v : Nat} (h : isChap v) : isChap (25 - v) := by rcases h with rfl | rfl <;> simp [isChap]
theorem isChap.l {v : Nat} (h : isChap v) : isLaws (v + 8) := by rcases h with rfl | rfl <;> simp [isLaws]
theorem isHold_36 : isHold 36 := Or.inl rfl
theorem nz_1 {v : Nat} : (v + 1 = 0) = False := eq_false (by omega)
theorem nz_2 {v : Nat} : (v + 2 = 0) = False := eq_false (by omega)
theorem nz_3 {v : Nat} : (v + 3 = 0) = False := eq_false (by omega)
theorem nz_4 {v : Nat} : (v + 4 = 0) = False := eq_false (by omega)
theorem nz_5 {v : Nat} : (v + 5 = 0) = False := eq_false (by omega)
theorem nz_6 {v : Nat} : (v + 6 = 0) = False := eq_false (by omega)
theorem nz_7 {v : Nat} : (v + 7 = 0) = False := eq_false (by omega)
theorem nz_8 {v : Nat} : (v + 8 = 0) = False := eq_false (by omega)
theorem nz_c {v : Nat} (h : isChap v) : (v = 0) = False := by rcases h with rfl | rfl <;> simp
theorem S0_c {v : Nat} (h : isChap v) : S0 v = some (.inr 0) := by rcases h with rfl | rfl <;> rfl
theorem S0_lw {v : Nat} (h : isLaws v) : S0 v = some (.inr 3) := by rcases h with rfl | rfl <;> rfl
theorem S0_h {v : Nat} (h : isHold v) : S0 v = some (.inr 2) := by rcases h with rfl | rfl | rfl | rfl | rfl <;> rfl
theorem rT_c5 {c v : Nat} (h : isChap v) : rT c v 5 = v + 1 := by rcases h with rfl | rfl <;> rfl
theorem ib_c5 {v : Nat} (h : isChap v) {i : Int32} : hm_ib S0 (v + 1) .long i = hn_ix 6 i := by rcases h with rfl | rfl <;> rfl
theorem rT_c6 {c v : Nat} (h : isChap v) : rT c v 6 = v + 2 := by rcases h with rfl | rfl <;> rfl
theorem ib_c6 {v : Nat} (h : isChap v) {i : Int32} : hm_ib S0 (v + 2) .int i = hn_ix 6 i := by rcases h with rfl | rfl <;> rfl
theorem rT_c7 {c v : Nat} (h : isChap v) : rT c v 7 = v + 3 := by rcases h with rfl | rfl <;> rfl
theorem ib_c7 {v : Nat} (h : isChap v) {i : Int32} : hm_ib S0 (v + 3) .int i = hn_ix 6 i := by rcases h with rfl | rfl <;> rfl
theorem rT_c8 {c v : Nat} (h : isChap v) : rT c v 8 = v + 4 := by rcases h with rfl | rfl <;> rfl
theorem ib_c8 {v : Nat} (h : isChap v) {i : Int32} : hm_ib S0 (v + 4) .int i = hn_ix 12 i := by rcases h with rfl | rfl <;> rfl
theorem rT_c9 {c v : Nat} (h : isChap v) : rT c v 9 = v + 5 := by rcases h with rfl | rfl <;> rfl
theorem ib_c9 {v : Nat} (h : isChap v) {i : Int32} : hm_ib S0 (v + 5) .int i = hn_ix 12 i := by rcases h with rfl | rfl <;> rfl
theorem rT_c10 {c v : Nat} (h : isChap v) : rT c v 10 = v + 6 := by rcases h with rfl | rfl <;> rfl
theorem ib_c10 {v : Nat} (h : isChap v) {i : Int32} : hm_ib S0 (v + 6) .int i = hn_ix 12 i := by rcases h with rfl | rfl <;> rfl
theorem rT_c11 {c v : Nat} (h : isChap v) : rT c v 11 = v + 7 := by rcases h with rfl | rfl <;> rfl
theorem ib_c11 {v : Nat} (h : isChap v) {i : Int32} : hm_ib S0 (v + 7) .int i = hn_ix 12 i := by rcases h with rfl | rfl <;> rfl
theorem rT_c12 {c v : Nat} (h : isChap v) : rT c v 12 = v + 8 := by rcases h with rfl | rfl <;> rfl
theorem rT_w0 {c v : Nat} (h : isLaws v) : rT c v 0 = v + 1 := by rcases h with rfl | rfl <;> rfl
theorem ib_w0 {v : Nat} (h : isLaws v) {i : Int32} : hm_ib S0 (v + 1) .int i = hn_ix 1000 i := by rcases h with rfl | rfl <;> rfl
theorem rT_w2 {c v : Nat} (h : isLaws v) : rT c v 2 = v + 2 := by rcases h with rfl | rfl <;> rfl
theorem ib_w2 {v : Nat} (h : isLaws v) {i : Int32} : hm_ib S0 (v + 2) .int i = hn_ix 4 i := by rcases h with rfl | rfl <;> rfl
theorem rT_w3 {c v : Nat} (h : isLaws v) : rT c v 3 = v + 3 := by rcases h with rfl | rfl <;> rfl
theorem ib_w3 {v : Nat} (h : isLaws v) {i : Int32} : hm_ib S0 (v + 3) .int i = hn_ix 4 i := by rcases h with rfl | rfl <;> rfl
theorem rT_w4 {c v : Nat} (h : isLaws v) : rT c v 4 = v + 4 := by rcases h with rfl | rfl <;> rfl
theorem ib_w4 {v : Nat} (h : isLaws v) {i : Int32} : hm_ib S0 (v + 4) .int i = hn_ix 32 i := by rcases h with rfl | rfl <;> rfl
theorem rT_w5 {c v : Nat} (h : isLaws v) : rT c v 5 = v + 5 := by rcases h with rfl | rfl <;> rfl
theorem ib_w5 {v : Nat} (h : isLaws v) {i : Int32} : hm_ib S0 (v + 5) .int i = hn_ix 7 i := by rcases h with rfl | rfl <;> rfl
theorem rT_h0 {c v : Nat} (h : isHold v) : rT c v 0 = v + 1 := by rcases h with rfl | rfl | rfl | rfl | rfl <;> rfl
theorem ib_h0 {v : Nat} (h : isHold v) {i : Int32} : hm_ib S0 (v + 1) .int i = hn_ix 12 i := by rcases h with rfl | rfl | rfl | rfl | rfl <;> rfl
theorem rT_h3 {c v : Nat} (h : isHold v) : rT c v 3 = v + 2 := by rcases h with rfl | rfl | rfl | rfl | rfl <;> rfl
theorem ib_h3 {v : Nat} (h : isHold v) {i : Int32} : hm_ib S0 (v + 2) .int i = hn_ix 8 i := by rcases h with rfl | rfl | rfl | rfl | rfl <;> rfl
theorem rT_h4 {c v : Nat} (h : isHold v) : rT c v 4 = v + 3 := by rcases h with rfl | rfl | rfl | rfl | rfl <;> rfl
theorem ib_h4 {v : Nat} (h : isHold v) {i : Int32} : hm_ib S0 (v + 3) .int i = hn_ix 8 i := by rcases h with rfl | rfl | rfl | rfl | rfl <;> rfl
theorem ib_4 {i : Int32} : hm_ib S0 4 .byte i = hn_ix 1000 i := rfl
theorem ib_6 {i : Int32} : hm_ib S0 6 .long i = hn_ix 6 i := rfl
theorem ib_7 {i : Int32} : hm_ib S0 7 .int i = hn_ix 6 i := rfl
theorem ib_8 {i : Int32} : hm_ib S0 8 .int i = hn_ix 6 i := rfl
theorem ib_9 {i : Int32} : hm_ib S0 9 .int i = hn_ix 12 i := rfl
theorem ib_10 {i : Int32} : hm_ib S0 10 .int i = hn_ix 12 i := rfl
theorem ib_11 {i : Int32} : hm_ib S0 11 .int i = hn_ix 12 i := rfl
theorem ib_12 {i : Int32} : hm_ib S0 12 .int i = hn_ix 12 i := rfl
theorem ib_14 {i : Int32} : hm_ib S0 14 .int i = hn_ix 1000 i := rfl
theorem ib_15 {i : Int32} : hm_ib S0 15 .int i = hn_ix 4 i := rfl
theorem ib_16 {i : Int32} : hm_ib S0 16 .int i = hn_ix 4 i := rfl
theorem ib_17 {i : Int32} : hm_ib S0 17 .int i = hn_ix 32 i := rfl
theorem ib_18 {i : Int32} : hm_ib S0 18 .int i = hn_ix 7 i := rfl
theorem ib_21 {i : Int32} : hm_ib S0 21 .long i = hn_ix 6 i := rfl
theorem ib_22 {i : Int32} : hm_ib S0 22 .int i = hn_ix 6 i := rfl
theorem ib_23 {i : Int32} : hm_ib S0 23 .int i = hn_ix 6 i := rfl
theorem ib_24 {i : Int32} : hm_ib S0 24 .int i = hn_ix 12 i := rfl
theorem ib_25 {i : Int32} : hm_ib S0 25 .int i = hn_ix 12 i := rfl
theorem ib_26 {i : Int32} : hm_ib S0 26 .int i = hn_ix 12 i := rfl
theorem ib_27 {i : Int32} : hm_ib S0 27 .int i = hn_ix 12 i := rfl
theorem ib_29 {i : Int32} : hm_ib S0 29 .int i = hn_ix 1000 i := rfl
theorem ib_30 {i : Int32} : hm_ib S0 30 .int i = hn_ix 4 i := rfl
theorem ib_31 {i : Int32} : hm_ib S0 31 .int i = hn_ix 4 i := rfl
theorem ib_32 {i : Int32} : hm_ib S0 32 .int i = hn_ix 32 i := rfl
theorem ib_33 {i : Int32} : hm_ib S0 33 .int i = hn_ix 7 i := rfl
theorem ib_34 {i : Int32} : hm_ib S0 34 .int i = hn_ix 12 i := rfl
theorem ib_35 {i : Int32} : hm_ib S0 35 .long i = hn_ix 2496 i := rfl
theorem ib_37 {i : Int32} : hm_ib S0 37 .int i = hn_ix 12 i := rfl
theorem ib_38 {i : Int32} : hm_ib S0 38 .int i = hn_ix 8 i := rfl
theorem ib_39 {i : Int32} : hm_ib S0 39 .int i = hn_ix 8 i := rfl
theorem ib_41 {i : Int32} : hm_ib S0 41 .int i = hn_ix 20 i := rfl
theorem ib_42 {i : Int32} : hm_ib S0 42 .int i = hn_ix 20 i := rfl
theorem ib_44 {i : Int32} : hm_ib S0 44 .int i = hn_ix 204 i := rfl
theorem ib_45 {i : Int32} : hm_ib S0 45 .int i = hn_ix 16 i := rfl
theorem ib_46 {i : Int32} : hm_ib S0 46 .int i = hn_ix 6 i := rfl
theorem ib_48 {i : Int32} : hm_ib S0 48 .int i = hn_ix 144 i := rfl
theorem ib_49 {i : Int32} : hm_ib S0 49 .int i = hn_ix 4096 i := rfl
theorem ib_50 {i : Int32} : hm_ib S0 50 .int i = hn_ix 12 i := rfl
theorem ib_52 {i : Int32} : hm_ib S0 52 .long i = hn_ix 24 i := rfl
theorem ib_53 {i : Int32} : hm_ib S0 53 .int i = hn_ix 1536 i := rfl
theorem ib_54 {i : Int32} : hm_ib S0 54 .int i = hn_ix 24 i := rfl
theorem ib_56 {i : Int32} : hm_ib S0 56 .int i = hn_ix 64 i := rfl
theorem ib_57 {i : Int32} : hm_ib S0 57 .int i = hn_ix 64 i := rfl
theorem ib_58 {i : Int32} : hm_ib S0 58 .int i = hn_ix 64 i := rfl
theorem ib_61 {i : Int32} : hm_ib S0 61 .int i = hn_ix 12 i := rfl
theorem ib_62 {i : Int32} : hm_ib S0 62 .int i = hn_ix 8 i := rfl
theorem ib_63 {i : Int32} : hm_ib S0 63 .int i = hn_ix 8 i := rfl
theorem ib_65 {i : Int32} : hm_ib S0 65 .int i = hn_ix 12 i := rfl
theorem ib_66 {i : Int32} : hm_ib S0 66 .int i = hn_ix 8 i := rfl
theorem ib_67 {i : Int32} : hm_ib S0 67 .int i = hn_ix 8 i := rfl
theorem ib_69 {i : Int32} : hm_ib S0 69 .int i = hn_ix 12 i := rfl
theorem ib_70 {i : Int32} : hm_ib S0 70 .int i = hn_ix 8 i := rfl
theorem ib_71 {i : Int32} : hm_ib S0 71 .int i = hn_ix 8 i := rfl
theorem ib_73 {i : Int32} : hm_ib S0 73 .int i = hn_ix 12 i := rfl
theorem ib_74 {i : Int32} : hm_ib S0 74 .int i = hn_ix 8 i := rfl
theorem ib_75 {i : Int32} : hm_ib S0 75 .int i = hn_ix 8 i := rfl
theorem ib_77 {i : Int32} : hm_ib S0 77 .int i = hn_ix 1000 i := rfl
theorem ib_78 {i : Int32} : hm_ib S0 78 .int i = hn_ix 1002 i := rfl
theorem ib_79 {i : Int32} : hm_ib S0 79 .int i = hn_ix 1002 i := rfl
theorem ib_80 {i : Int32} : hm_ib S0 80 .long i = hn_ix 1002 i := rfl
theorem ib_81 {i : Int32} : hm_ib S0 81 .long i = hn_ix 22 i := rfl
theorem ib_82 {i : Int32} : hm_ib S0 82 .int i = hn_ix 160 i := rfl
theorem ib_83 {i : Int32} : hm_ib S0 83 .int i = hn_ix 2200 i := rfl
theorem ib_84 {i : Int32} : hm_ib S0 84 .int i = hn_ix 2200 i := rfl
theorem ib_85 {i : Int32} : hm_ib S0 85 .long i = hn_ix 6 i := rfl
theorem ib_86 {i : Int32} : hm_ib S0 86 .int i = hn_ix 7 i := rfl
theorem ib_87 {i : Int32} : hm_ib S0 87 .int i = hn_ix 1100 i := rfl
theorem ib_88 {i : Int32} : hm_ib S0 88 .int i = hn_ix 1000 i := rfl
theorem ib_89 {i : Int32} : hm_ib S0 89 .boolean i = hn_ix 4 i := rfl
theorem ib_90 {i : Int32} : hm_ib S0 90 .int i = hn_ix 12 i := rfl
theorem ib_91 {i : Int32} : hm_ib S0 91 .int i = hn_ix 12 i := rfl
theorem ib_92 {i : Int32} : hm_ib S0 92 .int i = hn_ix 12 i := rfl
theorem ib_93 {i : Int32} : hm_ib S0 93 .int i = hn_ix 12 i := rfl
theorem ib_94 {i : Int32} : hm_ib S0 94 .int i = hn_ix 6 i := rfl
theorem ib_95 {i : Int32} : hm_ib S0 95 .int i = hn_ix 1536 i := rfl
theorem ib_96 {i : Int32} : hm_ib S0 96 .int i = hn_ix 384 i := rfl
theorem ib_97 {i : Int32} : hm_ib S0 97 .int i = hn_ix 384 i := rfl
theorem ib_98 {i : Int32} : hm_ib S0 98 .int i = hn_ix 384 i := rfl
theorem ib_99 {i : Int32} : hm_ib S0 99 .long i = hn_ix 1 i := rfl
theorem hg_T {β : Type} {i : Decidable True} {x : Option β} : @hg β True i x = x := if_pos trivial
def em {α : Type} (c : Nat) (x : Option (α × hn)) : Option (α × hm_M) := match x with
  | some (r, N) => some (r, (N.1, N.2, rT c))
  | none => none
def emv (c : Nat) (x : Option hn) : Option hm_M := match x with
  | some N => some (N.1, N.2, rT c)
  | none => none
theorem em_s {α : Type} {c : Nat} {r : α} {N : hn} : em c (some (r, N)) = some (r, (N.1, N.2, rT c)) := rfl
theorem em_n {α : Type} {c : Nat} : em (α := α) c none = none := rfl
theorem em_g {α : Type} {c : Nat} {p : Prop} [Decidable p] {x : Option (α × hn)} : em c (hg p x) = hg p (em c x) := by unfold hg; split <;> rfl
theorem em_i {α : Type} {c : Nat} {p : Prop} [Decidable p] {x y : Option (α × hn)} : em c (if p then x else y) = if p then em c x else em c y := by split <;> rfl
theorem em_l {α γ : Type} {c : Nat} {e : γ} {k : γ → Option (α × hn)} : em c (hl e k) = hl e (fun x => em c (k x)) := rfl
theorem em_b {α β : Type} {c : Nat} {x : Option (β × hn)} {k : β → hn → Option (α × hn)} : em c (hbN x k) = hbN x (fun r N => em c (k r N)) := by cases x <;> rfl
theorem em_v {α : Type} {c : Nat} {x : Option hn} {k : hn → Option (α × hn)} : em c (hvN x k) = hvN x (fun N => em c (k N)) := by cases x <;> rfl
theorem emv_s {c : Nat} {N : hn} : emv c (some N) = some (N.1, N.2, rT c) := rfl
theorem emv_n {c : Nat} : emv c none = none := rfl
theorem emv_g {c : Nat} {p : Prop} [Decidable p] {x : Option hn} : emv c (hg p x) = hg p (emv c x) := by unfold hg; split <;> rfl
theorem emv_i {c : Nat} {p : Prop} [Decidable p] {x y : Option hn} : emv c (if p then x else y) = if p then emv c x else emv c y := by split <;> rfl
theorem emv_l {γ : Type} {c : Nat} {e : γ} {k : γ → Option hn} : emv c (hl e k) = hl e (fun x => emv c (k x)) := rfl
theorem emv_b {β : Type} {c : Nat} {x : Option (β × hn)} {k : β → hn → Option hn} : emv c (hbN x k) = hbN x (fun r N => emv c (k r N)) := by cases x <;> rfl
theorem emv_v {c : Nat} {x : Option hn} {k : hn → Option hn} : emv c (hvN x k) = hvN x (fun N => emv c (k N)) := by cases x <;> rfl
theorem hb_em {α β : Type} {c : Nat} {x : Option (α × hn)} {k : α → hm_M → Option β} : hb (em c x) k = hbN x (fun r N => k r (N.1, N.2, rT c)) := by cases x <;> rfl
theorem hv_em {β : Type} {c : Nat} {x : Option hn} {k : hm_M → Option β} : hv (emv c x) k = hvN x (fun N => k (N.1, N.2, rT c)) := by cases x <;> rfl
theorem hl_wI {β : Type} {c : Nat} {N : hn} {a i : Nat} {v : Int32} {k : hm_M → β} : hl (hm_wI (N.1, N.2, rT c) a i v) k = hl (hn_wI N a i v) (fun N' => k (N'.1, N'.2, rT c)) := rfl
theorem hl_wL {β : Type} {c : Nat} {N : hn} {a i : Nat} {v : Int64} {k : hm_M → β} : hl (hm_wL (N.1, N.2, rT c) a i v) k = hl (hn_wL N a i v) (fun N' => k (N'.1, N'.2, rT c)) := rfl
theorem hl_cp {β : Type} {c : Nat} {N : hn} {a b : Nat} {p q r : Int32} {k : hm_M → β} : hl (hm_cp (N.1, N.2, rT c) a p b q r) k = hl (hn_cp N a p b q r) (fun N' => k (N'.1, N'.2, rT c)) := rfl
theorem hl_n {β : Type} {e : Nat} {k : Nat → β} : hl e k = k e := rfl

