/-! the resolved layer is right: conditions without their deciders -/
noncomputable def my_i {α : Type} (p : Prop) (a b : α) : α := @ite α p (Classical.propDecidable p) a b
theorem my_ite {α : Type} {p : Prop} {i : Decidable p} {a b : α} : @ite α p i a b = my_i p a b := by
  unfold my_i
  by_cases h : p
  · rw [if_pos h, if_pos h]
  · rw [if_neg h, if_neg h]
theorem my_hg {β : Type} {p : Prop} {i : Decidable p} {x : Option β} : @hg β p i x = my_i p x none := by
  unfold hg
  exact my_ite
theorem my_T {α : Type} {a b : α} : my_i True a b = a := if_pos trivial
theorem my_F {α : Type} {a b : α} : my_i False a b = b := if_neg id
theorem em_my {α : Type} {c : Nat} {p : Prop} {x y : Option (α × hn)} : em c (my_i p x y) = my_i p (em c x) (em c y) := by
  by_cases h : p
  · unfold my_i; rw [if_pos h, if_pos h]
  · unfold my_i; rw [if_neg h, if_neg h]
theorem emv_my {c : Nat} {p : Prop} {x y : Option hn} : emv c (my_i p x y) = my_i p (emv c x) (emv c y) := by
  by_cases h : p
  · unfold my_i; rw [if_pos h, if_pos h]
  · unfold my_i; rw [if_neg h, if_neg h]
/-! as in the resolved layer's lemmas, but never by unfolding -/
theorem em_s' {α : Type} {c : Nat} {r : α} {N : hn} : em c (some (r, N)) = some (r, (N.1, N.2, rT c)) := Eq.trans (Eq.refl _) (Eq.refl _)
theorem em_n' {α : Type} {c : Nat} : em (α := α) c none = none := Eq.trans (Eq.refl _) (Eq.refl _)
theorem em_l' {α γ : Type} {c : Nat} {e : γ} {k : γ → Option (α × hn)} : em c (hl e k) = hl e (fun x => em c (k x)) := Eq.trans (Eq.refl _) (Eq.refl _)
theorem emv_s' {c : Nat} {N : hn} : emv c (some N) = some (N.1, N.2, rT c) := Eq.trans (Eq.refl _) (Eq.refl _)
theorem emv_n' {c : Nat} : emv c none = none := Eq.trans (Eq.refl _) (Eq.refl _)
theorem emv_l' {γ : Type} {c : Nat} {e : γ} {k : γ → Option hn} : emv c (hl e k) = hl e (fun x => emv c (k x)) := Eq.trans (Eq.refl _) (Eq.refl _)
theorem hl_wI' {β : Type} {c : Nat} {N : hn} {a i : Nat} {v : Int32} {k : hm_M → β} : hl (hm_wI (N.1, N.2, rT c) a i v) k = hl (hn_wI N a i v) (fun N' => k (N'.1, N'.2, rT c)) := Eq.trans (Eq.refl _) (Eq.refl _)
theorem hl_wL' {β : Type} {c : Nat} {N : hn} {a i : Nat} {v : Int64} {k : hm_M → β} : hl (hm_wL (N.1, N.2, rT c) a i v) k = hl (hn_wL N a i v) (fun N' => k (N'.1, N'.2, rT c)) := Eq.trans (Eq.refl _) (Eq.refl _)
theorem hl_cp' {β : Type} {c : Nat} {N : hn} {a b : Nat} {p q r : Int32} {k : hm_M → β} : hl (hm_cp (N.1, N.2, rT c) a p b q r) k = hl (hn_cp N a p b q r) (fun N' => k (N'.1, N'.2, rT c)) := Eq.trans (Eq.refl _) (Eq.refl _)
theorem hl_n' {β : Type} {e : Nat} {k : Nat → β} : hl e k = k e := Eq.trans (Eq.refl _) (Eq.refl _)
