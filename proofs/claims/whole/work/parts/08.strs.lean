/-! texts: the calls (to be proved) -/
section Rows6
variable {X : hm_X} {cc : ByteArray} {nL : Nat} {ret : Option FieldType} {d n : Nat} {S : hm_S} {pc : Nat} {ls : List (Nat × Value)} {st : List Value} {M : hm_M} {Q : State → Prop}
theorem jv_strlen0 {k : Nat} (hC : hm_C X RX7 cc nL ret d n S) (hd : decode cc pc = .ok (.invokevirtual k, 3)) (hk : 6 ≤ d) (kk : hm_U X (pc + 3) ls (.int 106 :: st) M Q) : hm_U X pc ls (.ref 1000000 :: st) M Q := sorry
theorem jv_strat0 {k : Nat} {i : Int32} (hC : hm_C X RX7 cc nL ret d n S) (hd : decode cc pc = .ok (.invokevirtual k, 3)) (hk : 6 ≤ d) (hi : 0 ≤ i ∧ i < 106) (kk : hm_U X (pc + 3) ls (.int (hm_chr 0 i) :: st) M Q) : hm_U X pc ls (.int i :: .ref 1000000 :: st) M Q := sorry
theorem jv_strix1 {k : Nat} {c : Int32} (hC : hm_C X RX7 cc nL ret d n S) (hd : decode cc pc = .ok (.invokevirtual k, 3)) (hk : 6 ≤ d) (kk : hm_U X (pc + 3) ls (.int (hm_ix 1 c) :: st) M Q) : hm_U X pc ls (.int c :: .ref 1000001 :: st) M Q := sorry
end Rows6
