/-! THE PURE PART: references and shapes of the 99 cells (by program) -/
def S0 : hm_S := hm_sl sh4
def rT (c a k : Nat) : Nat := match a, k with
  | 1, 0 => 2
  | 1, 1 => 19
  | 1, 2 => 36
  | 1, 3 => 40
  | 1, 4 => 43
  | 1, 5 => 47
  | 1, 6 => 51
  | 1, 7 => 55
  | 1, 8 => 59
  | 2, 0 => 3
  | 2, 1 => 25 - c
  | 3, 0 => 4
  | 5, 5 => 6
  | 5, 6 => 7
  | 5, 7 => 8
  | 5, 8 => 9
  | 5, 9 => 10
  | 5, 10 => 11
  | 5, 11 => 12
  | 5, 12 => 13
  | 13, 0 => 14
  | 13, 2 => 15
  | 13, 3 => 16
  | 13, 4 => 17
  | 13, 5 => 18
  | 19, 0 => c
  | 19, 1 => 34
  | 19, 2 => 35
  | 20, 5 => 21
  | 20, 6 => 22
  | 20, 7 => 23
  | 20, 8 => 24
  | 20, 9 => 25
  | 20, 10 => 26
  | 20, 11 => 27
  | 20, 12 => 28
  | 28, 0 => 29
  | 28, 2 => 30
  | 28, 3 => 31
  | 28, 4 => 32
  | 28, 5 => 33
  | 36, 0 => 37
  | 36, 3 => 38
  | 36, 4 => 39
  | 40, 0 => 41
  | 40, 1 => 42
  | 43, 0 => 44
  | 43, 1 => 45
  | 43, 4 => 46
  | 47, 0 => 48
  | 47, 1 => 49
  | 47, 2 => 50
  | 51, 0 => 52
  | 51, 1 => 53
  | 51, 2 => 54
  | 55, 0 => 56
  | 55, 1 => 57
  | 55, 2 => 58
  | 59, 0 => 60
  | 59, 1 => 64
  | 59, 2 => 68
  | 59, 3 => 72
  | 60, 0 => 61
  | 60, 3 => 62
  | 60, 4 => 63
  | 64, 0 => 65
  | 64, 3 => 66
  | 64, 4 => 67
  | 68, 0 => 69
  | 68, 3 => 70
  | 68, 4 => 71
  | 72, 0 => 73
  | 72, 3 => 74
  | 72, 4 => 75
  | 76, 1 => 77
  | 76, 4 => 78
  | 76, 5 => 79
  | 76, 6 => 80
  | 76, 9 => 81
  | 76, 10 => 82
  | 76, 11 => 83
  | 76, 12 => 84
  | 76, 14 => 85
  | 76, 18 => 86
  | 76, 19 => 87
  | 76, 20 => 88
  | 76, 22 => 89
  | 76, 24 => 90
  | 76, 25 => 91
  | 76, 26 => 92
  | 76, 27 => 93
  | 76, 29 => 94
  | 76, 30 => 95
  | 76, 31 => 96
  | 76, 32 => 97
  | 76, 33 => 98
  | _, _ => 0
theorem rT_1_0 {c : Nat} : rT c 1 0 = 2 := rfl
theorem rT_1_1 {c : Nat} : rT c 1 1 = 19 := rfl
theorem rT_1_2 {c : Nat} : rT c 1 2 = 36 := rfl
theorem rT_1_3 {c : Nat} : rT c 1 3 = 40 := rfl
theorem rT_1_4 {c : Nat} : rT c 1 4 = 43 := rfl
theorem rT_1_5 {c : Nat} : rT c 1 5 = 47 := rfl
theorem rT_1_6 {c : Nat} : rT c 1 6 = 51 := rfl
theorem rT_1_7 {c : Nat} : rT c 1 7 = 55 := rfl
theorem rT_1_8 {c : Nat} : rT c 1 8 = 59 := rfl
theorem rT_2_0 {c : Nat} : rT c 2 0 = 3 := rfl
theorem rT_2_1 {c : Nat} : rT c 2 1 = 25 - c := rfl
theorem rT_3_0 {c : Nat} : rT c 3 0 = 4 := rfl
theorem rT_5_5 {c : Nat} : rT c 5 5 = 6 := rfl
theorem rT_5_6 {c : Nat} : rT c 5 6 = 7 := rfl
theorem rT_5_7 {c : Nat} : rT c 5 7 = 8 := rfl
theorem rT_5_8 {c : Nat} : rT c 5 8 = 9 := rfl
theorem rT_5_9 {c : Nat} : rT c 5 9 = 10 := rfl
theorem rT_5_10 {c : Nat} : rT c 5 10 = 11 := rfl
theorem rT_5_11 {c : Nat} : rT c 5 11 = 12 := rfl
theorem rT_5_12 {c : Nat} : rT c 5 12 = 13 := rfl
theorem rT_13_0 {c : Nat} : rT c 13 0 = 14 := rfl
theorem rT_13_2 {c : Nat} : rT c 13 2 = 15 := rfl
theorem rT_13_3 {c : Nat} : rT c 13 3 = 16 := rfl
theorem rT_13_4 {c : Nat} : rT c 13 4 = 17 := rfl
theorem rT_13_5 {c : Nat} : rT c 13 5 = 18 := rfl
theorem rT_19_0 {c : Nat} : rT c 19 0 = c := rfl
theorem rT_19_1 {c : Nat} : rT c 19 1 = 34 := rfl
theorem rT_19_2 {c : Nat} : rT c 19 2 = 35 := rfl
theorem rT_20_5 {c : Nat} : rT c 20 5 = 21 := rfl
theorem rT_20_6 {c : Nat} : rT c 20 6 = 22 := rfl
theorem rT_20_7 {c : Nat} : rT c 20 7 = 23 := rfl
theorem rT_20_8 {c : Nat} : rT c 20 8 = 24 := rfl
theorem rT_20_9 {c : Nat} : rT c 20 9 = 25 := rfl
theorem rT_20_10 {c : Nat} : rT c 20 10 = 26 := rfl
theorem rT_20_11 {c : Nat} : rT c 20 11 = 27 := rfl
theorem rT_20_12 {c : Nat} : rT c 20 12 = 28 := rfl
theorem rT_28_0 {c : Nat} : rT c 28 0 = 29 := rfl
theorem rT_28_2 {c : Nat} : rT c 28 2 = 30 := rfl
theorem rT_28_3 {c : Nat} : rT c 28 3 = 31 := rfl
theorem rT_28_4 {c : Nat} : rT c 28 4 = 32 := rfl
theorem rT_28_5 {c : Nat} : rT c 28 5 = 33 := rfl
theorem rT_36_0 {c : Nat} : rT c 36 0 = 37 := rfl
theorem rT_36_3 {c : Nat} : rT c 36 3 = 38 := rfl
theorem rT_36_4 {c : Nat} : rT c 36 4 = 39 := rfl
theorem rT_40_0 {c : Nat} : rT c 40 0 = 41 := rfl
theorem rT_40_1 {c : Nat} : rT c 40 1 = 42 := rfl
theorem rT_43_0 {c : Nat} : rT c 43 0 = 44 := rfl
theorem rT_43_1 {c : Nat} : rT c 43 1 = 45 := rfl
theorem rT_43_4 {c : Nat} : rT c 43 4 = 46 := rfl
theorem rT_47_0 {c : Nat} : rT c 47 0 = 48 := rfl
theorem rT_47_1 {c : Nat} : rT c 47 1 = 49 := rfl
theorem rT_47_2 {c : Nat} : rT c 47 2 = 50 := rfl
theorem rT_51_0 {c : Nat} : rT c 51 0 = 52 := rfl
theorem rT_51_1 {c : Nat} : rT c 51 1 = 53 := rfl
theorem rT_51_2 {c : Nat} : rT c 51 2 = 54 := rfl
theorem rT_55_0 {c : Nat} : rT c 55 0 = 56 := rfl
theorem rT_55_1 {c : Nat} : rT c 55 1 = 57 := rfl
theorem rT_55_2 {c : Nat} : rT c 55 2 = 58 := rfl
theorem rT_59_0 {c : Nat} : rT c 59 0 = 60 := rfl
theorem rT_59_1 {c : Nat} : rT c 59 1 = 64 := rfl
theorem rT_59_2 {c : Nat} : rT c 59 2 = 68 := rfl
theorem rT_59_3 {c : Nat} : rT c 59 3 = 72 := rfl
theorem rT_60_0 {c : Nat} : rT c 60 0 = 61 := rfl
theorem rT_60_3 {c : Nat} : rT c 60 3 = 62 := rfl
theorem rT_60_4 {c : Nat} : rT c 60 4 = 63 := rfl
theorem rT_64_0 {c : Nat} : rT c 64 0 = 65 := rfl
theorem rT_64_3 {c : Nat} : rT c 64 3 = 66 := rfl
theorem rT_64_4 {c : Nat} : rT c 64 4 = 67 := rfl
theorem rT_68_0 {c : Nat} : rT c 68 0 = 69 := rfl
theorem rT_68_3 {c : Nat} : rT c 68 3 = 70 := rfl
theorem rT_68_4 {c : Nat} : rT c 68 4 = 71 := rfl
theorem rT_72_0 {c : Nat} : rT c 72 0 = 73 := rfl
theorem rT_72_3 {c : Nat} : rT c 72 3 = 74 := rfl
theorem rT_72_4 {c : Nat} : rT c 72 4 = 75 := rfl
theorem rT_76_1 {c : Nat} : rT c 76 1 = 77 := rfl
theorem rT_76_4 {c : Nat} : rT c 76 4 = 78 := rfl
theorem rT_76_5 {c : Nat} : rT c 76 5 = 79 := rfl
theorem rT_76_6 {c : Nat} : rT c 76 6 = 80 := rfl
theorem rT_76_9 {c : Nat} : rT c 76 9 = 81 := rfl
theorem rT_76_10 {c : Nat} : rT c 76 10 = 82 := rfl
theorem rT_76_11 {c : Nat} : rT c 76 11 = 83 := rfl
theorem rT_76_12 {c : Nat} : rT c 76 12 = 84 := rfl
theorem rT_76_14 {c : Nat} : rT c 76 14 = 85 := rfl
theorem rT_76_18 {c : Nat} : rT c 76 18 = 86 := rfl
theorem rT_76_19 {c : Nat} : rT c 76 19 = 87 := rfl
theorem rT_76_20 {c : Nat} : rT c 76 20 = 88 := rfl
theorem rT_76_22 {c : Nat} : rT c 76 22 = 89 := rfl
theorem rT_76_24 {c : Nat} : rT c 76 24 = 90 := rfl
theorem rT_76_25 {c : Nat} : rT c 76 25 = 91 := rfl
theorem rT_76_26 {c : Nat} : rT c 76 26 = 92 := rfl
theorem rT_76_27 {c : Nat} : rT c 76 27 = 93 := rfl
theorem rT_76_29 {c : Nat} : rT c 76 29 = 94 := rfl
theorem rT_76_30 {c : Nat} : rT c 76 30 = 95 := rfl
theorem rT_76_31 {c : Nat} : rT c 76 31 = 96 := rfl
theorem rT_76_32 {c : Nat} : rT c 76 32 = 97 := rfl
theorem rT_76_33 {c : Nat} : rT c 76 33 = 98 := rfl
theorem S0_1 : S0 1 = some (.inr 11) := rfl
theorem S0_2 : S0 2 = some (.inr 5) := rfl
theorem S0_3 : S0 3 = some (.inr 7) := rfl
theorem S0_4 : S0 4 = some (.inl (.byte, 1000)) := rfl
theorem S0_5 : S0 5 = some (.inr 0) := rfl
theorem S0_6 : S0 6 = some (.inl (.long, 6)) := rfl
theorem S0_7 : S0 7 = some (.inl (.int, 6)) := rfl
theorem S0_8 : S0 8 = some (.inl (.int, 6)) := rfl
theorem S0_9 : S0 9 = some (.inl (.int, 12)) := rfl
theorem S0_10 : S0 10 = some (.inl (.int, 12)) := rfl
theorem S0_11 : S0 11 = some (.inl (.int, 12)) := rfl
theorem S0_12 : S0 12 = some (.inl (.int, 12)) := rfl
theorem S0_13 : S0 13 = some (.inr 3) := rfl
theorem S0_14 : S0 14 = some (.inl (.int, 1000)) := rfl
theorem S0_15 : S0 15 = some (.inl (.int, 4)) := rfl
theorem S0_16 : S0 16 = some (.inl (.int, 4)) := rfl
theorem S0_17 : S0 17 = some (.inl (.int, 32)) := rfl
theorem S0_18 : S0 18 = some (.inl (.int, 7)) := rfl
theorem S0_19 : S0 19 = some (.inr 4) := rfl
theorem S0_20 : S0 20 = some (.inr 0) := rfl
theorem S0_21 : S0 21 = some (.inl (.long, 6)) := rfl
theorem S0_22 : S0 22 = some (.inl (.int, 6)) := rfl
theorem S0_23 : S0 23 = some (.inl (.int, 6)) := rfl
theorem S0_24 : S0 24 = some (.inl (.int, 12)) := rfl
theorem S0_25 : S0 25 = some (.inl (.int, 12)) := rfl
theorem S0_26 : S0 26 = some (.inl (.int, 12)) := rfl
theorem S0_27 : S0 27 = some (.inl (.int, 12)) := rfl
theorem S0_28 : S0 28 = some (.inr 3) := rfl
theorem S0_29 : S0 29 = some (.inl (.int, 1000)) := rfl
theorem S0_30 : S0 30 = some (.inl (.int, 4)) := rfl
theorem S0_31 : S0 31 = some (.inl (.int, 4)) := rfl
theorem S0_32 : S0 32 = some (.inl (.int, 32)) := rfl
theorem S0_33 : S0 33 = some (.inl (.int, 7)) := rfl
theorem S0_34 : S0 34 = some (.inl (.int, 12)) := rfl
theorem S0_35 : S0 35 = some (.inl (.long, 2496)) := rfl
theorem S0_36 : S0 36 = some (.inr 2) := rfl
theorem S0_37 : S0 37 = some (.inl (.int, 12)) := rfl
theorem S0_38 : S0 38 = some (.inl (.int, 8)) := rfl
theorem S0_39 : S0 39 = some (.inl (.int, 8)) := rfl
theorem S0_40 : S0 40 = some (.inr 1) := rfl
theorem S0_41 : S0 41 = some (.inl (.int, 20)) := rfl
theorem S0_42 : S0 42 = some (.inl (.int, 20)) := rfl
theorem S0_43 : S0 43 = some (.inr 6) := rfl
theorem S0_44 : S0 44 = some (.inl (.int, 204)) := rfl
theorem S0_45 : S0 45 = some (.inl (.int, 16)) := rfl
theorem S0_46 : S0 46 = some (.inl (.int, 6)) := rfl
theorem S0_47 : S0 47 = some (.inr 8) := rfl
theorem S0_48 : S0 48 = some (.inl (.int, 144)) := rfl
theorem S0_49 : S0 49 = some (.inl (.int, 4096)) := rfl
theorem S0_50 : S0 50 = some (.inl (.int, 12)) := rfl
theorem S0_51 : S0 51 = some (.inr 10) := rfl
theorem S0_52 : S0 52 = some (.inl (.long, 24)) := rfl
theorem S0_53 : S0 53 = some (.inl (.int, 1536)) := rfl
theorem S0_54 : S0 54 = some (.inl (.int, 24)) := rfl
theorem S0_55 : S0 55 = some (.inr 9) := rfl
theorem S0_56 : S0 56 = some (.inl (.int, 64)) := rfl
theorem S0_57 : S0 57 = some (.inl (.int, 64)) := rfl
theorem S0_58 : S0 58 = some (.inl (.int, 64)) := rfl
theorem S0_59 : S0 59 = some (.inl (.object "PaneSpots$Hold", 4)) := rfl
theorem S0_60 : S0 60 = some (.inr 2) := rfl
theorem S0_61 : S0 61 = some (.inl (.int, 12)) := rfl
theorem S0_62 : S0 62 = some (.inl (.int, 8)) := rfl
theorem S0_63 : S0 63 = some (.inl (.int, 8)) := rfl
theorem S0_64 : S0 64 = some (.inr 2) := rfl
theorem S0_65 : S0 65 = some (.inl (.int, 12)) := rfl
theorem S0_66 : S0 66 = some (.inl (.int, 8)) := rfl
theorem S0_67 : S0 67 = some (.inl (.int, 8)) := rfl
theorem S0_68 : S0 68 = some (.inr 2) := rfl
theorem S0_69 : S0 69 = some (.inl (.int, 12)) := rfl
theorem S0_70 : S0 70 = some (.inl (.int, 8)) := rfl
theorem S0_71 : S0 71 = some (.inl (.int, 8)) := rfl
theorem S0_72 : S0 72 = some (.inr 2) := rfl
theorem S0_73 : S0 73 = some (.inl (.int, 12)) := rfl
theorem S0_74 : S0 74 = some (.inl (.int, 8)) := rfl
theorem S0_75 : S0 75 = some (.inl (.int, 8)) := rfl
theorem S0_76 : S0 76 = some (.inr 12) := rfl
theorem S0_77 : S0 77 = some (.inl (.int, 1000)) := rfl
theorem S0_78 : S0 78 = some (.inl (.int, 1002)) := rfl
theorem S0_79 : S0 79 = some (.inl (.int, 1002)) := rfl
theorem S0_80 : S0 80 = some (.inl (.long, 1002)) := rfl
theorem S0_81 : S0 81 = some (.inl (.long, 22)) := rfl
theorem S0_82 : S0 82 = some (.inl (.int, 160)) := rfl
theorem S0_83 : S0 83 = some (.inl (.int, 2200)) := rfl
theorem S0_84 : S0 84 = some (.inl (.int, 2200)) := rfl
theorem S0_85 : S0 85 = some (.inl (.long, 6)) := rfl
theorem S0_86 : S0 86 = some (.inl (.int, 7)) := rfl
theorem S0_87 : S0 87 = some (.inl (.int, 1100)) := rfl
theorem S0_88 : S0 88 = some (.inl (.int, 1000)) := rfl
theorem S0_89 : S0 89 = some (.inl (.boolean, 4)) := rfl
theorem S0_90 : S0 90 = some (.inl (.int, 12)) := rfl
theorem S0_91 : S0 91 = some (.inl (.int, 12)) := rfl
theorem S0_92 : S0 92 = some (.inl (.int, 12)) := rfl
theorem S0_93 : S0 93 = some (.inl (.int, 12)) := rfl
theorem S0_94 : S0 94 = some (.inl (.int, 6)) := rfl
theorem S0_95 : S0 95 = some (.inl (.int, 1536)) := rfl
theorem S0_96 : S0 96 = some (.inl (.int, 384)) := rfl
theorem S0_97 : S0 97 = some (.inl (.int, 384)) := rfl
theorem S0_98 : S0 98 = some (.inl (.int, 384)) := rfl
theorem S0_99 : S0 99 = some (.inl (.long, 1)) := rfl
theorem S0l_4 : hm_len S0 4 (.byte) = 1000 := rfl
theorem S0l_6 : hm_len S0 6 (.long) = 6 := rfl
theorem S0l_7 : hm_len S0 7 (.int) = 6 := rfl
theorem S0l_8 : hm_len S0 8 (.int) = 6 := rfl
theorem S0l_9 : hm_len S0 9 (.int) = 12 := rfl
theorem S0l_10 : hm_len S0 10 (.int) = 12 := rfl
theorem S0l_11 : hm_len S0 11 (.int) = 12 := rfl
theorem S0l_12 : hm_len S0 12 (.int) = 12 := rfl
theorem S0l_14 : hm_len S0 14 (.int) = 1000 := rfl
theorem S0l_15 : hm_len S0 15 (.int) = 4 := rfl
theorem S0l_16 : hm_len S0 16 (.int) = 4 := rfl
theorem S0l_17 : hm_len S0 17 (.int) = 32 := rfl
theorem S0l_18 : hm_len S0 18 (.int) = 7 := rfl
theorem S0l_21 : hm_len S0 21 (.long) = 6 := rfl
theorem S0l_22 : hm_len S0 22 (.int) = 6 := rfl
theorem S0l_23 : hm_len S0 23 (.int) = 6 := rfl
theorem S0l_24 : hm_len S0 24 (.int) = 12 := rfl
theorem S0l_25 : hm_len S0 25 (.int) = 12 := rfl
theorem S0l_26 : hm_len S0 26 (.int) = 12 := rfl
theorem S0l_27 : hm_len S0 27 (.int) = 12 := rfl
theorem S0l_29 : hm_len S0 29 (.int) = 1000 := rfl
theorem S0l_30 : hm_len S0 30 (.int) = 4 := rfl
theorem S0l_31 : hm_len S0 31 (.int) = 4 := rfl
theorem S0l_32 : hm_len S0 32 (.int) = 32 := rfl
theorem S0l_33 : hm_len S0 33 (.int) = 7 := rfl
theorem S0l_34 : hm_len S0 34 (.int) = 12 := rfl
theorem S0l_35 : hm_len S0 35 (.long) = 2496 := rfl
theorem S0l_37 : hm_len S0 37 (.int) = 12 := rfl
theorem S0l_38 : hm_len S0 38 (.int) = 8 := rfl
theorem S0l_39 : hm_len S0 39 (.int) = 8 := rfl
theorem S0l_41 : hm_len S0 41 (.int) = 20 := rfl
theorem S0l_42 : hm_len S0 42 (.int) = 20 := rfl
theorem S0l_44 : hm_len S0 44 (.int) = 204 := rfl
theorem S0l_45 : hm_len S0 45 (.int) = 16 := rfl
theorem S0l_46 : hm_len S0 46 (.int) = 6 := rfl
theorem S0l_48 : hm_len S0 48 (.int) = 144 := rfl
theorem S0l_49 : hm_len S0 49 (.int) = 4096 := rfl
theorem S0l_50 : hm_len S0 50 (.int) = 12 := rfl
theorem S0l_52 : hm_len S0 52 (.long) = 24 := rfl
theorem S0l_53 : hm_len S0 53 (.int) = 1536 := rfl
theorem S0l_54 : hm_len S0 54 (.int) = 24 := rfl
theorem S0l_56 : hm_len S0 56 (.int) = 64 := rfl
theorem S0l_57 : hm_len S0 57 (.int) = 64 := rfl
theorem S0l_58 : hm_len S0 58 (.int) = 64 := rfl
theorem S0l_59 : hm_len S0 59 (.object "PaneSpots$Hold") = 4 := rfl
theorem S0l_61 : hm_len S0 61 (.int) = 12 := rfl
theorem S0l_62 : hm_len S0 62 (.int) = 8 := rfl
theorem S0l_63 : hm_len S0 63 (.int) = 8 := rfl
theorem S0l_65 : hm_len S0 65 (.int) = 12 := rfl
theorem S0l_66 : hm_len S0 66 (.int) = 8 := rfl
theorem S0l_67 : hm_len S0 67 (.int) = 8 := rfl
theorem S0l_69 : hm_len S0 69 (.int) = 12 := rfl
theorem S0l_70 : hm_len S0 70 (.int) = 8 := rfl
theorem S0l_71 : hm_len S0 71 (.int) = 8 := rfl
theorem S0l_73 : hm_len S0 73 (.int) = 12 := rfl
theorem S0l_74 : hm_len S0 74 (.int) = 8 := rfl
theorem S0l_75 : hm_len S0 75 (.int) = 8 := rfl
theorem S0l_77 : hm_len S0 77 (.int) = 1000 := rfl
theorem S0l_78 : hm_len S0 78 (.int) = 1002 := rfl
theorem S0l_79 : hm_len S0 79 (.int) = 1002 := rfl
theorem S0l_80 : hm_len S0 80 (.long) = 1002 := rfl
theorem S0l_81 : hm_len S0 81 (.long) = 22 := rfl
theorem S0l_82 : hm_len S0 82 (.int) = 160 := rfl
theorem S0l_83 : hm_len S0 83 (.int) = 2200 := rfl
theorem S0l_84 : hm_len S0 84 (.int) = 2200 := rfl
theorem S0l_85 : hm_len S0 85 (.long) = 6 := rfl
theorem S0l_86 : hm_len S0 86 (.int) = 7 := rfl
theorem S0l_87 : hm_len S0 87 (.int) = 1100 := rfl
theorem S0l_88 : hm_len S0 88 (.int) = 1000 := rfl
theorem S0l_89 : hm_len S0 89 (.boolean) = 4 := rfl
theorem S0l_90 : hm_len S0 90 (.int) = 12 := rfl
theorem S0l_91 : hm_len S0 91 (.int) = 12 := rfl
theorem S0l_92 : hm_len S0 92 (.int) = 12 := rfl
theorem S0l_93 : hm_len S0 93 (.int) = 12 := rfl
theorem S0l_94 : hm_len S0 94 (.int) = 6 := rfl
theorem S0l_95 : hm_len S0 95 (.int) = 1536 := rfl
theorem S0l_96 : hm_len S0 96 (.int) = 384 := rfl
theorem S0l_97 : hm_len S0 97 (.int) = 384 := rfl
theorem S0l_98 : hm_len S0 98 (.int) = 384 := rfl
theorem S0l_99 : hm_len S0 99 (.long) = 1 := rfl
theorem hg_true {β : Type} {x : Option β} : hg True x = x := if_pos trivial
theorem hg_false {β : Type} {x : Option β} : hg False x = none := if_neg id
theorem hb_s {α β : Type} {r : α} {M : hm_M} {k : α → hm_M → Option β} : hb (some (r, M)) k = k r M := rfl
theorem hv_s {β : Type} {M : hm_M} {k : hm_M → Option β} : hv (some M) k = k M := rfl
theorem wI_t {I : Nat → Nat → Int32} {L : Nat → Nat → Int64} {R : Nat → Nat → Nat} {a i : Nat} {v : Int32} : hm_wI (I, L, R) a i v = (hm_up I a i v, L, R) := rfl
theorem wL_t {I : Nat → Nat → Int32} {L : Nat → Nat → Int64} {R : Nat → Nat → Nat} {a i : Nat} {v : Int64} : hm_wL (I, L, R) a i v = (I, hm_up L a i v, R) := rfl
/-- x answers, and P of it -/
def hO {β : Type} (x : Option β) (P : β → Prop) : Prop := ∃ y, x = some y ∧ P y
theorem hO.s {β : Type} {y : β} {P : β → Prop} (h : P y) : hO (some y) P := ⟨y, rfl, h⟩
theorem hO.g {β : Type} {c : Prop} [Decidable c] {x : Option β} {P : β → Prop} (hc : c) (h : hO x P) : hO (hg c x) P := by rw [hg_pos hc]; exact h
theorem hO.b {α β : Type} {x : Option (α × hm_M)} {k : α → hm_M → Option β} {Q : α × hm_M → Prop} {P : β → Prop} (h : hO x Q) (hk : ∀ r M, Q (r, M) → hO (k r M) P) : hO (hb x k) P := by
  obtain ⟨⟨r, M⟩, rfl, hq⟩ := h
  exact hk r M hq
theorem hO.v {β : Type} {x : Option hm_M} {k : hm_M → Option β} {Q : hm_M → Prop} {P : β → Prop} (h : hO x Q) (hk : ∀ M, Q M → hO (k M) P) : hO (hv x k) P := by
  obtain ⟨M, rfl, hq⟩ := h
  exact hk M hq
theorem hO.mono {β : Type} {x : Option β} {P Q : β → Prop} (h : hO x P) (hpq : ∀ y, P y → Q y) : hO x Q := by
  obtain ⟨y, e, h⟩ := h
  exact ⟨y, e, hpq y h⟩
/-- a rising fold -/
def fo {α : Type} (f : Nat → α → α) (a : α) : Nat → α
  | 0 => a
  | n + 1 => f n (fo f a n)
theorem i_of {i : Nat} (h : i < 2147483648) : (Int32.ofNat i).toInt = (i : Int) := Int32.toInt_ofNat_of_lt h
theorem i_tn {i : Nat} (h : i < 2147483648) : (Int32.ofNat i).toNatClampNeg = i := by
  have := i_of h
  unfold Int32.toNatClampNeg
  omega
theorem i_lt {i j : Nat} (hi : i < 2147483648) (hj : j < 2147483648) : (Int32.ofNat i < Int32.ofNat j) = (i < j) := by
  rw [Int32.lt_iff_toInt_lt, i_of hi, i_of hj, Int.ofNat_lt]
theorem i_le {i j : Nat} (hi : i < 2147483648) (hj : j < 2147483648) : (Int32.ofNat i ≤ Int32.ofNat j) = (i ≤ j) := by
  rw [Int32.le_iff_toInt_le, i_of hi, i_of hj, Int.ofNat_le]
theorem i_eq {i j : Nat} (hi : i < 2147483648) (hj : j < 2147483648) : (Int32.ofNat i = Int32.ofNat j) = (i = j) := by
  rw [← Int32.toInt_inj, i_of hi, i_of hj, Int.ofNat_inj]
theorem i_add {i j : Nat} : Int32.ofNat i + Int32.ofNat j = Int32.ofNat (i + j) := (Int32.ofNat_add i j).symm
theorem ib_of {a n i : Nat} {ty : FieldType} (hl : hm_len S0 a ty = n) (hi : i < n) (h : i < 2147483648) : hm_ib S0 a ty (Int32.ofNat i) = true := by
  unfold hm_ib
  rw [hl, i_tn h]
  simp only [Bool.and_eq_true, decide_eq_true_eq]
  exact ⟨Int32.le_iff_toInt_le.mpr (by rw [i_of h]; exact Int.natCast_nonneg i), hi⟩
theorem i_nn {x : Int32} (h : 0 ≤ x) : ∃ n : Nat, n < 2147483648 ∧ x = Int32.ofNat n := by
  have h1 := Int32.le_iff_toInt_le.mp h
  have h2 := Int32.toInt_lt x
  refine ⟨x.toInt.toNat, by have : (0 : Int32).toInt = 0 := by decide
                            omega, ?_⟩
  apply Int32.toInt_inj.mp
  have : (0 : Int32).toInt = 0 := by decide
  rw [i_of (by omega)]
  omega

