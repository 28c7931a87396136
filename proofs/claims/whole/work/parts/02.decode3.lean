theorem dX12_gainOf_43 : decode cX12_gainOf 43 = .ok (.istore 6, 2) := by decide +kernel
theorem dX12_gainOf_45 : decode cX12_gainOf 45 = .ok (.iload 5, 2) := by decide +kernel
theorem dX12_gainOf_47 : decode cX12_gainOf 47 = .ok (.ifCond .le 16, 3) := by decide +kernel
theorem dX12_gainOf_50 : decode cX12_gainOf 50 = .ok (.iload 6, 2) := by decide +kernel
theorem dX12_gainOf_52 : decode cX12_gainOf 52 = .ok (.ifCond .le 11, 3) := by decide +kernel
theorem dX12_gainOf_55 : decode cX12_gainOf 55 = .ok (.iload 5, 2) := by decide +kernel
theorem dX12_gainOf_57 : decode cX12_gainOf 57 = .ok (.iload 6, 2) := by decide +kernel
theorem dX12_gainOf_59 : decode cX12_gainOf 59 = .ok (.iadd, 1) := by decide +kernel
theorem dX12_gainOf_60 : decode cX12_gainOf 60 = .ok (.goto 4, 3) := by decide +kernel
theorem dX12_gainOf_63 : decode cX12_gainOf 63 = .ok (.iconst 0, 1) := by decide +kernel
theorem dX12_gainOf_64 : decode cX12_gainOf 64 = .ok (.ireturn, 1) := by decide +kernel
theorem dX12_areUnlike_0 : decode cX12_areUnlike 0 = .ok (.aload_n 0, 1) := by decide +kernel
theorem dX12_areUnlike_1 : decode cX12_areUnlike 1 = .ok (.iload_n 1, 1) := by decide +kernel
theorem dX12_areUnlike_2 : decode cX12_areUnlike 2 = .ok (.invokevirtual 314, 3) := by decide +kernel
theorem dX12_areUnlike_5 : decode cX12_areUnlike 5 = .ok (.ifCond .eq 28, 3) := by decide +kernel
theorem dX12_areUnlike_8 : decode cX12_areUnlike 8 = .ok (.aload_n 0, 1) := by decide +kernel
theorem dX12_areUnlike_9 : decode cX12_areUnlike 9 = .ok (.iload_n 2, 1) := by decide +kernel
theorem dX12_areUnlike_10 : decode cX12_areUnlike 10 = .ok (.invokevirtual 314, 3) := by decide +kernel
theorem dX12_areUnlike_13 : decode cX12_areUnlike 13 = .ok (.ifCond .eq 20, 3) := by decide +kernel
theorem dX12_areUnlike_16 : decode cX12_areUnlike 16 = .ok (.aload_n 0, 1) := by decide +kernel
theorem dX12_areUnlike_17 : decode cX12_areUnlike 17 = .ok (.iload_n 1, 1) := by decide +kernel
theorem dX12_areUnlike_18 : decode cX12_areUnlike 18 = .ok (.invokevirtual 289, 3) := by decide +kernel
theorem dX12_areUnlike_21 : decode cX12_areUnlike 21 = .ok (.aload_n 0, 1) := by decide +kernel
theorem dX12_areUnlike_22 : decode cX12_areUnlike 22 = .ok (.iload_n 2, 1) := by decide +kernel
theorem dX12_areUnlike_23 : decode cX12_areUnlike 23 = .ok (.invokevirtual 289, 3) := by decide +kernel
theorem dX12_areUnlike_26 : decode cX12_areUnlike 26 = .ok (.if_icmp .eq 7, 3) := by decide +kernel
theorem dX12_areUnlike_29 : decode cX12_areUnlike 29 = .ok (.iconst 1, 1) := by decide +kernel
theorem dX12_areUnlike_30 : decode cX12_areUnlike 30 = .ok (.goto 4, 3) := by decide +kernel
theorem dX12_areUnlike_33 : decode cX12_areUnlike 33 = .ok (.iconst 0, 1) := by decide +kernel
theorem dX12_areUnlike_34 : decode cX12_areUnlike 34 = .ok (.ireturn, 1) := by decide +kernel
theorem dX12_gain_0 : decode cX12_gain 0 = .ok (.aload_n 0, 1) := by decide +kernel
theorem dX12_gain_1 : decode cX12_gain 1 = .ok (.iconst 0, 1) := by decide +kernel
theorem dX12_gain_2 : decode cX12_gain 2 = .ok (.putfield 1, 3) := by decide +kernel
theorem dX12_gain_5 : decode cX12_gain 5 = .ok (.aload_n 0, 1) := by decide +kernel
theorem dX12_gain_6 : decode cX12_gain 6 = .ok (.iload_n 1, 1) := by decide +kernel
theorem dX12_gain_7 : decode cX12_gain 7 = .ok (.iload_n 2, 1) := by decide +kernel
theorem dX12_gain_8 : decode cX12_gain 8 = .ok (.invokevirtual 332, 3) := by decide +kernel
theorem dX12_gain_11 : decode cX12_gain 11 = .ok (.ifCond .ne 5, 3) := by decide +kernel
theorem dX12_gain_14 : decode cX12_gain 14 = .ok (.iconst (-1), 1) := by decide +kernel
theorem dX12_gain_15 : decode cX12_gain 15 = .ok (.ireturn, 1) := by decide +kernel
theorem dX12_gain_16 : decode cX12_gain 16 = .ok (.aload_n 0, 1) := by decide +kernel
theorem dX12_gain_17 : decode cX12_gain 17 = .ok (.invokevirtual 320, 3) := by decide +kernel
theorem dX12_gain_20 : decode cX12_gain 20 = .ok (.aload_n 0, 1) := by decide +kernel
theorem dX12_gain_21 : decode cX12_gain 21 = .ok (.iload_n 1, 1) := by decide +kernel
theorem dX12_gain_22 : decode cX12_gain 22 = .ok (.iload_n 2, 1) := by decide +kernel
theorem dX12_gain_23 : decode cX12_gain 23 = .ok (.invokevirtual 335, 3) := by decide +kernel
theorem dX12_gain_26 : decode cX12_gain 26 = .ok (.ireturn, 1) := by decide +kernel
theorem dX12_tries_0 : decode cX12_tries 0 = .ok (.iload_n 1, 1) := by decide +kernel
theorem dX12_tries_1 : decode cX12_tries 1 = .ok (.aload_n 0, 1) := by decide +kernel
theorem dX12_tries_2 : decode cX12_tries 2 = .ok (.invokevirtual 269, 3) := by decide +kernel
theorem dX12_tries_5 : decode cX12_tries 5 = .ok (.if_icmp .ne 42, 3) := by decide +kernel
theorem dX12_tries_8 : decode cX12_tries 8 = .ok (.iload_n 2, 1) := by decide +kernel
theorem dX12_tries_9 : decode cX12_tries 9 = .ok (.aload_n 0, 1) := by decide +kernel
theorem dX12_tries_10 : decode cX12_tries 10 = .ok (.getfield 338, 3) := by decide +kernel
theorem dX12_tries_13 : decode cX12_tries 13 = .ok (.if_icmp .le 33, 3) := by decide +kernel
theorem dX12_tries_16 : decode cX12_tries 16 = .ok (.aload_n 0, 1) := by decide +kernel
theorem dX12_tries_17 : decode cX12_tries 17 = .ok (.iload_n 2, 1) := by decide +kernel
theorem dX12_tries_18 : decode cX12_tries 18 = .ok (.putfield 338, 3) := by decide +kernel
theorem dX12_tries_21 : decode cX12_tries 21 = .ok (.iconst 0, 1) := by decide +kernel
theorem dX12_tries_22 : decode cX12_tries 22 = .ok (.istore_n 3, 1) := by decide +kernel
theorem dX12_tries_23 : decode cX12_tries 23 = .ok (.iload_n 3, 1) := by decide +kernel
theorem dX12_tries_24 : decode cX12_tries 24 = .ok (.iload_n 1, 1) := by decide +kernel
theorem dX12_tries_25 : decode cX12_tries 25 = .ok (.if_icmp .ge 21, 3) := by decide +kernel
theorem dX12_tries_28 : decode cX12_tries 28 = .ok (.aload_n 0, 1) := by decide +kernel
theorem dX12_tries_29 : decode cX12_tries 29 = .ok (.getfield 115, 3) := by decide +kernel
theorem dX12_tries_32 : decode cX12_tries 32 = .ok (.iload_n 3, 1) := by decide +kernel
theorem dX12_tries_33 : decode cX12_tries 33 = .ok (.aload_n 0, 1) := by decide +kernel
theorem dX12_tries_34 : decode cX12_tries 34 = .ok (.getfield 112, 3) := by decide +kernel
theorem dX12_tries_37 : decode cX12_tries 37 = .ok (.iload_n 3, 1) := by decide +kernel
theorem dX12_tries_38 : decode cX12_tries 38 = .ok (.iaload, 1) := by decide +kernel
theorem dX12_tries_39 : decode cX12_tries 39 = .ok (.iastore, 1) := by decide +kernel
theorem dX12_tries_40 : decode cX12_tries 40 = .ok (.iinc 3 1, 3) := by decide +kernel
theorem dX12_tries_43 : decode cX12_tries 43 = .ok (.goto (-20), 3) := by decide +kernel
theorem dX12_tries_46 : decode cX12_tries 46 = .ok (.return_, 1) := by decide +kernel
theorem dX12_tries_47 : decode cX12_tries 47 = .ok (.aload_n 0, 1) := by decide +kernel
theorem dX12_tries_48 : decode cX12_tries 48 = .ok (.getfield 112, 3) := by decide +kernel
theorem dX12_tries_51 : decode cX12_tries 51 = .ok (.iload_n 1, 1) := by decide +kernel
theorem dX12_tries_52 : decode cX12_tries 52 = .ok (.iaload, 1) := by decide +kernel
theorem dX12_tries_53 : decode cX12_tries 53 = .ok (.ifCond .lt 12, 3) := by decide +kernel
theorem dX12_tries_56 : decode cX12_tries 56 = .ok (.aload_n 0, 1) := by decide +kernel
theorem dX12_tries_57 : decode cX12_tries 57 = .ok (.iload_n 1, 1) := by decide +kernel
theorem dX12_tries_58 : decode cX12_tries 58 = .ok (.iconst 1, 1) := by decide +kernel
theorem dX12_tries_59 : decode cX12_tries 59 = .ok (.iadd, 1) := by decide +kernel
theorem dX12_tries_60 : decode cX12_tries 60 = .ok (.iload_n 2, 1) := by decide +kernel
theorem dX12_tries_61 : decode cX12_tries 61 = .ok (.invokevirtual 341, 3) := by decide +kernel
theorem dX12_tries_64 : decode cX12_tries 64 = .ok (.return_, 1) := by decide +kernel
theorem dX12_tries_65 : decode cX12_tries 65 = .ok (.aload_n 0, 1) := by decide +kernel
theorem dX12_tries_66 : decode cX12_tries 66 = .ok (.getfield 112, 3) := by decide +kernel
theorem dX12_tries_69 : decode cX12_tries 69 = .ok (.iload_n 1, 1) := by decide +kernel
theorem dX12_tries_70 : decode cX12_tries 70 = .ok (.iload_n 1, 1) := by decide +kernel
theorem dX12_tries_71 : decode cX12_tries 71 = .ok (.iastore, 1) := by decide +kernel
theorem dX12_tries_72 : decode cX12_tries 72 = .ok (.aload_n 0, 1) := by decide +kernel
theorem dX12_tries_73 : decode cX12_tries 73 = .ok (.iload_n 1, 1) := by decide +kernel
theorem dX12_tries_74 : decode cX12_tries 74 = .ok (.iconst 1, 1) := by decide +kernel
theorem dX12_tries_75 : decode cX12_tries 75 = .ok (.iadd, 1) := by decide +kernel
theorem dX12_tries_76 : decode cX12_tries 76 = .ok (.iload_n 2, 1) := by decide +kernel
theorem dX12_tries_77 : decode cX12_tries 77 = .ok (.invokevirtual 341, 3) := by decide +kernel
theorem dX12_tries_80 : decode cX12_tries 80 = .ok (.iload_n 1, 1) := by decide +kernel
theorem dX12_tries_81 : decode cX12_tries 81 = .ok (.iconst 1, 1) := by decide +kernel
theorem dX12_tries_82 : decode cX12_tries 82 = .ok (.iadd, 1) := by decide +kernel
theorem dX12_tries_83 : decode cX12_tries 83 = .ok (.istore_n 3, 1) := by decide +kernel
theorem dX12_tries_84 : decode cX12_tries 84 = .ok (.iload_n 3, 1) := by decide +kernel
theorem dX12_tries_85 : decode cX12_tries 85 = .ok (.aload_n 0, 1) := by decide +kernel
theorem dX12_tries_86 : decode cX12_tries 86 = .ok (.invokevirtual 269, 3) := by decide +kernel
theorem dX12_tries_89 : decode cX12_tries 89 = .ok (.if_icmp .ge 76, 3) := by decide +kernel
theorem dX12_tries_92 : decode cX12_tries 92 = .ok (.aload_n 0, 1) := by decide +kernel
theorem dX12_tries_93 : decode cX12_tries 93 = .ok (.getfield 112, 3) := by decide +kernel
theorem dX12_tries_96 : decode cX12_tries 96 = .ok (.iload_n 3, 1) := by decide +kernel
theorem dX12_tries_97 : decode cX12_tries 97 = .ok (.iaload, 1) := by decide +kernel
theorem dX12_tries_98 : decode cX12_tries 98 = .ok (.ifCond .ge 21, 3) := by decide +kernel
theorem dX12_tries_101 : decode cX12_tries 101 = .ok (.aload_n 0, 1) := by decide +kernel
theorem dX12_tries_102 : decode cX12_tries 102 = .ok (.iload_n 1, 1) := by decide +kernel
theorem dX12_tries_103 : decode cX12_tries 103 = .ok (.iload_n 3, 1) := by decide +kernel
theorem dX12_tries_104 : decode cX12_tries 104 = .ok (.invokevirtual 332, 3) := by decide +kernel
theorem dX12_tries_107 : decode cX12_tries 107 = .ok (.ifCond .eq 12, 3) := by decide +kernel
theorem dX12_tries_110 : decode cX12_tries 110 = .ok (.aload_n 0, 1) := by decide +kernel
theorem dX12_tries_111 : decode cX12_tries 111 = .ok (.iload_n 1, 1) := by decide +kernel
theorem dX12_tries_112 : decode cX12_tries 112 = .ok (.iload_n 3, 1) := by decide +kernel
theorem dX12_tries_113 : decode cX12_tries 113 = .ok (.invokevirtual 335, 3) := by decide +kernel
theorem dX12_tries_116 : decode cX12_tries 116 = .ok (.goto 4, 3) := by decide +kernel
theorem dX12_tries_119 : decode cX12_tries 119 = .ok (.iconst 0, 1) := by decide +kernel
theorem dX12_tries_120 : decode cX12_tries 120 = .ok (.istore 4, 2) := by decide +kernel
theorem dX12_tries_122 : decode cX12_tries 122 = .ok (.iload 4, 2) := by decide +kernel
theorem dX12_tries_124 : decode cX12_tries 124 = .ok (.ifCond .le 35, 3) := by decide +kernel
theorem dX12_tries_127 : decode cX12_tries 127 = .ok (.aload_n 0, 1) := by decide +kernel
theorem dX12_tries_128 : decode cX12_tries 128 = .ok (.getfield 112, 3) := by decide +kernel
theorem dX12_tries_131 : decode cX12_tries 131 = .ok (.iload_n 1, 1) := by decide +kernel
theorem dX12_tries_132 : decode cX12_tries 132 = .ok (.iload_n 3, 1) := by decide +kernel
theorem dX12_tries_133 : decode cX12_tries 133 = .ok (.iastore, 1) := by decide +kernel
theorem dX12_tries_134 : decode cX12_tries 134 = .ok (.aload_n 0, 1) := by decide +kernel
theorem dX12_tries_135 : decode cX12_tries 135 = .ok (.getfield 112, 3) := by decide +kernel
theorem dX12_tries_138 : decode cX12_tries 138 = .ok (.iload_n 3, 1) := by decide +kernel
theorem dX12_tries_139 : decode cX12_tries 139 = .ok (.iload_n 1, 1) := by decide +kernel
theorem dX12_tries_140 : decode cX12_tries 140 = .ok (.iastore, 1) := by decide +kernel
theorem dX12_tries_141 : decode cX12_tries 141 = .ok (.aload_n 0, 1) := by decide +kernel
theorem dX12_tries_142 : decode cX12_tries 142 = .ok (.iload_n 1, 1) := by decide +kernel
theorem dX12_tries_143 : decode cX12_tries 143 = .ok (.iconst 1, 1) := by decide +kernel
theorem dX12_tries_144 : decode cX12_tries 144 = .ok (.iadd, 1) := by decide +kernel
theorem dX12_tries_145 : decode cX12_tries 145 = .ok (.iload_n 2, 1) := by decide +kernel
theorem dX12_tries_146 : decode cX12_tries 146 = .ok (.iload 4, 2) := by decide +kernel
theorem dX12_tries_148 : decode cX12_tries 148 = .ok (.iadd, 1) := by decide +kernel
theorem dX12_tries_149 : decode cX12_tries 149 = .ok (.invokevirtual 341, 3) := by decide +kernel
theorem dX12_tries_152 : decode cX12_tries 152 = .ok (.aload_n 0, 1) := by decide +kernel
theorem dX12_tries_153 : decode cX12_tries 153 = .ok (.getfield 112, 3) := by decide +kernel
theorem dX12_tries_156 : decode cX12_tries 156 = .ok (.iload_n 3, 1) := by decide +kernel
theorem dX12_tries_157 : decode cX12_tries 157 = .ok (.iconst (-1), 1) := by decide +kernel
theorem dX12_tries_158 : decode cX12_tries 158 = .ok (.iastore, 1) := by decide +kernel
theorem dX12_tries_159 : decode cX12_tries 159 = .ok (.iinc 3 1, 3) := by decide +kernel
theorem dX12_tries_162 : decode cX12_tries 162 = .ok (.goto (-78), 3) := by decide +kernel
theorem dX12_tries_165 : decode cX12_tries 165 = .ok (.aload_n 0, 1) := by decide +kernel
theorem dX12_tries_166 : decode cX12_tries 166 = .ok (.getfield 112, 3) := by decide +kernel
theorem dX12_tries_169 : decode cX12_tries 169 = .ok (.iload_n 1, 1) := by decide +kernel
theorem dX12_tries_170 : decode cX12_tries 170 = .ok (.iconst (-1), 1) := by decide +kernel
theorem dX12_tries_171 : decode cX12_tries 171 = .ok (.iastore, 1) := by decide +kernel
theorem dX12_tries_172 : decode cX12_tries 172 = .ok (.return_, 1) := by decide +kernel
theorem dX12_best_0 : decode cX12_best 0 = .ok (.aload_n 0, 1) := by decide +kernel
theorem dX12_best_1 : decode cX12_best 1 = .ok (.iconst 0, 1) := by decide +kernel
theorem dX12_best_2 : decode cX12_best 2 = .ok (.putfield 1, 3) := by decide +kernel
theorem dX12_best_5 : decode cX12_best 5 = .ok (.iload_n 1, 1) := by decide +kernel
theorem dX12_best_6 : decode cX12_best 6 = .ok (.iconst (-1), 1) := by decide +kernel
theorem dX12_best_7 : decode cX12_best 7 = .ok (.if_icmp .eq 13, 3) := by decide +kernel
theorem dX12_best_10 : decode cX12_best 10 = .ok (.aload_n 0, 1) := by decide +kernel
theorem dX12_best_11 : decode cX12_best 11 = .ok (.iload_n 1, 1) := by decide +kernel
theorem dX12_best_12 : decode cX12_best 12 = .ok (.invokevirtual 314, 3) := by decide +kernel
theorem dX12_best_15 : decode cX12_best 15 = .ok (.ifCond .ne 5, 3) := by decide +kernel
theorem dX12_best_18 : decode cX12_best 18 = .ok (.iconst (-1), 1) := by decide +kernel
theorem dX12_best_19 : decode cX12_best 19 = .ok (.ireturn, 1) := by decide +kernel
theorem dX12_best_20 : decode cX12_best 20 = .ok (.aload_n 0, 1) := by decide +kernel
theorem dX12_best_21 : decode cX12_best 21 = .ok (.invokevirtual 320, 3) := by decide +kernel
theorem dX12_best_24 : decode cX12_best 24 = .ok (.iconst 0, 1) := by decide +kernel
theorem dX12_best_25 : decode cX12_best 25 = .ok (.istore_n 2, 1) := by decide +kernel
theorem dX12_best_26 : decode cX12_best 26 = .ok (.iload_n 2, 1) := by decide +kernel
theorem dX12_best_27 : decode cX12_best 27 = .ok (.bipush 12, 2) := by decide +kernel
theorem dX12_best_29 : decode cX12_best 29 = .ok (.if_icmp .ge 16, 3) := by decide +kernel
theorem dX12_best_32 : decode cX12_best 32 = .ok (.aload_n 0, 1) := by decide +kernel
theorem dX12_best_33 : decode cX12_best 33 = .ok (.getfield 112, 3) := by decide +kernel
theorem dX12_best_36 : decode cX12_best 36 = .ok (.iload_n 2, 1) := by decide +kernel
theorem dX12_best_37 : decode cX12_best 37 = .ok (.iconst (-1), 1) := by decide +kernel
theorem dX12_best_38 : decode cX12_best 38 = .ok (.iastore, 1) := by decide +kernel
theorem dX12_best_39 : decode cX12_best 39 = .ok (.iinc 2 1, 3) := by decide +kernel
theorem dX12_best_42 : decode cX12_best 42 = .ok (.goto (-16), 3) := by decide +kernel
theorem dX12_best_45 : decode cX12_best 45 = .ok (.aload_n 0, 1) := by decide +kernel
theorem dX12_best_46 : decode cX12_best 46 = .ok (.iconst (-1), 1) := by decide +kernel
theorem dX12_best_47 : decode cX12_best 47 = .ok (.putfield 338, 3) := by decide +kernel
theorem dX12_best_50 : decode cX12_best 50 = .ok (.aload_n 0, 1) := by decide +kernel
theorem dX12_best_51 : decode cX12_best 51 = .ok (.iconst 0, 1) := by decide +kernel
theorem dX12_best_52 : decode cX12_best 52 = .ok (.iconst 0, 1) := by decide +kernel
theorem dX12_best_53 : decode cX12_best 53 = .ok (.invokevirtual 341, 3) := by decide +kernel
theorem dX12_best_56 : decode cX12_best 56 = .ok (.iload_n 1, 1) := by decide +kernel
theorem dX12_best_57 : decode cX12_best 57 = .ok (.iconst (-1), 1) := by decide +kernel
theorem dX12_best_58 : decode cX12_best 58 = .ok (.if_icmp .ne 10, 3) := by decide +kernel
theorem dX12_best_61 : decode cX12_best 61 = .ok (.aload_n 0, 1) := by decide +kernel
theorem dX12_best_62 : decode cX12_best 62 = .ok (.getfield 338, 3) := by decide +kernel
theorem dX12_best_65 : decode cX12_best 65 = .ok (.goto 9, 3) := by decide +kernel
theorem dX12_best_68 : decode cX12_best 68 = .ok (.aload_n 0, 1) := by decide +kernel
theorem dX12_best_69 : decode cX12_best 69 = .ok (.getfield 115, 3) := by decide +kernel
theorem dX12_best_72 : decode cX12_best 72 = .ok (.iload_n 1, 1) := by decide +kernel
theorem dX12_best_73 : decode cX12_best 73 = .ok (.iaload, 1) := by decide +kernel
theorem dX12_best_74 : decode cX12_best 74 = .ok (.ireturn, 1) := by decide +kernel
theorem dX12_exchange_0 : decode cX12_exchange 0 = .ok (.aload_n 0, 1) := by decide +kernel
theorem dX12_exchange_1 : decode cX12_exchange 1 = .ok (.iconst 0, 1) := by decide +kernel
theorem dX12_exchange_2 : decode cX12_exchange 2 = .ok (.putfield 1, 3) := by decide +kernel
theorem dX12_exchange_5 : decode cX12_exchange 5 = .ok (.aload_n 0, 1) := by decide +kernel
theorem dX12_exchange_6 : decode cX12_exchange 6 = .ok (.iload_n 1, 1) := by decide +kernel
theorem dX12_exchange_7 : decode cX12_exchange 7 = .ok (.iload_n 2, 1) := by decide +kernel
theorem dX12_exchange_8 : decode cX12_exchange 8 = .ok (.invokevirtual 332, 3) := by decide +kernel
theorem dX12_exchange_11 : decode cX12_exchange 11 = .ok (.ifCond .ne 5, 3) := by decide +kernel
theorem dX12_exchange_14 : decode cX12_exchange 14 = .ok (.iconst 0, 1) := by decide +kernel
theorem dX12_exchange_15 : decode cX12_exchange 15 = .ok (.ireturn, 1) := by decide +kernel
theorem dX12_exchange_16 : decode cX12_exchange 16 = .ok (.aload_n 0, 1) := by decide +kernel
theorem dX12_exchange_17 : decode cX12_exchange 17 = .ok (.invokevirtual 344, 3) := by decide +kernel
theorem dX12_exchange_20 : decode cX12_exchange 20 = .ok (.aload_n 0, 1) := by decide +kernel
theorem dX12_exchange_21 : decode cX12_exchange 21 = .ok (.iload_n 1, 1) := by decide +kernel
theorem dX12_exchange_22 : decode cX12_exchange 22 = .ok (.invokevirtual 289, 3) := by decide +kernel
theorem dX12_exchange_25 : decode cX12_exchange 25 = .ok (.istore_n 3, 1) := by decide +kernel
theorem dX12_exchange_26 : decode cX12_exchange 26 = .ok (.aload_n 0, 1) := by decide +kernel
theorem dX12_exchange_27 : decode cX12_exchange 27 = .ok (.getfield 99, 3) := by decide +kernel
theorem dX12_exchange_30 : decode cX12_exchange 30 = .ok (.iconst 0, 1) := by decide +kernel
theorem dX12_exchange_31 : decode cX12_exchange 31 = .ok (.iload_n 1, 1) := by decide +kernel
theorem dX12_exchange_32 : decode cX12_exchange 32 = .ok (.iadd, 1) := by decide +kernel
theorem dX12_exchange_33 : decode cX12_exchange 33 = .ok (.aload_n 0, 1) := by decide +kernel
theorem dX12_exchange_34 : decode cX12_exchange 34 = .ok (.iload_n 2, 1) := by decide +kernel
theorem dX12_exchange_35 : decode cX12_exchange 35 = .ok (.invokevirtual 289, 3) := by decide +kernel
theorem dX12_exchange_38 : decode cX12_exchange 38 = .ok (.iastore, 1) := by decide +kernel
theorem dX12_exchange_39 : decode cX12_exchange 39 = .ok (.aload_n 0, 1) := by decide +kernel
theorem dX12_exchange_40 : decode cX12_exchange 40 = .ok (.getfield 99, 3) := by decide +kernel
theorem dX12_exchange_43 : decode cX12_exchange 43 = .ok (.iconst 0, 1) := by decide +kernel
theorem dX12_exchange_44 : decode cX12_exchange 44 = .ok (.iload_n 2, 1) := by decide +kernel
theorem dX12_exchange_45 : decode cX12_exchange 45 = .ok (.iadd, 1) := by decide +kernel
theorem dX12_exchange_46 : decode cX12_exchange 46 = .ok (.iload_n 3, 1) := by decide +kernel
theorem dX12_exchange_47 : decode cX12_exchange 47 = .ok (.iastore, 1) := by decide +kernel
theorem dX12_exchange_48 : decode cX12_exchange 48 = .ok (.iconst 1, 1) := by decide +kernel
theorem dX12_exchange_49 : decode cX12_exchange 49 = .ok (.ireturn, 1) := by decide +kernel
theorem dX12_breaks_0 : decode cX12_breaks 0 = .ok (.aload_n 0, 1) := by decide +kernel
theorem dX12_breaks_1 : decode cX12_breaks 1 = .ok (.iconst 0, 1) := by decide +kernel
theorem dX12_breaks_2 : decode cX12_breaks 2 = .ok (.putfield 1, 3) := by decide +kernel
theorem dX12_breaks_5 : decode cX12_breaks 5 = .ok (.aload_n 0, 1) := by decide +kernel
theorem dX12_breaks_6 : decode cX12_breaks 6 = .ok (.iload_n 1, 1) := by decide +kernel
theorem dX12_breaks_7 : decode cX12_breaks 7 = .ok (.invokevirtual 314, 3) := by decide +kernel
theorem dX12_breaks_10 : decode cX12_breaks 10 = .ok (.ifCond .eq 12, 3) := by decide +kernel
theorem dX12_breaks_13 : decode cX12_breaks 13 = .ok (.aload_n 0, 1) := by decide +kernel
theorem dX12_breaks_14 : decode cX12_breaks 14 = .ok (.iload_n 1, 1) := by decide +kernel
theorem dX12_breaks_15 : decode cX12_breaks 15 = .ok (.invokevirtual 283, 3) := by decide +kernel
theorem dX12_breaks_18 : decode cX12_breaks 18 = .ok (.iload_n 2, 1) := by decide +kernel
theorem dX12_breaks_19 : decode cX12_breaks 19 = .ok (.if_icmp .eq 5, 3) := by decide +kernel
theorem dX12_breaks_22 : decode cX12_breaks 22 = .ok (.iconst 0, 1) := by decide +kernel
theorem dX12_breaks_23 : decode cX12_breaks 23 = .ok (.ireturn, 1) := by decide +kernel
theorem dX12_breaks_24 : decode cX12_breaks 24 = .ok (.aload_n 0, 1) := by decide +kernel
theorem dX12_breaks_25 : decode cX12_breaks 25 = .ok (.invokevirtual 344, 3) := by decide +kernel
theorem dX12_breaks_28 : decode cX12_breaks 28 = .ok (.aload_n 0, 1) := by decide +kernel
theorem dX12_breaks_29 : decode cX12_breaks 29 = .ok (.getfield 99, 3) := by decide +kernel
theorem dX12_breaks_32 : decode cX12_breaks 32 = .ok (.bipush 12, 2) := by decide +kernel
theorem dX12_breaks_34 : decode cX12_breaks 34 = .ok (.dup2, 1) := by decide +kernel
theorem dX12_breaks_35 : decode cX12_breaks 35 = .ok (.iaload, 1) := by decide +kernel
theorem dX12_breaks_36 : decode cX12_breaks 36 = .ok (.iconst 1, 1) := by decide +kernel
theorem dX12_breaks_37 : decode cX12_breaks 37 = .ok (.iload_n 1, 1) := by decide +kernel
theorem dX12_breaks_38 : decode cX12_breaks 38 = .ok (.ishl, 1) := by decide +kernel
theorem dX12_breaks_39 : decode cX12_breaks 39 = .ok (.ixor, 1) := by decide +kernel
theorem dX12_breaks_40 : decode cX12_breaks 40 = .ok (.iastore, 1) := by decide +kernel
theorem dX12_breaks_41 : decode cX12_breaks 41 = .ok (.iconst 1, 1) := by decide +kernel
theorem dX12_breaks_42 : decode cX12_breaks 42 = .ok (.ireturn, 1) := by decide +kernel
theorem dX12_findFalls_0 : decode cX12_findFalls 0 = .ok (.iconst 0, 1) := by decide +kernel
theorem dX12_findFalls_1 : decode cX12_findFalls 1 = .ok (.istore_n 1, 1) := by decide +kernel
theorem dX12_findFalls_2 : decode cX12_findFalls 2 = .ok (.iload_n 1, 1) := by decide +kernel
theorem dX12_findFalls_3 : decode cX12_findFalls 3 = .ok (.bipush 6, 2) := by decide +kernel
theorem dX12_findFalls_5 : decode cX12_findFalls 5 = .ok (.if_icmp .ge 16, 3) := by decide +kernel
theorem dX12_findFalls_8 : decode cX12_findFalls 8 = .ok (.aload_n 0, 1) := by decide +kernel
theorem dX12_findFalls_9 : decode cX12_findFalls 9 = .ok (.getfield 118, 3) := by decide +kernel
theorem dX12_findFalls_12 : decode cX12_findFalls 12 = .ok (.iload_n 1, 1) := by decide +kernel
theorem dX12_findFalls_13 : decode cX12_findFalls 13 = .ok (.iconst 0, 1) := by decide +kernel
theorem dX12_findFalls_14 : decode cX12_findFalls 14 = .ok (.iastore, 1) := by decide +kernel
theorem dX12_findFalls_15 : decode cX12_findFalls 15 = .ok (.iinc 1 1, 3) := by decide +kernel
theorem dX12_findFalls_18 : decode cX12_findFalls 18 = .ok (.goto (-16), 3) := by decide +kernel
theorem dX12_findFalls_21 : decode cX12_findFalls 21 = .ok (.iconst 0, 1) := by decide +kernel
theorem dX12_findFalls_22 : decode cX12_findFalls 22 = .ok (.istore_n 1, 1) := by decide +kernel
theorem dX12_findFalls_23 : decode cX12_findFalls 23 = .ok (.iconst 1, 1) := by decide +kernel
theorem dX12_findFalls_24 : decode cX12_findFalls 24 = .ok (.istore_n 2, 1) := by decide +kernel
theorem dX12_findFalls_25 : decode cX12_findFalls 25 = .ok (.iload_n 2, 1) := by decide +kernel
theorem dX12_findFalls_26 : decode cX12_findFalls 26 = .ok (.ifCond .eq 152, 3) := by decide +kernel
theorem dX12_findFalls_29 : decode cX12_findFalls 29 = .ok (.iconst 0, 1) := by decide +kernel
theorem dX12_findFalls_30 : decode cX12_findFalls 30 = .ok (.istore_n 2, 1) := by decide +kernel
theorem dX12_findFalls_31 : decode cX12_findFalls 31 = .ok (.iinc 1 1, 3) := by decide +kernel
theorem dX12_findFalls_34 : decode cX12_findFalls 34 = .ok (.aload_n 0, 1) := by decide +kernel
theorem dX12_findFalls_35 : decode cX12_findFalls 35 = .ok (.invokevirtual 320, 3) := by decide +kernel
theorem dX12_findFalls_38 : decode cX12_findFalls 38 = .ok (.iconst 0, 1) := by decide +kernel
theorem dX12_findFalls_39 : decode cX12_findFalls 39 = .ok (.istore_n 3, 1) := by decide +kernel
theorem dX12_findFalls_40 : decode cX12_findFalls 40 = .ok (.iconst 0, 1) := by decide +kernel
theorem dX12_findFalls_41 : decode cX12_findFalls 41 = .ok (.istore 4, 2) := by decide +kernel
theorem dX12_findFalls_43 : decode cX12_findFalls 43 = .ok (.iload 4, 2) := by decide +kernel
theorem dX12_findFalls_45 : decode cX12_findFalls 45 = .ok (.aload_n 0, 1) := by decide +kernel
theorem dX12_findFalls_46 : decode cX12_findFalls 46 = .ok (.invokevirtual 266, 3) := by decide +kernel
theorem dX12_findFalls_49 : decode cX12_findFalls 49 = .ok (.if_icmp .ge 116, 3) := by decide +kernel
theorem dX12_findFalls_52 : decode cX12_findFalls 52 = .ok (.iconst 0, 1) := by decide +kernel
theorem dX12_findFalls_53 : decode cX12_findFalls 53 = .ok (.istore 5, 2) := by decide +kernel
theorem dX12_findFalls_55 : decode cX12_findFalls 55 = .ok (.iconst 0, 1) := by decide +kernel
theorem dX12_findFalls_56 : decode cX12_findFalls 56 = .ok (.istore 6, 2) := by decide +kernel
theorem dX12_findFalls_58 : decode cX12_findFalls 58 = .ok (.iload 6, 2) := by decide +kernel
theorem dX12_findFalls_60 : decode cX12_findFalls 60 = .ok (.aload_n 0, 1) := by decide +kernel
theorem dX12_findFalls_61 : decode cX12_findFalls 61 = .ok (.invokevirtual 269, 3) := by decide +kernel
theorem dX12_findFalls_64 : decode cX12_findFalls 64 = .ok (.if_icmp .ge 41, 3) := by decide +kernel
theorem dX12_findFalls_67 : decode cX12_findFalls 67 = .ok (.iload 5, 2) := by decide +kernel
theorem dX12_findFalls_69 : decode cX12_findFalls 69 = .ok (.ifCond .ne 23, 3) := by decide +kernel
theorem dX12_findFalls_72 : decode cX12_findFalls 72 = .ok (.aload_n 0, 1) := by decide +kernel
theorem dX12_findFalls_73 : decode cX12_findFalls 73 = .ok (.iload 6, 2) := by decide +kernel
theorem dX12_findFalls_75 : decode cX12_findFalls 75 = .ok (.invokevirtual 289, 3) := by decide +kernel
theorem dX12_findFalls_78 : decode cX12_findFalls 78 = .ok (.iload 4, 2) := by decide +kernel
theorem dX12_findFalls_80 : decode cX12_findFalls 80 = .ok (.if_icmp .ne 16, 3) := by decide +kernel
theorem dX12_findFalls_83 : decode cX12_findFalls 83 = .ok (.aload_n 0, 1) := by decide +kernel
theorem dX12_findFalls_84 : decode cX12_findFalls 84 = .ok (.iload 6, 2) := by decide +kernel
theorem dX12_findFalls_86 : decode cX12_findFalls 86 = .ok (.invokevirtual 283, 3) := by decide +kernel
theorem dX12_findFalls_89 : decode cX12_findFalls 89 = .ok (.ifCond .ne 7, 3) := by decide +kernel
theorem dX12_findFalls_92 : decode cX12_findFalls 92 = .ok (.iconst 1, 1) := by decide +kernel
theorem dX12_findFalls_93 : decode cX12_findFalls 93 = .ok (.goto 4, 3) := by decide +kernel
theorem dX12_findFalls_96 : decode cX12_findFalls 96 = .ok (.iconst 0, 1) := by decide +kernel
theorem dX12_findFalls_97 : decode cX12_findFalls 97 = .ok (.istore 5, 2) := by decide +kernel
theorem dX12_findFalls_99 : decode cX12_findFalls 99 = .ok (.iinc 6 1, 3) := by decide +kernel
theorem dX12_findFalls_102 : decode cX12_findFalls 102 = .ok (.goto (-44), 3) := by decide +kernel
theorem dX12_findFalls_105 : decode cX12_findFalls 105 = .ok (.aload_n 0, 1) := by decide +kernel
theorem dX12_findFalls_106 : decode cX12_findFalls 106 = .ok (.getfield 118, 3) := by decide +kernel
theorem dX12_findFalls_109 : decode cX12_findFalls 109 = .ok (.iload 4, 2) := by decide +kernel
theorem dX12_findFalls_111 : decode cX12_findFalls 111 = .ok (.iaload, 1) := by decide +kernel
theorem dX12_findFalls_112 : decode cX12_findFalls 112 = .ok (.ifCond .ne 47, 3) := by decide +kernel
theorem dX12_findFalls_115 : decode cX12_findFalls 115 = .ok (.iload 5, 2) := by decide +kernel
theorem dX12_findFalls_117 : decode cX12_findFalls 117 = .ok (.ifCond .eq 42, 3) := by decide +kernel
theorem dX12_findFalls_120 : decode cX12_findFalls 120 = .ok (.aload_n 0, 1) := by decide +kernel
theorem dX12_findFalls_121 : decode cX12_findFalls 121 = .ok (.iload 4, 2) := by decide +kernel
theorem dX12_findFalls_123 : decode cX12_findFalls 123 = .ok (.invokevirtual 323, 3) := by decide +kernel
theorem dX12_findFalls_126 : decode cX12_findFalls 126 = .ok (.aload_n 0, 1) := by decide +kernel
theorem dX12_findFalls_127 : decode cX12_findFalls 127 = .ok (.getfield 81, 3) := by decide +kernel
theorem dX12_findFalls_130 : decode cX12_findFalls 130 = .ok (.iconst 5, 1) := by decide +kernel
theorem dX12_findFalls_131 : decode cX12_findFalls 131 = .ok (.iconst 2, 1) := by decide +kernel
theorem dX12_findFalls_132 : decode cX12_findFalls 132 = .ok (.iload 4, 2) := by decide +kernel
theorem dX12_findFalls_134 : decode cX12_findFalls 134 = .ok (.imul, 1) := by decide +kernel
theorem dX12_findFalls_135 : decode cX12_findFalls 135 = .ok (.iadd, 1) := by decide +kernel
theorem dX12_findFalls_136 : decode cX12_findFalls 136 = .ok (.iconst 1, 1) := by decide +kernel
theorem dX12_findFalls_137 : decode cX12_findFalls 137 = .ok (.iadd, 1) := by decide +kernel
theorem dX12_findFalls_138 : decode cX12_findFalls 138 = .ok (.iaload, 1) := by decide +kernel
theorem dX12_findFalls_139 : decode cX12_findFalls 139 = .ok (.if_icmp .ge 20, 3) := by decide +kernel
theorem dX12_findFalls_142 : decode cX12_findFalls 142 = .ok (.aload_n 0, 1) := by decide +kernel
theorem dX12_findFalls_143 : decode cX12_findFalls 143 = .ok (.getfield 118, 3) := by decide +kernel
theorem dX12_findFalls_146 : decode cX12_findFalls 146 = .ok (.iload 4, 2) := by decide +kernel
theorem dX12_findFalls_148 : decode cX12_findFalls 148 = .ok (.iload_n 1, 1) := by decide +kernel
theorem dX12_findFalls_149 : decode cX12_findFalls 149 = .ok (.iastore, 1) := by decide +kernel
theorem dX12_findFalls_150 : decode cX12_findFalls 150 = .ok (.iload_n 3, 1) := by decide +kernel
theorem dX12_findFalls_151 : decode cX12_findFalls 151 = .ok (.iconst 1, 1) := by decide +kernel
theorem dX12_findFalls_152 : decode cX12_findFalls 152 = .ok (.iload 4, 2) := by decide +kernel
theorem dX12_findFalls_154 : decode cX12_findFalls 154 = .ok (.ishl, 1) := by decide +kernel
theorem dX12_findFalls_155 : decode cX12_findFalls 155 = .ok (.ior, 1) := by decide +kernel
theorem dX12_findFalls_156 : decode cX12_findFalls 156 = .ok (.istore_n 3, 1) := by decide +kernel
theorem dX12_findFalls_157 : decode cX12_findFalls 157 = .ok (.iconst 1, 1) := by decide +kernel
theorem dX12_findFalls_158 : decode cX12_findFalls 158 = .ok (.istore_n 2, 1) := by decide +kernel
theorem dX12_findFalls_159 : decode cX12_findFalls 159 = .ok (.iinc 4 1, 3) := by decide +kernel
theorem dX12_findFalls_162 : decode cX12_findFalls 162 = .ok (.goto (-119), 3) := by decide +kernel
theorem dX12_findFalls_165 : decode cX12_findFalls 165 = .ok (.aload_n 0, 1) := by decide +kernel
theorem dX12_findFalls_166 : decode cX12_findFalls 166 = .ok (.dup, 1) := by decide +kernel
theorem dX12_findFalls_167 : decode cX12_findFalls 167 = .ok (.getfield 286, 3) := by decide +kernel
theorem dX12_findFalls_170 : decode cX12_findFalls 170 = .ok (.iload_n 3, 1) := by decide +kernel
theorem dX12_findFalls_171 : decode cX12_findFalls 171 = .ok (.ior, 1) := by decide +kernel
theorem dX12_findFalls_172 : decode cX12_findFalls 172 = .ok (.putfield 286, 3) := by decide +kernel
theorem dX12_findFalls_175 : decode cX12_findFalls 175 = .ok (.goto (-150), 3) := by decide +kernel
theorem dX12_findFalls_178 : decode cX12_findFalls 178 = .ok (.aload_n 0, 1) := by decide +kernel
theorem dX12_findFalls_179 : decode cX12_findFalls 179 = .ok (.iconst 0, 1) := by decide +kernel
theorem dX12_findFalls_180 : decode cX12_findFalls 180 = .ok (.putfield 286, 3) := by decide +kernel
theorem dX12_findFalls_183 : decode cX12_findFalls 183 = .ok (.return_, 1) := by decide +kernel
theorem dX12_fallen_0 : decode cX12_fallen 0 = .ok (.aload_n 0, 1) := by decide +kernel
theorem dX12_fallen_1 : decode cX12_fallen 1 = .ok (.iconst 0, 1) := by decide +kernel
theorem dX12_fallen_2 : decode cX12_fallen 2 = .ok (.putfield 1, 3) := by decide +kernel
theorem dX12_fallen_5 : decode cX12_fallen 5 = .ok (.aload_n 0, 1) := by decide +kernel
theorem dX12_fallen_6 : decode cX12_fallen 6 = .ok (.invokevirtual 347, 3) := by decide +kernel
theorem dX12_fallen_9 : decode cX12_fallen 9 = .ok (.iconst 0, 1) := by decide +kernel
theorem dX12_fallen_10 : decode cX12_fallen 10 = .ok (.istore_n 1, 1) := by decide +kernel
theorem dX12_fallen_11 : decode cX12_fallen 11 = .ok (.iconst 0, 1) := by decide +kernel
theorem dX12_fallen_12 : decode cX12_fallen 12 = .ok (.istore_n 2, 1) := by decide +kernel
theorem dX12_fallen_13 : decode cX12_fallen 13 = .ok (.iload_n 2, 1) := by decide +kernel
theorem dX12_fallen_14 : decode cX12_fallen 14 = .ok (.aload_n 0, 1) := by decide +kernel
theorem dX12_fallen_15 : decode cX12_fallen 15 = .ok (.invokevirtual 266, 3) := by decide +kernel
theorem dX12_fallen_18 : decode cX12_fallen 18 = .ok (.if_icmp .ge 28, 3) := by decide +kernel
theorem dX12_fallen_21 : decode cX12_fallen 21 = .ok (.iload_n 1, 1) := by decide +kernel
theorem dX12_fallen_22 : decode cX12_fallen 22 = .ok (.aload_n 0, 1) := by decide +kernel
theorem dX12_fallen_23 : decode cX12_fallen 23 = .ok (.getfield 118, 3) := by decide +kernel
theorem dX12_fallen_26 : decode cX12_fallen 26 = .ok (.iload_n 2, 1) := by decide +kernel
theorem dX12_fallen_27 : decode cX12_fallen 27 = .ok (.iaload, 1) := by decide +kernel
theorem dX12_fallen_28 : decode cX12_fallen 28 = .ok (.ifCond .le 9, 3) := by decide +kernel
theorem dX12_fallen_31 : decode cX12_fallen 31 = .ok (.iconst 1, 1) := by decide +kernel
theorem dX12_fallen_32 : decode cX12_fallen 32 = .ok (.iload_n 2, 1) := by decide +kernel
theorem dX12_fallen_33 : decode cX12_fallen 33 = .ok (.ishl, 1) := by decide +kernel
theorem dX12_fallen_34 : decode cX12_fallen 34 = .ok (.goto 4, 3) := by decide +kernel
theorem dX12_fallen_37 : decode cX12_fallen 37 = .ok (.iconst 0, 1) := by decide +kernel
theorem dX12_fallen_38 : decode cX12_fallen 38 = .ok (.ior, 1) := by decide +kernel
theorem dX12_fallen_39 : decode cX12_fallen 39 = .ok (.istore_n 1, 1) := by decide +kernel
theorem dX12_fallen_40 : decode cX12_fallen 40 = .ok (.iinc 2 1, 3) := by decide +kernel
theorem dX12_fallen_43 : decode cX12_fallen 43 = .ok (.goto (-30), 3) := by decide +kernel
theorem dX12_fallen_46 : decode cX12_fallen 46 = .ok (.iload_n 1, 1) := by decide +kernel
theorem dX12_fallen_47 : decode cX12_fallen 47 = .ok (.ireturn, 1) := by decide +kernel
theorem dX12_falls_0 : decode cX12_falls 0 = .ok (.aload_n 0, 1) := by decide +kernel
theorem dX12_falls_1 : decode cX12_falls 1 = .ok (.iconst 0, 1) := by decide +kernel
theorem dX12_falls_2 : decode cX12_falls 2 = .ok (.putfield 1, 3) := by decide +kernel
theorem dX12_falls_5 : decode cX12_falls 5 = .ok (.aload_n 0, 1) := by decide +kernel
theorem dX12_falls_6 : decode cX12_falls 6 = .ok (.iload_n 1, 1) := by decide +kernel
theorem dX12_falls_7 : decode cX12_falls 7 = .ok (.invokevirtual 311, 3) := by decide +kernel
theorem dX12_falls_10 : decode cX12_falls 10 = .ok (.ifCond .ne 5, 3) := by decide +kernel
theorem dX12_falls_13 : decode cX12_falls 13 = .ok (.iconst (-1), 1) := by decide +kernel
theorem dX12_falls_14 : decode cX12_falls 14 = .ok (.ireturn, 1) := by decide +kernel
theorem dX12_falls_15 : decode cX12_falls 15 = .ok (.aload_n 0, 1) := by decide +kernel
theorem dX12_falls_16 : decode cX12_falls 16 = .ok (.invokevirtual 347, 3) := by decide +kernel
theorem dX12_falls_19 : decode cX12_falls 19 = .ok (.aload_n 0, 1) := by decide +kernel
theorem dX12_falls_20 : decode cX12_falls 20 = .ok (.getfield 118, 3) := by decide +kernel
theorem dX12_falls_23 : decode cX12_falls 23 = .ok (.iload_n 1, 1) := by decide +kernel
theorem dX12_falls_24 : decode cX12_falls 24 = .ok (.iaload, 1) := by decide +kernel
theorem dX12_falls_25 : decode cX12_falls 25 = .ok (.ireturn, 1) := by decide +kernel
theorem dX12_undo_0 : decode cX12_undo 0 = .ok (.aload_n 0, 1) := by decide +kernel
theorem dX12_undo_1 : decode cX12_undo 1 = .ok (.iconst 0, 1) := by decide +kernel
theorem dX12_undo_2 : decode cX12_undo 2 = .ok (.putfield 1, 3) := by decide +kernel
theorem dX12_undo_5 : decode cX12_undo 5 = .ok (.aload_n 0, 1) := by decide +kernel
theorem dX12_undo_6 : decode cX12_undo 6 = .ok (.getfield 201, 3) := by decide +kernel
theorem dX12_undo_9 : decode cX12_undo 9 = .ok (.ifCond .ne 5, 3) := by decide +kernel
theorem dX12_undo_12 : decode cX12_undo 12 = .ok (.iconst 0, 1) := by decide +kernel
theorem dX12_undo_13 : decode cX12_undo 13 = .ok (.ireturn, 1) := by decide +kernel
theorem dX12_undo_14 : decode cX12_undo 14 = .ok (.aload_n 0, 1) := by decide +kernel
theorem dX12_undo_15 : decode cX12_undo 15 = .ok (.dup, 1) := by decide +kernel
theorem dX12_undo_16 : decode cX12_undo 16 = .ok (.getfield 201, 3) := by decide +kernel
theorem dX12_undo_19 : decode cX12_undo 19 = .ok (.iconst 1, 1) := by decide +kernel
theorem dX12_undo_20 : decode cX12_undo 20 = .ok (.isub, 1) := by decide +kernel
theorem dX12_undo_21 : decode cX12_undo 21 = .ok (.putfield 201, 3) := by decide +kernel
theorem dX12_undo_24 : decode cX12_undo 24 = .ok (.aload_n 0, 1) := by decide +kernel
theorem dX12_undo_25 : decode cX12_undo 25 = .ok (.iconst 5, 1) := by decide +kernel
theorem dX12_undo_26 : decode cX12_undo 26 = .ok (.aload_n 0, 1) := by decide +kernel
theorem dX12_undo_27 : decode cX12_undo 27 = .ok (.getfield 201, 3) := by decide +kernel
theorem dX12_undo_30 : decode cX12_undo 30 = .ok (.iadd, 1) := by decide +kernel
theorem dX12_undo_31 : decode cX12_undo 31 = .ok (.iconst 0, 1) := by decide +kernel
theorem dX12_undo_32 : decode cX12_undo 32 = .ok (.bipush 13, 2) := by decide +kernel
theorem dX12_undo_34 : decode cX12_undo 34 = .ok (.invokevirtual 262, 3) := by decide +kernel
theorem dX12_undo_37 : decode cX12_undo 37 = .ok (.iconst 1, 1) := by decide +kernel
theorem dX12_undo_38 : decode cX12_undo 38 = .ok (.ireturn, 1) := by decide +kernel
theorem dX12_steps_0 : decode cX12_steps 0 = .ok (.iload_n 0, 1) := by decide +kernel
theorem dX12_steps_1 : decode cX12_steps 1 = .ok (.bipush 8, 2) := by decide +kernel
theorem dX12_steps_3 : decode cX12_steps 3 = .ok (.irem, 1) := by decide +kernel
theorem dX12_steps_4 : decode cX12_steps 4 = .ok (.iload_n 1, 1) := by decide +kernel
theorem dX12_steps_5 : decode cX12_steps 5 = .ok (.bipush 8, 2) := by decide +kernel
theorem dX12_steps_7 : decode cX12_steps 7 = .ok (.irem, 1) := by decide +kernel
theorem dX12_steps_8 : decode cX12_steps 8 = .ok (.isub, 1) := by decide +kernel
theorem dX12_steps_9 : decode cX12_steps 9 = .ok (.istore_n 2, 1) := by decide +kernel
theorem dX12_steps_10 : decode cX12_steps 10 = .ok (.iload_n 0, 1) := by decide +kernel
theorem dX12_steps_11 : decode cX12_steps 11 = .ok (.bipush 8, 2) := by decide +kernel
theorem dX12_steps_13 : decode cX12_steps 13 = .ok (.idiv, 1) := by decide +kernel
theorem dX12_steps_14 : decode cX12_steps 14 = .ok (.iload_n 1, 1) := by decide +kernel
theorem dX12_steps_15 : decode cX12_steps 15 = .ok (.bipush 8, 2) := by decide +kernel
theorem dX12_steps_17 : decode cX12_steps 17 = .ok (.idiv, 1) := by decide +kernel
theorem dX12_steps_18 : decode cX12_steps 18 = .ok (.isub, 1) := by decide +kernel
theorem dX12_steps_19 : decode cX12_steps 19 = .ok (.istore_n 3, 1) := by decide +kernel
theorem dX12_steps_20 : decode cX12_steps 20 = .ok (.iload_n 2, 1) := by decide +kernel
theorem dX12_steps_21 : decode cX12_steps 21 = .ok (.ifCond .ge 8, 3) := by decide +kernel
theorem dX12_steps_24 : decode cX12_steps 24 = .ok (.iload_n 2, 1) := by decide +kernel
theorem dX12_steps_25 : decode cX12_steps 25 = .ok (.ineg, 1) := by decide +kernel
theorem dX12_steps_26 : decode cX12_steps 26 = .ok (.goto 4, 3) := by decide +kernel
theorem dX12_steps_29 : decode cX12_steps 29 = .ok (.iload_n 2, 1) := by decide +kernel
theorem dX12_steps_30 : decode cX12_steps 30 = .ok (.iload_n 3, 1) := by decide +kernel
theorem dX12_steps_31 : decode cX12_steps 31 = .ok (.ifCond .ge 8, 3) := by decide +kernel
theorem dX12_steps_34 : decode cX12_steps 34 = .ok (.iload_n 3, 1) := by decide +kernel
theorem dX12_steps_35 : decode cX12_steps 35 = .ok (.ineg, 1) := by decide +kernel
theorem dX12_steps_36 : decode cX12_steps 36 = .ok (.goto 4, 3) := by decide +kernel
theorem dX12_steps_39 : decode cX12_steps 39 = .ok (.iload_n 3, 1) := by decide +kernel
theorem dX12_steps_40 : decode cX12_steps 40 = .ok (.iadd, 1) := by decide +kernel
theorem dX12_steps_41 : decode cX12_steps 41 = .ok (.ireturn, 1) := by decide +kernel
theorem dX12_isPlace_0 : decode cX12_isPlace 0 = .ok (.aload_n 0, 1) := by decide +kernel
theorem dX12_isPlace_1 : decode cX12_isPlace 1 = .ok (.iload_n 1, 1) := by decide +kernel
theorem dX12_isPlace_2 : decode cX12_isPlace 2 = .ok (.bipush 8, 2) := by decide +kernel
theorem dX12_isPlace_4 : decode cX12_isPlace 4 = .ok (.irem, 1) := by decide +kernel
theorem dX12_isPlace_5 : decode cX12_isPlace 5 = .ok (.iload_n 1, 1) := by decide +kernel
theorem dX12_isPlace_6 : decode cX12_isPlace 6 = .ok (.bipush 8, 2) := by decide +kernel
theorem dX12_isPlace_8 : decode cX12_isPlace 8 = .ok (.idiv, 1) := by decide +kernel
theorem dX12_isPlace_9 : decode cX12_isPlace 9 = .ok (.invokevirtual 295, 3) := by decide +kernel
theorem dX12_isPlace_12 : decode cX12_isPlace 12 = .ok (.ireturn, 1) := by decide +kernel
theorem dX12_findMay_0 : decode cX12_findMay 0 = .ok (.aload_n 0, 1) := by decide +kernel
theorem dX12_findMay_1 : decode cX12_findMay 1 = .ok (.iload_n 2, 1) := by decide +kernel
theorem dX12_findMay_2 : decode cX12_findMay 2 = .ok (.iload_n 3, 1) := by decide +kernel
theorem dX12_findMay_3 : decode cX12_findMay 3 = .ok (.invokevirtual 298, 3) := by decide +kernel
theorem dX12_findMay_6 : decode cX12_findMay 6 = .ok (.iconst 0, 1) := by decide +kernel
theorem dX12_findMay_7 : decode cX12_findMay 7 = .ok (.istore 5, 2) := by decide +kernel
theorem dX12_findMay_9 : decode cX12_findMay 9 = .ok (.iconst 0, 1) := by decide +kernel
theorem dX12_findMay_10 : decode cX12_findMay 10 = .ok (.istore 6, 2) := by decide +kernel
theorem dX12_findMay_12 : decode cX12_findMay 12 = .ok (.iload 6, 2) := by decide +kernel
theorem dX12_findMay_14 : decode cX12_findMay 14 = .ok (.bipush 64, 2) := by decide +kernel
theorem dX12_findMay_16 : decode cX12_findMay 16 = .ok (.if_icmp .ge 82, 3) := by decide +kernel
theorem dX12_findMay_19 : decode cX12_findMay 19 = .ok (.aload_n 0, 1) := by decide +kernel
theorem dX12_findMay_20 : decode cX12_findMay 20 = .ok (.iload 6, 2) := by decide +kernel
theorem dX12_findMay_22 : decode cX12_findMay 22 = .ok (.invokevirtual 350, 3) := by decide +kernel
theorem dX12_findMay_25 : decode cX12_findMay 25 = .ok (.ifCond .eq 22, 3) := by decide +kernel
theorem dX12_findMay_28 : decode cX12_findMay 28 = .ok (.aload_n 0, 1) := by decide +kernel
theorem dX12_findMay_29 : decode cX12_findMay 29 = .ok (.iload 6, 2) := by decide +kernel
theorem dX12_findMay_31 : decode cX12_findMay 31 = .ok (.iconst 0, 1) := by decide +kernel
theorem dX12_findMay_32 : decode cX12_findMay 32 = .ok (.invokevirtual 301, 3) := by decide +kernel
theorem dX12_findMay_35 : decode cX12_findMay 35 = .ok (.iload_n 1, 1) := by decide +kernel
theorem dX12_findMay_36 : decode cX12_findMay 36 = .ok (.ishr, 1) := by decide +kernel
theorem dX12_findMay_37 : decode cX12_findMay 37 = .ok (.iconst 1, 1) := by decide +kernel
theorem dX12_findMay_38 : decode cX12_findMay 38 = .ok (.iand, 1) := by decide +kernel
theorem dX12_findMay_39 : decode cX12_findMay 39 = .ok (.iconst 1, 1) := by decide +kernel
theorem dX12_findMay_40 : decode cX12_findMay 40 = .ok (.if_icmp .ne 7, 3) := by decide +kernel
theorem dX12_findMay_43 : decode cX12_findMay 43 = .ok (.iconst 1, 1) := by decide +kernel
theorem dX12_findMay_44 : decode cX12_findMay 44 = .ok (.goto 4, 3) := by decide +kernel
theorem dX12_findMay_47 : decode cX12_findMay 47 = .ok (.iconst 0, 1) := by decide +kernel
theorem dX12_findMay_48 : decode cX12_findMay 48 = .ok (.istore 7, 2) := by decide +kernel
theorem dX12_findMay_50 : decode cX12_findMay 50 = .ok (.iload 5, 2) := by decide +kernel
theorem dX12_findMay_52 : decode cX12_findMay 52 = .ok (.ifCond .ne 8, 3) := by decide +kernel
theorem dX12_findMay_55 : decode cX12_findMay 55 = .ok (.iload 7, 2) := by decide +kernel
theorem dX12_findMay_57 : decode cX12_findMay 57 = .ok (.ifCond .eq 7, 3) := by decide +kernel
theorem dX12_findMay_60 : decode cX12_findMay 60 = .ok (.iconst 1, 1) := by decide +kernel
theorem dX12_findMay_61 : decode cX12_findMay 61 = .ok (.goto 4, 3) := by decide +kernel
theorem dX12_findMay_64 : decode cX12_findMay 64 = .ok (.iconst 0, 1) := by decide +kernel
theorem dX12_findMay_65 : decode cX12_findMay 65 = .ok (.istore 5, 2) := by decide +kernel
theorem dX12_findMay_67 : decode cX12_findMay 67 = .ok (.aload_n 0, 1) := by decide +kernel
theorem dX12_findMay_68 : decode cX12_findMay 68 = .ok (.getfield 121, 3) := by decide +kernel
theorem dX12_findMay_71 : decode cX12_findMay 71 = .ok (.bipush 64, 2) := by decide +kernel
theorem dX12_findMay_73 : decode cX12_findMay 73 = .ok (.iload 4, 2) := by decide +kernel
theorem dX12_findMay_75 : decode cX12_findMay 75 = .ok (.imul, 1) := by decide +kernel
theorem dX12_findMay_76 : decode cX12_findMay 76 = .ok (.iload 6, 2) := by decide +kernel
theorem dX12_findMay_78 : decode cX12_findMay 78 = .ok (.iadd, 1) := by decide +kernel
theorem dX12_findMay_79 : decode cX12_findMay 79 = .ok (.iload 7, 2) := by decide +kernel
theorem dX12_findMay_81 : decode cX12_findMay 81 = .ok (.ifCond .eq 7, 3) := by decide +kernel
theorem dX12_findMay_84 : decode cX12_findMay 84 = .ok (.iconst 0, 1) := by decide +kernel
theorem dX12_findMay_85 : decode cX12_findMay 85 = .ok (.goto 6, 3) := by decide +kernel
theorem dX12_findMay_88 : decode cX12_findMay 88 = .ok (.ldc_w 353, 3) := by decide +kernel
theorem dX12_findMay_91 : decode cX12_findMay 91 = .ok (.iastore, 1) := by decide +kernel
theorem dX12_findMay_92 : decode cX12_findMay 92 = .ok (.iinc 6 1, 3) := by decide +kernel
theorem dX12_findMay_95 : decode cX12_findMay 95 = .ok (.goto (-83), 3) := by decide +kernel
theorem dX12_findMay_98 : decode cX12_findMay 98 = .ok (.iconst 0, 1) := by decide +kernel
theorem dX12_findMay_99 : decode cX12_findMay 99 = .ok (.istore 6, 2) := by decide +kernel
theorem dX12_findMay_101 : decode cX12_findMay 101 = .ok (.iload 6, 2) := by decide +kernel
theorem dX12_findMay_103 : decode cX12_findMay 103 = .ok (.bipush 64, 2) := by decide +kernel
theorem dX12_findMay_105 : decode cX12_findMay 105 = .ok (.if_icmp .ge 43, 3) := by decide +kernel
theorem dX12_findMay_108 : decode cX12_findMay 108 = .ok (.iload 5, 2) := by decide +kernel
theorem dX12_findMay_110 : decode cX12_findMay 110 = .ok (.ifCond .ne 38, 3) := by decide +kernel
theorem dX12_findMay_113 : decode cX12_findMay 113 = .ok (.aload_n 0, 1) := by decide +kernel
theorem dX12_findMay_114 : decode cX12_findMay 114 = .ok (.getfield 121, 3) := by decide +kernel
theorem dX12_findMay_117 : decode cX12_findMay 117 = .ok (.bipush 64, 2) := by decide +kernel
theorem dX12_findMay_119 : decode cX12_findMay 119 = .ok (.iload 4, 2) := by decide +kernel
theorem dX12_findMay_121 : decode cX12_findMay 121 = .ok (.imul, 1) := by decide +kernel
theorem dX12_findMay_122 : decode cX12_findMay 122 = .ok (.iload 6, 2) := by decide +kernel
theorem dX12_findMay_124 : decode cX12_findMay 124 = .ok (.iadd, 1) := by decide +kernel
theorem dX12_findMay_125 : decode cX12_findMay 125 = .ok (.aload_n 0, 1) := by decide +kernel
theorem dX12_findMay_126 : decode cX12_findMay 126 = .ok (.iload 6, 2) := by decide +kernel
theorem dX12_findMay_128 : decode cX12_findMay 128 = .ok (.invokevirtual 350, 3) := by decide +kernel
theorem dX12_findMay_131 : decode cX12_findMay 131 = .ok (.ifCond .eq 7, 3) := by decide +kernel
theorem dX12_findMay_134 : decode cX12_findMay 134 = .ok (.iconst 0, 1) := by decide +kernel
theorem dX12_findMay_135 : decode cX12_findMay 135 = .ok (.goto 6, 3) := by decide +kernel
theorem dX12_findMay_138 : decode cX12_findMay 138 = .ok (.ldc_w 353, 3) := by decide +kernel
theorem dX12_findMay_141 : decode cX12_findMay 141 = .ok (.iastore, 1) := by decide +kernel
theorem dX12_findMay_142 : decode cX12_findMay 142 = .ok (.iinc 6 1, 3) := by decide +kernel
theorem dX12_findMay_145 : decode cX12_findMay 145 = .ok (.goto (-44), 3) := by decide +kernel
theorem dX12_findMay_148 : decode cX12_findMay 148 = .ok (.return_, 1) := by decide +kernel
theorem dX12_leastFrom_0 : decode cX12_leastFrom 0 = .ok (.ldc_w 353, 3) := by decide +kernel
theorem dX12_leastFrom_3 : decode cX12_leastFrom 3 = .ok (.istore_n 3, 1) := by decide +kernel
theorem dX12_leastFrom_4 : decode cX12_leastFrom 4 = .ok (.iconst 0, 1) := by decide +kernel
theorem dX12_leastFrom_5 : decode cX12_leastFrom 5 = .ok (.istore 4, 2) := by decide +kernel
theorem dX12_leastFrom_7 : decode cX12_leastFrom 7 = .ok (.iload 4, 2) := by decide +kernel
theorem dX12_leastFrom_9 : decode cX12_leastFrom 9 = .ok (.bipush 64, 2) := by decide +kernel
theorem dX12_leastFrom_11 : decode cX12_leastFrom 11 = .ok (.if_icmp .ge 71, 3) := by decide +kernel
theorem dX12_leastFrom_14 : decode cX12_leastFrom 14 = .ok (.aload_n 0, 1) := by decide +kernel
theorem dX12_leastFrom_15 : decode cX12_leastFrom 15 = .ok (.getfield 121, 3) := by decide +kernel
theorem dX12_leastFrom_18 : decode cX12_leastFrom 18 = .ok (.bipush 64, 2) := by decide +kernel
theorem dX12_leastFrom_20 : decode cX12_leastFrom 20 = .ok (.iload_n 1, 1) := by decide +kernel
theorem dX12_leastFrom_21 : decode cX12_leastFrom 21 = .ok (.iconst 1, 1) := by decide +kernel
theorem dX12_leastFrom_22 : decode cX12_leastFrom 22 = .ok (.iadd, 1) := by decide +kernel
theorem dX12_leastFrom_23 : decode cX12_leastFrom 23 = .ok (.imul, 1) := by decide +kernel
theorem dX12_leastFrom_24 : decode cX12_leastFrom 24 = .ok (.iload 4, 2) := by decide +kernel
theorem dX12_leastFrom_26 : decode cX12_leastFrom 26 = .ok (.iadd, 1) := by decide +kernel
theorem dX12_leastFrom_27 : decode cX12_leastFrom 27 = .ok (.iaload, 1) := by decide +kernel
theorem dX12_leastFrom_28 : decode cX12_leastFrom 28 = .ok (.ldc_w 353, 3) := by decide +kernel
theorem dX12_leastFrom_31 : decode cX12_leastFrom 31 = .ok (.if_icmp .lt 9, 3) := by decide +kernel
theorem dX12_leastFrom_34 : decode cX12_leastFrom 34 = .ok (.ldc_w 353, 3) := by decide +kernel
theorem dX12_leastFrom_37 : decode cX12_leastFrom 37 = .ok (.goto 24, 3) := by decide +kernel
theorem dX12_leastFrom_40 : decode cX12_leastFrom 40 = .ok (.aload_n 0, 1) := by decide +kernel
theorem dX12_leastFrom_41 : decode cX12_leastFrom 41 = .ok (.getfield 121, 3) := by decide +kernel
theorem dX12_leastFrom_44 : decode cX12_leastFrom 44 = .ok (.bipush 64, 2) := by decide +kernel
theorem dX12_leastFrom_46 : decode cX12_leastFrom 46 = .ok (.iload_n 1, 1) := by decide +kernel
theorem dX12_leastFrom_47 : decode cX12_leastFrom 47 = .ok (.iconst 1, 1) := by decide +kernel
theorem dX12_leastFrom_48 : decode cX12_leastFrom 48 = .ok (.iadd, 1) := by decide +kernel
theorem dX12_leastFrom_49 : decode cX12_leastFrom 49 = .ok (.imul, 1) := by decide +kernel
theorem dX12_leastFrom_50 : decode cX12_leastFrom 50 = .ok (.iload 4, 2) := by decide +kernel
theorem dX12_leastFrom_52 : decode cX12_leastFrom 52 = .ok (.iadd, 1) := by decide +kernel
theorem dX12_leastFrom_53 : decode cX12_leastFrom 53 = .ok (.iaload, 1) := by decide +kernel
theorem dX12_leastFrom_54 : decode cX12_leastFrom 54 = .ok (.iload_n 2, 1) := by decide +kernel
theorem dX12_leastFrom_55 : decode cX12_leastFrom 55 = .ok (.iload 4, 2) := by decide +kernel
theorem dX12_leastFrom_57 : decode cX12_leastFrom 57 = .ok (.invokestatic 354, 3) := by decide +kernel
theorem dX12_leastFrom_60 : decode cX12_leastFrom 60 = .ok (.iadd, 1) := by decide +kernel
theorem dX12_leastFrom_61 : decode cX12_leastFrom 61 = .ok (.istore 5, 2) := by decide +kernel
theorem dX12_leastFrom_63 : decode cX12_leastFrom 63 = .ok (.iload 5, 2) := by decide +kernel
theorem dX12_leastFrom_65 : decode cX12_leastFrom 65 = .ok (.iload_n 3, 1) := by decide +kernel
theorem dX12_leastFrom_66 : decode cX12_leastFrom 66 = .ok (.if_icmp .ge 8, 3) := by decide +kernel
theorem dX12_leastFrom_69 : decode cX12_leastFrom 69 = .ok (.iload 5, 2) := by decide +kernel
theorem dX12_leastFrom_71 : decode cX12_leastFrom 71 = .ok (.goto 4, 3) := by decide +kernel
theorem dX12_leastFrom_74 : decode cX12_leastFrom 74 = .ok (.iload_n 3, 1) := by decide +kernel
theorem dX12_leastFrom_75 : decode cX12_leastFrom 75 = .ok (.istore_n 3, 1) := by decide +kernel
theorem dX12_leastFrom_76 : decode cX12_leastFrom 76 = .ok (.iinc 4 1, 3) := by decide +kernel
theorem dX12_leastFrom_79 : decode cX12_leastFrom 79 = .ok (.goto (-72), 3) := by decide +kernel
theorem dX12_leastFrom_82 : decode cX12_leastFrom 82 = .ok (.iload_n 3, 1) := by decide +kernel
theorem dX12_leastFrom_83 : decode cX12_leastFrom 83 = .ok (.ireturn, 1) := by decide +kernel
theorem dX12_stall_0 : decode cX12_stall 0 = .ok (.aload_n 0, 1) := by decide +kernel
theorem dX12_stall_1 : decode cX12_stall 1 = .ok (.iconst 0, 1) := by decide +kernel
theorem dX12_stall_2 : decode cX12_stall 2 = .ok (.putfield 1, 3) := by decide +kernel
theorem dX12_stall_5 : decode cX12_stall 5 = .ok (.aload_n 0, 1) := by decide +kernel
theorem dX12_stall_6 : decode cX12_stall 6 = .ok (.iload_n 1, 1) := by decide +kernel
theorem dX12_stall_7 : decode cX12_stall 7 = .ok (.invokevirtual 311, 3) := by decide +kernel
theorem dX12_stall_10 : decode cX12_stall 10 = .ok (.ifCond .eq 41, 3) := by decide +kernel
theorem dX12_stall_13 : decode cX12_stall 13 = .ok (.iload_n 2, 1) := by decide +kernel
theorem dX12_stall_14 : decode cX12_stall 14 = .ok (.iload_n 3, 1) := by decide +kernel
theorem dX12_stall_15 : decode cX12_stall 15 = .ok (.invokestatic 317, 3) := by decide +kernel
theorem dX12_stall_18 : decode cX12_stall 18 = .ok (.ifCond .eq 33, 3) := by decide +kernel
theorem dX12_stall_21 : decode cX12_stall 21 = .ok (.iload 4, 2) := by decide +kernel
theorem dX12_stall_23 : decode cX12_stall 23 = .ok (.iload_n 3, 1) := by decide +kernel
theorem dX12_stall_24 : decode cX12_stall 24 = .ok (.bipush 23, 2) := by decide +kernel
theorem dX12_stall_26 : decode cX12_stall 26 = .ok (.invokestatic 272, 3) := by decide +kernel
theorem dX12_stall_29 : decode cX12_stall 29 = .ok (.ifCond .eq 22, 3) := by decide +kernel
theorem dX12_stall_32 : decode cX12_stall 32 = .ok (.iload 5, 2) := by decide +kernel
theorem dX12_stall_34 : decode cX12_stall 34 = .ok (.iconst (-1), 1) := by decide +kernel
theorem dX12_stall_35 : decode cX12_stall 35 = .ok (.if_icmp .eq 18, 3) := by decide +kernel
theorem dX12_stall_38 : decode cX12_stall 38 = .ok (.iload 5, 2) := by decide +kernel
theorem dX12_stall_40 : decode cX12_stall 40 = .ok (.iconst 0, 1) := by decide +kernel
theorem dX12_stall_41 : decode cX12_stall 41 = .ok (.iload 4, 2) := by decide +kernel
theorem dX12_stall_43 : decode cX12_stall 43 = .ok (.iload_n 3, 1) := by decide +kernel
theorem dX12_stall_44 : decode cX12_stall 44 = .ok (.isub, 1) := by decide +kernel
theorem dX12_stall_45 : decode cX12_stall 45 = .ok (.invokestatic 272, 3) := by decide +kernel
theorem dX12_stall_48 : decode cX12_stall 48 = .ok (.ifCond .ne 5, 3) := by decide +kernel
theorem dX12_stall_51 : decode cX12_stall 51 = .ok (.iconst (-1), 1) := by decide +kernel
theorem dX12_stall_52 : decode cX12_stall 52 = .ok (.ireturn, 1) := by decide +kernel
theorem dX12_stall_53 : decode cX12_stall 53 = .ok (.iload 4, 2) := by decide +kernel
theorem dX12_stall_55 : decode cX12_stall 55 = .ok (.iload_n 3, 1) := by decide +kernel
theorem dX12_stall_56 : decode cX12_stall 56 = .ok (.isub, 1) := by decide +kernel
theorem dX12_stall_57 : decode cX12_stall 57 = .ok (.iconst 1, 1) := by decide +kernel
theorem dX12_stall_58 : decode cX12_stall 58 = .ok (.iadd, 1) := by decide +kernel
theorem dX12_stall_59 : decode cX12_stall 59 = .ok (.istore 6, 2) := by decide +kernel
theorem dX12_stall_61 : decode cX12_stall 61 = .ok (.iconst 0, 1) := by decide +kernel
theorem dX12_stall_62 : decode cX12_stall 62 = .ok (.istore 7, 2) := by decide +kernel
theorem dX12_stall_64 : decode cX12_stall 64 = .ok (.iload 7, 2) := by decide +kernel
theorem dX12_stall_66 : decode cX12_stall 66 = .ok (.iload 6, 2) := by decide +kernel
theorem dX12_stall_68 : decode cX12_stall 68 = .ok (.if_icmp .ge 21, 3) := by decide +kernel
theorem dX12_stall_71 : decode cX12_stall 71 = .ok (.aload_n 0, 1) := by decide +kernel
theorem dX12_stall_72 : decode cX12_stall 72 = .ok (.iload_n 1, 1) := by decide +kernel
theorem dX12_stall_73 : decode cX12_stall 73 = .ok (.iload_n 2, 1) := by decide +kernel
theorem dX12_stall_74 : decode cX12_stall 74 = .ok (.iload_n 3, 1) := by decide +kernel
theorem dX12_stall_75 : decode cX12_stall 75 = .ok (.iload 7, 2) := by decide +kernel
theorem dX12_stall_77 : decode cX12_stall 77 = .ok (.iadd, 1) := by decide +kernel
theorem dX12_stall_78 : decode cX12_stall 78 = .ok (.iload 7, 2) := by decide +kernel
theorem dX12_stall_80 : decode cX12_stall 80 = .ok (.invokevirtual 357, 3) := by decide +kernel
theorem dX12_stall_83 : decode cX12_stall 83 = .ok (.iinc 7 1, 3) := by decide +kernel
theorem dX12_stall_86 : decode cX12_stall 86 = .ok (.goto (-22), 3) := by decide +kernel
theorem dX12_stall_89 : decode cX12_stall 89 = .ok (.iload 6, 2) := by decide +kernel
theorem dX12_stall_91 : decode cX12_stall 91 = .ok (.iconst 2, 1) := by decide +kernel
theorem dX12_stall_92 : decode cX12_stall 92 = .ok (.isub, 1) := by decide +kernel
theorem dX12_stall_93 : decode cX12_stall 93 = .ok (.istore 7, 2) := by decide +kernel
theorem dX12_stall_95 : decode cX12_stall 95 = .ok (.iload 7, 2) := by decide +kernel
theorem dX12_stall_97 : decode cX12_stall 97 = .ok (.ifCond .lt 71, 3) := by decide +kernel
theorem dX12_stall_100 : decode cX12_stall 100 = .ok (.iconst 0, 1) := by decide +kernel
theorem dX12_stall_101 : decode cX12_stall 101 = .ok (.istore 8, 2) := by decide +kernel
theorem dX12_stall_103 : decode cX12_stall 103 = .ok (.iload 8, 2) := by decide +kernel
theorem dX12_stall_105 : decode cX12_stall 105 = .ok (.bipush 64, 2) := by decide +kernel
theorem dX12_stall_107 : decode cX12_stall 107 = .ok (.if_icmp .ge 55, 3) := by decide +kernel
theorem dX12_stall_110 : decode cX12_stall 110 = .ok (.aload_n 0, 1) := by decide +kernel
theorem dX12_stall_111 : decode cX12_stall 111 = .ok (.getfield 121, 3) := by decide +kernel
theorem dX12_stall_114 : decode cX12_stall 114 = .ok (.bipush 64, 2) := by decide +kernel
theorem dX12_stall_116 : decode cX12_stall 116 = .ok (.iload 7, 2) := by decide +kernel
theorem dX12_stall_118 : decode cX12_stall 118 = .ok (.imul, 1) := by decide +kernel
theorem dX12_stall_119 : decode cX12_stall 119 = .ok (.iload 8, 2) := by decide +kernel
theorem dX12_stall_121 : decode cX12_stall 121 = .ok (.iadd, 1) := by decide +kernel
theorem dX12_stall_122 : decode cX12_stall 122 = .ok (.aload_n 0, 1) := by decide +kernel
theorem dX12_stall_123 : decode cX12_stall 123 = .ok (.getfield 121, 3) := by decide +kernel
theorem dX12_stall_126 : decode cX12_stall 126 = .ok (.bipush 64, 2) := by decide +kernel
theorem dX12_stall_128 : decode cX12_stall 128 = .ok (.iload 7, 2) := by decide +kernel
theorem dX12_stall_130 : decode cX12_stall 130 = .ok (.imul, 1) := by decide +kernel
theorem dX12_stall_131 : decode cX12_stall 131 = .ok (.iload 8, 2) := by decide +kernel
theorem dX12_stall_133 : decode cX12_stall 133 = .ok (.iadd, 1) := by decide +kernel
theorem dX12_stall_134 : decode cX12_stall 134 = .ok (.iaload, 1) := by decide +kernel
theorem dX12_stall_135 : decode cX12_stall 135 = .ok (.ldc_w 353, 3) := by decide +kernel
theorem dX12_stall_138 : decode cX12_stall 138 = .ok (.if_icmp .lt 9, 3) := by decide +kernel
theorem dX12_stall_141 : decode cX12_stall 141 = .ok (.ldc_w 353, 3) := by decide +kernel
theorem dX12_stall_144 : decode cX12_stall 144 = .ok (.goto 11, 3) := by decide +kernel
theorem dX12_stall_147 : decode cX12_stall 147 = .ok (.aload_n 0, 1) := by decide +kernel
theorem dX12_stall_148 : decode cX12_stall 148 = .ok (.iload 7, 2) := by decide +kernel
theorem dX12_stall_150 : decode cX12_stall 150 = .ok (.iload 8, 2) := by decide +kernel
theorem dX12_stall_152 : decode cX12_stall 152 = .ok (.invokevirtual 361, 3) := by decide +kernel
theorem dX12_stall_155 : decode cX12_stall 155 = .ok (.iastore, 1) := by decide +kernel
theorem dX12_stall_156 : decode cX12_stall 156 = .ok (.iinc 8 1, 3) := by decide +kernel
theorem dX12_stall_159 : decode cX12_stall 159 = .ok (.goto (-56), 3) := by decide +kernel
theorem dX12_stall_162 : decode cX12_stall 162 = .ok (.iinc 7 (-1), 3) := by decide +kernel
theorem dX12_stall_165 : decode cX12_stall 165 = .ok (.goto (-70), 3) := by decide +kernel
theorem dX12_stall_168 : decode cX12_stall 168 = .ok (.ldc_w 353, 3) := by decide +kernel
theorem dX12_stall_171 : decode cX12_stall 171 = .ok (.istore 7, 2) := by decide +kernel
theorem dX12_stall_173 : decode cX12_stall 173 = .ok (.iconst (-1), 1) := by decide +kernel
theorem dX12_stall_174 : decode cX12_stall 174 = .ok (.istore 8, 2) := by decide +kernel
theorem dX12_stall_176 : decode cX12_stall 176 = .ok (.iconst 0, 1) := by decide +kernel
theorem dX12_stall_177 : decode cX12_stall 177 = .ok (.istore 9, 2) := by decide +kernel
theorem dX12_stall_179 : decode cX12_stall 179 = .ok (.iload 9, 2) := by decide +kernel
theorem dX12_stall_181 : decode cX12_stall 181 = .ok (.bipush 64, 2) := by decide +kernel
theorem dX12_stall_183 : decode cX12_stall 183 = .ok (.if_icmp .ge 56, 3) := by decide +kernel
theorem dX12_stall_186 : decode cX12_stall 186 = .ok (.aload_n 0, 1) := by decide +kernel
theorem dX12_stall_187 : decode cX12_stall 187 = .ok (.getfield 121, 3) := by decide +kernel
theorem dX12_stall_190 : decode cX12_stall 190 = .ok (.iload 9, 2) := by decide +kernel
theorem dX12_stall_192 : decode cX12_stall 192 = .ok (.iaload, 1) := by decide +kernel
theorem dX12_stall_193 : decode cX12_stall 193 = .ok (.iload 7, 2) := by decide +kernel
theorem dX12_stall_195 : decode cX12_stall 195 = .ok (.if_icmp .ge 8, 3) := by decide +kernel
theorem dX12_stall_198 : decode cX12_stall 198 = .ok (.iload 9, 2) := by decide +kernel
theorem dX12_stall_200 : decode cX12_stall 200 = .ok (.goto 5, 3) := by decide +kernel
theorem dX12_stall_203 : decode cX12_stall 203 = .ok (.iload 8, 2) := by decide +kernel
theorem dX12_stall_205 : decode cX12_stall 205 = .ok (.istore 8, 2) := by decide +kernel
theorem dX12_stall_207 : decode cX12_stall 207 = .ok (.aload_n 0, 1) := by decide +kernel
theorem dX12_stall_208 : decode cX12_stall 208 = .ok (.getfield 121, 3) := by decide +kernel
theorem dX12_stall_211 : decode cX12_stall 211 = .ok (.iload 9, 2) := by decide +kernel
theorem dX12_stall_213 : decode cX12_stall 213 = .ok (.iaload, 1) := by decide +kernel
theorem dX12_stall_214 : decode cX12_stall 214 = .ok (.iload 7, 2) := by decide +kernel
theorem dX12_stall_216 : decode cX12_stall 216 = .ok (.if_icmp .ge 13, 3) := by decide +kernel
theorem dX12_stall_219 : decode cX12_stall 219 = .ok (.aload_n 0, 1) := by decide +kernel
theorem dX12_stall_220 : decode cX12_stall 220 = .ok (.getfield 121, 3) := by decide +kernel
theorem dX12_stall_223 : decode cX12_stall 223 = .ok (.iload 9, 2) := by decide +kernel
theorem dX12_stall_225 : decode cX12_stall 225 = .ok (.iaload, 1) := by decide +kernel
theorem dX12_stall_226 : decode cX12_stall 226 = .ok (.goto 5, 3) := by decide +kernel
theorem dX12_stall_229 : decode cX12_stall 229 = .ok (.iload 7, 2) := by decide +kernel
theorem dX12_stall_231 : decode cX12_stall 231 = .ok (.istore 7, 2) := by decide +kernel
theorem dX12_stall_233 : decode cX12_stall 233 = .ok (.iinc 9 1, 3) := by decide +kernel
theorem dX12_stall_236 : decode cX12_stall 236 = .ok (.goto (-57), 3) := by decide +kernel
theorem dX12_stall_239 : decode cX12_stall 239 = .ok (.iload 5, 2) := by decide +kernel
theorem dX12_stall_241 : decode cX12_stall 241 = .ok (.iconst (-1), 1) := by decide +kernel
theorem dX12_stall_242 : decode cX12_stall 242 = .ok (.if_icmp .ne 6, 3) := by decide +kernel
theorem dX12_stall_245 : decode cX12_stall 245 = .ok (.iload 7, 2) := by decide +kernel
theorem dX12_stall_247 : decode cX12_stall 247 = .ok (.ireturn, 1) := by decide +kernel
theorem dX12_stall_248 : decode cX12_stall 248 = .ok (.iconst 1, 1) := by decide +kernel
theorem dX12_stall_249 : decode cX12_stall 249 = .ok (.istore 9, 2) := by decide +kernel
theorem dX12_stall_251 : decode cX12_stall 251 = .ok (.iload 9, 2) := by decide +kernel
theorem dX12_stall_253 : decode cX12_stall 253 = .ok (.iload 5, 2) := by decide +kernel
theorem dX12_stall_255 : decode cX12_stall 255 = .ok (.if_icmp .gt 84, 3) := by decide +kernel
theorem dX12_stall_258 : decode cX12_stall 258 = .ok (.iconst 0, 1) := by decide +kernel
theorem dX12_stall_259 : decode cX12_stall 259 = .ok (.istore 10, 2) := by decide +kernel
theorem dX12_stall_261 : decode cX12_stall 261 = .ok (.aload_n 0, 1) := by decide +kernel
theorem dX12_stall_262 : decode cX12_stall 262 = .ok (.getfield 121, 3) := by decide +kernel
theorem dX12_stall_265 : decode cX12_stall 265 = .ok (.bipush 64, 2) := by decide +kernel
theorem dX12_stall_267 : decode cX12_stall 267 = .ok (.iload 9, 2) := by decide +kernel
theorem dX12_stall_269 : decode cX12_stall 269 = .ok (.iconst 1, 1) := by decide +kernel
theorem dX12_stall_270 : decode cX12_stall 270 = .ok (.isub, 1) := by decide +kernel
theorem dX12_stall_271 : decode cX12_stall 271 = .ok (.imul, 1) := by decide +kernel
theorem dX12_stall_272 : decode cX12_stall 272 = .ok (.iload 8, 2) := by decide +kernel
theorem dX12_stall_274 : decode cX12_stall 274 = .ok (.iadd, 1) := by decide +kernel
theorem dX12_stall_275 : decode cX12_stall 275 = .ok (.iaload, 1) := by decide +kernel
theorem dX12_stall_276 : decode cX12_stall 276 = .ok (.istore 11, 2) := by decide +kernel
theorem dX12_stall_278 : decode cX12_stall 278 = .ok (.aload_n 0, 1) := by decide +kernel
theorem dX12_stall_279 : decode cX12_stall 279 = .ok (.getfield 121, 3) := by decide +kernel
theorem dX12_stall_282 : decode cX12_stall 282 = .ok (.bipush 64, 2) := by decide +kernel
theorem dX12_stall_284 : decode cX12_stall 284 = .ok (.iload 9, 2) := by decide +kernel
theorem dX12_stall_286 : decode cX12_stall 286 = .ok (.imul, 1) := by decide +kernel
theorem dX12_stall_287 : decode cX12_stall 287 = .ok (.iload 10, 2) := by decide +kernel
theorem dX12_stall_289 : decode cX12_stall 289 = .ok (.iadd, 1) := by decide +kernel
theorem dX12_stall_290 : decode cX12_stall 290 = .ok (.iaload, 1) := by decide +kernel
theorem dX12_stall_291 : decode cX12_stall 291 = .ok (.ldc_w 353, 3) := by decide +kernel
theorem dX12_stall_294 : decode cX12_stall 294 = .ok (.if_icmp .ge 29, 3) := by decide +kernel
theorem dX12_stall_297 : decode cX12_stall 297 = .ok (.aload_n 0, 1) := by decide +kernel
theorem dX12_stall_298 : decode cX12_stall 298 = .ok (.getfield 121, 3) := by decide +kernel
theorem dX12_stall_301 : decode cX12_stall 301 = .ok (.bipush 64, 2) := by decide +kernel
theorem dX12_stall_303 : decode cX12_stall 303 = .ok (.iload 9, 2) := by decide +kernel
theorem dX12_stall_305 : decode cX12_stall 305 = .ok (.imul, 1) := by decide +kernel
theorem dX12_stall_306 : decode cX12_stall 306 = .ok (.iload 10, 2) := by decide +kernel
theorem dX12_stall_308 : decode cX12_stall 308 = .ok (.iadd, 1) := by decide +kernel
theorem dX12_stall_309 : decode cX12_stall 309 = .ok (.iaload, 1) := by decide +kernel
theorem dX12_stall_310 : decode cX12_stall 310 = .ok (.iload 8, 2) := by decide +kernel
theorem dX12_stall_312 : decode cX12_stall 312 = .ok (.iload 10, 2) := by decide +kernel
theorem dX12_stall_314 : decode cX12_stall 314 = .ok (.invokestatic 354, 3) := by decide +kernel
theorem dX12_stall_317 : decode cX12_stall 317 = .ok (.iadd, 1) := by decide +kernel
theorem dX12_stall_318 : decode cX12_stall 318 = .ok (.iload 11, 2) := by decide +kernel
theorem dX12_stall_320 : decode cX12_stall 320 = .ok (.if_icmp .eq 9, 3) := by decide +kernel
theorem dX12_stall_323 : decode cX12_stall 323 = .ok (.iinc 10 1, 3) := by decide +kernel
theorem dX12_stall_326 : decode cX12_stall 326 = .ok (.goto (-48), 3) := by decide +kernel
theorem dX12_stall_329 : decode cX12_stall 329 = .ok (.iload 10, 2) := by decide +kernel
theorem dX12_stall_331 : decode cX12_stall 331 = .ok (.istore 8, 2) := by decide +kernel
theorem dX12_stall_333 : decode cX12_stall 333 = .ok (.iinc 9 1, 3) := by decide +kernel
theorem dX12_stall_336 : decode cX12_stall 336 = .ok (.goto (-85), 3) := by decide +kernel
theorem dX12_stall_339 : decode cX12_stall 339 = .ok (.iload 8, 2) := by decide +kernel
theorem dX12_stall_341 : decode cX12_stall 341 = .ok (.ireturn, 1) := by decide +kernel
theorem dX12_seens_0 : decode cX12_seens 0 = .ok (.aload_n 0, 1) := by decide +kernel
theorem dX12_seens_1 : decode cX12_seens 1 = .ok (.getfield 99, 3) := by decide +kernel
theorem dX12_seens_4 : decode cX12_seens 4 = .ok (.bipush 13, 2) := by decide +kernel
theorem dX12_seens_6 : decode cX12_seens 6 = .ok (.iaload, 1) := by decide +kernel
theorem dX12_seens_7 : decode cX12_seens 7 = .ok (.ireturn, 1) := by decide +kernel
theorem dX12_see_0 : decode cX12_see 0 = .ok (.aload_n 0, 1) := by decide +kernel
theorem dX12_see_1 : decode cX12_see 1 = .ok (.iconst 0, 1) := by decide +kernel
theorem dX12_see_2 : decode cX12_see 2 = .ok (.putfield 1, 3) := by decide +kernel
theorem dX12_see_5 : decode cX12_see 5 = .ok (.aload_n 0, 1) := by decide +kernel
theorem dX12_see_6 : decode cX12_see 6 = .ok (.iload_n 1, 1) := by decide +kernel
theorem dX12_see_7 : decode cX12_see 7 = .ok (.iload_n 2, 1) := by decide +kernel
theorem dX12_see_8 : decode cX12_see 8 = .ok (.invokevirtual 295, 3) := by decide +kernel
theorem dX12_see_11 : decode cX12_see 11 = .ok (.ifCond .eq 22, 3) := by decide +kernel
theorem dX12_see_14 : decode cX12_see 14 = .ok (.iload_n 3, 1) := by decide +kernel
theorem dX12_see_15 : decode cX12_see 15 = .ok (.iconst 0, 1) := by decide +kernel
theorem dX12_see_16 : decode cX12_see 16 = .ok (.bipush 7, 2) := by decide +kernel
theorem dX12_see_18 : decode cX12_see 18 = .ok (.invokestatic 272, 3) := by decide +kernel
theorem dX12_see_21 : decode cX12_see 21 = .ok (.ifCond .eq 12, 3) := by decide +kernel
theorem dX12_see_24 : decode cX12_see 24 = .ok (.aload_n 0, 1) := by decide +kernel
theorem dX12_see_25 : decode cX12_see 25 = .ok (.invokevirtual 364, 3) := by decide +kernel
theorem dX12_see_28 : decode cX12_see 28 = .ok (.bipush 8, 2) := by decide +kernel
theorem dX12_see_30 : decode cX12_see 30 = .ok (.if_icmp .ne 5, 3) := by decide +kernel
theorem dX12_see_33 : decode cX12_see 33 = .ok (.iconst (-1), 1) := by decide +kernel
theorem dX12_see_34 : decode cX12_see 34 = .ok (.ireturn, 1) := by decide +kernel
theorem dX12_see_35 : decode cX12_see 35 = .ok (.bipush 14, 2) := by decide +kernel
theorem dX12_see_37 : decode cX12_see 37 = .ok (.iconst 3, 1) := by decide +kernel
theorem dX12_see_38 : decode cX12_see 38 = .ok (.aload_n 0, 1) := by decide +kernel
theorem dX12_see_39 : decode cX12_see 39 = .ok (.invokevirtual 364, 3) := by decide +kernel
theorem dX12_see_42 : decode cX12_see 42 = .ok (.imul, 1) := by decide +kernel
theorem dX12_see_43 : decode cX12_see 43 = .ok (.iadd, 1) := by decide +kernel
theorem dX12_see_44 : decode cX12_see 44 = .ok (.istore 4, 2) := by decide +kernel
theorem dX12_see_46 : decode cX12_see 46 = .ok (.aload_n 0, 1) := by decide +kernel
theorem dX12_see_47 : decode cX12_see 47 = .ok (.getfield 99, 3) := by decide +kernel
theorem dX12_see_50 : decode cX12_see 50 = .ok (.iload 4, 2) := by decide +kernel
theorem dX12_see_52 : decode cX12_see 52 = .ok (.iload_n 1, 1) := by decide +kernel
theorem dX12_see_53 : decode cX12_see 53 = .ok (.iastore, 1) := by decide +kernel
theorem dX12_see_54 : decode cX12_see 54 = .ok (.aload_n 0, 1) := by decide +kernel
theorem dX12_see_55 : decode cX12_see 55 = .ok (.getfield 99, 3) := by decide +kernel
theorem dX12_see_58 : decode cX12_see 58 = .ok (.iload 4, 2) := by decide +kernel
theorem dX12_see_60 : decode cX12_see 60 = .ok (.iconst 1, 1) := by decide +kernel
theorem dX12_see_61 : decode cX12_see 61 = .ok (.iadd, 1) := by decide +kernel
theorem dX12_see_62 : decode cX12_see 62 = .ok (.iload_n 2, 1) := by decide +kernel
theorem dX12_see_63 : decode cX12_see 63 = .ok (.iastore, 1) := by decide +kernel
theorem dX12_see_64 : decode cX12_see 64 = .ok (.aload_n 0, 1) := by decide +kernel
theorem dX12_see_65 : decode cX12_see 65 = .ok (.getfield 99, 3) := by decide +kernel
theorem dX12_see_68 : decode cX12_see 68 = .ok (.iload 4, 2) := by decide +kernel
theorem dX12_see_70 : decode cX12_see 70 = .ok (.iconst 2, 1) := by decide +kernel
theorem dX12_see_71 : decode cX12_see 71 = .ok (.iadd, 1) := by decide +kernel
theorem dX12_see_72 : decode cX12_see 72 = .ok (.iload_n 3, 1) := by decide +kernel
theorem dX12_see_73 : decode cX12_see 73 = .ok (.iastore, 1) := by decide +kernel
theorem dX12_see_74 : decode cX12_see 74 = .ok (.aload_n 0, 1) := by decide +kernel
theorem dX12_see_75 : decode cX12_see 75 = .ok (.getfield 99, 3) := by decide +kernel
theorem dX12_see_78 : decode cX12_see 78 = .ok (.bipush 13, 2) := by decide +kernel
theorem dX12_see_80 : decode cX12_see 80 = .ok (.dup2, 1) := by decide +kernel
theorem dX12_see_81 : decode cX12_see 81 = .ok (.iaload, 1) := by decide +kernel
theorem dX12_see_82 : decode cX12_see 82 = .ok (.iconst 1, 1) := by decide +kernel
theorem dX12_see_83 : decode cX12_see 83 = .ok (.iadd, 1) := by decide +kernel
theorem dX12_see_84 : decode cX12_see 84 = .ok (.iastore, 1) := by decide +kernel
theorem dX12_see_85 : decode cX12_see 85 = .ok (.aload_n 0, 1) := by decide +kernel
theorem dX12_see_86 : decode cX12_see 86 = .ok (.invokevirtual 364, 3) := by decide +kernel
theorem dX12_see_89 : decode cX12_see 89 = .ok (.ireturn, 1) := by decide +kernel
theorem dX12_clear_0 : decode cX12_clear 0 = .ok (.aload_n 0, 1) := by decide +kernel
theorem dX12_clear_1 : decode cX12_clear 1 = .ok (.iconst 0, 1) := by decide +kernel
theorem dX12_clear_2 : decode cX12_clear 2 = .ok (.putfield 1, 3) := by decide +kernel
theorem dX12_clear_5 : decode cX12_clear 5 = .ok (.aload_n 0, 1) := by decide +kernel
theorem dX12_clear_6 : decode cX12_clear 6 = .ok (.getfield 99, 3) := by decide +kernel
theorem dX12_clear_9 : decode cX12_clear 9 = .ok (.bipush 13, 2) := by decide +kernel
theorem dX12_clear_11 : decode cX12_clear 11 = .ok (.iconst 0, 1) := by decide +kernel
theorem dX12_clear_12 : decode cX12_clear 12 = .ok (.iastore, 1) := by decide +kernel
theorem dX12_clear_13 : decode cX12_clear 13 = .ok (.iconst 1, 1) := by decide +kernel
theorem dX12_clear_14 : decode cX12_clear 14 = .ok (.ireturn, 1) := by decide +kernel
theorem dX12_candlesAt_0 : decode cX12_candlesAt 0 = .ok (.aload_n 0, 1) := by decide +kernel
theorem dX12_candlesAt_1 : decode cX12_candlesAt 1 = .ok (.iload_n 1, 1) := by decide +kernel
theorem dX12_candlesAt_2 : decode cX12_candlesAt 2 = .ok (.iload_n 2, 1) := by decide +kernel
theorem dX12_candlesAt_3 : decode cX12_candlesAt 3 = .ok (.invokevirtual 298, 3) := by decide +kernel
theorem dX12_candlesAt_6 : decode cX12_candlesAt 6 = .ok (.iconst 0, 1) := by decide +kernel
theorem dX12_candlesAt_7 : decode cX12_candlesAt 7 = .ok (.istore_n 3, 1) := by decide +kernel
theorem dX12_candlesAt_8 : decode cX12_candlesAt 8 = .ok (.iconst 0, 1) := by decide +kernel
theorem dX12_candlesAt_9 : decode cX12_candlesAt 9 = .ok (.istore 4, 2) := by decide +kernel
theorem dX12_candlesAt_11 : decode cX12_candlesAt 11 = .ok (.iload 4, 2) := by decide +kernel
theorem dX12_candlesAt_13 : decode cX12_candlesAt 13 = .ok (.aload_n 0, 1) := by decide +kernel
theorem dX12_candlesAt_14 : decode cX12_candlesAt 14 = .ok (.invokevirtual 364, 3) := by decide +kernel
theorem dX12_candlesAt_17 : decode cX12_candlesAt 17 = .ok (.if_icmp .ge 63, 3) := by decide +kernel
theorem dX12_candlesAt_20 : decode cX12_candlesAt 20 = .ok (.bipush 14, 2) := by decide +kernel
theorem dX12_candlesAt_22 : decode cX12_candlesAt 22 = .ok (.iconst 3, 1) := by decide +kernel
theorem dX12_candlesAt_23 : decode cX12_candlesAt 23 = .ok (.iload 4, 2) := by decide +kernel
theorem dX12_candlesAt_25 : decode cX12_candlesAt 25 = .ok (.imul, 1) := by decide +kernel
theorem dX12_candlesAt_26 : decode cX12_candlesAt 26 = .ok (.iadd, 1) := by decide +kernel
theorem dX12_candlesAt_27 : decode cX12_candlesAt 27 = .ok (.istore 5, 2) := by decide +kernel
theorem dX12_candlesAt_29 : decode cX12_candlesAt 29 = .ok (.iload_n 3, 1) := by decide +kernel
theorem dX12_candlesAt_30 : decode cX12_candlesAt 30 = .ok (.aload_n 0, 1) := by decide +kernel
theorem dX12_candlesAt_31 : decode cX12_candlesAt 31 = .ok (.bipush 8, 2) := by decide +kernel
theorem dX12_candlesAt_33 : decode cX12_candlesAt 33 = .ok (.aload_n 0, 1) := by decide +kernel
theorem dX12_candlesAt_34 : decode cX12_candlesAt 34 = .ok (.getfield 99, 3) := by decide +kernel
theorem dX12_candlesAt_37 : decode cX12_candlesAt 37 = .ok (.iload 5, 2) := by decide +kernel
theorem dX12_candlesAt_39 : decode cX12_candlesAt 39 = .ok (.iconst 1, 1) := by decide +kernel
theorem dX12_candlesAt_40 : decode cX12_candlesAt 40 = .ok (.iadd, 1) := by decide +kernel
theorem dX12_candlesAt_41 : decode cX12_candlesAt 41 = .ok (.iaload, 1) := by decide +kernel
theorem dX12_candlesAt_42 : decode cX12_candlesAt 42 = .ok (.imul, 1) := by decide +kernel
theorem dX12_candlesAt_43 : decode cX12_candlesAt 43 = .ok (.aload_n 0, 1) := by decide +kernel
theorem dX12_candlesAt_44 : decode cX12_candlesAt 44 = .ok (.getfield 99, 3) := by decide +kernel
theorem dX12_candlesAt_47 : decode cX12_candlesAt 47 = .ok (.iload 5, 2) := by decide +kernel
theorem dX12_candlesAt_49 : decode cX12_candlesAt 49 = .ok (.iaload, 1) := by decide +kernel
theorem dX12_candlesAt_50 : decode cX12_candlesAt 50 = .ok (.iadd, 1) := by decide +kernel
theorem dX12_candlesAt_51 : decode cX12_candlesAt 51 = .ok (.iconst 1, 1) := by decide +kernel
theorem dX12_candlesAt_52 : decode cX12_candlesAt 52 = .ok (.invokevirtual 301, 3) := by decide +kernel
theorem dX12_candlesAt_55 : decode cX12_candlesAt 55 = .ok (.aload_n 0, 1) := by decide +kernel
theorem dX12_candlesAt_56 : decode cX12_candlesAt 56 = .ok (.getfield 99, 3) := by decide +kernel
theorem dX12_candlesAt_59 : decode cX12_candlesAt 59 = .ok (.iload 5, 2) := by decide +kernel
theorem dX12_candlesAt_61 : decode cX12_candlesAt 61 = .ok (.iconst 2, 1) := by decide +kernel
theorem dX12_candlesAt_62 : decode cX12_candlesAt 62 = .ok (.iadd, 1) := by decide +kernel
theorem dX12_candlesAt_63 : decode cX12_candlesAt 63 = .ok (.iaload, 1) := by decide +kernel
theorem dX12_candlesAt_64 : decode cX12_candlesAt 64 = .ok (.if_icmp .eq 7, 3) := by decide +kernel
theorem dX12_candlesAt_67 : decode cX12_candlesAt 67 = .ok (.iconst 1, 1) := by decide +kernel
theorem dX12_candlesAt_68 : decode cX12_candlesAt 68 = .ok (.goto 4, 3) := by decide +kernel
theorem dX12_candlesAt_71 : decode cX12_candlesAt 71 = .ok (.iconst 0, 1) := by decide +kernel
theorem dX12_candlesAt_72 : decode cX12_candlesAt 72 = .ok (.iadd, 1) := by decide +kernel
theorem dX12_candlesAt_73 : decode cX12_candlesAt 73 = .ok (.istore_n 3, 1) := by decide +kernel
theorem dX12_candlesAt_74 : decode cX12_candlesAt 74 = .ok (.iinc 4 1, 3) := by decide +kernel
theorem dX12_candlesAt_77 : decode cX12_candlesAt 77 = .ok (.goto (-66), 3) := by decide +kernel
theorem dX12_candlesAt_80 : decode cX12_candlesAt 80 = .ok (.iload_n 3, 1) := by decide +kernel
theorem dX12_candlesAt_81 : decode cX12_candlesAt 81 = .ok (.ireturn, 1) := by decide +kernel
theorem dX12_candles_0 : decode cX12_candles 0 = .ok (.aload_n 0, 1) := by decide +kernel
theorem dX12_candles_1 : decode cX12_candles 1 = .ok (.iconst 0, 1) := by decide +kernel
theorem dX12_candles_2 : decode cX12_candles 2 = .ok (.putfield 1, 3) := by decide +kernel
theorem dX12_candles_5 : decode cX12_candles 5 = .ok (.iload_n 1, 1) := by decide +kernel
theorem dX12_candles_6 : decode cX12_candles 6 = .ok (.iload_n 2, 1) := by decide +kernel
theorem dX12_candles_7 : decode cX12_candles 7 = .ok (.invokestatic 317, 3) := by decide +kernel
theorem dX12_candles_10 : decode cX12_candles 10 = .ok (.ifCond .eq 12, 3) := by decide +kernel
theorem dX12_candles_13 : decode cX12_candles 13 = .ok (.aload_n 0, 1) := by decide +kernel
theorem dX12_candles_14 : decode cX12_candles 14 = .ok (.iload_n 1, 1) := by decide +kernel
theorem dX12_candles_15 : decode cX12_candles 15 = .ok (.iload_n 2, 1) := by decide +kernel
theorem dX12_candles_16 : decode cX12_candles 16 = .ok (.invokevirtual 367, 3) := by decide +kernel
theorem dX12_candles_19 : decode cX12_candles 19 = .ok (.goto 4, 3) := by decide +kernel
theorem dX12_candles_22 : decode cX12_candles 22 = .ok (.iconst (-1), 1) := by decide +kernel
theorem dX12_candles_23 : decode cX12_candles 23 = .ok (.ireturn, 1) := by decide +kernel
theorem dX12_when_0 : decode cX12_when 0 = .ok (.aload_n 0, 1) := by decide +kernel
theorem dX12_when_1 : decode cX12_when 1 = .ok (.iconst 0, 1) := by decide +kernel
theorem dX12_when_2 : decode cX12_when 2 = .ok (.putfield 1, 3) := by decide +kernel
theorem dX12_when_5 : decode cX12_when 5 = .ok (.iload_n 1, 1) := by decide +kernel
theorem dX12_when_6 : decode cX12_when 6 = .ok (.iconst 0, 1) := by decide +kernel
theorem dX12_when_7 : decode cX12_when 7 = .ok (.iconst 2, 1) := by decide +kernel
theorem dX12_when_8 : decode cX12_when 8 = .ok (.invokestatic 272, 3) := by decide +kernel
theorem dX12_when_11 : decode cX12_when 11 = .ok (.ifCond .ne 5, 3) := by decide +kernel
theorem dX12_when_14 : decode cX12_when 14 = .ok (.iconst (-1), 1) := by decide +kernel
theorem dX12_when_15 : decode cX12_when 15 = .ok (.ireturn, 1) := by decide +kernel
theorem dX12_when_16 : decode cX12_when 16 = .ok (.ldc_w 353, 3) := by decide +kernel
theorem dX12_when_19 : decode cX12_when 19 = .ok (.istore_n 2, 1) := by decide +kernel
theorem dX12_when_20 : decode cX12_when 20 = .ok (.iconst 0, 1) := by decide +kernel
theorem dX12_when_21 : decode cX12_when 21 = .ok (.istore_n 3, 1) := by decide +kernel
theorem dX12_when_22 : decode cX12_when 22 = .ok (.iconst 0, 1) := by decide +kernel
theorem dX12_when_23 : decode cX12_when 23 = .ok (.istore 4, 2) := by decide +kernel
theorem dX12_when_25 : decode cX12_when 25 = .ok (.iconst 0, 1) := by decide +kernel
theorem dX12_when_26 : decode cX12_when 26 = .ok (.istore 5, 2) := by decide +kernel
theorem dX12_when_28 : decode cX12_when 28 = .ok (.iload 5, 2) := by decide +kernel
theorem dX12_when_30 : decode cX12_when 30 = .ok (.sipush 1248, 3) := by decide +kernel
theorem dX12_when_33 : decode cX12_when 33 = .ok (.if_icmp .ge 78, 3) := by decide +kernel
theorem dX12_when_36 : decode cX12_when 36 = .ok (.aload_n 0, 1) := by decide +kernel
theorem dX12_when_37 : decode cX12_when 37 = .ok (.iload 5, 2) := by decide +kernel
theorem dX12_when_39 : decode cX12_when 39 = .ok (.bipush 24, 2) := by decide +kernel
theorem dX12_when_41 : decode cX12_when 41 = .ok (.idiv, 1) := by decide +kernel
theorem dX12_when_42 : decode cX12_when 42 = .ok (.iload 5, 2) := by decide +kernel
theorem dX12_when_44 : decode cX12_when 44 = .ok (.bipush 24, 2) := by decide +kernel
theorem dX12_when_46 : decode cX12_when 46 = .ok (.irem, 1) := by decide +kernel
theorem dX12_when_47 : decode cX12_when 47 = .ok (.invokevirtual 367, 3) := by decide +kernel
theorem dX12_when_50 : decode cX12_when 50 = .ok (.istore 6, 2) := by decide +kernel
theorem dX12_when_52 : decode cX12_when 52 = .ok (.iload 6, 2) := by decide +kernel
theorem dX12_when_54 : decode cX12_when 54 = .ok (.iload_n 2, 1) := by decide +kernel
theorem dX12_when_55 : decode cX12_when 55 = .ok (.if_icmp .ge 8, 3) := by decide +kernel
theorem dX12_when_58 : decode cX12_when 58 = .ok (.iload 5, 2) := by decide +kernel
theorem dX12_when_60 : decode cX12_when 60 = .ok (.goto 4, 3) := by decide +kernel
theorem dX12_when_63 : decode cX12_when 63 = .ok (.iload_n 3, 1) := by decide +kernel
theorem dX12_when_64 : decode cX12_when 64 = .ok (.istore_n 3, 1) := by decide +kernel
theorem dX12_when_65 : decode cX12_when 65 = .ok (.iload 6, 2) := by decide +kernel
theorem dX12_when_67 : decode cX12_when 67 = .ok (.iload_n 2, 1) := by decide +kernel
theorem dX12_when_68 : decode cX12_when 68 = .ok (.if_icmp .ge 7, 3) := by decide +kernel
theorem dX12_when_71 : decode cX12_when 71 = .ok (.iconst 1, 1) := by decide +kernel
theorem dX12_when_72 : decode cX12_when 72 = .ok (.goto 18, 3) := by decide +kernel
theorem dX12_when_75 : decode cX12_when 75 = .ok (.iload 6, 2) := by decide +kernel
theorem dX12_when_77 : decode cX12_when 77 = .ok (.iload_n 2, 1) := by decide +kernel
theorem dX12_when_78 : decode cX12_when 78 = .ok (.if_icmp .ne 10, 3) := by decide +kernel
theorem dX12_when_81 : decode cX12_when 81 = .ok (.iload 4, 2) := by decide +kernel
theorem dX12_when_83 : decode cX12_when 83 = .ok (.iconst 1, 1) := by decide +kernel
theorem dX12_when_84 : decode cX12_when 84 = .ok (.iadd, 1) := by decide +kernel
theorem dX12_when_85 : decode cX12_when 85 = .ok (.goto 5, 3) := by decide +kernel
theorem dX12_when_88 : decode cX12_when 88 = .ok (.iload 4, 2) := by decide +kernel
theorem dX12_when_90 : decode cX12_when 90 = .ok (.istore 4, 2) := by decide +kernel
theorem dX12_when_92 : decode cX12_when 92 = .ok (.iload 6, 2) := by decide +kernel
theorem dX12_when_94 : decode cX12_when 94 = .ok (.iload_n 2, 1) := by decide +kernel
theorem dX12_when_95 : decode cX12_when 95 = .ok (.if_icmp .ge 8, 3) := by decide +kernel
theorem dX12_when_98 : decode cX12_when 98 = .ok (.iload 6, 2) := by decide +kernel
theorem dX12_when_100 : decode cX12_when 100 = .ok (.goto 4, 3) := by decide +kernel
theorem dX12_when_103 : decode cX12_when 103 = .ok (.iload_n 2, 1) := by decide +kernel
theorem dX12_when_104 : decode cX12_when 104 = .ok (.istore_n 2, 1) := by decide +kernel
theorem dX12_when_105 : decode cX12_when 105 = .ok (.iinc 5 1, 3) := by decide +kernel
theorem dX12_when_108 : decode cX12_when 108 = .ok (.goto (-80), 3) := by decide +kernel
theorem dX12_when_111 : decode cX12_when 111 = .ok (.iload_n 1, 1) := by decide +kernel
theorem dX12_when_112 : decode cX12_when 112 = .ok (.ifCond .ne 7, 3) := by decide +kernel
theorem dX12_when_115 : decode cX12_when 115 = .ok (.iload_n 3, 1) := by decide +kernel
theorem dX12_when_116 : decode cX12_when 116 = .ok (.goto 14, 3) := by decide +kernel
theorem dX12_when_119 : decode cX12_when 119 = .ok (.iload_n 1, 1) := by decide +kernel
theorem dX12_when_120 : decode cX12_when 120 = .ok (.iconst 1, 1) := by decide +kernel
theorem dX12_when_121 : decode cX12_when 121 = .ok (.if_icmp .ne 7, 3) := by decide +kernel
theorem dX12_when_124 : decode cX12_when 124 = .ok (.iload_n 2, 1) := by decide +kernel
theorem dX12_when_125 : decode cX12_when 125 = .ok (.goto 5, 3) := by decide +kernel
theorem dX12_when_128 : decode cX12_when 128 = .ok (.iload 4, 2) := by decide +kernel
theorem dX12_when_130 : decode cX12_when 130 = .ok (.ireturn, 1) := by decide +kernel
theorem dX12_canStain_0 : decode cX12_canStain 0 = .ok (.iload_n 1, 1) := by decide +kernel
theorem dX12_canStain_1 : decode cX12_canStain 1 = .ok (.iload_n 2, 1) := by decide +kernel
theorem dX12_canStain_2 : decode cX12_canStain 2 = .ok (.invokestatic 317, 3) := by decide +kernel
theorem dX12_canStain_5 : decode cX12_canStain 5 = .ok (.ifCond .eq 40, 3) := by decide +kernel
theorem dX12_canStain_8 : decode cX12_canStain 8 = .ok (.iload_n 3, 1) := by decide +kernel
theorem dX12_canStain_9 : decode cX12_canStain 9 = .ok (.iconst 1, 1) := by decide +kernel
theorem dX12_canStain_10 : decode cX12_canStain 10 = .ok (.bipush 6, 2) := by decide +kernel
theorem dX12_canStain_12 : decode cX12_canStain 12 = .ok (.invokestatic 272, 3) := by decide +kernel
theorem dX12_canStain_15 : decode cX12_canStain 15 = .ok (.ifCond .eq 30, 3) := by decide +kernel
theorem dX12_canStain_18 : decode cX12_canStain 18 = .ok (.iload_n 2, 1) := by decide +kernel
theorem dX12_canStain_19 : decode cX12_canStain 19 = .ok (.iload_n 3, 1) := by decide +kernel
theorem dX12_canStain_20 : decode cX12_canStain 20 = .ok (.iadd, 1) := by decide +kernel
theorem dX12_canStain_21 : decode cX12_canStain 21 = .ok (.bipush 24, 2) := by decide +kernel
theorem dX12_canStain_23 : decode cX12_canStain 23 = .ok (.if_icmp .gt 22, 3) := by decide +kernel
theorem dX12_canStain_26 : decode cX12_canStain 26 = .ok (.iload 4, 2) := by decide +kernel
theorem dX12_canStain_28 : decode cX12_canStain 28 = .ok (.ifCond .lt 17, 3) := by decide +kernel
theorem dX12_canStain_31 : decode cX12_canStain 31 = .ok (.iload 4, 2) := by decide +kernel
theorem dX12_canStain_33 : decode cX12_canStain 33 = .ok (.iconst 1, 1) := by decide +kernel
theorem dX12_canStain_34 : decode cX12_canStain 34 = .ok (.iconst 3, 1) := by decide +kernel
theorem dX12_canStain_35 : decode cX12_canStain 35 = .ok (.iload_n 3, 1) := by decide +kernel
theorem dX12_canStain_36 : decode cX12_canStain 36 = .ok (.imul, 1) := by decide +kernel
theorem dX12_canStain_37 : decode cX12_canStain 37 = .ok (.ishl, 1) := by decide +kernel
theorem dX12_canStain_38 : decode cX12_canStain 38 = .ok (.if_icmp .ge 7, 3) := by decide +kernel
theorem dX12_canStain_41 : decode cX12_canStain 41 = .ok (.iconst 1, 1) := by decide +kernel
theorem dX12_canStain_42 : decode cX12_canStain 42 = .ok (.goto 4, 3) := by decide +kernel
theorem dX12_canStain_45 : decode cX12_canStain 45 = .ok (.iconst 0, 1) := by decide +kernel
theorem dX12_canStain_46 : decode cX12_canStain 46 = .ok (.ireturn, 1) := by decide +kernel
theorem dX12_near_0 : decode cX12_near 0 = .ok (.iconst 0, 1) := by decide +kernel
theorem dX12_near_1 : decode cX12_near 1 = .ok (.istore 4, 2) := by decide +kernel
theorem dX12_near_3 : decode cX12_near 3 = .ok (.iconst 0, 1) := by decide +kernel
theorem dX12_near_4 : decode cX12_near 4 = .ok (.istore 5, 2) := by decide +kernel
theorem dX12_near_6 : decode cX12_near 6 = .ok (.iload 5, 2) := by decide +kernel
theorem dX12_near_8 : decode cX12_near 8 = .ok (.bipush 64, 2) := by decide +kernel
theorem dX12_near_10 : decode cX12_near 10 = .ok (.if_icmp .ge 37, 3) := by decide +kernel
theorem dX12_near_13 : decode cX12_near 13 = .ok (.iload 4, 2) := by decide +kernel
theorem dX12_near_15 : decode cX12_near 15 = .ok (.iload_n 3, 1) := by decide +kernel
theorem dX12_near_16 : decode cX12_near 16 = .ok (.iload 5, 2) := by decide +kernel
theorem dX12_near_18 : decode cX12_near 18 = .ok (.invokestatic 354, 3) := by decide +kernel
theorem dX12_near_21 : decode cX12_near 21 = .ok (.iconst 1, 1) := by decide +kernel
theorem dX12_near_22 : decode cX12_near 22 = .ok (.if_icmp .gt 15, 3) := by decide +kernel
theorem dX12_near_25 : decode cX12_near 25 = .ok (.aload_n 1, 1) := by decide +kernel
theorem dX12_near_26 : decode cX12_near 26 = .ok (.bipush 64, 2) := by decide +kernel
theorem dX12_near_28 : decode cX12_near 28 = .ok (.iload_n 2, 1) := by decide +kernel
theorem dX12_near_29 : decode cX12_near 29 = .ok (.imul, 1) := by decide +kernel
theorem dX12_near_30 : decode cX12_near 30 = .ok (.iload 5, 2) := by decide +kernel
theorem dX12_near_32 : decode cX12_near 32 = .ok (.iadd, 1) := by decide +kernel
theorem dX12_near_33 : decode cX12_near 33 = .ok (.iaload, 1) := by decide +kernel
theorem dX12_near_34 : decode cX12_near 34 = .ok (.goto 4, 3) := by decide +kernel
theorem dX12_near_37 : decode cX12_near 37 = .ok (.iconst 0, 1) := by decide +kernel
theorem dX12_near_38 : decode cX12_near 38 = .ok (.iadd, 1) := by decide +kernel
theorem dX12_near_39 : decode cX12_near 39 = .ok (.istore 4, 2) := by decide +kernel
theorem dX12_near_41 : decode cX12_near 41 = .ok (.iinc 5 1, 3) := by decide +kernel
theorem dX12_near_44 : decode cX12_near 44 = .ok (.goto (-38), 3) := by decide +kernel
theorem dX12_near_47 : decode cX12_near 47 = .ok (.iload 4, 2) := by decide +kernel
theorem dX12_near_49 : decode cX12_near 49 = .ok (.ireturn, 1) := by decide +kernel
theorem dX12_findStains_0 : decode cX12_findStains 0 = .ok (.iconst 0, 1) := by decide +kernel
theorem dX12_findStains_1 : decode cX12_findStains 1 = .ok (.istore 5, 2) := by decide +kernel
theorem dX12_findStains_3 : decode cX12_findStains 3 = .ok (.iload 5, 2) := by decide +kernel
theorem dX12_findStains_5 : decode cX12_findStains 5 = .ok (.iload_n 3, 1) := by decide +kernel
theorem dX12_findStains_6 : decode cX12_findStains 6 = .ok (.if_icmp .ge 167, 3) := by decide +kernel
theorem dX12_findStains_9 : decode cX12_findStains 9 = .ok (.aload_n 0, 1) := by decide +kernel
theorem dX12_findStains_10 : decode cX12_findStains 10 = .ok (.iload_n 1, 1) := by decide +kernel
theorem dX12_findStains_11 : decode cX12_findStains 11 = .ok (.iload_n 2, 1) := by decide +kernel
theorem dX12_findStains_12 : decode cX12_findStains 12 = .ok (.iload 5, 2) := by decide +kernel
theorem dX12_findStains_14 : decode cX12_findStains 14 = .ok (.iadd, 1) := by decide +kernel
theorem dX12_findStains_15 : decode cX12_findStains 15 = .ok (.invokevirtual 298, 3) := by decide +kernel
theorem dX12_findStains_18 : decode cX12_findStains 18 = .ok (.iconst 0, 1) := by decide +kernel
theorem dX12_findStains_19 : decode cX12_findStains 19 = .ok (.istore 6, 2) := by decide +kernel
theorem dX12_findStains_21 : decode cX12_findStains 21 = .ok (.iload 6, 2) := by decide +kernel
theorem dX12_findStains_23 : decode cX12_findStains 23 = .ok (.bipush 64, 2) := by decide +kernel
theorem dX12_findStains_25 : decode cX12_findStains 25 = .ok (.if_icmp .ge 142, 3) := by decide +kernel
theorem dX12_findStains_28 : decode cX12_findStains 28 = .ok (.aload_n 0, 1) := by decide +kernel
theorem dX12_findStains_29 : decode cX12_findStains 29 = .ok (.iload 6, 2) := by decide +kernel
theorem dX12_findStains_31 : decode cX12_findStains 31 = .ok (.invokevirtual 350, 3) := by decide +kernel
theorem dX12_findStains_34 : decode cX12_findStains 34 = .ok (.ifCond .eq 27, 3) := by decide +kernel
theorem dX12_findStains_37 : decode cX12_findStains 37 = .ok (.aload_n 0, 1) := by decide +kernel
theorem dX12_findStains_38 : decode cX12_findStains 38 = .ok (.iload 6, 2) := by decide +kernel
theorem dX12_findStains_40 : decode cX12_findStains 40 = .ok (.iconst 1, 1) := by decide +kernel
theorem dX12_findStains_41 : decode cX12_findStains 41 = .ok (.invokevirtual 301, 3) := by decide +kernel
theorem dX12_findStains_44 : decode cX12_findStains 44 = .ok (.iload 4, 2) := by decide +kernel
theorem dX12_findStains_46 : decode cX12_findStains 46 = .ok (.iconst 3, 1) := by decide +kernel
theorem dX12_findStains_47 : decode cX12_findStains 47 = .ok (.iload 5, 2) := by decide +kernel
theorem dX12_findStains_49 : decode cX12_findStains 49 = .ok (.imul, 1) := by decide +kernel
theorem dX12_findStains_50 : decode cX12_findStains 50 = .ok (.ishr, 1) := by decide +kernel
theorem dX12_findStains_51 : decode cX12_findStains 51 = .ok (.bipush 7, 2) := by decide +kernel
theorem dX12_findStains_53 : decode cX12_findStains 53 = .ok (.iand, 1) := by decide +kernel
theorem dX12_findStains_54 : decode cX12_findStains 54 = .ok (.if_icmp .ne 7, 3) := by decide +kernel
theorem dX12_findStains_57 : decode cX12_findStains 57 = .ok (.iconst 1, 1) := by decide +kernel
theorem dX12_findStains_58 : decode cX12_findStains 58 = .ok (.goto 4, 3) := by decide +kernel
theorem dX12_findStains_61 : decode cX12_findStains 61 = .ok (.iconst 0, 1) := by decide +kernel
theorem dX12_findStains_62 : decode cX12_findStains 62 = .ok (.istore 7, 2) := by decide +kernel
theorem dX12_findStains_64 : decode cX12_findStains 64 = .ok (.aload_n 0, 1) := by decide +kernel
theorem dX12_findStains_65 : decode cX12_findStains 65 = .ok (.getfield 130, 3) := by decide +kernel
theorem dX12_findStains_68 : decode cX12_findStains 68 = .ok (.bipush 64, 2) := by decide +kernel
theorem dX12_findStains_70 : decode cX12_findStains 70 = .ok (.iload 5, 2) := by decide +kernel
theorem dX12_findStains_72 : decode cX12_findStains 72 = .ok (.imul, 1) := by decide +kernel
theorem dX12_findStains_73 : decode cX12_findStains 73 = .ok (.iload 6, 2) := by decide +kernel
theorem dX12_findStains_75 : decode cX12_findStains 75 = .ok (.iadd, 1) := by decide +kernel
theorem dX12_findStains_76 : decode cX12_findStains 76 = .ok (.iload 7, 2) := by decide +kernel
theorem dX12_findStains_78 : decode cX12_findStains 78 = .ok (.ifCond .eq 13, 3) := by decide +kernel
theorem dX12_findStains_81 : decode cX12_findStains 81 = .ok (.aload_n 0, 1) := by decide +kernel
theorem dX12_findStains_82 : decode cX12_findStains 82 = .ok (.iload 6, 2) := by decide +kernel
theorem dX12_findStains_84 : decode cX12_findStains 84 = .ok (.iconst 0, 1) := by decide +kernel
theorem dX12_findStains_85 : decode cX12_findStains 85 = .ok (.invokevirtual 301, 3) := by decide +kernel
theorem dX12_findStains_88 : decode cX12_findStains 88 = .ok (.goto 4, 3) := by decide +kernel
theorem dX12_findStains_91 : decode cX12_findStains 91 = .ok (.iconst 0, 1) := by decide +kernel
theorem dX12_findStains_92 : decode cX12_findStains 92 = .ok (.iastore, 1) := by decide +kernel
theorem dX12_findStains_93 : decode cX12_findStains 93 = .ok (.aload_n 0, 1) := by decide +kernel
theorem dX12_findStains_94 : decode cX12_findStains 94 = .ok (.getfield 124, 3) := by decide +kernel
theorem dX12_findStains_97 : decode cX12_findStains 97 = .ok (.bipush 64, 2) := by decide +kernel
theorem dX12_findStains_99 : decode cX12_findStains 99 = .ok (.iload 5, 2) := by decide +kernel
theorem dX12_findStains_101 : decode cX12_findStains 101 = .ok (.imul, 1) := by decide +kernel
theorem dX12_findStains_102 : decode cX12_findStains 102 = .ok (.iload 6, 2) := by decide +kernel
theorem dX12_findStains_104 : decode cX12_findStains 104 = .ok (.iadd, 1) := by decide +kernel
theorem dX12_findStains_105 : decode cX12_findStains 105 = .ok (.iload 7, 2) := by decide +kernel
theorem dX12_findStains_107 : decode cX12_findStains 107 = .ok (.ifCond .ne 7, 3) := by decide +kernel
theorem dX12_findStains_110 : decode cX12_findStains 110 = .ok (.iconst 0, 1) := by decide +kernel
theorem dX12_findStains_111 : decode cX12_findStains 111 = .ok (.goto 26, 3) := by decide +kernel
theorem dX12_findStains_114 : decode cX12_findStains 114 = .ok (.iload 5, 2) := by decide +kernel
theorem dX12_findStains_116 : decode cX12_findStains 116 = .ok (.ifCond .ne 7, 3) := by decide +kernel
theorem dX12_findStains_119 : decode cX12_findStains 119 = .ok (.iconst 1, 1) := by decide +kernel
theorem dX12_findStains_120 : decode cX12_findStains 120 = .ok (.goto 17, 3) := by decide +kernel
theorem dX12_findStains_123 : decode cX12_findStains 123 = .ok (.aload_n 0, 1) := by decide +kernel
theorem dX12_findStains_124 : decode cX12_findStains 124 = .ok (.aload_n 0, 1) := by decide +kernel
theorem dX12_findStains_125 : decode cX12_findStains 125 = .ok (.getfield 124, 3) := by decide +kernel
theorem dX12_findStains_128 : decode cX12_findStains 128 = .ok (.iload 5, 2) := by decide +kernel
theorem dX12_findStains_130 : decode cX12_findStains 130 = .ok (.iconst 1, 1) := by decide +kernel
theorem dX12_findStains_131 : decode cX12_findStains 131 = .ok (.isub, 1) := by decide +kernel
theorem dX12_findStains_132 : decode cX12_findStains 132 = .ok (.iload 6, 2) := by decide +kernel
theorem dX12_findStains_134 : decode cX12_findStains 134 = .ok (.invokevirtual 370, 3) := by decide +kernel
theorem dX12_findStains_137 : decode cX12_findStains 137 = .ok (.iastore, 1) := by decide +kernel
theorem dX12_findStains_138 : decode cX12_findStains 138 = .ok (.aload_n 0, 1) := by decide +kernel
theorem dX12_findStains_139 : decode cX12_findStains 139 = .ok (.getfield 127, 3) := by decide +kernel
theorem dX12_findStains_142 : decode cX12_findStains 142 = .ok (.bipush 64, 2) := by decide +kernel
theorem dX12_findStains_144 : decode cX12_findStains 144 = .ok (.iload 5, 2) := by decide +kernel
theorem dX12_findStains_146 : decode cX12_findStains 146 = .ok (.imul, 1) := by decide +kernel
theorem dX12_findStains_147 : decode cX12_findStains 147 = .ok (.iload 6, 2) := by decide +kernel
theorem dX12_findStains_149 : decode cX12_findStains 149 = .ok (.iadd, 1) := by decide +kernel
theorem dX12_findStains_150 : decode cX12_findStains 150 = .ok (.iload 7, 2) := by decide +kernel
theorem dX12_findStains_152 : decode cX12_findStains 152 = .ok (.ifCond .eq 7, 3) := by decide +kernel
theorem dX12_findStains_155 : decode cX12_findStains 155 = .ok (.iconst 1, 1) := by decide +kernel
theorem dX12_findStains_156 : decode cX12_findStains 156 = .ok (.goto 4, 3) := by decide +kernel
theorem dX12_findStains_159 : decode cX12_findStains 159 = .ok (.iconst 0, 1) := by decide +kernel
theorem dX12_findStains_160 : decode cX12_findStains 160 = .ok (.iastore, 1) := by decide +kernel
theorem dX12_findStains_161 : decode cX12_findStains 161 = .ok (.iinc 6 1, 3) := by decide +kernel
theorem dX12_findStains_164 : decode cX12_findStains 164 = .ok (.goto (-143), 3) := by decide +kernel
theorem dX12_findStains_167 : decode cX12_findStains 167 = .ok (.iinc 5 1, 3) := by decide +kernel
theorem dX12_findStains_170 : decode cX12_findStains 170 = .ok (.goto (-167), 3) := by decide +kernel
theorem dX12_findStains_173 : decode cX12_findStains 173 = .ok (.iload_n 3, 1) := by decide +kernel
theorem dX12_findStains_174 : decode cX12_findStains 174 = .ok (.iconst 2, 1) := by decide +kernel
theorem dX12_findStains_175 : decode cX12_findStains 175 = .ok (.isub, 1) := by decide +kernel
theorem dX12_findStains_176 : decode cX12_findStains 176 = .ok (.istore 5, 2) := by decide +kernel
theorem dX12_findStains_178 : decode cX12_findStains 178 = .ok (.iload 5, 2) := by decide +kernel
theorem dX12_findStains_180 : decode cX12_findStains 180 = .ok (.ifCond .lt 72, 3) := by decide +kernel
theorem dX12_findStains_183 : decode cX12_findStains 183 = .ok (.iconst 0, 1) := by decide +kernel
theorem dX12_findStains_184 : decode cX12_findStains 184 = .ok (.istore 6, 2) := by decide +kernel
theorem dX12_findStains_186 : decode cX12_findStains 186 = .ok (.iload 6, 2) := by decide +kernel
theorem dX12_findStains_188 : decode cX12_findStains 188 = .ok (.bipush 64, 2) := by decide +kernel
theorem dX12_findStains_190 : decode cX12_findStains 190 = .ok (.if_icmp .ge 56, 3) := by decide +kernel
theorem dX12_findStains_193 : decode cX12_findStains 193 = .ok (.aload_n 0, 1) := by decide +kernel
theorem dX12_findStains_194 : decode cX12_findStains 194 = .ok (.getfield 127, 3) := by decide +kernel
theorem dX12_findStains_197 : decode cX12_findStains 197 = .ok (.bipush 64, 2) := by decide +kernel
theorem dX12_findStains_199 : decode cX12_findStains 199 = .ok (.iload 5, 2) := by decide +kernel
theorem dX12_findStains_201 : decode cX12_findStains 201 = .ok (.imul, 1) := by decide +kernel
theorem dX12_findStains_202 : decode cX12_findStains 202 = .ok (.iload 6, 2) := by decide +kernel
theorem dX12_findStains_204 : decode cX12_findStains 204 = .ok (.iadd, 1) := by decide +kernel
theorem dX12_findStains_205 : decode cX12_findStains 205 = .ok (.aload_n 0, 1) := by decide +kernel
theorem dX12_findStains_206 : decode cX12_findStains 206 = .ok (.getfield 127, 3) := by decide +kernel
theorem dX12_findStains_209 : decode cX12_findStains 209 = .ok (.bipush 64, 2) := by decide +kernel
theorem dX12_findStains_211 : decode cX12_findStains 211 = .ok (.iload 5, 2) := by decide +kernel
theorem dX12_findStains_213 : decode cX12_findStains 213 = .ok (.imul, 1) := by decide +kernel
theorem dX12_findStains_214 : decode cX12_findStains 214 = .ok (.iload 6, 2) := by decide +kernel
theorem dX12_findStains_216 : decode cX12_findStains 216 = .ok (.iadd, 1) := by decide +kernel
theorem dX12_findStains_217 : decode cX12_findStains 217 = .ok (.iaload, 1) := by decide +kernel
theorem dX12_findStains_218 : decode cX12_findStains 218 = .ok (.ifCond .ne 7, 3) := by decide +kernel
theorem dX12_findStains_221 : decode cX12_findStains 221 = .ok (.iconst 0, 1) := by decide +kernel
theorem dX12_findStains_222 : decode cX12_findStains 222 = .ok (.goto 17, 3) := by decide +kernel
theorem dX12_findStains_225 : decode cX12_findStains 225 = .ok (.aload_n 0, 1) := by decide +kernel
theorem dX12_findStains_226 : decode cX12_findStains 226 = .ok (.aload_n 0, 1) := by decide +kernel
theorem dX12_findStains_227 : decode cX12_findStains 227 = .ok (.getfield 127, 3) := by decide +kernel
theorem dX12_findStains_230 : decode cX12_findStains 230 = .ok (.iload 5, 2) := by decide +kernel
theorem dX12_findStains_232 : decode cX12_findStains 232 = .ok (.iconst 1, 1) := by decide +kernel
theorem dX12_findStains_233 : decode cX12_findStains 233 = .ok (.iadd, 1) := by decide +kernel
theorem dX12_findStains_234 : decode cX12_findStains 234 = .ok (.iload 6, 2) := by decide +kernel
theorem dX12_findStains_236 : decode cX12_findStains 236 = .ok (.invokevirtual 370, 3) := by decide +kernel
theorem dX12_findStains_239 : decode cX12_findStains 239 = .ok (.iastore, 1) := by decide +kernel
theorem dX12_findStains_240 : decode cX12_findStains 240 = .ok (.iinc 6 1, 3) := by decide +kernel
theorem dX12_findStains_243 : decode cX12_findStains 243 = .ok (.goto (-57), 3) := by decide +kernel
theorem dX12_findStains_246 : decode cX12_findStains 246 = .ok (.iinc 5 (-1), 3) := by decide +kernel
theorem dX12_findStains_249 : decode cX12_findStains 249 = .ok (.goto (-71), 3) := by decide +kernel
theorem dX12_findStains_252 : decode cX12_findStains 252 = .ok (.iconst 0, 1) := by decide +kernel
theorem dX12_findStains_253 : decode cX12_findStains 253 = .ok (.istore 5, 2) := by decide +kernel
theorem dX12_findStains_255 : decode cX12_findStains 255 = .ok (.iconst 0, 1) := by decide +kernel
theorem dX12_findStains_256 : decode cX12_findStains 256 = .ok (.istore 6, 2) := by decide +kernel
theorem dX12_findStains_258 : decode cX12_findStains 258 = .ok (.iload 6, 2) := by decide +kernel
theorem dX12_findStains_260 : decode cX12_findStains 260 = .ok (.bipush 64, 2) := by decide +kernel
theorem dX12_findStains_262 : decode cX12_findStains 262 = .ok (.if_icmp .ge 21, 3) := by decide +kernel
theorem dX12_findStains_265 : decode cX12_findStains 265 = .ok (.iload 5, 2) := by decide +kernel
theorem dX12_findStains_267 : decode cX12_findStains 267 = .ok (.aload_n 0, 1) := by decide +kernel
theorem dX12_findStains_268 : decode cX12_findStains 268 = .ok (.getfield 127, 3) := by decide +kernel
theorem dX12_findStains_271 : decode cX12_findStains 271 = .ok (.iload 6, 2) := by decide +kernel
theorem dX12_findStains_273 : decode cX12_findStains 273 = .ok (.iaload, 1) := by decide +kernel
theorem dX12_findStains_274 : decode cX12_findStains 274 = .ok (.iadd, 1) := by decide +kernel
theorem dX12_findStains_275 : decode cX12_findStains 275 = .ok (.istore 5, 2) := by decide +kernel
theorem dX12_findStains_277 : decode cX12_findStains 277 = .ok (.iinc 6 1, 3) := by decide +kernel
theorem dX12_findStains_280 : decode cX12_findStains 280 = .ok (.goto (-22), 3) := by decide +kernel
theorem dX12_findStains_283 : decode cX12_findStains 283 = .ok (.iload 5, 2) := by decide +kernel
theorem dX12_findStains_285 : decode cX12_findStains 285 = .ok (.ireturn, 1) := by decide +kernel
theorem dX12_stains_0 : decode cX12_stains 0 = .ok (.aload_n 0, 1) := by decide +kernel
theorem dX12_stains_1 : decode cX12_stains 1 = .ok (.iconst 0, 1) := by decide +kernel
theorem dX12_stains_2 : decode cX12_stains 2 = .ok (.putfield 1, 3) := by decide +kernel
theorem dX12_stains_5 : decode cX12_stains 5 = .ok (.aload_n 0, 1) := by decide +kernel
theorem dX12_stains_6 : decode cX12_stains 6 = .ok (.iload_n 1, 1) := by decide +kernel
theorem dX12_stains_7 : decode cX12_stains 7 = .ok (.iload_n 2, 1) := by decide +kernel
theorem dX12_stains_8 : decode cX12_stains 8 = .ok (.iload_n 3, 1) := by decide +kernel
theorem dX12_stains_9 : decode cX12_stains 9 = .ok (.iload 4, 2) := by decide +kernel
theorem dX12_stains_11 : decode cX12_stains 11 = .ok (.invokevirtual 374, 3) := by decide +kernel
theorem dX12_stains_14 : decode cX12_stains 14 = .ok (.ifCond .eq 15, 3) := by decide +kernel
theorem dX12_stains_17 : decode cX12_stains 17 = .ok (.aload_n 0, 1) := by decide +kernel
theorem dX12_stains_18 : decode cX12_stains 18 = .ok (.iload_n 1, 1) := by decide +kernel
theorem dX12_stains_19 : decode cX12_stains 19 = .ok (.iload_n 2, 1) := by decide +kernel
theorem dX12_stains_20 : decode cX12_stains 20 = .ok (.iload_n 3, 1) := by decide +kernel
theorem dX12_stains_21 : decode cX12_stains 21 = .ok (.iload 4, 2) := by decide +kernel
theorem dX12_stains_23 : decode cX12_stains 23 = .ok (.invokevirtual 378, 3) := by decide +kernel
theorem dX12_stains_26 : decode cX12_stains 26 = .ok (.goto 4, 3) := by decide +kernel
theorem dX12_stains_29 : decode cX12_stains 29 = .ok (.iconst (-1), 1) := by decide +kernel
theorem dX12_stains_30 : decode cX12_stains 30 = .ok (.ireturn, 1) := by decide +kernel
theorem dX12_stood_0 : decode cX12_stood 0 = .ok (.aload_n 0, 1) := by decide +kernel
theorem dX12_stood_1 : decode cX12_stood 1 = .ok (.iconst 0, 1) := by decide +kernel
theorem dX12_stood_2 : decode cX12_stood 2 = .ok (.putfield 1, 3) := by decide +kernel
theorem dX12_stood_5 : decode cX12_stood 5 = .ok (.aload_n 0, 1) := by decide +kernel
theorem dX12_stood_6 : decode cX12_stood 6 = .ok (.iload_n 1, 1) := by decide +kernel
theorem dX12_stood_7 : decode cX12_stood 7 = .ok (.iload_n 2, 1) := by decide +kernel
theorem dX12_stood_8 : decode cX12_stood 8 = .ok (.iload_n 3, 1) := by decide +kernel
theorem dX12_stood_9 : decode cX12_stood 9 = .ok (.iload 4, 2) := by decide +kernel
theorem dX12_stood_11 : decode cX12_stood 11 = .ok (.invokevirtual 374, 3) := by decide +kernel
theorem dX12_stood_14 : decode cX12_stood 14 = .ok (.ifCond .eq 27, 3) := by decide +kernel
theorem dX12_stood_17 : decode cX12_stood 17 = .ok (.iload 5, 2) := by decide +kernel
theorem dX12_stood_19 : decode cX12_stood 19 = .ok (.iconst 0, 1) := by decide +kernel
theorem dX12_stood_20 : decode cX12_stood 20 = .ok (.iload_n 3, 1) := by decide +kernel
theorem dX12_stood_21 : decode cX12_stood 21 = .ok (.iconst 1, 1) := by decide +kernel
theorem dX12_stood_22 : decode cX12_stood 22 = .ok (.isub, 1) := by decide +kernel
theorem dX12_stood_23 : decode cX12_stood 23 = .ok (.invokestatic 272, 3) := by decide +kernel
theorem dX12_stood_26 : decode cX12_stood 26 = .ok (.ifCond .eq 15, 3) := by decide +kernel
theorem dX12_stood_29 : decode cX12_stood 29 = .ok (.aload_n 0, 1) := by decide +kernel
theorem dX12_stood_30 : decode cX12_stood 30 = .ok (.iload_n 1, 1) := by decide +kernel
theorem dX12_stood_31 : decode cX12_stood 31 = .ok (.iload_n 2, 1) := by decide +kernel
theorem dX12_stood_32 : decode cX12_stood 32 = .ok (.iload_n 3, 1) := by decide +kernel
theorem dX12_stood_33 : decode cX12_stood 33 = .ok (.iload 4, 2) := by decide +kernel
theorem dX12_stood_35 : decode cX12_stood 35 = .ok (.invokevirtual 378, 3) := by decide +kernel
theorem dX12_stood_38 : decode cX12_stood 38 = .ok (.ifCond .ne 5, 3) := by decide +kernel
theorem dX12_stood_41 : decode cX12_stood 41 = .ok (.iconst (-1), 1) := by decide +kernel
theorem dX12_stood_42 : decode cX12_stood 42 = .ok (.ireturn, 1) := by decide +kernel
theorem dX12_stood_43 : decode cX12_stood 43 = .ok (.iconst 0, 1) := by decide +kernel
theorem dX12_stood_44 : decode cX12_stood 44 = .ok (.istore 7, 2) := by decide +kernel
theorem dX12_stood_46 : decode cX12_stood 46 = .ok (.iconst 1, 1) := by decide +kernel
theorem dX12_stood_47 : decode cX12_stood 47 = .ok (.aload_n 0, 1) := by decide +kernel
theorem dX12_stood_48 : decode cX12_stood 48 = .ok (.invokevirtual 266, 3) := by decide +kernel
theorem dX12_stood_51 : decode cX12_stood 51 = .ok (.ishl, 1) := by decide +kernel
theorem dX12_stood_52 : decode cX12_stood 52 = .ok (.iconst 1, 1) := by decide +kernel
theorem dX12_stood_53 : decode cX12_stood 53 = .ok (.isub, 1) := by decide +kernel
theorem dX12_stood_54 : decode cX12_stood 54 = .ok (.istore 8, 2) := by decide +kernel
theorem dX12_stood_56 : decode cX12_stood 56 = .ok (.bipush 64, 2) := by decide +kernel
theorem dX12_stood_58 : decode cX12_stood 58 = .ok (.iload 5, 2) := by decide +kernel
theorem dX12_stood_60 : decode cX12_stood 60 = .ok (.imul, 1) := by decide +kernel
theorem dX12_stood_61 : decode cX12_stood 61 = .ok (.istore 9, 2) := by decide +kernel
theorem dX12_stood_63 : decode cX12_stood 63 = .ok (.iload 9, 2) := by decide +kernel
theorem dX12_stood_65 : decode cX12_stood 65 = .ok (.bipush 64, 2) := by decide +kernel
theorem dX12_stood_67 : decode cX12_stood 67 = .ok (.iload 5, 2) := by decide +kernel
theorem dX12_stood_69 : decode cX12_stood 69 = .ok (.imul, 1) := by decide +kernel
theorem dX12_stood_70 : decode cX12_stood 70 = .ok (.bipush 64, 2) := by decide +kernel
theorem dX12_stood_72 : decode cX12_stood 72 = .ok (.iadd, 1) := by decide +kernel
theorem dX12_stood_73 : decode cX12_stood 73 = .ok (.if_icmp .ge 53, 3) := by decide +kernel
theorem dX12_stood_76 : decode cX12_stood 76 = .ok (.aload_n 0, 1) := by decide +kernel
theorem dX12_stood_77 : decode cX12_stood 77 = .ok (.getfield 124, 3) := by decide +kernel
theorem dX12_stood_80 : decode cX12_stood 80 = .ok (.iload 9, 2) := by decide +kernel
theorem dX12_stood_82 : decode cX12_stood 82 = .ok (.iaload, 1) := by decide +kernel
theorem dX12_stood_83 : decode cX12_stood 83 = .ok (.ifCond .le 37, 3) := by decide +kernel
theorem dX12_stood_86 : decode cX12_stood 86 = .ok (.aload_n 0, 1) := by decide +kernel
theorem dX12_stood_87 : decode cX12_stood 87 = .ok (.getfield 127, 3) := by decide +kernel
theorem dX12_stood_90 : decode cX12_stood 90 = .ok (.iload 9, 2) := by decide +kernel
theorem dX12_stood_92 : decode cX12_stood 92 = .ok (.iaload, 1) := by decide +kernel
theorem dX12_stood_93 : decode cX12_stood 93 = .ok (.ifCond .le 27, 3) := by decide +kernel
theorem dX12_stood_96 : decode cX12_stood 96 = .ok (.iload 7, 2) := by decide +kernel
theorem dX12_stood_98 : decode cX12_stood 98 = .ok (.aload_n 0, 1) := by decide +kernel
theorem dX12_stood_99 : decode cX12_stood 99 = .ok (.getfield 130, 3) := by decide +kernel
theorem dX12_stood_102 : decode cX12_stood 102 = .ok (.iload 9, 2) := by decide +kernel
theorem dX12_stood_104 : decode cX12_stood 104 = .ok (.iaload, 1) := by decide +kernel
theorem dX12_stood_105 : decode cX12_stood 105 = .ok (.ior, 1) := by decide +kernel
theorem dX12_stood_106 : decode cX12_stood 106 = .ok (.istore 7, 2) := by decide +kernel
theorem dX12_stood_108 : decode cX12_stood 108 = .ok (.iload 8, 2) := by decide +kernel
theorem dX12_stood_110 : decode cX12_stood 110 = .ok (.aload_n 0, 1) := by decide +kernel
theorem dX12_stood_111 : decode cX12_stood 111 = .ok (.getfield 130, 3) := by decide +kernel
theorem dX12_stood_114 : decode cX12_stood 114 = .ok (.iload 9, 2) := by decide +kernel
theorem dX12_stood_116 : decode cX12_stood 116 = .ok (.iaload, 1) := by decide +kernel
theorem dX12_stood_117 : decode cX12_stood 117 = .ok (.iand, 1) := by decide +kernel
theorem dX12_stood_118 : decode cX12_stood 118 = .ok (.istore 8, 2) := by decide +kernel
theorem dX12_stood_120 : decode cX12_stood 120 = .ok (.iinc 9 1, 3) := by decide +kernel
theorem dX12_stood_123 : decode cX12_stood 123 = .ok (.goto (-60), 3) := by decide +kernel
theorem dX12_stood_126 : decode cX12_stood 126 = .ok (.iload 6, 2) := by decide +kernel
theorem dX12_stood_128 : decode cX12_stood 128 = .ok (.ifCond .eq 8, 3) := by decide +kernel
theorem dX12_stood_131 : decode cX12_stood 131 = .ok (.iload 7, 2) := by decide +kernel
theorem dX12_stood_133 : decode cX12_stood 133 = .ok (.goto 5, 3) := by decide +kernel
theorem dX12_stood_136 : decode cX12_stood 136 = .ok (.iload 8, 2) := by decide +kernel
theorem dX12_stood_138 : decode cX12_stood 138 = .ok (.ireturn, 1) := by decide +kernel
theorem dX12_draw_0 : decode cX12_draw 0 = .ok (.aload_n 0, 1) := by decide +kernel
theorem dX12_draw_1 : decode cX12_draw 1 = .ok (.aload_n 0, 1) := by decide +kernel
theorem dX12_draw_2 : decode cX12_draw 2 = .ok (.getfield 381, 3) := by decide +kernel
theorem dX12_draw_5 : decode cX12_draw 5 = .ok (.ldc2_w 385, 3) := by decide +kernel
theorem dX12_draw_8 : decode cX12_draw 8 = .ok (.lmul, 1) := by decide +kernel
theorem dX12_draw_9 : decode cX12_draw 9 = .ok (.ldc2_w 387, 3) := by decide +kernel
theorem dX12_draw_12 : decode cX12_draw 12 = .ok (.ladd, 1) := by decide +kernel
theorem dX12_draw_13 : decode cX12_draw 13 = .ok (.ldc2_w 389, 3) := by decide +kernel
theorem dX12_draw_16 : decode cX12_draw 16 = .ok (.lrem, 1) := by decide +kernel
theorem dX12_draw_17 : decode cX12_draw 17 = .ok (.putfield 381, 3) := by decide +kernel
theorem dX12_draw_20 : decode cX12_draw 20 = .ok (.aload_n 0, 1) := by decide +kernel
theorem dX12_draw_21 : decode cX12_draw 21 = .ok (.getfield 381, 3) := by decide +kernel
theorem dX12_draw_24 : decode cX12_draw 24 = .ok (.ldc2_w 391, 3) := by decide +kernel
theorem dX12_draw_27 : decode cX12_draw 27 = .ok (.ldiv, 1) := by decide +kernel
theorem dX12_draw_28 : decode cX12_draw 28 = .ok (.iload_n 1, 1) := by decide +kernel
theorem dX12_draw_29 : decode cX12_draw 29 = .ok (.i2l, 1) := by decide +kernel
theorem dX12_draw_30 : decode cX12_draw 30 = .ok (.lrem, 1) := by decide +kernel
theorem dX12_draw_31 : decode cX12_draw 31 = .ok (.l2i, 1) := by decide +kernel
theorem dX12_draw_32 : decode cX12_draw 32 = .ok (.ireturn, 1) := by decide +kernel
theorem dX12_clouded_0 : decode cX12_clouded 0 = .ok (.aload_n 0, 1) := by decide +kernel
theorem dX12_clouded_1 : decode cX12_clouded 1 = .ok (.iload_n 1, 1) := by decide +kernel
theorem dX12_clouded_2 : decode cX12_clouded 2 = .ok (.iconst 0, 1) := by decide +kernel
theorem dX12_clouded_3 : decode cX12_clouded 3 = .ok (.sipush 9999, 3) := by decide +kernel
theorem dX12_clouded_6 : decode cX12_clouded 6 = .ok (.invokestatic 272, 3) := by decide +kernel
theorem dX12_clouded_9 : decode cX12_clouded 9 = .ok (.ifCond .eq 20, 3) := by decide +kernel
theorem dX12_clouded_12 : decode cX12_clouded 12 = .ok (.iload_n 2, 1) := by decide +kernel
theorem dX12_clouded_13 : decode cX12_clouded 13 = .ok (.iconst (-1), 1) := by decide +kernel
theorem dX12_clouded_14 : decode cX12_clouded 14 = .ok (.if_icmp .eq 11, 3) := by decide +kernel
theorem dX12_clouded_17 : decode cX12_clouded 17 = .ok (.aload_n 0, 1) := by decide +kernel
theorem dX12_clouded_18 : decode cX12_clouded 18 = .ok (.iload_n 2, 1) := by decide +kernel
theorem dX12_clouded_19 : decode cX12_clouded 19 = .ok (.invokevirtual 311, 3) := by decide +kernel
theorem dX12_clouded_22 : decode cX12_clouded 22 = .ok (.ifCond .eq 7, 3) := by decide +kernel
theorem dX12_clouded_25 : decode cX12_clouded 25 = .ok (.iconst 0, 1) := by decide +kernel
theorem dX12_clouded_26 : decode cX12_clouded 26 = .ok (.goto 4, 3) := by decide +kernel
theorem dX12_clouded_29 : decode cX12_clouded 29 = .ok (.iconst 1, 1) := by decide +kernel
theorem dX12_clouded_30 : decode cX12_clouded 30 = .ok (.putfield 1, 3) := by decide +kernel
theorem dX12_clouded_33 : decode cX12_clouded 33 = .ok (.aload_n 0, 1) := by decide +kernel
theorem dX12_clouded_34 : decode cX12_clouded 34 = .ok (.getfield 1, 3) := by decide +kernel
theorem dX12_clouded_37 : decode cX12_clouded 37 = .ok (.ifCond .le 5, 3) := by decide +kernel
theorem dX12_clouded_40 : decode cX12_clouded 40 = .ok (.iconst 0, 1) := by decide +kernel
theorem dX12_clouded_41 : decode cX12_clouded 41 = .ok (.ireturn, 1) := by decide +kernel
theorem dX12_clouded_42 : decode cX12_clouded 42 = .ok (.aload_n 0, 1) := by decide +kernel
theorem dX12_clouded_43 : decode cX12_clouded 43 = .ok (.iload_n 1, 1) := by decide +kernel
theorem dX12_clouded_44 : decode cX12_clouded 44 = .ok (.i2l, 1) := by decide +kernel
theorem dX12_clouded_45 : decode cX12_clouded 45 = .ok (.putfield 381, 3) := by decide +kernel
theorem dX12_clouded_48 : decode cX12_clouded 48 = .ok (.iconst 0, 1) := by decide +kernel
theorem dX12_clouded_49 : decode cX12_clouded 49 = .ok (.istore_n 3, 1) := by decide +kernel
theorem dX12_clouded_50 : decode cX12_clouded 50 = .ok (.iload_n 3, 1) := by decide +kernel
theorem dX12_clouded_51 : decode cX12_clouded 51 = .ok (.bipush 12, 2) := by decide +kernel
theorem dX12_clouded_53 : decode cX12_clouded 53 = .ok (.if_icmp .ge 16, 3) := by decide +kernel
theorem dX12_clouded_56 : decode cX12_clouded 56 = .ok (.aload_n 0, 1) := by decide +kernel
theorem dX12_clouded_57 : decode cX12_clouded 57 = .ok (.getfield 109, 3) := by decide +kernel
theorem dX12_clouded_60 : decode cX12_clouded 60 = .ok (.iload_n 3, 1) := by decide +kernel
theorem dX12_clouded_61 : decode cX12_clouded 61 = .ok (.iconst 0, 1) := by decide +kernel
theorem dX12_clouded_62 : decode cX12_clouded 62 = .ok (.iastore, 1) := by decide +kernel
theorem dX12_clouded_63 : decode cX12_clouded 63 = .ok (.iinc 3 1, 3) := by decide +kernel
theorem dX12_clouded_66 : decode cX12_clouded 66 = .ok (.goto (-16), 3) := by decide +kernel
theorem dX12_clouded_69 : decode cX12_clouded 69 = .ok (.iconst 0, 1) := by decide +kernel
theorem dX12_clouded_70 : decode cX12_clouded 70 = .ok (.istore_n 3, 1) := by decide +kernel
theorem dX12_clouded_71 : decode cX12_clouded 71 = .ok (.iload_n 3, 1) := by decide +kernel
theorem dX12_clouded_72 : decode cX12_clouded 72 = .ok (.sipush 1248, 3) := by decide +kernel
theorem dX12_clouded_75 : decode cX12_clouded 75 = .ok (.if_icmp .ge 36, 3) := by decide +kernel
theorem dX12_clouded_78 : decode cX12_clouded 78 = .ok (.aload_n 0, 1) := by decide +kernel
theorem dX12_clouded_79 : decode cX12_clouded 79 = .ok (.bipush 8, 2) := by decide +kernel
theorem dX12_clouded_81 : decode cX12_clouded 81 = .ok (.invokevirtual 393, 3) := by decide +kernel
theorem dX12_clouded_84 : decode cX12_clouded 84 = .ok (.aload_n 0, 1) := by decide +kernel
theorem dX12_clouded_85 : decode cX12_clouded 85 = .ok (.getfield 81, 3) := by decide +kernel
theorem dX12_clouded_88 : decode cX12_clouded 88 = .ok (.iconst 2, 1) := by decide +kernel
theorem dX12_clouded_89 : decode cX12_clouded 89 = .ok (.iaload, 1) := by decide +kernel
theorem dX12_clouded_90 : decode cX12_clouded 90 = .ok (.if_icmp .lt 15, 3) := by decide +kernel
theorem dX12_clouded_93 : decode cX12_clouded 93 = .ok (.aload_n 0, 1) := by decide +kernel
theorem dX12_clouded_94 : decode cX12_clouded 94 = .ok (.iload_n 3, 1) := by decide +kernel
theorem dX12_clouded_95 : decode cX12_clouded 95 = .ok (.bipush 24, 2) := by decide +kernel
theorem dX12_clouded_97 : decode cX12_clouded 97 = .ok (.idiv, 1) := by decide +kernel
theorem dX12_clouded_98 : decode cX12_clouded 98 = .ok (.iload_n 3, 1) := by decide +kernel
theorem dX12_clouded_99 : decode cX12_clouded 99 = .ok (.bipush 24, 2) := by decide +kernel
theorem dX12_clouded_101 : decode cX12_clouded 101 = .ok (.irem, 1) := by decide +kernel
theorem dX12_clouded_102 : decode cX12_clouded 102 = .ok (.invokevirtual 308, 3) := by decide +kernel
theorem dX12_clouded_105 : decode cX12_clouded 105 = .ok (.iinc 3 1, 3) := by decide +kernel
theorem dX12_clouded_108 : decode cX12_clouded 108 = .ok (.goto (-37), 3) := by decide +kernel
theorem dX12_clouded_111 : decode cX12_clouded 111 = .ok (.iconst 0, 1) := by decide +kernel
theorem dX12_clouded_112 : decode cX12_clouded 112 = .ok (.istore_n 3, 1) := by decide +kernel
theorem dX12_clouded_113 : decode cX12_clouded 113 = .ok (.iconst 0, 1) := by decide +kernel
theorem dX12_clouded_114 : decode cX12_clouded 114 = .ok (.istore 4, 2) := by decide +kernel
theorem dX12_clouded_116 : decode cX12_clouded 116 = .ok (.iload 4, 2) := by decide +kernel
theorem dX12_clouded_118 : decode cX12_clouded 118 = .ok (.aload_n 0, 1) := by decide +kernel
theorem dX12_clouded_119 : decode cX12_clouded 119 = .ok (.invokevirtual 266, 3) := by decide +kernel
theorem dX12_clouded_122 : decode cX12_clouded 122 = .ok (.if_icmp .ge 39, 3) := by decide +kernel
theorem dX12_clouded_125 : decode cX12_clouded 125 = .ok (.iload_n 3, 1) := by decide +kernel
theorem dX12_clouded_126 : decode cX12_clouded 126 = .ok (.aload_n 0, 1) := by decide +kernel
theorem dX12_clouded_127 : decode cX12_clouded 127 = .ok (.iload 4, 2) := by decide +kernel
theorem dX12_clouded_129 : decode cX12_clouded 129 = .ok (.invokevirtual 323, 3) := by decide +kernel
theorem dX12_clouded_132 : decode cX12_clouded 132 = .ok (.aload_n 0, 1) := by decide +kernel
theorem dX12_clouded_133 : decode cX12_clouded 133 = .ok (.getfield 81, 3) := by decide +kernel
theorem dX12_clouded_136 : decode cX12_clouded 136 = .ok (.iconst 5, 1) := by decide +kernel
theorem dX12_clouded_137 : decode cX12_clouded 137 = .ok (.iconst 2, 1) := by decide +kernel
theorem dX12_clouded_138 : decode cX12_clouded 138 = .ok (.iload 4, 2) := by decide +kernel
theorem dX12_clouded_140 : decode cX12_clouded 140 = .ok (.imul, 1) := by decide +kernel
theorem dX12_clouded_141 : decode cX12_clouded 141 = .ok (.iadd, 1) := by decide +kernel
theorem dX12_clouded_142 : decode cX12_clouded 142 = .ok (.iconst 1, 1) := by decide +kernel
theorem dX12_clouded_143 : decode cX12_clouded 143 = .ok (.iadd, 1) := by decide +kernel
theorem dX12_clouded_144 : decode cX12_clouded 144 = .ok (.iaload, 1) := by decide +kernel
theorem dX12_clouded_145 : decode cX12_clouded 145 = .ok (.if_icmp .ge 7, 3) := by decide +kernel
theorem dX12_clouded_148 : decode cX12_clouded 148 = .ok (.iconst 1, 1) := by decide +kernel
theorem dX12_clouded_149 : decode cX12_clouded 149 = .ok (.goto 4, 3) := by decide +kernel
theorem dX12_clouded_152 : decode cX12_clouded 152 = .ok (.iconst 0, 1) := by decide +kernel
theorem dX12_clouded_153 : decode cX12_clouded 153 = .ok (.iadd, 1) := by decide +kernel
theorem dX12_clouded_154 : decode cX12_clouded 154 = .ok (.istore_n 3, 1) := by decide +kernel
theorem dX12_clouded_155 : decode cX12_clouded 155 = .ok (.iinc 4 1, 3) := by decide +kernel
theorem dX12_clouded_158 : decode cX12_clouded 158 = .ok (.goto (-42), 3) := by decide +kernel
theorem dX12_clouded_161 : decode cX12_clouded 161 = .ok (.iload_n 2, 1) := by decide +kernel
theorem dX12_clouded_162 : decode cX12_clouded 162 = .ok (.iconst (-1), 1) := by decide +kernel
theorem dX12_clouded_163 : decode cX12_clouded 163 = .ok (.if_icmp .ne 7, 3) := by decide +kernel
theorem dX12_clouded_166 : decode cX12_clouded 166 = .ok (.iload_n 3, 1) := by decide +kernel
theorem dX12_clouded_167 : decode cX12_clouded 167 = .ok (.goto 8, 3) := by decide +kernel
theorem dX12_clouded_170 : decode cX12_clouded 170 = .ok (.aload_n 0, 1) := by decide +kernel
theorem dX12_clouded_171 : decode cX12_clouded 171 = .ok (.iload_n 2, 1) := by decide +kernel
theorem dX12_clouded_172 : decode cX12_clouded 172 = .ok (.invokevirtual 323, 3) := by decide +kernel
theorem dX12_clouded_175 : decode cX12_clouded 175 = .ok (.ireturn, 1) := by decide +kernel
theorem dX12_mark_0 : decode cX12_mark 0 = .ok (.aload_n 0, 1) := by decide +kernel
theorem dX12_mark_1 : decode cX12_mark 1 = .ok (.iconst 0, 1) := by decide +kernel
theorem dX12_mark_2 : decode cX12_mark 2 = .ok (.putfield 1, 3) := by decide +kernel
theorem dX12_mark_5 : decode cX12_mark 5 = .ok (.iload_n 1, 1) := by decide +kernel
theorem dX12_mark_6 : decode cX12_mark 6 = .ok (.iconst 0, 1) := by decide +kernel
theorem dX12_mark_7 : decode cX12_mark 7 = .ok (.iconst 3, 1) := by decide +kernel
theorem dX12_mark_8 : decode cX12_mark 8 = .ok (.invokestatic 272, 3) := by decide +kernel
theorem dX12_mark_11 : decode cX12_mark 11 = .ok (.ifCond .eq 16, 3) := by decide +kernel
theorem dX12_mark_14 : decode cX12_mark 14 = .ok (.iload_n 2, 1) := by decide +kernel
theorem dX12_mark_15 : decode cX12_mark 15 = .ok (.ifCond .eq 14, 3) := by decide +kernel
theorem dX12_mark_18 : decode cX12_mark 18 = .ok (.aload_n 0, 1) := by decide +kernel
theorem dX12_mark_19 : decode cX12_mark 19 = .ok (.getfield 102, 3) := by decide +kernel
theorem dX12_mark_22 : decode cX12_mark 22 = .ok (.iload_n 1, 1) := by decide +kernel
theorem dX12_mark_23 : decode cX12_mark 23 = .ok (.baload, 1) := by decide +kernel
theorem dX12_mark_24 : decode cX12_mark 24 = .ok (.ifCond .ne 5, 3) := by decide +kernel
theorem dX12_mark_27 : decode cX12_mark 27 = .ok (.iconst 0, 1) := by decide +kernel
theorem dX12_mark_28 : decode cX12_mark 28 = .ok (.ireturn, 1) := by decide +kernel
theorem dX12_mark_29 : decode cX12_mark 29 = .ok (.iload_n 2, 1) := by decide +kernel
theorem dX12_mark_30 : decode cX12_mark 30 = .ok (.ifCond .eq 21, 3) := by decide +kernel
theorem dX12_mark_33 : decode cX12_mark 33 = .ok (.aload_n 0, 1) := by decide +kernel
theorem dX12_mark_34 : decode cX12_mark 34 = .ok (.iconst 1, 1) := by decide +kernel
theorem dX12_mark_35 : decode cX12_mark 35 = .ok (.iload_n 1, 1) := by decide +kernel
theorem dX12_mark_36 : decode cX12_mark 36 = .ok (.iadd, 1) := by decide +kernel
theorem dX12_mark_37 : decode cX12_mark 37 = .ok (.iconst 0, 1) := by decide +kernel
theorem dX12_mark_38 : decode cX12_mark 38 = .ok (.bipush 40, 2) := by decide +kernel
theorem dX12_mark_40 : decode cX12_mark 40 = .ok (.invokevirtual 262, 3) := by decide +kernel
theorem dX12_mark_43 : decode cX12_mark 43 = .ok (.aload_n 0, 1) := by decide +kernel
theorem dX12_mark_44 : decode cX12_mark 44 = .ok (.iconst 0, 1) := by decide +kernel
theorem dX12_mark_45 : decode cX12_mark 45 = .ok (.putfield 201, 3) := by decide +kernel
theorem dX12_mark_48 : decode cX12_mark 48 = .ok (.goto 20, 3) := by decide +kernel
theorem dX12_mark_51 : decode cX12_mark 51 = .ok (.aload_n 0, 1) := by decide +kernel
theorem dX12_mark_52 : decode cX12_mark 52 = .ok (.getfield 102, 3) := by decide +kernel
theorem dX12_mark_55 : decode cX12_mark 55 = .ok (.iload_n 1, 1) := by decide +kernel
theorem dX12_mark_56 : decode cX12_mark 56 = .ok (.iconst 1, 1) := by decide +kernel
theorem dX12_mark_57 : decode cX12_mark 57 = .ok (.bastore, 1) := by decide +kernel
theorem dX12_mark_58 : decode cX12_mark 58 = .ok (.aload_n 0, 1) := by decide +kernel
theorem dX12_mark_59 : decode cX12_mark 59 = .ok (.iconst 0, 1) := by decide +kernel
theorem dX12_mark_60 : decode cX12_mark 60 = .ok (.iconst 1, 1) := by decide +kernel
theorem dX12_mark_61 : decode cX12_mark 61 = .ok (.iload_n 1, 1) := by decide +kernel
theorem dX12_mark_62 : decode cX12_mark 62 = .ok (.iadd, 1) := by decide +kernel
theorem dX12_mark_63 : decode cX12_mark 63 = .ok (.bipush 40, 2) := by decide +kernel
theorem dX12_mark_65 : decode cX12_mark 65 = .ok (.invokevirtual 262, 3) := by decide +kernel
theorem dX12_mark_68 : decode cX12_mark 68 = .ok (.iconst 1, 1) := by decide +kernel
theorem dX12_mark_69 : decode cX12_mark 69 = .ok (.ireturn, 1) := by decide +kernel
theorem dX12_count_0 : decode cX12_count 0 = .ok (.aload_n 0, 1) := by decide +kernel
theorem dX12_count_1 : decode cX12_count 1 = .ok (.iconst 0, 1) := by decide +kernel
theorem dX12_count_2 : decode cX12_count 2 = .ok (.putfield 1, 3) := by decide +kernel
theorem dX12_count_5 : decode cX12_count 5 = .ok (.iload_n 1, 1) := by decide +kernel
theorem dX12_count_6 : decode cX12_count 6 = .ok (.tableswitch 107 0 8 #[50, 57, 64, 69, 74, 85, 90, 95, 102], 50) := by decide +kernel
theorem dX12_count_56 : decode cX12_count 56 = .ok (.aload_n 0, 1) := by decide +kernel
theorem dX12_count_57 : decode cX12_count 57 = .ok (.getfield 81, 3) := by decide +kernel
theorem dX12_count_60 : decode cX12_count 60 = .ok (.iconst 0, 1) := by decide +kernel
theorem dX12_count_61 : decode cX12_count 61 = .ok (.iaload, 1) := by decide +kernel
theorem dX12_count_62 : decode cX12_count 62 = .ok (.ireturn, 1) := by decide +kernel
theorem dX12_count_63 : decode cX12_count 63 = .ok (.aload_n 0, 1) := by decide +kernel
theorem dX12_count_64 : decode cX12_count 64 = .ok (.getfield 81, 3) := by decide +kernel
theorem dX12_count_67 : decode cX12_count 67 = .ok (.iconst 1, 1) := by decide +kernel
theorem dX12_count_68 : decode cX12_count 68 = .ok (.iaload, 1) := by decide +kernel
theorem dX12_count_69 : decode cX12_count 69 = .ok (.ireturn, 1) := by decide +kernel
theorem dX12_count_70 : decode cX12_count 70 = .ok (.aload_n 0, 1) := by decide +kernel
theorem dX12_count_71 : decode cX12_count 71 = .ok (.invokevirtual 266, 3) := by decide +kernel
theorem dX12_count_74 : decode cX12_count 74 = .ok (.ireturn, 1) := by decide +kernel
theorem dX12_count_75 : decode cX12_count 75 = .ok (.aload_n 0, 1) := by decide +kernel
theorem dX12_count_76 : decode cX12_count 76 = .ok (.invokevirtual 269, 3) := by decide +kernel
theorem dX12_count_79 : decode cX12_count 79 = .ok (.ireturn, 1) := by decide +kernel
theorem dX12_count_80 : decode cX12_count 80 = .ok (.aload_n 0, 1) := by decide +kernel
theorem dX12_count_81 : decode cX12_count 81 = .ok (.getfield 99, 3) := by decide +kernel
theorem dX12_count_84 : decode cX12_count 84 = .ok (.bipush 12, 2) := by decide +kernel
theorem dX12_count_86 : decode cX12_count 86 = .ok (.iaload, 1) := by decide +kernel
theorem dX12_count_87 : decode cX12_count 87 = .ok (.invokestatic 326, 3) := by decide +kernel
theorem dX12_count_90 : decode cX12_count 90 = .ok (.ireturn, 1) := by decide +kernel
theorem dX12_count_91 : decode cX12_count 91 = .ok (.aload_n 0, 1) := by decide +kernel
theorem dX12_count_92 : decode cX12_count 92 = .ok (.getfield 201, 3) := by decide +kernel
theorem dX12_count_95 : decode cX12_count 95 = .ok (.ireturn, 1) := by decide +kernel
theorem dX12_count_96 : decode cX12_count 96 = .ok (.aload_n 0, 1) := by decide +kernel
theorem dX12_count_97 : decode cX12_count 97 = .ok (.invokevirtual 364, 3) := by decide +kernel
theorem dX12_count_100 : decode cX12_count 100 = .ok (.ireturn, 1) := by decide +kernel
theorem dX12_count_101 : decode cX12_count 101 = .ok (.aload_n 0, 1) := by decide +kernel
theorem dX12_count_102 : decode cX12_count 102 = .ok (.getfield 81, 3) := by decide +kernel
theorem dX12_count_105 : decode cX12_count 105 = .ok (.iconst 2, 1) := by decide +kernel
theorem dX12_count_106 : decode cX12_count 106 = .ok (.iaload, 1) := by decide +kernel
theorem dX12_count_107 : decode cX12_count 107 = .ok (.ireturn, 1) := by decide +kernel
theorem dX12_count_108 : decode cX12_count 108 = .ok (.aload_n 0, 1) := by decide +kernel
theorem dX12_count_109 : decode cX12_count 109 = .ok (.getfield 11, 3) := by decide +kernel
theorem dX12_count_112 : decode cX12_count 112 = .ok (.ireturn, 1) := by decide +kernel
theorem dX12_count_113 : decode cX12_count 113 = .ok (.iconst (-1), 1) := by decide +kernel
theorem dX12_count_114 : decode cX12_count 114 = .ok (.ireturn, 1) := by decide +kernel
theorem dJ11_isValidCodePoint_9a6ad_0 : decode cJ11_isValidCodePoint_9a6ad 0 = .ok (.iload_n 0, 1) := by decide +kernel
theorem dJ11_isValidCodePoint_9a6ad_1 : decode cJ11_isValidCodePoint_9a6ad 1 = .ok (.bipush 16, 2) := by decide +kernel
theorem dJ11_isValidCodePoint_9a6ad_3 : decode cJ11_isValidCodePoint_9a6ad 3 = .ok (.iushr, 1) := by decide +kernel
theorem dJ11_isValidCodePoint_9a6ad_4 : decode cJ11_isValidCodePoint_9a6ad 4 = .ok (.istore_n 1, 1) := by decide +kernel
theorem dJ11_isValidCodePoint_9a6ad_5 : decode cJ11_isValidCodePoint_9a6ad 5 = .ok (.iload_n 1, 1) := by decide +kernel
theorem dJ11_isValidCodePoint_9a6ad_6 : decode cJ11_isValidCodePoint_9a6ad 6 = .ok (.bipush 17, 2) := by decide +kernel
theorem dJ11_isValidCodePoint_9a6ad_8 : decode cJ11_isValidCodePoint_9a6ad 8 = .ok (.if_icmp .ge 7, 3) := by decide +kernel
theorem dJ11_isValidCodePoint_9a6ad_11 : decode cJ11_isValidCodePoint_9a6ad 11 = .ok (.iconst 1, 1) := by decide +kernel
theorem dJ11_isValidCodePoint_9a6ad_12 : decode cJ11_isValidCodePoint_9a6ad 12 = .ok (.goto 4, 3) := by decide +kernel
theorem dJ11_isValidCodePoint_9a6ad_15 : decode cJ11_isValidCodePoint_9a6ad 15 = .ok (.iconst 0, 1) := by decide +kernel
theorem dJ11_isValidCodePoint_9a6ad_16 : decode cJ11_isValidCodePoint_9a6ad 16 = .ok (.ireturn, 1) := by decide +kernel
theorem dJ11_highSurrogate_5068e_0 : decode cJ11_highSurrogate_5068e 0 = .ok (.iload_n 0, 1) := by decide +kernel
theorem dJ11_highSurrogate_5068e_1 : decode cJ11_highSurrogate_5068e 1 = .ok (.bipush 10, 2) := by decide +kernel
theorem dJ11_highSurrogate_5068e_3 : decode cJ11_highSurrogate_5068e 3 = .ok (.iushr, 1) := by decide +kernel
theorem dJ11_highSurrogate_5068e_4 : decode cJ11_highSurrogate_5068e 4 = .ok (.ldc 110, 2) := by decide +kernel
theorem dJ11_highSurrogate_5068e_6 : decode cJ11_highSurrogate_5068e 6 = .ok (.iadd, 1) := by decide +kernel
theorem dJ11_highSurrogate_5068e_7 : decode cJ11_highSurrogate_5068e 7 = .ok (.i2c, 1) := by decide +kernel
theorem dJ11_highSurrogate_5068e_8 : decode cJ11_highSurrogate_5068e 8 = .ok (.ireturn, 1) := by decide +kernel
theorem dJ11_lowSurrogate_5068e_0 : decode cJ11_lowSurrogate_5068e 0 = .ok (.iload_n 0, 1) := by decide +kernel
theorem dJ11_lowSurrogate_5068e_1 : decode cJ11_lowSurrogate_5068e 1 = .ok (.sipush 1023, 3) := by decide +kernel
theorem dJ11_lowSurrogate_5068e_4 : decode cJ11_lowSurrogate_5068e 4 = .ok (.iand, 1) := by decide +kernel
theorem dJ11_lowSurrogate_5068e_5 : decode cJ11_lowSurrogate_5068e 5 = .ok (.ldc 76, 2) := by decide +kernel
theorem dJ11_lowSurrogate_5068e_7 : decode cJ11_lowSurrogate_5068e 7 = .ok (.iadd, 1) := by decide +kernel
theorem dJ11_lowSurrogate_5068e_8 : decode cJ11_lowSurrogate_5068e 8 = .ok (.i2c, 1) := by decide +kernel
theorem dJ11_lowSurrogate_5068e_9 : decode cJ11_lowSurrogate_5068e 9 = .ok (.ireturn, 1) := by decide +kernel
theorem dJ6_bitCount_0f7a4_0 : decode cJ6_bitCount_0f7a4 0 = .ok (.iload_n 0, 1) := by decide +kernel
theorem dJ6_bitCount_0f7a4_1 : decode cJ6_bitCount_0f7a4 1 = .ok (.iload_n 0, 1) := by decide +kernel
theorem dJ6_bitCount_0f7a4_2 : decode cJ6_bitCount_0f7a4 2 = .ok (.iconst 1, 1) := by decide +kernel
theorem dJ6_bitCount_0f7a4_3 : decode cJ6_bitCount_0f7a4 3 = .ok (.iushr, 1) := by decide +kernel
theorem dJ6_bitCount_0f7a4_4 : decode cJ6_bitCount_0f7a4 4 = .ok (.ldc_w 265, 3) := by decide +kernel
theorem dJ6_bitCount_0f7a4_7 : decode cJ6_bitCount_0f7a4 7 = .ok (.iand, 1) := by decide +kernel
theorem dJ6_bitCount_0f7a4_8 : decode cJ6_bitCount_0f7a4 8 = .ok (.isub, 1) := by decide +kernel
theorem dJ6_bitCount_0f7a4_9 : decode cJ6_bitCount_0f7a4 9 = .ok (.istore_n 0, 1) := by decide +kernel
theorem dJ6_bitCount_0f7a4_10 : decode cJ6_bitCount_0f7a4 10 = .ok (.iload_n 0, 1) := by decide +kernel
theorem dJ6_bitCount_0f7a4_11 : decode cJ6_bitCount_0f7a4 11 = .ok (.ldc_w 266, 3) := by decide +kernel
theorem dJ6_bitCount_0f7a4_14 : decode cJ6_bitCount_0f7a4 14 = .ok (.iand, 1) := by decide +kernel
theorem dJ6_bitCount_0f7a4_15 : decode cJ6_bitCount_0f7a4 15 = .ok (.iload_n 0, 1) := by decide +kernel
theorem dJ6_bitCount_0f7a4_16 : decode cJ6_bitCount_0f7a4 16 = .ok (.iconst 2, 1) := by decide +kernel
theorem dJ6_bitCount_0f7a4_17 : decode cJ6_bitCount_0f7a4 17 = .ok (.iushr, 1) := by decide +kernel
theorem dJ6_bitCount_0f7a4_18 : decode cJ6_bitCount_0f7a4 18 = .ok (.ldc_w 266, 3) := by decide +kernel
theorem dJ6_bitCount_0f7a4_21 : decode cJ6_bitCount_0f7a4 21 = .ok (.iand, 1) := by decide +kernel
theorem dJ6_bitCount_0f7a4_22 : decode cJ6_bitCount_0f7a4 22 = .ok (.iadd, 1) := by decide +kernel
theorem dJ6_bitCount_0f7a4_23 : decode cJ6_bitCount_0f7a4 23 = .ok (.istore_n 0, 1) := by decide +kernel
theorem dJ6_bitCount_0f7a4_24 : decode cJ6_bitCount_0f7a4 24 = .ok (.iload_n 0, 1) := by decide +kernel
theorem dJ6_bitCount_0f7a4_25 : decode cJ6_bitCount_0f7a4 25 = .ok (.iload_n 0, 1) := by decide +kernel
theorem dJ6_bitCount_0f7a4_26 : decode cJ6_bitCount_0f7a4 26 = .ok (.iconst 4, 1) := by decide +kernel
theorem dJ6_bitCount_0f7a4_27 : decode cJ6_bitCount_0f7a4 27 = .ok (.iushr, 1) := by decide +kernel
theorem dJ6_bitCount_0f7a4_28 : decode cJ6_bitCount_0f7a4 28 = .ok (.iadd, 1) := by decide +kernel
theorem dJ6_bitCount_0f7a4_29 : decode cJ6_bitCount_0f7a4 29 = .ok (.ldc_w 267, 3) := by decide +kernel
theorem dJ6_bitCount_0f7a4_32 : decode cJ6_bitCount_0f7a4 32 = .ok (.iand, 1) := by decide +kernel
theorem dJ6_bitCount_0f7a4_33 : decode cJ6_bitCount_0f7a4 33 = .ok (.istore_n 0, 1) := by decide +kernel
theorem dJ6_bitCount_0f7a4_34 : decode cJ6_bitCount_0f7a4 34 = .ok (.iload_n 0, 1) := by decide +kernel
theorem dJ6_bitCount_0f7a4_35 : decode cJ6_bitCount_0f7a4 35 = .ok (.iload_n 0, 1) := by decide +kernel
theorem dJ6_bitCount_0f7a4_36 : decode cJ6_bitCount_0f7a4 36 = .ok (.bipush 8, 2) := by decide +kernel
theorem dJ6_bitCount_0f7a4_38 : decode cJ6_bitCount_0f7a4 38 = .ok (.iushr, 1) := by decide +kernel
theorem dJ6_bitCount_0f7a4_39 : decode cJ6_bitCount_0f7a4 39 = .ok (.iadd, 1) := by decide +kernel
theorem dJ6_bitCount_0f7a4_40 : decode cJ6_bitCount_0f7a4 40 = .ok (.istore_n 0, 1) := by decide +kernel
theorem dJ6_bitCount_0f7a4_41 : decode cJ6_bitCount_0f7a4 41 = .ok (.iload_n 0, 1) := by decide +kernel
theorem dJ6_bitCount_0f7a4_42 : decode cJ6_bitCount_0f7a4 42 = .ok (.iload_n 0, 1) := by decide +kernel
theorem dJ6_bitCount_0f7a4_43 : decode cJ6_bitCount_0f7a4 43 = .ok (.bipush 16, 2) := by decide +kernel
theorem dJ6_bitCount_0f7a4_45 : decode cJ6_bitCount_0f7a4 45 = .ok (.iushr, 1) := by decide +kernel
theorem dJ6_bitCount_0f7a4_46 : decode cJ6_bitCount_0f7a4 46 = .ok (.iadd, 1) := by decide +kernel
theorem dJ6_bitCount_0f7a4_47 : decode cJ6_bitCount_0f7a4 47 = .ok (.istore_n 0, 1) := by decide +kernel
theorem dJ6_bitCount_0f7a4_48 : decode cJ6_bitCount_0f7a4 48 = .ok (.iload_n 0, 1) := by decide +kernel
theorem dJ6_bitCount_0f7a4_49 : decode cJ6_bitCount_0f7a4 49 = .ok (.bipush 63, 2) := by decide +kernel
theorem dJ6_bitCount_0f7a4_51 : decode cJ6_bitCount_0f7a4 51 = .ok (.iand, 1) := by decide +kernel
theorem dJ6_bitCount_0f7a4_52 : decode cJ6_bitCount_0f7a4 52 = .ok (.ireturn, 1) := by decide +kernel
theorem dJ9_abs_0f7a4_0 : decode cJ9_abs_0f7a4 0 = .ok (.iload_n 0, 1) := by decide +kernel
theorem dJ9_abs_0f7a4_1 : decode cJ9_abs_0f7a4 1 = .ok (.ifCond .ge 8, 3) := by decide +kernel
theorem dJ9_abs_0f7a4_4 : decode cJ9_abs_0f7a4 4 = .ok (.iload_n 0, 1) := by decide +kernel
theorem dJ9_abs_0f7a4_5 : decode cJ9_abs_0f7a4 5 = .ok (.ineg, 1) := by decide +kernel
theorem dJ9_abs_0f7a4_6 : decode cJ9_abs_0f7a4 6 = .ok (.goto 4, 3) := by decide +kernel
theorem dJ9_abs_0f7a4_9 : decode cJ9_abs_0f7a4 9 = .ok (.iload_n 0, 1) := by decide +kernel
theorem dJ9_abs_0f7a4_10 : decode cJ9_abs_0f7a4 10 = .ok (.ireturn, 1) := by decide +kernel
theorem dJ9_max_7cf53_0 : decode cJ9_max_7cf53 0 = .ok (.iload_n 0, 1) := by decide +kernel
theorem dJ9_max_7cf53_1 : decode cJ9_max_7cf53 1 = .ok (.iload_n 1, 1) := by decide +kernel
theorem dJ9_max_7cf53_2 : decode cJ9_max_7cf53 2 = .ok (.if_icmp .lt 7, 3) := by decide +kernel
theorem dJ9_max_7cf53_5 : decode cJ9_max_7cf53 5 = .ok (.iload_n 0, 1) := by decide +kernel
theorem dJ9_max_7cf53_6 : decode cJ9_max_7cf53 6 = .ok (.goto 4, 3) := by decide +kernel
theorem dJ9_max_7cf53_9 : decode cJ9_max_7cf53 9 = .ok (.iload_n 1, 1) := by decide +kernel
theorem dJ9_max_7cf53_10 : decode cJ9_max_7cf53 10 = .ok (.ireturn, 1) := by decide +kernel
theorem dJ9_min_7cf53_0 : decode cJ9_min_7cf53 0 = .ok (.iload_n 0, 1) := by decide +kernel
theorem dJ9_min_7cf53_1 : decode cJ9_min_7cf53 1 = .ok (.iload_n 1, 1) := by decide +kernel
theorem dJ9_min_7cf53_2 : decode cJ9_min_7cf53 2 = .ok (.if_icmp .gt 7, 3) := by decide +kernel
theorem dJ9_min_7cf53_5 : decode cJ9_min_7cf53 5 = .ok (.iload_n 0, 1) := by decide +kernel
theorem dJ9_min_7cf53_6 : decode cJ9_min_7cf53 6 = .ok (.goto 4, 3) := by decide +kernel
theorem dJ9_min_7cf53_9 : decode cJ9_min_7cf53 9 = .ok (.iload_n 1, 1) := by decide +kernel
theorem dJ9_min_7cf53_10 : decode cJ9_min_7cf53 10 = .ok (.ireturn, 1) := by decide +kernel
theorem dJ0_length_8abf5_0 : decode cJ0_length_8abf5 0 = .ok (.aload_n 0, 1) := by decide +kernel
theorem dJ0_length_8abf5_1 : decode cJ0_length_8abf5 1 = .ok (.getfield 9, 3) := by decide +kernel
theorem dJ0_length_8abf5_4 : decode cJ0_length_8abf5 4 = .ok (.arraylength, 1) := by decide +kernel
theorem dJ0_length_8abf5_5 : decode cJ0_length_8abf5 5 = .ok (.aload_n 0, 1) := by decide +kernel
theorem dJ0_length_8abf5_6 : decode cJ0_length_8abf5 6 = .ok (.invokevirtual 335, 3) := by decide +kernel
theorem dJ0_length_8abf5_9 : decode cJ0_length_8abf5 9 = .ok (.ishr, 1) := by decide +kernel
theorem dJ0_length_8abf5_10 : decode cJ0_length_8abf5 10 = .ok (.ireturn, 1) := by decide +kernel
theorem dJ0_charAt_5068e_0 : decode cJ0_charAt_5068e 0 = .ok (.aload_n 0, 1) := by decide +kernel
theorem dJ0_charAt_5068e_1 : decode cJ0_charAt_5068e 1 = .ok (.invokevirtual 492, 3) := by decide +kernel
theorem dJ0_charAt_5068e_4 : decode cJ0_charAt_5068e 4 = .ok (.ifCond .eq 12, 3) := by decide +kernel
theorem dJ0_charAt_5068e_7 : decode cJ0_charAt_5068e 7 = .ok (.aload_n 0, 1) := by decide +kernel
theorem dJ0_charAt_5068e_8 : decode cJ0_charAt_5068e 8 = .ok (.getfield 9, 3) := by decide +kernel
theorem dJ0_charAt_5068e_11 : decode cJ0_charAt_5068e 11 = .ok (.iload_n 1, 1) := by decide +kernel
theorem dJ0_charAt_5068e_12 : decode cJ0_charAt_5068e 12 = .ok (.invokestatic 495, 3) := by decide +kernel
theorem dJ0_charAt_5068e_15 : decode cJ0_charAt_5068e 15 = .ok (.ireturn, 1) := by decide +kernel
theorem dJ0_charAt_5068e_16 : decode cJ0_charAt_5068e 16 = .ok (.aload_n 0, 1) := by decide +kernel
theorem dJ0_charAt_5068e_17 : decode cJ0_charAt_5068e 17 = .ok (.getfield 9, 3) := by decide +kernel
theorem dJ0_charAt_5068e_20 : decode cJ0_charAt_5068e 20 = .ok (.iload_n 1, 1) := by decide +kernel
theorem dJ0_charAt_5068e_21 : decode cJ0_charAt_5068e 21 = .ok (.invokestatic 498, 3) := by decide +kernel
theorem dJ0_charAt_5068e_24 : decode cJ0_charAt_5068e 24 = .ok (.ireturn, 1) := by decide +kernel
theorem dJ0_indexOf_0f7a4_0 : decode cJ0_indexOf_0f7a4 0 = .ok (.aload_n 0, 1) := by decide +kernel
theorem dJ0_indexOf_0f7a4_1 : decode cJ0_indexOf_0f7a4 1 = .ok (.iload_n 1, 1) := by decide +kernel
theorem dJ0_indexOf_0f7a4_2 : decode cJ0_indexOf_0f7a4 2 = .ok (.iconst 0, 1) := by decide +kernel
theorem dJ0_indexOf_0f7a4_3 : decode cJ0_indexOf_0f7a4 3 = .ok (.invokevirtual 633, 3) := by decide +kernel
theorem dJ0_indexOf_0f7a4_6 : decode cJ0_indexOf_0f7a4 6 = .ok (.ireturn, 1) := by decide +kernel
theorem dJ0_indexOf_7cf53_0 : decode cJ0_indexOf_7cf53 0 = .ok (.aload_n 0, 1) := by decide +kernel
theorem dJ0_indexOf_7cf53_1 : decode cJ0_indexOf_7cf53 1 = .ok (.invokevirtual 492, 3) := by decide +kernel
theorem dJ0_indexOf_7cf53_4 : decode cJ0_indexOf_7cf53 4 = .ok (.ifCond .eq 19, 3) := by decide +kernel
theorem dJ0_indexOf_7cf53_7 : decode cJ0_indexOf_7cf53 7 = .ok (.aload_n 0, 1) := by decide +kernel
theorem dJ0_indexOf_7cf53_8 : decode cJ0_indexOf_7cf53 8 = .ok (.getfield 9, 3) := by decide +kernel
theorem dJ0_indexOf_7cf53_11 : decode cJ0_indexOf_7cf53 11 = .ok (.iload_n 1, 1) := by decide +kernel
theorem dJ0_indexOf_7cf53_12 : decode cJ0_indexOf_7cf53 12 = .ok (.iload_n 2, 1) := by decide +kernel
theorem dJ0_indexOf_7cf53_13 : decode cJ0_indexOf_7cf53 13 = .ok (.aload_n 0, 1) := by decide +kernel
theorem dJ0_indexOf_7cf53_14 : decode cJ0_indexOf_7cf53 14 = .ok (.invokevirtual 505, 3) := by decide +kernel
theorem dJ0_indexOf_7cf53_17 : decode cJ0_indexOf_7cf53 17 = .ok (.invokestatic 637, 3) := by decide +kernel
theorem dJ0_indexOf_7cf53_20 : decode cJ0_indexOf_7cf53 20 = .ok (.goto 16, 3) := by decide +kernel
theorem dJ0_indexOf_7cf53_23 : decode cJ0_indexOf_7cf53 23 = .ok (.aload_n 0, 1) := by decide +kernel
theorem dJ0_indexOf_7cf53_24 : decode cJ0_indexOf_7cf53 24 = .ok (.getfield 9, 3) := by decide +kernel
theorem dJ0_indexOf_7cf53_27 : decode cJ0_indexOf_7cf53 27 = .ok (.iload_n 1, 1) := by decide +kernel
theorem dJ0_indexOf_7cf53_28 : decode cJ0_indexOf_7cf53 28 = .ok (.iload_n 2, 1) := by decide +kernel
theorem dJ0_indexOf_7cf53_29 : decode cJ0_indexOf_7cf53 29 = .ok (.aload_n 0, 1) := by decide +kernel
theorem dJ0_indexOf_7cf53_30 : decode cJ0_indexOf_7cf53 30 = .ok (.invokevirtual 505, 3) := by decide +kernel
theorem dJ0_indexOf_7cf53_33 : decode cJ0_indexOf_7cf53 33 = .ok (.invokestatic 640, 3) := by decide +kernel
theorem dJ0_indexOf_7cf53_36 : decode cJ0_indexOf_7cf53 36 = .ok (.ireturn, 1) := by decide +kernel
theorem dJ0_coder_7d493_0 : decode cJ0_coder_7d493 0 = .ok (.getstatic 38, 3) := by decide +kernel
theorem dJ0_coder_7d493_3 : decode cJ0_coder_7d493 3 = .ok (.ifCond .eq 10, 3) := by decide +kernel
theorem dJ0_coder_7d493_6 : decode cJ0_coder_7d493 6 = .ok (.aload_n 0, 1) := by decide +kernel
theorem dJ0_coder_7d493_7 : decode cJ0_coder_7d493 7 = .ok (.getfield 15, 3) := by decide +kernel
theorem dJ0_coder_7d493_10 : decode cJ0_coder_7d493 10 = .ok (.goto 4, 3) := by decide +kernel
theorem dJ0_coder_7d493_13 : decode cJ0_coder_7d493 13 = .ok (.iconst 1, 1) := by decide +kernel
theorem dJ0_coder_7d493_14 : decode cJ0_coder_7d493 14 = .ok (.ireturn, 1) := by decide +kernel
theorem dJ0_isLatin1_aae02_0 : decode cJ0_isLatin1_aae02 0 = .ok (.getstatic 38, 3) := by decide +kernel
theorem dJ0_isLatin1_aae02_3 : decode cJ0_isLatin1_aae02 3 = .ok (.ifCond .eq 14, 3) := by decide +kernel
theorem dJ0_isLatin1_aae02_6 : decode cJ0_isLatin1_aae02 6 = .ok (.aload_n 0, 1) := by decide +kernel
theorem dJ0_isLatin1_aae02_7 : decode cJ0_isLatin1_aae02 7 = .ok (.getfield 15, 3) := by decide +kernel
theorem dJ0_isLatin1_aae02_10 : decode cJ0_isLatin1_aae02 10 = .ok (.ifCond .ne 7, 3) := by decide +kernel
theorem dJ0_isLatin1_aae02_13 : decode cJ0_isLatin1_aae02 13 = .ok (.iconst 1, 1) := by decide +kernel
theorem dJ0_isLatin1_aae02_14 : decode cJ0_isLatin1_aae02 14 = .ok (.goto 4, 3) := by decide +kernel
theorem dJ0_isLatin1_aae02_17 : decode cJ0_isLatin1_aae02 17 = .ok (.iconst 0, 1) := by decide +kernel
theorem dJ0_isLatin1_aae02_18 : decode cJ0_isLatin1_aae02 18 = .ok (.ireturn, 1) := by decide +kernel
theorem dJ0_checkIndex_df160_0 : decode cJ0_checkIndex_df160 0 = .ok (.iload_n 0, 1) := by decide +kernel
theorem dJ0_checkIndex_df160_1 : decode cJ0_checkIndex_df160 1 = .ok (.iload_n 1, 1) := by decide +kernel
theorem dJ0_checkIndex_df160_2 : decode cJ0_checkIndex_df160 2 = .ok (.getstatic 1053, 3) := by decide +kernel
theorem dJ0_checkIndex_df160_5 : decode cJ0_checkIndex_df160 5 = .ok (.invokestatic 1059, 3) := by decide +kernel
theorem dJ0_checkIndex_df160_8 : decode cJ0_checkIndex_df160 8 = .ok (.pop, 1) := by decide +kernel
theorem dJ0_checkIndex_df160_9 : decode cJ0_checkIndex_df160 9 = .ok (.return_, 1) := by decide +kernel
theorem dJ0_checkBoundsBeginEnd_23922_0 : decode cJ0_checkBoundsBeginEnd_23922 0 = .ok (.iload_n 0, 1) := by decide +kernel
theorem dJ0_checkBoundsBeginEnd_23922_1 : decode cJ0_checkBoundsBeginEnd_23922 1 = .ok (.iload_n 1, 1) := by decide +kernel
theorem dJ0_checkBoundsBeginEnd_23922_2 : decode cJ0_checkBoundsBeginEnd_23922 2 = .ok (.iload_n 2, 1) := by decide +kernel
theorem dJ0_checkBoundsBeginEnd_23922_3 : decode cJ0_checkBoundsBeginEnd_23922 3 = .ok (.getstatic 1053, 3) := by decide +kernel
theorem dJ0_checkBoundsBeginEnd_23922_6 : decode cJ0_checkBoundsBeginEnd_23922 6 = .ok (.invokestatic 1062, 3) := by decide +kernel
theorem dJ0_checkBoundsBeginEnd_23922_9 : decode cJ0_checkBoundsBeginEnd_23922 9 = .ok (.pop, 1) := by decide +kernel
theorem dJ0_checkBoundsBeginEnd_23922_10 : decode cJ0_checkBoundsBeginEnd_23922 10 = .ok (.return_, 1) := by decide +kernel
theorem dJ1_charAt_3b067_0 : decode cJ1_charAt_3b067 0 = .ok (.iload_n 1, 1) := by decide +kernel
theorem dJ1_charAt_3b067_1 : decode cJ1_charAt_3b067 1 = .ok (.aload_n 0, 1) := by decide +kernel
theorem dJ1_charAt_3b067_2 : decode cJ1_charAt_3b067 2 = .ok (.arraylength, 1) := by decide +kernel
theorem dJ1_charAt_3b067_3 : decode cJ1_charAt_3b067 3 = .ok (.invokestatic 9, 3) := by decide +kernel
theorem dJ1_charAt_3b067_6 : decode cJ1_charAt_3b067 6 = .ok (.aload_n 0, 1) := by decide +kernel
theorem dJ1_charAt_3b067_7 : decode cJ1_charAt_3b067 7 = .ok (.iload_n 1, 1) := by decide +kernel
theorem dJ1_charAt_3b067_8 : decode cJ1_charAt_3b067 8 = .ok (.baload, 1) := by decide +kernel
theorem dJ1_charAt_3b067_9 : decode cJ1_charAt_3b067 9 = .ok (.sipush 255, 3) := by decide +kernel
theorem dJ1_charAt_3b067_12 : decode cJ1_charAt_3b067 12 = .ok (.iand, 1) := by decide +kernel
theorem dJ1_charAt_3b067_13 : decode cJ1_charAt_3b067 13 = .ok (.i2c, 1) := by decide +kernel
theorem dJ1_charAt_3b067_14 : decode cJ1_charAt_3b067 14 = .ok (.ireturn, 1) := by decide +kernel
theorem dJ1_canEncode_9a6ad_0 : decode cJ1_canEncode_9a6ad 0 = .ok (.iload_n 0, 1) := by decide +kernel
theorem dJ1_canEncode_9a6ad_1 : decode cJ1_canEncode_9a6ad 1 = .ok (.ifCond .lt 14, 3) := by decide +kernel
theorem dJ1_canEncode_9a6ad_4 : decode cJ1_canEncode_9a6ad 4 = .ok (.iload_n 0, 1) := by decide +kernel
theorem dJ1_canEncode_9a6ad_5 : decode cJ1_canEncode_9a6ad 5 = .ok (.sipush 255, 3) := by decide +kernel
theorem dJ1_canEncode_9a6ad_8 : decode cJ1_canEncode_9a6ad 8 = .ok (.if_icmp .gt 7, 3) := by decide +kernel
theorem dJ1_canEncode_9a6ad_11 : decode cJ1_canEncode_9a6ad 11 = .ok (.iconst 1, 1) := by decide +kernel
theorem dJ1_canEncode_9a6ad_12 : decode cJ1_canEncode_9a6ad 12 = .ok (.goto 4, 3) := by decide +kernel
theorem dJ1_canEncode_9a6ad_15 : decode cJ1_canEncode_9a6ad 15 = .ok (.iconst 0, 1) := by decide +kernel
theorem dJ1_canEncode_9a6ad_16 : decode cJ1_canEncode_9a6ad 16 = .ok (.ireturn, 1) := by decide +kernel
theorem dJ1_indexOf_4cfef_0 : decode cJ1_indexOf_4cfef 0 = .ok (.iload_n 1, 1) := by decide +kernel
theorem dJ1_indexOf_4cfef_1 : decode cJ1_indexOf_4cfef 1 = .ok (.invokestatic 88, 3) := by decide +kernel
theorem dJ1_indexOf_4cfef_4 : decode cJ1_indexOf_4cfef 4 = .ok (.ifCond .ne 5, 3) := by decide +kernel
theorem dJ1_indexOf_4cfef_7 : decode cJ1_indexOf_4cfef 7 = .ok (.iconst (-1), 1) := by decide +kernel
theorem dJ1_indexOf_4cfef_8 : decode cJ1_indexOf_4cfef 8 = .ok (.ireturn, 1) := by decide +kernel
theorem dJ1_indexOf_4cfef_9 : decode cJ1_indexOf_4cfef 9 = .ok (.iload_n 2, 1) := by decide +kernel
theorem dJ1_indexOf_4cfef_10 : decode cJ1_indexOf_4cfef 10 = .ok (.iconst 0, 1) := by decide +kernel
theorem dJ1_indexOf_4cfef_11 : decode cJ1_indexOf_4cfef 11 = .ok (.invokestatic 92, 3) := by decide +kernel
theorem dJ1_indexOf_4cfef_14 : decode cJ1_indexOf_4cfef 14 = .ok (.istore_n 2, 1) := by decide +kernel
theorem dJ1_indexOf_4cfef_15 : decode cJ1_indexOf_4cfef 15 = .ok (.iload_n 3, 1) := by decide +kernel
theorem dJ1_indexOf_4cfef_16 : decode cJ1_indexOf_4cfef 16 = .ok (.aload_n 0, 1) := by decide +kernel
theorem dJ1_indexOf_4cfef_17 : decode cJ1_indexOf_4cfef 17 = .ok (.arraylength, 1) := by decide +kernel
theorem dJ1_indexOf_4cfef_18 : decode cJ1_indexOf_4cfef 18 = .ok (.invokestatic 38, 3) := by decide +kernel
theorem dJ1_indexOf_4cfef_21 : decode cJ1_indexOf_4cfef 21 = .ok (.istore_n 3, 1) := by decide +kernel
theorem dJ1_indexOf_4cfef_22 : decode cJ1_indexOf_4cfef 22 = .ok (.iload_n 2, 1) := by decide +kernel
theorem dJ1_indexOf_4cfef_23 : decode cJ1_indexOf_4cfef 23 = .ok (.iload_n 3, 1) := by decide +kernel
theorem dJ1_indexOf_4cfef_24 : decode cJ1_indexOf_4cfef 24 = .ok (.if_icmp .lt 5, 3) := by decide +kernel
theorem dJ1_indexOf_4cfef_27 : decode cJ1_indexOf_4cfef 27 = .ok (.iconst (-1), 1) := by decide +kernel
theorem dJ1_indexOf_4cfef_28 : decode cJ1_indexOf_4cfef 28 = .ok (.ireturn, 1) := by decide +kernel
theorem dJ1_indexOf_4cfef_29 : decode cJ1_indexOf_4cfef 29 = .ok (.aload_n 0, 1) := by decide +kernel
theorem dJ1_indexOf_4cfef_30 : decode cJ1_indexOf_4cfef 30 = .ok (.iload_n 1, 1) := by decide +kernel
theorem dJ1_indexOf_4cfef_31 : decode cJ1_indexOf_4cfef 31 = .ok (.iload_n 2, 1) := by decide +kernel
theorem dJ1_indexOf_4cfef_32 : decode cJ1_indexOf_4cfef 32 = .ok (.iload_n 3, 1) := by decide +kernel
theorem dJ1_indexOf_4cfef_33 : decode cJ1_indexOf_4cfef 33 = .ok (.invokestatic 95, 3) := by decide +kernel
theorem dJ1_indexOf_4cfef_36 : decode cJ1_indexOf_4cfef 36 = .ok (.ireturn, 1) := by decide +kernel
theorem dJ1_indexOfChar_4cfef_0 : decode cJ1_indexOfChar_4cfef 0 = .ok (.iload_n 1, 1) := by decide +kernel
theorem dJ1_indexOfChar_4cfef_1 : decode cJ1_indexOfChar_4cfef 1 = .ok (.i2b, 1) := by decide +kernel
theorem dJ1_indexOfChar_4cfef_2 : decode cJ1_indexOfChar_4cfef 2 = .ok (.istore 4, 2) := by decide +kernel
theorem dJ1_indexOfChar_4cfef_4 : decode cJ1_indexOfChar_4cfef 4 = .ok (.iload_n 2, 1) := by decide +kernel
theorem dJ1_indexOfChar_4cfef_5 : decode cJ1_indexOfChar_4cfef 5 = .ok (.istore 5, 2) := by decide +kernel
theorem dJ1_indexOfChar_4cfef_7 : decode cJ1_indexOfChar_4cfef 7 = .ok (.iload 5, 2) := by decide +kernel
theorem dJ1_indexOfChar_4cfef_9 : decode cJ1_indexOfChar_4cfef 9 = .ok (.iload_n 3, 1) := by decide +kernel
theorem dJ1_indexOfChar_4cfef_10 : decode cJ1_indexOfChar_4cfef 10 = .ok (.if_icmp .ge 21, 3) := by decide +kernel
theorem dJ1_indexOfChar_4cfef_13 : decode cJ1_indexOfChar_4cfef 13 = .ok (.aload_n 0, 1) := by decide +kernel
theorem dJ1_indexOfChar_4cfef_14 : decode cJ1_indexOfChar_4cfef 14 = .ok (.iload 5, 2) := by decide +kernel
theorem dJ1_indexOfChar_4cfef_16 : decode cJ1_indexOfChar_4cfef 16 = .ok (.baload, 1) := by decide +kernel
theorem dJ1_indexOfChar_4cfef_17 : decode cJ1_indexOfChar_4cfef 17 = .ok (.iload 4, 2) := by decide +kernel
theorem dJ1_indexOfChar_4cfef_19 : decode cJ1_indexOfChar_4cfef 19 = .ok (.if_icmp .ne 6, 3) := by decide +kernel
theorem dJ1_indexOfChar_4cfef_22 : decode cJ1_indexOfChar_4cfef 22 = .ok (.iload 5, 2) := by decide +kernel
theorem dJ1_indexOfChar_4cfef_24 : decode cJ1_indexOfChar_4cfef 24 = .ok (.ireturn, 1) := by decide +kernel
theorem dJ1_indexOfChar_4cfef_25 : decode cJ1_indexOfChar_4cfef 25 = .ok (.iinc 5 1, 3) := by decide +kernel
theorem dJ1_indexOfChar_4cfef_28 : decode cJ1_indexOfChar_4cfef 28 = .ok (.goto (-21), 3) := by decide +kernel
theorem dJ1_indexOfChar_4cfef_31 : decode cJ1_indexOfChar_4cfef 31 = .ok (.iconst (-1), 1) := by decide +kernel
theorem dJ1_indexOfChar_4cfef_32 : decode cJ1_indexOfChar_4cfef 32 = .ok (.ireturn, 1) := by decide +kernel
theorem dJ2_getChar_3b067_0 : decode cJ2_getChar_3b067 0 = .ok (.getstatic 44, 3) := by decide +kernel
theorem dJ2_getChar_3b067_3 : decode cJ2_getChar_3b067 3 = .ok (.ifCond .ne 25, 3) := by decide +kernel
theorem dJ2_getChar_3b067_6 : decode cJ2_getChar_3b067 6 = .ok (.iload_n 1, 1) := by decide +kernel
theorem dJ2_getChar_3b067_7 : decode cJ2_getChar_3b067 7 = .ok (.ifCond .lt 11, 3) := by decide +kernel
theorem dJ2_getChar_3b067_10 : decode cJ2_getChar_3b067 10 = .ok (.iload_n 1, 1) := by decide +kernel
theorem dJ2_getChar_3b067_11 : decode cJ2_getChar_3b067 11 = .ok (.aload_n 0, 1) := by decide +kernel
theorem dJ2_getChar_3b067_12 : decode cJ2_getChar_3b067 12 = .ok (.invokestatic 48, 3) := by decide +kernel
theorem dJ2_getChar_3b067_15 : decode cJ2_getChar_3b067 15 = .ok (.if_icmp .lt 13, 3) := by decide +kernel
theorem dJ2_getChar_3b067_18 : decode cJ2_getChar_3b067 18 = .ok (.new 52, 3) := by decide +kernel
theorem dJ2_getChar_3b067_21 : decode cJ2_getChar_3b067 21 = .ok (.dup, 1) := by decide +kernel
theorem dJ2_getChar_3b067_22 : decode cJ2_getChar_3b067 22 = .ok (.ldc 54, 2) := by decide +kernel
theorem dJ2_getChar_3b067_24 : decode cJ2_getChar_3b067 24 = .ok (.invokespecial 56, 3) := by decide +kernel
theorem dJ2_getChar_3b067_27 : decode cJ2_getChar_3b067 27 = .ok (.athrow, 1) := by decide +kernel
theorem dJ2_getChar_3b067_28 : decode cJ2_getChar_3b067 28 = .ok (.iload_n 1, 1) := by decide +kernel
theorem dJ2_getChar_3b067_29 : decode cJ2_getChar_3b067 29 = .ok (.iconst 1, 1) := by decide +kernel
theorem dJ2_getChar_3b067_30 : decode cJ2_getChar_3b067 30 = .ok (.ishl, 1) := by decide +kernel
theorem dJ2_getChar_3b067_31 : decode cJ2_getChar_3b067 31 = .ok (.istore_n 1, 1) := by decide +kernel
theorem dJ2_getChar_3b067_32 : decode cJ2_getChar_3b067 32 = .ok (.aload_n 0, 1) := by decide +kernel
theorem dJ2_getChar_3b067_33 : decode cJ2_getChar_3b067 33 = .ok (.iload_n 1, 1) := by decide +kernel
theorem dJ2_getChar_3b067_34 : decode cJ2_getChar_3b067 34 = .ok (.iinc 1 1, 3) := by decide +kernel
theorem dJ2_getChar_3b067_37 : decode cJ2_getChar_3b067 37 = .ok (.baload, 1) := by decide +kernel
theorem dJ2_getChar_3b067_38 : decode cJ2_getChar_3b067 38 = .ok (.sipush 255, 3) := by decide +kernel
theorem dJ2_getChar_3b067_41 : decode cJ2_getChar_3b067 41 = .ok (.iand, 1) := by decide +kernel
theorem dJ2_getChar_3b067_42 : decode cJ2_getChar_3b067 42 = .ok (.getstatic 59, 3) := by decide +kernel
theorem dJ2_getChar_3b067_45 : decode cJ2_getChar_3b067 45 = .ok (.ishl, 1) := by decide +kernel
theorem dJ2_getChar_3b067_46 : decode cJ2_getChar_3b067 46 = .ok (.aload_n 0, 1) := by decide +kernel
theorem dJ2_getChar_3b067_47 : decode cJ2_getChar_3b067 47 = .ok (.iload_n 1, 1) := by decide +kernel
theorem dJ2_getChar_3b067_48 : decode cJ2_getChar_3b067 48 = .ok (.baload, 1) := by decide +kernel
theorem dJ2_getChar_3b067_49 : decode cJ2_getChar_3b067 49 = .ok (.sipush 255, 3) := by decide +kernel
theorem dJ2_getChar_3b067_52 : decode cJ2_getChar_3b067 52 = .ok (.iand, 1) := by decide +kernel
theorem dJ2_getChar_3b067_53 : decode cJ2_getChar_3b067 53 = .ok (.getstatic 63, 3) := by decide +kernel
theorem dJ2_getChar_3b067_56 : decode cJ2_getChar_3b067 56 = .ok (.ishl, 1) := by decide +kernel
theorem dJ2_getChar_3b067_57 : decode cJ2_getChar_3b067 57 = .ok (.ior, 1) := by decide +kernel
theorem dJ2_getChar_3b067_58 : decode cJ2_getChar_3b067 58 = .ok (.i2c, 1) := by decide +kernel
theorem dJ2_getChar_3b067_59 : decode cJ2_getChar_3b067 59 = .ok (.ireturn, 1) := by decide +kernel
theorem dJ2_length_9d52b_0 : decode cJ2_length_9d52b 0 = .ok (.aload_n 0, 1) := by decide +kernel
theorem dJ2_length_9d52b_1 : decode cJ2_length_9d52b 1 = .ok (.arraylength, 1) := by decide +kernel
theorem dJ2_length_9d52b_2 : decode cJ2_length_9d52b 2 = .ok (.iconst 1, 1) := by decide +kernel
theorem dJ2_length_9d52b_3 : decode cJ2_length_9d52b 3 = .ok (.ishr, 1) := by decide +kernel
theorem dJ2_length_9d52b_4 : decode cJ2_length_9d52b 4 = .ok (.ireturn, 1) := by decide +kernel
theorem dJ2_indexOf_4cfef_0 : decode cJ2_indexOf_4cfef 0 = .ok (.iload_n 2, 1) := by decide +kernel
theorem dJ2_indexOf_4cfef_1 : decode cJ2_indexOf_4cfef 1 = .ok (.iconst 0, 1) := by decide +kernel
theorem dJ2_indexOf_4cfef_2 : decode cJ2_indexOf_4cfef 2 = .ok (.invokestatic 224, 3) := by decide +kernel
theorem dJ2_indexOf_4cfef_5 : decode cJ2_indexOf_4cfef 5 = .ok (.istore_n 2, 1) := by decide +kernel
theorem dJ2_indexOf_4cfef_6 : decode cJ2_indexOf_4cfef 6 = .ok (.iload_n 3, 1) := by decide +kernel
theorem dJ2_indexOf_4cfef_7 : decode cJ2_indexOf_4cfef 7 = .ok (.aload_n 0, 1) := by decide +kernel
theorem dJ2_indexOf_4cfef_8 : decode cJ2_indexOf_4cfef 8 = .ok (.arraylength, 1) := by decide +kernel
theorem dJ2_indexOf_4cfef_9 : decode cJ2_indexOf_4cfef 9 = .ok (.iconst 1, 1) := by decide +kernel
theorem dJ2_indexOf_4cfef_10 : decode cJ2_indexOf_4cfef 10 = .ok (.ishr, 1) := by decide +kernel
theorem dJ2_indexOf_4cfef_11 : decode cJ2_indexOf_4cfef 11 = .ok (.invokestatic 183, 3) := by decide +kernel
theorem dJ2_indexOf_4cfef_14 : decode cJ2_indexOf_4cfef 14 = .ok (.istore_n 3, 1) := by decide +kernel
theorem dJ2_indexOf_4cfef_15 : decode cJ2_indexOf_4cfef 15 = .ok (.iload_n 2, 1) := by decide +kernel
theorem dJ2_indexOf_4cfef_16 : decode cJ2_indexOf_4cfef 16 = .ok (.iload_n 3, 1) := by decide +kernel
theorem dJ2_indexOf_4cfef_17 : decode cJ2_indexOf_4cfef 17 = .ok (.if_icmp .lt 5, 3) := by decide +kernel
theorem dJ2_indexOf_4cfef_20 : decode cJ2_indexOf_4cfef 20 = .ok (.iconst (-1), 1) := by decide +kernel
theorem dJ2_indexOf_4cfef_21 : decode cJ2_indexOf_4cfef 21 = .ok (.ireturn, 1) := by decide +kernel
theorem dJ2_indexOf_4cfef_22 : decode cJ2_indexOf_4cfef 22 = .ok (.iload_n 1, 1) := by decide +kernel
theorem dJ2_indexOf_4cfef_23 : decode cJ2_indexOf_4cfef 23 = .ok (.ldc 227, 2) := by decide +kernel
theorem dJ2_indexOf_4cfef_25 : decode cJ2_indexOf_4cfef 25 = .ok (.if_icmp .ge 11, 3) := by decide +kernel
theorem dJ2_indexOf_4cfef_28 : decode cJ2_indexOf_4cfef 28 = .ok (.aload_n 0, 1) := by decide +kernel
theorem dJ2_indexOf_4cfef_29 : decode cJ2_indexOf_4cfef 29 = .ok (.iload_n 1, 1) := by decide +kernel
theorem dJ2_indexOf_4cfef_30 : decode cJ2_indexOf_4cfef 30 = .ok (.iload_n 2, 1) := by decide +kernel
theorem dJ2_indexOf_4cfef_31 : decode cJ2_indexOf_4cfef 31 = .ok (.iload_n 3, 1) := by decide +kernel
theorem dJ2_indexOf_4cfef_32 : decode cJ2_indexOf_4cfef 32 = .ok (.invokestatic 228, 3) := by decide +kernel
theorem dJ2_indexOf_4cfef_35 : decode cJ2_indexOf_4cfef 35 = .ok (.ireturn, 1) := by decide +kernel
theorem dJ2_indexOf_4cfef_36 : decode cJ2_indexOf_4cfef 36 = .ok (.aload_n 0, 1) := by decide +kernel
theorem dJ2_indexOf_4cfef_37 : decode cJ2_indexOf_4cfef 37 = .ok (.iload_n 1, 1) := by decide +kernel
theorem dJ2_indexOf_4cfef_38 : decode cJ2_indexOf_4cfef 38 = .ok (.iload_n 2, 1) := by decide +kernel
theorem dJ2_indexOf_4cfef_39 : decode cJ2_indexOf_4cfef 39 = .ok (.iload_n 3, 1) := by decide +kernel
theorem dJ2_indexOf_4cfef_40 : decode cJ2_indexOf_4cfef 40 = .ok (.invokestatic 232, 3) := by decide +kernel
theorem dJ2_indexOf_4cfef_43 : decode cJ2_indexOf_4cfef 43 = .ok (.ireturn, 1) := by decide +kernel
theorem dJ2_indexOfChar_4cfef_0 : decode cJ2_indexOfChar_4cfef 0 = .ok (.iload_n 2, 1) := by decide +kernel
theorem dJ2_indexOfChar_4cfef_1 : decode cJ2_indexOfChar_4cfef 1 = .ok (.iload_n 3, 1) := by decide +kernel
theorem dJ2_indexOfChar_4cfef_2 : decode cJ2_indexOfChar_4cfef 2 = .ok (.aload_n 0, 1) := by decide +kernel
theorem dJ2_indexOfChar_4cfef_3 : decode cJ2_indexOfChar_4cfef 3 = .ok (.invokestatic 96, 3) := by decide +kernel
theorem dJ2_indexOfChar_4cfef_6 : decode cJ2_indexOfChar_4cfef 6 = .ok (.aload_n 0, 1) := by decide +kernel
theorem dJ2_indexOfChar_4cfef_7 : decode cJ2_indexOfChar_4cfef 7 = .ok (.iload_n 1, 1) := by decide +kernel
theorem dJ2_indexOfChar_4cfef_8 : decode cJ2_indexOfChar_4cfef 8 = .ok (.iload_n 2, 1) := by decide +kernel
theorem dJ2_indexOfChar_4cfef_9 : decode cJ2_indexOfChar_4cfef 9 = .ok (.iload_n 3, 1) := by decide +kernel
theorem dJ2_indexOfChar_4cfef_10 : decode cJ2_indexOfChar_4cfef 10 = .ok (.invokestatic 244, 3) := by decide +kernel
theorem dJ2_indexOfChar_4cfef_13 : decode cJ2_indexOfChar_4cfef 13 = .ok (.ireturn, 1) := by decide +kernel
theorem dJ2_indexOfCharUnsafe_4cfef_0 : decode cJ2_indexOfCharUnsafe_4cfef 0 = .ok (.iload_n 2, 1) := by decide +kernel
theorem dJ2_indexOfCharUnsafe_4cfef_1 : decode cJ2_indexOfCharUnsafe_4cfef 1 = .ok (.istore 4, 2) := by decide +kernel
theorem dJ2_indexOfCharUnsafe_4cfef_3 : decode cJ2_indexOfCharUnsafe_4cfef 3 = .ok (.iload 4, 2) := by decide +kernel
theorem dJ2_indexOfCharUnsafe_4cfef_5 : decode cJ2_indexOfCharUnsafe_4cfef 5 = .ok (.iload_n 3, 1) := by decide +kernel
theorem dJ2_indexOfCharUnsafe_4cfef_6 : decode cJ2_indexOfCharUnsafe_4cfef 6 = .ok (.if_icmp .ge 22, 3) := by decide +kernel
theorem dJ2_indexOfCharUnsafe_4cfef_9 : decode cJ2_indexOfCharUnsafe_4cfef 9 = .ok (.aload_n 0, 1) := by decide +kernel
theorem dJ2_indexOfCharUnsafe_4cfef_10 : decode cJ2_indexOfCharUnsafe_4cfef 10 = .ok (.iload 4, 2) := by decide +kernel
theorem dJ2_indexOfCharUnsafe_4cfef_12 : decode cJ2_indexOfCharUnsafe_4cfef 12 = .ok (.invokestatic 71, 3) := by decide +kernel
theorem dJ2_indexOfCharUnsafe_4cfef_15 : decode cJ2_indexOfCharUnsafe_4cfef 15 = .ok (.iload_n 1, 1) := by decide +kernel
theorem dJ2_indexOfCharUnsafe_4cfef_16 : decode cJ2_indexOfCharUnsafe_4cfef 16 = .ok (.if_icmp .ne 6, 3) := by decide +kernel
theorem dJ2_indexOfCharUnsafe_4cfef_19 : decode cJ2_indexOfCharUnsafe_4cfef 19 = .ok (.iload 4, 2) := by decide +kernel
theorem dJ2_indexOfCharUnsafe_4cfef_21 : decode cJ2_indexOfCharUnsafe_4cfef 21 = .ok (.ireturn, 1) := by decide +kernel
theorem dJ2_indexOfCharUnsafe_4cfef_22 : decode cJ2_indexOfCharUnsafe_4cfef 22 = .ok (.iinc 4 1, 3) := by decide +kernel
theorem dJ2_indexOfCharUnsafe_4cfef_25 : decode cJ2_indexOfCharUnsafe_4cfef 25 = .ok (.goto (-22), 3) := by decide +kernel
theorem dJ2_indexOfCharUnsafe_4cfef_28 : decode cJ2_indexOfCharUnsafe_4cfef 28 = .ok (.iconst (-1), 1) := by decide +kernel
theorem dJ2_indexOfCharUnsafe_4cfef_29 : decode cJ2_indexOfCharUnsafe_4cfef 29 = .ok (.ireturn, 1) := by decide +kernel
theorem dJ2_indexOfSupplementary_4cfef_0 : decode cJ2_indexOfSupplementary_4cfef 0 = .ok (.iload_n 1, 1) := by decide +kernel
theorem dJ2_indexOfSupplementary_4cfef_1 : decode cJ2_indexOfSupplementary_4cfef 1 = .ok (.invokestatic 164, 3) := by decide +kernel
theorem dJ2_indexOfSupplementary_4cfef_4 : decode cJ2_indexOfSupplementary_4cfef 4 = .ok (.ifCond .eq 65, 3) := by decide +kernel
theorem dJ2_indexOfSupplementary_4cfef_7 : decode cJ2_indexOfSupplementary_4cfef 7 = .ok (.iload_n 1, 1) := by decide +kernel
theorem dJ2_indexOfSupplementary_4cfef_8 : decode cJ2_indexOfSupplementary_4cfef 8 = .ok (.invokestatic 157, 3) := by decide +kernel
theorem dJ2_indexOfSupplementary_4cfef_11 : decode cJ2_indexOfSupplementary_4cfef 11 = .ok (.istore 4, 2) := by decide +kernel
theorem dJ2_indexOfSupplementary_4cfef_13 : decode cJ2_indexOfSupplementary_4cfef 13 = .ok (.iload_n 1, 1) := by decide +kernel
theorem dJ2_indexOfSupplementary_4cfef_14 : decode cJ2_indexOfSupplementary_4cfef 14 = .ok (.invokestatic 161, 3) := by decide +kernel
theorem dJ2_indexOfSupplementary_4cfef_17 : decode cJ2_indexOfSupplementary_4cfef 17 = .ok (.istore 5, 2) := by decide +kernel
theorem dJ2_indexOfSupplementary_4cfef_19 : decode cJ2_indexOfSupplementary_4cfef 19 = .ok (.iload_n 2, 1) := by decide +kernel
theorem dJ2_indexOfSupplementary_4cfef_20 : decode cJ2_indexOfSupplementary_4cfef 20 = .ok (.iload_n 3, 1) := by decide +kernel
theorem dJ2_indexOfSupplementary_4cfef_21 : decode cJ2_indexOfSupplementary_4cfef 21 = .ok (.aload_n 0, 1) := by decide +kernel
theorem dJ2_indexOfSupplementary_4cfef_22 : decode cJ2_indexOfSupplementary_4cfef 22 = .ok (.invokestatic 96, 3) := by decide +kernel
theorem dJ2_indexOfSupplementary_4cfef_25 : decode cJ2_indexOfSupplementary_4cfef 25 = .ok (.iload_n 2, 1) := by decide +kernel
theorem dJ2_indexOfSupplementary_4cfef_26 : decode cJ2_indexOfSupplementary_4cfef 26 = .ok (.istore 6, 2) := by decide +kernel
theorem dJ2_indexOfSupplementary_4cfef_28 : decode cJ2_indexOfSupplementary_4cfef 28 = .ok (.iload 6, 2) := by decide +kernel
theorem dJ2_indexOfSupplementary_4cfef_30 : decode cJ2_indexOfSupplementary_4cfef 30 = .ok (.iload_n 3, 1) := by decide +kernel
theorem dJ2_indexOfSupplementary_4cfef_31 : decode cJ2_indexOfSupplementary_4cfef 31 = .ok (.iconst 1, 1) := by decide +kernel
theorem dJ2_indexOfSupplementary_4cfef_32 : decode cJ2_indexOfSupplementary_4cfef 32 = .ok (.isub, 1) := by decide +kernel
theorem dJ2_indexOfSupplementary_4cfef_33 : decode cJ2_indexOfSupplementary_4cfef 33 = .ok (.if_icmp .ge 36, 3) := by decide +kernel
theorem dJ2_indexOfSupplementary_4cfef_36 : decode cJ2_indexOfSupplementary_4cfef 36 = .ok (.aload_n 0, 1) := by decide +kernel
theorem dJ2_indexOfSupplementary_4cfef_37 : decode cJ2_indexOfSupplementary_4cfef 37 = .ok (.iload 6, 2) := by decide +kernel
theorem dJ2_indexOfSupplementary_4cfef_39 : decode cJ2_indexOfSupplementary_4cfef 39 = .ok (.invokestatic 71, 3) := by decide +kernel
theorem dJ2_indexOfSupplementary_4cfef_42 : decode cJ2_indexOfSupplementary_4cfef 42 = .ok (.iload 4, 2) := by decide +kernel
theorem dJ2_indexOfSupplementary_4cfef_44 : decode cJ2_indexOfSupplementary_4cfef 44 = .ok (.if_icmp .ne 19, 3) := by decide +kernel
theorem dJ2_indexOfSupplementary_4cfef_47 : decode cJ2_indexOfSupplementary_4cfef 47 = .ok (.aload_n 0, 1) := by decide +kernel
theorem dJ2_indexOfSupplementary_4cfef_48 : decode cJ2_indexOfSupplementary_4cfef 48 = .ok (.iload 6, 2) := by decide +kernel
theorem dJ2_indexOfSupplementary_4cfef_50 : decode cJ2_indexOfSupplementary_4cfef 50 = .ok (.iconst 1, 1) := by decide +kernel
theorem dJ2_indexOfSupplementary_4cfef_51 : decode cJ2_indexOfSupplementary_4cfef 51 = .ok (.iadd, 1) := by decide +kernel
theorem dJ2_indexOfSupplementary_4cfef_52 : decode cJ2_indexOfSupplementary_4cfef 52 = .ok (.invokestatic 71, 3) := by decide +kernel
theorem dJ2_indexOfSupplementary_4cfef_55 : decode cJ2_indexOfSupplementary_4cfef 55 = .ok (.iload 5, 2) := by decide +kernel
theorem dJ2_indexOfSupplementary_4cfef_57 : decode cJ2_indexOfSupplementary_4cfef 57 = .ok (.if_icmp .ne 6, 3) := by decide +kernel
theorem dJ2_indexOfSupplementary_4cfef_60 : decode cJ2_indexOfSupplementary_4cfef 60 = .ok (.iload 6, 2) := by decide +kernel
theorem dJ2_indexOfSupplementary_4cfef_62 : decode cJ2_indexOfSupplementary_4cfef 62 = .ok (.ireturn, 1) := by decide +kernel
theorem dJ2_indexOfSupplementary_4cfef_63 : decode cJ2_indexOfSupplementary_4cfef 63 = .ok (.iinc 6 1, 3) := by decide +kernel
theorem dJ2_indexOfSupplementary_4cfef_66 : decode cJ2_indexOfSupplementary_4cfef 66 = .ok (.goto (-38), 3) := by decide +kernel
theorem dJ2_indexOfSupplementary_4cfef_69 : decode cJ2_indexOfSupplementary_4cfef 69 = .ok (.iconst (-1), 1) := by decide +kernel
theorem dJ2_indexOfSupplementary_4cfef_70 : decode cJ2_indexOfSupplementary_4cfef 70 = .ok (.ireturn, 1) := by decide +kernel
theorem dJ2_charAt_3b067_0 : decode cJ2_charAt_3b067 0 = .ok (.iload_n 1, 1) := by decide +kernel
theorem dJ2_charAt_3b067_1 : decode cJ2_charAt_3b067 1 = .ok (.aload_n 0, 1) := by decide +kernel
theorem dJ2_charAt_3b067_2 : decode cJ2_charAt_3b067 2 = .ok (.invokestatic 67, 3) := by decide +kernel
theorem dJ2_charAt_3b067_5 : decode cJ2_charAt_3b067 5 = .ok (.aload_n 0, 1) := by decide +kernel
theorem dJ2_charAt_3b067_6 : decode cJ2_charAt_3b067 6 = .ok (.iload_n 1, 1) := by decide +kernel
theorem dJ2_charAt_3b067_7 : decode cJ2_charAt_3b067 7 = .ok (.invokestatic 71, 3) := by decide +kernel
theorem dJ2_charAt_3b067_10 : decode cJ2_charAt_3b067 10 = .ok (.ireturn, 1) := by decide +kernel
theorem dJ2_checkIndex_2214a_0 : decode cJ2_checkIndex_2214a 0 = .ok (.iload_n 0, 1) := by decide +kernel
theorem dJ2_checkIndex_2214a_1 : decode cJ2_checkIndex_2214a 1 = .ok (.aload_n 1, 1) := by decide +kernel
theorem dJ2_checkIndex_2214a_2 : decode cJ2_checkIndex_2214a 2 = .ok (.invokestatic 48, 3) := by decide +kernel
theorem dJ2_checkIndex_2214a_5 : decode cJ2_checkIndex_2214a 5 = .ok (.invokestatic 414, 3) := by decide +kernel
theorem dJ2_checkIndex_2214a_8 : decode cJ2_checkIndex_2214a 8 = .ok (.return_, 1) := by decide +kernel
theorem dJ2_checkBoundsBeginEnd_d044e_0 : decode cJ2_checkBoundsBeginEnd_d044e 0 = .ok (.iload_n 0, 1) := by decide +kernel
theorem dJ2_checkBoundsBeginEnd_d044e_1 : decode cJ2_checkBoundsBeginEnd_d044e 1 = .ok (.iload_n 1, 1) := by decide +kernel
theorem dJ2_checkBoundsBeginEnd_d044e_2 : decode cJ2_checkBoundsBeginEnd_d044e 2 = .ok (.aload_n 2, 1) := by decide +kernel
theorem dJ2_checkBoundsBeginEnd_d044e_3 : decode cJ2_checkBoundsBeginEnd_d044e 3 = .ok (.invokestatic 48, 3) := by decide +kernel
theorem dJ2_checkBoundsBeginEnd_d044e_6 : decode cJ2_checkBoundsBeginEnd_d044e 6 = .ok (.invokestatic 241, 3) := by decide +kernel
theorem dJ2_checkBoundsBeginEnd_d044e_9 : decode cJ2_checkBoundsBeginEnd_d044e 9 = .ok (.return_, 1) := by decide +kernel
theorem dJ7_fill_d0a16_0 : decode cJ7_fill_d0a16 0 = .ok (.iconst 0, 1) := by decide +kernel
theorem dJ7_fill_d0a16_1 : decode cJ7_fill_d0a16 1 = .ok (.istore_n 3, 1) := by decide +kernel
theorem dJ7_fill_d0a16_2 : decode cJ7_fill_d0a16 2 = .ok (.aload_n 0, 1) := by decide +kernel
theorem dJ7_fill_d0a16_3 : decode cJ7_fill_d0a16 3 = .ok (.arraylength, 1) := by decide +kernel
theorem dJ7_fill_d0a16_4 : decode cJ7_fill_d0a16 4 = .ok (.istore 4, 2) := by decide +kernel
theorem dJ7_fill_d0a16_6 : decode cJ7_fill_d0a16 6 = .ok (.iload_n 3, 1) := by decide +kernel
theorem dJ7_fill_d0a16_7 : decode cJ7_fill_d0a16 7 = .ok (.iload 4, 2) := by decide +kernel
theorem dJ7_fill_d0a16_9 : decode cJ7_fill_d0a16 9 = .ok (.if_icmp .ge 13, 3) := by decide +kernel
theorem dJ7_fill_d0a16_12 : decode cJ7_fill_d0a16 12 = .ok (.aload_n 0, 1) := by decide +kernel
theorem dJ7_fill_d0a16_13 : decode cJ7_fill_d0a16 13 = .ok (.iload_n 3, 1) := by decide +kernel
theorem dJ7_fill_d0a16_14 : decode cJ7_fill_d0a16 14 = .ok (.lload_n 1, 1) := by decide +kernel
theorem dJ7_fill_d0a16_15 : decode cJ7_fill_d0a16 15 = .ok (.lastore, 1) := by decide +kernel
theorem dJ7_fill_d0a16_16 : decode cJ7_fill_d0a16 16 = .ok (.iinc 3 1, 3) := by decide +kernel
theorem dJ7_fill_d0a16_19 : decode cJ7_fill_d0a16 19 = .ok (.goto (-13), 3) := by decide +kernel
theorem dJ7_fill_d0a16_22 : decode cJ7_fill_d0a16 22 = .ok (.return_, 1) := by decide +kernel
theorem dJ7_fill_53178_0 : decode cJ7_fill_53178 0 = .ok (.iconst 0, 1) := by decide +kernel
theorem dJ7_fill_53178_1 : decode cJ7_fill_53178 1 = .ok (.istore_n 2, 1) := by decide +kernel
theorem dJ7_fill_53178_2 : decode cJ7_fill_53178 2 = .ok (.aload_n 0, 1) := by decide +kernel
theorem dJ7_fill_53178_3 : decode cJ7_fill_53178 3 = .ok (.arraylength, 1) := by decide +kernel
theorem dJ7_fill_53178_4 : decode cJ7_fill_53178 4 = .ok (.istore_n 3, 1) := by decide +kernel
theorem dJ7_fill_53178_5 : decode cJ7_fill_53178 5 = .ok (.iload_n 2, 1) := by decide +kernel
theorem dJ7_fill_53178_6 : decode cJ7_fill_53178 6 = .ok (.iload_n 3, 1) := by decide +kernel
theorem dJ7_fill_53178_7 : decode cJ7_fill_53178 7 = .ok (.if_icmp .ge 13, 3) := by decide +kernel
theorem dJ7_fill_53178_10 : decode cJ7_fill_53178 10 = .ok (.aload_n 0, 1) := by decide +kernel
theorem dJ7_fill_53178_11 : decode cJ7_fill_53178 11 = .ok (.iload_n 2, 1) := by decide +kernel
theorem dJ7_fill_53178_12 : decode cJ7_fill_53178 12 = .ok (.iload_n 1, 1) := by decide +kernel
theorem dJ7_fill_53178_13 : decode cJ7_fill_53178 13 = .ok (.iastore, 1) := by decide +kernel
theorem dJ7_fill_53178_14 : decode cJ7_fill_53178 14 = .ok (.iinc 2 1, 3) := by decide +kernel
theorem dJ7_fill_53178_17 : decode cJ7_fill_53178 17 = .ok (.goto (-12), 3) := by decide +kernel
theorem dJ7_fill_53178_20 : decode cJ7_fill_53178 20 = .ok (.return_, 1) := by decide +kernel
theorem dJ3_checkIndex_8e157_0 : decode cJ3_checkIndex_8e157 0 = .ok (.iload_n 0, 1) := by decide +kernel
theorem dJ3_checkIndex_8e157_1 : decode cJ3_checkIndex_8e157 1 = .ok (.ifCond .lt 8, 3) := by decide +kernel
theorem dJ3_checkIndex_8e157_4 : decode cJ3_checkIndex_8e157 4 = .ok (.iload_n 0, 1) := by decide +kernel
theorem dJ3_checkIndex_8e157_5 : decode cJ3_checkIndex_8e157 5 = .ok (.iload_n 1, 1) := by decide +kernel
theorem dJ3_checkIndex_8e157_6 : decode cJ3_checkIndex_8e157 6 = .ok (.if_icmp .lt 10, 3) := by decide +kernel
theorem dJ3_checkIndex_8e157_9 : decode cJ3_checkIndex_8e157 9 = .ok (.aload_n 2, 1) := by decide +kernel
theorem dJ3_checkIndex_8e157_10 : decode cJ3_checkIndex_8e157 10 = .ok (.iload_n 0, 1) := by decide +kernel
theorem dJ3_checkIndex_8e157_11 : decode cJ3_checkIndex_8e157 11 = .ok (.iload_n 1, 1) := by decide +kernel
theorem dJ3_checkIndex_8e157_12 : decode cJ3_checkIndex_8e157 12 = .ok (.invokestatic 95, 3) := by decide +kernel
theorem dJ3_checkIndex_8e157_15 : decode cJ3_checkIndex_8e157 15 = .ok (.athrow, 1) := by decide +kernel
theorem dJ3_checkIndex_8e157_16 : decode cJ3_checkIndex_8e157 16 = .ok (.iload_n 0, 1) := by decide +kernel
theorem dJ3_checkIndex_8e157_17 : decode cJ3_checkIndex_8e157 17 = .ok (.ireturn, 1) := by decide +kernel
theorem dJ3_checkFromToIndex_8c36e_0 : decode cJ3_checkFromToIndex_8c36e 0 = .ok (.iload_n 0, 1) := by decide +kernel
theorem dJ3_checkFromToIndex_8c36e_1 : decode cJ3_checkFromToIndex_8c36e 1 = .ok (.ifCond .lt 13, 3) := by decide +kernel
theorem dJ3_checkFromToIndex_8c36e_4 : decode cJ3_checkFromToIndex_8c36e 4 = .ok (.iload_n 0, 1) := by decide +kernel
theorem dJ3_checkFromToIndex_8c36e_5 : decode cJ3_checkFromToIndex_8c36e 5 = .ok (.iload_n 1, 1) := by decide +kernel
theorem dJ3_checkFromToIndex_8c36e_6 : decode cJ3_checkFromToIndex_8c36e 6 = .ok (.if_icmp .gt 8, 3) := by decide +kernel
theorem dJ3_checkFromToIndex_8c36e_9 : decode cJ3_checkFromToIndex_8c36e 9 = .ok (.iload_n 1, 1) := by decide +kernel
theorem dJ3_checkFromToIndex_8c36e_10 : decode cJ3_checkFromToIndex_8c36e 10 = .ok (.iload_n 2, 1) := by decide +kernel
theorem dJ3_checkFromToIndex_8c36e_11 : decode cJ3_checkFromToIndex_8c36e 11 = .ok (.if_icmp .le 11, 3) := by decide +kernel
theorem dJ3_checkFromToIndex_8c36e_14 : decode cJ3_checkFromToIndex_8c36e 14 = .ok (.aload_n 3, 1) := by decide +kernel
theorem dJ3_checkFromToIndex_8c36e_15 : decode cJ3_checkFromToIndex_8c36e 15 = .ok (.iload_n 0, 1) := by decide +kernel
theorem dJ3_checkFromToIndex_8c36e_16 : decode cJ3_checkFromToIndex_8c36e 16 = .ok (.iload_n 1, 1) := by decide +kernel
theorem dJ3_checkFromToIndex_8c36e_17 : decode cJ3_checkFromToIndex_8c36e 17 = .ok (.iload_n 2, 1) := by decide +kernel
theorem dJ3_checkFromToIndex_8c36e_18 : decode cJ3_checkFromToIndex_8c36e 18 = .ok (.invokestatic 99, 3) := by decide +kernel
theorem dJ3_checkFromToIndex_8c36e_21 : decode cJ3_checkFromToIndex_8c36e 21 = .ok (.athrow, 1) := by decide +kernel
theorem dJ3_checkFromToIndex_8c36e_22 : decode cJ3_checkFromToIndex_8c36e 22 = .ok (.iload_n 0, 1) := by decide +kernel
theorem dJ3_checkFromToIndex_8c36e_23 : decode cJ3_checkFromToIndex_8c36e 23 = .ok (.ireturn, 1) := by decide +kernel
theorem dL_clouded_0 : decode cL_clouded 0 = .ok (.aload_n 3, 1) := by decide +kernel
theorem dL_clouded_1 : decode cL_clouded 1 = .ok (.iconst 0, 1) := by decide +kernel
theorem dL_clouded_2 : decode cL_clouded 2 = .ok (.aload_n 0, 1) := by decide +kernel
theorem dL_clouded_3 : decode cL_clouded 3 = .ok (.iload_n 1, 1) := by decide +kernel
theorem dL_clouded_4 : decode cL_clouded 4 = .ok (.iload_n 2, 1) := by decide +kernel
theorem dL_clouded_5 : decode cL_clouded 5 = .ok (.invokevirtual 7, 3) := by decide +kernel
theorem dL_clouded_8 : decode cL_clouded 8 = .ok (.i2l, 1) := by decide +kernel
theorem dL_clouded_9 : decode cL_clouded 9 = .ok (.lastore, 1) := by decide +kernel
theorem dL_clouded_10 : decode cL_clouded 10 = .ok (.goto 7, 3) := by decide +kernel
theorem dL_clouded_13 : decode cL_clouded 13 = .ok (.astore 4, 2) := by decide +kernel
theorem dL_clouded_15 : decode cL_clouded 15 = .ok (.iconst 1, 1) := by decide +kernel
theorem dL_clouded_16 : decode cL_clouded 16 = .ok (.ireturn, 1) := by decide +kernel
theorem dL_clouded_17 : decode cL_clouded 17 = .ok (.iconst 0, 1) := by decide +kernel
theorem dL_clouded_18 : decode cL_clouded 18 = .ok (.ireturn, 1) := by decide +kernel
theorem dL_law_0 : decode cL_law 0 = .ok (.new 8, 3) := by decide +kernel
theorem dL_law_3 : decode cL_law 3 = .ok (.dup, 1) := by decide +kernel
theorem dL_law_4 : decode cL_law 4 = .ok (.invokespecial 15, 3) := by decide +kernel
theorem dL_law_7 : decode cL_law 7 = .ok (.astore_n 1, 1) := by decide +kernel
theorem dL_law_8 : decode cL_law 8 = .ok (.new 16, 3) := by decide +kernel
theorem dL_law_11 : decode cL_law 11 = .ok (.dup, 1) := by decide +kernel
theorem dL_law_12 : decode cL_law 12 = .ok (.invokespecial 18, 3) := by decide +kernel
theorem dL_law_15 : decode cL_law 15 = .ok (.astore_n 2, 1) := by decide +kernel
theorem dL_law_16 : decode cL_law 16 = .ok (.iconst 1, 1) := by decide +kernel
theorem dL_law_17 : decode cL_law 17 = .ok (.newarray .long, 2) := by decide +kernel
theorem dL_law_19 : decode cL_law 19 = .ok (.astore_n 3, 1) := by decide +kernel
theorem dL_law_20 : decode cL_law 20 = .ok (.iconst 0, 1) := by decide +kernel
theorem dL_law_21 : decode cL_law 21 = .ok (.istore 4, 2) := by decide +kernel
theorem dL_law_23 : decode cL_law 23 = .ok (.iload 4, 2) := by decide +kernel
theorem dL_law_25 : decode cL_law 25 = .ok (.aload_n 0, 1) := by decide +kernel
theorem dL_law_26 : decode cL_law 26 = .ok (.arraylength, 1) := by decide +kernel
theorem dL_law_27 : decode cL_law 27 = .ok (.bipush 7, 2) := by decide +kernel
theorem dL_law_29 : decode cL_law 29 = .ok (.isub, 1) := by decide +kernel
theorem dL_law_30 : decode cL_law 30 = .ok (.if_icmp .gt 1289, 3) := by decide +kernel
theorem dL_law_33 : decode cL_law 33 = .ok (.aload_n 0, 1) := by decide +kernel
theorem dL_law_34 : decode cL_law 34 = .ok (.iload 4, 2) := by decide +kernel
theorem dL_law_36 : decode cL_law 36 = .ok (.iaload, 1) := by decide +kernel
theorem dL_law_37 : decode cL_law 37 = .ok (.bipush 31, 2) := by decide +kernel
theorem dL_law_39 : decode cL_law 39 = .ok (.iand, 1) := by decide +kernel
theorem dL_law_40 : decode cL_law 40 = .ok (.tableswitch 1273 0 25 #[120, 267, 280, 317, 354, 403, 476, 501, 526, 563, 600, 625, 662, 715, 728, 753, 766, 839, 888, 925, 950, 963, 1024, 1127, 1195, 1248], 120) := by decide +kernel
theorem dL_law_160 : decode cL_law 160 = .ok (.aload_n 1, 1) := by decide +kernel
theorem dL_law_161 : decode cL_law 161 = .ok (.aload_n 0, 1) := by decide +kernel
theorem dL_law_162 : decode cL_law 162 = .ok (.iload 4, 2) := by decide +kernel
theorem dL_law_164 : decode cL_law 164 = .ok (.iconst 1, 1) := by decide +kernel
theorem dL_law_165 : decode cL_law 165 = .ok (.iadd, 1) := by decide +kernel
theorem dL_law_166 : decode cL_law 166 = .ok (.iaload, 1) := by decide +kernel
theorem dL_law_167 : decode cL_law 167 = .ok (.i2l, 1) := by decide +kernel
theorem dL_law_168 : decode cL_law 168 = .ok (.bipush 32, 2) := by decide +kernel
theorem dL_law_170 : decode cL_law 170 = .ok (.lshl, 1) := by decide +kernel
theorem dL_law_171 : decode cL_law 171 = .ok (.aload_n 0, 1) := by decide +kernel
theorem dL_law_172 : decode cL_law 172 = .ok (.iload 4, 2) := by decide +kernel
theorem dL_law_174 : decode cL_law 174 = .ok (.iconst 2, 1) := by decide +kernel
theorem dL_law_175 : decode cL_law 175 = .ok (.iadd, 1) := by decide +kernel
theorem dL_law_176 : decode cL_law 176 = .ok (.iaload, 1) := by decide +kernel
theorem dL_law_177 : decode cL_law 177 = .ok (.i2l, 1) := by decide +kernel
theorem dL_law_178 : decode cL_law 178 = .ok (.ldc2_w 19, 3) := by decide +kernel
theorem dL_law_181 : decode cL_law 181 = .ok (.land, 1) := by decide +kernel
theorem dL_law_182 : decode cL_law 182 = .ok (.lor, 1) := by decide +kernel
theorem dL_law_183 : decode cL_law 183 = .ok (.aload_n 0, 1) := by decide +kernel
theorem dL_law_184 : decode cL_law 184 = .ok (.iload 4, 2) := by decide +kernel
theorem dL_law_186 : decode cL_law 186 = .ok (.iconst 3, 1) := by decide +kernel
theorem dL_law_187 : decode cL_law 187 = .ok (.iadd, 1) := by decide +kernel
theorem dL_law_188 : decode cL_law 188 = .ok (.iaload, 1) := by decide +kernel
theorem dL_law_189 : decode cL_law 189 = .ok (.i2l, 1) := by decide +kernel
theorem dL_law_190 : decode cL_law 190 = .ok (.bipush 32, 2) := by decide +kernel
theorem dL_law_192 : decode cL_law 192 = .ok (.lshl, 1) := by decide +kernel
theorem dL_law_193 : decode cL_law 193 = .ok (.aload_n 0, 1) := by decide +kernel
theorem dL_law_194 : decode cL_law 194 = .ok (.iload 4, 2) := by decide +kernel
theorem dL_law_196 : decode cL_law 196 = .ok (.iconst 4, 1) := by decide +kernel
theorem dL_law_197 : decode cL_law 197 = .ok (.iadd, 1) := by decide +kernel
theorem dL_law_198 : decode cL_law 198 = .ok (.iaload, 1) := by decide +kernel
theorem dL_law_199 : decode cL_law 199 = .ok (.i2l, 1) := by decide +kernel
theorem dL_law_200 : decode cL_law 200 = .ok (.ldc2_w 19, 3) := by decide +kernel
theorem dL_law_203 : decode cL_law 203 = .ok (.land, 1) := by decide +kernel
theorem dL_law_204 : decode cL_law 204 = .ok (.lor, 1) := by decide +kernel
theorem dL_law_205 : decode cL_law 205 = .ok (.aload_n 0, 1) := by decide +kernel
theorem dL_law_206 : decode cL_law 206 = .ok (.iload 4, 2) := by decide +kernel
theorem dL_law_208 : decode cL_law 208 = .ok (.iconst 5, 1) := by decide +kernel
theorem dL_law_209 : decode cL_law 209 = .ok (.iadd, 1) := by decide +kernel
theorem dL_law_210 : decode cL_law 210 = .ok (.iaload, 1) := by decide +kernel
theorem dL_law_211 : decode cL_law 211 = .ok (.i2l, 1) := by decide +kernel
theorem dL_law_212 : decode cL_law 212 = .ok (.bipush 32, 2) := by decide +kernel
theorem dL_law_214 : decode cL_law 214 = .ok (.lshl, 1) := by decide +kernel
theorem dL_law_215 : decode cL_law 215 = .ok (.aload_n 0, 1) := by decide +kernel
theorem dL_law_216 : decode cL_law 216 = .ok (.iload 4, 2) := by decide +kernel
theorem dL_law_218 : decode cL_law 218 = .ok (.bipush 6, 2) := by decide +kernel
theorem dL_law_220 : decode cL_law 220 = .ok (.iadd, 1) := by decide +kernel
theorem dL_law_221 : decode cL_law 221 = .ok (.iaload, 1) := by decide +kernel
theorem dL_law_222 : decode cL_law 222 = .ok (.i2l, 1) := by decide +kernel
theorem dL_law_223 : decode cL_law 223 = .ok (.ldc2_w 19, 3) := by decide +kernel
theorem dL_law_226 : decode cL_law 226 = .ok (.land, 1) := by decide +kernel
theorem dL_law_227 : decode cL_law 227 = .ok (.lor, 1) := by decide +kernel
theorem dL_law_228 : decode cL_law 228 = .ok (.invokevirtual 21, 3) := by decide +kernel
theorem dL_law_231 : decode cL_law 231 = .ok (.aload_n 2, 1) := by decide +kernel
theorem dL_law_232 : decode cL_law 232 = .ok (.aload_n 0, 1) := by decide +kernel
theorem dL_law_233 : decode cL_law 233 = .ok (.iload 4, 2) := by decide +kernel
theorem dL_law_235 : decode cL_law 235 = .ok (.iconst 1, 1) := by decide +kernel
theorem dL_law_236 : decode cL_law 236 = .ok (.iadd, 1) := by decide +kernel
theorem dL_law_237 : decode cL_law 237 = .ok (.iaload, 1) := by decide +kernel
theorem dL_law_238 : decode cL_law 238 = .ok (.i2l, 1) := by decide +kernel
theorem dL_law_239 : decode cL_law 239 = .ok (.bipush 32, 2) := by decide +kernel
theorem dL_law_241 : decode cL_law 241 = .ok (.lshl, 1) := by decide +kernel
theorem dL_law_242 : decode cL_law 242 = .ok (.aload_n 0, 1) := by decide +kernel
theorem dL_law_243 : decode cL_law 243 = .ok (.iload 4, 2) := by decide +kernel
theorem dL_law_245 : decode cL_law 245 = .ok (.iconst 2, 1) := by decide +kernel
theorem dL_law_246 : decode cL_law 246 = .ok (.iadd, 1) := by decide +kernel
theorem dL_law_247 : decode cL_law 247 = .ok (.iaload, 1) := by decide +kernel
theorem dL_law_248 : decode cL_law 248 = .ok (.i2l, 1) := by decide +kernel
theorem dL_law_249 : decode cL_law 249 = .ok (.ldc2_w 19, 3) := by decide +kernel
theorem dL_law_252 : decode cL_law 252 = .ok (.land, 1) := by decide +kernel
theorem dL_law_253 : decode cL_law 253 = .ok (.lor, 1) := by decide +kernel
theorem dL_law_254 : decode cL_law 254 = .ok (.aload_n 0, 1) := by decide +kernel
theorem dL_law_255 : decode cL_law 255 = .ok (.iload 4, 2) := by decide +kernel
theorem dL_law_257 : decode cL_law 257 = .ok (.iconst 3, 1) := by decide +kernel
theorem dL_law_258 : decode cL_law 258 = .ok (.iadd, 1) := by decide +kernel
theorem dL_law_259 : decode cL_law 259 = .ok (.iaload, 1) := by decide +kernel
theorem dL_law_260 : decode cL_law 260 = .ok (.i2l, 1) := by decide +kernel
theorem dL_law_261 : decode cL_law 261 = .ok (.bipush 32, 2) := by decide +kernel
theorem dL_law_263 : decode cL_law 263 = .ok (.lshl, 1) := by decide +kernel
theorem dL_law_264 : decode cL_law 264 = .ok (.aload_n 0, 1) := by decide +kernel
theorem dL_law_265 : decode cL_law 265 = .ok (.iload 4, 2) := by decide +kernel
theorem dL_law_267 : decode cL_law 267 = .ok (.iconst 4, 1) := by decide +kernel
theorem dL_law_268 : decode cL_law 268 = .ok (.iadd, 1) := by decide +kernel
theorem dL_law_269 : decode cL_law 269 = .ok (.iaload, 1) := by decide +kernel
theorem dL_law_270 : decode cL_law 270 = .ok (.i2l, 1) := by decide +kernel
theorem dL_law_271 : decode cL_law 271 = .ok (.ldc2_w 19, 3) := by decide +kernel
theorem dL_law_274 : decode cL_law 274 = .ok (.land, 1) := by decide +kernel
theorem dL_law_275 : decode cL_law 275 = .ok (.lor, 1) := by decide +kernel
theorem dL_law_276 : decode cL_law 276 = .ok (.aload_n 0, 1) := by decide +kernel
theorem dL_law_277 : decode cL_law 277 = .ok (.iload 4, 2) := by decide +kernel
theorem dL_law_279 : decode cL_law 279 = .ok (.iconst 5, 1) := by decide +kernel
theorem dL_law_280 : decode cL_law 280 = .ok (.iadd, 1) := by decide +kernel
theorem dL_law_281 : decode cL_law 281 = .ok (.iaload, 1) := by decide +kernel
theorem dL_law_282 : decode cL_law 282 = .ok (.i2l, 1) := by decide +kernel
theorem dL_law_283 : decode cL_law 283 = .ok (.bipush 32, 2) := by decide +kernel
theorem dL_law_285 : decode cL_law 285 = .ok (.lshl, 1) := by decide +kernel
theorem dL_law_286 : decode cL_law 286 = .ok (.aload_n 0, 1) := by decide +kernel
theorem dL_law_287 : decode cL_law 287 = .ok (.iload 4, 2) := by decide +kernel
theorem dL_law_289 : decode cL_law 289 = .ok (.bipush 6, 2) := by decide +kernel
theorem dL_law_291 : decode cL_law 291 = .ok (.iadd, 1) := by decide +kernel
theorem dL_law_292 : decode cL_law 292 = .ok (.iaload, 1) := by decide +kernel
theorem dL_law_293 : decode cL_law 293 = .ok (.i2l, 1) := by decide +kernel
theorem dL_law_294 : decode cL_law 294 = .ok (.ldc2_w 19, 3) := by decide +kernel
theorem dL_law_297 : decode cL_law 297 = .ok (.land, 1) := by decide +kernel
theorem dL_law_298 : decode cL_law 298 = .ok (.lor, 1) := by decide +kernel
theorem dL_law_299 : decode cL_law 299 = .ok (.invokevirtual 25, 3) := by decide +kernel
theorem dL_law_302 : decode cL_law 302 = .ok (.if_icmp .eq 1011, 3) := by decide +kernel
theorem dL_law_305 : decode cL_law 305 = .ok (.iconst 0, 1) := by decide +kernel
theorem dL_law_306 : decode cL_law 306 = .ok (.ireturn, 1) := by decide +kernel
theorem dL_law_307 : decode cL_law 307 = .ok (.aload_n 1, 1) := by decide +kernel
theorem dL_law_308 : decode cL_law 308 = .ok (.invokevirtual 26, 3) := by decide +kernel
theorem dL_law_311 : decode cL_law 311 = .ok (.aload_n 2, 1) := by decide +kernel
theorem dL_law_312 : decode cL_law 312 = .ok (.invokevirtual 30, 3) := by decide +kernel
theorem dL_law_315 : decode cL_law 315 = .ok (.if_icmp .eq 998, 3) := by decide +kernel
theorem dL_law_318 : decode cL_law 318 = .ok (.iconst 0, 1) := by decide +kernel
theorem dL_law_319 : decode cL_law 319 = .ok (.ireturn, 1) := by decide +kernel
theorem dL_law_320 : decode cL_law 320 = .ok (.aload_n 1, 1) := by decide +kernel
theorem dL_law_321 : decode cL_law 321 = .ok (.aload_n 0, 1) := by decide +kernel
theorem dL_law_322 : decode cL_law 322 = .ok (.iload 4, 2) := by decide +kernel
theorem dL_law_324 : decode cL_law 324 = .ok (.iconst 1, 1) := by decide +kernel
theorem dL_law_325 : decode cL_law 325 = .ok (.iadd, 1) := by decide +kernel
theorem dL_law_326 : decode cL_law 326 = .ok (.iaload, 1) := by decide +kernel
theorem dL_law_327 : decode cL_law 327 = .ok (.aload_n 0, 1) := by decide +kernel
theorem dL_law_328 : decode cL_law 328 = .ok (.iload 4, 2) := by decide +kernel
theorem dL_law_330 : decode cL_law 330 = .ok (.iconst 2, 1) := by decide +kernel
theorem dL_law_331 : decode cL_law 331 = .ok (.iadd, 1) := by decide +kernel
theorem dL_law_332 : decode cL_law 332 = .ok (.iaload, 1) := by decide +kernel
theorem dL_law_333 : decode cL_law 333 = .ok (.invokevirtual 31, 3) := by decide +kernel
theorem dL_law_336 : decode cL_law 336 = .ok (.aload_n 2, 1) := by decide +kernel
theorem dL_law_337 : decode cL_law 337 = .ok (.aload_n 0, 1) := by decide +kernel
theorem dL_law_338 : decode cL_law 338 = .ok (.iload 4, 2) := by decide +kernel
theorem dL_law_340 : decode cL_law 340 = .ok (.iconst 1, 1) := by decide +kernel
theorem dL_law_341 : decode cL_law 341 = .ok (.iadd, 1) := by decide +kernel
theorem dL_law_342 : decode cL_law 342 = .ok (.iaload, 1) := by decide +kernel
theorem dL_law_343 : decode cL_law 343 = .ok (.aload_n 0, 1) := by decide +kernel
theorem dL_law_344 : decode cL_law 344 = .ok (.iload 4, 2) := by decide +kernel
theorem dL_law_346 : decode cL_law 346 = .ok (.iconst 2, 1) := by decide +kernel
theorem dL_law_347 : decode cL_law 347 = .ok (.iadd, 1) := by decide +kernel
theorem dL_law_348 : decode cL_law 348 = .ok (.iaload, 1) := by decide +kernel
theorem dL_law_349 : decode cL_law 349 = .ok (.invokevirtual 34, 3) := by decide +kernel
theorem dL_law_352 : decode cL_law 352 = .ok (.if_icmp .eq 961, 3) := by decide +kernel
theorem dL_law_355 : decode cL_law 355 = .ok (.iconst 0, 1) := by decide +kernel
theorem dL_law_356 : decode cL_law 356 = .ok (.ireturn, 1) := by decide +kernel
theorem dL_law_357 : decode cL_law 357 = .ok (.aload_n 1, 1) := by decide +kernel
theorem dL_law_358 : decode cL_law 358 = .ok (.aload_n 0, 1) := by decide +kernel
theorem dL_law_359 : decode cL_law 359 = .ok (.iload 4, 2) := by decide +kernel
theorem dL_law_361 : decode cL_law 361 = .ok (.iconst 1, 1) := by decide +kernel
theorem dL_law_362 : decode cL_law 362 = .ok (.iadd, 1) := by decide +kernel
theorem dL_law_363 : decode cL_law 363 = .ok (.iaload, 1) := by decide +kernel
theorem dL_law_364 : decode cL_law 364 = .ok (.aload_n 0, 1) := by decide +kernel
theorem dL_law_365 : decode cL_law 365 = .ok (.iload 4, 2) := by decide +kernel
theorem dL_law_367 : decode cL_law 367 = .ok (.iconst 2, 1) := by decide +kernel
theorem dL_law_368 : decode cL_law 368 = .ok (.iadd, 1) := by decide +kernel
theorem dL_law_369 : decode cL_law 369 = .ok (.iaload, 1) := by decide +kernel
theorem dL_law_370 : decode cL_law 370 = .ok (.invokevirtual 35, 3) := by decide +kernel
theorem dL_law_373 : decode cL_law 373 = .ok (.aload_n 2, 1) := by decide +kernel
theorem dL_law_374 : decode cL_law 374 = .ok (.aload_n 0, 1) := by decide +kernel
theorem dL_law_375 : decode cL_law 375 = .ok (.iload 4, 2) := by decide +kernel
theorem dL_law_377 : decode cL_law 377 = .ok (.iconst 1, 1) := by decide +kernel
theorem dL_law_378 : decode cL_law 378 = .ok (.iadd, 1) := by decide +kernel
theorem dL_law_379 : decode cL_law 379 = .ok (.iaload, 1) := by decide +kernel
theorem dL_law_380 : decode cL_law 380 = .ok (.aload_n 0, 1) := by decide +kernel
theorem dL_law_381 : decode cL_law 381 = .ok (.iload 4, 2) := by decide +kernel
theorem dL_law_383 : decode cL_law 383 = .ok (.iconst 2, 1) := by decide +kernel
theorem dL_law_384 : decode cL_law 384 = .ok (.iadd, 1) := by decide +kernel
theorem dL_law_385 : decode cL_law 385 = .ok (.iaload, 1) := by decide +kernel
theorem dL_law_386 : decode cL_law 386 = .ok (.invokevirtual 38, 3) := by decide +kernel
theorem dL_law_389 : decode cL_law 389 = .ok (.if_icmp .eq 924, 3) := by decide +kernel
theorem dL_law_392 : decode cL_law 392 = .ok (.iconst 0, 1) := by decide +kernel
theorem dL_law_393 : decode cL_law 393 = .ok (.ireturn, 1) := by decide +kernel
theorem dL_law_394 : decode cL_law 394 = .ok (.aload_n 1, 1) := by decide +kernel
theorem dL_law_395 : decode cL_law 395 = .ok (.aload_n 0, 1) := by decide +kernel
theorem dL_law_396 : decode cL_law 396 = .ok (.iload 4, 2) := by decide +kernel
theorem dL_law_398 : decode cL_law 398 = .ok (.iconst 1, 1) := by decide +kernel
theorem dL_law_399 : decode cL_law 399 = .ok (.iadd, 1) := by decide +kernel
theorem dL_law_400 : decode cL_law 400 = .ok (.iaload, 1) := by decide +kernel
theorem dL_law_401 : decode cL_law 401 = .ok (.aload_n 0, 1) := by decide +kernel
theorem dL_law_402 : decode cL_law 402 = .ok (.iload 4, 2) := by decide +kernel
theorem dL_law_404 : decode cL_law 404 = .ok (.iconst 2, 1) := by decide +kernel
theorem dL_law_405 : decode cL_law 405 = .ok (.iadd, 1) := by decide +kernel
theorem dL_law_406 : decode cL_law 406 = .ok (.iaload, 1) := by decide +kernel
theorem dL_law_407 : decode cL_law 407 = .ok (.aload_n 0, 1) := by decide +kernel
theorem dL_law_408 : decode cL_law 408 = .ok (.iload 4, 2) := by decide +kernel
theorem dL_law_410 : decode cL_law 410 = .ok (.iconst 3, 1) := by decide +kernel
theorem dL_law_411 : decode cL_law 411 = .ok (.iadd, 1) := by decide +kernel
theorem dL_law_412 : decode cL_law 412 = .ok (.iaload, 1) := by decide +kernel
theorem dL_law_413 : decode cL_law 413 = .ok (.invokevirtual 39, 3) := by decide +kernel
theorem dL_law_416 : decode cL_law 416 = .ok (.aload_n 2, 1) := by decide +kernel
theorem dL_law_417 : decode cL_law 417 = .ok (.aload_n 0, 1) := by decide +kernel
theorem dL_law_418 : decode cL_law 418 = .ok (.iload 4, 2) := by decide +kernel
theorem dL_law_420 : decode cL_law 420 = .ok (.iconst 1, 1) := by decide +kernel
theorem dL_law_421 : decode cL_law 421 = .ok (.iadd, 1) := by decide +kernel
theorem dL_law_422 : decode cL_law 422 = .ok (.iaload, 1) := by decide +kernel
theorem dL_law_423 : decode cL_law 423 = .ok (.aload_n 0, 1) := by decide +kernel
theorem dL_law_424 : decode cL_law 424 = .ok (.iload 4, 2) := by decide +kernel
theorem dL_law_426 : decode cL_law 426 = .ok (.iconst 2, 1) := by decide +kernel
theorem dL_law_427 : decode cL_law 427 = .ok (.iadd, 1) := by decide +kernel
theorem dL_law_428 : decode cL_law 428 = .ok (.iaload, 1) := by decide +kernel
theorem dL_law_429 : decode cL_law 429 = .ok (.aload_n 0, 1) := by decide +kernel
theorem dL_law_430 : decode cL_law 430 = .ok (.iload 4, 2) := by decide +kernel
theorem dL_law_432 : decode cL_law 432 = .ok (.iconst 3, 1) := by decide +kernel
theorem dL_law_433 : decode cL_law 433 = .ok (.iadd, 1) := by decide +kernel
theorem dL_law_434 : decode cL_law 434 = .ok (.iaload, 1) := by decide +kernel
theorem dL_law_435 : decode cL_law 435 = .ok (.invokevirtual 43, 3) := by decide +kernel
theorem dL_law_438 : decode cL_law 438 = .ok (.if_icmp .eq 875, 3) := by decide +kernel
theorem dL_law_441 : decode cL_law 441 = .ok (.iconst 0, 1) := by decide +kernel
theorem dL_law_442 : decode cL_law 442 = .ok (.ireturn, 1) := by decide +kernel
theorem dL_law_443 : decode cL_law 443 = .ok (.aload_n 1, 1) := by decide +kernel
theorem dL_law_444 : decode cL_law 444 = .ok (.aload_n 0, 1) := by decide +kernel
theorem dL_law_445 : decode cL_law 445 = .ok (.iload 4, 2) := by decide +kernel
theorem dL_law_447 : decode cL_law 447 = .ok (.iconst 1, 1) := by decide +kernel
theorem dL_law_448 : decode cL_law 448 = .ok (.iadd, 1) := by decide +kernel
theorem dL_law_449 : decode cL_law 449 = .ok (.iaload, 1) := by decide +kernel
theorem dL_law_450 : decode cL_law 450 = .ok (.aload_n 0, 1) := by decide +kernel
theorem dL_law_451 : decode cL_law 451 = .ok (.iload 4, 2) := by decide +kernel
theorem dL_law_453 : decode cL_law 453 = .ok (.iconst 2, 1) := by decide +kernel
theorem dL_law_454 : decode cL_law 454 = .ok (.iadd, 1) := by decide +kernel
theorem dL_law_455 : decode cL_law 455 = .ok (.iaload, 1) := by decide +kernel
theorem dL_law_456 : decode cL_law 456 = .ok (.aload_n 0, 1) := by decide +kernel
theorem dL_law_457 : decode cL_law 457 = .ok (.iload 4, 2) := by decide +kernel
theorem dL_law_459 : decode cL_law 459 = .ok (.iconst 3, 1) := by decide +kernel
theorem dL_law_460 : decode cL_law 460 = .ok (.iadd, 1) := by decide +kernel
theorem dL_law_461 : decode cL_law 461 = .ok (.iaload, 1) := by decide +kernel
theorem dL_law_462 : decode cL_law 462 = .ok (.aload_n 0, 1) := by decide +kernel
theorem dL_law_463 : decode cL_law 463 = .ok (.iload 4, 2) := by decide +kernel
theorem dL_law_465 : decode cL_law 465 = .ok (.iconst 4, 1) := by decide +kernel
theorem dL_law_466 : decode cL_law 466 = .ok (.iadd, 1) := by decide +kernel
theorem dL_law_467 : decode cL_law 467 = .ok (.iaload, 1) := by decide +kernel
theorem dL_law_468 : decode cL_law 468 = .ok (.aload_n 0, 1) := by decide +kernel
theorem dL_law_469 : decode cL_law 469 = .ok (.iload 4, 2) := by decide +kernel
theorem dL_law_471 : decode cL_law 471 = .ok (.iconst 5, 1) := by decide +kernel
theorem dL_law_472 : decode cL_law 472 = .ok (.iadd, 1) := by decide +kernel
theorem dL_law_473 : decode cL_law 473 = .ok (.iaload, 1) := by decide +kernel
theorem dL_law_474 : decode cL_law 474 = .ok (.invokevirtual 44, 3) := by decide +kernel
theorem dL_law_477 : decode cL_law 477 = .ok (.aload_n 2, 1) := by decide +kernel
theorem dL_law_478 : decode cL_law 478 = .ok (.aload_n 0, 1) := by decide +kernel
theorem dL_law_479 : decode cL_law 479 = .ok (.iload 4, 2) := by decide +kernel
theorem dL_law_481 : decode cL_law 481 = .ok (.iconst 1, 1) := by decide +kernel
theorem dL_law_482 : decode cL_law 482 = .ok (.iadd, 1) := by decide +kernel
theorem dL_law_483 : decode cL_law 483 = .ok (.iaload, 1) := by decide +kernel
theorem dL_law_484 : decode cL_law 484 = .ok (.aload_n 0, 1) := by decide +kernel
theorem dL_law_485 : decode cL_law 485 = .ok (.iload 4, 2) := by decide +kernel
theorem dL_law_487 : decode cL_law 487 = .ok (.iconst 2, 1) := by decide +kernel
theorem dL_law_488 : decode cL_law 488 = .ok (.iadd, 1) := by decide +kernel
theorem dL_law_489 : decode cL_law 489 = .ok (.iaload, 1) := by decide +kernel
theorem dL_law_490 : decode cL_law 490 = .ok (.aload_n 0, 1) := by decide +kernel
theorem dL_law_491 : decode cL_law 491 = .ok (.iload 4, 2) := by decide +kernel
theorem dL_law_493 : decode cL_law 493 = .ok (.iconst 3, 1) := by decide +kernel
theorem dL_law_494 : decode cL_law 494 = .ok (.iadd, 1) := by decide +kernel
theorem dL_law_495 : decode cL_law 495 = .ok (.iaload, 1) := by decide +kernel
theorem dL_law_496 : decode cL_law 496 = .ok (.aload_n 0, 1) := by decide +kernel
theorem dL_law_497 : decode cL_law 497 = .ok (.iload 4, 2) := by decide +kernel
theorem dL_law_499 : decode cL_law 499 = .ok (.iconst 4, 1) := by decide +kernel
theorem dL_law_500 : decode cL_law 500 = .ok (.iadd, 1) := by decide +kernel
theorem dL_law_501 : decode cL_law 501 = .ok (.iaload, 1) := by decide +kernel
theorem dL_law_502 : decode cL_law 502 = .ok (.aload_n 0, 1) := by decide +kernel
theorem dL_law_503 : decode cL_law 503 = .ok (.iload 4, 2) := by decide +kernel
theorem dL_law_505 : decode cL_law 505 = .ok (.iconst 5, 1) := by decide +kernel
theorem dL_law_506 : decode cL_law 506 = .ok (.iadd, 1) := by decide +kernel
theorem dL_law_507 : decode cL_law 507 = .ok (.iaload, 1) := by decide +kernel
theorem dL_law_508 : decode cL_law 508 = .ok (.invokevirtual 48, 3) := by decide +kernel
theorem dL_law_511 : decode cL_law 511 = .ok (.if_icmp .eq 802, 3) := by decide +kernel
theorem dL_law_514 : decode cL_law 514 = .ok (.iconst 0, 1) := by decide +kernel
theorem dL_law_515 : decode cL_law 515 = .ok (.ireturn, 1) := by decide +kernel
theorem dL_law_516 : decode cL_law 516 = .ok (.aload_n 1, 1) := by decide +kernel
theorem dL_law_517 : decode cL_law 517 = .ok (.aload_n 0, 1) := by decide +kernel
theorem dL_law_518 : decode cL_law 518 = .ok (.iload 4, 2) := by decide +kernel
theorem dL_law_520 : decode cL_law 520 = .ok (.iconst 1, 1) := by decide +kernel
theorem dL_law_521 : decode cL_law 521 = .ok (.iadd, 1) := by decide +kernel
theorem dL_law_522 : decode cL_law 522 = .ok (.iaload, 1) := by decide +kernel
theorem dL_law_523 : decode cL_law 523 = .ok (.invokevirtual 49, 3) := by decide +kernel
theorem dL_law_526 : decode cL_law 526 = .ok (.aload_n 2, 1) := by decide +kernel
theorem dL_law_527 : decode cL_law 527 = .ok (.aload_n 0, 1) := by decide +kernel
theorem dL_law_528 : decode cL_law 528 = .ok (.iload 4, 2) := by decide +kernel
theorem dL_law_530 : decode cL_law 530 = .ok (.iconst 1, 1) := by decide +kernel
theorem dL_law_531 : decode cL_law 531 = .ok (.iadd, 1) := by decide +kernel
theorem dL_law_532 : decode cL_law 532 = .ok (.iaload, 1) := by decide +kernel
theorem dL_law_533 : decode cL_law 533 = .ok (.invokevirtual 53, 3) := by decide +kernel
theorem dL_law_536 : decode cL_law 536 = .ok (.if_icmp .eq 777, 3) := by decide +kernel
theorem dL_law_539 : decode cL_law 539 = .ok (.iconst 0, 1) := by decide +kernel
theorem dL_law_540 : decode cL_law 540 = .ok (.ireturn, 1) := by decide +kernel
theorem dL_law_541 : decode cL_law 541 = .ok (.aload_n 1, 1) := by decide +kernel
theorem dL_law_542 : decode cL_law 542 = .ok (.aload_n 0, 1) := by decide +kernel
theorem dL_law_543 : decode cL_law 543 = .ok (.iload 4, 2) := by decide +kernel
theorem dL_law_545 : decode cL_law 545 = .ok (.iconst 1, 1) := by decide +kernel
theorem dL_law_546 : decode cL_law 546 = .ok (.iadd, 1) := by decide +kernel
theorem dL_law_547 : decode cL_law 547 = .ok (.iaload, 1) := by decide +kernel
theorem dL_law_548 : decode cL_law 548 = .ok (.invokevirtual 54, 3) := by decide +kernel
theorem dL_law_551 : decode cL_law 551 = .ok (.aload_n 2, 1) := by decide +kernel
theorem dL_law_552 : decode cL_law 552 = .ok (.aload_n 0, 1) := by decide +kernel
theorem dL_law_553 : decode cL_law 553 = .ok (.iload 4, 2) := by decide +kernel
theorem dL_law_555 : decode cL_law 555 = .ok (.iconst 1, 1) := by decide +kernel
theorem dL_law_556 : decode cL_law 556 = .ok (.iadd, 1) := by decide +kernel
theorem dL_law_557 : decode cL_law 557 = .ok (.iaload, 1) := by decide +kernel
theorem dL_law_558 : decode cL_law 558 = .ok (.invokevirtual 57, 3) := by decide +kernel
theorem dL_law_561 : decode cL_law 561 = .ok (.if_icmp .eq 752, 3) := by decide +kernel
theorem dL_law_564 : decode cL_law 564 = .ok (.iconst 0, 1) := by decide +kernel
theorem dL_law_565 : decode cL_law 565 = .ok (.ireturn, 1) := by decide +kernel
theorem dL_law_566 : decode cL_law 566 = .ok (.aload_n 1, 1) := by decide +kernel
theorem dL_law_567 : decode cL_law 567 = .ok (.aload_n 0, 1) := by decide +kernel
theorem dL_law_568 : decode cL_law 568 = .ok (.iload 4, 2) := by decide +kernel
theorem dL_law_570 : decode cL_law 570 = .ok (.iconst 1, 1) := by decide +kernel
theorem dL_law_571 : decode cL_law 571 = .ok (.iadd, 1) := by decide +kernel
theorem dL_law_572 : decode cL_law 572 = .ok (.iaload, 1) := by decide +kernel
theorem dL_law_573 : decode cL_law 573 = .ok (.aload_n 0, 1) := by decide +kernel
theorem dL_law_574 : decode cL_law 574 = .ok (.iload 4, 2) := by decide +kernel
theorem dL_law_576 : decode cL_law 576 = .ok (.iconst 2, 1) := by decide +kernel
theorem dL_law_577 : decode cL_law 577 = .ok (.iadd, 1) := by decide +kernel
theorem dL_law_578 : decode cL_law 578 = .ok (.iaload, 1) := by decide +kernel
theorem dL_law_579 : decode cL_law 579 = .ok (.invokevirtual 58, 3) := by decide +kernel
theorem dL_law_582 : decode cL_law 582 = .ok (.aload_n 2, 1) := by decide +kernel
theorem dL_law_583 : decode cL_law 583 = .ok (.aload_n 0, 1) := by decide +kernel
theorem dL_law_584 : decode cL_law 584 = .ok (.iload 4, 2) := by decide +kernel
theorem dL_law_586 : decode cL_law 586 = .ok (.iconst 1, 1) := by decide +kernel
theorem dL_law_587 : decode cL_law 587 = .ok (.iadd, 1) := by decide +kernel
theorem dL_law_588 : decode cL_law 588 = .ok (.iaload, 1) := by decide +kernel
theorem dL_law_589 : decode cL_law 589 = .ok (.aload_n 0, 1) := by decide +kernel
theorem dL_law_590 : decode cL_law 590 = .ok (.iload 4, 2) := by decide +kernel
theorem dL_law_592 : decode cL_law 592 = .ok (.iconst 2, 1) := by decide +kernel
theorem dL_law_593 : decode cL_law 593 = .ok (.iadd, 1) := by decide +kernel
theorem dL_law_594 : decode cL_law 594 = .ok (.iaload, 1) := by decide +kernel
theorem dL_law_595 : decode cL_law 595 = .ok (.invokevirtual 61, 3) := by decide +kernel
theorem dL_law_598 : decode cL_law 598 = .ok (.if_icmp .eq 715, 3) := by decide +kernel
theorem dL_law_601 : decode cL_law 601 = .ok (.iconst 0, 1) := by decide +kernel
theorem dL_law_602 : decode cL_law 602 = .ok (.ireturn, 1) := by decide +kernel
theorem dL_law_603 : decode cL_law 603 = .ok (.aload_n 1, 1) := by decide +kernel
theorem dL_law_604 : decode cL_law 604 = .ok (.aload_n 0, 1) := by decide +kernel
theorem dL_law_605 : decode cL_law 605 = .ok (.iload 4, 2) := by decide +kernel
theorem dL_law_607 : decode cL_law 607 = .ok (.iconst 1, 1) := by decide +kernel
theorem dL_law_608 : decode cL_law 608 = .ok (.iadd, 1) := by decide +kernel
theorem dL_law_609 : decode cL_law 609 = .ok (.iaload, 1) := by decide +kernel
theorem dL_law_610 : decode cL_law 610 = .ok (.aload_n 0, 1) := by decide +kernel
theorem dL_law_611 : decode cL_law 611 = .ok (.iload 4, 2) := by decide +kernel
theorem dL_law_613 : decode cL_law 613 = .ok (.iconst 2, 1) := by decide +kernel
theorem dL_law_614 : decode cL_law 614 = .ok (.iadd, 1) := by decide +kernel
theorem dL_law_615 : decode cL_law 615 = .ok (.iaload, 1) := by decide +kernel
theorem dL_law_616 : decode cL_law 616 = .ok (.invokevirtual 62, 3) := by decide +kernel
theorem dL_law_619 : decode cL_law 619 = .ok (.aload_n 2, 1) := by decide +kernel
theorem dL_law_620 : decode cL_law 620 = .ok (.aload_n 0, 1) := by decide +kernel
theorem dL_law_621 : decode cL_law 621 = .ok (.iload 4, 2) := by decide +kernel
theorem dL_law_623 : decode cL_law 623 = .ok (.iconst 1, 1) := by decide +kernel
theorem dL_law_624 : decode cL_law 624 = .ok (.iadd, 1) := by decide +kernel
theorem dL_law_625 : decode cL_law 625 = .ok (.iaload, 1) := by decide +kernel
theorem dL_law_626 : decode cL_law 626 = .ok (.aload_n 0, 1) := by decide +kernel
theorem dL_law_627 : decode cL_law 627 = .ok (.iload 4, 2) := by decide +kernel
theorem dL_law_629 : decode cL_law 629 = .ok (.iconst 2, 1) := by decide +kernel
theorem dL_law_630 : decode cL_law 630 = .ok (.iadd, 1) := by decide +kernel
theorem dL_law_631 : decode cL_law 631 = .ok (.iaload, 1) := by decide +kernel
theorem dL_law_632 : decode cL_law 632 = .ok (.invokevirtual 65, 3) := by decide +kernel
theorem dL_law_635 : decode cL_law 635 = .ok (.if_icmp .eq 678, 3) := by decide +kernel
theorem dL_law_638 : decode cL_law 638 = .ok (.iconst 0, 1) := by decide +kernel
theorem dL_law_639 : decode cL_law 639 = .ok (.ireturn, 1) := by decide +kernel
theorem dL_law_640 : decode cL_law 640 = .ok (.aload_n 1, 1) := by decide +kernel
theorem dL_law_641 : decode cL_law 641 = .ok (.aload_n 0, 1) := by decide +kernel
theorem dL_law_642 : decode cL_law 642 = .ok (.iload 4, 2) := by decide +kernel
theorem dL_law_644 : decode cL_law 644 = .ok (.iconst 1, 1) := by decide +kernel
theorem dL_law_645 : decode cL_law 645 = .ok (.iadd, 1) := by decide +kernel
theorem dL_law_646 : decode cL_law 646 = .ok (.iaload, 1) := by decide +kernel
theorem dL_law_647 : decode cL_law 647 = .ok (.invokevirtual 66, 3) := by decide +kernel
theorem dL_law_650 : decode cL_law 650 = .ok (.aload_n 2, 1) := by decide +kernel
theorem dL_law_651 : decode cL_law 651 = .ok (.aload_n 0, 1) := by decide +kernel
theorem dL_law_652 : decode cL_law 652 = .ok (.iload 4, 2) := by decide +kernel
theorem dL_law_654 : decode cL_law 654 = .ok (.iconst 1, 1) := by decide +kernel
theorem dL_law_655 : decode cL_law 655 = .ok (.iadd, 1) := by decide +kernel
theorem dL_law_656 : decode cL_law 656 = .ok (.iaload, 1) := by decide +kernel
theorem dL_law_657 : decode cL_law 657 = .ok (.invokevirtual 69, 3) := by decide +kernel
theorem dL_law_660 : decode cL_law 660 = .ok (.if_icmp .eq 653, 3) := by decide +kernel
theorem dL_law_663 : decode cL_law 663 = .ok (.iconst 0, 1) := by decide +kernel
theorem dL_law_664 : decode cL_law 664 = .ok (.ireturn, 1) := by decide +kernel
theorem dL_law_665 : decode cL_law 665 = .ok (.aload_n 1, 1) := by decide +kernel
theorem dL_law_666 : decode cL_law 666 = .ok (.aload_n 0, 1) := by decide +kernel
theorem dL_law_667 : decode cL_law 667 = .ok (.iload 4, 2) := by decide +kernel
theorem dL_law_669 : decode cL_law 669 = .ok (.iconst 1, 1) := by decide +kernel
theorem dL_law_670 : decode cL_law 670 = .ok (.iadd, 1) := by decide +kernel
theorem dL_law_671 : decode cL_law 671 = .ok (.iaload, 1) := by decide +kernel
theorem dL_law_672 : decode cL_law 672 = .ok (.aload_n 0, 1) := by decide +kernel
theorem dL_law_673 : decode cL_law 673 = .ok (.iload 4, 2) := by decide +kernel
theorem dL_law_675 : decode cL_law 675 = .ok (.iconst 2, 1) := by decide +kernel
theorem dL_law_676 : decode cL_law 676 = .ok (.iadd, 1) := by decide +kernel
theorem dL_law_677 : decode cL_law 677 = .ok (.iaload, 1) := by decide +kernel
theorem dL_law_678 : decode cL_law 678 = .ok (.invokevirtual 70, 3) := by decide +kernel
theorem dL_law_681 : decode cL_law 681 = .ok (.aload_n 2, 1) := by decide +kernel
theorem dL_law_682 : decode cL_law 682 = .ok (.aload_n 0, 1) := by decide +kernel
theorem dL_law_683 : decode cL_law 683 = .ok (.iload 4, 2) := by decide +kernel
theorem dL_law_685 : decode cL_law 685 = .ok (.iconst 1, 1) := by decide +kernel
theorem dL_law_686 : decode cL_law 686 = .ok (.iadd, 1) := by decide +kernel
theorem dL_law_687 : decode cL_law 687 = .ok (.iaload, 1) := by decide +kernel
theorem dL_law_688 : decode cL_law 688 = .ok (.aload_n 0, 1) := by decide +kernel
theorem dL_law_689 : decode cL_law 689 = .ok (.iload 4, 2) := by decide +kernel
theorem dL_law_691 : decode cL_law 691 = .ok (.iconst 2, 1) := by decide +kernel
theorem dL_law_692 : decode cL_law 692 = .ok (.iadd, 1) := by decide +kernel
theorem dL_law_693 : decode cL_law 693 = .ok (.iaload, 1) := by decide +kernel
theorem dL_law_694 : decode cL_law 694 = .ok (.invokevirtual 74, 3) := by decide +kernel
theorem dL_law_697 : decode cL_law 697 = .ok (.if_icmp .eq 616, 3) := by decide +kernel
theorem dL_law_700 : decode cL_law 700 = .ok (.iconst 0, 1) := by decide +kernel
theorem dL_law_701 : decode cL_law 701 = .ok (.ireturn, 1) := by decide +kernel
theorem dL_law_702 : decode cL_law 702 = .ok (.aload_n 1, 1) := by decide +kernel
theorem dL_law_703 : decode cL_law 703 = .ok (.aload_n 0, 1) := by decide +kernel
theorem dL_law_704 : decode cL_law 704 = .ok (.iload 4, 2) := by decide +kernel
theorem dL_law_706 : decode cL_law 706 = .ok (.iconst 1, 1) := by decide +kernel
theorem dL_law_707 : decode cL_law 707 = .ok (.iadd, 1) := by decide +kernel
theorem dL_law_708 : decode cL_law 708 = .ok (.iaload, 1) := by decide +kernel
theorem dL_law_709 : decode cL_law 709 = .ok (.aload_n 0, 1) := by decide +kernel
theorem dL_law_710 : decode cL_law 710 = .ok (.iload 4, 2) := by decide +kernel
theorem dL_law_712 : decode cL_law 712 = .ok (.iconst 2, 1) := by decide +kernel
theorem dL_law_713 : decode cL_law 713 = .ok (.iadd, 1) := by decide +kernel
theorem dL_law_714 : decode cL_law 714 = .ok (.iaload, 1) := by decide +kernel
theorem dL_law_715 : decode cL_law 715 = .ok (.ifCond .eq 7, 3) := by decide +kernel
theorem dL_law_718 : decode cL_law 718 = .ok (.iconst 1, 1) := by decide +kernel
theorem dL_law_719 : decode cL_law 719 = .ok (.goto 4, 3) := by decide +kernel
theorem dL_law_722 : decode cL_law 722 = .ok (.iconst 0, 1) := by decide +kernel
theorem dL_law_723 : decode cL_law 723 = .ok (.invokevirtual 75, 3) := by decide +kernel
theorem dL_law_726 : decode cL_law 726 = .ok (.aload_n 2, 1) := by decide +kernel
theorem dL_law_727 : decode cL_law 727 = .ok (.aload_n 0, 1) := by decide +kernel
theorem dL_law_728 : decode cL_law 728 = .ok (.iload 4, 2) := by decide +kernel
theorem dL_law_730 : decode cL_law 730 = .ok (.iconst 1, 1) := by decide +kernel
theorem dL_law_731 : decode cL_law 731 = .ok (.iadd, 1) := by decide +kernel
theorem dL_law_732 : decode cL_law 732 = .ok (.iaload, 1) := by decide +kernel
theorem dL_law_733 : decode cL_law 733 = .ok (.aload_n 0, 1) := by decide +kernel
theorem dL_law_734 : decode cL_law 734 = .ok (.iload 4, 2) := by decide +kernel
theorem dL_law_736 : decode cL_law 736 = .ok (.iconst 2, 1) := by decide +kernel
theorem dL_law_737 : decode cL_law 737 = .ok (.iadd, 1) := by decide +kernel
theorem dL_law_738 : decode cL_law 738 = .ok (.iaload, 1) := by decide +kernel
theorem dL_law_739 : decode cL_law 739 = .ok (.ifCond .eq 7, 3) := by decide +kernel
theorem dL_law_742 : decode cL_law 742 = .ok (.iconst 1, 1) := by decide +kernel
theorem dL_law_743 : decode cL_law 743 = .ok (.goto 4, 3) := by decide +kernel
theorem dL_law_746 : decode cL_law 746 = .ok (.iconst 0, 1) := by decide +kernel
theorem dL_law_747 : decode cL_law 747 = .ok (.invokevirtual 79, 3) := by decide +kernel
theorem dL_law_750 : decode cL_law 750 = .ok (.if_icmp .eq 563, 3) := by decide +kernel
theorem dL_law_753 : decode cL_law 753 = .ok (.iconst 0, 1) := by decide +kernel
theorem dL_law_754 : decode cL_law 754 = .ok (.ireturn, 1) := by decide +kernel
theorem dL_law_755 : decode cL_law 755 = .ok (.aload_n 1, 1) := by decide +kernel
theorem dL_law_756 : decode cL_law 756 = .ok (.invokevirtual 80, 3) := by decide +kernel
theorem dL_law_759 : decode cL_law 759 = .ok (.aload_n 2, 1) := by decide +kernel
theorem dL_law_760 : decode cL_law 760 = .ok (.invokevirtual 83, 3) := by decide +kernel
theorem dL_law_763 : decode cL_law 763 = .ok (.if_icmp .eq 550, 3) := by decide +kernel
theorem dL_law_766 : decode cL_law 766 = .ok (.iconst 0, 1) := by decide +kernel
theorem dL_law_767 : decode cL_law 767 = .ok (.ireturn, 1) := by decide +kernel
theorem dL_law_768 : decode cL_law 768 = .ok (.aload_n 1, 1) := by decide +kernel
theorem dL_law_769 : decode cL_law 769 = .ok (.aload_n 0, 1) := by decide +kernel
theorem dL_law_770 : decode cL_law 770 = .ok (.iload 4, 2) := by decide +kernel
theorem dL_law_772 : decode cL_law 772 = .ok (.iconst 1, 1) := by decide +kernel
theorem dL_law_773 : decode cL_law 773 = .ok (.iadd, 1) := by decide +kernel
theorem dL_law_774 : decode cL_law 774 = .ok (.iaload, 1) := by decide +kernel
theorem dL_law_775 : decode cL_law 775 = .ok (.invokevirtual 84, 3) := by decide +kernel
theorem dL_law_778 : decode cL_law 778 = .ok (.aload_n 2, 1) := by decide +kernel
theorem dL_law_779 : decode cL_law 779 = .ok (.aload_n 0, 1) := by decide +kernel
theorem dL_law_780 : decode cL_law 780 = .ok (.iload 4, 2) := by decide +kernel
theorem dL_law_782 : decode cL_law 782 = .ok (.iconst 1, 1) := by decide +kernel
theorem dL_law_783 : decode cL_law 783 = .ok (.iadd, 1) := by decide +kernel
theorem dL_law_784 : decode cL_law 784 = .ok (.iaload, 1) := by decide +kernel
theorem dL_law_785 : decode cL_law 785 = .ok (.invokevirtual 87, 3) := by decide +kernel
theorem dL_law_788 : decode cL_law 788 = .ok (.if_icmp .eq 525, 3) := by decide +kernel
theorem dL_law_791 : decode cL_law 791 = .ok (.iconst 0, 1) := by decide +kernel
theorem dL_law_792 : decode cL_law 792 = .ok (.ireturn, 1) := by decide +kernel
theorem dL_law_793 : decode cL_law 793 = .ok (.aload_n 1, 1) := by decide +kernel
theorem dL_law_794 : decode cL_law 794 = .ok (.invokevirtual 88, 3) := by decide +kernel
theorem dL_law_797 : decode cL_law 797 = .ok (.aload_n 2, 1) := by decide +kernel
theorem dL_law_798 : decode cL_law 798 = .ok (.invokevirtual 92, 3) := by decide +kernel
theorem dL_law_801 : decode cL_law 801 = .ok (.if_icmp .eq 512, 3) := by decide +kernel
theorem dL_law_804 : decode cL_law 804 = .ok (.iconst 0, 1) := by decide +kernel
theorem dL_law_805 : decode cL_law 805 = .ok (.ireturn, 1) := by decide +kernel
theorem dL_law_806 : decode cL_law 806 = .ok (.aload_n 1, 1) := by decide +kernel
theorem dL_law_807 : decode cL_law 807 = .ok (.aload_n 0, 1) := by decide +kernel
theorem dL_law_808 : decode cL_law 808 = .ok (.iload 4, 2) := by decide +kernel
theorem dL_law_810 : decode cL_law 810 = .ok (.iconst 1, 1) := by decide +kernel
theorem dL_law_811 : decode cL_law 811 = .ok (.iadd, 1) := by decide +kernel
theorem dL_law_812 : decode cL_law 812 = .ok (.iaload, 1) := by decide +kernel
theorem dL_law_813 : decode cL_law 813 = .ok (.aload_n 0, 1) := by decide +kernel
theorem dL_law_814 : decode cL_law 814 = .ok (.iload 4, 2) := by decide +kernel
theorem dL_law_816 : decode cL_law 816 = .ok (.iconst 2, 1) := by decide +kernel
theorem dL_law_817 : decode cL_law 817 = .ok (.iadd, 1) := by decide +kernel
theorem dL_law_818 : decode cL_law 818 = .ok (.iaload, 1) := by decide +kernel
theorem dL_law_819 : decode cL_law 819 = .ok (.aload_n 0, 1) := by decide +kernel
theorem dL_law_820 : decode cL_law 820 = .ok (.iload 4, 2) := by decide +kernel
theorem dL_law_822 : decode cL_law 822 = .ok (.iconst 3, 1) := by decide +kernel
theorem dL_law_823 : decode cL_law 823 = .ok (.iadd, 1) := by decide +kernel
theorem dL_law_824 : decode cL_law 824 = .ok (.iaload, 1) := by decide +kernel
theorem dL_law_825 : decode cL_law 825 = .ok (.aload_n 0, 1) := by decide +kernel
theorem dL_law_826 : decode cL_law 826 = .ok (.iload 4, 2) := by decide +kernel
theorem dL_law_828 : decode cL_law 828 = .ok (.iconst 4, 1) := by decide +kernel
theorem dL_law_829 : decode cL_law 829 = .ok (.iadd, 1) := by decide +kernel
theorem dL_law_830 : decode cL_law 830 = .ok (.iaload, 1) := by decide +kernel
theorem dL_law_831 : decode cL_law 831 = .ok (.aload_n 0, 1) := by decide +kernel
theorem dL_law_832 : decode cL_law 832 = .ok (.iload 4, 2) := by decide +kernel
theorem dL_law_834 : decode cL_law 834 = .ok (.iconst 5, 1) := by decide +kernel
theorem dL_law_835 : decode cL_law 835 = .ok (.iadd, 1) := by decide +kernel
theorem dL_law_836 : decode cL_law 836 = .ok (.iaload, 1) := by decide +kernel
theorem dL_law_837 : decode cL_law 837 = .ok (.invokevirtual 93, 3) := by decide +kernel
theorem dL_law_840 : decode cL_law 840 = .ok (.aload_n 2, 1) := by decide +kernel
theorem dL_law_841 : decode cL_law 841 = .ok (.aload_n 0, 1) := by decide +kernel
theorem dL_law_842 : decode cL_law 842 = .ok (.iload 4, 2) := by decide +kernel
theorem dL_law_844 : decode cL_law 844 = .ok (.iconst 1, 1) := by decide +kernel
theorem dL_law_845 : decode cL_law 845 = .ok (.iadd, 1) := by decide +kernel
theorem dL_law_846 : decode cL_law 846 = .ok (.iaload, 1) := by decide +kernel
theorem dL_law_847 : decode cL_law 847 = .ok (.aload_n 0, 1) := by decide +kernel
theorem dL_law_848 : decode cL_law 848 = .ok (.iload 4, 2) := by decide +kernel
theorem dL_law_850 : decode cL_law 850 = .ok (.iconst 2, 1) := by decide +kernel
theorem dL_law_851 : decode cL_law 851 = .ok (.iadd, 1) := by decide +kernel
theorem dL_law_852 : decode cL_law 852 = .ok (.iaload, 1) := by decide +kernel
theorem dL_law_853 : decode cL_law 853 = .ok (.aload_n 0, 1) := by decide +kernel
theorem dL_law_854 : decode cL_law 854 = .ok (.iload 4, 2) := by decide +kernel
theorem dL_law_856 : decode cL_law 856 = .ok (.iconst 3, 1) := by decide +kernel
theorem dL_law_857 : decode cL_law 857 = .ok (.iadd, 1) := by decide +kernel
theorem dL_law_858 : decode cL_law 858 = .ok (.iaload, 1) := by decide +kernel
theorem dL_law_859 : decode cL_law 859 = .ok (.aload_n 0, 1) := by decide +kernel
theorem dL_law_860 : decode cL_law 860 = .ok (.iload 4, 2) := by decide +kernel
theorem dL_law_862 : decode cL_law 862 = .ok (.iconst 4, 1) := by decide +kernel
theorem dL_law_863 : decode cL_law 863 = .ok (.iadd, 1) := by decide +kernel
theorem dL_law_864 : decode cL_law 864 = .ok (.iaload, 1) := by decide +kernel
theorem dL_law_865 : decode cL_law 865 = .ok (.aload_n 0, 1) := by decide +kernel
theorem dL_law_866 : decode cL_law 866 = .ok (.iload 4, 2) := by decide +kernel
theorem dL_law_868 : decode cL_law 868 = .ok (.iconst 5, 1) := by decide +kernel
theorem dL_law_869 : decode cL_law 869 = .ok (.iadd, 1) := by decide +kernel
theorem dL_law_870 : decode cL_law 870 = .ok (.iaload, 1) := by decide +kernel
theorem dL_law_871 : decode cL_law 871 = .ok (.invokevirtual 96, 3) := by decide +kernel
theorem dL_law_874 : decode cL_law 874 = .ok (.if_icmp .eq 439, 3) := by decide +kernel
theorem dL_law_877 : decode cL_law 877 = .ok (.iconst 0, 1) := by decide +kernel
theorem dL_law_878 : decode cL_law 878 = .ok (.ireturn, 1) := by decide +kernel
theorem dL_law_879 : decode cL_law 879 = .ok (.aload_n 1, 1) := by decide +kernel
theorem dL_law_880 : decode cL_law 880 = .ok (.aload_n 0, 1) := by decide +kernel
theorem dL_law_881 : decode cL_law 881 = .ok (.iload 4, 2) := by decide +kernel
theorem dL_law_883 : decode cL_law 883 = .ok (.iconst 1, 1) := by decide +kernel
theorem dL_law_884 : decode cL_law 884 = .ok (.iadd, 1) := by decide +kernel
theorem dL_law_885 : decode cL_law 885 = .ok (.iaload, 1) := by decide +kernel
theorem dL_law_886 : decode cL_law 886 = .ok (.aload_n 0, 1) := by decide +kernel
theorem dL_law_887 : decode cL_law 887 = .ok (.iload 4, 2) := by decide +kernel
theorem dL_law_889 : decode cL_law 889 = .ok (.iconst 2, 1) := by decide +kernel
theorem dL_law_890 : decode cL_law 890 = .ok (.iadd, 1) := by decide +kernel
theorem dL_law_891 : decode cL_law 891 = .ok (.iaload, 1) := by decide +kernel
theorem dL_law_892 : decode cL_law 892 = .ok (.aload_n 0, 1) := by decide +kernel
theorem dL_law_893 : decode cL_law 893 = .ok (.iload 4, 2) := by decide +kernel
theorem dL_law_895 : decode cL_law 895 = .ok (.iconst 3, 1) := by decide +kernel
theorem dL_law_896 : decode cL_law 896 = .ok (.iadd, 1) := by decide +kernel
theorem dL_law_897 : decode cL_law 897 = .ok (.iaload, 1) := by decide +kernel
theorem dL_law_898 : decode cL_law 898 = .ok (.invokevirtual 97, 3) := by decide +kernel
theorem dL_law_901 : decode cL_law 901 = .ok (.aload_n 2, 1) := by decide +kernel
theorem dL_law_902 : decode cL_law 902 = .ok (.aload_n 0, 1) := by decide +kernel
theorem dL_law_903 : decode cL_law 903 = .ok (.iload 4, 2) := by decide +kernel
theorem dL_law_905 : decode cL_law 905 = .ok (.iconst 1, 1) := by decide +kernel
theorem dL_law_906 : decode cL_law 906 = .ok (.iadd, 1) := by decide +kernel
theorem dL_law_907 : decode cL_law 907 = .ok (.iaload, 1) := by decide +kernel
theorem dL_law_908 : decode cL_law 908 = .ok (.aload_n 0, 1) := by decide +kernel
theorem dL_law_909 : decode cL_law 909 = .ok (.iload 4, 2) := by decide +kernel
theorem dL_law_911 : decode cL_law 911 = .ok (.iconst 2, 1) := by decide +kernel
theorem dL_law_912 : decode cL_law 912 = .ok (.iadd, 1) := by decide +kernel
theorem dL_law_913 : decode cL_law 913 = .ok (.iaload, 1) := by decide +kernel
theorem dL_law_914 : decode cL_law 914 = .ok (.aload_n 0, 1) := by decide +kernel
theorem dL_law_915 : decode cL_law 915 = .ok (.iload 4, 2) := by decide +kernel
theorem dL_law_917 : decode cL_law 917 = .ok (.iconst 3, 1) := by decide +kernel
theorem dL_law_918 : decode cL_law 918 = .ok (.iadd, 1) := by decide +kernel
theorem dL_law_919 : decode cL_law 919 = .ok (.iaload, 1) := by decide +kernel
theorem dL_law_920 : decode cL_law 920 = .ok (.invokevirtual 100, 3) := by decide +kernel
theorem dL_law_923 : decode cL_law 923 = .ok (.if_icmp .eq 390, 3) := by decide +kernel
theorem dL_law_926 : decode cL_law 926 = .ok (.iconst 0, 1) := by decide +kernel
theorem dL_law_927 : decode cL_law 927 = .ok (.ireturn, 1) := by decide +kernel
theorem dL_law_928 : decode cL_law 928 = .ok (.aload_n 1, 1) := by decide +kernel
theorem dL_law_929 : decode cL_law 929 = .ok (.aload_n 0, 1) := by decide +kernel
theorem dL_law_930 : decode cL_law 930 = .ok (.iload 4, 2) := by decide +kernel
theorem dL_law_932 : decode cL_law 932 = .ok (.iconst 1, 1) := by decide +kernel
theorem dL_law_933 : decode cL_law 933 = .ok (.iadd, 1) := by decide +kernel
theorem dL_law_934 : decode cL_law 934 = .ok (.iaload, 1) := by decide +kernel
theorem dL_law_935 : decode cL_law 935 = .ok (.aload_n 0, 1) := by decide +kernel
theorem dL_law_936 : decode cL_law 936 = .ok (.iload 4, 2) := by decide +kernel
theorem dL_law_938 : decode cL_law 938 = .ok (.iconst 2, 1) := by decide +kernel
theorem dL_law_939 : decode cL_law 939 = .ok (.iadd, 1) := by decide +kernel
theorem dL_law_940 : decode cL_law 940 = .ok (.iaload, 1) := by decide +kernel
theorem dL_law_941 : decode cL_law 941 = .ok (.invokevirtual 101, 3) := by decide +kernel
theorem dL_law_944 : decode cL_law 944 = .ok (.aload_n 2, 1) := by decide +kernel
theorem dL_law_945 : decode cL_law 945 = .ok (.aload_n 0, 1) := by decide +kernel
theorem dL_law_946 : decode cL_law 946 = .ok (.iload 4, 2) := by decide +kernel
theorem dL_law_948 : decode cL_law 948 = .ok (.iconst 1, 1) := by decide +kernel
theorem dL_law_949 : decode cL_law 949 = .ok (.iadd, 1) := by decide +kernel
theorem dL_law_950 : decode cL_law 950 = .ok (.iaload, 1) := by decide +kernel
theorem dL_law_951 : decode cL_law 951 = .ok (.aload_n 0, 1) := by decide +kernel
theorem dL_law_952 : decode cL_law 952 = .ok (.iload 4, 2) := by decide +kernel
theorem dL_law_954 : decode cL_law 954 = .ok (.iconst 2, 1) := by decide +kernel
theorem dL_law_955 : decode cL_law 955 = .ok (.iadd, 1) := by decide +kernel
theorem dL_law_956 : decode cL_law 956 = .ok (.iaload, 1) := by decide +kernel
theorem dL_law_957 : decode cL_law 957 = .ok (.invokevirtual 104, 3) := by decide +kernel
theorem dL_law_960 : decode cL_law 960 = .ok (.if_icmp .eq 353, 3) := by decide +kernel
theorem dL_law_963 : decode cL_law 963 = .ok (.iconst 0, 1) := by decide +kernel
theorem dL_law_964 : decode cL_law 964 = .ok (.ireturn, 1) := by decide +kernel
theorem dL_law_965 : decode cL_law 965 = .ok (.aload_n 1, 1) := by decide +kernel
theorem dL_law_966 : decode cL_law 966 = .ok (.aload_n 0, 1) := by decide +kernel
theorem dL_law_967 : decode cL_law 967 = .ok (.iload 4, 2) := by decide +kernel
theorem dL_law_969 : decode cL_law 969 = .ok (.iconst 1, 1) := by decide +kernel
theorem dL_law_970 : decode cL_law 970 = .ok (.iadd, 1) := by decide +kernel
theorem dL_law_971 : decode cL_law 971 = .ok (.iaload, 1) := by decide +kernel
theorem dL_law_972 : decode cL_law 972 = .ok (.invokevirtual 105, 3) := by decide +kernel
theorem dL_law_975 : decode cL_law 975 = .ok (.aload_n 2, 1) := by decide +kernel
theorem dL_law_976 : decode cL_law 976 = .ok (.aload_n 0, 1) := by decide +kernel
theorem dL_law_977 : decode cL_law 977 = .ok (.iload 4, 2) := by decide +kernel
theorem dL_law_979 : decode cL_law 979 = .ok (.iconst 1, 1) := by decide +kernel
theorem dL_law_980 : decode cL_law 980 = .ok (.iadd, 1) := by decide +kernel
theorem dL_law_981 : decode cL_law 981 = .ok (.iaload, 1) := by decide +kernel
theorem dL_law_982 : decode cL_law 982 = .ok (.invokevirtual 108, 3) := by decide +kernel
theorem dL_law_985 : decode cL_law 985 = .ok (.if_icmp .eq 328, 3) := by decide +kernel
theorem dL_law_988 : decode cL_law 988 = .ok (.iconst 0, 1) := by decide +kernel
theorem dL_law_989 : decode cL_law 989 = .ok (.ireturn, 1) := by decide +kernel
theorem dL_law_990 : decode cL_law 990 = .ok (.aload_n 1, 1) := by decide +kernel
theorem dL_law_991 : decode cL_law 991 = .ok (.invokevirtual 109, 3) := by decide +kernel
theorem dL_law_994 : decode cL_law 994 = .ok (.aload_n 2, 1) := by decide +kernel
theorem dL_law_995 : decode cL_law 995 = .ok (.invokevirtual 112, 3) := by decide +kernel
theorem dL_law_998 : decode cL_law 998 = .ok (.if_icmp .eq 315, 3) := by decide +kernel
theorem dL_law_1001 : decode cL_law 1001 = .ok (.iconst 0, 1) := by decide +kernel
theorem dL_law_1002 : decode cL_law 1002 = .ok (.ireturn, 1) := by decide +kernel
theorem dL_law_1003 : decode cL_law 1003 = .ok (.aload_n 1, 1) := by decide +kernel
theorem dL_law_1004 : decode cL_law 1004 = .ok (.aload_n 0, 1) := by decide +kernel
theorem dL_law_1005 : decode cL_law 1005 = .ok (.iload 4, 2) := by decide +kernel
theorem dL_law_1007 : decode cL_law 1007 = .ok (.iconst 1, 1) := by decide +kernel
theorem dL_law_1008 : decode cL_law 1008 = .ok (.iadd, 1) := by decide +kernel
theorem dL_law_1009 : decode cL_law 1009 = .ok (.iaload, 1) := by decide +kernel
theorem dL_law_1010 : decode cL_law 1010 = .ok (.aload_n 0, 1) := by decide +kernel
theorem dL_law_1011 : decode cL_law 1011 = .ok (.iload 4, 2) := by decide +kernel
theorem dL_law_1013 : decode cL_law 1013 = .ok (.iconst 2, 1) := by decide +kernel
theorem dL_law_1014 : decode cL_law 1014 = .ok (.iadd, 1) := by decide +kernel
theorem dL_law_1015 : decode cL_law 1015 = .ok (.iaload, 1) := by decide +kernel
theorem dL_law_1016 : decode cL_law 1016 = .ok (.aload_n 0, 1) := by decide +kernel
theorem dL_law_1017 : decode cL_law 1017 = .ok (.iload 4, 2) := by decide +kernel
theorem dL_law_1019 : decode cL_law 1019 = .ok (.iconst 3, 1) := by decide +kernel
theorem dL_law_1020 : decode cL_law 1020 = .ok (.iadd, 1) := by decide +kernel
theorem dL_law_1021 : decode cL_law 1021 = .ok (.iaload, 1) := by decide +kernel
theorem dL_law_1022 : decode cL_law 1022 = .ok (.aload_n 0, 1) := by decide +kernel
theorem dL_law_1023 : decode cL_law 1023 = .ok (.iload 4, 2) := by decide +kernel
theorem dL_law_1025 : decode cL_law 1025 = .ok (.iconst 4, 1) := by decide +kernel
theorem dL_law_1026 : decode cL_law 1026 = .ok (.iadd, 1) := by decide +kernel
theorem dL_law_1027 : decode cL_law 1027 = .ok (.iaload, 1) := by decide +kernel
theorem dL_law_1028 : decode cL_law 1028 = .ok (.invokevirtual 113, 3) := by decide +kernel
theorem dL_law_1031 : decode cL_law 1031 = .ok (.aload_n 2, 1) := by decide +kernel
theorem dL_law_1032 : decode cL_law 1032 = .ok (.aload_n 0, 1) := by decide +kernel
theorem dL_law_1033 : decode cL_law 1033 = .ok (.iload 4, 2) := by decide +kernel
theorem dL_law_1035 : decode cL_law 1035 = .ok (.iconst 1, 1) := by decide +kernel
theorem dL_law_1036 : decode cL_law 1036 = .ok (.iadd, 1) := by decide +kernel
theorem dL_law_1037 : decode cL_law 1037 = .ok (.iaload, 1) := by decide +kernel
theorem dL_law_1038 : decode cL_law 1038 = .ok (.aload_n 0, 1) := by decide +kernel
theorem dL_law_1039 : decode cL_law 1039 = .ok (.iload 4, 2) := by decide +kernel
theorem dL_law_1041 : decode cL_law 1041 = .ok (.iconst 2, 1) := by decide +kernel
theorem dL_law_1042 : decode cL_law 1042 = .ok (.iadd, 1) := by decide +kernel
theorem dL_law_1043 : decode cL_law 1043 = .ok (.iaload, 1) := by decide +kernel
theorem dL_law_1044 : decode cL_law 1044 = .ok (.aload_n 0, 1) := by decide +kernel
theorem dL_law_1045 : decode cL_law 1045 = .ok (.iload 4, 2) := by decide +kernel
theorem dL_law_1047 : decode cL_law 1047 = .ok (.iconst 3, 1) := by decide +kernel
theorem dL_law_1048 : decode cL_law 1048 = .ok (.iadd, 1) := by decide +kernel
theorem dL_law_1049 : decode cL_law 1049 = .ok (.iaload, 1) := by decide +kernel
theorem dL_law_1050 : decode cL_law 1050 = .ok (.aload_n 0, 1) := by decide +kernel
theorem dL_law_1051 : decode cL_law 1051 = .ok (.iload 4, 2) := by decide +kernel
theorem dL_law_1053 : decode cL_law 1053 = .ok (.iconst 4, 1) := by decide +kernel
theorem dL_law_1054 : decode cL_law 1054 = .ok (.iadd, 1) := by decide +kernel
theorem dL_law_1055 : decode cL_law 1055 = .ok (.iaload, 1) := by decide +kernel
theorem dL_law_1056 : decode cL_law 1056 = .ok (.invokevirtual 117, 3) := by decide +kernel
theorem dL_law_1059 : decode cL_law 1059 = .ok (.if_icmp .eq 254, 3) := by decide +kernel
theorem dL_law_1062 : decode cL_law 1062 = .ok (.iconst 0, 1) := by decide +kernel
theorem dL_law_1063 : decode cL_law 1063 = .ok (.ireturn, 1) := by decide +kernel
theorem dL_law_1064 : decode cL_law 1064 = .ok (.aload_n 1, 1) := by decide +kernel
theorem dL_law_1065 : decode cL_law 1065 = .ok (.aload_n 0, 1) := by decide +kernel
theorem dL_law_1066 : decode cL_law 1066 = .ok (.iload 4, 2) := by decide +kernel
theorem dL_law_1068 : decode cL_law 1068 = .ok (.iconst 1, 1) := by decide +kernel
theorem dL_law_1069 : decode cL_law 1069 = .ok (.iadd, 1) := by decide +kernel
theorem dL_law_1070 : decode cL_law 1070 = .ok (.iaload, 1) := by decide +kernel
theorem dL_law_1071 : decode cL_law 1071 = .ok (.aload_n 0, 1) := by decide +kernel
theorem dL_law_1072 : decode cL_law 1072 = .ok (.iload 4, 2) := by decide +kernel
theorem dL_law_1074 : decode cL_law 1074 = .ok (.iconst 2, 1) := by decide +kernel
theorem dL_law_1075 : decode cL_law 1075 = .ok (.iadd, 1) := by decide +kernel
theorem dL_law_1076 : decode cL_law 1076 = .ok (.iaload, 1) := by decide +kernel
theorem dL_law_1077 : decode cL_law 1077 = .ok (.aload_n 0, 1) := by decide +kernel
theorem dL_law_1078 : decode cL_law 1078 = .ok (.iload 4, 2) := by decide +kernel
theorem dL_law_1080 : decode cL_law 1080 = .ok (.iconst 3, 1) := by decide +kernel
theorem dL_law_1081 : decode cL_law 1081 = .ok (.iadd, 1) := by decide +kernel
theorem dL_law_1082 : decode cL_law 1082 = .ok (.iaload, 1) := by decide +kernel
theorem dL_law_1083 : decode cL_law 1083 = .ok (.aload_n 0, 1) := by decide +kernel
theorem dL_law_1084 : decode cL_law 1084 = .ok (.iload 4, 2) := by decide +kernel
theorem dL_law_1086 : decode cL_law 1086 = .ok (.iconst 4, 1) := by decide +kernel
theorem dL_law_1087 : decode cL_law 1087 = .ok (.iadd, 1) := by decide +kernel
theorem dL_law_1088 : decode cL_law 1088 = .ok (.iaload, 1) := by decide +kernel
theorem dL_law_1089 : decode cL_law 1089 = .ok (.aload_n 0, 1) := by decide +kernel
theorem dL_law_1090 : decode cL_law 1090 = .ok (.iload 4, 2) := by decide +kernel
theorem dL_law_1092 : decode cL_law 1092 = .ok (.iconst 5, 1) := by decide +kernel
theorem dL_law_1093 : decode cL_law 1093 = .ok (.iadd, 1) := by decide +kernel
theorem dL_law_1094 : decode cL_law 1094 = .ok (.iaload, 1) := by decide +kernel
theorem dL_law_1095 : decode cL_law 1095 = .ok (.aload_n 0, 1) := by decide +kernel
theorem dL_law_1096 : decode cL_law 1096 = .ok (.iload 4, 2) := by decide +kernel
theorem dL_law_1098 : decode cL_law 1098 = .ok (.bipush 6, 2) := by decide +kernel
theorem dL_law_1100 : decode cL_law 1100 = .ok (.iadd, 1) := by decide +kernel
theorem dL_law_1101 : decode cL_law 1101 = .ok (.iaload, 1) := by decide +kernel
theorem dL_law_1102 : decode cL_law 1102 = .ok (.ifCond .eq 7, 3) := by decide +kernel
theorem dL_law_1105 : decode cL_law 1105 = .ok (.iconst 1, 1) := by decide +kernel
theorem dL_law_1106 : decode cL_law 1106 = .ok (.goto 4, 3) := by decide +kernel
theorem dL_law_1109 : decode cL_law 1109 = .ok (.iconst 0, 1) := by decide +kernel
theorem dL_law_1110 : decode cL_law 1110 = .ok (.invokevirtual 118, 3) := by decide +kernel
theorem dL_law_1113 : decode cL_law 1113 = .ok (.aload_n 2, 1) := by decide +kernel
theorem dL_law_1114 : decode cL_law 1114 = .ok (.aload_n 0, 1) := by decide +kernel
theorem dL_law_1115 : decode cL_law 1115 = .ok (.iload 4, 2) := by decide +kernel
theorem dL_law_1117 : decode cL_law 1117 = .ok (.iconst 1, 1) := by decide +kernel
theorem dL_law_1118 : decode cL_law 1118 = .ok (.iadd, 1) := by decide +kernel
theorem dL_law_1119 : decode cL_law 1119 = .ok (.iaload, 1) := by decide +kernel
theorem dL_law_1120 : decode cL_law 1120 = .ok (.aload_n 0, 1) := by decide +kernel
theorem dL_law_1121 : decode cL_law 1121 = .ok (.iload 4, 2) := by decide +kernel
theorem dL_law_1123 : decode cL_law 1123 = .ok (.iconst 2, 1) := by decide +kernel
theorem dL_law_1124 : decode cL_law 1124 = .ok (.iadd, 1) := by decide +kernel
theorem dL_law_1125 : decode cL_law 1125 = .ok (.iaload, 1) := by decide +kernel
theorem dL_law_1126 : decode cL_law 1126 = .ok (.aload_n 0, 1) := by decide +kernel
theorem dL_law_1127 : decode cL_law 1127 = .ok (.iload 4, 2) := by decide +kernel
theorem dL_law_1129 : decode cL_law 1129 = .ok (.iconst 3, 1) := by decide +kernel
theorem dL_law_1130 : decode cL_law 1130 = .ok (.iadd, 1) := by decide +kernel
theorem dL_law_1131 : decode cL_law 1131 = .ok (.iaload, 1) := by decide +kernel
theorem dL_law_1132 : decode cL_law 1132 = .ok (.aload_n 0, 1) := by decide +kernel
theorem dL_law_1133 : decode cL_law 1133 = .ok (.iload 4, 2) := by decide +kernel
theorem dL_law_1135 : decode cL_law 1135 = .ok (.iconst 4, 1) := by decide +kernel
theorem dL_law_1136 : decode cL_law 1136 = .ok (.iadd, 1) := by decide +kernel
theorem dL_law_1137 : decode cL_law 1137 = .ok (.iaload, 1) := by decide +kernel
theorem dL_law_1138 : decode cL_law 1138 = .ok (.aload_n 0, 1) := by decide +kernel
theorem dL_law_1139 : decode cL_law 1139 = .ok (.iload 4, 2) := by decide +kernel
theorem dL_law_1141 : decode cL_law 1141 = .ok (.iconst 5, 1) := by decide +kernel
theorem dL_law_1142 : decode cL_law 1142 = .ok (.iadd, 1) := by decide +kernel
theorem dL_law_1143 : decode cL_law 1143 = .ok (.iaload, 1) := by decide +kernel
theorem dL_law_1144 : decode cL_law 1144 = .ok (.aload_n 0, 1) := by decide +kernel
theorem dL_law_1145 : decode cL_law 1145 = .ok (.iload 4, 2) := by decide +kernel
theorem dL_law_1147 : decode cL_law 1147 = .ok (.bipush 6, 2) := by decide +kernel
theorem dL_law_1149 : decode cL_law 1149 = .ok (.iadd, 1) := by decide +kernel
theorem dL_law_1150 : decode cL_law 1150 = .ok (.iaload, 1) := by decide +kernel
theorem dL_law_1151 : decode cL_law 1151 = .ok (.ifCond .eq 7, 3) := by decide +kernel
theorem dL_law_1154 : decode cL_law 1154 = .ok (.iconst 1, 1) := by decide +kernel
theorem dL_law_1155 : decode cL_law 1155 = .ok (.goto 4, 3) := by decide +kernel
theorem dL_law_1158 : decode cL_law 1158 = .ok (.iconst 0, 1) := by decide +kernel
theorem dL_law_1159 : decode cL_law 1159 = .ok (.invokevirtual 122, 3) := by decide +kernel
theorem dL_law_1162 : decode cL_law 1162 = .ok (.if_icmp .eq 151, 3) := by decide +kernel
theorem dL_law_1165 : decode cL_law 1165 = .ok (.iconst 0, 1) := by decide +kernel
theorem dL_law_1166 : decode cL_law 1166 = .ok (.ireturn, 1) := by decide +kernel
theorem dL_law_1167 : decode cL_law 1167 = .ok (.aload_n 1, 1) := by decide +kernel
theorem dL_law_1168 : decode cL_law 1168 = .ok (.aload_n 0, 1) := by decide +kernel
theorem dL_law_1169 : decode cL_law 1169 = .ok (.iload 4, 2) := by decide +kernel
theorem dL_law_1171 : decode cL_law 1171 = .ok (.iconst 1, 1) := by decide +kernel
theorem dL_law_1172 : decode cL_law 1172 = .ok (.iadd, 1) := by decide +kernel
theorem dL_law_1173 : decode cL_law 1173 = .ok (.iaload, 1) := by decide +kernel
theorem dL_law_1174 : decode cL_law 1174 = .ok (.aload_n 0, 1) := by decide +kernel
theorem dL_law_1175 : decode cL_law 1175 = .ok (.iload 4, 2) := by decide +kernel
theorem dL_law_1177 : decode cL_law 1177 = .ok (.iconst 2, 1) := by decide +kernel
theorem dL_law_1178 : decode cL_law 1178 = .ok (.iadd, 1) := by decide +kernel
theorem dL_law_1179 : decode cL_law 1179 = .ok (.iaload, 1) := by decide +kernel
theorem dL_law_1180 : decode cL_law 1180 = .ok (.aload_n 3, 1) := by decide +kernel
theorem dL_law_1181 : decode cL_law 1181 = .ok (.invokestatic 123, 3) := by decide +kernel
theorem dL_law_1184 : decode cL_law 1184 = .ok (.istore 5, 2) := by decide +kernel
theorem dL_law_1186 : decode cL_law 1186 = .ok (.aload_n 2, 1) := by decide +kernel
theorem dL_law_1187 : decode cL_law 1187 = .ok (.aload_n 0, 1) := by decide +kernel
theorem dL_law_1188 : decode cL_law 1188 = .ok (.iload 4, 2) := by decide +kernel
theorem dL_law_1190 : decode cL_law 1190 = .ok (.iconst 1, 1) := by decide +kernel
theorem dL_law_1191 : decode cL_law 1191 = .ok (.iadd, 1) := by decide +kernel
theorem dL_law_1192 : decode cL_law 1192 = .ok (.iaload, 1) := by decide +kernel
theorem dL_law_1193 : decode cL_law 1193 = .ok (.aload_n 0, 1) := by decide +kernel
theorem dL_law_1194 : decode cL_law 1194 = .ok (.iload 4, 2) := by decide +kernel
theorem dL_law_1196 : decode cL_law 1196 = .ok (.iconst 2, 1) := by decide +kernel
theorem dL_law_1197 : decode cL_law 1197 = .ok (.iadd, 1) := by decide +kernel
theorem dL_law_1198 : decode cL_law 1198 = .ok (.iaload, 1) := by decide +kernel
theorem dL_law_1199 : decode cL_law 1199 = .ok (.invokevirtual 128, 3) := by decide +kernel
theorem dL_law_1202 : decode cL_law 1202 = .ok (.istore 6, 2) := by decide +kernel
theorem dL_law_1204 : decode cL_law 1204 = .ok (.aload_n 2, 1) := by decide +kernel
theorem dL_law_1205 : decode cL_law 1205 = .ok (.invokevirtual 129, 3) := by decide +kernel
theorem dL_law_1208 : decode cL_law 1208 = .ok (.iload 5, 2) := by decide +kernel
theorem dL_law_1210 : decode cL_law 1210 = .ok (.if_icmp .eq 5, 3) := by decide +kernel
theorem dL_law_1213 : decode cL_law 1213 = .ok (.iconst 0, 1) := by decide +kernel
theorem dL_law_1214 : decode cL_law 1214 = .ok (.ireturn, 1) := by decide +kernel
theorem dL_law_1215 : decode cL_law 1215 = .ok (.iload 5, 2) := by decide +kernel
theorem dL_law_1217 : decode cL_law 1217 = .ok (.ifCond .ne 15, 3) := by decide +kernel
theorem dL_law_1220 : decode cL_law 1220 = .ok (.aload_n 3, 1) := by decide +kernel
theorem dL_law_1221 : decode cL_law 1221 = .ok (.iconst 0, 1) := by decide +kernel
theorem dL_law_1222 : decode cL_law 1222 = .ok (.laload, 1) := by decide +kernel
theorem dL_law_1223 : decode cL_law 1223 = .ok (.iload 6, 2) := by decide +kernel
theorem dL_law_1225 : decode cL_law 1225 = .ok (.i2l, 1) := by decide +kernel
theorem dL_law_1226 : decode cL_law 1226 = .ok (.lcmp, 1) := by decide +kernel
theorem dL_law_1227 : decode cL_law 1227 = .ok (.ifCond .eq 5, 3) := by decide +kernel
theorem dL_law_1230 : decode cL_law 1230 = .ok (.iconst 0, 1) := by decide +kernel
theorem dL_law_1231 : decode cL_law 1231 = .ok (.ireturn, 1) := by decide +kernel
theorem dL_law_1232 : decode cL_law 1232 = .ok (.goto 81, 3) := by decide +kernel
theorem dL_law_1235 : decode cL_law 1235 = .ok (.aload_n 1, 1) := by decide +kernel
theorem dL_law_1236 : decode cL_law 1236 = .ok (.aload_n 0, 1) := by decide +kernel
theorem dL_law_1237 : decode cL_law 1237 = .ok (.iload 4, 2) := by decide +kernel
theorem dL_law_1239 : decode cL_law 1239 = .ok (.iconst 1, 1) := by decide +kernel
theorem dL_law_1240 : decode cL_law 1240 = .ok (.iadd, 1) := by decide +kernel
theorem dL_law_1241 : decode cL_law 1241 = .ok (.iaload, 1) := by decide +kernel
theorem dL_law_1242 : decode cL_law 1242 = .ok (.aload_n 0, 1) := by decide +kernel
theorem dL_law_1243 : decode cL_law 1243 = .ok (.iload 4, 2) := by decide +kernel
theorem dL_law_1245 : decode cL_law 1245 = .ok (.iconst 2, 1) := by decide +kernel
theorem dL_law_1246 : decode cL_law 1246 = .ok (.iadd, 1) := by decide +kernel
theorem dL_law_1247 : decode cL_law 1247 = .ok (.iaload, 1) := by decide +kernel
theorem dL_law_1248 : decode cL_law 1248 = .ok (.ifCond .eq 7, 3) := by decide +kernel
theorem dL_law_1251 : decode cL_law 1251 = .ok (.iconst 1, 1) := by decide +kernel
theorem dL_law_1252 : decode cL_law 1252 = .ok (.goto 4, 3) := by decide +kernel
theorem dL_law_1255 : decode cL_law 1255 = .ok (.iconst 0, 1) := by decide +kernel
theorem dL_law_1256 : decode cL_law 1256 = .ok (.invokevirtual 132, 3) := by decide +kernel
theorem dL_law_1259 : decode cL_law 1259 = .ok (.aload_n 2, 1) := by decide +kernel
theorem dL_law_1260 : decode cL_law 1260 = .ok (.aload_n 0, 1) := by decide +kernel
theorem dL_law_1261 : decode cL_law 1261 = .ok (.iload 4, 2) := by decide +kernel
theorem dL_law_1263 : decode cL_law 1263 = .ok (.iconst 1, 1) := by decide +kernel
theorem dL_law_1264 : decode cL_law 1264 = .ok (.iadd, 1) := by decide +kernel
theorem dL_law_1265 : decode cL_law 1265 = .ok (.iaload, 1) := by decide +kernel
theorem dL_law_1266 : decode cL_law 1266 = .ok (.aload_n 0, 1) := by decide +kernel
theorem dL_law_1267 : decode cL_law 1267 = .ok (.iload 4, 2) := by decide +kernel
theorem dL_law_1269 : decode cL_law 1269 = .ok (.iconst 2, 1) := by decide +kernel
theorem dL_law_1270 : decode cL_law 1270 = .ok (.iadd, 1) := by decide +kernel
theorem dL_law_1271 : decode cL_law 1271 = .ok (.iaload, 1) := by decide +kernel
theorem dL_law_1272 : decode cL_law 1272 = .ok (.ifCond .eq 7, 3) := by decide +kernel
theorem dL_law_1275 : decode cL_law 1275 = .ok (.iconst 1, 1) := by decide +kernel
theorem dL_law_1276 : decode cL_law 1276 = .ok (.goto 4, 3) := by decide +kernel
theorem dL_law_1279 : decode cL_law 1279 = .ok (.iconst 0, 1) := by decide +kernel
theorem dL_law_1280 : decode cL_law 1280 = .ok (.invokevirtual 135, 3) := by decide +kernel
theorem dL_law_1283 : decode cL_law 1283 = .ok (.if_icmp .eq 30, 3) := by decide +kernel
theorem dL_law_1286 : decode cL_law 1286 = .ok (.iconst 0, 1) := by decide +kernel
theorem dL_law_1287 : decode cL_law 1287 = .ok (.ireturn, 1) := by decide +kernel
theorem dL_law_1288 : decode cL_law 1288 = .ok (.aload_n 1, 1) := by decide +kernel
theorem dL_law_1289 : decode cL_law 1289 = .ok (.aload_n 0, 1) := by decide +kernel
theorem dL_law_1290 : decode cL_law 1290 = .ok (.iload 4, 2) := by decide +kernel
theorem dL_law_1292 : decode cL_law 1292 = .ok (.iconst 1, 1) := by decide +kernel
theorem dL_law_1293 : decode cL_law 1293 = .ok (.iadd, 1) := by decide +kernel
theorem dL_law_1294 : decode cL_law 1294 = .ok (.iaload, 1) := by decide +kernel
theorem dL_law_1295 : decode cL_law 1295 = .ok (.invokevirtual 136, 3) := by decide +kernel
theorem dL_law_1298 : decode cL_law 1298 = .ok (.aload_n 2, 1) := by decide +kernel
theorem dL_law_1299 : decode cL_law 1299 = .ok (.aload_n 0, 1) := by decide +kernel
theorem dL_law_1300 : decode cL_law 1300 = .ok (.iload 4, 2) := by decide +kernel
theorem dL_law_1302 : decode cL_law 1302 = .ok (.iconst 1, 1) := by decide +kernel
theorem dL_law_1303 : decode cL_law 1303 = .ok (.iadd, 1) := by decide +kernel
theorem dL_law_1304 : decode cL_law 1304 = .ok (.iaload, 1) := by decide +kernel
theorem dL_law_1305 : decode cL_law 1305 = .ok (.invokevirtual 139, 3) := by decide +kernel
theorem dL_law_1308 : decode cL_law 1308 = .ok (.if_icmp .eq 5, 3) := by decide +kernel
theorem dL_law_1311 : decode cL_law 1311 = .ok (.iconst 0, 1) := by decide +kernel
theorem dL_law_1312 : decode cL_law 1312 = .ok (.ireturn, 1) := by decide +kernel
theorem dL_law_1313 : decode cL_law 1313 = .ok (.iinc 4 7, 3) := by decide +kernel
theorem dL_law_1316 : decode cL_law 1316 = .ok (.goto (-1293), 3) := by decide +kernel
theorem dL_law_1319 : decode cL_law 1319 = .ok (.iconst 1, 1) := by decide +kernel
theorem dL_law_1320 : decode cL_law 1320 = .ok (.ireturn, 1) := by decide +kernel
