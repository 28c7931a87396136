theorem dX0_init_0 : decode cX0_init 0 = .ok (.aload_n 0, 1) := by decide +kernel
theorem dX0_init_1 : decode cX0_init 1 = .ok (.invokespecial 3, 3) := by decide +kernel
theorem dX0_init_4 : decode cX0_init 4 = .ok (.aload_n 0, 1) := by decide +kernel
theorem dX0_init_5 : decode cX0_init 5 = .ok (.bipush 6, 2) := by decide +kernel
theorem dX0_init_7 : decode cX0_init 7 = .ok (.newarray .long, 2) := by decide +kernel
theorem dX0_init_9 : decode cX0_init 9 = .ok (.putfield 9, 3) := by decide +kernel
theorem dX0_init_12 : decode cX0_init 12 = .ok (.aload_n 0, 1) := by decide +kernel
theorem dX0_init_13 : decode cX0_init 13 = .ok (.bipush 6, 2) := by decide +kernel
theorem dX0_init_15 : decode cX0_init 15 = .ok (.newarray .int, 2) := by decide +kernel
theorem dX0_init_17 : decode cX0_init 17 = .ok (.putfield 15, 3) := by decide +kernel
theorem dX0_init_20 : decode cX0_init 20 = .ok (.aload_n 0, 1) := by decide +kernel
theorem dX0_init_21 : decode cX0_init 21 = .ok (.bipush 6, 2) := by decide +kernel
theorem dX0_init_23 : decode cX0_init 23 = .ok (.newarray .int, 2) := by decide +kernel
theorem dX0_init_25 : decode cX0_init 25 = .ok (.putfield 19, 3) := by decide +kernel
theorem dX0_init_28 : decode cX0_init 28 = .ok (.aload_n 0, 1) := by decide +kernel
theorem dX0_init_29 : decode cX0_init 29 = .ok (.bipush 12, 2) := by decide +kernel
theorem dX0_init_31 : decode cX0_init 31 = .ok (.newarray .int, 2) := by decide +kernel
theorem dX0_init_33 : decode cX0_init 33 = .ok (.putfield 22, 3) := by decide +kernel
theorem dX0_init_36 : decode cX0_init 36 = .ok (.aload_n 0, 1) := by decide +kernel
theorem dX0_init_37 : decode cX0_init 37 = .ok (.bipush 12, 2) := by decide +kernel
theorem dX0_init_39 : decode cX0_init 39 = .ok (.newarray .int, 2) := by decide +kernel
theorem dX0_init_41 : decode cX0_init 41 = .ok (.putfield 25, 3) := by decide +kernel
theorem dX0_init_44 : decode cX0_init 44 = .ok (.aload_n 0, 1) := by decide +kernel
theorem dX0_init_45 : decode cX0_init 45 = .ok (.bipush 12, 2) := by decide +kernel
theorem dX0_init_47 : decode cX0_init 47 = .ok (.newarray .int, 2) := by decide +kernel
theorem dX0_init_49 : decode cX0_init 49 = .ok (.putfield 28, 3) := by decide +kernel
theorem dX0_init_52 : decode cX0_init 52 = .ok (.aload_n 0, 1) := by decide +kernel
theorem dX0_init_53 : decode cX0_init 53 = .ok (.bipush 12, 2) := by decide +kernel
theorem dX0_init_55 : decode cX0_init 55 = .ok (.newarray .int, 2) := by decide +kernel
theorem dX0_init_57 : decode cX0_init 57 = .ok (.putfield 31, 3) := by decide +kernel
theorem dX0_init_60 : decode cX0_init 60 = .ok (.aload_n 0, 1) := by decide +kernel
theorem dX0_init_61 : decode cX0_init 61 = .ok (.new 34, 3) := by decide +kernel
theorem dX0_init_64 : decode cX0_init 64 = .ok (.dup, 1) := by decide +kernel
theorem dX0_init_65 : decode cX0_init 65 = .ok (.invokespecial 36, 3) := by decide +kernel
theorem dX0_init_68 : decode cX0_init 68 = .ok (.putfield 37, 3) := by decide +kernel
theorem dX0_init_71 : decode cX0_init 71 = .ok (.aload_n 0, 1) := by decide +kernel
theorem dX0_init_72 : decode cX0_init 72 = .ok (.invokevirtual 41, 3) := by decide +kernel
theorem dX0_init_75 : decode cX0_init 75 = .ok (.return_, 1) := by decide +kernel
theorem dX0_begin_0 : decode cX0_begin 0 = .ok (.aload_n 0, 1) := by decide +kernel
theorem dX0_begin_1 : decode cX0_begin 1 = .ok (.iconst 4, 1) := by decide +kernel
theorem dX0_begin_2 : decode cX0_begin 2 = .ok (.putfield 44, 3) := by decide +kernel
theorem dX0_begin_5 : decode cX0_begin 5 = .ok (.aload_n 0, 1) := by decide +kernel
theorem dX0_begin_6 : decode cX0_begin 6 = .ok (.iconst 4, 1) := by decide +kernel
theorem dX0_begin_7 : decode cX0_begin 7 = .ok (.putfield 48, 3) := by decide +kernel
theorem dX0_begin_10 : decode cX0_begin 10 = .ok (.aload_n 0, 1) := by decide +kernel
theorem dX0_begin_11 : decode cX0_begin 11 = .ok (.iconst 0, 1) := by decide +kernel
theorem dX0_begin_12 : decode cX0_begin 12 = .ok (.putfield 51, 3) := by decide +kernel
theorem dX0_begin_15 : decode cX0_begin 15 = .ok (.aload_n 0, 1) := by decide +kernel
theorem dX0_begin_16 : decode cX0_begin 16 = .ok (.iconst 0, 1) := by decide +kernel
theorem dX0_begin_17 : decode cX0_begin 17 = .ok (.putfield 54, 3) := by decide +kernel
theorem dX0_begin_20 : decode cX0_begin 20 = .ok (.aload_n 0, 1) := by decide +kernel
theorem dX0_begin_21 : decode cX0_begin 21 = .ok (.iconst 0, 1) := by decide +kernel
theorem dX0_begin_22 : decode cX0_begin 22 = .ok (.putfield 57, 3) := by decide +kernel
theorem dX0_begin_25 : decode cX0_begin 25 = .ok (.aload_n 0, 1) := by decide +kernel
theorem dX0_begin_26 : decode cX0_begin 26 = .ok (.getfield 37, 3) := by decide +kernel
theorem dX0_begin_29 : decode cX0_begin 29 = .ok (.invokevirtual 60, 3) := by decide +kernel
theorem dX0_begin_32 : decode cX0_begin 32 = .ok (.return_, 1) := by decide +kernel
theorem dX0_guildNamed_0 : decode cX0_guildNamed 0 = .ok (.iconst 0, 1) := by decide +kernel
theorem dX0_guildNamed_1 : decode cX0_guildNamed 1 = .ok (.istore_n 3, 1) := by decide +kernel
theorem dX0_guildNamed_2 : decode cX0_guildNamed 2 = .ok (.iload_n 3, 1) := by decide +kernel
theorem dX0_guildNamed_3 : decode cX0_guildNamed 3 = .ok (.aload_n 0, 1) := by decide +kernel
theorem dX0_guildNamed_4 : decode cX0_guildNamed 4 = .ok (.getfield 54, 3) := by decide +kernel
theorem dX0_guildNamed_7 : decode cX0_guildNamed 7 = .ok (.if_icmp .ge 28, 3) := by decide +kernel
theorem dX0_guildNamed_10 : decode cX0_guildNamed 10 = .ok (.iload_n 3, 1) := by decide +kernel
theorem dX0_guildNamed_11 : decode cX0_guildNamed 11 = .ok (.bipush 6, 2) := by decide +kernel
theorem dX0_guildNamed_13 : decode cX0_guildNamed 13 = .ok (.if_icmp .ge 22, 3) := by decide +kernel
theorem dX0_guildNamed_16 : decode cX0_guildNamed 16 = .ok (.aload_n 0, 1) := by decide +kernel
theorem dX0_guildNamed_17 : decode cX0_guildNamed 17 = .ok (.getfield 9, 3) := by decide +kernel
theorem dX0_guildNamed_20 : decode cX0_guildNamed 20 = .ok (.iload_n 3, 1) := by decide +kernel
theorem dX0_guildNamed_21 : decode cX0_guildNamed 21 = .ok (.laload, 1) := by decide +kernel
theorem dX0_guildNamed_22 : decode cX0_guildNamed 22 = .ok (.lload_n 1, 1) := by decide +kernel
theorem dX0_guildNamed_23 : decode cX0_guildNamed 23 = .ok (.lcmp, 1) := by decide +kernel
theorem dX0_guildNamed_24 : decode cX0_guildNamed 24 = .ok (.ifCond .ne 5, 3) := by decide +kernel
theorem dX0_guildNamed_27 : decode cX0_guildNamed 27 = .ok (.iload_n 3, 1) := by decide +kernel
theorem dX0_guildNamed_28 : decode cX0_guildNamed 28 = .ok (.ireturn, 1) := by decide +kernel
theorem dX0_guildNamed_29 : decode cX0_guildNamed 29 = .ok (.iinc 3 1, 3) := by decide +kernel
theorem dX0_guildNamed_32 : decode cX0_guildNamed 32 = .ok (.goto (-30), 3) := by decide +kernel
theorem dX0_guildNamed_35 : decode cX0_guildNamed 35 = .ok (.iconst (-1), 1) := by decide +kernel
theorem dX0_guildNamed_36 : decode cX0_guildNamed 36 = .ok (.ireturn, 1) := by decide +kernel
theorem dX0_hasPaneAt_0 : decode cX0_hasPaneAt 0 = .ok (.iconst 0, 1) := by decide +kernel
theorem dX0_hasPaneAt_1 : decode cX0_hasPaneAt 1 = .ok (.istore_n 3, 1) := by decide +kernel
theorem dX0_hasPaneAt_2 : decode cX0_hasPaneAt 2 = .ok (.iload_n 3, 1) := by decide +kernel
theorem dX0_hasPaneAt_3 : decode cX0_hasPaneAt 3 = .ok (.aload_n 0, 1) := by decide +kernel
theorem dX0_hasPaneAt_4 : decode cX0_hasPaneAt 4 = .ok (.getfield 57, 3) := by decide +kernel
theorem dX0_hasPaneAt_7 : decode cX0_hasPaneAt 7 = .ok (.if_icmp .ge 37, 3) := by decide +kernel
theorem dX0_hasPaneAt_10 : decode cX0_hasPaneAt 10 = .ok (.iload_n 3, 1) := by decide +kernel
theorem dX0_hasPaneAt_11 : decode cX0_hasPaneAt 11 = .ok (.bipush 12, 2) := by decide +kernel
theorem dX0_hasPaneAt_13 : decode cX0_hasPaneAt 13 = .ok (.if_icmp .ge 31, 3) := by decide +kernel
theorem dX0_hasPaneAt_16 : decode cX0_hasPaneAt 16 = .ok (.aload_n 0, 1) := by decide +kernel
theorem dX0_hasPaneAt_17 : decode cX0_hasPaneAt 17 = .ok (.getfield 22, 3) := by decide +kernel
theorem dX0_hasPaneAt_20 : decode cX0_hasPaneAt 20 = .ok (.iload_n 3, 1) := by decide +kernel
theorem dX0_hasPaneAt_21 : decode cX0_hasPaneAt 21 = .ok (.iaload, 1) := by decide +kernel
theorem dX0_hasPaneAt_22 : decode cX0_hasPaneAt 22 = .ok (.iload_n 1, 1) := by decide +kernel
theorem dX0_hasPaneAt_23 : decode cX0_hasPaneAt 23 = .ok (.if_icmp .ne 15, 3) := by decide +kernel
theorem dX0_hasPaneAt_26 : decode cX0_hasPaneAt 26 = .ok (.aload_n 0, 1) := by decide +kernel
theorem dX0_hasPaneAt_27 : decode cX0_hasPaneAt 27 = .ok (.getfield 25, 3) := by decide +kernel
theorem dX0_hasPaneAt_30 : decode cX0_hasPaneAt 30 = .ok (.iload_n 3, 1) := by decide +kernel
theorem dX0_hasPaneAt_31 : decode cX0_hasPaneAt 31 = .ok (.iaload, 1) := by decide +kernel
theorem dX0_hasPaneAt_32 : decode cX0_hasPaneAt 32 = .ok (.iload_n 2, 1) := by decide +kernel
theorem dX0_hasPaneAt_33 : decode cX0_hasPaneAt 33 = .ok (.if_icmp .ne 5, 3) := by decide +kernel
theorem dX0_hasPaneAt_36 : decode cX0_hasPaneAt 36 = .ok (.iconst 1, 1) := by decide +kernel
theorem dX0_hasPaneAt_37 : decode cX0_hasPaneAt 37 = .ok (.ireturn, 1) := by decide +kernel
theorem dX0_hasPaneAt_38 : decode cX0_hasPaneAt 38 = .ok (.iinc 3 1, 3) := by decide +kernel
theorem dX0_hasPaneAt_41 : decode cX0_hasPaneAt 41 = .ok (.goto (-39), 3) := by decide +kernel
theorem dX0_hasPaneAt_44 : decode cX0_hasPaneAt 44 = .ok (.iconst 0, 1) := by decide +kernel
theorem dX0_hasPaneAt_45 : decode cX0_hasPaneAt 45 = .ok (.ireturn, 1) := by decide +kernel
theorem dX0_hasPlace_0 : decode cX0_hasPlace 0 = .ok (.iload_n 1, 1) := by decide +kernel
theorem dX0_hasPlace_1 : decode cX0_hasPlace 1 = .ok (.ifCond .lt 27, 3) := by decide +kernel
theorem dX0_hasPlace_4 : decode cX0_hasPlace 4 = .ok (.iload_n 1, 1) := by decide +kernel
theorem dX0_hasPlace_5 : decode cX0_hasPlace 5 = .ok (.aload_n 0, 1) := by decide +kernel
theorem dX0_hasPlace_6 : decode cX0_hasPlace 6 = .ok (.getfield 44, 3) := by decide +kernel
theorem dX0_hasPlace_9 : decode cX0_hasPlace 9 = .ok (.if_icmp .ge 19, 3) := by decide +kernel
theorem dX0_hasPlace_12 : decode cX0_hasPlace 12 = .ok (.iload_n 2, 1) := by decide +kernel
theorem dX0_hasPlace_13 : decode cX0_hasPlace 13 = .ok (.ifCond .lt 15, 3) := by decide +kernel
theorem dX0_hasPlace_16 : decode cX0_hasPlace 16 = .ok (.iload_n 2, 1) := by decide +kernel
theorem dX0_hasPlace_17 : decode cX0_hasPlace 17 = .ok (.aload_n 0, 1) := by decide +kernel
theorem dX0_hasPlace_18 : decode cX0_hasPlace 18 = .ok (.getfield 48, 3) := by decide +kernel
theorem dX0_hasPlace_21 : decode cX0_hasPlace 21 = .ok (.if_icmp .ge 7, 3) := by decide +kernel
theorem dX0_hasPlace_24 : decode cX0_hasPlace 24 = .ok (.iconst 1, 1) := by decide +kernel
theorem dX0_hasPlace_25 : decode cX0_hasPlace 25 = .ok (.goto 4, 3) := by decide +kernel
theorem dX0_hasPlace_28 : decode cX0_hasPlace 28 = .ok (.iconst 0, 1) := by decide +kernel
theorem dX0_hasPlace_29 : decode cX0_hasPlace 29 = .ok (.ireturn, 1) := by decide +kernel
theorem dX0_colourOf_0 : decode cX0_colourOf 0 = .ok (.iconst 0, 1) := by decide +kernel
theorem dX0_colourOf_1 : decode cX0_colourOf 1 = .ok (.istore_n 2, 1) := by decide +kernel
theorem dX0_colourOf_2 : decode cX0_colourOf 2 = .ok (.iconst 0, 1) := by decide +kernel
theorem dX0_colourOf_3 : decode cX0_colourOf 3 = .ok (.istore_n 3, 1) := by decide +kernel
theorem dX0_colourOf_4 : decode cX0_colourOf 4 = .ok (.iload_n 3, 1) := by decide +kernel
theorem dX0_colourOf_5 : decode cX0_colourOf 5 = .ok (.bipush 12, 2) := by decide +kernel
theorem dX0_colourOf_7 : decode cX0_colourOf 7 = .ok (.if_icmp .ge 27, 3) := by decide +kernel
theorem dX0_colourOf_10 : decode cX0_colourOf 10 = .ok (.iload_n 1, 1) := by decide +kernel
theorem dX0_colourOf_11 : decode cX0_colourOf 11 = .ok (.iload_n 3, 1) := by decide +kernel
theorem dX0_colourOf_12 : decode cX0_colourOf 12 = .ok (.ishr, 1) := by decide +kernel
theorem dX0_colourOf_13 : decode cX0_colourOf 13 = .ok (.iconst 1, 1) := by decide +kernel
theorem dX0_colourOf_14 : decode cX0_colourOf 14 = .ok (.iand, 1) := by decide +kernel
theorem dX0_colourOf_15 : decode cX0_colourOf 15 = .ok (.iconst 1, 1) := by decide +kernel
theorem dX0_colourOf_16 : decode cX0_colourOf 16 = .ok (.if_icmp .ne 12, 3) := by decide +kernel
theorem dX0_colourOf_19 : decode cX0_colourOf 19 = .ok (.iload_n 2, 1) := by decide +kernel
theorem dX0_colourOf_20 : decode cX0_colourOf 20 = .ok (.aload_n 0, 1) := by decide +kernel
theorem dX0_colourOf_21 : decode cX0_colourOf 21 = .ok (.getfield 31, 3) := by decide +kernel
theorem dX0_colourOf_24 : decode cX0_colourOf 24 = .ok (.iload_n 3, 1) := by decide +kernel
theorem dX0_colourOf_25 : decode cX0_colourOf 25 = .ok (.iaload, 1) := by decide +kernel
theorem dX0_colourOf_26 : decode cX0_colourOf 26 = .ok (.ior, 1) := by decide +kernel
theorem dX0_colourOf_27 : decode cX0_colourOf 27 = .ok (.istore_n 2, 1) := by decide +kernel
theorem dX0_colourOf_28 : decode cX0_colourOf 28 = .ok (.iinc 3 1, 3) := by decide +kernel
theorem dX0_colourOf_31 : decode cX0_colourOf 31 = .ok (.goto (-27), 3) := by decide +kernel
theorem dX0_colourOf_34 : decode cX0_colourOf 34 = .ok (.iload_n 2, 1) := by decide +kernel
theorem dX0_colourOf_35 : decode cX0_colourOf 35 = .ok (.ireturn, 1) := by decide +kernel
theorem dX1_init_0 : decode cX1_init 0 = .ok (.aload_n 0, 1) := by decide +kernel
theorem dX1_init_1 : decode cX1_init 1 = .ok (.invokespecial 3, 3) := by decide +kernel
theorem dX1_init_4 : decode cX1_init 4 = .ok (.aload_n 0, 1) := by decide +kernel
theorem dX1_init_5 : decode cX1_init 5 = .ok (.bipush 20, 2) := by decide +kernel
theorem dX1_init_7 : decode cX1_init 7 = .ok (.newarray .int, 2) := by decide +kernel
theorem dX1_init_9 : decode cX1_init 9 = .ok (.putfield 9, 3) := by decide +kernel
theorem dX1_init_12 : decode cX1_init 12 = .ok (.aload_n 0, 1) := by decide +kernel
theorem dX1_init_13 : decode cX1_init 13 = .ok (.bipush 20, 2) := by decide +kernel
theorem dX1_init_15 : decode cX1_init 15 = .ok (.newarray .int, 2) := by decide +kernel
theorem dX1_init_17 : decode cX1_init 17 = .ok (.putfield 15, 3) := by decide +kernel
theorem dX1_init_20 : decode cX1_init 20 = .ok (.aload_n 0, 1) := by decide +kernel
theorem dX1_init_21 : decode cX1_init 21 = .ok (.iconst 0, 1) := by decide +kernel
theorem dX1_init_22 : decode cX1_init 22 = .ok (.putfield 18, 3) := by decide +kernel
theorem dX1_init_25 : decode cX1_init 25 = .ok (.aload_n 0, 1) := by decide +kernel
theorem dX1_init_26 : decode cX1_init 26 = .ok (.iconst 0, 1) := by decide +kernel
theorem dX1_init_27 : decode cX1_init 27 = .ok (.putfield 22, 3) := by decide +kernel
theorem dX1_init_30 : decode cX1_init 30 = .ok (.return_, 1) := by decide +kernel
theorem dX1_forget_0 : decode cX1_forget 0 = .ok (.aload_n 0, 1) := by decide +kernel
theorem dX1_forget_1 : decode cX1_forget 1 = .ok (.iconst 0, 1) := by decide +kernel
theorem dX1_forget_2 : decode cX1_forget 2 = .ok (.putfield 18, 3) := by decide +kernel
theorem dX1_forget_5 : decode cX1_forget 5 = .ok (.aload_n 0, 1) := by decide +kernel
theorem dX1_forget_6 : decode cX1_forget 6 = .ok (.iconst 0, 1) := by decide +kernel
theorem dX1_forget_7 : decode cX1_forget 7 = .ok (.putfield 22, 3) := by decide +kernel
theorem dX1_forget_10 : decode cX1_forget 10 = .ok (.return_, 1) := by decide +kernel
theorem dX1_note_0 : decode cX1_note 0 = .ok (.aload_n 0, 1) := by decide +kernel
theorem dX1_note_1 : decode cX1_note 1 = .ok (.getfield 9, 3) := by decide +kernel
theorem dX1_note_4 : decode cX1_note 4 = .ok (.aload_n 0, 1) := by decide +kernel
theorem dX1_note_5 : decode cX1_note 5 = .ok (.getfield 22, 3) := by decide +kernel
theorem dX1_note_8 : decode cX1_note 8 = .ok (.iload_n 1, 1) := by decide +kernel
theorem dX1_note_9 : decode cX1_note 9 = .ok (.iastore, 1) := by decide +kernel
theorem dX1_note_10 : decode cX1_note 10 = .ok (.aload_n 0, 1) := by decide +kernel
theorem dX1_note_11 : decode cX1_note 11 = .ok (.getfield 15, 3) := by decide +kernel
theorem dX1_note_14 : decode cX1_note 14 = .ok (.aload_n 0, 1) := by decide +kernel
theorem dX1_note_15 : decode cX1_note 15 = .ok (.getfield 22, 3) := by decide +kernel
theorem dX1_note_18 : decode cX1_note 18 = .ok (.iload_n 2, 1) := by decide +kernel
theorem dX1_note_19 : decode cX1_note 19 = .ok (.iastore, 1) := by decide +kernel
theorem dX1_note_20 : decode cX1_note 20 = .ok (.aload_n 0, 1) := by decide +kernel
theorem dX1_note_21 : decode cX1_note 21 = .ok (.aload_n 0, 1) := by decide +kernel
theorem dX1_note_22 : decode cX1_note 22 = .ok (.getfield 22, 3) := by decide +kernel
theorem dX1_note_25 : decode cX1_note 25 = .ok (.iconst 1, 1) := by decide +kernel
theorem dX1_note_26 : decode cX1_note 26 = .ok (.iadd, 1) := by decide +kernel
theorem dX1_note_27 : decode cX1_note 27 = .ok (.bipush 20, 2) := by decide +kernel
theorem dX1_note_29 : decode cX1_note 29 = .ok (.irem, 1) := by decide +kernel
theorem dX1_note_30 : decode cX1_note 30 = .ok (.putfield 22, 3) := by decide +kernel
theorem dX1_note_33 : decode cX1_note 33 = .ok (.aload_n 0, 1) := by decide +kernel
theorem dX1_note_34 : decode cX1_note 34 = .ok (.aload_n 0, 1) := by decide +kernel
theorem dX1_note_35 : decode cX1_note 35 = .ok (.getfield 18, 3) := by decide +kernel
theorem dX1_note_38 : decode cX1_note 38 = .ok (.iconst 1, 1) := by decide +kernel
theorem dX1_note_39 : decode cX1_note 39 = .ok (.iadd, 1) := by decide +kernel
theorem dX1_note_40 : decode cX1_note 40 = .ok (.bipush 20, 2) := by decide +kernel
theorem dX1_note_42 : decode cX1_note 42 = .ok (.invokestatic 25, 3) := by decide +kernel
theorem dX1_note_45 : decode cX1_note 45 = .ok (.putfield 18, 3) := by decide +kernel
theorem dX1_note_48 : decode cX1_note 48 = .ok (.return_, 1) := by decide +kernel
theorem dX1_takeBack_0 : decode cX1_takeBack 0 = .ok (.aload_n 0, 1) := by decide +kernel
theorem dX1_takeBack_1 : decode cX1_takeBack 1 = .ok (.getfield 18, 3) := by decide +kernel
theorem dX1_takeBack_4 : decode cX1_takeBack 4 = .ok (.ifCond .ne 5, 3) := by decide +kernel
theorem dX1_takeBack_7 : decode cX1_takeBack 7 = .ok (.iconst 0, 1) := by decide +kernel
theorem dX1_takeBack_8 : decode cX1_takeBack 8 = .ok (.ireturn, 1) := by decide +kernel
theorem dX1_takeBack_9 : decode cX1_takeBack 9 = .ok (.aload_n 0, 1) := by decide +kernel
theorem dX1_takeBack_10 : decode cX1_takeBack 10 = .ok (.dup, 1) := by decide +kernel
theorem dX1_takeBack_11 : decode cX1_takeBack 11 = .ok (.getfield 18, 3) := by decide +kernel
theorem dX1_takeBack_14 : decode cX1_takeBack 14 = .ok (.iconst 1, 1) := by decide +kernel
theorem dX1_takeBack_15 : decode cX1_takeBack 15 = .ok (.isub, 1) := by decide +kernel
theorem dX1_takeBack_16 : decode cX1_takeBack 16 = .ok (.putfield 18, 3) := by decide +kernel
theorem dX1_takeBack_19 : decode cX1_takeBack 19 = .ok (.aload_n 0, 1) := by decide +kernel
theorem dX1_takeBack_20 : decode cX1_takeBack 20 = .ok (.aload_n 0, 1) := by decide +kernel
theorem dX1_takeBack_21 : decode cX1_takeBack 21 = .ok (.getfield 22, 3) := by decide +kernel
theorem dX1_takeBack_24 : decode cX1_takeBack 24 = .ok (.bipush 20, 2) := by decide +kernel
theorem dX1_takeBack_26 : decode cX1_takeBack 26 = .ok (.iadd, 1) := by decide +kernel
theorem dX1_takeBack_27 : decode cX1_takeBack 27 = .ok (.iconst 1, 1) := by decide +kernel
theorem dX1_takeBack_28 : decode cX1_takeBack 28 = .ok (.isub, 1) := by decide +kernel
theorem dX1_takeBack_29 : decode cX1_takeBack 29 = .ok (.bipush 20, 2) := by decide +kernel
theorem dX1_takeBack_31 : decode cX1_takeBack 31 = .ok (.irem, 1) := by decide +kernel
theorem dX1_takeBack_32 : decode cX1_takeBack 32 = .ok (.putfield 22, 3) := by decide +kernel
theorem dX1_takeBack_35 : decode cX1_takeBack 35 = .ok (.aload_n 0, 1) := by decide +kernel
theorem dX1_takeBack_36 : decode cX1_takeBack 36 = .ok (.getfield 15, 3) := by decide +kernel
theorem dX1_takeBack_39 : decode cX1_takeBack 39 = .ok (.aload_n 0, 1) := by decide +kernel
theorem dX1_takeBack_40 : decode cX1_takeBack 40 = .ok (.getfield 22, 3) := by decide +kernel
theorem dX1_takeBack_43 : decode cX1_takeBack 43 = .ok (.iaload, 1) := by decide +kernel
theorem dX1_takeBack_44 : decode cX1_takeBack 44 = .ok (.iconst (-1), 1) := by decide +kernel
theorem dX1_takeBack_45 : decode cX1_takeBack 45 = .ok (.if_icmp .ne 19, 3) := by decide +kernel
theorem dX1_takeBack_48 : decode cX1_takeBack 48 = .ok (.aload_n 1, 1) := by decide +kernel
theorem dX1_takeBack_49 : decode cX1_takeBack 49 = .ok (.aload_n 0, 1) := by decide +kernel
theorem dX1_takeBack_50 : decode cX1_takeBack 50 = .ok (.getfield 9, 3) := by decide +kernel
theorem dX1_takeBack_53 : decode cX1_takeBack 53 = .ok (.aload_n 0, 1) := by decide +kernel
theorem dX1_takeBack_54 : decode cX1_takeBack 54 = .ok (.getfield 22, 3) := by decide +kernel
theorem dX1_takeBack_57 : decode cX1_takeBack 57 = .ok (.iaload, 1) := by decide +kernel
theorem dX1_takeBack_58 : decode cX1_takeBack 58 = .ok (.invokevirtual 31, 3) := by decide +kernel
theorem dX1_takeBack_61 : decode cX1_takeBack 61 = .ok (.goto 25, 3) := by decide +kernel
theorem dX1_takeBack_64 : decode cX1_takeBack 64 = .ok (.aload_n 1, 1) := by decide +kernel
theorem dX1_takeBack_65 : decode cX1_takeBack 65 = .ok (.aload_n 0, 1) := by decide +kernel
theorem dX1_takeBack_66 : decode cX1_takeBack 66 = .ok (.getfield 9, 3) := by decide +kernel
theorem dX1_takeBack_69 : decode cX1_takeBack 69 = .ok (.aload_n 0, 1) := by decide +kernel
theorem dX1_takeBack_70 : decode cX1_takeBack 70 = .ok (.getfield 22, 3) := by decide +kernel
theorem dX1_takeBack_73 : decode cX1_takeBack 73 = .ok (.iaload, 1) := by decide +kernel
theorem dX1_takeBack_74 : decode cX1_takeBack 74 = .ok (.aload_n 0, 1) := by decide +kernel
theorem dX1_takeBack_75 : decode cX1_takeBack 75 = .ok (.getfield 15, 3) := by decide +kernel
theorem dX1_takeBack_78 : decode cX1_takeBack 78 = .ok (.aload_n 0, 1) := by decide +kernel
theorem dX1_takeBack_79 : decode cX1_takeBack 79 = .ok (.getfield 22, 3) := by decide +kernel
theorem dX1_takeBack_82 : decode cX1_takeBack 82 = .ok (.iaload, 1) := by decide +kernel
theorem dX1_takeBack_83 : decode cX1_takeBack 83 = .ok (.invokevirtual 37, 3) := by decide +kernel
theorem dX1_takeBack_86 : decode cX1_takeBack 86 = .ok (.iconst 1, 1) := by decide +kernel
theorem dX1_takeBack_87 : decode cX1_takeBack 87 = .ok (.ireturn, 1) := by decide +kernel
theorem dX2_init_0 : decode cX2_init 0 = .ok (.aload_n 0, 1) := by decide +kernel
theorem dX2_init_1 : decode cX2_init 1 = .ok (.invokespecial 3, 3) := by decide +kernel
theorem dX2_init_4 : decode cX2_init 4 = .ok (.aload_n 0, 1) := by decide +kernel
theorem dX2_init_5 : decode cX2_init 5 = .ok (.bipush 12, 2) := by decide +kernel
theorem dX2_init_7 : decode cX2_init 7 = .ok (.newarray .int, 2) := by decide +kernel
theorem dX2_init_9 : decode cX2_init 9 = .ok (.putfield 9, 3) := by decide +kernel
theorem dX2_init_12 : decode cX2_init 12 = .ok (.iconst 0, 1) := by decide +kernel
theorem dX2_init_13 : decode cX2_init 13 = .ok (.istore_n 1, 1) := by decide +kernel
theorem dX2_init_14 : decode cX2_init 14 = .ok (.iload_n 1, 1) := by decide +kernel
theorem dX2_init_15 : decode cX2_init 15 = .ok (.bipush 12, 2) := by decide +kernel
theorem dX2_init_17 : decode cX2_init 17 = .ok (.if_icmp .ge 16, 3) := by decide +kernel
theorem dX2_init_20 : decode cX2_init 20 = .ok (.aload_n 0, 1) := by decide +kernel
theorem dX2_init_21 : decode cX2_init 21 = .ok (.getfield 9, 3) := by decide +kernel
theorem dX2_init_24 : decode cX2_init 24 = .ok (.iload_n 1, 1) := by decide +kernel
theorem dX2_init_25 : decode cX2_init 25 = .ok (.iconst (-1), 1) := by decide +kernel
theorem dX2_init_26 : decode cX2_init 26 = .ok (.iastore, 1) := by decide +kernel
theorem dX2_init_27 : decode cX2_init 27 = .ok (.iinc 1 1, 3) := by decide +kernel
theorem dX2_init_30 : decode cX2_init 30 = .ok (.goto (-16), 3) := by decide +kernel
theorem dX2_init_33 : decode cX2_init 33 = .ok (.aload_n 0, 1) := by decide +kernel
theorem dX2_init_34 : decode cX2_init 34 = .ok (.iconst 0, 1) := by decide +kernel
theorem dX2_init_35 : decode cX2_init 35 = .ok (.putfield 15, 3) := by decide +kernel
theorem dX2_init_38 : decode cX2_init 38 = .ok (.aload_n 0, 1) := by decide +kernel
theorem dX2_init_39 : decode cX2_init 39 = .ok (.iconst 0, 1) := by decide +kernel
theorem dX2_init_40 : decode cX2_init 40 = .ok (.putfield 19, 3) := by decide +kernel
theorem dX2_init_43 : decode cX2_init 43 = .ok (.aload_n 0, 1) := by decide +kernel
theorem dX2_init_44 : decode cX2_init 44 = .ok (.bipush 8, 2) := by decide +kernel
theorem dX2_init_46 : decode cX2_init 46 = .ok (.newarray .int, 2) := by decide +kernel
theorem dX2_init_48 : decode cX2_init 48 = .ok (.putfield 22, 3) := by decide +kernel
theorem dX2_init_51 : decode cX2_init 51 = .ok (.aload_n 0, 1) := by decide +kernel
theorem dX2_init_52 : decode cX2_init 52 = .ok (.bipush 8, 2) := by decide +kernel
theorem dX2_init_54 : decode cX2_init 54 = .ok (.newarray .int, 2) := by decide +kernel
theorem dX2_init_56 : decode cX2_init 56 = .ok (.putfield 25, 3) := by decide +kernel
theorem dX2_init_59 : decode cX2_init 59 = .ok (.aload_n 0, 1) := by decide +kernel
theorem dX2_init_60 : decode cX2_init 60 = .ok (.iconst 0, 1) := by decide +kernel
theorem dX2_init_61 : decode cX2_init 61 = .ok (.putfield 28, 3) := by decide +kernel
theorem dX2_init_64 : decode cX2_init 64 = .ok (.return_, 1) := by decide +kernel
theorem dX2_begin_0 : decode cX2_begin 0 = .ok (.aload_n 0, 1) := by decide +kernel
theorem dX2_begin_1 : decode cX2_begin 1 = .ok (.aload_n 1, 1) := by decide +kernel
theorem dX2_begin_2 : decode cX2_begin 2 = .ok (.getfield 31, 3) := by decide +kernel
theorem dX2_begin_5 : decode cX2_begin 5 = .ok (.putfield 28, 3) := by decide +kernel
theorem dX2_begin_8 : decode cX2_begin 8 = .ok (.aload_n 0, 1) := by decide +kernel
theorem dX2_begin_9 : decode cX2_begin 9 = .ok (.iconst 0, 1) := by decide +kernel
theorem dX2_begin_10 : decode cX2_begin 10 = .ok (.putfield 15, 3) := by decide +kernel
theorem dX2_begin_13 : decode cX2_begin 13 = .ok (.aload_n 0, 1) := by decide +kernel
theorem dX2_begin_14 : decode cX2_begin 14 = .ok (.iconst 0, 1) := by decide +kernel
theorem dX2_begin_15 : decode cX2_begin 15 = .ok (.putfield 19, 3) := by decide +kernel
theorem dX2_begin_18 : decode cX2_begin 18 = .ok (.iconst 0, 1) := by decide +kernel
theorem dX2_begin_19 : decode cX2_begin 19 = .ok (.istore_n 2, 1) := by decide +kernel
theorem dX2_begin_20 : decode cX2_begin 20 = .ok (.iload_n 2, 1) := by decide +kernel
theorem dX2_begin_21 : decode cX2_begin 21 = .ok (.bipush 12, 2) := by decide +kernel
theorem dX2_begin_23 : decode cX2_begin 23 = .ok (.if_icmp .ge 33, 3) := by decide +kernel
theorem dX2_begin_26 : decode cX2_begin 26 = .ok (.aload_n 0, 1) := by decide +kernel
theorem dX2_begin_27 : decode cX2_begin 27 = .ok (.getfield 9, 3) := by decide +kernel
theorem dX2_begin_30 : decode cX2_begin 30 = .ok (.iload_n 2, 1) := by decide +kernel
theorem dX2_begin_31 : decode cX2_begin 31 = .ok (.iload_n 2, 1) := by decide +kernel
theorem dX2_begin_32 : decode cX2_begin 32 = .ok (.aload_n 0, 1) := by decide +kernel
theorem dX2_begin_33 : decode cX2_begin 33 = .ok (.getfield 28, 3) := by decide +kernel
theorem dX2_begin_36 : decode cX2_begin 36 = .ok (.if_icmp .ge 12, 3) := by decide +kernel
theorem dX2_begin_39 : decode cX2_begin 39 = .ok (.aload_n 1, 1) := by decide +kernel
theorem dX2_begin_40 : decode cX2_begin 40 = .ok (.getfield 34, 3) := by decide +kernel
theorem dX2_begin_43 : decode cX2_begin 43 = .ok (.iload_n 2, 1) := by decide +kernel
theorem dX2_begin_44 : decode cX2_begin 44 = .ok (.iaload, 1) := by decide +kernel
theorem dX2_begin_45 : decode cX2_begin 45 = .ok (.goto 4, 3) := by decide +kernel
theorem dX2_begin_48 : decode cX2_begin 48 = .ok (.iconst (-1), 1) := by decide +kernel
theorem dX2_begin_49 : decode cX2_begin 49 = .ok (.iastore, 1) := by decide +kernel
theorem dX2_begin_50 : decode cX2_begin 50 = .ok (.iinc 2 1, 3) := by decide +kernel
theorem dX2_begin_53 : decode cX2_begin 53 = .ok (.goto (-33), 3) := by decide +kernel
theorem dX2_begin_56 : decode cX2_begin 56 = .ok (.return_, 1) := by decide +kernel
theorem dX2_copy_0 : decode cX2_copy 0 = .ok (.aload_n 0, 1) := by decide +kernel
theorem dX2_copy_1 : decode cX2_copy 1 = .ok (.aload_n 1, 1) := by decide +kernel
theorem dX2_copy_2 : decode cX2_copy 2 = .ok (.getfield 28, 3) := by decide +kernel
theorem dX2_copy_5 : decode cX2_copy 5 = .ok (.putfield 28, 3) := by decide +kernel
theorem dX2_copy_8 : decode cX2_copy 8 = .ok (.aload_n 0, 1) := by decide +kernel
theorem dX2_copy_9 : decode cX2_copy 9 = .ok (.aload_n 1, 1) := by decide +kernel
theorem dX2_copy_10 : decode cX2_copy 10 = .ok (.getfield 15, 3) := by decide +kernel
theorem dX2_copy_13 : decode cX2_copy 13 = .ok (.putfield 15, 3) := by decide +kernel
theorem dX2_copy_16 : decode cX2_copy 16 = .ok (.aload_n 0, 1) := by decide +kernel
theorem dX2_copy_17 : decode cX2_copy 17 = .ok (.aload_n 1, 1) := by decide +kernel
theorem dX2_copy_18 : decode cX2_copy 18 = .ok (.getfield 19, 3) := by decide +kernel
theorem dX2_copy_21 : decode cX2_copy 21 = .ok (.putfield 19, 3) := by decide +kernel
theorem dX2_copy_24 : decode cX2_copy 24 = .ok (.iconst 0, 1) := by decide +kernel
theorem dX2_copy_25 : decode cX2_copy 25 = .ok (.istore_n 2, 1) := by decide +kernel
theorem dX2_copy_26 : decode cX2_copy 26 = .ok (.iload_n 2, 1) := by decide +kernel
theorem dX2_copy_27 : decode cX2_copy 27 = .ok (.bipush 12, 2) := by decide +kernel
theorem dX2_copy_29 : decode cX2_copy 29 = .ok (.if_icmp .ge 21, 3) := by decide +kernel
theorem dX2_copy_32 : decode cX2_copy 32 = .ok (.aload_n 0, 1) := by decide +kernel
theorem dX2_copy_33 : decode cX2_copy 33 = .ok (.getfield 9, 3) := by decide +kernel
theorem dX2_copy_36 : decode cX2_copy 36 = .ok (.iload_n 2, 1) := by decide +kernel
theorem dX2_copy_37 : decode cX2_copy 37 = .ok (.aload_n 1, 1) := by decide +kernel
theorem dX2_copy_38 : decode cX2_copy 38 = .ok (.getfield 9, 3) := by decide +kernel
theorem dX2_copy_41 : decode cX2_copy 41 = .ok (.iload_n 2, 1) := by decide +kernel
theorem dX2_copy_42 : decode cX2_copy 42 = .ok (.iaload, 1) := by decide +kernel
theorem dX2_copy_43 : decode cX2_copy 43 = .ok (.iastore, 1) := by decide +kernel
theorem dX2_copy_44 : decode cX2_copy 44 = .ok (.iinc 2 1, 3) := by decide +kernel
theorem dX2_copy_47 : decode cX2_copy 47 = .ok (.goto (-21), 3) := by decide +kernel
theorem dX2_copy_50 : decode cX2_copy 50 = .ok (.iconst 0, 1) := by decide +kernel
theorem dX2_copy_51 : decode cX2_copy 51 = .ok (.istore_n 2, 1) := by decide +kernel
theorem dX2_copy_52 : decode cX2_copy 52 = .ok (.iload_n 2, 1) := by decide +kernel
theorem dX2_copy_53 : decode cX2_copy 53 = .ok (.bipush 8, 2) := by decide +kernel
theorem dX2_copy_55 : decode cX2_copy 55 = .ok (.if_icmp .ge 33, 3) := by decide +kernel
theorem dX2_copy_58 : decode cX2_copy 58 = .ok (.aload_n 0, 1) := by decide +kernel
theorem dX2_copy_59 : decode cX2_copy 59 = .ok (.getfield 22, 3) := by decide +kernel
theorem dX2_copy_62 : decode cX2_copy 62 = .ok (.iload_n 2, 1) := by decide +kernel
theorem dX2_copy_63 : decode cX2_copy 63 = .ok (.aload_n 1, 1) := by decide +kernel
theorem dX2_copy_64 : decode cX2_copy 64 = .ok (.getfield 22, 3) := by decide +kernel
theorem dX2_copy_67 : decode cX2_copy 67 = .ok (.iload_n 2, 1) := by decide +kernel
theorem dX2_copy_68 : decode cX2_copy 68 = .ok (.iaload, 1) := by decide +kernel
theorem dX2_copy_69 : decode cX2_copy 69 = .ok (.iastore, 1) := by decide +kernel
theorem dX2_copy_70 : decode cX2_copy 70 = .ok (.aload_n 0, 1) := by decide +kernel
theorem dX2_copy_71 : decode cX2_copy 71 = .ok (.getfield 25, 3) := by decide +kernel
theorem dX2_copy_74 : decode cX2_copy 74 = .ok (.iload_n 2, 1) := by decide +kernel
theorem dX2_copy_75 : decode cX2_copy 75 = .ok (.aload_n 1, 1) := by decide +kernel
theorem dX2_copy_76 : decode cX2_copy 76 = .ok (.getfield 25, 3) := by decide +kernel
theorem dX2_copy_79 : decode cX2_copy 79 = .ok (.iload_n 2, 1) := by decide +kernel
theorem dX2_copy_80 : decode cX2_copy 80 = .ok (.iaload, 1) := by decide +kernel
theorem dX2_copy_81 : decode cX2_copy 81 = .ok (.iastore, 1) := by decide +kernel
theorem dX2_copy_82 : decode cX2_copy 82 = .ok (.iinc 2 1, 3) := by decide +kernel
theorem dX2_copy_85 : decode cX2_copy 85 = .ok (.goto (-33), 3) := by decide +kernel
theorem dX2_copy_88 : decode cX2_copy 88 = .ok (.return_, 1) := by decide +kernel
theorem dX2_isBroken_0 : decode cX2_isBroken 0 = .ok (.aload_n 0, 1) := by decide +kernel
theorem dX2_isBroken_1 : decode cX2_isBroken 1 = .ok (.getfield 15, 3) := by decide +kernel
theorem dX2_isBroken_4 : decode cX2_isBroken 4 = .ok (.iload_n 1, 1) := by decide +kernel
theorem dX2_isBroken_5 : decode cX2_isBroken 5 = .ok (.ishr, 1) := by decide +kernel
theorem dX2_isBroken_6 : decode cX2_isBroken 6 = .ok (.iconst 1, 1) := by decide +kernel
theorem dX2_isBroken_7 : decode cX2_isBroken 7 = .ok (.iand, 1) := by decide +kernel
theorem dX2_isBroken_8 : decode cX2_isBroken 8 = .ok (.iconst 1, 1) := by decide +kernel
theorem dX2_isBroken_9 : decode cX2_isBroken 9 = .ok (.if_icmp .ne 7, 3) := by decide +kernel
theorem dX2_isBroken_12 : decode cX2_isBroken 12 = .ok (.iconst 1, 1) := by decide +kernel
theorem dX2_isBroken_13 : decode cX2_isBroken 13 = .ok (.goto 4, 3) := by decide +kernel
theorem dX2_isBroken_16 : decode cX2_isBroken 16 = .ok (.iconst 0, 1) := by decide +kernel
theorem dX2_isBroken_17 : decode cX2_isBroken 17 = .ok (.ireturn, 1) := by decide +kernel
theorem dX2_lit_0 : decode cX2_lit 0 = .ok (.iconst 1, 1) := by decide +kernel
theorem dX2_lit_1 : decode cX2_lit 1 = .ok (.aload_n 0, 1) := by decide +kernel
theorem dX2_lit_2 : decode cX2_lit 2 = .ok (.getfield 28, 3) := by decide +kernel
theorem dX2_lit_5 : decode cX2_lit 5 = .ok (.ishl, 1) := by decide +kernel
theorem dX2_lit_6 : decode cX2_lit 6 = .ok (.iconst 1, 1) := by decide +kernel
theorem dX2_lit_7 : decode cX2_lit 7 = .ok (.isub, 1) := by decide +kernel
theorem dX2_lit_8 : decode cX2_lit 8 = .ok (.aload_n 0, 1) := by decide +kernel
theorem dX2_lit_9 : decode cX2_lit 9 = .ok (.getfield 15, 3) := by decide +kernel
theorem dX2_lit_12 : decode cX2_lit 12 = .ok (.iconst (-1), 1) := by decide +kernel
theorem dX2_lit_13 : decode cX2_lit 13 = .ok (.ixor, 1) := by decide +kernel
theorem dX2_lit_14 : decode cX2_lit 14 = .ok (.iand, 1) := by decide +kernel
theorem dX2_lit_15 : decode cX2_lit 15 = .ok (.ireturn, 1) := by decide +kernel
theorem dX2_panesOf_0 : decode cX2_panesOf 0 = .ok (.iconst 0, 1) := by decide +kernel
theorem dX2_panesOf_1 : decode cX2_panesOf 1 = .ok (.istore_n 2, 1) := by decide +kernel
theorem dX2_panesOf_2 : decode cX2_panesOf 2 = .ok (.iconst 0, 1) := by decide +kernel
theorem dX2_panesOf_3 : decode cX2_panesOf 3 = .ok (.istore_n 3, 1) := by decide +kernel
theorem dX2_panesOf_4 : decode cX2_panesOf 4 = .ok (.iload_n 3, 1) := by decide +kernel
theorem dX2_panesOf_5 : decode cX2_panesOf 5 = .ok (.bipush 12, 2) := by decide +kernel
theorem dX2_panesOf_7 : decode cX2_panesOf 7 = .ok (.if_icmp .ge 25, 3) := by decide +kernel
theorem dX2_panesOf_10 : decode cX2_panesOf 10 = .ok (.aload_n 0, 1) := by decide +kernel
theorem dX2_panesOf_11 : decode cX2_panesOf 11 = .ok (.getfield 9, 3) := by decide +kernel
theorem dX2_panesOf_14 : decode cX2_panesOf 14 = .ok (.iload_n 3, 1) := by decide +kernel
theorem dX2_panesOf_15 : decode cX2_panesOf 15 = .ok (.iaload, 1) := by decide +kernel
theorem dX2_panesOf_16 : decode cX2_panesOf 16 = .ok (.iload_n 1, 1) := by decide +kernel
theorem dX2_panesOf_17 : decode cX2_panesOf 17 = .ok (.if_icmp .ne 9, 3) := by decide +kernel
theorem dX2_panesOf_20 : decode cX2_panesOf 20 = .ok (.iload_n 2, 1) := by decide +kernel
theorem dX2_panesOf_21 : decode cX2_panesOf 21 = .ok (.iconst 1, 1) := by decide +kernel
theorem dX2_panesOf_22 : decode cX2_panesOf 22 = .ok (.iload_n 3, 1) := by decide +kernel
theorem dX2_panesOf_23 : decode cX2_panesOf 23 = .ok (.ishl, 1) := by decide +kernel
theorem dX2_panesOf_24 : decode cX2_panesOf 24 = .ok (.ior, 1) := by decide +kernel
theorem dX2_panesOf_25 : decode cX2_panesOf 25 = .ok (.istore_n 2, 1) := by decide +kernel
theorem dX2_panesOf_26 : decode cX2_panesOf 26 = .ok (.iinc 3 1, 3) := by decide +kernel
theorem dX2_panesOf_29 : decode cX2_panesOf 29 = .ok (.goto (-25), 3) := by decide +kernel
theorem dX2_panesOf_32 : decode cX2_panesOf 32 = .ok (.iload_n 2, 1) := by decide +kernel
theorem dX2_panesOf_33 : decode cX2_panesOf 33 = .ok (.ireturn, 1) := by decide +kernel
theorem dX2_ownersOf_0 : decode cX2_ownersOf 0 = .ok (.iconst 0, 1) := by decide +kernel
theorem dX2_ownersOf_1 : decode cX2_ownersOf 1 = .ok (.istore_n 2, 1) := by decide +kernel
theorem dX2_ownersOf_2 : decode cX2_ownersOf 2 = .ok (.iconst 0, 1) := by decide +kernel
theorem dX2_ownersOf_3 : decode cX2_ownersOf 3 = .ok (.istore_n 3, 1) := by decide +kernel
theorem dX2_ownersOf_4 : decode cX2_ownersOf 4 = .ok (.iload_n 3, 1) := by decide +kernel
theorem dX2_ownersOf_5 : decode cX2_ownersOf 5 = .ok (.aload_n 0, 1) := by decide +kernel
theorem dX2_ownersOf_6 : decode cX2_ownersOf 6 = .ok (.getfield 28, 3) := by decide +kernel
theorem dX2_ownersOf_9 : decode cX2_ownersOf 9 = .ok (.if_icmp .ge 35, 3) := by decide +kernel
theorem dX2_ownersOf_12 : decode cX2_ownersOf 12 = .ok (.iload_n 3, 1) := by decide +kernel
theorem dX2_ownersOf_13 : decode cX2_ownersOf 13 = .ok (.bipush 12, 2) := by decide +kernel
theorem dX2_ownersOf_15 : decode cX2_ownersOf 15 = .ok (.if_icmp .ge 29, 3) := by decide +kernel
theorem dX2_ownersOf_18 : decode cX2_ownersOf 18 = .ok (.iload_n 1, 1) := by decide +kernel
theorem dX2_ownersOf_19 : decode cX2_ownersOf 19 = .ok (.iload_n 3, 1) := by decide +kernel
theorem dX2_ownersOf_20 : decode cX2_ownersOf 20 = .ok (.ishr, 1) := by decide +kernel
theorem dX2_ownersOf_21 : decode cX2_ownersOf 21 = .ok (.iconst 1, 1) := by decide +kernel
theorem dX2_ownersOf_22 : decode cX2_ownersOf 22 = .ok (.iand, 1) := by decide +kernel
theorem dX2_ownersOf_23 : decode cX2_ownersOf 23 = .ok (.iconst 1, 1) := by decide +kernel
theorem dX2_ownersOf_24 : decode cX2_ownersOf 24 = .ok (.if_icmp .ne 14, 3) := by decide +kernel
theorem dX2_ownersOf_27 : decode cX2_ownersOf 27 = .ok (.iload_n 2, 1) := by decide +kernel
theorem dX2_ownersOf_28 : decode cX2_ownersOf 28 = .ok (.iconst 1, 1) := by decide +kernel
theorem dX2_ownersOf_29 : decode cX2_ownersOf 29 = .ok (.aload_n 0, 1) := by decide +kernel
theorem dX2_ownersOf_30 : decode cX2_ownersOf 30 = .ok (.getfield 9, 3) := by decide +kernel
theorem dX2_ownersOf_33 : decode cX2_ownersOf 33 = .ok (.iload_n 3, 1) := by decide +kernel
theorem dX2_ownersOf_34 : decode cX2_ownersOf 34 = .ok (.iaload, 1) := by decide +kernel
theorem dX2_ownersOf_35 : decode cX2_ownersOf 35 = .ok (.ishl, 1) := by decide +kernel
theorem dX2_ownersOf_36 : decode cX2_ownersOf 36 = .ok (.ior, 1) := by decide +kernel
theorem dX2_ownersOf_37 : decode cX2_ownersOf 37 = .ok (.istore_n 2, 1) := by decide +kernel
theorem dX2_ownersOf_38 : decode cX2_ownersOf 38 = .ok (.iinc 3 1, 3) := by decide +kernel
theorem dX2_ownersOf_41 : decode cX2_ownersOf 41 = .ok (.goto (-37), 3) := by decide +kernel
theorem dX2_ownersOf_44 : decode cX2_ownersOf 44 = .ok (.iload_n 2, 1) := by decide +kernel
theorem dX2_ownersOf_45 : decode cX2_ownersOf 45 = .ok (.ireturn, 1) := by decide +kernel
theorem dX2_keepSeen_0 : decode cX2_keepSeen 0 = .ok (.aload_n 0, 1) := by decide +kernel
theorem dX2_keepSeen_1 : decode cX2_keepSeen 1 = .ok (.getfield 19, 3) := by decide +kernel
theorem dX2_keepSeen_4 : decode cX2_keepSeen 4 = .ok (.bipush 8, 2) := by decide +kernel
theorem dX2_keepSeen_6 : decode cX2_keepSeen 6 = .ok (.if_icmp .lt 5, 3) := by decide +kernel
theorem dX2_keepSeen_9 : decode cX2_keepSeen 9 = .ok (.iconst (-1), 1) := by decide +kernel
theorem dX2_keepSeen_10 : decode cX2_keepSeen 10 = .ok (.ireturn, 1) := by decide +kernel
theorem dX2_keepSeen_11 : decode cX2_keepSeen 11 = .ok (.aload_n 0, 1) := by decide +kernel
theorem dX2_keepSeen_12 : decode cX2_keepSeen 12 = .ok (.getfield 22, 3) := by decide +kernel
theorem dX2_keepSeen_15 : decode cX2_keepSeen 15 = .ok (.aload_n 0, 1) := by decide +kernel
theorem dX2_keepSeen_16 : decode cX2_keepSeen 16 = .ok (.getfield 19, 3) := by decide +kernel
theorem dX2_keepSeen_19 : decode cX2_keepSeen 19 = .ok (.iload_n 1, 1) := by decide +kernel
theorem dX2_keepSeen_20 : decode cX2_keepSeen 20 = .ok (.iastore, 1) := by decide +kernel
theorem dX2_keepSeen_21 : decode cX2_keepSeen 21 = .ok (.aload_n 0, 1) := by decide +kernel
theorem dX2_keepSeen_22 : decode cX2_keepSeen 22 = .ok (.getfield 25, 3) := by decide +kernel
theorem dX2_keepSeen_25 : decode cX2_keepSeen 25 = .ok (.aload_n 0, 1) := by decide +kernel
theorem dX2_keepSeen_26 : decode cX2_keepSeen 26 = .ok (.getfield 19, 3) := by decide +kernel
theorem dX2_keepSeen_29 : decode cX2_keepSeen 29 = .ok (.iload_n 2, 1) := by decide +kernel
theorem dX2_keepSeen_30 : decode cX2_keepSeen 30 = .ok (.iastore, 1) := by decide +kernel
theorem dX2_keepSeen_31 : decode cX2_keepSeen 31 = .ok (.aload_n 0, 1) := by decide +kernel
theorem dX2_keepSeen_32 : decode cX2_keepSeen 32 = .ok (.dup, 1) := by decide +kernel
theorem dX2_keepSeen_33 : decode cX2_keepSeen 33 = .ok (.getfield 19, 3) := by decide +kernel
theorem dX2_keepSeen_36 : decode cX2_keepSeen 36 = .ok (.iconst 1, 1) := by decide +kernel
theorem dX2_keepSeen_37 : decode cX2_keepSeen 37 = .ok (.iadd, 1) := by decide +kernel
theorem dX2_keepSeen_38 : decode cX2_keepSeen 38 = .ok (.putfield 19, 3) := by decide +kernel
theorem dX2_keepSeen_41 : decode cX2_keepSeen 41 = .ok (.aload_n 0, 1) := by decide +kernel
theorem dX2_keepSeen_42 : decode cX2_keepSeen 42 = .ok (.getfield 19, 3) := by decide +kernel
theorem dX2_keepSeen_45 : decode cX2_keepSeen 45 = .ok (.ireturn, 1) := by decide +kernel
theorem dX2_swap_0 : decode cX2_swap 0 = .ok (.aload_n 0, 1) := by decide +kernel
theorem dX2_swap_1 : decode cX2_swap 1 = .ok (.getfield 9, 3) := by decide +kernel
theorem dX2_swap_4 : decode cX2_swap 4 = .ok (.iload_n 1, 1) := by decide +kernel
theorem dX2_swap_5 : decode cX2_swap 5 = .ok (.iaload, 1) := by decide +kernel
theorem dX2_swap_6 : decode cX2_swap 6 = .ok (.istore_n 3, 1) := by decide +kernel
theorem dX2_swap_7 : decode cX2_swap 7 = .ok (.aload_n 0, 1) := by decide +kernel
theorem dX2_swap_8 : decode cX2_swap 8 = .ok (.getfield 9, 3) := by decide +kernel
theorem dX2_swap_11 : decode cX2_swap 11 = .ok (.iload_n 1, 1) := by decide +kernel
theorem dX2_swap_12 : decode cX2_swap 12 = .ok (.aload_n 0, 1) := by decide +kernel
theorem dX2_swap_13 : decode cX2_swap 13 = .ok (.getfield 9, 3) := by decide +kernel
theorem dX2_swap_16 : decode cX2_swap 16 = .ok (.iload_n 2, 1) := by decide +kernel
theorem dX2_swap_17 : decode cX2_swap 17 = .ok (.iaload, 1) := by decide +kernel
theorem dX2_swap_18 : decode cX2_swap 18 = .ok (.iastore, 1) := by decide +kernel
theorem dX2_swap_19 : decode cX2_swap 19 = .ok (.aload_n 0, 1) := by decide +kernel
theorem dX2_swap_20 : decode cX2_swap 20 = .ok (.getfield 9, 3) := by decide +kernel
theorem dX2_swap_23 : decode cX2_swap 23 = .ok (.iload_n 2, 1) := by decide +kernel
theorem dX2_swap_24 : decode cX2_swap 24 = .ok (.iload_n 3, 1) := by decide +kernel
theorem dX2_swap_25 : decode cX2_swap 25 = .ok (.iastore, 1) := by decide +kernel
theorem dX2_swap_26 : decode cX2_swap 26 = .ok (.return_, 1) := by decide +kernel
theorem dX2_turn_0 : decode cX2_turn 0 = .ok (.aload_n 0, 1) := by decide +kernel
theorem dX2_turn_1 : decode cX2_turn 1 = .ok (.dup, 1) := by decide +kernel
theorem dX2_turn_2 : decode cX2_turn 2 = .ok (.getfield 15, 3) := by decide +kernel
theorem dX2_turn_5 : decode cX2_turn 5 = .ok (.iconst 1, 1) := by decide +kernel
theorem dX2_turn_6 : decode cX2_turn 6 = .ok (.iload_n 1, 1) := by decide +kernel
theorem dX2_turn_7 : decode cX2_turn 7 = .ok (.ishl, 1) := by decide +kernel
theorem dX2_turn_8 : decode cX2_turn 8 = .ok (.ixor, 1) := by decide +kernel
theorem dX2_turn_9 : decode cX2_turn 9 = .ok (.putfield 15, 3) := by decide +kernel
theorem dX2_turn_12 : decode cX2_turn 12 = .ok (.return_, 1) := by decide +kernel
theorem dX3_init_0 : decode cX3_init 0 = .ok (.aload_n 0, 1) := by decide +kernel
theorem dX3_init_1 : decode cX3_init 1 = .ok (.invokespecial 3, 3) := by decide +kernel
theorem dX3_init_4 : decode cX3_init 4 = .ok (.aload_n 0, 1) := by decide +kernel
theorem dX3_init_5 : decode cX3_init 5 = .ok (.sipush 1000, 3) := by decide +kernel
theorem dX3_init_8 : decode cX3_init 8 = .ok (.newarray .int, 2) := by decide +kernel
theorem dX3_init_10 : decode cX3_init 10 = .ok (.putfield 9, 3) := by decide +kernel
theorem dX3_init_13 : decode cX3_init 13 = .ok (.aload_n 0, 1) := by decide +kernel
theorem dX3_init_14 : decode cX3_init 14 = .ok (.iconst 0, 1) := by decide +kernel
theorem dX3_init_15 : decode cX3_init 15 = .ok (.putfield 15, 3) := by decide +kernel
theorem dX3_init_18 : decode cX3_init 18 = .ok (.aload_n 0, 1) := by decide +kernel
theorem dX3_init_19 : decode cX3_init 19 = .ok (.iconst 4, 1) := by decide +kernel
theorem dX3_init_20 : decode cX3_init 20 = .ok (.newarray .int, 2) := by decide +kernel
theorem dX3_init_22 : decode cX3_init 22 = .ok (.putfield 19, 3) := by decide +kernel
theorem dX3_init_25 : decode cX3_init 25 = .ok (.aload_n 0, 1) := by decide +kernel
theorem dX3_init_26 : decode cX3_init 26 = .ok (.iconst 4, 1) := by decide +kernel
theorem dX3_init_27 : decode cX3_init 27 = .ok (.newarray .int, 2) := by decide +kernel
theorem dX3_init_29 : decode cX3_init 29 = .ok (.putfield 22, 3) := by decide +kernel
theorem dX3_init_32 : decode cX3_init 32 = .ok (.aload_n 0, 1) := by decide +kernel
theorem dX3_init_33 : decode cX3_init 33 = .ok (.bipush 32, 2) := by decide +kernel
theorem dX3_init_35 : decode cX3_init 35 = .ok (.newarray .int, 2) := by decide +kernel
theorem dX3_init_37 : decode cX3_init 37 = .ok (.putfield 25, 3) := by decide +kernel
theorem dX3_init_40 : decode cX3_init 40 = .ok (.aload_n 0, 1) := by decide +kernel
theorem dX3_init_41 : decode cX3_init 41 = .ok (.bipush 7, 2) := by decide +kernel
theorem dX3_init_43 : decode cX3_init 43 = .ok (.newarray .int, 2) := by decide +kernel
theorem dX3_init_45 : decode cX3_init 45 = .ok (.putfield 28, 3) := by decide +kernel
theorem dX3_init_48 : decode cX3_init 48 = .ok (.return_, 1) := by decide +kernel
theorem dX3_begin_0 : decode cX3_begin 0 = .ok (.aload_n 0, 1) := by decide +kernel
theorem dX3_begin_1 : decode cX3_begin 1 = .ok (.iconst 0, 1) := by decide +kernel
theorem dX3_begin_2 : decode cX3_begin 2 = .ok (.putfield 15, 3) := by decide +kernel
theorem dX3_begin_5 : decode cX3_begin 5 = .ok (.iconst 0, 1) := by decide +kernel
theorem dX3_begin_6 : decode cX3_begin 6 = .ok (.istore_n 1, 1) := by decide +kernel
theorem dX3_begin_7 : decode cX3_begin 7 = .ok (.iload_n 1, 1) := by decide +kernel
theorem dX3_begin_8 : decode cX3_begin 8 = .ok (.iconst 4, 1) := by decide +kernel
theorem dX3_begin_9 : decode cX3_begin 9 = .ok (.if_icmp .ge 23, 3) := by decide +kernel
theorem dX3_begin_12 : decode cX3_begin 12 = .ok (.aload_n 0, 1) := by decide +kernel
theorem dX3_begin_13 : decode cX3_begin 13 = .ok (.getfield 19, 3) := by decide +kernel
theorem dX3_begin_16 : decode cX3_begin 16 = .ok (.iload_n 1, 1) := by decide +kernel
theorem dX3_begin_17 : decode cX3_begin 17 = .ok (.iconst 0, 1) := by decide +kernel
theorem dX3_begin_18 : decode cX3_begin 18 = .ok (.iastore, 1) := by decide +kernel
theorem dX3_begin_19 : decode cX3_begin 19 = .ok (.aload_n 0, 1) := by decide +kernel
theorem dX3_begin_20 : decode cX3_begin 20 = .ok (.getfield 22, 3) := by decide +kernel
theorem dX3_begin_23 : decode cX3_begin 23 = .ok (.iload_n 1, 1) := by decide +kernel
theorem dX3_begin_24 : decode cX3_begin 24 = .ok (.iconst 0, 1) := by decide +kernel
theorem dX3_begin_25 : decode cX3_begin 25 = .ok (.iastore, 1) := by decide +kernel
theorem dX3_begin_26 : decode cX3_begin 26 = .ok (.iinc 1 1, 3) := by decide +kernel
theorem dX3_begin_29 : decode cX3_begin 29 = .ok (.goto (-22), 3) := by decide +kernel
theorem dX3_begin_32 : decode cX3_begin 32 = .ok (.return_, 1) := by decide +kernel
theorem dX3_open_0 : decode cX3_open 0 = .ok (.iload_n 1, 1) := by decide +kernel
theorem dX3_open_1 : decode cX3_open 1 = .ok (.invokestatic 31, 3) := by decide +kernel
theorem dX3_open_4 : decode cX3_open 4 = .ok (.ifCond .eq 17, 3) := by decide +kernel
theorem dX3_open_7 : decode cX3_open 7 = .ok (.aload_n 0, 1) := by decide +kernel
theorem dX3_open_8 : decode cX3_open 8 = .ok (.getfield 19, 3) := by decide +kernel
theorem dX3_open_11 : decode cX3_open 11 = .ok (.iload_n 1, 1) := by decide +kernel
theorem dX3_open_12 : decode cX3_open 12 = .ok (.sipush 135, 3) := by decide +kernel
theorem dX3_open_15 : decode cX3_open 15 = .ok (.isub, 1) := by decide +kernel
theorem dX3_open_16 : decode cX3_open 16 = .ok (.aload_n 0, 1) := by decide +kernel
theorem dX3_open_17 : decode cX3_open 17 = .ok (.getfield 15, 3) := by decide +kernel
theorem dX3_open_20 : decode cX3_open 20 = .ok (.iastore, 1) := by decide +kernel
theorem dX3_open_21 : decode cX3_open 21 = .ok (.return_, 1) := by decide +kernel
theorem dX3_close_0 : decode cX3_close 0 = .ok (.iload_n 1, 1) := by decide +kernel
theorem dX3_close_1 : decode cX3_close 1 = .ok (.invokestatic 31, 3) := by decide +kernel
theorem dX3_close_4 : decode cX3_close 4 = .ok (.ifCond .eq 17, 3) := by decide +kernel
theorem dX3_close_7 : decode cX3_close 7 = .ok (.aload_n 0, 1) := by decide +kernel
theorem dX3_close_8 : decode cX3_close 8 = .ok (.getfield 22, 3) := by decide +kernel
theorem dX3_close_11 : decode cX3_close 11 = .ok (.iload_n 1, 1) := by decide +kernel
theorem dX3_close_12 : decode cX3_close 12 = .ok (.sipush 135, 3) := by decide +kernel
theorem dX3_close_15 : decode cX3_close 15 = .ok (.isub, 1) := by decide +kernel
theorem dX3_close_16 : decode cX3_close 16 = .ok (.aload_n 0, 1) := by decide +kernel
theorem dX3_close_17 : decode cX3_close 17 = .ok (.getfield 15, 3) := by decide +kernel
theorem dX3_close_20 : decode cX3_close 20 = .ok (.iastore, 1) := by decide +kernel
theorem dX3_close_21 : decode cX3_close 21 = .ok (.return_, 1) := by decide +kernel
theorem dX3_add_0 : decode cX3_add 0 = .ok (.aload_n 0, 1) := by decide +kernel
theorem dX3_add_1 : decode cX3_add 1 = .ok (.getfield 15, 3) := by decide +kernel
theorem dX3_add_4 : decode cX3_add 4 = .ok (.sipush 1000, 3) := by decide +kernel
theorem dX3_add_7 : decode cX3_add 7 = .ok (.if_icmp .ge 23, 3) := by decide +kernel
theorem dX3_add_10 : decode cX3_add 10 = .ok (.aload_n 0, 1) := by decide +kernel
theorem dX3_add_11 : decode cX3_add 11 = .ok (.getfield 9, 3) := by decide +kernel
theorem dX3_add_14 : decode cX3_add 14 = .ok (.aload_n 0, 1) := by decide +kernel
theorem dX3_add_15 : decode cX3_add 15 = .ok (.getfield 15, 3) := by decide +kernel
theorem dX3_add_18 : decode cX3_add 18 = .ok (.iload_n 1, 1) := by decide +kernel
theorem dX3_add_19 : decode cX3_add 19 = .ok (.iastore, 1) := by decide +kernel
theorem dX3_add_20 : decode cX3_add 20 = .ok (.aload_n 0, 1) := by decide +kernel
theorem dX3_add_21 : decode cX3_add 21 = .ok (.dup, 1) := by decide +kernel
theorem dX3_add_22 : decode cX3_add 22 = .ok (.getfield 15, 3) := by decide +kernel
theorem dX3_add_25 : decode cX3_add 25 = .ok (.iconst 1, 1) := by decide +kernel
theorem dX3_add_26 : decode cX3_add 26 = .ok (.iadd, 1) := by decide +kernel
theorem dX3_add_27 : decode cX3_add 27 = .ok (.putfield 15, 3) := by decide +kernel
theorem dX3_add_30 : decode cX3_add 30 = .ok (.return_, 1) := by decide +kernel
theorem dX3_turnTo_0 : decode cX3_turnTo 0 = .ok (.aload_n 0, 1) := by decide +kernel
theorem dX3_turnTo_1 : decode cX3_turnTo 1 = .ok (.getfield 28, 3) := by decide +kernel
theorem dX3_turnTo_4 : decode cX3_turnTo 4 = .ok (.iconst 0, 1) := by decide +kernel
theorem dX3_turnTo_5 : decode cX3_turnTo 5 = .ok (.iload_n 1, 1) := by decide +kernel
theorem dX3_turnTo_6 : decode cX3_turnTo 6 = .ok (.bipush 24, 2) := by decide +kernel
theorem dX3_turnTo_8 : decode cX3_turnTo 8 = .ok (.idiv, 1) := by decide +kernel
theorem dX3_turnTo_9 : decode cX3_turnTo 9 = .ok (.iastore, 1) := by decide +kernel
theorem dX3_turnTo_10 : decode cX3_turnTo 10 = .ok (.aload_n 0, 1) := by decide +kernel
theorem dX3_turnTo_11 : decode cX3_turnTo 11 = .ok (.getfield 28, 3) := by decide +kernel
theorem dX3_turnTo_14 : decode cX3_turnTo 14 = .ok (.iconst 1, 1) := by decide +kernel
theorem dX3_turnTo_15 : decode cX3_turnTo 15 = .ok (.iload_n 1, 1) := by decide +kernel
theorem dX3_turnTo_16 : decode cX3_turnTo 16 = .ok (.bipush 24, 2) := by decide +kernel
theorem dX3_turnTo_18 : decode cX3_turnTo 18 = .ok (.irem, 1) := by decide +kernel
theorem dX3_turnTo_19 : decode cX3_turnTo 19 = .ok (.iastore, 1) := by decide +kernel
theorem dX3_turnTo_20 : decode cX3_turnTo 20 = .ok (.return_, 1) := by decide +kernel
theorem dX3_lookAtPane_0 : decode cX3_lookAtPane 0 = .ok (.aload_n 0, 1) := by decide +kernel
theorem dX3_lookAtPane_1 : decode cX3_lookAtPane 1 = .ok (.getfield 28, 3) := by decide +kernel
theorem dX3_lookAtPane_4 : decode cX3_lookAtPane 4 = .ok (.iconst 2, 1) := by decide +kernel
theorem dX3_lookAtPane_5 : decode cX3_lookAtPane 5 = .ok (.iload_n 1, 1) := by decide +kernel
theorem dX3_lookAtPane_6 : decode cX3_lookAtPane 6 = .ok (.iastore, 1) := by decide +kernel
theorem dX3_lookAtPane_7 : decode cX3_lookAtPane 7 = .ok (.aload_n 0, 1) := by decide +kernel
theorem dX3_lookAtPane_8 : decode cX3_lookAtPane 8 = .ok (.getfield 28, 3) := by decide +kernel
theorem dX3_lookAtPane_11 : decode cX3_lookAtPane 11 = .ok (.iconst 3, 1) := by decide +kernel
theorem dX3_lookAtPane_12 : decode cX3_lookAtPane 12 = .ok (.iload_n 2, 1) := by decide +kernel
theorem dX3_lookAtPane_13 : decode cX3_lookAtPane 13 = .ok (.iastore, 1) := by decide +kernel
theorem dX3_lookAtPane_14 : decode cX3_lookAtPane 14 = .ok (.return_, 1) := by decide +kernel
theorem dX3_lookAtSpot_0 : decode cX3_lookAtSpot 0 = .ok (.aload_n 0, 1) := by decide +kernel
theorem dX3_lookAtSpot_1 : decode cX3_lookAtSpot 1 = .ok (.getfield 28, 3) := by decide +kernel
theorem dX3_lookAtSpot_4 : decode cX3_lookAtSpot 4 = .ok (.iconst 4, 1) := by decide +kernel
theorem dX3_lookAtSpot_5 : decode cX3_lookAtSpot 5 = .ok (.iload_n 1, 1) := by decide +kernel
theorem dX3_lookAtSpot_6 : decode cX3_lookAtSpot 6 = .ok (.bipush 8, 2) := by decide +kernel
theorem dX3_lookAtSpot_8 : decode cX3_lookAtSpot 8 = .ok (.irem, 1) := by decide +kernel
theorem dX3_lookAtSpot_9 : decode cX3_lookAtSpot 9 = .ok (.iastore, 1) := by decide +kernel
theorem dX3_lookAtSpot_10 : decode cX3_lookAtSpot 10 = .ok (.aload_n 0, 1) := by decide +kernel
theorem dX3_lookAtSpot_11 : decode cX3_lookAtSpot 11 = .ok (.getfield 28, 3) := by decide +kernel
theorem dX3_lookAtSpot_14 : decode cX3_lookAtSpot 14 = .ok (.iconst 5, 1) := by decide +kernel
theorem dX3_lookAtSpot_15 : decode cX3_lookAtSpot 15 = .ok (.iload_n 1, 1) := by decide +kernel
theorem dX3_lookAtSpot_16 : decode cX3_lookAtSpot 16 = .ok (.bipush 8, 2) := by decide +kernel
theorem dX3_lookAtSpot_18 : decode cX3_lookAtSpot 18 = .ok (.idiv, 1) := by decide +kernel
theorem dX3_lookAtSpot_19 : decode cX3_lookAtSpot 19 = .ok (.iastore, 1) := by decide +kernel
theorem dX3_lookAtSpot_20 : decode cX3_lookAtSpot 20 = .ok (.aload_n 0, 1) := by decide +kernel
theorem dX3_lookAtSpot_21 : decode cX3_lookAtSpot 21 = .ok (.getfield 28, 3) := by decide +kernel
theorem dX3_lookAtSpot_24 : decode cX3_lookAtSpot 24 = .ok (.bipush 6, 2) := by decide +kernel
theorem dX3_lookAtSpot_26 : decode cX3_lookAtSpot 26 = .ok (.iload_n 2, 1) := by decide +kernel
theorem dX3_lookAtSpot_27 : decode cX3_lookAtSpot 27 = .ok (.iastore, 1) := by decide +kernel
theorem dX3_lookAtSpot_28 : decode cX3_lookAtSpot 28 = .ok (.return_, 1) := by decide +kernel
theorem dX3_valueOf_0 : decode cX3_valueOf 0 = .ok (.iload_n 1, 1) := by decide +kernel
theorem dX3_valueOf_1 : decode cX3_valueOf 1 = .ok (.invokestatic 31, 3) := by decide +kernel
theorem dX3_valueOf_4 : decode cX3_valueOf 4 = .ok (.ifCond .ne 5, 3) := by decide +kernel
theorem dX3_valueOf_7 : decode cX3_valueOf 7 = .ok (.iconst 0, 1) := by decide +kernel
theorem dX3_valueOf_8 : decode cX3_valueOf 8 = .ok (.ireturn, 1) := by decide +kernel
theorem dX3_valueOf_9 : decode cX3_valueOf 9 = .ok (.aload_n 0, 1) := by decide +kernel
theorem dX3_valueOf_10 : decode cX3_valueOf 10 = .ok (.getfield 22, 3) := by decide +kernel
theorem dX3_valueOf_13 : decode cX3_valueOf 13 = .ok (.iload_n 1, 1) := by decide +kernel
theorem dX3_valueOf_14 : decode cX3_valueOf 14 = .ok (.sipush 135, 3) := by decide +kernel
theorem dX3_valueOf_17 : decode cX3_valueOf 17 = .ok (.isub, 1) := by decide +kernel
theorem dX3_valueOf_18 : decode cX3_valueOf 18 = .ok (.iaload, 1) := by decide +kernel
theorem dX3_valueOf_19 : decode cX3_valueOf 19 = .ok (.istore_n 2, 1) := by decide +kernel
theorem dX3_valueOf_20 : decode cX3_valueOf 20 = .ok (.aload_n 0, 1) := by decide +kernel
theorem dX3_valueOf_21 : decode cX3_valueOf 21 = .ok (.getfield 19, 3) := by decide +kernel
theorem dX3_valueOf_24 : decode cX3_valueOf 24 = .ok (.iload_n 1, 1) := by decide +kernel
theorem dX3_valueOf_25 : decode cX3_valueOf 25 = .ok (.sipush 135, 3) := by decide +kernel
theorem dX3_valueOf_28 : decode cX3_valueOf 28 = .ok (.isub, 1) := by decide +kernel
theorem dX3_valueOf_29 : decode cX3_valueOf 29 = .ok (.iaload, 1) := by decide +kernel
theorem dX3_valueOf_30 : decode cX3_valueOf 30 = .ok (.istore_n 3, 1) := by decide +kernel
theorem dX3_valueOf_31 : decode cX3_valueOf 31 = .ok (.iload_n 3, 1) := by decide +kernel
theorem dX3_valueOf_32 : decode cX3_valueOf 32 = .ok (.iload_n 2, 1) := by decide +kernel
theorem dX3_valueOf_33 : decode cX3_valueOf 33 = .ok (.if_icmp .lt 9, 3) := by decide +kernel
theorem dX3_valueOf_36 : decode cX3_valueOf 36 = .ok (.aload_n 0, 1) := by decide +kernel
theorem dX3_valueOf_37 : decode cX3_valueOf 37 = .ok (.iload_n 1, 1) := by decide +kernel
theorem dX3_valueOf_38 : decode cX3_valueOf 38 = .ok (.invokevirtual 37, 3) := by decide +kernel
theorem dX3_valueOf_41 : decode cX3_valueOf 41 = .ok (.ireturn, 1) := by decide +kernel
theorem dX3_valueOf_42 : decode cX3_valueOf 42 = .ok (.iconst 0, 1) := by decide +kernel
theorem dX3_valueOf_43 : decode cX3_valueOf 43 = .ok (.istore 4, 2) := by decide +kernel
theorem dX3_valueOf_45 : decode cX3_valueOf 45 = .ok (.iload_n 3, 1) := by decide +kernel
theorem dX3_valueOf_46 : decode cX3_valueOf 46 = .ok (.istore 5, 2) := by decide +kernel
theorem dX3_valueOf_48 : decode cX3_valueOf 48 = .ok (.iload 5, 2) := by decide +kernel
theorem dX3_valueOf_50 : decode cX3_valueOf 50 = .ok (.iload_n 2, 1) := by decide +kernel
theorem dX3_valueOf_51 : decode cX3_valueOf 51 = .ok (.if_icmp .ge 165, 3) := by decide +kernel
theorem dX3_valueOf_54 : decode cX3_valueOf 54 = .ok (.iload 5, 2) := by decide +kernel
theorem dX3_valueOf_56 : decode cX3_valueOf 56 = .ok (.sipush 1000, 3) := by decide +kernel
theorem dX3_valueOf_59 : decode cX3_valueOf 59 = .ok (.if_icmp .ge 157, 3) := by decide +kernel
theorem dX3_valueOf_62 : decode cX3_valueOf 62 = .ok (.aload_n 0, 1) := by decide +kernel
theorem dX3_valueOf_63 : decode cX3_valueOf 63 = .ok (.getfield 9, 3) := by decide +kernel
theorem dX3_valueOf_66 : decode cX3_valueOf 66 = .ok (.iload 5, 2) := by decide +kernel
theorem dX3_valueOf_68 : decode cX3_valueOf 68 = .ok (.iaload, 1) := by decide +kernel
theorem dX3_valueOf_69 : decode cX3_valueOf 69 = .ok (.istore 6, 2) := by decide +kernel
theorem dX3_valueOf_71 : decode cX3_valueOf 71 = .ok (.iload 6, 2) := by decide +kernel
theorem dX3_valueOf_73 : decode cX3_valueOf 73 = .ok (.ifCond .ge 12, 3) := by decide +kernel
theorem dX3_valueOf_76 : decode cX3_valueOf 76 = .ok (.iload 6, 2) := by decide +kernel
theorem dX3_valueOf_78 : decode cX3_valueOf 78 = .ok (.ineg, 1) := by decide +kernel
theorem dX3_valueOf_79 : decode cX3_valueOf 79 = .ok (.invokestatic 41, 3) := by decide +kernel
theorem dX3_valueOf_82 : decode cX3_valueOf 82 = .ok (.ifCond .eq 45, 3) := by decide +kernel
theorem dX3_valueOf_85 : decode cX3_valueOf 85 = .ok (.iload 4, 2) := by decide +kernel
theorem dX3_valueOf_87 : decode cX3_valueOf 87 = .ok (.bipush 32, 2) := by decide +kernel
theorem dX3_valueOf_89 : decode cX3_valueOf 89 = .ok (.if_icmp .ge 121, 3) := by decide +kernel
theorem dX3_valueOf_92 : decode cX3_valueOf 92 = .ok (.aload_n 0, 1) := by decide +kernel
theorem dX3_valueOf_93 : decode cX3_valueOf 93 = .ok (.getfield 25, 3) := by decide +kernel
theorem dX3_valueOf_96 : decode cX3_valueOf 96 = .ok (.iload 4, 2) := by decide +kernel
theorem dX3_valueOf_98 : decode cX3_valueOf 98 = .ok (.iload 6, 2) := by decide +kernel
theorem dX3_valueOf_100 : decode cX3_valueOf 100 = .ok (.ifCond .lt 8, 3) := by decide +kernel
theorem dX3_valueOf_103 : decode cX3_valueOf 103 = .ok (.iload 6, 2) := by decide +kernel
theorem dX3_valueOf_105 : decode cX3_valueOf 105 = .ok (.goto 15, 3) := by decide +kernel
theorem dX3_valueOf_108 : decode cX3_valueOf 108 = .ok (.aload_n 0, 1) := by decide +kernel
theorem dX3_valueOf_109 : decode cX3_valueOf 109 = .ok (.getfield 28, 3) := by decide +kernel
theorem dX3_valueOf_112 : decode cX3_valueOf 112 = .ok (.iload 6, 2) := by decide +kernel
theorem dX3_valueOf_114 : decode cX3_valueOf 114 = .ok (.ineg, 1) := by decide +kernel
theorem dX3_valueOf_115 : decode cX3_valueOf 115 = .ok (.sipush 143, 3) := by decide +kernel
theorem dX3_valueOf_118 : decode cX3_valueOf 118 = .ok (.isub, 1) := by decide +kernel
theorem dX3_valueOf_119 : decode cX3_valueOf 119 = .ok (.iaload, 1) := by decide +kernel
theorem dX3_valueOf_120 : decode cX3_valueOf 120 = .ok (.iastore, 1) := by decide +kernel
theorem dX3_valueOf_121 : decode cX3_valueOf 121 = .ok (.iinc 4 1, 3) := by decide +kernel
theorem dX3_valueOf_124 : decode cX3_valueOf 124 = .ok (.goto 86, 3) := by decide +kernel
theorem dX3_valueOf_127 : decode cX3_valueOf 127 = .ok (.iload 6, 2) := by decide +kernel
theorem dX3_valueOf_129 : decode cX3_valueOf 129 = .ok (.sipush (-140), 3) := by decide +kernel
theorem dX3_valueOf_132 : decode cX3_valueOf 132 = .ok (.if_icmp .ne 38, 3) := by decide +kernel
theorem dX3_valueOf_135 : decode cX3_valueOf 135 = .ok (.iload 4, 2) := by decide +kernel
theorem dX3_valueOf_137 : decode cX3_valueOf 137 = .ok (.iconst 1, 1) := by decide +kernel
theorem dX3_valueOf_138 : decode cX3_valueOf 138 = .ok (.if_icmp .lt 72, 3) := by decide +kernel
theorem dX3_valueOf_141 : decode cX3_valueOf 141 = .ok (.aload_n 0, 1) := by decide +kernel
theorem dX3_valueOf_142 : decode cX3_valueOf 142 = .ok (.getfield 25, 3) := by decide +kernel
theorem dX3_valueOf_145 : decode cX3_valueOf 145 = .ok (.iload 4, 2) := by decide +kernel
theorem dX3_valueOf_147 : decode cX3_valueOf 147 = .ok (.iconst 1, 1) := by decide +kernel
theorem dX3_valueOf_148 : decode cX3_valueOf 148 = .ok (.isub, 1) := by decide +kernel
theorem dX3_valueOf_149 : decode cX3_valueOf 149 = .ok (.aload_n 0, 1) := by decide +kernel
theorem dX3_valueOf_150 : decode cX3_valueOf 150 = .ok (.getfield 25, 3) := by decide +kernel
theorem dX3_valueOf_153 : decode cX3_valueOf 153 = .ok (.iload 4, 2) := by decide +kernel
theorem dX3_valueOf_155 : decode cX3_valueOf 155 = .ok (.iconst 1, 1) := by decide +kernel
theorem dX3_valueOf_156 : decode cX3_valueOf 156 = .ok (.isub, 1) := by decide +kernel
theorem dX3_valueOf_157 : decode cX3_valueOf 157 = .ok (.iaload, 1) := by decide +kernel
theorem dX3_valueOf_158 : decode cX3_valueOf 158 = .ok (.ifCond .ne 7, 3) := by decide +kernel
theorem dX3_valueOf_161 : decode cX3_valueOf 161 = .ok (.iconst 1, 1) := by decide +kernel
theorem dX3_valueOf_162 : decode cX3_valueOf 162 = .ok (.goto 4, 3) := by decide +kernel
theorem dX3_valueOf_165 : decode cX3_valueOf 165 = .ok (.iconst 0, 1) := by decide +kernel
theorem dX3_valueOf_166 : decode cX3_valueOf 166 = .ok (.iastore, 1) := by decide +kernel
theorem dX3_valueOf_167 : decode cX3_valueOf 167 = .ok (.goto 43, 3) := by decide +kernel
theorem dX3_valueOf_170 : decode cX3_valueOf 170 = .ok (.iload 4, 2) := by decide +kernel
theorem dX3_valueOf_172 : decode cX3_valueOf 172 = .ok (.iconst 2, 1) := by decide +kernel
theorem dX3_valueOf_173 : decode cX3_valueOf 173 = .ok (.if_icmp .lt 37, 3) := by decide +kernel
theorem dX3_valueOf_176 : decode cX3_valueOf 176 = .ok (.iinc 4 (-1), 3) := by decide +kernel
theorem dX3_valueOf_179 : decode cX3_valueOf 179 = .ok (.aload_n 0, 1) := by decide +kernel
theorem dX3_valueOf_180 : decode cX3_valueOf 180 = .ok (.getfield 25, 3) := by decide +kernel
theorem dX3_valueOf_183 : decode cX3_valueOf 183 = .ok (.iload 4, 2) := by decide +kernel
theorem dX3_valueOf_185 : decode cX3_valueOf 185 = .ok (.iconst 1, 1) := by decide +kernel
theorem dX3_valueOf_186 : decode cX3_valueOf 186 = .ok (.isub, 1) := by decide +kernel
theorem dX3_valueOf_187 : decode cX3_valueOf 187 = .ok (.iload 6, 2) := by decide +kernel
theorem dX3_valueOf_189 : decode cX3_valueOf 189 = .ok (.ineg, 1) := by decide +kernel
theorem dX3_valueOf_190 : decode cX3_valueOf 190 = .ok (.aload_n 0, 1) := by decide +kernel
theorem dX3_valueOf_191 : decode cX3_valueOf 191 = .ok (.getfield 25, 3) := by decide +kernel
theorem dX3_valueOf_194 : decode cX3_valueOf 194 = .ok (.iload 4, 2) := by decide +kernel
theorem dX3_valueOf_196 : decode cX3_valueOf 196 = .ok (.iconst 1, 1) := by decide +kernel
theorem dX3_valueOf_197 : decode cX3_valueOf 197 = .ok (.isub, 1) := by decide +kernel
theorem dX3_valueOf_198 : decode cX3_valueOf 198 = .ok (.iaload, 1) := by decide +kernel
theorem dX3_valueOf_199 : decode cX3_valueOf 199 = .ok (.aload_n 0, 1) := by decide +kernel
theorem dX3_valueOf_200 : decode cX3_valueOf 200 = .ok (.getfield 25, 3) := by decide +kernel
theorem dX3_valueOf_203 : decode cX3_valueOf 203 = .ok (.iload 4, 2) := by decide +kernel
theorem dX3_valueOf_205 : decode cX3_valueOf 205 = .ok (.iaload, 1) := by decide +kernel
theorem dX3_valueOf_206 : decode cX3_valueOf 206 = .ok (.invokestatic 44, 3) := by decide +kernel
theorem dX3_valueOf_209 : decode cX3_valueOf 209 = .ok (.iastore, 1) := by decide +kernel
theorem dX3_valueOf_210 : decode cX3_valueOf 210 = .ok (.iinc 5 1, 3) := by decide +kernel
theorem dX3_valueOf_213 : decode cX3_valueOf 213 = .ok (.goto (-165), 3) := by decide +kernel
theorem dX3_valueOf_216 : decode cX3_valueOf 216 = .ok (.aload_n 0, 1) := by decide +kernel
theorem dX3_valueOf_217 : decode cX3_valueOf 217 = .ok (.getfield 25, 3) := by decide +kernel
theorem dX3_valueOf_220 : decode cX3_valueOf 220 = .ok (.iconst 0, 1) := by decide +kernel
theorem dX3_valueOf_221 : decode cX3_valueOf 221 = .ok (.iaload, 1) := by decide +kernel
theorem dX3_valueOf_222 : decode cX3_valueOf 222 = .ok (.ireturn, 1) := by decide +kernel
theorem dX3_valueUntold_0 : decode cX3_valueUntold 0 = .ok (.aload_n 0, 1) := by decide +kernel
theorem dX3_valueUntold_1 : decode cX3_valueUntold 1 = .ok (.getfield 28, 3) := by decide +kernel
theorem dX3_valueUntold_4 : decode cX3_valueUntold 4 = .ok (.iconst 1, 1) := by decide +kernel
theorem dX3_valueUntold_5 : decode cX3_valueUntold 5 = .ok (.iaload, 1) := by decide +kernel
theorem dX3_valueUntold_6 : decode cX3_valueUntold 6 = .ok (.istore_n 2, 1) := by decide +kernel
theorem dX3_valueUntold_7 : decode cX3_valueUntold 7 = .ok (.iload_n 1, 1) := by decide +kernel
theorem dX3_valueUntold_8 : decode cX3_valueUntold 8 = .ok (.tableswitch 58 135 137 #[28, 33, 40], 28) := by decide +kernel
theorem dX3_valueUntold_36 : decode cX3_valueUntold 36 = .ok (.iload_n 2, 1) := by decide +kernel
theorem dX3_valueUntold_37 : decode cX3_valueUntold 37 = .ok (.bipush 12, 2) := by decide +kernel
theorem dX3_valueUntold_39 : decode cX3_valueUntold 39 = .ok (.isub, 1) := by decide +kernel
theorem dX3_valueUntold_40 : decode cX3_valueUntold 40 = .ok (.ireturn, 1) := by decide +kernel
theorem dX3_valueUntold_41 : decode cX3_valueUntold 41 = .ok (.aload_n 0, 1) := by decide +kernel
theorem dX3_valueUntold_42 : decode cX3_valueUntold 42 = .ok (.getfield 28, 3) := by decide +kernel
theorem dX3_valueUntold_45 : decode cX3_valueUntold 45 = .ok (.iconst 3, 1) := by decide +kernel
theorem dX3_valueUntold_46 : decode cX3_valueUntold 46 = .ok (.iaload, 1) := by decide +kernel
theorem dX3_valueUntold_47 : decode cX3_valueUntold 47 = .ok (.ireturn, 1) := by decide +kernel
theorem dX3_valueUntold_48 : decode cX3_valueUntold 48 = .ok (.iload_n 2, 1) := by decide +kernel
theorem dX3_valueUntold_49 : decode cX3_valueUntold 49 = .ok (.bipush 6, 2) := by decide +kernel
theorem dX3_valueUntold_51 : decode cX3_valueUntold 51 = .ok (.if_icmp .lt 9, 3) := by decide +kernel
theorem dX3_valueUntold_54 : decode cX3_valueUntold 54 = .ok (.bipush 18, 2) := by decide +kernel
theorem dX3_valueUntold_56 : decode cX3_valueUntold 56 = .ok (.iload_n 2, 1) := by decide +kernel
theorem dX3_valueUntold_57 : decode cX3_valueUntold 57 = .ok (.if_icmp .ge 7, 3) := by decide +kernel
theorem dX3_valueUntold_60 : decode cX3_valueUntold 60 = .ok (.iconst 1, 1) := by decide +kernel
theorem dX3_valueUntold_61 : decode cX3_valueUntold 61 = .ok (.goto 4, 3) := by decide +kernel
theorem dX3_valueUntold_64 : decode cX3_valueUntold 64 = .ok (.iconst 0, 1) := by decide +kernel
theorem dX3_valueUntold_65 : decode cX3_valueUntold 65 = .ok (.ireturn, 1) := by decide +kernel
theorem dX3_valueUntold_66 : decode cX3_valueUntold 66 = .ok (.iconst 1, 1) := by decide +kernel
theorem dX3_valueUntold_67 : decode cX3_valueUntold 67 = .ok (.ireturn, 1) := by decide +kernel
theorem dX3_joined_0 : decode cX3_joined 0 = .ok (.iload_n 0, 1) := by decide +kernel
theorem dX3_joined_1 : decode cX3_joined 1 = .ok (.lookupswitch 107 #[(42, 67), (43, 59), (45, 63), (60, 71), (61, 82), (141, 93)], 59) := by decide +kernel
theorem dX3_joined_60 : decode cX3_joined 60 = .ok (.iload_n 1, 1) := by decide +kernel
theorem dX3_joined_61 : decode cX3_joined 61 = .ok (.iload_n 2, 1) := by decide +kernel
theorem dX3_joined_62 : decode cX3_joined 62 = .ok (.iadd, 1) := by decide +kernel
theorem dX3_joined_63 : decode cX3_joined 63 = .ok (.ireturn, 1) := by decide +kernel
theorem dX3_joined_64 : decode cX3_joined 64 = .ok (.iload_n 1, 1) := by decide +kernel
theorem dX3_joined_65 : decode cX3_joined 65 = .ok (.iload_n 2, 1) := by decide +kernel
theorem dX3_joined_66 : decode cX3_joined 66 = .ok (.isub, 1) := by decide +kernel
theorem dX3_joined_67 : decode cX3_joined 67 = .ok (.ireturn, 1) := by decide +kernel
theorem dX3_joined_68 : decode cX3_joined 68 = .ok (.iload_n 1, 1) := by decide +kernel
theorem dX3_joined_69 : decode cX3_joined 69 = .ok (.iload_n 2, 1) := by decide +kernel
theorem dX3_joined_70 : decode cX3_joined 70 = .ok (.imul, 1) := by decide +kernel
theorem dX3_joined_71 : decode cX3_joined 71 = .ok (.ireturn, 1) := by decide +kernel
theorem dX3_joined_72 : decode cX3_joined 72 = .ok (.iload_n 1, 1) := by decide +kernel
theorem dX3_joined_73 : decode cX3_joined 73 = .ok (.iload_n 2, 1) := by decide +kernel
theorem dX3_joined_74 : decode cX3_joined 74 = .ok (.if_icmp .ge 7, 3) := by decide +kernel
theorem dX3_joined_77 : decode cX3_joined 77 = .ok (.iconst 1, 1) := by decide +kernel
theorem dX3_joined_78 : decode cX3_joined 78 = .ok (.goto 4, 3) := by decide +kernel
theorem dX3_joined_81 : decode cX3_joined 81 = .ok (.iconst 0, 1) := by decide +kernel
theorem dX3_joined_82 : decode cX3_joined 82 = .ok (.ireturn, 1) := by decide +kernel
theorem dX3_joined_83 : decode cX3_joined 83 = .ok (.iload_n 1, 1) := by decide +kernel
theorem dX3_joined_84 : decode cX3_joined 84 = .ok (.iload_n 2, 1) := by decide +kernel
theorem dX3_joined_85 : decode cX3_joined 85 = .ok (.if_icmp .ne 7, 3) := by decide +kernel
theorem dX3_joined_88 : decode cX3_joined 88 = .ok (.iconst 1, 1) := by decide +kernel
theorem dX3_joined_89 : decode cX3_joined 89 = .ok (.goto 4, 3) := by decide +kernel
theorem dX3_joined_92 : decode cX3_joined 92 = .ok (.iconst 0, 1) := by decide +kernel
theorem dX3_joined_93 : decode cX3_joined 93 = .ok (.ireturn, 1) := by decide +kernel
theorem dX3_joined_94 : decode cX3_joined 94 = .ok (.iload_n 1, 1) := by decide +kernel
theorem dX3_joined_95 : decode cX3_joined 95 = .ok (.ifCond .eq 11, 3) := by decide +kernel
theorem dX3_joined_98 : decode cX3_joined 98 = .ok (.iload_n 2, 1) := by decide +kernel
theorem dX3_joined_99 : decode cX3_joined 99 = .ok (.ifCond .eq 7, 3) := by decide +kernel
theorem dX3_joined_102 : decode cX3_joined 102 = .ok (.iconst 1, 1) := by decide +kernel
theorem dX3_joined_103 : decode cX3_joined 103 = .ok (.goto 4, 3) := by decide +kernel
theorem dX3_joined_106 : decode cX3_joined 106 = .ok (.iconst 0, 1) := by decide +kernel
theorem dX3_joined_107 : decode cX3_joined 107 = .ok (.ireturn, 1) := by decide +kernel
theorem dX3_joined_108 : decode cX3_joined 108 = .ok (.iload_n 1, 1) := by decide +kernel
theorem dX3_joined_109 : decode cX3_joined 109 = .ok (.ifCond .ne 7, 3) := by decide +kernel
theorem dX3_joined_112 : decode cX3_joined 112 = .ok (.iload_n 2, 1) := by decide +kernel
theorem dX3_joined_113 : decode cX3_joined 113 = .ok (.ifCond .eq 7, 3) := by decide +kernel
theorem dX3_joined_116 : decode cX3_joined 116 = .ok (.iconst 1, 1) := by decide +kernel
theorem dX3_joined_117 : decode cX3_joined 117 = .ok (.goto 4, 3) := by decide +kernel
theorem dX3_joined_120 : decode cX3_joined 120 = .ok (.iconst 0, 1) := by decide +kernel
theorem dX3_joined_121 : decode cX3_joined 121 = .ok (.ireturn, 1) := by decide +kernel
theorem dX3_isLaw_0 : decode cX3_isLaw 0 = .ok (.iload_n 0, 1) := by decide +kernel
theorem dX3_isLaw_1 : decode cX3_isLaw 1 = .ok (.sipush 135, 3) := by decide +kernel
theorem dX3_isLaw_4 : decode cX3_isLaw 4 = .ok (.if_icmp .lt 14, 3) := by decide +kernel
theorem dX3_isLaw_7 : decode cX3_isLaw 7 = .ok (.iload_n 0, 1) := by decide +kernel
theorem dX3_isLaw_8 : decode cX3_isLaw 8 = .ok (.sipush 138, 3) := by decide +kernel
theorem dX3_isLaw_11 : decode cX3_isLaw 11 = .ok (.if_icmp .gt 7, 3) := by decide +kernel
theorem dX3_isLaw_14 : decode cX3_isLaw 14 = .ok (.iconst 1, 1) := by decide +kernel
theorem dX3_isLaw_15 : decode cX3_isLaw 15 = .ok (.goto 4, 3) := by decide +kernel
theorem dX3_isLaw_18 : decode cX3_isLaw 18 = .ok (.iconst 0, 1) := by decide +kernel
theorem dX3_isLaw_19 : decode cX3_isLaw 19 = .ok (.ireturn, 1) := by decide +kernel
theorem dX3_isFact_0 : decode cX3_isFact 0 = .ok (.iload_n 0, 1) := by decide +kernel
theorem dX3_isFact_1 : decode cX3_isFact 1 = .ok (.sipush 143, 3) := by decide +kernel
theorem dX3_isFact_4 : decode cX3_isFact 4 = .ok (.if_icmp .lt 14, 3) := by decide +kernel
theorem dX3_isFact_7 : decode cX3_isFact 7 = .ok (.iload_n 0, 1) := by decide +kernel
theorem dX3_isFact_8 : decode cX3_isFact 8 = .ok (.sipush 149, 3) := by decide +kernel
theorem dX3_isFact_11 : decode cX3_isFact 11 = .ok (.if_icmp .gt 7, 3) := by decide +kernel
theorem dX3_isFact_14 : decode cX3_isFact 14 = .ok (.iconst 1, 1) := by decide +kernel
theorem dX3_isFact_15 : decode cX3_isFact 15 = .ok (.goto 4, 3) := by decide +kernel
theorem dX3_isFact_18 : decode cX3_isFact 18 = .ok (.iconst 0, 1) := by decide +kernel
theorem dX3_isFact_19 : decode cX3_isFact 19 = .ok (.ireturn, 1) := by decide +kernel
theorem dX4_init_0 : decode cX4_init 0 = .ok (.aload_n 0, 1) := by decide +kernel
theorem dX4_init_1 : decode cX4_init 1 = .ok (.invokespecial 3, 3) := by decide +kernel
theorem dX4_init_4 : decode cX4_init 4 = .ok (.aload_n 0, 1) := by decide +kernel
theorem dX4_init_5 : decode cX4_init 5 = .ok (.new 9, 3) := by decide +kernel
theorem dX4_init_8 : decode cX4_init 8 = .ok (.dup, 1) := by decide +kernel
theorem dX4_init_9 : decode cX4_init 9 = .ok (.invokespecial 11, 3) := by decide +kernel
theorem dX4_init_12 : decode cX4_init 12 = .ok (.putfield 12, 3) := by decide +kernel
theorem dX4_init_15 : decode cX4_init 15 = .ok (.aload_n 0, 1) := by decide +kernel
theorem dX4_init_16 : decode cX4_init 16 = .ok (.bipush 12, 2) := by decide +kernel
theorem dX4_init_18 : decode cX4_init 18 = .ok (.newarray .int, 2) := by decide +kernel
theorem dX4_init_20 : decode cX4_init 20 = .ok (.putfield 18, 3) := by decide +kernel
theorem dX4_init_23 : decode cX4_init 23 = .ok (.aload_n 0, 1) := by decide +kernel
theorem dX4_init_24 : decode cX4_init 24 = .ok (.sipush 2496, 3) := by decide +kernel
theorem dX4_init_27 : decode cX4_init 27 = .ok (.newarray .long, 2) := by decide +kernel
theorem dX4_init_29 : decode cX4_init 29 = .ok (.putfield 22, 3) := by decide +kernel
theorem dX4_init_32 : decode cX4_init 32 = .ok (.aload_n 0, 1) := by decide +kernel
theorem dX4_init_33 : decode cX4_init 33 = .ok (.iconst (-1), 1) := by decide +kernel
theorem dX4_init_34 : decode cX4_init 34 = .ok (.putfield 26, 3) := by decide +kernel
theorem dX4_init_37 : decode cX4_init 37 = .ok (.return_, 1) := by decide +kernel
theorem dX4_enter_0 : decode cX4_enter 0 = .ok (.aload_n 0, 1) := by decide +kernel
theorem dX4_enter_1 : decode cX4_enter 1 = .ok (.getfield 12, 3) := by decide +kernel
theorem dX4_enter_4 : decode cX4_enter 4 = .ok (.astore_n 2, 1) := by decide +kernel
theorem dX4_enter_5 : decode cX4_enter 5 = .ok (.aload_n 0, 1) := by decide +kernel
theorem dX4_enter_6 : decode cX4_enter 6 = .ok (.aload_n 1, 1) := by decide +kernel
theorem dX4_enter_7 : decode cX4_enter 7 = .ok (.putfield 12, 3) := by decide +kernel
theorem dX4_enter_10 : decode cX4_enter 10 = .ok (.aload_n 0, 1) := by decide +kernel
theorem dX4_enter_11 : decode cX4_enter 11 = .ok (.iconst (-1), 1) := by decide +kernel
theorem dX4_enter_12 : decode cX4_enter 12 = .ok (.putfield 26, 3) := by decide +kernel
theorem dX4_enter_15 : decode cX4_enter 15 = .ok (.aload_n 0, 1) := by decide +kernel
theorem dX4_enter_16 : decode cX4_enter 16 = .ok (.getfield 22, 3) := by decide +kernel
theorem dX4_enter_19 : decode cX4_enter 19 = .ok (.lconst 0, 1) := by decide +kernel
theorem dX4_enter_20 : decode cX4_enter 20 = .ok (.invokestatic 30, 3) := by decide +kernel
theorem dX4_enter_23 : decode cX4_enter 23 = .ok (.aload_n 2, 1) := by decide +kernel
theorem dX4_enter_24 : decode cX4_enter 24 = .ok (.areturn, 1) := by decide +kernel
theorem dX4_turnTo_0 : decode cX4_turnTo 0 = .ok (.iload_n 1, 1) := by decide +kernel
theorem dX4_turnTo_1 : decode cX4_turnTo 1 = .ok (.aload_n 0, 1) := by decide +kernel
theorem dX4_turnTo_2 : decode cX4_turnTo 2 = .ok (.getfield 26, 3) := by decide +kernel
theorem dX4_turnTo_5 : decode cX4_turnTo 5 = .ok (.if_icmp .eq 14, 3) := by decide +kernel
theorem dX4_turnTo_8 : decode cX4_turnTo 8 = .ok (.iload_n 1, 1) := by decide +kernel
theorem dX4_turnTo_9 : decode cX4_turnTo 9 = .ok (.ifCond .lt 10, 3) := by decide +kernel
theorem dX4_turnTo_12 : decode cX4_turnTo 12 = .ok (.iload_n 1, 1) := by decide +kernel
theorem dX4_turnTo_13 : decode cX4_turnTo 13 = .ok (.sipush 1248, 3) := by decide +kernel
theorem dX4_turnTo_16 : decode cX4_turnTo 16 = .ok (.if_icmp .lt 4, 3) := by decide +kernel
theorem dX4_turnTo_19 : decode cX4_turnTo 19 = .ok (.return_, 1) := by decide +kernel
theorem dX4_turnTo_20 : decode cX4_turnTo 20 = .ok (.aload_n 0, 1) := by decide +kernel
theorem dX4_turnTo_21 : decode cX4_turnTo 21 = .ok (.iload_n 1, 1) := by decide +kernel
theorem dX4_turnTo_22 : decode cX4_turnTo 22 = .ok (.putfield 26, 3) := by decide +kernel
theorem dX4_turnTo_25 : decode cX4_turnTo 25 = .ok (.aload_n 0, 1) := by decide +kernel
theorem dX4_turnTo_26 : decode cX4_turnTo 26 = .ok (.getfield 12, 3) := by decide +kernel
theorem dX4_turnTo_29 : decode cX4_turnTo 29 = .ok (.getfield 36, 3) := by decide +kernel
theorem dX4_turnTo_32 : decode cX4_turnTo 32 = .ok (.iload_n 1, 1) := by decide +kernel
theorem dX4_turnTo_33 : decode cX4_turnTo 33 = .ok (.invokevirtual 40, 3) := by decide +kernel
theorem dX4_turnTo_36 : decode cX4_turnTo 36 = .ok (.aload_n 0, 1) := by decide +kernel
theorem dX4_turnTo_37 : decode cX4_turnTo 37 = .ok (.getfield 22, 3) := by decide +kernel
theorem dX4_turnTo_40 : decode cX4_turnTo 40 = .ok (.iconst 2, 1) := by decide +kernel
theorem dX4_turnTo_41 : decode cX4_turnTo 41 = .ok (.iload_n 1, 1) := by decide +kernel
theorem dX4_turnTo_42 : decode cX4_turnTo 42 = .ok (.imul, 1) := by decide +kernel
theorem dX4_turnTo_43 : decode cX4_turnTo 43 = .ok (.laload, 1) := by decide +kernel
theorem dX4_turnTo_44 : decode cX4_turnTo 44 = .ok (.ldc2_w 46, 3) := by decide +kernel
theorem dX4_turnTo_47 : decode cX4_turnTo 47 = .ok (.land, 1) := by decide +kernel
theorem dX4_turnTo_48 : decode cX4_turnTo 48 = .ok (.lconst 0, 1) := by decide +kernel
theorem dX4_turnTo_49 : decode cX4_turnTo 49 = .ok (.lcmp, 1) := by decide +kernel
theorem dX4_turnTo_50 : decode cX4_turnTo 50 = .ok (.ifCond .ne 8, 3) := by decide +kernel
theorem dX4_turnTo_53 : decode cX4_turnTo 53 = .ok (.aload_n 0, 1) := by decide +kernel
theorem dX4_turnTo_54 : decode cX4_turnTo 54 = .ok (.iload_n 1, 1) := by decide +kernel
theorem dX4_turnTo_55 : decode cX4_turnTo 55 = .ok (.invokevirtual 48, 3) := by decide +kernel
theorem dX4_turnTo_58 : decode cX4_turnTo 58 = .ok (.aload_n 0, 1) := by decide +kernel
theorem dX4_turnTo_59 : decode cX4_turnTo 59 = .ok (.getfield 22, 3) := by decide +kernel
theorem dX4_turnTo_62 : decode cX4_turnTo 62 = .ok (.iconst 2, 1) := by decide +kernel
theorem dX4_turnTo_63 : decode cX4_turnTo 63 = .ok (.iload_n 1, 1) := by decide +kernel
theorem dX4_turnTo_64 : decode cX4_turnTo 64 = .ok (.imul, 1) := by decide +kernel
theorem dX4_turnTo_65 : decode cX4_turnTo 65 = .ok (.laload, 1) := by decide +kernel
theorem dX4_turnTo_66 : decode cX4_turnTo 66 = .ok (.lstore_n 2, 1) := by decide +kernel
theorem dX4_turnTo_67 : decode cX4_turnTo 67 = .ok (.aload_n 0, 1) := by decide +kernel
theorem dX4_turnTo_68 : decode cX4_turnTo 68 = .ok (.getfield 22, 3) := by decide +kernel
theorem dX4_turnTo_71 : decode cX4_turnTo 71 = .ok (.iconst 2, 1) := by decide +kernel
theorem dX4_turnTo_72 : decode cX4_turnTo 72 = .ok (.iload_n 1, 1) := by decide +kernel
theorem dX4_turnTo_73 : decode cX4_turnTo 73 = .ok (.imul, 1) := by decide +kernel
theorem dX4_turnTo_74 : decode cX4_turnTo 74 = .ok (.iconst 1, 1) := by decide +kernel
theorem dX4_turnTo_75 : decode cX4_turnTo 75 = .ok (.iadd, 1) := by decide +kernel
theorem dX4_turnTo_76 : decode cX4_turnTo 76 = .ok (.laload, 1) := by decide +kernel
theorem dX4_turnTo_77 : decode cX4_turnTo 77 = .ok (.lstore 4, 2) := by decide +kernel
theorem dX4_turnTo_79 : decode cX4_turnTo 79 = .ok (.iconst 0, 1) := by decide +kernel
theorem dX4_turnTo_80 : decode cX4_turnTo 80 = .ok (.istore 6, 2) := by decide +kernel
theorem dX4_turnTo_82 : decode cX4_turnTo 82 = .ok (.iload 6, 2) := by decide +kernel
theorem dX4_turnTo_84 : decode cX4_turnTo 84 = .ok (.bipush 6, 2) := by decide +kernel
theorem dX4_turnTo_86 : decode cX4_turnTo 86 = .ok (.if_icmp .ge 55, 3) := by decide +kernel
theorem dX4_turnTo_89 : decode cX4_turnTo 89 = .ok (.aload_n 0, 1) := by decide +kernel
theorem dX4_turnTo_90 : decode cX4_turnTo 90 = .ok (.getfield 18, 3) := by decide +kernel
theorem dX4_turnTo_93 : decode cX4_turnTo 93 = .ok (.iload 6, 2) := by decide +kernel
theorem dX4_turnTo_95 : decode cX4_turnTo 95 = .ok (.lload_n 2, 1) := by decide +kernel
theorem dX4_turnTo_96 : decode cX4_turnTo 96 = .ok (.bipush 8, 2) := by decide +kernel
theorem dX4_turnTo_98 : decode cX4_turnTo 98 = .ok (.iload 6, 2) := by decide +kernel
theorem dX4_turnTo_100 : decode cX4_turnTo 100 = .ok (.imul, 1) := by decide +kernel
theorem dX4_turnTo_101 : decode cX4_turnTo 101 = .ok (.lushr, 1) := by decide +kernel
theorem dX4_turnTo_102 : decode cX4_turnTo 102 = .ok (.ldc2_w 51, 3) := by decide +kernel
theorem dX4_turnTo_105 : decode cX4_turnTo 105 = .ok (.land, 1) := by decide +kernel
theorem dX4_turnTo_106 : decode cX4_turnTo 106 = .ok (.l2i, 1) := by decide +kernel
theorem dX4_turnTo_107 : decode cX4_turnTo 107 = .ok (.iconst 1, 1) := by decide +kernel
theorem dX4_turnTo_108 : decode cX4_turnTo 108 = .ok (.isub, 1) := by decide +kernel
theorem dX4_turnTo_109 : decode cX4_turnTo 109 = .ok (.iastore, 1) := by decide +kernel
theorem dX4_turnTo_110 : decode cX4_turnTo 110 = .ok (.aload_n 0, 1) := by decide +kernel
theorem dX4_turnTo_111 : decode cX4_turnTo 111 = .ok (.getfield 18, 3) := by decide +kernel
theorem dX4_turnTo_114 : decode cX4_turnTo 114 = .ok (.iload 6, 2) := by decide +kernel
theorem dX4_turnTo_116 : decode cX4_turnTo 116 = .ok (.bipush 6, 2) := by decide +kernel
theorem dX4_turnTo_118 : decode cX4_turnTo 118 = .ok (.iadd, 1) := by decide +kernel
theorem dX4_turnTo_119 : decode cX4_turnTo 119 = .ok (.lload 4, 2) := by decide +kernel
theorem dX4_turnTo_121 : decode cX4_turnTo 121 = .ok (.bipush 8, 2) := by decide +kernel
theorem dX4_turnTo_123 : decode cX4_turnTo 123 = .ok (.iload 6, 2) := by decide +kernel
theorem dX4_turnTo_125 : decode cX4_turnTo 125 = .ok (.imul, 1) := by decide +kernel
theorem dX4_turnTo_126 : decode cX4_turnTo 126 = .ok (.lushr, 1) := by decide +kernel
theorem dX4_turnTo_127 : decode cX4_turnTo 127 = .ok (.ldc2_w 51, 3) := by decide +kernel
theorem dX4_turnTo_130 : decode cX4_turnTo 130 = .ok (.land, 1) := by decide +kernel
theorem dX4_turnTo_131 : decode cX4_turnTo 131 = .ok (.l2i, 1) := by decide +kernel
theorem dX4_turnTo_132 : decode cX4_turnTo 132 = .ok (.iconst 1, 1) := by decide +kernel
theorem dX4_turnTo_133 : decode cX4_turnTo 133 = .ok (.isub, 1) := by decide +kernel
theorem dX4_turnTo_134 : decode cX4_turnTo 134 = .ok (.iastore, 1) := by decide +kernel
theorem dX4_turnTo_135 : decode cX4_turnTo 135 = .ok (.iinc 6 1, 3) := by decide +kernel
theorem dX4_turnTo_138 : decode cX4_turnTo 138 = .ok (.goto (-56), 3) := by decide +kernel
theorem dX4_turnTo_141 : decode cX4_turnTo 141 = .ok (.return_, 1) := by decide +kernel
theorem dX4_shine_0 : decode cX4_shine 0 = .ok (.aload_n 0, 1) := by decide +kernel
theorem dX4_shine_1 : decode cX4_shine 1 = .ok (.getfield 12, 3) := by decide +kernel
theorem dX4_shine_4 : decode cX4_shine 4 = .ok (.getfield 36, 3) := by decide +kernel
theorem dX4_shine_7 : decode cX4_shine 7 = .ok (.astore_n 2, 1) := by decide +kernel
theorem dX4_shine_8 : decode cX4_shine 8 = .ok (.ldc2_w 46, 3) := by decide +kernel
theorem dX4_shine_11 : decode cX4_shine 11 = .ok (.lstore_n 3, 1) := by decide +kernel
theorem dX4_shine_12 : decode cX4_shine 12 = .ok (.lconst 0, 1) := by decide +kernel
theorem dX4_shine_13 : decode cX4_shine 13 = .ok (.lstore 5, 2) := by decide +kernel
theorem dX4_shine_15 : decode cX4_shine 15 = .ok (.aload_n 2, 1) := by decide +kernel
theorem dX4_shine_16 : decode cX4_shine 16 = .ok (.sipush 137, 3) := by decide +kernel
theorem dX4_shine_19 : decode cX4_shine 19 = .ok (.invokevirtual 55, 3) := by decide +kernel
theorem dX4_shine_22 : decode cX4_shine 22 = .ok (.ifCond .ne 13, 3) := by decide +kernel
theorem dX4_shine_25 : decode cX4_shine 25 = .ok (.aload_n 0, 1) := by decide +kernel
theorem dX4_shine_26 : decode cX4_shine 26 = .ok (.getfield 12, 3) := by decide +kernel
theorem dX4_shine_29 : decode cX4_shine 29 = .ok (.getfield 59, 3) := by decide +kernel
theorem dX4_shine_32 : decode cX4_shine 32 = .ok (.goto 4, 3) := by decide +kernel
theorem dX4_shine_35 : decode cX4_shine 35 = .ok (.iconst 0, 1) := by decide +kernel
theorem dX4_shine_36 : decode cX4_shine 36 = .ok (.istore 7, 2) := by decide +kernel
theorem dX4_shine_38 : decode cX4_shine 38 = .ok (.iconst 0, 1) := by decide +kernel
theorem dX4_shine_39 : decode cX4_shine 39 = .ok (.istore 8, 2) := by decide +kernel
theorem dX4_shine_41 : decode cX4_shine 41 = .ok (.iload 8, 2) := by decide +kernel
theorem dX4_shine_43 : decode cX4_shine 43 = .ok (.iload 7, 2) := by decide +kernel
theorem dX4_shine_45 : decode cX4_shine 45 = .ok (.if_icmp .ge 136, 3) := by decide +kernel
theorem dX4_shine_48 : decode cX4_shine 48 = .ok (.iload 8, 2) := by decide +kernel
theorem dX4_shine_50 : decode cX4_shine 50 = .ok (.bipush 12, 2) := by decide +kernel
theorem dX4_shine_52 : decode cX4_shine 52 = .ok (.if_icmp .ge 129, 3) := by decide +kernel
theorem dX4_shine_55 : decode cX4_shine 55 = .ok (.aload_n 2, 1) := by decide +kernel
theorem dX4_shine_56 : decode cX4_shine 56 = .ok (.aload_n 0, 1) := by decide +kernel
theorem dX4_shine_57 : decode cX4_shine 57 = .ok (.getfield 12, 3) := by decide +kernel
theorem dX4_shine_60 : decode cX4_shine 60 = .ok (.getfield 62, 3) := by decide +kernel
theorem dX4_shine_63 : decode cX4_shine 63 = .ok (.iload 8, 2) := by decide +kernel
theorem dX4_shine_65 : decode cX4_shine 65 = .ok (.iaload, 1) := by decide +kernel
theorem dX4_shine_66 : decode cX4_shine 66 = .ok (.aload_n 0, 1) := by decide +kernel
theorem dX4_shine_67 : decode cX4_shine 67 = .ok (.getfield 12, 3) := by decide +kernel
theorem dX4_shine_70 : decode cX4_shine 70 = .ok (.getfield 65, 3) := by decide +kernel
theorem dX4_shine_73 : decode cX4_shine 73 = .ok (.iload 8, 2) := by decide +kernel
theorem dX4_shine_75 : decode cX4_shine 75 = .ok (.iaload, 1) := by decide +kernel
theorem dX4_shine_76 : decode cX4_shine 76 = .ok (.invokevirtual 68, 3) := by decide +kernel
theorem dX4_shine_79 : decode cX4_shine 79 = .ok (.aload_n 0, 1) := by decide +kernel
theorem dX4_shine_80 : decode cX4_shine 80 = .ok (.getfield 12, 3) := by decide +kernel
theorem dX4_shine_83 : decode cX4_shine 83 = .ok (.getfield 62, 3) := by decide +kernel
theorem dX4_shine_86 : decode cX4_shine 86 = .ok (.iload 8, 2) := by decide +kernel
theorem dX4_shine_88 : decode cX4_shine 88 = .ok (.iaload, 1) := by decide +kernel
theorem dX4_shine_89 : decode cX4_shine 89 = .ok (.aload_n 2, 1) := by decide +kernel
theorem dX4_shine_90 : decode cX4_shine 90 = .ok (.sipush 135, 3) := by decide +kernel
theorem dX4_shine_93 : decode cX4_shine 93 = .ok (.invokevirtual 55, 3) := by decide +kernel
theorem dX4_shine_96 : decode cX4_shine 96 = .ok (.iadd, 1) := by decide +kernel
theorem dX4_shine_97 : decode cX4_shine 97 = .ok (.istore 9, 2) := by decide +kernel
theorem dX4_shine_99 : decode cX4_shine 99 = .ok (.aload_n 2, 1) := by decide +kernel
theorem dX4_shine_100 : decode cX4_shine 100 = .ok (.sipush 136, 3) := by decide +kernel
theorem dX4_shine_103 : decode cX4_shine 103 = .ok (.invokevirtual 55, 3) := by decide +kernel
theorem dX4_shine_106 : decode cX4_shine 106 = .ok (.istore 10, 2) := by decide +kernel
theorem dX4_shine_108 : decode cX4_shine 108 = .ok (.aload_n 0, 1) := by decide +kernel
theorem dX4_shine_109 : decode cX4_shine 109 = .ok (.getfield 12, 3) := by decide +kernel
theorem dX4_shine_112 : decode cX4_shine 112 = .ok (.iload 9, 2) := by decide +kernel
theorem dX4_shine_114 : decode cX4_shine 114 = .ok (.iload 10, 2) := by decide +kernel
theorem dX4_shine_116 : decode cX4_shine 116 = .ok (.invokevirtual 72, 3) := by decide +kernel
theorem dX4_shine_119 : decode cX4_shine 119 = .ok (.ifCond .eq 16, 3) := by decide +kernel
theorem dX4_shine_122 : decode cX4_shine 122 = .ok (.iload 9, 2) := by decide +kernel
theorem dX4_shine_124 : decode cX4_shine 124 = .ok (.iload 10, 2) := by decide +kernel
theorem dX4_shine_126 : decode cX4_shine 126 = .ok (.invokestatic 76, 3) := by decide +kernel
theorem dX4_shine_129 : decode cX4_shine 129 = .ok (.iconst 1, 1) := by decide +kernel
theorem dX4_shine_130 : decode cX4_shine 130 = .ok (.iadd, 1) := by decide +kernel
theorem dX4_shine_131 : decode cX4_shine 131 = .ok (.i2l, 1) := by decide +kernel
theorem dX4_shine_132 : decode cX4_shine 132 = .ok (.goto 4, 3) := by decide +kernel
theorem dX4_shine_135 : decode cX4_shine 135 = .ok (.lconst 0, 1) := by decide +kernel
theorem dX4_shine_136 : decode cX4_shine 136 = .ok (.lstore 11, 2) := by decide +kernel
theorem dX4_shine_138 : decode cX4_shine 138 = .ok (.iload 8, 2) := by decide +kernel
theorem dX4_shine_140 : decode cX4_shine 140 = .ok (.bipush 6, 2) := by decide +kernel
theorem dX4_shine_142 : decode cX4_shine 142 = .ok (.if_icmp .ge 17, 3) := by decide +kernel
theorem dX4_shine_145 : decode cX4_shine 145 = .ok (.lload_n 3, 1) := by decide +kernel
theorem dX4_shine_146 : decode cX4_shine 146 = .ok (.lload 11, 2) := by decide +kernel
theorem dX4_shine_148 : decode cX4_shine 148 = .ok (.bipush 8, 2) := by decide +kernel
theorem dX4_shine_150 : decode cX4_shine 150 = .ok (.iload 8, 2) := by decide +kernel
theorem dX4_shine_152 : decode cX4_shine 152 = .ok (.imul, 1) := by decide +kernel
theorem dX4_shine_153 : decode cX4_shine 153 = .ok (.lshl, 1) := by decide +kernel
theorem dX4_shine_154 : decode cX4_shine 154 = .ok (.lor, 1) := by decide +kernel
theorem dX4_shine_155 : decode cX4_shine 155 = .ok (.lstore_n 3, 1) := by decide +kernel
theorem dX4_shine_156 : decode cX4_shine 156 = .ok (.goto 19, 3) := by decide +kernel
theorem dX4_shine_159 : decode cX4_shine 159 = .ok (.lload 5, 2) := by decide +kernel
theorem dX4_shine_161 : decode cX4_shine 161 = .ok (.lload 11, 2) := by decide +kernel
theorem dX4_shine_163 : decode cX4_shine 163 = .ok (.bipush 8, 2) := by decide +kernel
theorem dX4_shine_165 : decode cX4_shine 165 = .ok (.iload 8, 2) := by decide +kernel
theorem dX4_shine_167 : decode cX4_shine 167 = .ok (.bipush 6, 2) := by decide +kernel
theorem dX4_shine_169 : decode cX4_shine 169 = .ok (.isub, 1) := by decide +kernel
theorem dX4_shine_170 : decode cX4_shine 170 = .ok (.imul, 1) := by decide +kernel
theorem dX4_shine_171 : decode cX4_shine 171 = .ok (.lshl, 1) := by decide +kernel
theorem dX4_shine_172 : decode cX4_shine 172 = .ok (.lor, 1) := by decide +kernel
theorem dX4_shine_173 : decode cX4_shine 173 = .ok (.lstore 5, 2) := by decide +kernel
theorem dX4_shine_175 : decode cX4_shine 175 = .ok (.iinc 8 1, 3) := by decide +kernel
theorem dX4_shine_178 : decode cX4_shine 178 = .ok (.goto (-137), 3) := by decide +kernel
theorem dX4_shine_181 : decode cX4_shine 181 = .ok (.aload_n 0, 1) := by decide +kernel
theorem dX4_shine_182 : decode cX4_shine 182 = .ok (.getfield 22, 3) := by decide +kernel
theorem dX4_shine_185 : decode cX4_shine 185 = .ok (.iconst 2, 1) := by decide +kernel
theorem dX4_shine_186 : decode cX4_shine 186 = .ok (.iload_n 1, 1) := by decide +kernel
theorem dX4_shine_187 : decode cX4_shine 187 = .ok (.imul, 1) := by decide +kernel
theorem dX4_shine_188 : decode cX4_shine 188 = .ok (.lload_n 3, 1) := by decide +kernel
theorem dX4_shine_189 : decode cX4_shine 189 = .ok (.lastore, 1) := by decide +kernel
theorem dX4_shine_190 : decode cX4_shine 190 = .ok (.aload_n 0, 1) := by decide +kernel
theorem dX4_shine_191 : decode cX4_shine 191 = .ok (.getfield 22, 3) := by decide +kernel
theorem dX4_shine_194 : decode cX4_shine 194 = .ok (.iconst 2, 1) := by decide +kernel
theorem dX4_shine_195 : decode cX4_shine 195 = .ok (.iload_n 1, 1) := by decide +kernel
theorem dX4_shine_196 : decode cX4_shine 196 = .ok (.imul, 1) := by decide +kernel
theorem dX4_shine_197 : decode cX4_shine 197 = .ok (.iconst 1, 1) := by decide +kernel
theorem dX4_shine_198 : decode cX4_shine 198 = .ok (.iadd, 1) := by decide +kernel
theorem dX4_shine_199 : decode cX4_shine 199 = .ok (.lload 5, 2) := by decide +kernel
theorem dX4_shine_201 : decode cX4_shine 201 = .ok (.lastore, 1) := by decide +kernel
theorem dX4_shine_202 : decode cX4_shine 202 = .ok (.return_, 1) := by decide +kernel
theorem dX4_panesOn_0 : decode cX4_panesOn 0 = .ok (.iconst 0, 1) := by decide +kernel
theorem dX4_panesOn_1 : decode cX4_panesOn 1 = .ok (.istore_n 3, 1) := by decide +kernel
theorem dX4_panesOn_2 : decode cX4_panesOn 2 = .ok (.iconst 0, 1) := by decide +kernel
theorem dX4_panesOn_3 : decode cX4_panesOn 3 = .ok (.istore 4, 2) := by decide +kernel
theorem dX4_panesOn_5 : decode cX4_panesOn 5 = .ok (.iload 4, 2) := by decide +kernel
theorem dX4_panesOn_7 : decode cX4_panesOn 7 = .ok (.bipush 12, 2) := by decide +kernel
theorem dX4_panesOn_9 : decode cX4_panesOn 9 = .ok (.if_icmp .ge 37, 3) := by decide +kernel
theorem dX4_panesOn_12 : decode cX4_panesOn 12 = .ok (.aload_n 0, 1) := by decide +kernel
theorem dX4_panesOn_13 : decode cX4_panesOn 13 = .ok (.getfield 18, 3) := by decide +kernel
theorem dX4_panesOn_16 : decode cX4_panesOn 16 = .ok (.iload 4, 2) := by decide +kernel
theorem dX4_panesOn_18 : decode cX4_panesOn 18 = .ok (.iaload, 1) := by decide +kernel
theorem dX4_panesOn_19 : decode cX4_panesOn 19 = .ok (.iload_n 1, 1) := by decide +kernel
theorem dX4_panesOn_20 : decode cX4_panesOn 20 = .ok (.if_icmp .ne 20, 3) := by decide +kernel
theorem dX4_panesOn_23 : decode cX4_panesOn 23 = .ok (.iload_n 2, 1) := by decide +kernel
theorem dX4_panesOn_24 : decode cX4_panesOn 24 = .ok (.iload 4, 2) := by decide +kernel
theorem dX4_panesOn_26 : decode cX4_panesOn 26 = .ok (.ishr, 1) := by decide +kernel
theorem dX4_panesOn_27 : decode cX4_panesOn 27 = .ok (.iconst 1, 1) := by decide +kernel
theorem dX4_panesOn_28 : decode cX4_panesOn 28 = .ok (.iand, 1) := by decide +kernel
theorem dX4_panesOn_29 : decode cX4_panesOn 29 = .ok (.iconst 1, 1) := by decide +kernel
theorem dX4_panesOn_30 : decode cX4_panesOn 30 = .ok (.if_icmp .ne 10, 3) := by decide +kernel
theorem dX4_panesOn_33 : decode cX4_panesOn 33 = .ok (.iload_n 3, 1) := by decide +kernel
theorem dX4_panesOn_34 : decode cX4_panesOn 34 = .ok (.iconst 1, 1) := by decide +kernel
theorem dX4_panesOn_35 : decode cX4_panesOn 35 = .ok (.iload 4, 2) := by decide +kernel
theorem dX4_panesOn_37 : decode cX4_panesOn 37 = .ok (.ishl, 1) := by decide +kernel
theorem dX4_panesOn_38 : decode cX4_panesOn 38 = .ok (.ior, 1) := by decide +kernel
theorem dX4_panesOn_39 : decode cX4_panesOn 39 = .ok (.istore_n 3, 1) := by decide +kernel
theorem dX4_panesOn_40 : decode cX4_panesOn 40 = .ok (.iinc 4 1, 3) := by decide +kernel
theorem dX4_panesOn_43 : decode cX4_panesOn 43 = .ok (.goto (-38), 3) := by decide +kernel
theorem dX4_panesOn_46 : decode cX4_panesOn 46 = .ok (.iload_n 3, 1) := by decide +kernel
theorem dX4_panesOn_47 : decode cX4_panesOn 47 = .ok (.ireturn, 1) := by decide +kernel
theorem dX4_colourOn_0 : decode cX4_colourOn 0 = .ok (.aload_n 0, 1) := by decide +kernel
theorem dX4_colourOn_1 : decode cX4_colourOn 1 = .ok (.getfield 12, 3) := by decide +kernel
theorem dX4_colourOn_4 : decode cX4_colourOn 4 = .ok (.aload_n 0, 1) := by decide +kernel
theorem dX4_colourOn_5 : decode cX4_colourOn 5 = .ok (.iload_n 1, 1) := by decide +kernel
theorem dX4_colourOn_6 : decode cX4_colourOn 6 = .ok (.iload_n 2, 1) := by decide +kernel
theorem dX4_colourOn_7 : decode cX4_colourOn 7 = .ok (.invokevirtual 80, 3) := by decide +kernel
theorem dX4_colourOn_10 : decode cX4_colourOn 10 = .ok (.invokevirtual 83, 3) := by decide +kernel
theorem dX4_colourOn_13 : decode cX4_colourOn 13 = .ok (.ireturn, 1) := by decide +kernel
theorem dX4_placesOf_0 : decode cX4_placesOf 0 = .ok (.lconst 0, 1) := by decide +kernel
theorem dX4_placesOf_1 : decode cX4_placesOf 1 = .ok (.lstore_n 2, 1) := by decide +kernel
theorem dX4_placesOf_2 : decode cX4_placesOf 2 = .ok (.iconst 0, 1) := by decide +kernel
theorem dX4_placesOf_3 : decode cX4_placesOf 3 = .ok (.istore 4, 2) := by decide +kernel
theorem dX4_placesOf_5 : decode cX4_placesOf 5 = .ok (.iload 4, 2) := by decide +kernel
theorem dX4_placesOf_7 : decode cX4_placesOf 7 = .ok (.bipush 12, 2) := by decide +kernel
theorem dX4_placesOf_9 : decode cX4_placesOf 9 = .ok (.if_icmp .ge 42, 3) := by decide +kernel
theorem dX4_placesOf_12 : decode cX4_placesOf 12 = .ok (.aload_n 0, 1) := by decide +kernel
theorem dX4_placesOf_13 : decode cX4_placesOf 13 = .ok (.getfield 18, 3) := by decide +kernel
theorem dX4_placesOf_16 : decode cX4_placesOf 16 = .ok (.iload 4, 2) := by decide +kernel
theorem dX4_placesOf_18 : decode cX4_placesOf 18 = .ok (.iaload, 1) := by decide +kernel
theorem dX4_placesOf_19 : decode cX4_placesOf 19 = .ok (.iconst (-1), 1) := by decide +kernel
theorem dX4_placesOf_20 : decode cX4_placesOf 20 = .ok (.if_icmp .eq 25, 3) := by decide +kernel
theorem dX4_placesOf_23 : decode cX4_placesOf 23 = .ok (.iload_n 1, 1) := by decide +kernel
theorem dX4_placesOf_24 : decode cX4_placesOf 24 = .ok (.iload 4, 2) := by decide +kernel
theorem dX4_placesOf_26 : decode cX4_placesOf 26 = .ok (.ishr, 1) := by decide +kernel
theorem dX4_placesOf_27 : decode cX4_placesOf 27 = .ok (.iconst 1, 1) := by decide +kernel
theorem dX4_placesOf_28 : decode cX4_placesOf 28 = .ok (.iand, 1) := by decide +kernel
theorem dX4_placesOf_29 : decode cX4_placesOf 29 = .ok (.iconst 1, 1) := by decide +kernel
theorem dX4_placesOf_30 : decode cX4_placesOf 30 = .ok (.if_icmp .ne 15, 3) := by decide +kernel
theorem dX4_placesOf_33 : decode cX4_placesOf 33 = .ok (.lload_n 2, 1) := by decide +kernel
theorem dX4_placesOf_34 : decode cX4_placesOf 34 = .ok (.lconst 1, 1) := by decide +kernel
theorem dX4_placesOf_35 : decode cX4_placesOf 35 = .ok (.aload_n 0, 1) := by decide +kernel
theorem dX4_placesOf_36 : decode cX4_placesOf 36 = .ok (.getfield 18, 3) := by decide +kernel
theorem dX4_placesOf_39 : decode cX4_placesOf 39 = .ok (.iload 4, 2) := by decide +kernel
theorem dX4_placesOf_41 : decode cX4_placesOf 41 = .ok (.iaload, 1) := by decide +kernel
theorem dX4_placesOf_42 : decode cX4_placesOf 42 = .ok (.lshl, 1) := by decide +kernel
theorem dX4_placesOf_43 : decode cX4_placesOf 43 = .ok (.lor, 1) := by decide +kernel
theorem dX4_placesOf_44 : decode cX4_placesOf 44 = .ok (.lstore_n 2, 1) := by decide +kernel
theorem dX4_placesOf_45 : decode cX4_placesOf 45 = .ok (.iinc 4 1, 3) := by decide +kernel
theorem dX4_placesOf_48 : decode cX4_placesOf 48 = .ok (.goto (-43), 3) := by decide +kernel
theorem dX4_placesOf_51 : decode cX4_placesOf 51 = .ok (.lload_n 2, 1) := by decide +kernel
theorem dX4_placesOf_52 : decode cX4_placesOf 52 = .ok (.lreturn, 1) := by decide +kernel
theorem dX5_init_0 : decode cX5_init 0 = .ok (.aload_n 0, 1) := by decide +kernel
theorem dX5_init_1 : decode cX5_init 1 = .ok (.invokespecial 3, 3) := by decide +kernel
theorem dX5_init_4 : decode cX5_init 4 = .ok (.aload_n 0, 1) := by decide +kernel
theorem dX5_init_5 : decode cX5_init 5 = .ok (.new 9, 3) := by decide +kernel
theorem dX5_init_8 : decode cX5_init 8 = .ok (.dup, 1) := by decide +kernel
theorem dX5_init_9 : decode cX5_init 9 = .ok (.invokespecial 11, 3) := by decide +kernel
theorem dX5_init_12 : decode cX5_init 12 = .ok (.putfield 12, 3) := by decide +kernel
theorem dX5_init_15 : decode cX5_init 15 = .ok (.aload_n 0, 1) := by decide +kernel
theorem dX5_init_16 : decode cX5_init 16 = .ok (.new 18, 3) := by decide +kernel
theorem dX5_init_19 : decode cX5_init 19 = .ok (.dup, 1) := by decide +kernel
theorem dX5_init_20 : decode cX5_init 20 = .ok (.invokespecial 20, 3) := by decide +kernel
theorem dX5_init_23 : decode cX5_init 23 = .ok (.putfield 21, 3) := by decide +kernel
theorem dX5_init_26 : decode cX5_init 26 = .ok (.aload_n 0, 1) := by decide +kernel
theorem dX5_init_27 : decode cX5_init 27 = .ok (.iconst 0, 1) := by decide +kernel
theorem dX5_init_28 : decode cX5_init 28 = .ok (.putfield 25, 3) := by decide +kernel
theorem dX5_init_31 : decode cX5_init 31 = .ok (.aload_n 0, 1) := by decide +kernel
theorem dX5_init_32 : decode cX5_init 32 = .ok (.iconst 0, 1) := by decide +kernel
theorem dX5_init_33 : decode cX5_init 33 = .ok (.putfield 29, 3) := by decide +kernel
theorem dX5_init_36 : decode cX5_init 36 = .ok (.aload_n 0, 1) := by decide +kernel
theorem dX5_init_37 : decode cX5_init 37 = .ok (.sipush 135, 3) := by decide +kernel
theorem dX5_init_40 : decode cX5_init 40 = .ok (.putfield 32, 3) := by decide +kernel
theorem dX5_init_43 : decode cX5_init 43 = .ok (.return_, 1) := by decide +kernel
theorem dX5_readAll_0 : decode cX5_readAll 0 = .ok (.aload_n 0, 1) := by decide +kernel
theorem dX5_readAll_1 : decode cX5_readAll 1 = .ok (.getfield 21, 3) := by decide +kernel
theorem dX5_readAll_4 : decode cX5_readAll 4 = .ok (.invokevirtual 35, 3) := by decide +kernel
theorem dX5_readAll_7 : decode cX5_readAll 7 = .ok (.aload_n 0, 1) := by decide +kernel
theorem dX5_readAll_8 : decode cX5_readAll 8 = .ok (.iconst 0, 1) := by decide +kernel
theorem dX5_readAll_9 : decode cX5_readAll 9 = .ok (.putfield 25, 3) := by decide +kernel
theorem dX5_readAll_12 : decode cX5_readAll 12 = .ok (.aload_n 0, 1) := by decide +kernel
theorem dX5_readAll_13 : decode cX5_readAll 13 = .ok (.getfield 12, 3) := by decide +kernel
theorem dX5_readAll_16 : decode cX5_readAll 16 = .ok (.invokevirtual 38, 3) := by decide +kernel
theorem dX5_readAll_19 : decode cX5_readAll 19 = .ok (.iconst 0, 1) := by decide +kernel
theorem dX5_readAll_20 : decode cX5_readAll 20 = .ok (.istore_n 1, 1) := by decide +kernel
theorem dX5_readAll_21 : decode cX5_readAll 21 = .ok (.iconst 0, 1) := by decide +kernel
theorem dX5_readAll_22 : decode cX5_readAll 22 = .ok (.istore_n 2, 1) := by decide +kernel
theorem dX5_readAll_23 : decode cX5_readAll 23 = .ok (.iload_n 2, 1) := by decide +kernel
theorem dX5_readAll_24 : decode cX5_readAll 24 = .ok (.sipush 1000, 3) := by decide +kernel
theorem dX5_readAll_27 : decode cX5_readAll 27 = .ok (.if_icmp .gt 29, 3) := by decide +kernel
theorem dX5_readAll_30 : decode cX5_readAll 30 = .ok (.iload_n 1, 1) := by decide +kernel
theorem dX5_readAll_31 : decode cX5_readAll 31 = .ok (.ifCond .ne 25, 3) := by decide +kernel
theorem dX5_readAll_34 : decode cX5_readAll 34 = .ok (.aload_n 0, 1) := by decide +kernel
theorem dX5_readAll_35 : decode cX5_readAll 35 = .ok (.getfield 12, 3) := by decide +kernel
theorem dX5_readAll_38 : decode cX5_readAll 38 = .ok (.getfield 41, 3) := by decide +kernel
theorem dX5_readAll_41 : decode cX5_readAll 41 = .ok (.iconst 1, 1) := by decide +kernel
theorem dX5_readAll_42 : decode cX5_readAll 42 = .ok (.if_icmp .eq 14, 3) := by decide +kernel
theorem dX5_readAll_45 : decode cX5_readAll 45 = .ok (.aload_n 0, 1) := by decide +kernel
theorem dX5_readAll_46 : decode cX5_readAll 46 = .ok (.invokevirtual 44, 3) := by decide +kernel
theorem dX5_readAll_49 : decode cX5_readAll 49 = .ok (.istore_n 1, 1) := by decide +kernel
theorem dX5_readAll_50 : decode cX5_readAll 50 = .ok (.iinc 2 1, 3) := by decide +kernel
theorem dX5_readAll_53 : decode cX5_readAll 53 = .ok (.goto (-30), 3) := by decide +kernel
theorem dX5_readAll_56 : decode cX5_readAll 56 = .ok (.aload_n 0, 1) := by decide +kernel
theorem dX5_readAll_57 : decode cX5_readAll 57 = .ok (.getfield 12, 3) := by decide +kernel
theorem dX5_readAll_60 : decode cX5_readAll 60 = .ok (.iconst 0, 1) := by decide +kernel
theorem dX5_readAll_61 : decode cX5_readAll 61 = .ok (.putfield 48, 3) := by decide +kernel
theorem dX5_readAll_64 : decode cX5_readAll 64 = .ok (.iload_n 1, 1) := by decide +kernel
theorem dX5_readAll_65 : decode cX5_readAll 65 = .ok (.ifCond .ne 7, 3) := by decide +kernel
theorem dX5_readAll_68 : decode cX5_readAll 68 = .ok (.iconst 0, 1) := by decide +kernel
theorem dX5_readAll_69 : decode cX5_readAll 69 = .ok (.goto 15, 3) := by decide +kernel
theorem dX5_readAll_72 : decode cX5_readAll 72 = .ok (.iload_n 1, 1) := by decide +kernel
theorem dX5_readAll_73 : decode cX5_readAll 73 = .ok (.bipush 16, 2) := by decide +kernel
theorem dX5_readAll_75 : decode cX5_readAll 75 = .ok (.aload_n 0, 1) := by decide +kernel
theorem dX5_readAll_76 : decode cX5_readAll 76 = .ok (.getfield 12, 3) := by decide +kernel
theorem dX5_readAll_79 : decode cX5_readAll 79 = .ok (.getfield 51, 3) := by decide +kernel
theorem dX5_readAll_82 : decode cX5_readAll 82 = .ok (.imul, 1) := by decide +kernel
theorem dX5_readAll_83 : decode cX5_readAll 83 = .ok (.iadd, 1) := by decide +kernel
theorem dX5_readAll_84 : decode cX5_readAll 84 = .ok (.ireturn, 1) := by decide +kernel
theorem dX5_readLine_0 : decode cX5_readLine 0 = .ok (.aload_n 0, 1) := by decide +kernel
theorem dX5_readLine_1 : decode cX5_readLine 1 = .ok (.getfield 12, 3) := by decide +kernel
theorem dX5_readLine_4 : decode cX5_readLine 4 = .ok (.getfield 41, 3) := by decide +kernel
theorem dX5_readLine_7 : decode cX5_readLine 7 = .ok (.tableswitch 86 128 139 #[61, 66, 86, 86, 71, 86, 86, 76, 76, 76, 76, 81], 61) := by decide +kernel
theorem dX5_readLine_68 : decode cX5_readLine 68 = .ok (.aload_n 0, 1) := by decide +kernel
theorem dX5_readLine_69 : decode cX5_readLine 69 = .ok (.invokevirtual 54, 3) := by decide +kernel
theorem dX5_readLine_72 : decode cX5_readLine 72 = .ok (.ireturn, 1) := by decide +kernel
theorem dX5_readLine_73 : decode cX5_readLine 73 = .ok (.aload_n 0, 1) := by decide +kernel
theorem dX5_readLine_74 : decode cX5_readLine 74 = .ok (.invokevirtual 57, 3) := by decide +kernel
theorem dX5_readLine_77 : decode cX5_readLine 77 = .ok (.ireturn, 1) := by decide +kernel
theorem dX5_readLine_78 : decode cX5_readLine 78 = .ok (.aload_n 0, 1) := by decide +kernel
theorem dX5_readLine_79 : decode cX5_readLine 79 = .ok (.invokevirtual 60, 3) := by decide +kernel
theorem dX5_readLine_82 : decode cX5_readLine 82 = .ok (.ireturn, 1) := by decide +kernel
theorem dX5_readLine_83 : decode cX5_readLine 83 = .ok (.aload_n 0, 1) := by decide +kernel
theorem dX5_readLine_84 : decode cX5_readLine 84 = .ok (.invokevirtual 63, 3) := by decide +kernel
theorem dX5_readLine_87 : decode cX5_readLine 87 = .ok (.ireturn, 1) := by decide +kernel
theorem dX5_readLine_88 : decode cX5_readLine 88 = .ok (.aload_n 0, 1) := by decide +kernel
theorem dX5_readLine_89 : decode cX5_readLine 89 = .ok (.invokevirtual 66, 3) := by decide +kernel
theorem dX5_readLine_92 : decode cX5_readLine 92 = .ok (.ireturn, 1) := by decide +kernel
theorem dX5_readLine_93 : decode cX5_readLine 93 = .ok (.iconst 1, 1) := by decide +kernel
theorem dX5_readLine_94 : decode cX5_readLine 94 = .ok (.ireturn, 1) := by decide +kernel
theorem dX5_readFloor_0 : decode cX5_readFloor 0 = .ok (.aload_n 0, 1) := by decide +kernel
theorem dX5_readFloor_1 : decode cX5_readFloor 1 = .ok (.invokevirtual 69, 3) := by decide +kernel
theorem dX5_readFloor_4 : decode cX5_readFloor 4 = .ok (.istore_n 1, 1) := by decide +kernel
theorem dX5_readFloor_5 : decode cX5_readFloor 5 = .ok (.iload_n 1, 1) := by decide +kernel
theorem dX5_readFloor_6 : decode cX5_readFloor 6 = .ok (.ifCond .ne 11, 3) := by decide +kernel
theorem dX5_readFloor_9 : decode cX5_readFloor 9 = .ok (.aload_n 0, 1) := by decide +kernel
theorem dX5_readFloor_10 : decode cX5_readFloor 10 = .ok (.iconst 1, 1) := by decide +kernel
theorem dX5_readFloor_11 : decode cX5_readFloor 11 = .ok (.bipush 8, 2) := by decide +kernel
theorem dX5_readFloor_13 : decode cX5_readFloor 13 = .ok (.invokevirtual 72, 3) := by decide +kernel
theorem dX5_readFloor_16 : decode cX5_readFloor 16 = .ok (.istore_n 1, 1) := by decide +kernel
theorem dX5_readFloor_17 : decode cX5_readFloor 17 = .ok (.iload_n 1, 1) := by decide +kernel
theorem dX5_readFloor_18 : decode cX5_readFloor 18 = .ok (.ifCond .ne 22, 3) := by decide +kernel
theorem dX5_readFloor_21 : decode cX5_readFloor 21 = .ok (.aload_n 0, 1) := by decide +kernel
theorem dX5_readFloor_22 : decode cX5_readFloor 22 = .ok (.getfield 21, 3) := by decide +kernel
theorem dX5_readFloor_25 : decode cX5_readFloor 25 = .ok (.aload_n 0, 1) := by decide +kernel
theorem dX5_readFloor_26 : decode cX5_readFloor 26 = .ok (.getfield 29, 3) := by decide +kernel
theorem dX5_readFloor_29 : decode cX5_readFloor 29 = .ok (.putfield 76, 3) := by decide +kernel
theorem dX5_readFloor_32 : decode cX5_readFloor 32 = .ok (.aload_n 0, 1) := by decide +kernel
theorem dX5_readFloor_33 : decode cX5_readFloor 33 = .ok (.iconst 1, 1) := by decide +kernel
theorem dX5_readFloor_34 : decode cX5_readFloor 34 = .ok (.bipush 8, 2) := by decide +kernel
theorem dX5_readFloor_36 : decode cX5_readFloor 36 = .ok (.invokevirtual 72, 3) := by decide +kernel
theorem dX5_readFloor_39 : decode cX5_readFloor 39 = .ok (.istore_n 1, 1) := by decide +kernel
theorem dX5_readFloor_40 : decode cX5_readFloor 40 = .ok (.iload_n 1, 1) := by decide +kernel
theorem dX5_readFloor_41 : decode cX5_readFloor 41 = .ok (.ifCond .ne 21, 3) := by decide +kernel
theorem dX5_readFloor_44 : decode cX5_readFloor 44 = .ok (.aload_n 0, 1) := by decide +kernel
theorem dX5_readFloor_45 : decode cX5_readFloor 45 = .ok (.getfield 21, 3) := by decide +kernel
theorem dX5_readFloor_48 : decode cX5_readFloor 48 = .ok (.aload_n 0, 1) := by decide +kernel
theorem dX5_readFloor_49 : decode cX5_readFloor 49 = .ok (.getfield 29, 3) := by decide +kernel
theorem dX5_readFloor_52 : decode cX5_readFloor 52 = .ok (.putfield 79, 3) := by decide +kernel
theorem dX5_readFloor_55 : decode cX5_readFloor 55 = .ok (.aload_n 0, 1) := by decide +kernel
theorem dX5_readFloor_56 : decode cX5_readFloor 56 = .ok (.bipush 59, 2) := by decide +kernel
theorem dX5_readFloor_58 : decode cX5_readFloor 58 = .ok (.invokevirtual 82, 3) := by decide +kernel
theorem dX5_readFloor_61 : decode cX5_readFloor 61 = .ok (.istore_n 1, 1) := by decide +kernel
theorem dX5_readFloor_62 : decode cX5_readFloor 62 = .ok (.iload_n 1, 1) := by decide +kernel
theorem dX5_readFloor_63 : decode cX5_readFloor 63 = .ok (.ireturn, 1) := by decide +kernel
theorem dX5_readGuild_0 : decode cX5_readGuild 0 = .ok (.aload_n 0, 1) := by decide +kernel
theorem dX5_readGuild_1 : decode cX5_readGuild 1 = .ok (.getfield 21, 3) := by decide +kernel
theorem dX5_readGuild_4 : decode cX5_readGuild 4 = .ok (.getfield 86, 3) := by decide +kernel
theorem dX5_readGuild_7 : decode cX5_readGuild 7 = .ok (.istore_n 1, 1) := by decide +kernel
theorem dX5_readGuild_8 : decode cX5_readGuild 8 = .ok (.iload_n 1, 1) := by decide +kernel
theorem dX5_readGuild_9 : decode cX5_readGuild 9 = .ok (.bipush 6, 2) := by decide +kernel
theorem dX5_readGuild_11 : decode cX5_readGuild 11 = .ok (.if_icmp .lt 5, 3) := by decide +kernel
theorem dX5_readGuild_14 : decode cX5_readGuild 14 = .ok (.iconst 5, 1) := by decide +kernel
theorem dX5_readGuild_15 : decode cX5_readGuild 15 = .ok (.ireturn, 1) := by decide +kernel
theorem dX5_readGuild_16 : decode cX5_readGuild 16 = .ok (.aload_n 0, 1) := by decide +kernel
theorem dX5_readGuild_17 : decode cX5_readGuild 17 = .ok (.getfield 12, 3) := by decide +kernel
theorem dX5_readGuild_20 : decode cX5_readGuild 20 = .ok (.invokevirtual 89, 3) := by decide +kernel
theorem dX5_readGuild_23 : decode cX5_readGuild 23 = .ok (.aload_n 0, 1) := by decide +kernel
theorem dX5_readGuild_24 : decode cX5_readGuild 24 = .ok (.iload_n 1, 1) := by decide +kernel
theorem dX5_readGuild_25 : decode cX5_readGuild 25 = .ok (.invokevirtual 92, 3) := by decide +kernel
theorem dX5_readGuild_28 : decode cX5_readGuild 28 = .ok (.istore_n 2, 1) := by decide +kernel
theorem dX5_readGuild_29 : decode cX5_readGuild 29 = .ok (.iload_n 2, 1) := by decide +kernel
theorem dX5_readGuild_30 : decode cX5_readGuild 30 = .ok (.ifCond .ne 11, 3) := by decide +kernel
theorem dX5_readGuild_33 : decode cX5_readGuild 33 = .ok (.aload_n 0, 1) := by decide +kernel
theorem dX5_readGuild_34 : decode cX5_readGuild 34 = .ok (.sipush 130, 3) := by decide +kernel
theorem dX5_readGuild_37 : decode cX5_readGuild 37 = .ok (.invokevirtual 82, 3) := by decide +kernel
theorem dX5_readGuild_40 : decode cX5_readGuild 40 = .ok (.istore_n 2, 1) := by decide +kernel
theorem dX5_readGuild_41 : decode cX5_readGuild 41 = .ok (.iload_n 2, 1) := by decide +kernel
theorem dX5_readGuild_42 : decode cX5_readGuild 42 = .ok (.ifCond .ne 11, 3) := by decide +kernel
theorem dX5_readGuild_45 : decode cX5_readGuild 45 = .ok (.aload_n 0, 1) := by decide +kernel
theorem dX5_readGuild_46 : decode cX5_readGuild 46 = .ok (.iconst 0, 1) := by decide +kernel
theorem dX5_readGuild_47 : decode cX5_readGuild 47 = .ok (.bipush 7, 2) := by decide +kernel
theorem dX5_readGuild_49 : decode cX5_readGuild 49 = .ok (.invokevirtual 72, 3) := by decide +kernel
theorem dX5_readGuild_52 : decode cX5_readGuild 52 = .ok (.istore_n 2, 1) := by decide +kernel
theorem dX5_readGuild_53 : decode cX5_readGuild 53 = .ok (.iload_n 2, 1) := by decide +kernel
theorem dX5_readGuild_54 : decode cX5_readGuild 54 = .ok (.ifCond .ne 24, 3) := by decide +kernel
theorem dX5_readGuild_57 : decode cX5_readGuild 57 = .ok (.aload_n 0, 1) := by decide +kernel
theorem dX5_readGuild_58 : decode cX5_readGuild 58 = .ok (.getfield 21, 3) := by decide +kernel
theorem dX5_readGuild_61 : decode cX5_readGuild 61 = .ok (.getfield 95, 3) := by decide +kernel
theorem dX5_readGuild_64 : decode cX5_readGuild 64 = .ok (.iload_n 1, 1) := by decide +kernel
theorem dX5_readGuild_65 : decode cX5_readGuild 65 = .ok (.aload_n 0, 1) := by decide +kernel
theorem dX5_readGuild_66 : decode cX5_readGuild 66 = .ok (.getfield 29, 3) := by decide +kernel
theorem dX5_readGuild_69 : decode cX5_readGuild 69 = .ok (.iastore, 1) := by decide +kernel
theorem dX5_readGuild_70 : decode cX5_readGuild 70 = .ok (.aload_n 0, 1) := by decide +kernel
theorem dX5_readGuild_71 : decode cX5_readGuild 71 = .ok (.sipush 131, 3) := by decide +kernel
theorem dX5_readGuild_74 : decode cX5_readGuild 74 = .ok (.invokevirtual 82, 3) := by decide +kernel
theorem dX5_readGuild_77 : decode cX5_readGuild 77 = .ok (.istore_n 2, 1) := by decide +kernel
theorem dX5_readGuild_78 : decode cX5_readGuild 78 = .ok (.iload_n 2, 1) := by decide +kernel
theorem dX5_readGuild_79 : decode cX5_readGuild 79 = .ok (.ifCond .ne 12, 3) := by decide +kernel
theorem dX5_readGuild_82 : decode cX5_readGuild 82 = .ok (.aload_n 0, 1) := by decide +kernel
theorem dX5_readGuild_83 : decode cX5_readGuild 83 = .ok (.iconst 0, 1) := by decide +kernel
theorem dX5_readGuild_84 : decode cX5_readGuild 84 = .ok (.sipush 9999, 3) := by decide +kernel
theorem dX5_readGuild_87 : decode cX5_readGuild 87 = .ok (.invokevirtual 72, 3) := by decide +kernel
theorem dX5_readGuild_90 : decode cX5_readGuild 90 = .ok (.istore_n 2, 1) := by decide +kernel
theorem dX5_readGuild_91 : decode cX5_readGuild 91 = .ok (.iload_n 2, 1) := by decide +kernel
theorem dX5_readGuild_92 : decode cX5_readGuild 92 = .ok (.ifCond .ne 23, 3) := by decide +kernel
theorem dX5_readGuild_95 : decode cX5_readGuild 95 = .ok (.aload_n 0, 1) := by decide +kernel
theorem dX5_readGuild_96 : decode cX5_readGuild 96 = .ok (.getfield 21, 3) := by decide +kernel
theorem dX5_readGuild_99 : decode cX5_readGuild 99 = .ok (.getfield 99, 3) := by decide +kernel
theorem dX5_readGuild_102 : decode cX5_readGuild 102 = .ok (.iload_n 1, 1) := by decide +kernel
theorem dX5_readGuild_103 : decode cX5_readGuild 103 = .ok (.aload_n 0, 1) := by decide +kernel
theorem dX5_readGuild_104 : decode cX5_readGuild 104 = .ok (.getfield 29, 3) := by decide +kernel
theorem dX5_readGuild_107 : decode cX5_readGuild 107 = .ok (.iastore, 1) := by decide +kernel
theorem dX5_readGuild_108 : decode cX5_readGuild 108 = .ok (.aload_n 0, 1) := by decide +kernel
theorem dX5_readGuild_109 : decode cX5_readGuild 109 = .ok (.bipush 59, 2) := by decide +kernel
theorem dX5_readGuild_111 : decode cX5_readGuild 111 = .ok (.invokevirtual 82, 3) := by decide +kernel
theorem dX5_readGuild_114 : decode cX5_readGuild 114 = .ok (.istore_n 2, 1) := by decide +kernel
theorem dX5_readGuild_115 : decode cX5_readGuild 115 = .ok (.iload_n 2, 1) := by decide +kernel
theorem dX5_readGuild_116 : decode cX5_readGuild 116 = .ok (.ifCond .ne 16, 3) := by decide +kernel
theorem dX5_readGuild_119 : decode cX5_readGuild 119 = .ok (.aload_n 0, 1) := by decide +kernel
theorem dX5_readGuild_120 : decode cX5_readGuild 120 = .ok (.getfield 21, 3) := by decide +kernel
theorem dX5_readGuild_123 : decode cX5_readGuild 123 = .ok (.dup, 1) := by decide +kernel
theorem dX5_readGuild_124 : decode cX5_readGuild 124 = .ok (.getfield 86, 3) := by decide +kernel
theorem dX5_readGuild_127 : decode cX5_readGuild 127 = .ok (.iconst 1, 1) := by decide +kernel
theorem dX5_readGuild_128 : decode cX5_readGuild 128 = .ok (.iadd, 1) := by decide +kernel
theorem dX5_readGuild_129 : decode cX5_readGuild 129 = .ok (.putfield 86, 3) := by decide +kernel
theorem dX5_readGuild_132 : decode cX5_readGuild 132 = .ok (.iload_n 2, 1) := by decide +kernel
theorem dX5_readGuild_133 : decode cX5_readGuild 133 = .ok (.ireturn, 1) := by decide +kernel
theorem dX5_takeNewName_0 : decode cX5_takeNewName 0 = .ok (.aload_n 0, 1) := by decide +kernel
theorem dX5_takeNewName_1 : decode cX5_takeNewName 1 = .ok (.getfield 12, 3) := by decide +kernel
theorem dX5_takeNewName_4 : decode cX5_takeNewName 4 = .ok (.invokevirtual 102, 3) := by decide +kernel
theorem dX5_takeNewName_7 : decode cX5_takeNewName 7 = .ok (.ifCond .ne 5, 3) := by decide +kernel
theorem dX5_takeNewName_10 : decode cX5_takeNewName 10 = .ok (.iconst 1, 1) := by decide +kernel
theorem dX5_takeNewName_11 : decode cX5_takeNewName 11 = .ok (.ireturn, 1) := by decide +kernel
theorem dX5_takeNewName_12 : decode cX5_takeNewName 12 = .ok (.aload_n 0, 1) := by decide +kernel
theorem dX5_takeNewName_13 : decode cX5_takeNewName 13 = .ok (.getfield 21, 3) := by decide +kernel
theorem dX5_takeNewName_16 : decode cX5_takeNewName 16 = .ok (.aload_n 0, 1) := by decide +kernel
theorem dX5_takeNewName_17 : decode cX5_takeNewName 17 = .ok (.getfield 12, 3) := by decide +kernel
theorem dX5_takeNewName_20 : decode cX5_takeNewName 20 = .ok (.getfield 106, 3) := by decide +kernel
theorem dX5_takeNewName_23 : decode cX5_takeNewName 23 = .ok (.invokevirtual 110, 3) := by decide +kernel
theorem dX5_takeNewName_26 : decode cX5_takeNewName 26 = .ok (.iconst (-1), 1) := by decide +kernel
theorem dX5_takeNewName_27 : decode cX5_takeNewName 27 = .ok (.if_icmp .eq 5, 3) := by decide +kernel
theorem dX5_takeNewName_30 : decode cX5_takeNewName 30 = .ok (.iconst 3, 1) := by decide +kernel
theorem dX5_takeNewName_31 : decode cX5_takeNewName 31 = .ok (.ireturn, 1) := by decide +kernel
theorem dX5_takeNewName_32 : decode cX5_takeNewName 32 = .ok (.aload_n 0, 1) := by decide +kernel
theorem dX5_takeNewName_33 : decode cX5_takeNewName 33 = .ok (.getfield 21, 3) := by decide +kernel
theorem dX5_takeNewName_36 : decode cX5_takeNewName 36 = .ok (.getfield 114, 3) := by decide +kernel
theorem dX5_takeNewName_39 : decode cX5_takeNewName 39 = .ok (.iload_n 1, 1) := by decide +kernel
theorem dX5_takeNewName_40 : decode cX5_takeNewName 40 = .ok (.aload_n 0, 1) := by decide +kernel
theorem dX5_takeNewName_41 : decode cX5_takeNewName 41 = .ok (.getfield 12, 3) := by decide +kernel
theorem dX5_takeNewName_44 : decode cX5_takeNewName 44 = .ok (.getfield 106, 3) := by decide +kernel
theorem dX5_takeNewName_47 : decode cX5_takeNewName 47 = .ok (.lastore, 1) := by decide +kernel
theorem dX5_takeNewName_48 : decode cX5_takeNewName 48 = .ok (.aload_n 0, 1) := by decide +kernel
theorem dX5_takeNewName_49 : decode cX5_takeNewName 49 = .ok (.getfield 12, 3) := by decide +kernel
theorem dX5_takeNewName_52 : decode cX5_takeNewName 52 = .ok (.invokevirtual 89, 3) := by decide +kernel
theorem dX5_takeNewName_55 : decode cX5_takeNewName 55 = .ok (.iconst 0, 1) := by decide +kernel
theorem dX5_takeNewName_56 : decode cX5_takeNewName 56 = .ok (.ireturn, 1) := by decide +kernel
theorem dX5_readPane_0 : decode cX5_readPane 0 = .ok (.aload_n 0, 1) := by decide +kernel
theorem dX5_readPane_1 : decode cX5_readPane 1 = .ok (.getfield 21, 3) := by decide +kernel
theorem dX5_readPane_4 : decode cX5_readPane 4 = .ok (.getfield 118, 3) := by decide +kernel
theorem dX5_readPane_7 : decode cX5_readPane 7 = .ok (.istore_n 1, 1) := by decide +kernel
theorem dX5_readPane_8 : decode cX5_readPane 8 = .ok (.iload_n 1, 1) := by decide +kernel
theorem dX5_readPane_9 : decode cX5_readPane 9 = .ok (.bipush 12, 2) := by decide +kernel
theorem dX5_readPane_11 : decode cX5_readPane 11 = .ok (.if_icmp .lt 5, 3) := by decide +kernel
theorem dX5_readPane_14 : decode cX5_readPane 14 = .ok (.iconst 5, 1) := by decide +kernel
theorem dX5_readPane_15 : decode cX5_readPane 15 = .ok (.ireturn, 1) := by decide +kernel
theorem dX5_readPane_16 : decode cX5_readPane 16 = .ok (.aload_n 0, 1) := by decide +kernel
theorem dX5_readPane_17 : decode cX5_readPane 17 = .ok (.getfield 12, 3) := by decide +kernel
theorem dX5_readPane_20 : decode cX5_readPane 20 = .ok (.invokevirtual 89, 3) := by decide +kernel
theorem dX5_readPane_23 : decode cX5_readPane 23 = .ok (.aload_n 0, 1) := by decide +kernel
theorem dX5_readPane_24 : decode cX5_readPane 24 = .ok (.iconst 0, 1) := by decide +kernel
theorem dX5_readPane_25 : decode cX5_readPane 25 = .ok (.bipush 7, 2) := by decide +kernel
theorem dX5_readPane_27 : decode cX5_readPane 27 = .ok (.invokevirtual 72, 3) := by decide +kernel
theorem dX5_readPane_30 : decode cX5_readPane 30 = .ok (.istore_n 2, 1) := by decide +kernel
theorem dX5_readPane_31 : decode cX5_readPane 31 = .ok (.iload_n 2, 1) := by decide +kernel
theorem dX5_readPane_32 : decode cX5_readPane 32 = .ok (.ifCond .ne 38, 3) := by decide +kernel
theorem dX5_readPane_35 : decode cX5_readPane 35 = .ok (.aload_n 0, 1) := by decide +kernel
theorem dX5_readPane_36 : decode cX5_readPane 36 = .ok (.getfield 21, 3) := by decide +kernel
theorem dX5_readPane_39 : decode cX5_readPane 39 = .ok (.getfield 121, 3) := by decide +kernel
theorem dX5_readPane_42 : decode cX5_readPane 42 = .ok (.iload_n 1, 1) := by decide +kernel
theorem dX5_readPane_43 : decode cX5_readPane 43 = .ok (.aload_n 0, 1) := by decide +kernel
theorem dX5_readPane_44 : decode cX5_readPane 44 = .ok (.getfield 29, 3) := by decide +kernel
theorem dX5_readPane_47 : decode cX5_readPane 47 = .ok (.iastore, 1) := by decide +kernel
theorem dX5_readPane_48 : decode cX5_readPane 48 = .ok (.aload_n 0, 1) := by decide +kernel
theorem dX5_readPane_49 : decode cX5_readPane 49 = .ok (.aload_n 0, 1) := by decide +kernel
theorem dX5_readPane_50 : decode cX5_readPane 50 = .ok (.getfield 29, 3) := by decide +kernel
theorem dX5_readPane_53 : decode cX5_readPane 53 = .ok (.invokevirtual 124, 3) := by decide +kernel
theorem dX5_readPane_56 : decode cX5_readPane 56 = .ok (.ifCond .eq 7, 3) := by decide +kernel
theorem dX5_readPane_59 : decode cX5_readPane 59 = .ok (.iconst 3, 1) := by decide +kernel
theorem dX5_readPane_60 : decode cX5_readPane 60 = .ok (.goto 9, 3) := by decide +kernel
theorem dX5_readPane_63 : decode cX5_readPane 63 = .ok (.aload_n 0, 1) := by decide +kernel
theorem dX5_readPane_64 : decode cX5_readPane 64 = .ok (.iconst 0, 1) := by decide +kernel
theorem dX5_readPane_65 : decode cX5_readPane 65 = .ok (.iconst 3, 1) := by decide +kernel
theorem dX5_readPane_66 : decode cX5_readPane 66 = .ok (.invokevirtual 72, 3) := by decide +kernel
theorem dX5_readPane_69 : decode cX5_readPane 69 = .ok (.istore_n 2, 1) := by decide +kernel
theorem dX5_readPane_70 : decode cX5_readPane 70 = .ok (.iload_n 2, 1) := by decide +kernel
theorem dX5_readPane_71 : decode cX5_readPane 71 = .ok (.ifCond .ne 24, 3) := by decide +kernel
theorem dX5_readPane_74 : decode cX5_readPane 74 = .ok (.aload_n 0, 1) := by decide +kernel
theorem dX5_readPane_75 : decode cX5_readPane 75 = .ok (.getfield 21, 3) := by decide +kernel
theorem dX5_readPane_78 : decode cX5_readPane 78 = .ok (.getfield 128, 3) := by decide +kernel
theorem dX5_readPane_81 : decode cX5_readPane 81 = .ok (.iload_n 1, 1) := by decide +kernel
theorem dX5_readPane_82 : decode cX5_readPane 82 = .ok (.aload_n 0, 1) := by decide +kernel
theorem dX5_readPane_83 : decode cX5_readPane 83 = .ok (.getfield 29, 3) := by decide +kernel
theorem dX5_readPane_86 : decode cX5_readPane 86 = .ok (.iastore, 1) := by decide +kernel
theorem dX5_readPane_87 : decode cX5_readPane 87 = .ok (.aload_n 0, 1) := by decide +kernel
theorem dX5_readPane_88 : decode cX5_readPane 88 = .ok (.sipush 133, 3) := by decide +kernel
theorem dX5_readPane_91 : decode cX5_readPane 91 = .ok (.invokevirtual 82, 3) := by decide +kernel
theorem dX5_readPane_94 : decode cX5_readPane 94 = .ok (.istore_n 2, 1) := by decide +kernel
theorem dX5_readPane_95 : decode cX5_readPane 95 = .ok (.iload_n 2, 1) := by decide +kernel
theorem dX5_readPane_96 : decode cX5_readPane 96 = .ok (.ifCond .ne 9, 3) := by decide +kernel
theorem dX5_readPane_99 : decode cX5_readPane 99 = .ok (.aload_n 0, 1) := by decide +kernel
theorem dX5_readPane_100 : decode cX5_readPane 100 = .ok (.iload_n 1, 1) := by decide +kernel
theorem dX5_readPane_101 : decode cX5_readPane 101 = .ok (.invokevirtual 131, 3) := by decide +kernel
theorem dX5_readPane_104 : decode cX5_readPane 104 = .ok (.istore_n 2, 1) := by decide +kernel
theorem dX5_readPane_105 : decode cX5_readPane 105 = .ok (.iload_n 2, 1) := by decide +kernel
theorem dX5_readPane_106 : decode cX5_readPane 106 = .ok (.ifCond .ne 11, 3) := by decide +kernel
theorem dX5_readPane_109 : decode cX5_readPane 109 = .ok (.aload_n 0, 1) := by decide +kernel
theorem dX5_readPane_110 : decode cX5_readPane 110 = .ok (.sipush 134, 3) := by decide +kernel
theorem dX5_readPane_113 : decode cX5_readPane 113 = .ok (.invokevirtual 82, 3) := by decide +kernel
theorem dX5_readPane_116 : decode cX5_readPane 116 = .ok (.istore_n 2, 1) := by decide +kernel
theorem dX5_readPane_117 : decode cX5_readPane 117 = .ok (.iload_n 2, 1) := by decide +kernel
theorem dX5_readPane_118 : decode cX5_readPane 118 = .ok (.ifCond .ne 11, 3) := by decide +kernel
theorem dX5_readPane_121 : decode cX5_readPane 121 = .ok (.aload_n 0, 1) := by decide +kernel
theorem dX5_readPane_122 : decode cX5_readPane 122 = .ok (.iconst 1, 1) := by decide +kernel
theorem dX5_readPane_123 : decode cX5_readPane 123 = .ok (.bipush 7, 2) := by decide +kernel
theorem dX5_readPane_125 : decode cX5_readPane 125 = .ok (.invokevirtual 72, 3) := by decide +kernel
theorem dX5_readPane_128 : decode cX5_readPane 128 = .ok (.istore_n 2, 1) := by decide +kernel
theorem dX5_readPane_129 : decode cX5_readPane 129 = .ok (.iload_n 2, 1) := by decide +kernel
theorem dX5_readPane_130 : decode cX5_readPane 130 = .ok (.ifCond .ne 23, 3) := by decide +kernel
theorem dX5_readPane_133 : decode cX5_readPane 133 = .ok (.aload_n 0, 1) := by decide +kernel
theorem dX5_readPane_134 : decode cX5_readPane 134 = .ok (.getfield 21, 3) := by decide +kernel
theorem dX5_readPane_137 : decode cX5_readPane 137 = .ok (.getfield 134, 3) := by decide +kernel
theorem dX5_readPane_140 : decode cX5_readPane 140 = .ok (.iload_n 1, 1) := by decide +kernel
theorem dX5_readPane_141 : decode cX5_readPane 141 = .ok (.aload_n 0, 1) := by decide +kernel
theorem dX5_readPane_142 : decode cX5_readPane 142 = .ok (.getfield 29, 3) := by decide +kernel
theorem dX5_readPane_145 : decode cX5_readPane 145 = .ok (.iastore, 1) := by decide +kernel
theorem dX5_readPane_146 : decode cX5_readPane 146 = .ok (.aload_n 0, 1) := by decide +kernel
theorem dX5_readPane_147 : decode cX5_readPane 147 = .ok (.bipush 59, 2) := by decide +kernel
theorem dX5_readPane_149 : decode cX5_readPane 149 = .ok (.invokevirtual 82, 3) := by decide +kernel
theorem dX5_readPane_152 : decode cX5_readPane 152 = .ok (.istore_n 2, 1) := by decide +kernel
theorem dX5_readPane_153 : decode cX5_readPane 153 = .ok (.iload_n 2, 1) := by decide +kernel
theorem dX5_readPane_154 : decode cX5_readPane 154 = .ok (.ifCond .ne 16, 3) := by decide +kernel
theorem dX5_readPane_157 : decode cX5_readPane 157 = .ok (.aload_n 0, 1) := by decide +kernel
theorem dX5_readPane_158 : decode cX5_readPane 158 = .ok (.getfield 21, 3) := by decide +kernel
theorem dX5_readPane_161 : decode cX5_readPane 161 = .ok (.dup, 1) := by decide +kernel
theorem dX5_readPane_162 : decode cX5_readPane 162 = .ok (.getfield 118, 3) := by decide +kernel
theorem dX5_readPane_165 : decode cX5_readPane 165 = .ok (.iconst 1, 1) := by decide +kernel
theorem dX5_readPane_166 : decode cX5_readPane 166 = .ok (.iadd, 1) := by decide +kernel
theorem dX5_readPane_167 : decode cX5_readPane 167 = .ok (.putfield 118, 3) := by decide +kernel
theorem dX5_readPane_170 : decode cX5_readPane 170 = .ok (.iload_n 2, 1) := by decide +kernel
theorem dX5_readPane_171 : decode cX5_readPane 171 = .ok (.ireturn, 1) := by decide +kernel
theorem dX5_isRowOfPane_0 : decode cX5_isRowOfPane 0 = .ok (.aload_n 0, 1) := by decide +kernel
theorem dX5_isRowOfPane_1 : decode cX5_isRowOfPane 1 = .ok (.getfield 12, 3) := by decide +kernel
theorem dX5_isRowOfPane_4 : decode cX5_isRowOfPane 4 = .ok (.getfield 41, 3) := by decide +kernel
theorem dX5_isRowOfPane_7 : decode cX5_isRowOfPane 7 = .ok (.iconst 2, 1) := by decide +kernel
theorem dX5_isRowOfPane_8 : decode cX5_isRowOfPane 8 = .ok (.if_icmp .ne 25, 3) := by decide +kernel
theorem dX5_isRowOfPane_11 : decode cX5_isRowOfPane 11 = .ok (.aload_n 0, 1) := by decide +kernel
theorem dX5_isRowOfPane_12 : decode cX5_isRowOfPane 12 = .ok (.getfield 21, 3) := by decide +kernel
theorem dX5_isRowOfPane_15 : decode cX5_isRowOfPane 15 = .ok (.iload_n 1, 1) := by decide +kernel
theorem dX5_isRowOfPane_16 : decode cX5_isRowOfPane 16 = .ok (.aload_n 0, 1) := by decide +kernel
theorem dX5_isRowOfPane_17 : decode cX5_isRowOfPane 17 = .ok (.getfield 12, 3) := by decide +kernel
theorem dX5_isRowOfPane_20 : decode cX5_isRowOfPane 20 = .ok (.getfield 137, 3) := by decide +kernel
theorem dX5_isRowOfPane_23 : decode cX5_isRowOfPane 23 = .ok (.invokevirtual 140, 3) := by decide +kernel
theorem dX5_isRowOfPane_26 : decode cX5_isRowOfPane 26 = .ok (.ifCond .eq 7, 3) := by decide +kernel
theorem dX5_isRowOfPane_29 : decode cX5_isRowOfPane 29 = .ok (.iconst 1, 1) := by decide +kernel
theorem dX5_isRowOfPane_30 : decode cX5_isRowOfPane 30 = .ok (.goto 4, 3) := by decide +kernel
theorem dX5_isRowOfPane_33 : decode cX5_isRowOfPane 33 = .ok (.iconst 0, 1) := by decide +kernel
theorem dX5_isRowOfPane_34 : decode cX5_isRowOfPane 34 = .ok (.ireturn, 1) := by decide +kernel
theorem dX5_takeGiver_0 : decode cX5_takeGiver 0 = .ok (.aload_n 0, 1) := by decide +kernel
theorem dX5_takeGiver_1 : decode cX5_takeGiver 1 = .ok (.getfield 12, 3) := by decide +kernel
theorem dX5_takeGiver_4 : decode cX5_takeGiver 4 = .ok (.invokevirtual 102, 3) := by decide +kernel
theorem dX5_takeGiver_7 : decode cX5_takeGiver 7 = .ok (.ifCond .ne 5, 3) := by decide +kernel
theorem dX5_takeGiver_10 : decode cX5_takeGiver 10 = .ok (.iconst 1, 1) := by decide +kernel
theorem dX5_takeGiver_11 : decode cX5_takeGiver 11 = .ok (.ireturn, 1) := by decide +kernel
theorem dX5_takeGiver_12 : decode cX5_takeGiver 12 = .ok (.aload_n 0, 1) := by decide +kernel
theorem dX5_takeGiver_13 : decode cX5_takeGiver 13 = .ok (.getfield 21, 3) := by decide +kernel
theorem dX5_takeGiver_16 : decode cX5_takeGiver 16 = .ok (.aload_n 0, 1) := by decide +kernel
theorem dX5_takeGiver_17 : decode cX5_takeGiver 17 = .ok (.getfield 12, 3) := by decide +kernel
theorem dX5_takeGiver_20 : decode cX5_takeGiver 20 = .ok (.getfield 106, 3) := by decide +kernel
theorem dX5_takeGiver_23 : decode cX5_takeGiver 23 = .ok (.invokevirtual 110, 3) := by decide +kernel
theorem dX5_takeGiver_26 : decode cX5_takeGiver 26 = .ok (.istore_n 2, 1) := by decide +kernel
theorem dX5_takeGiver_27 : decode cX5_takeGiver 27 = .ok (.iload_n 2, 1) := by decide +kernel
theorem dX5_takeGiver_28 : decode cX5_takeGiver 28 = .ok (.iconst (-1), 1) := by decide +kernel
theorem dX5_takeGiver_29 : decode cX5_takeGiver 29 = .ok (.if_icmp .ne 5, 3) := by decide +kernel
theorem dX5_takeGiver_32 : decode cX5_takeGiver 32 = .ok (.iconst 2, 1) := by decide +kernel
theorem dX5_takeGiver_33 : decode cX5_takeGiver 33 = .ok (.ireturn, 1) := by decide +kernel
theorem dX5_takeGiver_34 : decode cX5_takeGiver 34 = .ok (.aload_n 0, 1) := by decide +kernel
theorem dX5_takeGiver_35 : decode cX5_takeGiver 35 = .ok (.getfield 21, 3) := by decide +kernel
theorem dX5_takeGiver_38 : decode cX5_takeGiver 38 = .ok (.getfield 144, 3) := by decide +kernel
theorem dX5_takeGiver_41 : decode cX5_takeGiver 41 = .ok (.iload_n 1, 1) := by decide +kernel
theorem dX5_takeGiver_42 : decode cX5_takeGiver 42 = .ok (.iload_n 2, 1) := by decide +kernel
theorem dX5_takeGiver_43 : decode cX5_takeGiver 43 = .ok (.iastore, 1) := by decide +kernel
theorem dX5_takeGiver_44 : decode cX5_takeGiver 44 = .ok (.aload_n 0, 1) := by decide +kernel
theorem dX5_takeGiver_45 : decode cX5_takeGiver 45 = .ok (.getfield 12, 3) := by decide +kernel
theorem dX5_takeGiver_48 : decode cX5_takeGiver 48 = .ok (.invokevirtual 89, 3) := by decide +kernel
theorem dX5_takeGiver_51 : decode cX5_takeGiver 51 = .ok (.iconst 0, 1) := by decide +kernel
theorem dX5_takeGiver_52 : decode cX5_takeGiver 52 = .ok (.ireturn, 1) := by decide +kernel
theorem dX5_readCloud_0 : decode cX5_readCloud 0 = .ok (.aload_n 0, 1) := by decide +kernel
theorem dX5_readCloud_1 : decode cX5_readCloud 1 = .ok (.invokevirtual 69, 3) := by decide +kernel
theorem dX5_readCloud_4 : decode cX5_readCloud 4 = .ok (.istore_n 1, 1) := by decide +kernel
theorem dX5_readCloud_5 : decode cX5_readCloud 5 = .ok (.iload_n 1, 1) := by decide +kernel
theorem dX5_readCloud_6 : decode cX5_readCloud 6 = .ok (.ifCond .ne 11, 3) := by decide +kernel
theorem dX5_readCloud_9 : decode cX5_readCloud 9 = .ok (.aload_n 0, 1) := by decide +kernel
theorem dX5_readCloud_10 : decode cX5_readCloud 10 = .ok (.iconst 0, 1) := by decide +kernel
theorem dX5_readCloud_11 : decode cX5_readCloud 11 = .ok (.bipush 8, 2) := by decide +kernel
theorem dX5_readCloud_13 : decode cX5_readCloud 13 = .ok (.invokevirtual 72, 3) := by decide +kernel
theorem dX5_readCloud_16 : decode cX5_readCloud 16 = .ok (.istore_n 1, 1) := by decide +kernel
theorem dX5_readCloud_17 : decode cX5_readCloud 17 = .ok (.iload_n 1, 1) := by decide +kernel
theorem dX5_readCloud_18 : decode cX5_readCloud 18 = .ok (.ifCond .ne 21, 3) := by decide +kernel
theorem dX5_readCloud_21 : decode cX5_readCloud 21 = .ok (.aload_n 0, 1) := by decide +kernel
theorem dX5_readCloud_22 : decode cX5_readCloud 22 = .ok (.getfield 21, 3) := by decide +kernel
theorem dX5_readCloud_25 : decode cX5_readCloud 25 = .ok (.aload_n 0, 1) := by decide +kernel
theorem dX5_readCloud_26 : decode cX5_readCloud 26 = .ok (.getfield 29, 3) := by decide +kernel
theorem dX5_readCloud_29 : decode cX5_readCloud 29 = .ok (.putfield 147, 3) := by decide +kernel
theorem dX5_readCloud_32 : decode cX5_readCloud 32 = .ok (.aload_n 0, 1) := by decide +kernel
theorem dX5_readCloud_33 : decode cX5_readCloud 33 = .ok (.bipush 59, 2) := by decide +kernel
theorem dX5_readCloud_35 : decode cX5_readCloud 35 = .ok (.invokevirtual 82, 3) := by decide +kernel
theorem dX5_readCloud_38 : decode cX5_readCloud 38 = .ok (.istore_n 1, 1) := by decide +kernel
theorem dX5_readCloud_39 : decode cX5_readCloud 39 = .ok (.iload_n 1, 1) := by decide +kernel
theorem dX5_readCloud_40 : decode cX5_readCloud 40 = .ok (.ireturn, 1) := by decide +kernel
theorem dX5_readLaw_0 : decode cX5_readLaw 0 = .ok (.aload_n 0, 1) := by decide +kernel
theorem dX5_readLaw_1 : decode cX5_readLaw 1 = .ok (.aload_n 0, 1) := by decide +kernel
theorem dX5_readLaw_2 : decode cX5_readLaw 2 = .ok (.getfield 12, 3) := by decide +kernel
theorem dX5_readLaw_5 : decode cX5_readLaw 5 = .ok (.getfield 41, 3) := by decide +kernel
theorem dX5_readLaw_8 : decode cX5_readLaw 8 = .ok (.putfield 32, 3) := by decide +kernel
theorem dX5_readLaw_11 : decode cX5_readLaw 11 = .ok (.aload_n 0, 1) := by decide +kernel
theorem dX5_readLaw_12 : decode cX5_readLaw 12 = .ok (.invokevirtual 69, 3) := by decide +kernel
theorem dX5_readLaw_15 : decode cX5_readLaw 15 = .ok (.istore_n 1, 1) := by decide +kernel
theorem dX5_readLaw_16 : decode cX5_readLaw 16 = .ok (.iload_n 1, 1) := by decide +kernel
theorem dX5_readLaw_17 : decode cX5_readLaw 17 = .ok (.ifCond .ne 23, 3) := by decide +kernel
theorem dX5_readLaw_20 : decode cX5_readLaw 20 = .ok (.aload_n 0, 1) := by decide +kernel
theorem dX5_readLaw_21 : decode cX5_readLaw 21 = .ok (.getfield 21, 3) := by decide +kernel
theorem dX5_readLaw_24 : decode cX5_readLaw 24 = .ok (.getfield 150, 3) := by decide +kernel
theorem dX5_readLaw_27 : decode cX5_readLaw 27 = .ok (.aload_n 0, 1) := by decide +kernel
theorem dX5_readLaw_28 : decode cX5_readLaw 28 = .ok (.getfield 32, 3) := by decide +kernel
theorem dX5_readLaw_31 : decode cX5_readLaw 31 = .ok (.invokevirtual 154, 3) := by decide +kernel
theorem dX5_readLaw_34 : decode cX5_readLaw 34 = .ok (.aload_n 0, 1) := by decide +kernel
theorem dX5_readLaw_35 : decode cX5_readLaw 35 = .ok (.iconst 0, 1) := by decide +kernel
theorem dX5_readLaw_36 : decode cX5_readLaw 36 = .ok (.invokevirtual 160, 3) := by decide +kernel
theorem dX5_readLaw_39 : decode cX5_readLaw 39 = .ok (.istore_n 1, 1) := by decide +kernel
theorem dX5_readLaw_40 : decode cX5_readLaw 40 = .ok (.iload_n 1, 1) := by decide +kernel
theorem dX5_readLaw_41 : decode cX5_readLaw 41 = .ok (.ifCond .ne 24, 3) := by decide +kernel
theorem dX5_readLaw_44 : decode cX5_readLaw 44 = .ok (.aload_n 0, 1) := by decide +kernel
theorem dX5_readLaw_45 : decode cX5_readLaw 45 = .ok (.getfield 21, 3) := by decide +kernel
theorem dX5_readLaw_48 : decode cX5_readLaw 48 = .ok (.getfield 150, 3) := by decide +kernel
theorem dX5_readLaw_51 : decode cX5_readLaw 51 = .ok (.aload_n 0, 1) := by decide +kernel
theorem dX5_readLaw_52 : decode cX5_readLaw 52 = .ok (.getfield 32, 3) := by decide +kernel
theorem dX5_readLaw_55 : decode cX5_readLaw 55 = .ok (.invokevirtual 163, 3) := by decide +kernel
theorem dX5_readLaw_58 : decode cX5_readLaw 58 = .ok (.aload_n 0, 1) := by decide +kernel
theorem dX5_readLaw_59 : decode cX5_readLaw 59 = .ok (.bipush 59, 2) := by decide +kernel
theorem dX5_readLaw_61 : decode cX5_readLaw 61 = .ok (.invokevirtual 82, 3) := by decide +kernel
theorem dX5_readLaw_64 : decode cX5_readLaw 64 = .ok (.istore_n 1, 1) := by decide +kernel
theorem dX5_readLaw_65 : decode cX5_readLaw 65 = .ok (.iload_n 1, 1) := by decide +kernel
theorem dX5_readLaw_66 : decode cX5_readLaw 66 = .ok (.ireturn, 1) := by decide +kernel
theorem dX5_readE_0 : decode cX5_readE 0 = .ok (.aload_n 0, 1) := by decide +kernel
theorem dX5_readE_1 : decode cX5_readE 1 = .ok (.iload_n 1, 1) := by decide +kernel
theorem dX5_readE_2 : decode cX5_readE 2 = .ok (.invokevirtual 166, 3) := by decide +kernel
theorem dX5_readE_5 : decode cX5_readE 5 = .ok (.istore_n 2, 1) := by decide +kernel
theorem dX5_readE_6 : decode cX5_readE 6 = .ok (.iconst 0, 1) := by decide +kernel
theorem dX5_readE_7 : decode cX5_readE 7 = .ok (.istore_n 3, 1) := by decide +kernel
theorem dX5_readE_8 : decode cX5_readE 8 = .ok (.iload_n 3, 1) := by decide +kernel
theorem dX5_readE_9 : decode cX5_readE 9 = .ok (.sipush 1000, 3) := by decide +kernel
theorem dX5_readE_12 : decode cX5_readE 12 = .ok (.if_icmp .ge 74, 3) := by decide +kernel
theorem dX5_readE_15 : decode cX5_readE 15 = .ok (.iload_n 2, 1) := by decide +kernel
theorem dX5_readE_16 : decode cX5_readE 16 = .ok (.ifCond .ne 70, 3) := by decide +kernel
theorem dX5_readE_19 : decode cX5_readE 19 = .ok (.aload_n 0, 1) := by decide +kernel
theorem dX5_readE_20 : decode cX5_readE 20 = .ok (.getfield 12, 3) := by decide +kernel
theorem dX5_readE_23 : decode cX5_readE 23 = .ok (.getfield 41, 3) := by decide +kernel
theorem dX5_readE_26 : decode cX5_readE 26 = .ok (.sipush 141, 3) := by decide +kernel
theorem dX5_readE_29 : decode cX5_readE 29 = .ok (.if_icmp .eq 16, 3) := by decide +kernel
theorem dX5_readE_32 : decode cX5_readE 32 = .ok (.aload_n 0, 1) := by decide +kernel
theorem dX5_readE_33 : decode cX5_readE 33 = .ok (.getfield 12, 3) := by decide +kernel
theorem dX5_readE_36 : decode cX5_readE 36 = .ok (.getfield 41, 3) := by decide +kernel
theorem dX5_readE_39 : decode cX5_readE 39 = .ok (.sipush 142, 3) := by decide +kernel
theorem dX5_readE_42 : decode cX5_readE 42 = .ok (.if_icmp .ne 44, 3) := by decide +kernel
theorem dX5_readE_45 : decode cX5_readE 45 = .ok (.aload_n 0, 1) := by decide +kernel
theorem dX5_readE_46 : decode cX5_readE 46 = .ok (.getfield 12, 3) := by decide +kernel
theorem dX5_readE_49 : decode cX5_readE 49 = .ok (.getfield 41, 3) := by decide +kernel
theorem dX5_readE_52 : decode cX5_readE 52 = .ok (.istore 4, 2) := by decide +kernel
theorem dX5_readE_54 : decode cX5_readE 54 = .ok (.aload_n 0, 1) := by decide +kernel
theorem dX5_readE_55 : decode cX5_readE 55 = .ok (.getfield 12, 3) := by decide +kernel
theorem dX5_readE_58 : decode cX5_readE 58 = .ok (.invokevirtual 89, 3) := by decide +kernel
theorem dX5_readE_61 : decode cX5_readE 61 = .ok (.aload_n 0, 1) := by decide +kernel
theorem dX5_readE_62 : decode cX5_readE 62 = .ok (.iload_n 1, 1) := by decide +kernel
theorem dX5_readE_63 : decode cX5_readE 63 = .ok (.invokevirtual 166, 3) := by decide +kernel
theorem dX5_readE_66 : decode cX5_readE 66 = .ok (.istore_n 2, 1) := by decide +kernel
theorem dX5_readE_67 : decode cX5_readE 67 = .ok (.aload_n 0, 1) := by decide +kernel
theorem dX5_readE_68 : decode cX5_readE 68 = .ok (.getfield 21, 3) := by decide +kernel
theorem dX5_readE_71 : decode cX5_readE 71 = .ok (.getfield 150, 3) := by decide +kernel
theorem dX5_readE_74 : decode cX5_readE 74 = .ok (.iload 4, 2) := by decide +kernel
theorem dX5_readE_76 : decode cX5_readE 76 = .ok (.ineg, 1) := by decide +kernel
theorem dX5_readE_77 : decode cX5_readE 77 = .ok (.invokevirtual 169, 3) := by decide +kernel
theorem dX5_readE_80 : decode cX5_readE 80 = .ok (.iinc 3 1, 3) := by decide +kernel
theorem dX5_readE_83 : decode cX5_readE 83 = .ok (.goto (-75), 3) := by decide +kernel
theorem dX5_readE_86 : decode cX5_readE 86 = .ok (.iload_n 2, 1) := by decide +kernel
theorem dX5_readE_87 : decode cX5_readE 87 = .ok (.ireturn, 1) := by decide +kernel
theorem dX5_readTest_0 : decode cX5_readTest 0 = .ok (.aload_n 0, 1) := by decide +kernel
theorem dX5_readTest_1 : decode cX5_readTest 1 = .ok (.iload_n 1, 1) := by decide +kernel
theorem dX5_readTest_2 : decode cX5_readTest 2 = .ok (.invokevirtual 172, 3) := by decide +kernel
theorem dX5_readTest_5 : decode cX5_readTest 5 = .ok (.istore_n 2, 1) := by decide +kernel
theorem dX5_readTest_6 : decode cX5_readTest 6 = .ok (.iload_n 2, 1) := by decide +kernel
theorem dX5_readTest_7 : decode cX5_readTest 7 = .ok (.ifCond .ne 60, 3) := by decide +kernel
theorem dX5_readTest_10 : decode cX5_readTest 10 = .ok (.aload_n 0, 1) := by decide +kernel
theorem dX5_readTest_11 : decode cX5_readTest 11 = .ok (.getfield 12, 3) := by decide +kernel
theorem dX5_readTest_14 : decode cX5_readTest 14 = .ok (.getfield 41, 3) := by decide +kernel
theorem dX5_readTest_17 : decode cX5_readTest 17 = .ok (.bipush 60, 2) := by decide +kernel
theorem dX5_readTest_19 : decode cX5_readTest 19 = .ok (.if_icmp .eq 15, 3) := by decide +kernel
theorem dX5_readTest_22 : decode cX5_readTest 22 = .ok (.aload_n 0, 1) := by decide +kernel
theorem dX5_readTest_23 : decode cX5_readTest 23 = .ok (.getfield 12, 3) := by decide +kernel
theorem dX5_readTest_26 : decode cX5_readTest 26 = .ok (.getfield 41, 3) := by decide +kernel
theorem dX5_readTest_29 : decode cX5_readTest 29 = .ok (.bipush 61, 2) := by decide +kernel
theorem dX5_readTest_31 : decode cX5_readTest 31 = .ok (.if_icmp .ne 36, 3) := by decide +kernel
theorem dX5_readTest_34 : decode cX5_readTest 34 = .ok (.aload_n 0, 1) := by decide +kernel
theorem dX5_readTest_35 : decode cX5_readTest 35 = .ok (.getfield 12, 3) := by decide +kernel
theorem dX5_readTest_38 : decode cX5_readTest 38 = .ok (.getfield 41, 3) := by decide +kernel
theorem dX5_readTest_41 : decode cX5_readTest 41 = .ok (.istore_n 3, 1) := by decide +kernel
theorem dX5_readTest_42 : decode cX5_readTest 42 = .ok (.aload_n 0, 1) := by decide +kernel
theorem dX5_readTest_43 : decode cX5_readTest 43 = .ok (.getfield 12, 3) := by decide +kernel
theorem dX5_readTest_46 : decode cX5_readTest 46 = .ok (.invokevirtual 89, 3) := by decide +kernel
theorem dX5_readTest_49 : decode cX5_readTest 49 = .ok (.aload_n 0, 1) := by decide +kernel
theorem dX5_readTest_50 : decode cX5_readTest 50 = .ok (.iload_n 1, 1) := by decide +kernel
theorem dX5_readTest_51 : decode cX5_readTest 51 = .ok (.invokevirtual 172, 3) := by decide +kernel
theorem dX5_readTest_54 : decode cX5_readTest 54 = .ok (.istore_n 2, 1) := by decide +kernel
theorem dX5_readTest_55 : decode cX5_readTest 55 = .ok (.aload_n 0, 1) := by decide +kernel
theorem dX5_readTest_56 : decode cX5_readTest 56 = .ok (.getfield 21, 3) := by decide +kernel
theorem dX5_readTest_59 : decode cX5_readTest 59 = .ok (.getfield 150, 3) := by decide +kernel
theorem dX5_readTest_62 : decode cX5_readTest 62 = .ok (.iload_n 3, 1) := by decide +kernel
theorem dX5_readTest_63 : decode cX5_readTest 63 = .ok (.ineg, 1) := by decide +kernel
theorem dX5_readTest_64 : decode cX5_readTest 64 = .ok (.invokevirtual 169, 3) := by decide +kernel
theorem dX5_readTest_67 : decode cX5_readTest 67 = .ok (.iload_n 2, 1) := by decide +kernel
theorem dX5_readTest_68 : decode cX5_readTest 68 = .ok (.ireturn, 1) := by decide +kernel
theorem dX5_readSum_0 : decode cX5_readSum 0 = .ok (.aload_n 0, 1) := by decide +kernel
theorem dX5_readSum_1 : decode cX5_readSum 1 = .ok (.iload_n 1, 1) := by decide +kernel
theorem dX5_readSum_2 : decode cX5_readSum 2 = .ok (.invokevirtual 175, 3) := by decide +kernel
theorem dX5_readSum_5 : decode cX5_readSum 5 = .ok (.istore_n 2, 1) := by decide +kernel
theorem dX5_readSum_6 : decode cX5_readSum 6 = .ok (.iconst 0, 1) := by decide +kernel
theorem dX5_readSum_7 : decode cX5_readSum 7 = .ok (.istore_n 3, 1) := by decide +kernel
theorem dX5_readSum_8 : decode cX5_readSum 8 = .ok (.iload_n 3, 1) := by decide +kernel
theorem dX5_readSum_9 : decode cX5_readSum 9 = .ok (.sipush 1000, 3) := by decide +kernel
theorem dX5_readSum_12 : decode cX5_readSum 12 = .ok (.if_icmp .ge 72, 3) := by decide +kernel
theorem dX5_readSum_15 : decode cX5_readSum 15 = .ok (.iload_n 2, 1) := by decide +kernel
theorem dX5_readSum_16 : decode cX5_readSum 16 = .ok (.ifCond .ne 68, 3) := by decide +kernel
theorem dX5_readSum_19 : decode cX5_readSum 19 = .ok (.aload_n 0, 1) := by decide +kernel
theorem dX5_readSum_20 : decode cX5_readSum 20 = .ok (.getfield 12, 3) := by decide +kernel
theorem dX5_readSum_23 : decode cX5_readSum 23 = .ok (.getfield 41, 3) := by decide +kernel
theorem dX5_readSum_26 : decode cX5_readSum 26 = .ok (.bipush 43, 2) := by decide +kernel
theorem dX5_readSum_28 : decode cX5_readSum 28 = .ok (.if_icmp .eq 15, 3) := by decide +kernel
theorem dX5_readSum_31 : decode cX5_readSum 31 = .ok (.aload_n 0, 1) := by decide +kernel
theorem dX5_readSum_32 : decode cX5_readSum 32 = .ok (.getfield 12, 3) := by decide +kernel
theorem dX5_readSum_35 : decode cX5_readSum 35 = .ok (.getfield 41, 3) := by decide +kernel
theorem dX5_readSum_38 : decode cX5_readSum 38 = .ok (.bipush 45, 2) := by decide +kernel
theorem dX5_readSum_40 : decode cX5_readSum 40 = .ok (.if_icmp .ne 44, 3) := by decide +kernel
theorem dX5_readSum_43 : decode cX5_readSum 43 = .ok (.aload_n 0, 1) := by decide +kernel
theorem dX5_readSum_44 : decode cX5_readSum 44 = .ok (.getfield 12, 3) := by decide +kernel
theorem dX5_readSum_47 : decode cX5_readSum 47 = .ok (.getfield 41, 3) := by decide +kernel
theorem dX5_readSum_50 : decode cX5_readSum 50 = .ok (.istore 4, 2) := by decide +kernel
theorem dX5_readSum_52 : decode cX5_readSum 52 = .ok (.aload_n 0, 1) := by decide +kernel
theorem dX5_readSum_53 : decode cX5_readSum 53 = .ok (.getfield 12, 3) := by decide +kernel
theorem dX5_readSum_56 : decode cX5_readSum 56 = .ok (.invokevirtual 89, 3) := by decide +kernel
theorem dX5_readSum_59 : decode cX5_readSum 59 = .ok (.aload_n 0, 1) := by decide +kernel
theorem dX5_readSum_60 : decode cX5_readSum 60 = .ok (.iload_n 1, 1) := by decide +kernel
theorem dX5_readSum_61 : decode cX5_readSum 61 = .ok (.invokevirtual 175, 3) := by decide +kernel
theorem dX5_readSum_64 : decode cX5_readSum 64 = .ok (.istore_n 2, 1) := by decide +kernel
theorem dX5_readSum_65 : decode cX5_readSum 65 = .ok (.aload_n 0, 1) := by decide +kernel
theorem dX5_readSum_66 : decode cX5_readSum 66 = .ok (.getfield 21, 3) := by decide +kernel
theorem dX5_readSum_69 : decode cX5_readSum 69 = .ok (.getfield 150, 3) := by decide +kernel
theorem dX5_readSum_72 : decode cX5_readSum 72 = .ok (.iload 4, 2) := by decide +kernel
theorem dX5_readSum_74 : decode cX5_readSum 74 = .ok (.ineg, 1) := by decide +kernel
theorem dX5_readSum_75 : decode cX5_readSum 75 = .ok (.invokevirtual 169, 3) := by decide +kernel
theorem dX5_readSum_78 : decode cX5_readSum 78 = .ok (.iinc 3 1, 3) := by decide +kernel
theorem dX5_readSum_81 : decode cX5_readSum 81 = .ok (.goto (-73), 3) := by decide +kernel
theorem dX5_readSum_84 : decode cX5_readSum 84 = .ok (.iload_n 2, 1) := by decide +kernel
theorem dX5_readSum_85 : decode cX5_readSum 85 = .ok (.ireturn, 1) := by decide +kernel
theorem dX5_readProduct_0 : decode cX5_readProduct 0 = .ok (.aload_n 0, 1) := by decide +kernel
theorem dX5_readProduct_1 : decode cX5_readProduct 1 = .ok (.iload_n 1, 1) := by decide +kernel
theorem dX5_readProduct_2 : decode cX5_readProduct 2 = .ok (.invokevirtual 178, 3) := by decide +kernel
theorem dX5_readProduct_5 : decode cX5_readProduct 5 = .ok (.istore_n 2, 1) := by decide +kernel
theorem dX5_readProduct_6 : decode cX5_readProduct 6 = .ok (.iconst 0, 1) := by decide +kernel
theorem dX5_readProduct_7 : decode cX5_readProduct 7 = .ok (.istore_n 3, 1) := by decide +kernel
theorem dX5_readProduct_8 : decode cX5_readProduct 8 = .ok (.iload_n 3, 1) := by decide +kernel
theorem dX5_readProduct_9 : decode cX5_readProduct 9 = .ok (.sipush 1000, 3) := by decide +kernel
theorem dX5_readProduct_12 : decode cX5_readProduct 12 = .ok (.if_icmp .ge 50, 3) := by decide +kernel
theorem dX5_readProduct_15 : decode cX5_readProduct 15 = .ok (.iload_n 2, 1) := by decide +kernel
theorem dX5_readProduct_16 : decode cX5_readProduct 16 = .ok (.ifCond .ne 46, 3) := by decide +kernel
theorem dX5_readProduct_19 : decode cX5_readProduct 19 = .ok (.aload_n 0, 1) := by decide +kernel
theorem dX5_readProduct_20 : decode cX5_readProduct 20 = .ok (.getfield 12, 3) := by decide +kernel
theorem dX5_readProduct_23 : decode cX5_readProduct 23 = .ok (.getfield 41, 3) := by decide +kernel
theorem dX5_readProduct_26 : decode cX5_readProduct 26 = .ok (.bipush 42, 2) := by decide +kernel
theorem dX5_readProduct_28 : decode cX5_readProduct 28 = .ok (.if_icmp .ne 34, 3) := by decide +kernel
theorem dX5_readProduct_31 : decode cX5_readProduct 31 = .ok (.aload_n 0, 1) := by decide +kernel
theorem dX5_readProduct_32 : decode cX5_readProduct 32 = .ok (.getfield 12, 3) := by decide +kernel
theorem dX5_readProduct_35 : decode cX5_readProduct 35 = .ok (.invokevirtual 89, 3) := by decide +kernel
theorem dX5_readProduct_38 : decode cX5_readProduct 38 = .ok (.aload_n 0, 1) := by decide +kernel
theorem dX5_readProduct_39 : decode cX5_readProduct 39 = .ok (.iload_n 1, 1) := by decide +kernel
theorem dX5_readProduct_40 : decode cX5_readProduct 40 = .ok (.invokevirtual 178, 3) := by decide +kernel
theorem dX5_readProduct_43 : decode cX5_readProduct 43 = .ok (.istore_n 2, 1) := by decide +kernel
theorem dX5_readProduct_44 : decode cX5_readProduct 44 = .ok (.aload_n 0, 1) := by decide +kernel
theorem dX5_readProduct_45 : decode cX5_readProduct 45 = .ok (.getfield 21, 3) := by decide +kernel
theorem dX5_readProduct_48 : decode cX5_readProduct 48 = .ok (.getfield 150, 3) := by decide +kernel
theorem dX5_readProduct_51 : decode cX5_readProduct 51 = .ok (.bipush (-42), 2) := by decide +kernel
theorem dX5_readProduct_53 : decode cX5_readProduct 53 = .ok (.invokevirtual 169, 3) := by decide +kernel
theorem dX5_readProduct_56 : decode cX5_readProduct 56 = .ok (.iinc 3 1, 3) := by decide +kernel
theorem dX5_readProduct_59 : decode cX5_readProduct 59 = .ok (.goto (-51), 3) := by decide +kernel
theorem dX5_readProduct_62 : decode cX5_readProduct 62 = .ok (.iload_n 2, 1) := by decide +kernel
theorem dX5_readProduct_63 : decode cX5_readProduct 63 = .ok (.ireturn, 1) := by decide +kernel
theorem dX5_readPart_0 : decode cX5_readPart 0 = .ok (.aload_n 0, 1) := by decide +kernel
theorem dX5_readPart_1 : decode cX5_readPart 1 = .ok (.invokevirtual 181, 3) := by decide +kernel
theorem dX5_readPart_4 : decode cX5_readPart 4 = .ok (.ifCond .ne 5, 3) := by decide +kernel
theorem dX5_readPart_7 : decode cX5_readPart 7 = .ok (.iconst 1, 1) := by decide +kernel
theorem dX5_readPart_8 : decode cX5_readPart 8 = .ok (.ireturn, 1) := by decide +kernel
theorem dX5_readPart_9 : decode cX5_readPart 9 = .ok (.iload_n 1, 1) := by decide +kernel
theorem dX5_readPart_10 : decode cX5_readPart 10 = .ok (.iconst 5, 1) := by decide +kernel
theorem dX5_readPart_11 : decode cX5_readPart 11 = .ok (.if_icmp .lt 5, 3) := by decide +kernel
theorem dX5_readPart_14 : decode cX5_readPart 14 = .ok (.iconst 5, 1) := by decide +kernel
theorem dX5_readPart_15 : decode cX5_readPart 15 = .ok (.ireturn, 1) := by decide +kernel
theorem dX5_readPart_16 : decode cX5_readPart 16 = .ok (.aload_n 0, 1) := by decide +kernel
theorem dX5_readPart_17 : decode cX5_readPart 17 = .ok (.getfield 12, 3) := by decide +kernel
theorem dX5_readPart_20 : decode cX5_readPart 20 = .ok (.getfield 41, 3) := by decide +kernel
theorem dX5_readPart_23 : decode cX5_readPart 23 = .ok (.istore_n 2, 1) := by decide +kernel
theorem dX5_readPart_24 : decode cX5_readPart 24 = .ok (.aload_n 0, 1) := by decide +kernel
theorem dX5_readPart_25 : decode cX5_readPart 25 = .ok (.getfield 12, 3) := by decide +kernel
theorem dX5_readPart_28 : decode cX5_readPart 28 = .ok (.getfield 137, 3) := by decide +kernel
theorem dX5_readPart_31 : decode cX5_readPart 31 = .ok (.istore_n 3, 1) := by decide +kernel
theorem dX5_readPart_32 : decode cX5_readPart 32 = .ok (.aload_n 0, 1) := by decide +kernel
theorem dX5_readPart_33 : decode cX5_readPart 33 = .ok (.getfield 12, 3) := by decide +kernel
theorem dX5_readPart_36 : decode cX5_readPart 36 = .ok (.invokevirtual 89, 3) := by decide +kernel
theorem dX5_readPart_39 : decode cX5_readPart 39 = .ok (.iload_n 2, 1) := by decide +kernel
theorem dX5_readPart_40 : decode cX5_readPart 40 = .ok (.bipush 40, 2) := by decide +kernel
theorem dX5_readPart_42 : decode cX5_readPart 42 = .ok (.if_icmp .ne 50, 3) := by decide +kernel
theorem dX5_readPart_45 : decode cX5_readPart 45 = .ok (.aload_n 0, 1) := by decide +kernel
theorem dX5_readPart_46 : decode cX5_readPart 46 = .ok (.iload_n 1, 1) := by decide +kernel
theorem dX5_readPart_47 : decode cX5_readPart 47 = .ok (.iconst 1, 1) := by decide +kernel
theorem dX5_readPart_48 : decode cX5_readPart 48 = .ok (.iadd, 1) := by decide +kernel
theorem dX5_readPart_49 : decode cX5_readPart 49 = .ok (.invokevirtual 160, 3) := by decide +kernel
theorem dX5_readPart_52 : decode cX5_readPart 52 = .ok (.istore 4, 2) := by decide +kernel
theorem dX5_readPart_54 : decode cX5_readPart 54 = .ok (.iload 4, 2) := by decide +kernel
theorem dX5_readPart_56 : decode cX5_readPart 56 = .ok (.ifCond .ne 15, 3) := by decide +kernel
theorem dX5_readPart_59 : decode cX5_readPart 59 = .ok (.aload_n 0, 1) := by decide +kernel
theorem dX5_readPart_60 : decode cX5_readPart 60 = .ok (.getfield 12, 3) := by decide +kernel
theorem dX5_readPart_63 : decode cX5_readPart 63 = .ok (.getfield 41, 3) := by decide +kernel
theorem dX5_readPart_66 : decode cX5_readPart 66 = .ok (.bipush 41, 2) := by decide +kernel
theorem dX5_readPart_68 : decode cX5_readPart 68 = .ok (.if_icmp .eq 15, 3) := by decide +kernel
theorem dX5_readPart_71 : decode cX5_readPart 71 = .ok (.iload 4, 2) := by decide +kernel
theorem dX5_readPart_73 : decode cX5_readPart 73 = .ok (.ifCond .eq 8, 3) := by decide +kernel
theorem dX5_readPart_76 : decode cX5_readPart 76 = .ok (.iload 4, 2) := by decide +kernel
theorem dX5_readPart_78 : decode cX5_readPart 78 = .ok (.goto 4, 3) := by decide +kernel
theorem dX5_readPart_81 : decode cX5_readPart 81 = .ok (.iconst 1, 1) := by decide +kernel
theorem dX5_readPart_82 : decode cX5_readPart 82 = .ok (.ireturn, 1) := by decide +kernel
theorem dX5_readPart_83 : decode cX5_readPart 83 = .ok (.aload_n 0, 1) := by decide +kernel
theorem dX5_readPart_84 : decode cX5_readPart 84 = .ok (.getfield 12, 3) := by decide +kernel
theorem dX5_readPart_87 : decode cX5_readPart 87 = .ok (.invokevirtual 89, 3) := by decide +kernel
theorem dX5_readPart_90 : decode cX5_readPart 90 = .ok (.iconst 0, 1) := by decide +kernel
theorem dX5_readPart_91 : decode cX5_readPart 91 = .ok (.ireturn, 1) := by decide +kernel
theorem dX5_readPart_92 : decode cX5_readPart 92 = .ok (.iload_n 2, 1) := by decide +kernel
theorem dX5_readPart_93 : decode cX5_readPart 93 = .ok (.sipush 140, 3) := by decide +kernel
theorem dX5_readPart_96 : decode cX5_readPart 96 = .ok (.if_icmp .ne 13, 3) := by decide +kernel
theorem dX5_readPart_99 : decode cX5_readPart 99 = .ok (.aload_n 0, 1) := by decide +kernel
theorem dX5_readPart_100 : decode cX5_readPart 100 = .ok (.iload_n 1, 1) := by decide +kernel
theorem dX5_readPart_101 : decode cX5_readPart 101 = .ok (.iconst 1, 1) := by decide +kernel
theorem dX5_readPart_102 : decode cX5_readPart 102 = .ok (.iadd, 1) := by decide +kernel
theorem dX5_readPart_103 : decode cX5_readPart 103 = .ok (.invokevirtual 178, 3) := by decide +kernel
theorem dX5_readPart_106 : decode cX5_readPart 106 = .ok (.goto 4, 3) := by decide +kernel
theorem dX5_readPart_109 : decode cX5_readPart 109 = .ok (.iconst 0, 1) := by decide +kernel
theorem dX5_readPart_110 : decode cX5_readPart 110 = .ok (.istore 4, 2) := by decide +kernel
theorem dX5_readPart_112 : decode cX5_readPart 112 = .ok (.aload_n 0, 1) := by decide +kernel
theorem dX5_readPart_113 : decode cX5_readPart 113 = .ok (.getfield 21, 3) := by decide +kernel
theorem dX5_readPart_116 : decode cX5_readPart 116 = .ok (.getfield 150, 3) := by decide +kernel
theorem dX5_readPart_119 : decode cX5_readPart 119 = .ok (.iload_n 2, 1) := by decide +kernel
theorem dX5_readPart_120 : decode cX5_readPart 120 = .ok (.iconst 2, 1) := by decide +kernel
theorem dX5_readPart_121 : decode cX5_readPart 121 = .ok (.if_icmp .ne 7, 3) := by decide +kernel
theorem dX5_readPart_124 : decode cX5_readPart 124 = .ok (.iload_n 3, 1) := by decide +kernel
theorem dX5_readPart_125 : decode cX5_readPart 125 = .ok (.goto 5, 3) := by decide +kernel
theorem dX5_readPart_128 : decode cX5_readPart 128 = .ok (.iload_n 2, 1) := by decide +kernel
theorem dX5_readPart_129 : decode cX5_readPart 129 = .ok (.ineg, 1) := by decide +kernel
theorem dX5_readPart_130 : decode cX5_readPart 130 = .ok (.invokevirtual 169, 3) := by decide +kernel
theorem dX5_readPart_133 : decode cX5_readPart 133 = .ok (.iload 4, 2) := by decide +kernel
theorem dX5_readPart_135 : decode cX5_readPart 135 = .ok (.ireturn, 1) := by decide +kernel
theorem dX5_startsPart_0 : decode cX5_startsPart 0 = .ok (.aload_n 0, 1) := by decide +kernel
theorem dX5_startsPart_1 : decode cX5_startsPart 1 = .ok (.getfield 12, 3) := by decide +kernel
theorem dX5_startsPart_4 : decode cX5_startsPart 4 = .ok (.getfield 41, 3) := by decide +kernel
theorem dX5_startsPart_7 : decode cX5_startsPart 7 = .ok (.iconst 2, 1) := by decide +kernel
theorem dX5_startsPart_8 : decode cX5_startsPart 8 = .ok (.if_icmp .eq 55, 3) := by decide +kernel
theorem dX5_startsPart_11 : decode cX5_startsPart 11 = .ok (.aload_n 0, 1) := by decide +kernel
theorem dX5_startsPart_12 : decode cX5_startsPart 12 = .ok (.getfield 12, 3) := by decide +kernel
theorem dX5_startsPart_15 : decode cX5_startsPart 15 = .ok (.getfield 41, 3) := by decide +kernel
theorem dX5_startsPart_18 : decode cX5_startsPart 18 = .ok (.sipush 140, 3) := by decide +kernel
theorem dX5_startsPart_21 : decode cX5_startsPart 21 = .ok (.if_icmp .eq 42, 3) := by decide +kernel
theorem dX5_startsPart_24 : decode cX5_startsPart 24 = .ok (.aload_n 0, 1) := by decide +kernel
theorem dX5_startsPart_25 : decode cX5_startsPart 25 = .ok (.getfield 12, 3) := by decide +kernel
theorem dX5_startsPart_28 : decode cX5_startsPart 28 = .ok (.getfield 41, 3) := by decide +kernel
theorem dX5_startsPart_31 : decode cX5_startsPart 31 = .ok (.bipush 40, 2) := by decide +kernel
theorem dX5_startsPart_33 : decode cX5_startsPart 33 = .ok (.if_icmp .eq 30, 3) := by decide +kernel
theorem dX5_startsPart_36 : decode cX5_startsPart 36 = .ok (.aload_n 0, 1) := by decide +kernel
theorem dX5_startsPart_37 : decode cX5_startsPart 37 = .ok (.getfield 12, 3) := by decide +kernel
theorem dX5_startsPart_40 : decode cX5_startsPart 40 = .ok (.invokevirtual 184, 3) := by decide +kernel
theorem dX5_startsPart_43 : decode cX5_startsPart 43 = .ok (.ifCond .eq 24, 3) := by decide +kernel
theorem dX5_startsPart_46 : decode cX5_startsPart 46 = .ok (.aload_n 0, 1) := by decide +kernel
theorem dX5_startsPart_47 : decode cX5_startsPart 47 = .ok (.getfield 32, 3) := by decide +kernel
theorem dX5_startsPart_50 : decode cX5_startsPart 50 = .ok (.aload_n 0, 1) := by decide +kernel
theorem dX5_startsPart_51 : decode cX5_startsPart 51 = .ok (.getfield 12, 3) := by decide +kernel
theorem dX5_startsPart_54 : decode cX5_startsPart 54 = .ok (.getfield 41, 3) := by decide +kernel
theorem dX5_startsPart_57 : decode cX5_startsPart 57 = .ok (.invokestatic 187, 3) := by decide +kernel
theorem dX5_startsPart_60 : decode cX5_startsPart 60 = .ok (.ifCond .eq 7, 3) := by decide +kernel
theorem dX5_startsPart_63 : decode cX5_startsPart 63 = .ok (.iconst 1, 1) := by decide +kernel
theorem dX5_startsPart_64 : decode cX5_startsPart 64 = .ok (.goto 4, 3) := by decide +kernel
theorem dX5_startsPart_67 : decode cX5_startsPart 67 = .ok (.iconst 0, 1) := by decide +kernel
theorem dX5_startsPart_68 : decode cX5_startsPart 68 = .ok (.ireturn, 1) := by decide +kernel
theorem dX5_isFactOf_0 : decode cX5_isFactOf 0 = .ok (.iload_n 1, 1) := by decide +kernel
theorem dX5_isFactOf_1 : decode cX5_isFactOf 1 = .ok (.sipush 143, 3) := by decide +kernel
theorem dX5_isFactOf_4 : decode cX5_isFactOf 4 = .ok (.if_icmp .eq 10, 3) := by decide +kernel
theorem dX5_isFactOf_7 : decode cX5_isFactOf 7 = .ok (.iload_n 1, 1) := by decide +kernel
theorem dX5_isFactOf_8 : decode cX5_isFactOf 8 = .ok (.sipush 144, 3) := by decide +kernel
theorem dX5_isFactOf_11 : decode cX5_isFactOf 11 = .ok (.if_icmp .ne 5, 3) := by decide +kernel
theorem dX5_isFactOf_14 : decode cX5_isFactOf 14 = .ok (.iconst 1, 1) := by decide +kernel
theorem dX5_isFactOf_15 : decode cX5_isFactOf 15 = .ok (.ireturn, 1) := by decide +kernel
theorem dX5_isFactOf_16 : decode cX5_isFactOf 16 = .ok (.iload_n 1, 1) := by decide +kernel
theorem dX5_isFactOf_17 : decode cX5_isFactOf 17 = .ok (.sipush 145, 3) := by decide +kernel
theorem dX5_isFactOf_20 : decode cX5_isFactOf 20 = .ok (.if_icmp .eq 10, 3) := by decide +kernel
theorem dX5_isFactOf_23 : decode cX5_isFactOf 23 = .ok (.iload_n 1, 1) := by decide +kernel
theorem dX5_isFactOf_24 : decode cX5_isFactOf 24 = .ok (.sipush 146, 3) := by decide +kernel
theorem dX5_isFactOf_27 : decode cX5_isFactOf 27 = .ok (.if_icmp .ne 23, 3) := by decide +kernel
theorem dX5_isFactOf_30 : decode cX5_isFactOf 30 = .ok (.iload_n 0, 1) := by decide +kernel
theorem dX5_isFactOf_31 : decode cX5_isFactOf 31 = .ok (.sipush 135, 3) := by decide +kernel
theorem dX5_isFactOf_34 : decode cX5_isFactOf 34 = .ok (.if_icmp .eq 10, 3) := by decide +kernel
theorem dX5_isFactOf_37 : decode cX5_isFactOf 37 = .ok (.iload_n 0, 1) := by decide +kernel
theorem dX5_isFactOf_38 : decode cX5_isFactOf 38 = .ok (.sipush 136, 3) := by decide +kernel
theorem dX5_isFactOf_41 : decode cX5_isFactOf 41 = .ok (.if_icmp .ne 7, 3) := by decide +kernel
theorem dX5_isFactOf_44 : decode cX5_isFactOf 44 = .ok (.iconst 1, 1) := by decide +kernel
theorem dX5_isFactOf_45 : decode cX5_isFactOf 45 = .ok (.goto 4, 3) := by decide +kernel
theorem dX5_isFactOf_48 : decode cX5_isFactOf 48 = .ok (.iconst 0, 1) := by decide +kernel
theorem dX5_isFactOf_49 : decode cX5_isFactOf 49 = .ok (.ireturn, 1) := by decide +kernel
theorem dX5_isFactOf_50 : decode cX5_isFactOf 50 = .ok (.iload_n 0, 1) := by decide +kernel
theorem dX5_isFactOf_51 : decode cX5_isFactOf 51 = .ok (.sipush 138, 3) := by decide +kernel
theorem dX5_isFactOf_54 : decode cX5_isFactOf 54 = .ok (.if_icmp .ne 7, 3) := by decide +kernel
theorem dX5_isFactOf_57 : decode cX5_isFactOf 57 = .ok (.iconst 1, 1) := by decide +kernel
theorem dX5_isFactOf_58 : decode cX5_isFactOf 58 = .ok (.goto 4, 3) := by decide +kernel
theorem dX5_isFactOf_61 : decode cX5_isFactOf 61 = .ok (.iconst 0, 1) := by decide +kernel
theorem dX5_isFactOf_62 : decode cX5_isFactOf 62 = .ok (.ireturn, 1) := by decide +kernel
theorem dX5_takeOnce_0 : decode cX5_takeOnce 0 = .ok (.iconst 1, 1) := by decide +kernel
theorem dX5_takeOnce_1 : decode cX5_takeOnce 1 = .ok (.aload_n 0, 1) := by decide +kernel
theorem dX5_takeOnce_2 : decode cX5_takeOnce 2 = .ok (.getfield 12, 3) := by decide +kernel
theorem dX5_takeOnce_5 : decode cX5_takeOnce 5 = .ok (.getfield 41, 3) := by decide +kernel
theorem dX5_takeOnce_8 : decode cX5_takeOnce 8 = .ok (.sipush 128, 3) := by decide +kernel
theorem dX5_takeOnce_11 : decode cX5_takeOnce 11 = .ok (.isub, 1) := by decide +kernel
theorem dX5_takeOnce_12 : decode cX5_takeOnce 12 = .ok (.ishl, 1) := by decide +kernel
theorem dX5_takeOnce_13 : decode cX5_takeOnce 13 = .ok (.istore_n 1, 1) := by decide +kernel
theorem dX5_takeOnce_14 : decode cX5_takeOnce 14 = .ok (.aload_n 0, 1) := by decide +kernel
theorem dX5_takeOnce_15 : decode cX5_takeOnce 15 = .ok (.getfield 25, 3) := by decide +kernel
theorem dX5_takeOnce_18 : decode cX5_takeOnce 18 = .ok (.iload_n 1, 1) := by decide +kernel
theorem dX5_takeOnce_19 : decode cX5_takeOnce 19 = .ok (.iand, 1) := by decide +kernel
theorem dX5_takeOnce_20 : decode cX5_takeOnce 20 = .ok (.ifCond .eq 5, 3) := by decide +kernel
theorem dX5_takeOnce_23 : decode cX5_takeOnce 23 = .ok (.iconst 3, 1) := by decide +kernel
theorem dX5_takeOnce_24 : decode cX5_takeOnce 24 = .ok (.ireturn, 1) := by decide +kernel
theorem dX5_takeOnce_25 : decode cX5_takeOnce 25 = .ok (.aload_n 0, 1) := by decide +kernel
theorem dX5_takeOnce_26 : decode cX5_takeOnce 26 = .ok (.dup, 1) := by decide +kernel
theorem dX5_takeOnce_27 : decode cX5_takeOnce 27 = .ok (.getfield 25, 3) := by decide +kernel
theorem dX5_takeOnce_30 : decode cX5_takeOnce 30 = .ok (.iload_n 1, 1) := by decide +kernel
theorem dX5_takeOnce_31 : decode cX5_takeOnce 31 = .ok (.ior, 1) := by decide +kernel
theorem dX5_takeOnce_32 : decode cX5_takeOnce 32 = .ok (.putfield 25, 3) := by decide +kernel
theorem dX5_takeOnce_35 : decode cX5_takeOnce 35 = .ok (.aload_n 0, 1) := by decide +kernel
theorem dX5_takeOnce_36 : decode cX5_takeOnce 36 = .ok (.getfield 12, 3) := by decide +kernel
theorem dX5_takeOnce_39 : decode cX5_takeOnce 39 = .ok (.invokevirtual 89, 3) := by decide +kernel
theorem dX5_takeOnce_42 : decode cX5_takeOnce 42 = .ok (.iconst 0, 1) := by decide +kernel
theorem dX5_takeOnce_43 : decode cX5_takeOnce 43 = .ok (.ireturn, 1) := by decide +kernel
theorem dX5_take_0 : decode cX5_take 0 = .ok (.aload_n 0, 1) := by decide +kernel
theorem dX5_take_1 : decode cX5_take 1 = .ok (.getfield 12, 3) := by decide +kernel
theorem dX5_take_4 : decode cX5_take 4 = .ok (.getfield 41, 3) := by decide +kernel
theorem dX5_take_7 : decode cX5_take 7 = .ok (.iload_n 1, 1) := by decide +kernel
theorem dX5_take_8 : decode cX5_take 8 = .ok (.if_icmp .eq 5, 3) := by decide +kernel
theorem dX5_take_11 : decode cX5_take 11 = .ok (.iconst 1, 1) := by decide +kernel
theorem dX5_take_12 : decode cX5_take 12 = .ok (.ireturn, 1) := by decide +kernel
theorem dX5_take_13 : decode cX5_take 13 = .ok (.aload_n 0, 1) := by decide +kernel
theorem dX5_take_14 : decode cX5_take 14 = .ok (.getfield 12, 3) := by decide +kernel
theorem dX5_take_17 : decode cX5_take 17 = .ok (.invokevirtual 89, 3) := by decide +kernel
theorem dX5_take_20 : decode cX5_take 20 = .ok (.iconst 0, 1) := by decide +kernel
theorem dX5_take_21 : decode cX5_take 21 = .ok (.ireturn, 1) := by decide +kernel
theorem dX5_takeNumber_0 : decode cX5_takeNumber 0 = .ok (.aload_n 0, 1) := by decide +kernel
theorem dX5_takeNumber_1 : decode cX5_takeNumber 1 = .ok (.getfield 12, 3) := by decide +kernel
theorem dX5_takeNumber_4 : decode cX5_takeNumber 4 = .ok (.getfield 41, 3) := by decide +kernel
theorem dX5_takeNumber_7 : decode cX5_takeNumber 7 = .ok (.iconst 2, 1) := by decide +kernel
theorem dX5_takeNumber_8 : decode cX5_takeNumber 8 = .ok (.if_icmp .eq 5, 3) := by decide +kernel
theorem dX5_takeNumber_11 : decode cX5_takeNumber 11 = .ok (.iconst 1, 1) := by decide +kernel
theorem dX5_takeNumber_12 : decode cX5_takeNumber 12 = .ok (.ireturn, 1) := by decide +kernel
theorem dX5_takeNumber_13 : decode cX5_takeNumber 13 = .ok (.aload_n 0, 1) := by decide +kernel
theorem dX5_takeNumber_14 : decode cX5_takeNumber 14 = .ok (.getfield 12, 3) := by decide +kernel
theorem dX5_takeNumber_17 : decode cX5_takeNumber 17 = .ok (.getfield 137, 3) := by decide +kernel
theorem dX5_takeNumber_20 : decode cX5_takeNumber 20 = .ok (.iload_n 1, 1) := by decide +kernel
theorem dX5_takeNumber_21 : decode cX5_takeNumber 21 = .ok (.if_icmp .lt 14, 3) := by decide +kernel
theorem dX5_takeNumber_24 : decode cX5_takeNumber 24 = .ok (.aload_n 0, 1) := by decide +kernel
theorem dX5_takeNumber_25 : decode cX5_takeNumber 25 = .ok (.getfield 12, 3) := by decide +kernel
theorem dX5_takeNumber_28 : decode cX5_takeNumber 28 = .ok (.getfield 137, 3) := by decide +kernel
theorem dX5_takeNumber_31 : decode cX5_takeNumber 31 = .ok (.iload_n 2, 1) := by decide +kernel
theorem dX5_takeNumber_32 : decode cX5_takeNumber 32 = .ok (.if_icmp .le 5, 3) := by decide +kernel
theorem dX5_takeNumber_35 : decode cX5_takeNumber 35 = .ok (.iconst 4, 1) := by decide +kernel
theorem dX5_takeNumber_36 : decode cX5_takeNumber 36 = .ok (.ireturn, 1) := by decide +kernel
theorem dX5_takeNumber_37 : decode cX5_takeNumber 37 = .ok (.aload_n 0, 1) := by decide +kernel
theorem dX5_takeNumber_38 : decode cX5_takeNumber 38 = .ok (.aload_n 0, 1) := by decide +kernel
theorem dX5_takeNumber_39 : decode cX5_takeNumber 39 = .ok (.getfield 12, 3) := by decide +kernel
theorem dX5_takeNumber_42 : decode cX5_takeNumber 42 = .ok (.getfield 137, 3) := by decide +kernel
theorem dX5_takeNumber_45 : decode cX5_takeNumber 45 = .ok (.putfield 29, 3) := by decide +kernel
theorem dX5_takeNumber_48 : decode cX5_takeNumber 48 = .ok (.aload_n 0, 1) := by decide +kernel
theorem dX5_takeNumber_49 : decode cX5_takeNumber 49 = .ok (.getfield 12, 3) := by decide +kernel
theorem dX5_takeNumber_52 : decode cX5_takeNumber 52 = .ok (.invokevirtual 89, 3) := by decide +kernel
theorem dX5_takeNumber_55 : decode cX5_takeNumber 55 = .ok (.iconst 0, 1) := by decide +kernel
theorem dX5_takeNumber_56 : decode cX5_takeNumber 56 = .ok (.ireturn, 1) := by decide +kernel
theorem dX6_init_0 : decode cX6_init 0 = .ok (.aload_n 0, 1) := by decide +kernel
theorem dX6_init_1 : decode cX6_init 1 = .ok (.invokespecial 5, 3) := by decide +kernel
theorem dX6_init_4 : decode cX6_init 4 = .ok (.aload_n 0, 1) := by decide +kernel
theorem dX6_init_5 : decode cX6_init 5 = .ok (.sipush 204, 3) := by decide +kernel
theorem dX6_init_8 : decode cX6_init 8 = .ok (.newarray .int, 2) := by decide +kernel
theorem dX6_init_10 : decode cX6_init 10 = .ok (.putfield 11, 3) := by decide +kernel
theorem dX6_init_13 : decode cX6_init 13 = .ok (.aload_n 0, 1) := by decide +kernel
theorem dX6_init_14 : decode cX6_init 14 = .ok (.bipush 16, 2) := by decide +kernel
theorem dX6_init_16 : decode cX6_init 16 = .ok (.newarray .int, 2) := by decide +kernel
theorem dX6_init_18 : decode cX6_init 18 = .ok (.putfield 15, 3) := by decide +kernel
theorem dX6_init_21 : decode cX6_init 21 = .ok (.aload_n 0, 1) := by decide +kernel
theorem dX6_init_22 : decode cX6_init 22 = .ok (.iconst 0, 1) := by decide +kernel
theorem dX6_init_23 : decode cX6_init 23 = .ok (.putfield 18, 3) := by decide +kernel
theorem dX6_init_26 : decode cX6_init 26 = .ok (.aload_n 0, 1) := by decide +kernel
theorem dX6_init_27 : decode cX6_init 27 = .ok (.iconst 0, 1) := by decide +kernel
theorem dX6_init_28 : decode cX6_init 28 = .ok (.putfield 22, 3) := by decide +kernel
theorem dX6_init_31 : decode cX6_init 31 = .ok (.aload_n 0, 1) := by decide +kernel
theorem dX6_init_32 : decode cX6_init 32 = .ok (.bipush 6, 2) := by decide +kernel
theorem dX6_init_34 : decode cX6_init 34 = .ok (.newarray .int, 2) := by decide +kernel
theorem dX6_init_36 : decode cX6_init 36 = .ok (.putfield 25, 3) := by decide +kernel
theorem dX6_init_39 : decode cX6_init 39 = .ok (.return_, 1) := by decide +kernel
theorem dX6_forget_0 : decode cX6_forget 0 = .ok (.aload_n 0, 1) := by decide +kernel
theorem dX6_forget_1 : decode cX6_forget 1 = .ok (.iconst 0, 1) := by decide +kernel
theorem dX6_forget_2 : decode cX6_forget 2 = .ok (.putfield 18, 3) := by decide +kernel
theorem dX6_forget_5 : decode cX6_forget 5 = .ok (.aload_n 0, 1) := by decide +kernel
theorem dX6_forget_6 : decode cX6_forget 6 = .ok (.iconst 0, 1) := by decide +kernel
theorem dX6_forget_7 : decode cX6_forget 7 = .ok (.putfield 22, 3) := by decide +kernel
theorem dX6_forget_10 : decode cX6_forget 10 = .ok (.return_, 1) := by decide +kernel
theorem dX6_given_0 : decode cX6_given 0 = .ok (.aload_n 0, 1) := by decide +kernel
theorem dX6_given_1 : decode cX6_given 1 = .ok (.getfield 11, 3) := by decide +kernel
theorem dX6_given_4 : decode cX6_given 4 = .ok (.iload_n 1, 1) := by decide +kernel
theorem dX6_given_5 : decode cX6_given 5 = .ok (.bipush 12, 2) := by decide +kernel
theorem dX6_given_7 : decode cX6_given 7 = .ok (.imul, 1) := by decide +kernel
theorem dX6_given_8 : decode cX6_given 8 = .ok (.iload_n 2, 1) := by decide +kernel
theorem dX6_given_9 : decode cX6_given 9 = .ok (.iadd, 1) := by decide +kernel
theorem dX6_given_10 : decode cX6_given 10 = .ok (.iaload, 1) := by decide +kernel
theorem dX6_given_11 : decode cX6_given 11 = .ok (.ireturn, 1) := by decide +kernel
theorem dX6_givenBy_0 : decode cX6_givenBy 0 = .ok (.iconst 0, 1) := by decide +kernel
theorem dX6_givenBy_1 : decode cX6_givenBy 1 = .ok (.istore_n 3, 1) := by decide +kernel
theorem dX6_givenBy_2 : decode cX6_givenBy 2 = .ok (.iconst 0, 1) := by decide +kernel
theorem dX6_givenBy_3 : decode cX6_givenBy 3 = .ok (.istore 4, 2) := by decide +kernel
theorem dX6_givenBy_5 : decode cX6_givenBy 5 = .ok (.iload 4, 2) := by decide +kernel
theorem dX6_givenBy_7 : decode cX6_givenBy 7 = .ok (.bipush 12, 2) := by decide +kernel
theorem dX6_givenBy_9 : decode cX6_givenBy 9 = .ok (.if_icmp .ge 29, 3) := by decide +kernel
theorem dX6_givenBy_12 : decode cX6_givenBy 12 = .ok (.iload_n 2, 1) := by decide +kernel
theorem dX6_givenBy_13 : decode cX6_givenBy 13 = .ok (.iload 4, 2) := by decide +kernel
theorem dX6_givenBy_15 : decode cX6_givenBy 15 = .ok (.ishr, 1) := by decide +kernel
theorem dX6_givenBy_16 : decode cX6_givenBy 16 = .ok (.iconst 1, 1) := by decide +kernel
theorem dX6_givenBy_17 : decode cX6_givenBy 17 = .ok (.iand, 1) := by decide +kernel
theorem dX6_givenBy_18 : decode cX6_givenBy 18 = .ok (.iconst 1, 1) := by decide +kernel
theorem dX6_givenBy_19 : decode cX6_givenBy 19 = .ok (.if_icmp .ne 13, 3) := by decide +kernel
theorem dX6_givenBy_22 : decode cX6_givenBy 22 = .ok (.iload_n 3, 1) := by decide +kernel
theorem dX6_givenBy_23 : decode cX6_givenBy 23 = .ok (.aload_n 0, 1) := by decide +kernel
theorem dX6_givenBy_24 : decode cX6_givenBy 24 = .ok (.iload_n 1, 1) := by decide +kernel
theorem dX6_givenBy_25 : decode cX6_givenBy 25 = .ok (.iload 4, 2) := by decide +kernel
theorem dX6_givenBy_27 : decode cX6_givenBy 27 = .ok (.invokevirtual 28, 3) := by decide +kernel
theorem dX6_givenBy_30 : decode cX6_givenBy 30 = .ok (.iadd, 1) := by decide +kernel
theorem dX6_givenBy_31 : decode cX6_givenBy 31 = .ok (.istore_n 3, 1) := by decide +kernel
theorem dX6_givenBy_32 : decode cX6_givenBy 32 = .ok (.iinc 4 1, 3) := by decide +kernel
theorem dX6_givenBy_35 : decode cX6_givenBy 35 = .ok (.goto (-30), 3) := by decide +kernel
theorem dX6_givenBy_38 : decode cX6_givenBy 38 = .ok (.iload_n 3, 1) := by decide +kernel
theorem dX6_givenBy_39 : decode cX6_givenBy 39 = .ok (.ireturn, 1) := by decide +kernel
theorem dX6_worthTo_0 : decode cX6_worthTo 0 = .ok (.aload_n 0, 1) := by decide +kernel
theorem dX6_worthTo_1 : decode cX6_worthTo 1 = .ok (.iload_n 2, 1) := by decide +kernel
theorem dX6_worthTo_2 : decode cX6_worthTo 2 = .ok (.iload 4, 2) := by decide +kernel
theorem dX6_worthTo_4 : decode cX6_worthTo 4 = .ok (.invokevirtual 28, 3) := by decide +kernel
theorem dX6_worthTo_7 : decode cX6_worthTo 7 = .ok (.iconst 1, 1) := by decide +kernel
theorem dX6_worthTo_8 : decode cX6_worthTo 8 = .ok (.aload_n 1, 1) := by decide +kernel
theorem dX6_worthTo_9 : decode cX6_worthTo 9 = .ok (.getfield 32, 3) := by decide +kernel
theorem dX6_worthTo_12 : decode cX6_worthTo 12 = .ok (.iload 4, 2) := by decide +kernel
theorem dX6_worthTo_14 : decode cX6_worthTo 14 = .ok (.iaload, 1) := by decide +kernel
theorem dX6_worthTo_15 : decode cX6_worthTo 15 = .ok (.aload_n 1, 1) := by decide +kernel
theorem dX6_worthTo_16 : decode cX6_worthTo 16 = .ok (.getfield 37, 3) := by decide +kernel
theorem dX6_worthTo_19 : decode cX6_worthTo 19 = .ok (.iload_n 3, 1) := by decide +kernel
theorem dX6_worthTo_20 : decode cX6_worthTo 20 = .ok (.iaload, 1) := by decide +kernel
theorem dX6_worthTo_21 : decode cX6_worthTo 21 = .ok (.iand, 1) := by decide +kernel
theorem dX6_worthTo_22 : decode cX6_worthTo 22 = .ok (.invokestatic 40, 3) := by decide +kernel
theorem dX6_worthTo_25 : decode cX6_worthTo 25 = .ok (.iadd, 1) := by decide +kernel
theorem dX6_worthTo_26 : decode cX6_worthTo 26 = .ok (.imul, 1) := by decide +kernel
theorem dX6_worthTo_27 : decode cX6_worthTo 27 = .ok (.ireturn, 1) := by decide +kernel
theorem dX6_gainOf_0 : decode cX6_gainOf 0 = .ok (.aload_n 2, 1) := by decide +kernel
theorem dX6_gainOf_1 : decode cX6_gainOf 1 = .ok (.getfield 46, 3) := by decide +kernel
theorem dX6_gainOf_4 : decode cX6_gainOf 4 = .ok (.iload 4, 2) := by decide +kernel
theorem dX6_gainOf_6 : decode cX6_gainOf 6 = .ok (.iaload, 1) := by decide +kernel
theorem dX6_gainOf_7 : decode cX6_gainOf 7 = .ok (.istore 6, 2) := by decide +kernel
theorem dX6_gainOf_9 : decode cX6_gainOf 9 = .ok (.aload_n 2, 1) := by decide +kernel
theorem dX6_gainOf_10 : decode cX6_gainOf 10 = .ok (.getfield 46, 3) := by decide +kernel
theorem dX6_gainOf_13 : decode cX6_gainOf 13 = .ok (.iload 5, 2) := by decide +kernel
theorem dX6_gainOf_15 : decode cX6_gainOf 15 = .ok (.iaload, 1) := by decide +kernel
theorem dX6_gainOf_16 : decode cX6_gainOf 16 = .ok (.istore 7, 2) := by decide +kernel
theorem dX6_gainOf_18 : decode cX6_gainOf 18 = .ok (.aload_n 0, 1) := by decide +kernel
theorem dX6_gainOf_19 : decode cX6_gainOf 19 = .ok (.aload_n 1, 1) := by decide +kernel
theorem dX6_gainOf_20 : decode cX6_gainOf 20 = .ok (.iload_n 3, 1) := by decide +kernel
theorem dX6_gainOf_21 : decode cX6_gainOf 21 = .ok (.iload 6, 2) := by decide +kernel
theorem dX6_gainOf_23 : decode cX6_gainOf 23 = .ok (.iload 5, 2) := by decide +kernel
theorem dX6_gainOf_25 : decode cX6_gainOf 25 = .ok (.invokevirtual 51, 3) := by decide +kernel
theorem dX6_gainOf_28 : decode cX6_gainOf 28 = .ok (.aload_n 0, 1) := by decide +kernel
theorem dX6_gainOf_29 : decode cX6_gainOf 29 = .ok (.aload_n 1, 1) := by decide +kernel
theorem dX6_gainOf_30 : decode cX6_gainOf 30 = .ok (.iload_n 3, 1) := by decide +kernel
theorem dX6_gainOf_31 : decode cX6_gainOf 31 = .ok (.iload 6, 2) := by decide +kernel
theorem dX6_gainOf_33 : decode cX6_gainOf 33 = .ok (.iload 4, 2) := by decide +kernel
theorem dX6_gainOf_35 : decode cX6_gainOf 35 = .ok (.invokevirtual 51, 3) := by decide +kernel
theorem dX6_gainOf_38 : decode cX6_gainOf 38 = .ok (.isub, 1) := by decide +kernel
theorem dX6_gainOf_39 : decode cX6_gainOf 39 = .ok (.istore 8, 2) := by decide +kernel
theorem dX6_gainOf_41 : decode cX6_gainOf 41 = .ok (.aload_n 0, 1) := by decide +kernel
theorem dX6_gainOf_42 : decode cX6_gainOf 42 = .ok (.aload_n 1, 1) := by decide +kernel
theorem dX6_gainOf_43 : decode cX6_gainOf 43 = .ok (.iload_n 3, 1) := by decide +kernel
theorem dX6_gainOf_44 : decode cX6_gainOf 44 = .ok (.iload 7, 2) := by decide +kernel
theorem dX6_gainOf_46 : decode cX6_gainOf 46 = .ok (.iload 4, 2) := by decide +kernel
theorem dX6_gainOf_48 : decode cX6_gainOf 48 = .ok (.invokevirtual 51, 3) := by decide +kernel
theorem dX6_gainOf_51 : decode cX6_gainOf 51 = .ok (.aload_n 0, 1) := by decide +kernel
theorem dX6_gainOf_52 : decode cX6_gainOf 52 = .ok (.aload_n 1, 1) := by decide +kernel
theorem dX6_gainOf_53 : decode cX6_gainOf 53 = .ok (.iload_n 3, 1) := by decide +kernel
theorem dX6_gainOf_54 : decode cX6_gainOf 54 = .ok (.iload 7, 2) := by decide +kernel
theorem dX6_gainOf_56 : decode cX6_gainOf 56 = .ok (.iload 5, 2) := by decide +kernel
theorem dX6_gainOf_58 : decode cX6_gainOf 58 = .ok (.invokevirtual 51, 3) := by decide +kernel
theorem dX6_gainOf_61 : decode cX6_gainOf 61 = .ok (.isub, 1) := by decide +kernel
theorem dX6_gainOf_62 : decode cX6_gainOf 62 = .ok (.istore 9, 2) := by decide +kernel
theorem dX6_gainOf_64 : decode cX6_gainOf 64 = .ok (.iload 8, 2) := by decide +kernel
theorem dX6_gainOf_66 : decode cX6_gainOf 66 = .ok (.ifCond .le 16, 3) := by decide +kernel
theorem dX6_gainOf_69 : decode cX6_gainOf 69 = .ok (.iload 9, 2) := by decide +kernel
theorem dX6_gainOf_71 : decode cX6_gainOf 71 = .ok (.ifCond .le 11, 3) := by decide +kernel
theorem dX6_gainOf_74 : decode cX6_gainOf 74 = .ok (.iload 8, 2) := by decide +kernel
theorem dX6_gainOf_76 : decode cX6_gainOf 76 = .ok (.iload 9, 2) := by decide +kernel
theorem dX6_gainOf_78 : decode cX6_gainOf 78 = .ok (.iadd, 1) := by decide +kernel
theorem dX6_gainOf_79 : decode cX6_gainOf 79 = .ok (.goto 4, 3) := by decide +kernel
theorem dX6_gainOf_82 : decode cX6_gainOf 82 = .ok (.iconst 0, 1) := by decide +kernel
theorem dX6_gainOf_83 : decode cX6_gainOf 83 = .ok (.ireturn, 1) := by decide +kernel
theorem dX6_yearOf_0 : decode cX6_yearOf 0 = .ok (.iconst 0, 1) := by decide +kernel
theorem dX6_yearOf_1 : decode cX6_yearOf 1 = .ok (.istore_n 3, 1) := by decide +kernel
theorem dX6_yearOf_2 : decode cX6_yearOf 2 = .ok (.iload_n 3, 1) := by decide +kernel
theorem dX6_yearOf_3 : decode cX6_yearOf 3 = .ok (.aload_n 0, 1) := by decide +kernel
theorem dX6_yearOf_4 : decode cX6_yearOf 4 = .ok (.getfield 18, 3) := by decide +kernel
theorem dX6_yearOf_7 : decode cX6_yearOf 7 = .ok (.if_icmp .ge 27, 3) := by decide +kernel
theorem dX6_yearOf_10 : decode cX6_yearOf 10 = .ok (.iload_n 3, 1) := by decide +kernel
theorem dX6_yearOf_11 : decode cX6_yearOf 11 = .ok (.bipush 16, 2) := by decide +kernel
theorem dX6_yearOf_13 : decode cX6_yearOf 13 = .ok (.if_icmp .ge 21, 3) := by decide +kernel
theorem dX6_yearOf_16 : decode cX6_yearOf 16 = .ok (.aload_n 0, 1) := by decide +kernel
theorem dX6_yearOf_17 : decode cX6_yearOf 17 = .ok (.getfield 15, 3) := by decide +kernel
theorem dX6_yearOf_20 : decode cX6_yearOf 20 = .ok (.iload_n 3, 1) := by decide +kernel
theorem dX6_yearOf_21 : decode cX6_yearOf 21 = .ok (.iaload, 1) := by decide +kernel
theorem dX6_yearOf_22 : decode cX6_yearOf 22 = .ok (.iload_n 2, 1) := by decide +kernel
theorem dX6_yearOf_23 : decode cX6_yearOf 23 = .ok (.if_icmp .ne 5, 3) := by decide +kernel
theorem dX6_yearOf_26 : decode cX6_yearOf 26 = .ok (.iload_n 3, 1) := by decide +kernel
theorem dX6_yearOf_27 : decode cX6_yearOf 27 = .ok (.ireturn, 1) := by decide +kernel
theorem dX6_yearOf_28 : decode cX6_yearOf 28 = .ok (.iinc 3 1, 3) := by decide +kernel
theorem dX6_yearOf_31 : decode cX6_yearOf 31 = .ok (.goto (-29), 3) := by decide +kernel
theorem dX6_yearOf_34 : decode cX6_yearOf 34 = .ok (.aload_n 0, 1) := by decide +kernel
theorem dX6_yearOf_35 : decode cX6_yearOf 35 = .ok (.getfield 22, 3) := by decide +kernel
theorem dX6_yearOf_38 : decode cX6_yearOf 38 = .ok (.istore_n 3, 1) := by decide +kernel
theorem dX6_yearOf_39 : decode cX6_yearOf 39 = .ok (.aload_n 0, 1) := by decide +kernel
theorem dX6_yearOf_40 : decode cX6_yearOf 40 = .ok (.aload_n 0, 1) := by decide +kernel
theorem dX6_yearOf_41 : decode cX6_yearOf 41 = .ok (.getfield 22, 3) := by decide +kernel
theorem dX6_yearOf_44 : decode cX6_yearOf 44 = .ok (.iconst 1, 1) := by decide +kernel
theorem dX6_yearOf_45 : decode cX6_yearOf 45 = .ok (.iadd, 1) := by decide +kernel
theorem dX6_yearOf_46 : decode cX6_yearOf 46 = .ok (.bipush 16, 2) := by decide +kernel
theorem dX6_yearOf_48 : decode cX6_yearOf 48 = .ok (.irem, 1) := by decide +kernel
theorem dX6_yearOf_49 : decode cX6_yearOf 49 = .ok (.putfield 22, 3) := by decide +kernel
theorem dX6_yearOf_52 : decode cX6_yearOf 52 = .ok (.aload_n 0, 1) := by decide +kernel
theorem dX6_yearOf_53 : decode cX6_yearOf 53 = .ok (.aload_n 0, 1) := by decide +kernel
theorem dX6_yearOf_54 : decode cX6_yearOf 54 = .ok (.getfield 18, 3) := by decide +kernel
theorem dX6_yearOf_57 : decode cX6_yearOf 57 = .ok (.iconst 1, 1) := by decide +kernel
theorem dX6_yearOf_58 : decode cX6_yearOf 58 = .ok (.iadd, 1) := by decide +kernel
theorem dX6_yearOf_59 : decode cX6_yearOf 59 = .ok (.bipush 16, 2) := by decide +kernel
theorem dX6_yearOf_61 : decode cX6_yearOf 61 = .ok (.invokestatic 55, 3) := by decide +kernel
theorem dX6_yearOf_64 : decode cX6_yearOf 64 = .ok (.putfield 18, 3) := by decide +kernel
theorem dX6_yearOf_67 : decode cX6_yearOf 67 = .ok (.aload_n 0, 1) := by decide +kernel
theorem dX6_yearOf_68 : decode cX6_yearOf 68 = .ok (.getfield 15, 3) := by decide +kernel
theorem dX6_yearOf_71 : decode cX6_yearOf 71 = .ok (.iload_n 3, 1) := by decide +kernel
theorem dX6_yearOf_72 : decode cX6_yearOf 72 = .ok (.iload_n 2, 1) := by decide +kernel
theorem dX6_yearOf_73 : decode cX6_yearOf 73 = .ok (.iastore, 1) := by decide +kernel
theorem dX6_yearOf_74 : decode cX6_yearOf 74 = .ok (.aload_n 0, 1) := by decide +kernel
theorem dX6_yearOf_75 : decode cX6_yearOf 75 = .ok (.aload_n 1, 1) := by decide +kernel
theorem dX6_yearOf_76 : decode cX6_yearOf 76 = .ok (.iload_n 2, 1) := by decide +kernel
theorem dX6_yearOf_77 : decode cX6_yearOf 77 = .ok (.iconst 0, 1) := by decide +kernel
theorem dX6_yearOf_78 : decode cX6_yearOf 78 = .ok (.iconst 0, 1) := by decide +kernel
theorem dX6_yearOf_79 : decode cX6_yearOf 79 = .ok (.iload_n 3, 1) := by decide +kernel
theorem dX6_yearOf_80 : decode cX6_yearOf 80 = .ok (.invokevirtual 60, 3) := by decide +kernel
theorem dX6_yearOf_83 : decode cX6_yearOf 83 = .ok (.iload_n 3, 1) := by decide +kernel
theorem dX6_yearOf_84 : decode cX6_yearOf 84 = .ok (.ireturn, 1) := by decide +kernel
theorem dX6_cloudedYear_0 : decode cX6_cloudedYear 0 = .ok (.aload_n 0, 1) := by decide +kernel
theorem dX6_cloudedYear_1 : decode cX6_cloudedYear 1 = .ok (.aload_n 1, 1) := by decide +kernel
theorem dX6_cloudedYear_2 : decode cX6_cloudedYear 2 = .ok (.iload_n 2, 1) := by decide +kernel
theorem dX6_cloudedYear_3 : decode cX6_cloudedYear 3 = .ok (.iload_n 3, 1) := by decide +kernel
theorem dX6_cloudedYear_4 : decode cX6_cloudedYear 4 = .ok (.aload_n 1, 1) := by decide +kernel
theorem dX6_cloudedYear_5 : decode cX6_cloudedYear 5 = .ok (.getfield 64, 3) := by decide +kernel
theorem dX6_cloudedYear_8 : decode cX6_cloudedYear 8 = .ok (.getfield 70, 3) := by decide +kernel
theorem dX6_cloudedYear_11 : decode cX6_cloudedYear 11 = .ok (.bipush 16, 2) := by decide +kernel
theorem dX6_cloudedYear_13 : decode cX6_cloudedYear 13 = .ok (.invokevirtual 60, 3) := by decide +kernel
theorem dX6_cloudedYear_16 : decode cX6_cloudedYear 16 = .ok (.bipush 16, 2) := by decide +kernel
theorem dX6_cloudedYear_18 : decode cX6_cloudedYear 18 = .ok (.ireturn, 1) := by decide +kernel
theorem dX6_measure_0 : decode cX6_measure 0 = .ok (.iconst 0, 1) := by decide +kernel
theorem dX6_measure_1 : decode cX6_measure 1 = .ok (.istore 6, 2) := by decide +kernel
theorem dX6_measure_3 : decode cX6_measure 3 = .ok (.iload 6, 2) := by decide +kernel
theorem dX6_measure_5 : decode cX6_measure 5 = .ok (.bipush 12, 2) := by decide +kernel
theorem dX6_measure_7 : decode cX6_measure 7 = .ok (.if_icmp .ge 23, 3) := by decide +kernel
theorem dX6_measure_10 : decode cX6_measure 10 = .ok (.aload_n 0, 1) := by decide +kernel
theorem dX6_measure_11 : decode cX6_measure 11 = .ok (.getfield 11, 3) := by decide +kernel
theorem dX6_measure_14 : decode cX6_measure 14 = .ok (.iload 5, 2) := by decide +kernel
theorem dX6_measure_16 : decode cX6_measure 16 = .ok (.bipush 12, 2) := by decide +kernel
theorem dX6_measure_18 : decode cX6_measure 18 = .ok (.imul, 1) := by decide +kernel
theorem dX6_measure_19 : decode cX6_measure 19 = .ok (.iload 6, 2) := by decide +kernel
theorem dX6_measure_21 : decode cX6_measure 21 = .ok (.iadd, 1) := by decide +kernel
theorem dX6_measure_22 : decode cX6_measure 22 = .ok (.iconst 0, 1) := by decide +kernel
theorem dX6_measure_23 : decode cX6_measure 23 = .ok (.iastore, 1) := by decide +kernel
theorem dX6_measure_24 : decode cX6_measure 24 = .ok (.iinc 6 1, 3) := by decide +kernel
theorem dX6_measure_27 : decode cX6_measure 27 = .ok (.goto (-24), 3) := by decide +kernel
theorem dX6_measure_30 : decode cX6_measure 30 = .ok (.iload_n 3, 1) := by decide +kernel
theorem dX6_measure_31 : decode cX6_measure 31 = .ok (.i2l, 1) := by decide +kernel
theorem dX6_measure_32 : decode cX6_measure 32 = .ok (.lstore 6, 2) := by decide +kernel
theorem dX6_measure_34 : decode cX6_measure 34 = .ok (.iconst 0, 1) := by decide +kernel
theorem dX6_measure_35 : decode cX6_measure 35 = .ok (.istore 8, 2) := by decide +kernel
theorem dX6_measure_37 : decode cX6_measure 37 = .ok (.iload 8, 2) := by decide +kernel
theorem dX6_measure_39 : decode cX6_measure 39 = .ok (.sipush 1248, 3) := by decide +kernel
theorem dX6_measure_42 : decode cX6_measure 42 = .ok (.if_icmp .ge 56, 3) := by decide +kernel
theorem dX6_measure_45 : decode cX6_measure 45 = .ok (.lload 6, 2) := by decide +kernel
theorem dX6_measure_47 : decode cX6_measure 47 = .ok (.ldc2_w 73, 3) := by decide +kernel
theorem dX6_measure_50 : decode cX6_measure 50 = .ok (.lmul, 1) := by decide +kernel
theorem dX6_measure_51 : decode cX6_measure 51 = .ok (.ldc2_w 75, 3) := by decide +kernel
theorem dX6_measure_54 : decode cX6_measure 54 = .ok (.ladd, 1) := by decide +kernel
theorem dX6_measure_55 : decode cX6_measure 55 = .ok (.ldc2_w 77, 3) := by decide +kernel
theorem dX6_measure_58 : decode cX6_measure 58 = .ok (.lrem, 1) := by decide +kernel
theorem dX6_measure_59 : decode cX6_measure 59 = .ok (.lstore 6, 2) := by decide +kernel
theorem dX6_measure_61 : decode cX6_measure 61 = .ok (.lload 6, 2) := by decide +kernel
theorem dX6_measure_63 : decode cX6_measure 63 = .ok (.ldc2_w 79, 3) := by decide +kernel
theorem dX6_measure_66 : decode cX6_measure 66 = .ok (.ldiv, 1) := by decide +kernel
theorem dX6_measure_67 : decode cX6_measure 67 = .ok (.ldc2_w 81, 3) := by decide +kernel
theorem dX6_measure_70 : decode cX6_measure 70 = .ok (.lrem, 1) := by decide +kernel
theorem dX6_measure_71 : decode cX6_measure 71 = .ok (.iload 4, 2) := by decide +kernel
theorem dX6_measure_73 : decode cX6_measure 73 = .ok (.i2l, 1) := by decide +kernel
theorem dX6_measure_74 : decode cX6_measure 74 = .ok (.lcmp, 1) := by decide +kernel
theorem dX6_measure_75 : decode cX6_measure 75 = .ok (.ifCond .lt 17, 3) := by decide +kernel
theorem dX6_measure_78 : decode cX6_measure 78 = .ok (.aload_n 1, 1) := by decide +kernel
theorem dX6_measure_79 : decode cX6_measure 79 = .ok (.iload 8, 2) := by decide +kernel
theorem dX6_measure_81 : decode cX6_measure 81 = .ok (.invokevirtual 83, 3) := by decide +kernel
theorem dX6_measure_84 : decode cX6_measure 84 = .ok (.aload_n 0, 1) := by decide +kernel
theorem dX6_measure_85 : decode cX6_measure 85 = .ok (.aload_n 1, 1) := by decide +kernel
theorem dX6_measure_86 : decode cX6_measure 86 = .ok (.iload_n 2, 1) := by decide +kernel
theorem dX6_measure_87 : decode cX6_measure 87 = .ok (.iload 5, 2) := by decide +kernel
theorem dX6_measure_89 : decode cX6_measure 89 = .ok (.invokevirtual 87, 3) := by decide +kernel
theorem dX6_measure_92 : decode cX6_measure 92 = .ok (.iinc 8 1, 3) := by decide +kernel
theorem dX6_measure_95 : decode cX6_measure 95 = .ok (.goto (-58), 3) := by decide +kernel
theorem dX6_measure_98 : decode cX6_measure 98 = .ok (.return_, 1) := by decide +kernel
theorem dX6_shareOut_0 : decode cX6_shareOut 0 = .ok (.iload_n 2, 1) := by decide +kernel
theorem dX6_shareOut_1 : decode cX6_shareOut 1 = .ok (.istore 4, 2) := by decide +kernel
theorem dX6_shareOut_3 : decode cX6_shareOut 3 = .ok (.iconst 0, 1) := by decide +kernel
theorem dX6_shareOut_4 : decode cX6_shareOut 4 = .ok (.istore 5, 2) := by decide +kernel
theorem dX6_shareOut_6 : decode cX6_shareOut 6 = .ok (.iload 5, 2) := by decide +kernel
theorem dX6_shareOut_8 : decode cX6_shareOut 8 = .ok (.bipush 12, 2) := by decide +kernel
theorem dX6_shareOut_10 : decode cX6_shareOut 10 = .ok (.if_icmp .ge 125, 3) := by decide +kernel
theorem dX6_shareOut_13 : decode cX6_shareOut 13 = .ok (.iload 4, 2) := by decide +kernel
theorem dX6_shareOut_15 : decode cX6_shareOut 15 = .ok (.iload 5, 2) := by decide +kernel
theorem dX6_shareOut_17 : decode cX6_shareOut 17 = .ok (.ishr, 1) := by decide +kernel
theorem dX6_shareOut_18 : decode cX6_shareOut 18 = .ok (.iconst 1, 1) := by decide +kernel
theorem dX6_shareOut_19 : decode cX6_shareOut 19 = .ok (.iand, 1) := by decide +kernel
theorem dX6_shareOut_20 : decode cX6_shareOut 20 = .ok (.iconst 1, 1) := by decide +kernel
theorem dX6_shareOut_21 : decode cX6_shareOut 21 = .ok (.if_icmp .ne 108, 3) := by decide +kernel
theorem dX6_shareOut_24 : decode cX6_shareOut 24 = .ok (.aload_n 1, 1) := by decide +kernel
theorem dX6_shareOut_25 : decode cX6_shareOut 25 = .ok (.getfield 91, 3) := by decide +kernel
theorem dX6_shareOut_28 : decode cX6_shareOut 28 = .ok (.iload 5, 2) := by decide +kernel
theorem dX6_shareOut_30 : decode cX6_shareOut 30 = .ok (.iaload, 1) := by decide +kernel
theorem dX6_shareOut_31 : decode cX6_shareOut 31 = .ok (.iconst (-1), 1) := by decide +kernel
theorem dX6_shareOut_32 : decode cX6_shareOut 32 = .ok (.if_icmp .eq 97, 3) := by decide +kernel
theorem dX6_shareOut_35 : decode cX6_shareOut 35 = .ok (.aload_n 1, 1) := by decide +kernel
theorem dX6_shareOut_36 : decode cX6_shareOut 36 = .ok (.aload_n 1, 1) := by decide +kernel
theorem dX6_shareOut_37 : decode cX6_shareOut 37 = .ok (.getfield 91, 3) := by decide +kernel
theorem dX6_shareOut_40 : decode cX6_shareOut 40 = .ok (.iload 5, 2) := by decide +kernel
theorem dX6_shareOut_42 : decode cX6_shareOut 42 = .ok (.iaload, 1) := by decide +kernel
theorem dX6_shareOut_43 : decode cX6_shareOut 43 = .ok (.iload_n 2, 1) := by decide +kernel
theorem dX6_shareOut_44 : decode cX6_shareOut 44 = .ok (.invokevirtual 94, 3) := by decide +kernel
theorem dX6_shareOut_47 : decode cX6_shareOut 47 = .ok (.iconst 1, 1) := by decide +kernel
theorem dX6_shareOut_48 : decode cX6_shareOut 48 = .ok (.iload 5, 2) := by decide +kernel
theorem dX6_shareOut_50 : decode cX6_shareOut 50 = .ok (.ishl, 1) := by decide +kernel
theorem dX6_shareOut_51 : decode cX6_shareOut 51 = .ok (.ior, 1) := by decide +kernel
theorem dX6_shareOut_52 : decode cX6_shareOut 52 = .ok (.istore 6, 2) := by decide +kernel
theorem dX6_shareOut_54 : decode cX6_shareOut 54 = .ok (.aload_n 1, 1) := by decide +kernel
theorem dX6_shareOut_55 : decode cX6_shareOut 55 = .ok (.getfield 64, 3) := by decide +kernel
theorem dX6_shareOut_58 : decode cX6_shareOut 58 = .ok (.getfield 97, 3) := by decide +kernel
theorem dX6_shareOut_61 : decode cX6_shareOut 61 = .ok (.aload_n 1, 1) := by decide +kernel
theorem dX6_shareOut_62 : decode cX6_shareOut 62 = .ok (.getfield 91, 3) := by decide +kernel
theorem dX6_shareOut_65 : decode cX6_shareOut 65 = .ok (.iload 5, 2) := by decide +kernel
theorem dX6_shareOut_67 : decode cX6_shareOut 67 = .ok (.iaload, 1) := by decide +kernel
theorem dX6_shareOut_68 : decode cX6_shareOut 68 = .ok (.iload 6, 2) := by decide +kernel
theorem dX6_shareOut_70 : decode cX6_shareOut 70 = .ok (.invokestatic 40, 3) := by decide +kernel
theorem dX6_shareOut_73 : decode cX6_shareOut 73 = .ok (.invokestatic 101, 3) := by decide +kernel
theorem dX6_shareOut_76 : decode cX6_shareOut 76 = .ok (.istore 7, 2) := by decide +kernel
theorem dX6_shareOut_78 : decode cX6_shareOut 78 = .ok (.iload 5, 2) := by decide +kernel
theorem dX6_shareOut_80 : decode cX6_shareOut 80 = .ok (.istore 8, 2) := by decide +kernel
theorem dX6_shareOut_82 : decode cX6_shareOut 82 = .ok (.iload 8, 2) := by decide +kernel
theorem dX6_shareOut_84 : decode cX6_shareOut 84 = .ok (.bipush 12, 2) := by decide +kernel
theorem dX6_shareOut_86 : decode cX6_shareOut 86 = .ok (.if_icmp .ge 34, 3) := by decide +kernel
theorem dX6_shareOut_89 : decode cX6_shareOut 89 = .ok (.aload_n 0, 1) := by decide +kernel
theorem dX6_shareOut_90 : decode cX6_shareOut 90 = .ok (.getfield 11, 3) := by decide +kernel
theorem dX6_shareOut_93 : decode cX6_shareOut 93 = .ok (.iload_n 3, 1) := by decide +kernel
theorem dX6_shareOut_94 : decode cX6_shareOut 94 = .ok (.bipush 12, 2) := by decide +kernel
theorem dX6_shareOut_96 : decode cX6_shareOut 96 = .ok (.imul, 1) := by decide +kernel
theorem dX6_shareOut_97 : decode cX6_shareOut 97 = .ok (.iload 8, 2) := by decide +kernel
theorem dX6_shareOut_99 : decode cX6_shareOut 99 = .ok (.iadd, 1) := by decide +kernel
theorem dX6_shareOut_100 : decode cX6_shareOut 100 = .ok (.dup2, 1) := by decide +kernel
theorem dX6_shareOut_101 : decode cX6_shareOut 101 = .ok (.iaload, 1) := by decide +kernel
theorem dX6_shareOut_102 : decode cX6_shareOut 102 = .ok (.iload 6, 2) := by decide +kernel
theorem dX6_shareOut_104 : decode cX6_shareOut 104 = .ok (.iload 8, 2) := by decide +kernel
theorem dX6_shareOut_106 : decode cX6_shareOut 106 = .ok (.ishr, 1) := by decide +kernel
theorem dX6_shareOut_107 : decode cX6_shareOut 107 = .ok (.iconst 1, 1) := by decide +kernel
theorem dX6_shareOut_108 : decode cX6_shareOut 108 = .ok (.iand, 1) := by decide +kernel
theorem dX6_shareOut_109 : decode cX6_shareOut 109 = .ok (.iload 7, 2) := by decide +kernel
theorem dX6_shareOut_111 : decode cX6_shareOut 111 = .ok (.imul, 1) := by decide +kernel
theorem dX6_shareOut_112 : decode cX6_shareOut 112 = .ok (.iadd, 1) := by decide +kernel
theorem dX6_shareOut_113 : decode cX6_shareOut 113 = .ok (.iastore, 1) := by decide +kernel
theorem dX6_shareOut_114 : decode cX6_shareOut 114 = .ok (.iinc 8 1, 3) := by decide +kernel
theorem dX6_shareOut_117 : decode cX6_shareOut 117 = .ok (.goto (-35), 3) := by decide +kernel
theorem dX6_shareOut_120 : decode cX6_shareOut 120 = .ok (.iload 4, 2) := by decide +kernel
theorem dX6_shareOut_122 : decode cX6_shareOut 122 = .ok (.iload 6, 2) := by decide +kernel
theorem dX6_shareOut_124 : decode cX6_shareOut 124 = .ok (.iconst (-1), 1) := by decide +kernel
theorem dX6_shareOut_125 : decode cX6_shareOut 125 = .ok (.ixor, 1) := by decide +kernel
theorem dX6_shareOut_126 : decode cX6_shareOut 126 = .ok (.iand, 1) := by decide +kernel
theorem dX6_shareOut_127 : decode cX6_shareOut 127 = .ok (.istore 4, 2) := by decide +kernel
theorem dX6_shareOut_129 : decode cX6_shareOut 129 = .ok (.iinc 5 1, 3) := by decide +kernel
theorem dX6_shareOut_132 : decode cX6_shareOut 132 = .ok (.goto (-126), 3) := by decide +kernel
theorem dX6_shareOut_135 : decode cX6_shareOut 135 = .ok (.return_, 1) := by decide +kernel
theorem dX6_partOf_0 : decode cX6_partOf 0 = .ok (.aload_n 0, 1) := by decide +kernel
theorem dX6_partOf_1 : decode cX6_partOf 1 = .ok (.iload_n 1, 1) := by decide +kernel
theorem dX6_partOf_2 : decode cX6_partOf 2 = .ok (.iload_n 2, 1) := by decide +kernel
theorem dX6_partOf_3 : decode cX6_partOf 3 = .ok (.invokevirtual 105, 3) := by decide +kernel
theorem dX6_partOf_6 : decode cX6_partOf 6 = .ok (.aload_n 0, 1) := by decide +kernel
theorem dX6_partOf_7 : decode cX6_partOf 7 = .ok (.sipush 138, 3) := by decide +kernel
theorem dX6_partOf_10 : decode cX6_partOf 10 = .ok (.invokevirtual 113, 3) := by decide +kernel
theorem dX6_partOf_13 : decode cX6_partOf 13 = .ok (.iconst 0, 1) := by decide +kernel
theorem dX6_partOf_14 : decode cX6_partOf 14 = .ok (.invokestatic 116, 3) := by decide +kernel
theorem dX6_partOf_17 : decode cX6_partOf 17 = .ok (.sipush 999, 3) := by decide +kernel
theorem dX6_partOf_20 : decode cX6_partOf 20 = .ok (.invokestatic 55, 3) := by decide +kernel
theorem dX6_partOf_23 : decode cX6_partOf 23 = .ok (.istore_n 3, 1) := by decide +kernel
theorem dX6_partOf_24 : decode cX6_partOf 24 = .ok (.iload_n 2, 1) := by decide +kernel
theorem dX6_partOf_25 : decode cX6_partOf 25 = .ok (.ifCond .le 9, 3) := by decide +kernel
theorem dX6_partOf_28 : decode cX6_partOf 28 = .ok (.iload_n 3, 1) := by decide +kernel
theorem dX6_partOf_29 : decode cX6_partOf 29 = .ok (.iload_n 2, 1) := by decide +kernel
theorem dX6_partOf_30 : decode cX6_partOf 30 = .ok (.idiv, 1) := by decide +kernel
theorem dX6_partOf_31 : decode cX6_partOf 31 = .ok (.goto 4, 3) := by decide +kernel
theorem dX6_partOf_34 : decode cX6_partOf 34 = .ok (.iconst 0, 1) := by decide +kernel
theorem dX6_partOf_35 : decode cX6_partOf 35 = .ok (.ireturn, 1) := by decide +kernel
theorem dX6_fall_0 : decode cX6_fall 0 = .ok (.aload_n 0, 1) := by decide +kernel
theorem dX6_fall_1 : decode cX6_fall 1 = .ok (.getfield 25, 3) := by decide +kernel
theorem dX6_fall_4 : decode cX6_fall 4 = .ok (.iconst 0, 1) := by decide +kernel
theorem dX6_fall_5 : decode cX6_fall 5 = .ok (.invokestatic 119, 3) := by decide +kernel
theorem dX6_fall_8 : decode cX6_fall 8 = .ok (.aload_n 2, 1) := by decide +kernel
theorem dX6_fall_9 : decode cX6_fall 9 = .ok (.invokevirtual 125, 3) := by decide +kernel
theorem dX6_fall_12 : decode cX6_fall 12 = .ok (.istore_n 3, 1) := by decide +kernel
theorem dX6_fall_13 : decode cX6_fall 13 = .ok (.iconst 1, 1) := by decide +kernel
theorem dX6_fall_14 : decode cX6_fall 14 = .ok (.istore 4, 2) := by decide +kernel
theorem dX6_fall_16 : decode cX6_fall 16 = .ok (.iload 4, 2) := by decide +kernel
theorem dX6_fall_18 : decode cX6_fall 18 = .ok (.bipush 6, 2) := by decide +kernel
theorem dX6_fall_20 : decode cX6_fall 20 = .ok (.if_icmp .gt 107, 3) := by decide +kernel
theorem dX6_fall_23 : decode cX6_fall 23 = .ok (.aload_n 0, 1) := by decide +kernel
theorem dX6_fall_24 : decode cX6_fall 24 = .ok (.aload_n 1, 1) := by decide +kernel
theorem dX6_fall_25 : decode cX6_fall 25 = .ok (.iload_n 3, 1) := by decide +kernel
theorem dX6_fall_26 : decode cX6_fall 26 = .ok (.invokevirtual 129, 3) := by decide +kernel
theorem dX6_fall_29 : decode cX6_fall 29 = .ok (.istore 5, 2) := by decide +kernel
theorem dX6_fall_31 : decode cX6_fall 31 = .ok (.iconst 0, 1) := by decide +kernel
theorem dX6_fall_32 : decode cX6_fall 32 = .ok (.istore 6, 2) := by decide +kernel
theorem dX6_fall_34 : decode cX6_fall 34 = .ok (.iconst 0, 1) := by decide +kernel
theorem dX6_fall_35 : decode cX6_fall 35 = .ok (.istore 7, 2) := by decide +kernel
theorem dX6_fall_37 : decode cX6_fall 37 = .ok (.iload 7, 2) := by decide +kernel
theorem dX6_fall_39 : decode cX6_fall 39 = .ok (.aload_n 1, 1) := by decide +kernel
theorem dX6_fall_40 : decode cX6_fall 40 = .ok (.getfield 64, 3) := by decide +kernel
theorem dX6_fall_43 : decode cX6_fall 43 = .ok (.getfield 133, 3) := by decide +kernel
theorem dX6_fall_46 : decode cX6_fall 46 = .ok (.if_icmp .ge 68, 3) := by decide +kernel
theorem dX6_fall_49 : decode cX6_fall 49 = .ok (.iload 7, 2) := by decide +kernel
theorem dX6_fall_51 : decode cX6_fall 51 = .ok (.bipush 6, 2) := by decide +kernel
theorem dX6_fall_53 : decode cX6_fall 53 = .ok (.if_icmp .ge 61, 3) := by decide +kernel
theorem dX6_fall_56 : decode cX6_fall 56 = .ok (.aload_n 2, 1) := by decide +kernel
theorem dX6_fall_57 : decode cX6_fall 57 = .ok (.iload 7, 2) := by decide +kernel
theorem dX6_fall_59 : decode cX6_fall 59 = .ok (.invokevirtual 136, 3) := by decide +kernel
theorem dX6_fall_62 : decode cX6_fall 62 = .ok (.iload_n 3, 1) := by decide +kernel
theorem dX6_fall_63 : decode cX6_fall 63 = .ok (.iand, 1) := by decide +kernel
theorem dX6_fall_64 : decode cX6_fall 64 = .ok (.istore 8, 2) := by decide +kernel
theorem dX6_fall_66 : decode cX6_fall 66 = .ok (.iload 8, 2) := by decide +kernel
theorem dX6_fall_68 : decode cX6_fall 68 = .ok (.ifCond .eq 40, 3) := by decide +kernel
theorem dX6_fall_71 : decode cX6_fall 71 = .ok (.aload_n 0, 1) := by decide +kernel
theorem dX6_fall_72 : decode cX6_fall 72 = .ok (.iload 5, 2) := by decide +kernel
theorem dX6_fall_74 : decode cX6_fall 74 = .ok (.iload 8, 2) := by decide +kernel
theorem dX6_fall_76 : decode cX6_fall 76 = .ok (.invokevirtual 139, 3) := by decide +kernel
theorem dX6_fall_79 : decode cX6_fall 79 = .ok (.aload_n 1, 1) := by decide +kernel
theorem dX6_fall_80 : decode cX6_fall 80 = .ok (.getfield 64, 3) := by decide +kernel
theorem dX6_fall_83 : decode cX6_fall 83 = .ok (.getfield 142, 3) := by decide +kernel
theorem dX6_fall_86 : decode cX6_fall 86 = .ok (.iload 7, 2) := by decide +kernel
theorem dX6_fall_88 : decode cX6_fall 88 = .ok (.iaload, 1) := by decide +kernel
theorem dX6_fall_89 : decode cX6_fall 89 = .ok (.if_icmp .ge 19, 3) := by decide +kernel
theorem dX6_fall_92 : decode cX6_fall 92 = .ok (.aload_n 0, 1) := by decide +kernel
theorem dX6_fall_93 : decode cX6_fall 93 = .ok (.getfield 25, 3) := by decide +kernel
theorem dX6_fall_96 : decode cX6_fall 96 = .ok (.iload 7, 2) := by decide +kernel
theorem dX6_fall_98 : decode cX6_fall 98 = .ok (.iload 4, 2) := by decide +kernel
theorem dX6_fall_100 : decode cX6_fall 100 = .ok (.iastore, 1) := by decide +kernel
theorem dX6_fall_101 : decode cX6_fall 101 = .ok (.iload 6, 2) := by decide +kernel
theorem dX6_fall_103 : decode cX6_fall 103 = .ok (.iload 8, 2) := by decide +kernel
theorem dX6_fall_105 : decode cX6_fall 105 = .ok (.ior, 1) := by decide +kernel
theorem dX6_fall_106 : decode cX6_fall 106 = .ok (.istore 6, 2) := by decide +kernel
theorem dX6_fall_108 : decode cX6_fall 108 = .ok (.iinc 7 1, 3) := by decide +kernel
theorem dX6_fall_111 : decode cX6_fall 111 = .ok (.goto (-74), 3) := by decide +kernel
theorem dX6_fall_114 : decode cX6_fall 114 = .ok (.iload_n 3, 1) := by decide +kernel
theorem dX6_fall_115 : decode cX6_fall 115 = .ok (.iload 6, 2) := by decide +kernel
theorem dX6_fall_117 : decode cX6_fall 117 = .ok (.iconst (-1), 1) := by decide +kernel
theorem dX6_fall_118 : decode cX6_fall 118 = .ok (.ixor, 1) := by decide +kernel
theorem dX6_fall_119 : decode cX6_fall 119 = .ok (.iand, 1) := by decide +kernel
theorem dX6_fall_120 : decode cX6_fall 120 = .ok (.istore_n 3, 1) := by decide +kernel
theorem dX6_fall_121 : decode cX6_fall 121 = .ok (.iinc 4 1, 3) := by decide +kernel
theorem dX6_fall_124 : decode cX6_fall 124 = .ok (.goto (-108), 3) := by decide +kernel
theorem dX6_fall_127 : decode cX6_fall 127 = .ok (.return_, 1) := by decide +kernel
theorem dX7_init_0 : decode cX7_init 0 = .ok (.aload_n 0, 1) := by decide +kernel
theorem dX7_init_1 : decode cX7_init 1 = .ok (.invokespecial 3, 3) := by decide +kernel
theorem dX7_init_4 : decode cX7_init 4 = .ok (.aload_n 0, 1) := by decide +kernel
theorem dX7_init_5 : decode cX7_init 5 = .ok (.sipush 1000, 3) := by decide +kernel
theorem dX7_init_8 : decode cX7_init 8 = .ok (.newarray .byte, 2) := by decide +kernel
theorem dX7_init_10 : decode cX7_init 10 = .ok (.putfield 9, 3) := by decide +kernel
theorem dX7_init_13 : decode cX7_init 13 = .ok (.aload_n 0, 1) := by decide +kernel
theorem dX7_init_14 : decode cX7_init 14 = .ok (.iconst 0, 1) := by decide +kernel
theorem dX7_init_15 : decode cX7_init 15 = .ok (.putfield 15, 3) := by decide +kernel
theorem dX7_init_18 : decode cX7_init 18 = .ok (.aload_n 0, 1) := by decide +kernel
theorem dX7_init_19 : decode cX7_init 19 = .ok (.iconst 0, 1) := by decide +kernel
theorem dX7_init_20 : decode cX7_init 20 = .ok (.putfield 19, 3) := by decide +kernel
theorem dX7_init_23 : decode cX7_init 23 = .ok (.aload_n 0, 1) := by decide +kernel
theorem dX7_init_24 : decode cX7_init 24 = .ok (.iconst 0, 1) := by decide +kernel
theorem dX7_init_25 : decode cX7_init 25 = .ok (.putfield 22, 3) := by decide +kernel
theorem dX7_init_28 : decode cX7_init 28 = .ok (.aload_n 0, 1) := by decide +kernel
theorem dX7_init_29 : decode cX7_init 29 = .ok (.iconst 1, 1) := by decide +kernel
theorem dX7_init_30 : decode cX7_init 30 = .ok (.putfield 25, 3) := by decide +kernel
theorem dX7_init_33 : decode cX7_init 33 = .ok (.aload_n 0, 1) := by decide +kernel
theorem dX7_init_34 : decode cX7_init 34 = .ok (.iconst 0, 1) := by decide +kernel
theorem dX7_init_35 : decode cX7_init 35 = .ok (.putfield 28, 3) := by decide +kernel
theorem dX7_init_38 : decode cX7_init 38 = .ok (.aload_n 0, 1) := by decide +kernel
theorem dX7_init_39 : decode cX7_init 39 = .ok (.lconst 0, 1) := by decide +kernel
theorem dX7_init_40 : decode cX7_init 40 = .ok (.putfield 31, 3) := by decide +kernel
theorem dX7_init_43 : decode cX7_init 43 = .ok (.return_, 1) := by decide +kernel
theorem dX7_add_0 : decode cX7_add 0 = .ok (.bipush 56, 2) := by decide +kernel
theorem dX7_add_2 : decode cX7_add 2 = .ok (.istore_n 3, 1) := by decide +kernel
theorem dX7_add_3 : decode cX7_add 3 = .ok (.iload_n 3, 1) := by decide +kernel
theorem dX7_add_4 : decode cX7_add 4 = .ok (.ifCond .lt 59, 3) := by decide +kernel
theorem dX7_add_7 : decode cX7_add 7 = .ok (.lload_n 1, 1) := by decide +kernel
theorem dX7_add_8 : decode cX7_add 8 = .ok (.iload_n 3, 1) := by decide +kernel
theorem dX7_add_9 : decode cX7_add 9 = .ok (.lushr, 1) := by decide +kernel
theorem dX7_add_10 : decode cX7_add 10 = .ok (.l2i, 1) := by decide +kernel
theorem dX7_add_11 : decode cX7_add 11 = .ok (.sipush 255, 3) := by decide +kernel
theorem dX7_add_14 : decode cX7_add 14 = .ok (.iand, 1) := by decide +kernel
theorem dX7_add_15 : decode cX7_add 15 = .ok (.istore 4, 2) := by decide +kernel
theorem dX7_add_17 : decode cX7_add 17 = .ok (.iload 4, 2) := by decide +kernel
theorem dX7_add_19 : decode cX7_add 19 = .ok (.invokestatic 35, 3) := by decide +kernel
theorem dX7_add_22 : decode cX7_add 22 = .ok (.ifCond .eq 35, 3) := by decide +kernel
theorem dX7_add_25 : decode cX7_add 25 = .ok (.aload_n 0, 1) := by decide +kernel
theorem dX7_add_26 : decode cX7_add 26 = .ok (.getfield 15, 3) := by decide +kernel
theorem dX7_add_29 : decode cX7_add 29 = .ok (.sipush 1000, 3) := by decide +kernel
theorem dX7_add_32 : decode cX7_add 32 = .ok (.if_icmp .ge 25, 3) := by decide +kernel
theorem dX7_add_35 : decode cX7_add 35 = .ok (.aload_n 0, 1) := by decide +kernel
theorem dX7_add_36 : decode cX7_add 36 = .ok (.getfield 9, 3) := by decide +kernel
theorem dX7_add_39 : decode cX7_add 39 = .ok (.aload_n 0, 1) := by decide +kernel
theorem dX7_add_40 : decode cX7_add 40 = .ok (.getfield 15, 3) := by decide +kernel
theorem dX7_add_43 : decode cX7_add 43 = .ok (.iload 4, 2) := by decide +kernel
theorem dX7_add_45 : decode cX7_add 45 = .ok (.i2b, 1) := by decide +kernel
theorem dX7_add_46 : decode cX7_add 46 = .ok (.bastore, 1) := by decide +kernel
theorem dX7_add_47 : decode cX7_add 47 = .ok (.aload_n 0, 1) := by decide +kernel
theorem dX7_add_48 : decode cX7_add 48 = .ok (.dup, 1) := by decide +kernel
theorem dX7_add_49 : decode cX7_add 49 = .ok (.getfield 15, 3) := by decide +kernel
theorem dX7_add_52 : decode cX7_add 52 = .ok (.iconst 1, 1) := by decide +kernel
theorem dX7_add_53 : decode cX7_add 53 = .ok (.iadd, 1) := by decide +kernel
theorem dX7_add_54 : decode cX7_add 54 = .ok (.putfield 15, 3) := by decide +kernel
theorem dX7_add_57 : decode cX7_add 57 = .ok (.iinc 3 (-8), 3) := by decide +kernel
theorem dX7_add_60 : decode cX7_add 60 = .ok (.goto (-57), 3) := by decide +kernel
theorem dX7_add_63 : decode cX7_add 63 = .ok (.return_, 1) := by decide +kernel
theorem dX7_rewind_0 : decode cX7_rewind 0 = .ok (.aload_n 0, 1) := by decide +kernel
theorem dX7_rewind_1 : decode cX7_rewind 1 = .ok (.iconst 0, 1) := by decide +kernel
theorem dX7_rewind_2 : decode cX7_rewind 2 = .ok (.putfield 19, 3) := by decide +kernel
theorem dX7_rewind_5 : decode cX7_rewind 5 = .ok (.aload_n 0, 1) := by decide +kernel
theorem dX7_rewind_6 : decode cX7_rewind 6 = .ok (.invokevirtual 39, 3) := by decide +kernel
theorem dX7_rewind_9 : decode cX7_rewind 9 = .ok (.return_, 1) := by decide +kernel
theorem dX7_next_0 : decode cX7_next 0 = .ok (.aload_n 0, 1) := by decide +kernel
theorem dX7_next_1 : decode cX7_next 1 = .ok (.getfield 19, 3) := by decide +kernel
theorem dX7_next_4 : decode cX7_next 4 = .ok (.aload_n 0, 1) := by decide +kernel
theorem dX7_next_5 : decode cX7_next 5 = .ok (.getfield 15, 3) := by decide +kernel
theorem dX7_next_8 : decode cX7_next 8 = .ok (.if_icmp .ge 31, 3) := by decide +kernel
theorem dX7_next_11 : decode cX7_next 11 = .ok (.aload_n 0, 1) := by decide +kernel
theorem dX7_next_12 : decode cX7_next 12 = .ok (.getfield 9, 3) := by decide +kernel
theorem dX7_next_15 : decode cX7_next 15 = .ok (.aload_n 0, 1) := by decide +kernel
theorem dX7_next_16 : decode cX7_next 16 = .ok (.getfield 19, 3) := by decide +kernel
theorem dX7_next_19 : decode cX7_next 19 = .ok (.baload, 1) := by decide +kernel
theorem dX7_next_20 : decode cX7_next 20 = .ok (.invokestatic 42, 3) := by decide +kernel
theorem dX7_next_23 : decode cX7_next 23 = .ok (.ifCond .eq 16, 3) := by decide +kernel
theorem dX7_next_26 : decode cX7_next 26 = .ok (.aload_n 0, 1) := by decide +kernel
theorem dX7_next_27 : decode cX7_next 27 = .ok (.dup, 1) := by decide +kernel
theorem dX7_next_28 : decode cX7_next 28 = .ok (.getfield 19, 3) := by decide +kernel
theorem dX7_next_31 : decode cX7_next 31 = .ok (.iconst 1, 1) := by decide +kernel
theorem dX7_next_32 : decode cX7_next 32 = .ok (.iadd, 1) := by decide +kernel
theorem dX7_next_33 : decode cX7_next 33 = .ok (.putfield 19, 3) := by decide +kernel
theorem dX7_next_36 : decode cX7_next 36 = .ok (.goto (-36), 3) := by decide +kernel
theorem dX7_next_39 : decode cX7_next 39 = .ok (.aload_n 0, 1) := by decide +kernel
theorem dX7_next_40 : decode cX7_next 40 = .ok (.aload_n 0, 1) := by decide +kernel
theorem dX7_next_41 : decode cX7_next 41 = .ok (.getfield 19, 3) := by decide +kernel
theorem dX7_next_44 : decode cX7_next 44 = .ok (.putfield 22, 3) := by decide +kernel
theorem dX7_next_47 : decode cX7_next 47 = .ok (.aload_n 0, 1) := by decide +kernel
theorem dX7_next_48 : decode cX7_next 48 = .ok (.getfield 19, 3) := by decide +kernel
theorem dX7_next_51 : decode cX7_next 51 = .ok (.aload_n 0, 1) := by decide +kernel
theorem dX7_next_52 : decode cX7_next 52 = .ok (.getfield 15, 3) := by decide +kernel
theorem dX7_next_55 : decode cX7_next 55 = .ok (.if_icmp .lt 11, 3) := by decide +kernel
theorem dX7_next_58 : decode cX7_next 58 = .ok (.aload_n 0, 1) := by decide +kernel
theorem dX7_next_59 : decode cX7_next 59 = .ok (.iconst 1, 1) := by decide +kernel
theorem dX7_next_60 : decode cX7_next 60 = .ok (.putfield 25, 3) := by decide +kernel
theorem dX7_next_63 : decode cX7_next 63 = .ok (.goto 140, 3) := by decide +kernel
theorem dX7_next_66 : decode cX7_next 66 = .ok (.aload_n 0, 1) := by decide +kernel
theorem dX7_next_67 : decode cX7_next 67 = .ok (.getfield 9, 3) := by decide +kernel
theorem dX7_next_70 : decode cX7_next 70 = .ok (.aload_n 0, 1) := by decide +kernel
theorem dX7_next_71 : decode cX7_next 71 = .ok (.getfield 19, 3) := by decide +kernel
theorem dX7_next_74 : decode cX7_next 74 = .ok (.baload, 1) := by decide +kernel
theorem dX7_next_75 : decode cX7_next 75 = .ok (.invokestatic 45, 3) := by decide +kernel
theorem dX7_next_78 : decode cX7_next 78 = .ok (.ifCond .eq 36, 3) := by decide +kernel
theorem dX7_next_81 : decode cX7_next 81 = .ok (.aload_n 0, 1) := by decide +kernel
theorem dX7_next_82 : decode cX7_next 82 = .ok (.invokevirtual 48, 3) := by decide +kernel
theorem dX7_next_85 : decode cX7_next 85 = .ok (.aload_n 0, 1) := by decide +kernel
theorem dX7_next_86 : decode cX7_next 86 = .ok (.aload_n 0, 1) := by decide +kernel
theorem dX7_next_87 : decode cX7_next 87 = .ok (.getfield 19, 3) := by decide +kernel
theorem dX7_next_90 : decode cX7_next 90 = .ok (.aload_n 0, 1) := by decide +kernel
theorem dX7_next_91 : decode cX7_next 91 = .ok (.getfield 22, 3) := by decide +kernel
theorem dX7_next_94 : decode cX7_next 94 = .ok (.isub, 1) := by decide +kernel
theorem dX7_next_95 : decode cX7_next 95 = .ok (.bipush 8, 2) := by decide +kernel
theorem dX7_next_97 : decode cX7_next 97 = .ok (.if_icmp .le 7, 3) := by decide +kernel
theorem dX7_next_100 : decode cX7_next 100 = .ok (.iconst 0, 1) := by decide +kernel
theorem dX7_next_101 : decode cX7_next 101 = .ok (.goto 7, 3) := by decide +kernel
theorem dX7_next_104 : decode cX7_next 104 = .ok (.aload_n 0, 1) := by decide +kernel
theorem dX7_next_105 : decode cX7_next 105 = .ok (.invokevirtual 51, 3) := by decide +kernel
theorem dX7_next_108 : decode cX7_next 108 = .ok (.putfield 25, 3) := by decide +kernel
theorem dX7_next_111 : decode cX7_next 111 = .ok (.goto 92, 3) := by decide +kernel
theorem dX7_next_114 : decode cX7_next 114 = .ok (.aload_n 0, 1) := by decide +kernel
theorem dX7_next_115 : decode cX7_next 115 = .ok (.getfield 9, 3) := by decide +kernel
theorem dX7_next_118 : decode cX7_next 118 = .ok (.aload_n 0, 1) := by decide +kernel
theorem dX7_next_119 : decode cX7_next 119 = .ok (.getfield 19, 3) := by decide +kernel
theorem dX7_next_122 : decode cX7_next 122 = .ok (.baload, 1) := by decide +kernel
theorem dX7_next_123 : decode cX7_next 123 = .ok (.invokestatic 55, 3) := by decide +kernel
theorem dX7_next_126 : decode cX7_next 126 = .ok (.ifCond .eq 32, 3) := by decide +kernel
theorem dX7_next_129 : decode cX7_next 129 = .ok (.aload_n 0, 1) := by decide +kernel
theorem dX7_next_130 : decode cX7_next 130 = .ok (.invokevirtual 58, 3) := by decide +kernel
theorem dX7_next_133 : decode cX7_next 133 = .ok (.aload_n 0, 1) := by decide +kernel
theorem dX7_next_134 : decode cX7_next 134 = .ok (.aload_n 0, 1) := by decide +kernel
theorem dX7_next_135 : decode cX7_next 135 = .ok (.getfield 19, 3) := by decide +kernel
theorem dX7_next_138 : decode cX7_next 138 = .ok (.aload_n 0, 1) := by decide +kernel
theorem dX7_next_139 : decode cX7_next 139 = .ok (.getfield 22, 3) := by decide +kernel
theorem dX7_next_142 : decode cX7_next 142 = .ok (.isub, 1) := by decide +kernel
theorem dX7_next_143 : decode cX7_next 143 = .ok (.iconst 4, 1) := by decide +kernel
theorem dX7_next_144 : decode cX7_next 144 = .ok (.if_icmp .le 7, 3) := by decide +kernel
theorem dX7_next_147 : decode cX7_next 147 = .ok (.iconst 0, 1) := by decide +kernel
theorem dX7_next_148 : decode cX7_next 148 = .ok (.goto 4, 3) := by decide +kernel
theorem dX7_next_151 : decode cX7_next 151 = .ok (.iconst 2, 1) := by decide +kernel
theorem dX7_next_152 : decode cX7_next 152 = .ok (.putfield 25, 3) := by decide +kernel
theorem dX7_next_155 : decode cX7_next 155 = .ok (.goto 48, 3) := by decide +kernel
theorem dX7_next_158 : decode cX7_next 158 = .ok (.aload_n 0, 1) := by decide +kernel
theorem dX7_next_159 : decode cX7_next 159 = .ok (.ldc 61, 2) := by decide +kernel
theorem dX7_next_161 : decode cX7_next 161 = .ok (.aload_n 0, 1) := by decide +kernel
theorem dX7_next_162 : decode cX7_next 162 = .ok (.getfield 9, 3) := by decide +kernel
theorem dX7_next_165 : decode cX7_next 165 = .ok (.aload_n 0, 1) := by decide +kernel
theorem dX7_next_166 : decode cX7_next 166 = .ok (.getfield 19, 3) := by decide +kernel
theorem dX7_next_169 : decode cX7_next 169 = .ok (.baload, 1) := by decide +kernel
theorem dX7_next_170 : decode cX7_next 170 = .ok (.i2c, 1) := by decide +kernel
theorem dX7_next_171 : decode cX7_next 171 = .ok (.invokevirtual 63, 3) := by decide +kernel
theorem dX7_next_174 : decode cX7_next 174 = .ok (.ifCond .lt 15, 3) := by decide +kernel
theorem dX7_next_177 : decode cX7_next 177 = .ok (.aload_n 0, 1) := by decide +kernel
theorem dX7_next_178 : decode cX7_next 178 = .ok (.getfield 9, 3) := by decide +kernel
theorem dX7_next_181 : decode cX7_next 181 = .ok (.aload_n 0, 1) := by decide +kernel
theorem dX7_next_182 : decode cX7_next 182 = .ok (.getfield 19, 3) := by decide +kernel
theorem dX7_next_185 : decode cX7_next 185 = .ok (.baload, 1) := by decide +kernel
theorem dX7_next_186 : decode cX7_next 186 = .ok (.goto 4, 3) := by decide +kernel
theorem dX7_next_189 : decode cX7_next 189 = .ok (.iconst 0, 1) := by decide +kernel
theorem dX7_next_190 : decode cX7_next 190 = .ok (.putfield 25, 3) := by decide +kernel
theorem dX7_next_193 : decode cX7_next 193 = .ok (.aload_n 0, 1) := by decide +kernel
theorem dX7_next_194 : decode cX7_next 194 = .ok (.dup, 1) := by decide +kernel
theorem dX7_next_195 : decode cX7_next 195 = .ok (.getfield 19, 3) := by decide +kernel
theorem dX7_next_198 : decode cX7_next 198 = .ok (.iconst 1, 1) := by decide +kernel
theorem dX7_next_199 : decode cX7_next 199 = .ok (.iadd, 1) := by decide +kernel
theorem dX7_next_200 : decode cX7_next 200 = .ok (.putfield 19, 3) := by decide +kernel
theorem dX7_next_203 : decode cX7_next 203 = .ok (.return_, 1) := by decide +kernel
theorem dX7_isName_0 : decode cX7_isName 0 = .ok (.aload_n 0, 1) := by decide +kernel
theorem dX7_isName_1 : decode cX7_isName 1 = .ok (.getfield 25, 3) := by decide +kernel
theorem dX7_isName_4 : decode cX7_isName 4 = .ok (.sipush 143, 3) := by decide +kernel
theorem dX7_isName_7 : decode cX7_isName 7 = .ok (.if_icmp .lt 7, 3) := by decide +kernel
theorem dX7_isName_10 : decode cX7_isName 10 = .ok (.iconst 1, 1) := by decide +kernel
theorem dX7_isName_11 : decode cX7_isName 11 = .ok (.goto 4, 3) := by decide +kernel
theorem dX7_isName_14 : decode cX7_isName 14 = .ok (.iconst 0, 1) := by decide +kernel
theorem dX7_isName_15 : decode cX7_isName 15 = .ok (.ireturn, 1) := by decide +kernel
theorem dX7_isFact_0 : decode cX7_isFact 0 = .ok (.aload_n 0, 1) := by decide +kernel
theorem dX7_isFact_1 : decode cX7_isFact 1 = .ok (.getfield 25, 3) := by decide +kernel
theorem dX7_isFact_4 : decode cX7_isFact 4 = .ok (.sipush 143, 3) := by decide +kernel
theorem dX7_isFact_7 : decode cX7_isFact 7 = .ok (.if_icmp .lt 17, 3) := by decide +kernel
theorem dX7_isFact_10 : decode cX7_isFact 10 = .ok (.aload_n 0, 1) := by decide +kernel
theorem dX7_isFact_11 : decode cX7_isFact 11 = .ok (.getfield 25, 3) := by decide +kernel
theorem dX7_isFact_14 : decode cX7_isFact 14 = .ok (.sipush 149, 3) := by decide +kernel
theorem dX7_isFact_17 : decode cX7_isFact 17 = .ok (.if_icmp .gt 7, 3) := by decide +kernel
theorem dX7_isFact_20 : decode cX7_isFact 20 = .ok (.iconst 1, 1) := by decide +kernel
theorem dX7_isFact_21 : decode cX7_isFact 21 = .ok (.goto 4, 3) := by decide +kernel
theorem dX7_isFact_24 : decode cX7_isFact 24 = .ok (.iconst 0, 1) := by decide +kernel
theorem dX7_isFact_25 : decode cX7_isFact 25 = .ok (.ireturn, 1) := by decide +kernel
theorem dX7_takeLetters_0 : decode cX7_takeLetters 0 = .ok (.aload_n 0, 1) := by decide +kernel
theorem dX7_takeLetters_1 : decode cX7_takeLetters 1 = .ok (.lconst 0, 1) := by decide +kernel
theorem dX7_takeLetters_2 : decode cX7_takeLetters 2 = .ok (.putfield 31, 3) := by decide +kernel
theorem dX7_takeLetters_5 : decode cX7_takeLetters 5 = .ok (.aload_n 0, 1) := by decide +kernel
theorem dX7_takeLetters_6 : decode cX7_takeLetters 6 = .ok (.getfield 19, 3) := by decide +kernel
theorem dX7_takeLetters_9 : decode cX7_takeLetters 9 = .ok (.aload_n 0, 1) := by decide +kernel
theorem dX7_takeLetters_10 : decode cX7_takeLetters 10 = .ok (.getfield 15, 3) := by decide +kernel
theorem dX7_takeLetters_13 : decode cX7_takeLetters 13 = .ok (.if_icmp .ge 59, 3) := by decide +kernel
theorem dX7_takeLetters_16 : decode cX7_takeLetters 16 = .ok (.aload_n 0, 1) := by decide +kernel
theorem dX7_takeLetters_17 : decode cX7_takeLetters 17 = .ok (.getfield 9, 3) := by decide +kernel
theorem dX7_takeLetters_20 : decode cX7_takeLetters 20 = .ok (.aload_n 0, 1) := by decide +kernel
theorem dX7_takeLetters_21 : decode cX7_takeLetters 21 = .ok (.getfield 19, 3) := by decide +kernel
theorem dX7_takeLetters_24 : decode cX7_takeLetters 24 = .ok (.baload, 1) := by decide +kernel
theorem dX7_takeLetters_25 : decode cX7_takeLetters 25 = .ok (.invokestatic 45, 3) := by decide +kernel
theorem dX7_takeLetters_28 : decode cX7_takeLetters 28 = .ok (.ifCond .eq 44, 3) := by decide +kernel
theorem dX7_takeLetters_31 : decode cX7_takeLetters 31 = .ok (.aload_n 0, 1) := by decide +kernel
theorem dX7_takeLetters_32 : decode cX7_takeLetters 32 = .ok (.aload_n 0, 1) := by decide +kernel
theorem dX7_takeLetters_33 : decode cX7_takeLetters 33 = .ok (.getfield 31, 3) := by decide +kernel
theorem dX7_takeLetters_36 : decode cX7_takeLetters 36 = .ok (.ldc2_w 69, 3) := by decide +kernel
theorem dX7_takeLetters_39 : decode cX7_takeLetters 39 = .ok (.lmul, 1) := by decide +kernel
theorem dX7_takeLetters_40 : decode cX7_takeLetters 40 = .ok (.aload_n 0, 1) := by decide +kernel
theorem dX7_takeLetters_41 : decode cX7_takeLetters 41 = .ok (.getfield 9, 3) := by decide +kernel
theorem dX7_takeLetters_44 : decode cX7_takeLetters 44 = .ok (.aload_n 0, 1) := by decide +kernel
theorem dX7_takeLetters_45 : decode cX7_takeLetters 45 = .ok (.getfield 19, 3) := by decide +kernel
theorem dX7_takeLetters_48 : decode cX7_takeLetters 48 = .ok (.baload, 1) := by decide +kernel
theorem dX7_takeLetters_49 : decode cX7_takeLetters 49 = .ok (.bipush 97, 2) := by decide +kernel
theorem dX7_takeLetters_51 : decode cX7_takeLetters 51 = .ok (.isub, 1) := by decide +kernel
theorem dX7_takeLetters_52 : decode cX7_takeLetters 52 = .ok (.iconst 1, 1) := by decide +kernel
theorem dX7_takeLetters_53 : decode cX7_takeLetters 53 = .ok (.iadd, 1) := by decide +kernel
theorem dX7_takeLetters_54 : decode cX7_takeLetters 54 = .ok (.i2l, 1) := by decide +kernel
theorem dX7_takeLetters_55 : decode cX7_takeLetters 55 = .ok (.ladd, 1) := by decide +kernel
theorem dX7_takeLetters_56 : decode cX7_takeLetters 56 = .ok (.putfield 31, 3) := by decide +kernel
theorem dX7_takeLetters_59 : decode cX7_takeLetters 59 = .ok (.aload_n 0, 1) := by decide +kernel
theorem dX7_takeLetters_60 : decode cX7_takeLetters 60 = .ok (.dup, 1) := by decide +kernel
theorem dX7_takeLetters_61 : decode cX7_takeLetters 61 = .ok (.getfield 19, 3) := by decide +kernel
theorem dX7_takeLetters_64 : decode cX7_takeLetters 64 = .ok (.iconst 1, 1) := by decide +kernel
theorem dX7_takeLetters_65 : decode cX7_takeLetters 65 = .ok (.iadd, 1) := by decide +kernel
theorem dX7_takeLetters_66 : decode cX7_takeLetters 66 = .ok (.putfield 19, 3) := by decide +kernel
theorem dX7_takeLetters_69 : decode cX7_takeLetters 69 = .ok (.goto (-64), 3) := by decide +kernel
theorem dX7_takeLetters_72 : decode cX7_takeLetters 72 = .ok (.return_, 1) := by decide +kernel
theorem dX7_takeDigits_0 : decode cX7_takeDigits 0 = .ok (.aload_n 0, 1) := by decide +kernel
theorem dX7_takeDigits_1 : decode cX7_takeDigits 1 = .ok (.iconst 0, 1) := by decide +kernel
theorem dX7_takeDigits_2 : decode cX7_takeDigits 2 = .ok (.putfield 28, 3) := by decide +kernel
theorem dX7_takeDigits_5 : decode cX7_takeDigits 5 = .ok (.aload_n 0, 1) := by decide +kernel
theorem dX7_takeDigits_6 : decode cX7_takeDigits 6 = .ok (.getfield 19, 3) := by decide +kernel
theorem dX7_takeDigits_9 : decode cX7_takeDigits 9 = .ok (.aload_n 0, 1) := by decide +kernel
theorem dX7_takeDigits_10 : decode cX7_takeDigits 10 = .ok (.getfield 15, 3) := by decide +kernel
theorem dX7_takeDigits_13 : decode cX7_takeDigits 13 = .ok (.if_icmp .ge 55, 3) := by decide +kernel
theorem dX7_takeDigits_16 : decode cX7_takeDigits 16 = .ok (.aload_n 0, 1) := by decide +kernel
theorem dX7_takeDigits_17 : decode cX7_takeDigits 17 = .ok (.getfield 9, 3) := by decide +kernel
theorem dX7_takeDigits_20 : decode cX7_takeDigits 20 = .ok (.aload_n 0, 1) := by decide +kernel
theorem dX7_takeDigits_21 : decode cX7_takeDigits 21 = .ok (.getfield 19, 3) := by decide +kernel
theorem dX7_takeDigits_24 : decode cX7_takeDigits 24 = .ok (.baload, 1) := by decide +kernel
theorem dX7_takeDigits_25 : decode cX7_takeDigits 25 = .ok (.invokestatic 55, 3) := by decide +kernel
theorem dX7_takeDigits_28 : decode cX7_takeDigits 28 = .ok (.ifCond .eq 40, 3) := by decide +kernel
theorem dX7_takeDigits_31 : decode cX7_takeDigits 31 = .ok (.aload_n 0, 1) := by decide +kernel
theorem dX7_takeDigits_32 : decode cX7_takeDigits 32 = .ok (.aload_n 0, 1) := by decide +kernel
theorem dX7_takeDigits_33 : decode cX7_takeDigits 33 = .ok (.getfield 28, 3) := by decide +kernel
theorem dX7_takeDigits_36 : decode cX7_takeDigits 36 = .ok (.bipush 10, 2) := by decide +kernel
theorem dX7_takeDigits_38 : decode cX7_takeDigits 38 = .ok (.imul, 1) := by decide +kernel
theorem dX7_takeDigits_39 : decode cX7_takeDigits 39 = .ok (.aload_n 0, 1) := by decide +kernel
theorem dX7_takeDigits_40 : decode cX7_takeDigits 40 = .ok (.getfield 9, 3) := by decide +kernel
theorem dX7_takeDigits_43 : decode cX7_takeDigits 43 = .ok (.aload_n 0, 1) := by decide +kernel
theorem dX7_takeDigits_44 : decode cX7_takeDigits 44 = .ok (.getfield 19, 3) := by decide +kernel
theorem dX7_takeDigits_47 : decode cX7_takeDigits 47 = .ok (.baload, 1) := by decide +kernel
theorem dX7_takeDigits_48 : decode cX7_takeDigits 48 = .ok (.bipush 48, 2) := by decide +kernel
theorem dX7_takeDigits_50 : decode cX7_takeDigits 50 = .ok (.isub, 1) := by decide +kernel
theorem dX7_takeDigits_51 : decode cX7_takeDigits 51 = .ok (.iadd, 1) := by decide +kernel
theorem dX7_takeDigits_52 : decode cX7_takeDigits 52 = .ok (.putfield 28, 3) := by decide +kernel
theorem dX7_takeDigits_55 : decode cX7_takeDigits 55 = .ok (.aload_n 0, 1) := by decide +kernel
theorem dX7_takeDigits_56 : decode cX7_takeDigits 56 = .ok (.dup, 1) := by decide +kernel
theorem dX7_takeDigits_57 : decode cX7_takeDigits 57 = .ok (.getfield 19, 3) := by decide +kernel
theorem dX7_takeDigits_60 : decode cX7_takeDigits 60 = .ok (.iconst 1, 1) := by decide +kernel
theorem dX7_takeDigits_61 : decode cX7_takeDigits 61 = .ok (.iadd, 1) := by decide +kernel
theorem dX7_takeDigits_62 : decode cX7_takeDigits 62 = .ok (.putfield 19, 3) := by decide +kernel
theorem dX7_takeDigits_65 : decode cX7_takeDigits 65 = .ok (.goto (-60), 3) := by decide +kernel
theorem dX7_takeDigits_68 : decode cX7_takeDigits 68 = .ok (.return_, 1) := by decide +kernel
theorem dX7_kindOfWord_0 : decode cX7_kindOfWord 0 = .ok (.sipush 128, 3) := by decide +kernel
theorem dX7_kindOfWord_3 : decode cX7_kindOfWord 3 = .ok (.istore_n 1, 1) := by decide +kernel
theorem dX7_kindOfWord_4 : decode cX7_kindOfWord 4 = .ok (.iconst 0, 1) := by decide +kernel
theorem dX7_kindOfWord_5 : decode cX7_kindOfWord 5 = .ok (.istore_n 2, 1) := by decide +kernel
theorem dX7_kindOfWord_6 : decode cX7_kindOfWord 6 = .ok (.iconst 1, 1) := by decide +kernel
theorem dX7_kindOfWord_7 : decode cX7_kindOfWord 7 = .ok (.istore_n 3, 1) := by decide +kernel
theorem dX7_kindOfWord_8 : decode cX7_kindOfWord 8 = .ok (.iconst 0, 1) := by decide +kernel
theorem dX7_kindOfWord_9 : decode cX7_kindOfWord 9 = .ok (.istore 4, 2) := by decide +kernel
theorem dX7_kindOfWord_11 : decode cX7_kindOfWord 11 = .ok (.iload 4, 2) := by decide +kernel
theorem dX7_kindOfWord_13 : decode cX7_kindOfWord 13 = .ok (.ldc 71, 2) := by decide +kernel
theorem dX7_kindOfWord_15 : decode cX7_kindOfWord 15 = .ok (.invokevirtual 73, 3) := by decide +kernel
theorem dX7_kindOfWord_18 : decode cX7_kindOfWord 18 = .ok (.if_icmp .ge 96, 3) := by decide +kernel
theorem dX7_kindOfWord_21 : decode cX7_kindOfWord 21 = .ok (.ldc 71, 2) := by decide +kernel
theorem dX7_kindOfWord_23 : decode cX7_kindOfWord 23 = .ok (.iload 4, 2) := by decide +kernel
theorem dX7_kindOfWord_25 : decode cX7_kindOfWord 25 = .ok (.invokevirtual 76, 3) := by decide +kernel
theorem dX7_kindOfWord_28 : decode cX7_kindOfWord 28 = .ok (.istore 5, 2) := by decide +kernel
theorem dX7_kindOfWord_30 : decode cX7_kindOfWord 30 = .ok (.iload 5, 2) := by decide +kernel
theorem dX7_kindOfWord_32 : decode cX7_kindOfWord 32 = .ok (.bipush 32, 2) := by decide +kernel
theorem dX7_kindOfWord_34 : decode cX7_kindOfWord 34 = .ok (.if_icmp .eq 48, 3) := by decide +kernel
theorem dX7_kindOfWord_37 : decode cX7_kindOfWord 37 = .ok (.iload_n 3, 1) := by decide +kernel
theorem dX7_kindOfWord_38 : decode cX7_kindOfWord 38 = .ok (.ifCond .eq 36, 3) := by decide +kernel
theorem dX7_kindOfWord_41 : decode cX7_kindOfWord 41 = .ok (.aload_n 0, 1) := by decide +kernel
theorem dX7_kindOfWord_42 : decode cX7_kindOfWord 42 = .ok (.getfield 22, 3) := by decide +kernel
theorem dX7_kindOfWord_45 : decode cX7_kindOfWord 45 = .ok (.iload_n 2, 1) := by decide +kernel
theorem dX7_kindOfWord_46 : decode cX7_kindOfWord 46 = .ok (.iadd, 1) := by decide +kernel
theorem dX7_kindOfWord_47 : decode cX7_kindOfWord 47 = .ok (.aload_n 0, 1) := by decide +kernel
theorem dX7_kindOfWord_48 : decode cX7_kindOfWord 48 = .ok (.getfield 19, 3) := by decide +kernel
theorem dX7_kindOfWord_51 : decode cX7_kindOfWord 51 = .ok (.if_icmp .ge 23, 3) := by decide +kernel
theorem dX7_kindOfWord_54 : decode cX7_kindOfWord 54 = .ok (.aload_n 0, 1) := by decide +kernel
theorem dX7_kindOfWord_55 : decode cX7_kindOfWord 55 = .ok (.getfield 9, 3) := by decide +kernel
theorem dX7_kindOfWord_58 : decode cX7_kindOfWord 58 = .ok (.aload_n 0, 1) := by decide +kernel
theorem dX7_kindOfWord_59 : decode cX7_kindOfWord 59 = .ok (.getfield 22, 3) := by decide +kernel
theorem dX7_kindOfWord_62 : decode cX7_kindOfWord 62 = .ok (.iload_n 2, 1) := by decide +kernel
theorem dX7_kindOfWord_63 : decode cX7_kindOfWord 63 = .ok (.iadd, 1) := by decide +kernel
theorem dX7_kindOfWord_64 : decode cX7_kindOfWord 64 = .ok (.baload, 1) := by decide +kernel
theorem dX7_kindOfWord_65 : decode cX7_kindOfWord 65 = .ok (.iload 5, 2) := by decide +kernel
theorem dX7_kindOfWord_67 : decode cX7_kindOfWord 67 = .ok (.if_icmp .ne 7, 3) := by decide +kernel
theorem dX7_kindOfWord_70 : decode cX7_kindOfWord 70 = .ok (.iconst 1, 1) := by decide +kernel
theorem dX7_kindOfWord_71 : decode cX7_kindOfWord 71 = .ok (.goto 4, 3) := by decide +kernel
theorem dX7_kindOfWord_74 : decode cX7_kindOfWord 74 = .ok (.iconst 0, 1) := by decide +kernel
theorem dX7_kindOfWord_75 : decode cX7_kindOfWord 75 = .ok (.istore_n 3, 1) := by decide +kernel
theorem dX7_kindOfWord_76 : decode cX7_kindOfWord 76 = .ok (.iinc 2 1, 3) := by decide +kernel
theorem dX7_kindOfWord_79 : decode cX7_kindOfWord 79 = .ok (.goto 29, 3) := by decide +kernel
theorem dX7_kindOfWord_82 : decode cX7_kindOfWord 82 = .ok (.iload_n 3, 1) := by decide +kernel
theorem dX7_kindOfWord_83 : decode cX7_kindOfWord 83 = .ok (.ifCond .eq 18, 3) := by decide +kernel
theorem dX7_kindOfWord_86 : decode cX7_kindOfWord 86 = .ok (.aload_n 0, 1) := by decide +kernel
theorem dX7_kindOfWord_87 : decode cX7_kindOfWord 87 = .ok (.getfield 22, 3) := by decide +kernel
theorem dX7_kindOfWord_90 : decode cX7_kindOfWord 90 = .ok (.iload_n 2, 1) := by decide +kernel
theorem dX7_kindOfWord_91 : decode cX7_kindOfWord 91 = .ok (.iadd, 1) := by decide +kernel
theorem dX7_kindOfWord_92 : decode cX7_kindOfWord 92 = .ok (.aload_n 0, 1) := by decide +kernel
theorem dX7_kindOfWord_93 : decode cX7_kindOfWord 93 = .ok (.getfield 19, 3) := by decide +kernel
theorem dX7_kindOfWord_96 : decode cX7_kindOfWord 96 = .ok (.if_icmp .ne 5, 3) := by decide +kernel
theorem dX7_kindOfWord_99 : decode cX7_kindOfWord 99 = .ok (.iload_n 1, 1) := by decide +kernel
theorem dX7_kindOfWord_100 : decode cX7_kindOfWord 100 = .ok (.ireturn, 1) := by decide +kernel
theorem dX7_kindOfWord_101 : decode cX7_kindOfWord 101 = .ok (.iinc 1 1, 3) := by decide +kernel
theorem dX7_kindOfWord_104 : decode cX7_kindOfWord 104 = .ok (.iconst 0, 1) := by decide +kernel
theorem dX7_kindOfWord_105 : decode cX7_kindOfWord 105 = .ok (.istore_n 2, 1) := by decide +kernel
theorem dX7_kindOfWord_106 : decode cX7_kindOfWord 106 = .ok (.iconst 1, 1) := by decide +kernel
theorem dX7_kindOfWord_107 : decode cX7_kindOfWord 107 = .ok (.istore_n 3, 1) := by decide +kernel
theorem dX7_kindOfWord_108 : decode cX7_kindOfWord 108 = .ok (.iinc 4 1, 3) := by decide +kernel
theorem dX7_kindOfWord_111 : decode cX7_kindOfWord 111 = .ok (.goto (-100), 3) := by decide +kernel
theorem dX7_kindOfWord_114 : decode cX7_kindOfWord 114 = .ok (.sipush 150, 3) := by decide +kernel
theorem dX7_kindOfWord_117 : decode cX7_kindOfWord 117 = .ok (.ireturn, 1) := by decide +kernel
theorem dX7_isFed_0 : decode cX7_isFed 0 = .ok (.iload_n 0, 1) := by decide +kernel
theorem dX7_isFed_1 : decode cX7_isFed 1 = .ok (.bipush 10, 2) := by decide +kernel
theorem dX7_isFed_3 : decode cX7_isFed 3 = .ok (.if_icmp .eq 15, 3) := by decide +kernel
theorem dX7_isFed_6 : decode cX7_isFed 6 = .ok (.iload_n 0, 1) := by decide +kernel
theorem dX7_isFed_7 : decode cX7_isFed 7 = .ok (.bipush 32, 2) := by decide +kernel
theorem dX7_isFed_9 : decode cX7_isFed 9 = .ok (.if_icmp .lt 13, 3) := by decide +kernel
theorem dX7_isFed_12 : decode cX7_isFed 12 = .ok (.iload_n 0, 1) := by decide +kernel
theorem dX7_isFed_13 : decode cX7_isFed 13 = .ok (.bipush 126, 2) := by decide +kernel
theorem dX7_isFed_15 : decode cX7_isFed 15 = .ok (.if_icmp .gt 7, 3) := by decide +kernel
theorem dX7_isFed_18 : decode cX7_isFed 18 = .ok (.iconst 1, 1) := by decide +kernel
theorem dX7_isFed_19 : decode cX7_isFed 19 = .ok (.goto 4, 3) := by decide +kernel
theorem dX7_isFed_22 : decode cX7_isFed 22 = .ok (.iconst 0, 1) := by decide +kernel
theorem dX7_isFed_23 : decode cX7_isFed 23 = .ok (.ireturn, 1) := by decide +kernel
theorem dX7_isBlank_0 : decode cX7_isBlank 0 = .ok (.iload_n 0, 1) := by decide +kernel
theorem dX7_isBlank_1 : decode cX7_isBlank 1 = .ok (.bipush 10, 2) := by decide +kernel
theorem dX7_isBlank_3 : decode cX7_isBlank 3 = .ok (.if_icmp .eq 9, 3) := by decide +kernel
theorem dX7_isBlank_6 : decode cX7_isBlank 6 = .ok (.iload_n 0, 1) := by decide +kernel
theorem dX7_isBlank_7 : decode cX7_isBlank 7 = .ok (.bipush 32, 2) := by decide +kernel
theorem dX7_isBlank_9 : decode cX7_isBlank 9 = .ok (.if_icmp .ne 7, 3) := by decide +kernel
theorem dX7_isBlank_12 : decode cX7_isBlank 12 = .ok (.iconst 1, 1) := by decide +kernel
theorem dX7_isBlank_13 : decode cX7_isBlank 13 = .ok (.goto 4, 3) := by decide +kernel
theorem dX7_isBlank_16 : decode cX7_isBlank 16 = .ok (.iconst 0, 1) := by decide +kernel
theorem dX7_isBlank_17 : decode cX7_isBlank 17 = .ok (.ireturn, 1) := by decide +kernel
theorem dX7_isLetter_0 : decode cX7_isLetter 0 = .ok (.iload_n 0, 1) := by decide +kernel
theorem dX7_isLetter_1 : decode cX7_isLetter 1 = .ok (.bipush 97, 2) := by decide +kernel
theorem dX7_isLetter_3 : decode cX7_isLetter 3 = .ok (.if_icmp .lt 13, 3) := by decide +kernel
theorem dX7_isLetter_6 : decode cX7_isLetter 6 = .ok (.iload_n 0, 1) := by decide +kernel
theorem dX7_isLetter_7 : decode cX7_isLetter 7 = .ok (.bipush 122, 2) := by decide +kernel
theorem dX7_isLetter_9 : decode cX7_isLetter 9 = .ok (.if_icmp .gt 7, 3) := by decide +kernel
theorem dX7_isLetter_12 : decode cX7_isLetter 12 = .ok (.iconst 1, 1) := by decide +kernel
theorem dX7_isLetter_13 : decode cX7_isLetter 13 = .ok (.goto 4, 3) := by decide +kernel
theorem dX7_isLetter_16 : decode cX7_isLetter 16 = .ok (.iconst 0, 1) := by decide +kernel
theorem dX7_isLetter_17 : decode cX7_isLetter 17 = .ok (.ireturn, 1) := by decide +kernel
theorem dX7_isDigit_0 : decode cX7_isDigit 0 = .ok (.iload_n 0, 1) := by decide +kernel
theorem dX7_isDigit_1 : decode cX7_isDigit 1 = .ok (.bipush 48, 2) := by decide +kernel
theorem dX7_isDigit_3 : decode cX7_isDigit 3 = .ok (.if_icmp .lt 13, 3) := by decide +kernel
theorem dX7_isDigit_6 : decode cX7_isDigit 6 = .ok (.iload_n 0, 1) := by decide +kernel
theorem dX7_isDigit_7 : decode cX7_isDigit 7 = .ok (.bipush 57, 2) := by decide +kernel
theorem dX7_isDigit_9 : decode cX7_isDigit 9 = .ok (.if_icmp .gt 7, 3) := by decide +kernel
theorem dX7_isDigit_12 : decode cX7_isDigit 12 = .ok (.iconst 1, 1) := by decide +kernel
theorem dX7_isDigit_13 : decode cX7_isDigit 13 = .ok (.goto 4, 3) := by decide +kernel
theorem dX7_isDigit_16 : decode cX7_isDigit 16 = .ok (.iconst 0, 1) := by decide +kernel
theorem dX7_isDigit_17 : decode cX7_isDigit 17 = .ok (.ireturn, 1) := by decide +kernel
theorem dX8_init_0 : decode cX8_init 0 = .ok (.aload_n 0, 1) := by decide +kernel
theorem dX8_init_1 : decode cX8_init 1 = .ok (.invokespecial 3, 3) := by decide +kernel
theorem dX8_init_4 : decode cX8_init 4 = .ok (.aload_n 0, 1) := by decide +kernel
theorem dX8_init_5 : decode cX8_init 5 = .ok (.sipush 144, 3) := by decide +kernel
theorem dX8_init_8 : decode cX8_init 8 = .ok (.newarray .int, 2) := by decide +kernel
theorem dX8_init_10 : decode cX8_init 10 = .ok (.putfield 9, 3) := by decide +kernel
theorem dX8_init_13 : decode cX8_init 13 = .ok (.aload_n 0, 1) := by decide +kernel
theorem dX8_init_14 : decode cX8_init 14 = .ok (.sipush 4096, 3) := by decide +kernel
theorem dX8_init_17 : decode cX8_init 17 = .ok (.newarray .int, 2) := by decide +kernel
theorem dX8_init_19 : decode cX8_init 19 = .ok (.putfield 15, 3) := by decide +kernel
theorem dX8_init_22 : decode cX8_init 22 = .ok (.aload_n 0, 1) := by decide +kernel
theorem dX8_init_23 : decode cX8_init 23 = .ok (.bipush 12, 2) := by decide +kernel
theorem dX8_init_25 : decode cX8_init 25 = .ok (.newarray .int, 2) := by decide +kernel
theorem dX8_init_27 : decode cX8_init 27 = .ok (.putfield 18, 3) := by decide +kernel
theorem dX8_init_30 : decode cX8_init 30 = .ok (.aload_n 0, 1) := by decide +kernel
theorem dX8_init_31 : decode cX8_init 31 = .ok (.iconst 0, 1) := by decide +kernel
theorem dX8_init_32 : decode cX8_init 32 = .ok (.putfield 21, 3) := by decide +kernel
theorem dX8_init_35 : decode cX8_init 35 = .ok (.return_, 1) := by decide +kernel
theorem dX8_settle_0 : decode cX8_settle 0 = .ok (.aload_n 1, 1) := by decide +kernel
theorem dX8_settle_1 : decode cX8_settle 1 = .ok (.getfield 25, 3) := by decide +kernel
theorem dX8_settle_4 : decode cX8_settle 4 = .ok (.bipush 12, 2) := by decide +kernel
theorem dX8_settle_6 : decode cX8_settle 6 = .ok (.invokestatic 30, 3) := by decide +kernel
theorem dX8_settle_9 : decode cX8_settle 9 = .ok (.istore 5, 2) := by decide +kernel
theorem dX8_settle_11 : decode cX8_settle 11 = .ok (.iconst 0, 1) := by decide +kernel
theorem dX8_settle_12 : decode cX8_settle 12 = .ok (.istore 6, 2) := by decide +kernel
theorem dX8_settle_14 : decode cX8_settle 14 = .ok (.iload 6, 2) := by decide +kernel
theorem dX8_settle_16 : decode cX8_settle 16 = .ok (.iload 5, 2) := by decide +kernel
theorem dX8_settle_18 : decode cX8_settle 18 = .ok (.if_icmp .ge 83, 3) := by decide +kernel
theorem dX8_settle_21 : decode cX8_settle 21 = .ok (.iconst 0, 1) := by decide +kernel
theorem dX8_settle_22 : decode cX8_settle 22 = .ok (.istore 7, 2) := by decide +kernel
theorem dX8_settle_24 : decode cX8_settle 24 = .ok (.iload 7, 2) := by decide +kernel
theorem dX8_settle_26 : decode cX8_settle 26 = .ok (.iload 5, 2) := by decide +kernel
theorem dX8_settle_28 : decode cX8_settle 28 = .ok (.if_icmp .ge 67, 3) := by decide +kernel
theorem dX8_settle_31 : decode cX8_settle 31 = .ok (.aload_n 2, 1) := by decide +kernel
theorem dX8_settle_32 : decode cX8_settle 32 = .ok (.getfield 36, 3) := by decide +kernel
theorem dX8_settle_35 : decode cX8_settle 35 = .ok (.iload 6, 2) := by decide +kernel
theorem dX8_settle_37 : decode cX8_settle 37 = .ok (.iaload, 1) := by decide +kernel
theorem dX8_settle_38 : decode cX8_settle 38 = .ok (.aload_n 2, 1) := by decide +kernel
theorem dX8_settle_39 : decode cX8_settle 39 = .ok (.getfield 36, 3) := by decide +kernel
theorem dX8_settle_42 : decode cX8_settle 42 = .ok (.iload 7, 2) := by decide +kernel
theorem dX8_settle_44 : decode cX8_settle 44 = .ok (.iaload, 1) := by decide +kernel
theorem dX8_settle_45 : decode cX8_settle 45 = .ok (.if_icmp .ne 7, 3) := by decide +kernel
theorem dX8_settle_48 : decode cX8_settle 48 = .ok (.iconst 1, 1) := by decide +kernel
theorem dX8_settle_49 : decode cX8_settle 49 = .ok (.goto 4, 3) := by decide +kernel
theorem dX8_settle_52 : decode cX8_settle 52 = .ok (.iconst 0, 1) := by decide +kernel
theorem dX8_settle_53 : decode cX8_settle 53 = .ok (.istore 8, 2) := by decide +kernel
theorem dX8_settle_55 : decode cX8_settle 55 = .ok (.aload_n 0, 1) := by decide +kernel
theorem dX8_settle_56 : decode cX8_settle 56 = .ok (.getfield 9, 3) := by decide +kernel
theorem dX8_settle_59 : decode cX8_settle 59 = .ok (.iload 6, 2) := by decide +kernel
theorem dX8_settle_61 : decode cX8_settle 61 = .ok (.bipush 12, 2) := by decide +kernel
theorem dX8_settle_63 : decode cX8_settle 63 = .ok (.imul, 1) := by decide +kernel
theorem dX8_settle_64 : decode cX8_settle 64 = .ok (.iload 7, 2) := by decide +kernel
theorem dX8_settle_66 : decode cX8_settle 66 = .ok (.iadd, 1) := by decide +kernel
theorem dX8_settle_67 : decode cX8_settle 67 = .ok (.iload 8, 2) := by decide +kernel
theorem dX8_settle_69 : decode cX8_settle 69 = .ok (.ifCond .eq 7, 3) := by decide +kernel
theorem dX8_settle_72 : decode cX8_settle 72 = .ok (.iconst 0, 1) := by decide +kernel
theorem dX8_settle_73 : decode cX8_settle 73 = .ok (.goto 15, 3) := by decide +kernel
theorem dX8_settle_76 : decode cX8_settle 76 = .ok (.aload_n 3, 1) := by decide +kernel
theorem dX8_settle_77 : decode cX8_settle 77 = .ok (.aload_n 1, 1) := by decide +kernel
theorem dX8_settle_78 : decode cX8_settle 78 = .ok (.aload_n 2, 1) := by decide +kernel
theorem dX8_settle_79 : decode cX8_settle 79 = .ok (.iload 4, 2) := by decide +kernel
theorem dX8_settle_81 : decode cX8_settle 81 = .ok (.iload 6, 2) := by decide +kernel
theorem dX8_settle_83 : decode cX8_settle 83 = .ok (.iload 7, 2) := by decide +kernel
theorem dX8_settle_85 : decode cX8_settle 85 = .ok (.invokevirtual 41, 3) := by decide +kernel
theorem dX8_settle_88 : decode cX8_settle 88 = .ok (.iastore, 1) := by decide +kernel
theorem dX8_settle_89 : decode cX8_settle 89 = .ok (.iinc 7 1, 3) := by decide +kernel
theorem dX8_settle_92 : decode cX8_settle 92 = .ok (.goto (-68), 3) := by decide +kernel
theorem dX8_settle_95 : decode cX8_settle 95 = .ok (.iinc 6 1, 3) := by decide +kernel
theorem dX8_settle_98 : decode cX8_settle 98 = .ok (.goto (-84), 3) := by decide +kernel
theorem dX8_settle_101 : decode cX8_settle 101 = .ok (.aload_n 0, 1) := by decide +kernel
theorem dX8_settle_102 : decode cX8_settle 102 = .ok (.getfield 15, 3) := by decide +kernel
theorem dX8_settle_105 : decode cX8_settle 105 = .ok (.iconst 0, 1) := by decide +kernel
theorem dX8_settle_106 : decode cX8_settle 106 = .ok (.iconst 0, 1) := by decide +kernel
theorem dX8_settle_107 : decode cX8_settle 107 = .ok (.iastore, 1) := by decide +kernel
theorem dX8_settle_108 : decode cX8_settle 108 = .ok (.iconst 0, 1) := by decide +kernel
theorem dX8_settle_109 : decode cX8_settle 109 = .ok (.istore 6, 2) := by decide +kernel
theorem dX8_settle_111 : decode cX8_settle 111 = .ok (.iload 6, 2) := by decide +kernel
theorem dX8_settle_113 : decode cX8_settle 113 = .ok (.iload 5, 2) := by decide +kernel
theorem dX8_settle_115 : decode cX8_settle 115 = .ok (.if_icmp .ge 47, 3) := by decide +kernel
theorem dX8_settle_118 : decode cX8_settle 118 = .ok (.iconst 0, 1) := by decide +kernel
theorem dX8_settle_119 : decode cX8_settle 119 = .ok (.istore 7, 2) := by decide +kernel
theorem dX8_settle_121 : decode cX8_settle 121 = .ok (.iload 7, 2) := by decide +kernel
theorem dX8_settle_123 : decode cX8_settle 123 = .ok (.iconst 1, 1) := by decide +kernel
theorem dX8_settle_124 : decode cX8_settle 124 = .ok (.iload 6, 2) := by decide +kernel
theorem dX8_settle_126 : decode cX8_settle 126 = .ok (.ishl, 1) := by decide +kernel
theorem dX8_settle_127 : decode cX8_settle 127 = .ok (.if_icmp .ge 29, 3) := by decide +kernel
theorem dX8_settle_130 : decode cX8_settle 130 = .ok (.aload_n 0, 1) := by decide +kernel
theorem dX8_settle_131 : decode cX8_settle 131 = .ok (.getfield 15, 3) := by decide +kernel
theorem dX8_settle_134 : decode cX8_settle 134 = .ok (.iload 7, 2) := by decide +kernel
theorem dX8_settle_136 : decode cX8_settle 136 = .ok (.iconst 1, 1) := by decide +kernel
theorem dX8_settle_137 : decode cX8_settle 137 = .ok (.iload 6, 2) := by decide +kernel
theorem dX8_settle_139 : decode cX8_settle 139 = .ok (.ishl, 1) := by decide +kernel
theorem dX8_settle_140 : decode cX8_settle 140 = .ok (.ior, 1) := by decide +kernel
theorem dX8_settle_141 : decode cX8_settle 141 = .ok (.aload_n 0, 1) := by decide +kernel
theorem dX8_settle_142 : decode cX8_settle 142 = .ok (.iload 6, 2) := by decide +kernel
theorem dX8_settle_144 : decode cX8_settle 144 = .ok (.iload 7, 2) := by decide +kernel
theorem dX8_settle_146 : decode cX8_settle 146 = .ok (.invokevirtual 47, 3) := by decide +kernel
theorem dX8_settle_149 : decode cX8_settle 149 = .ok (.iastore, 1) := by decide +kernel
theorem dX8_settle_150 : decode cX8_settle 150 = .ok (.iinc 7 1, 3) := by decide +kernel
theorem dX8_settle_153 : decode cX8_settle 153 = .ok (.goto (-32), 3) := by decide +kernel
theorem dX8_settle_156 : decode cX8_settle 156 = .ok (.iinc 6 1, 3) := by decide +kernel
theorem dX8_settle_159 : decode cX8_settle 159 = .ok (.goto (-48), 3) := by decide +kernel
theorem dX8_settle_162 : decode cX8_settle 162 = .ok (.aload_n 0, 1) := by decide +kernel
theorem dX8_settle_163 : decode cX8_settle 163 = .ok (.aload_n 0, 1) := by decide +kernel
theorem dX8_settle_164 : decode cX8_settle 164 = .ok (.getfield 15, 3) := by decide +kernel
theorem dX8_settle_167 : decode cX8_settle 167 = .ok (.iconst 1, 1) := by decide +kernel
theorem dX8_settle_168 : decode cX8_settle 168 = .ok (.iload 5, 2) := by decide +kernel
theorem dX8_settle_170 : decode cX8_settle 170 = .ok (.ishl, 1) := by decide +kernel
theorem dX8_settle_171 : decode cX8_settle 171 = .ok (.iconst 1, 1) := by decide +kernel
theorem dX8_settle_172 : decode cX8_settle 172 = .ok (.isub, 1) := by decide +kernel
theorem dX8_settle_173 : decode cX8_settle 173 = .ok (.iaload, 1) := by decide +kernel
theorem dX8_settle_174 : decode cX8_settle 174 = .ok (.putfield 21, 3) := by decide +kernel
theorem dX8_settle_177 : decode cX8_settle 177 = .ok (.aload_n 0, 1) := by decide +kernel
theorem dX8_settle_178 : decode cX8_settle 178 = .ok (.iload 5, 2) := by decide +kernel
theorem dX8_settle_180 : decode cX8_settle 180 = .ok (.invokevirtual 50, 3) := by decide +kernel
theorem dX8_settle_183 : decode cX8_settle 183 = .ok (.return_, 1) := by decide +kernel
theorem dX8_mostWith_0 : decode cX8_mostWith 0 = .ok (.aload_n 0, 1) := by decide +kernel
theorem dX8_mostWith_1 : decode cX8_mostWith 1 = .ok (.getfield 15, 3) := by decide +kernel
theorem dX8_mostWith_4 : decode cX8_mostWith 4 = .ok (.iload_n 2, 1) := by decide +kernel
theorem dX8_mostWith_5 : decode cX8_mostWith 5 = .ok (.iaload, 1) := by decide +kernel
theorem dX8_mostWith_6 : decode cX8_mostWith 6 = .ok (.istore_n 3, 1) := by decide +kernel
theorem dX8_mostWith_7 : decode cX8_mostWith 7 = .ok (.iconst 0, 1) := by decide +kernel
theorem dX8_mostWith_8 : decode cX8_mostWith 8 = .ok (.istore 4, 2) := by decide +kernel
theorem dX8_mostWith_10 : decode cX8_mostWith 10 = .ok (.iload 4, 2) := by decide +kernel
theorem dX8_mostWith_12 : decode cX8_mostWith 12 = .ok (.iload_n 1, 1) := by decide +kernel
theorem dX8_mostWith_13 : decode cX8_mostWith 13 = .ok (.if_icmp .ge 59, 3) := by decide +kernel
theorem dX8_mostWith_16 : decode cX8_mostWith 16 = .ok (.aload_n 0, 1) := by decide +kernel
theorem dX8_mostWith_17 : decode cX8_mostWith 17 = .ok (.getfield 9, 3) := by decide +kernel
theorem dX8_mostWith_20 : decode cX8_mostWith 20 = .ok (.iload_n 1, 1) := by decide +kernel
theorem dX8_mostWith_21 : decode cX8_mostWith 21 = .ok (.bipush 12, 2) := by decide +kernel
theorem dX8_mostWith_23 : decode cX8_mostWith 23 = .ok (.imul, 1) := by decide +kernel
theorem dX8_mostWith_24 : decode cX8_mostWith 24 = .ok (.iload 4, 2) := by decide +kernel
theorem dX8_mostWith_26 : decode cX8_mostWith 26 = .ok (.iadd, 1) := by decide +kernel
theorem dX8_mostWith_27 : decode cX8_mostWith 27 = .ok (.iaload, 1) := by decide +kernel
theorem dX8_mostWith_28 : decode cX8_mostWith 28 = .ok (.istore 5, 2) := by decide +kernel
theorem dX8_mostWith_30 : decode cX8_mostWith 30 = .ok (.iload_n 2, 1) := by decide +kernel
theorem dX8_mostWith_31 : decode cX8_mostWith 31 = .ok (.iload 4, 2) := by decide +kernel
theorem dX8_mostWith_33 : decode cX8_mostWith 33 = .ok (.ishr, 1) := by decide +kernel
theorem dX8_mostWith_34 : decode cX8_mostWith 34 = .ok (.iconst 1, 1) := by decide +kernel
theorem dX8_mostWith_35 : decode cX8_mostWith 35 = .ok (.iand, 1) := by decide +kernel
theorem dX8_mostWith_36 : decode cX8_mostWith 36 = .ok (.iconst 1, 1) := by decide +kernel
theorem dX8_mostWith_37 : decode cX8_mostWith 37 = .ok (.if_icmp .ne 29, 3) := by decide +kernel
theorem dX8_mostWith_40 : decode cX8_mostWith 40 = .ok (.iload 5, 2) := by decide +kernel
theorem dX8_mostWith_42 : decode cX8_mostWith 42 = .ok (.ifCond .le 24, 3) := by decide +kernel
theorem dX8_mostWith_45 : decode cX8_mostWith 45 = .ok (.iload_n 3, 1) := by decide +kernel
theorem dX8_mostWith_46 : decode cX8_mostWith 46 = .ok (.iload 5, 2) := by decide +kernel
theorem dX8_mostWith_48 : decode cX8_mostWith 48 = .ok (.aload_n 0, 1) := by decide +kernel
theorem dX8_mostWith_49 : decode cX8_mostWith 49 = .ok (.getfield 15, 3) := by decide +kernel
theorem dX8_mostWith_52 : decode cX8_mostWith 52 = .ok (.iload_n 2, 1) := by decide +kernel
theorem dX8_mostWith_53 : decode cX8_mostWith 53 = .ok (.iconst 1, 1) := by decide +kernel
theorem dX8_mostWith_54 : decode cX8_mostWith 54 = .ok (.iload 4, 2) := by decide +kernel
theorem dX8_mostWith_56 : decode cX8_mostWith 56 = .ok (.ishl, 1) := by decide +kernel
theorem dX8_mostWith_57 : decode cX8_mostWith 57 = .ok (.iconst (-1), 1) := by decide +kernel
theorem dX8_mostWith_58 : decode cX8_mostWith 58 = .ok (.ixor, 1) := by decide +kernel
theorem dX8_mostWith_59 : decode cX8_mostWith 59 = .ok (.iand, 1) := by decide +kernel
theorem dX8_mostWith_60 : decode cX8_mostWith 60 = .ok (.iaload, 1) := by decide +kernel
theorem dX8_mostWith_61 : decode cX8_mostWith 61 = .ok (.iadd, 1) := by decide +kernel
theorem dX8_mostWith_62 : decode cX8_mostWith 62 = .ok (.invokestatic 54, 3) := by decide +kernel
theorem dX8_mostWith_65 : decode cX8_mostWith 65 = .ok (.istore_n 3, 1) := by decide +kernel
theorem dX8_mostWith_66 : decode cX8_mostWith 66 = .ok (.iinc 4 1, 3) := by decide +kernel
theorem dX8_mostWith_69 : decode cX8_mostWith 69 = .ok (.goto (-59), 3) := by decide +kernel
theorem dX8_mostWith_72 : decode cX8_mostWith 72 = .ok (.iload_n 3, 1) := by decide +kernel
theorem dX8_mostWith_73 : decode cX8_mostWith 73 = .ok (.ireturn, 1) := by decide +kernel
theorem dX8_choose_0 : decode cX8_choose 0 = .ok (.iconst 1, 1) := by decide +kernel
theorem dX8_choose_1 : decode cX8_choose 1 = .ok (.iload_n 1, 1) := by decide +kernel
theorem dX8_choose_2 : decode cX8_choose 2 = .ok (.ishl, 1) := by decide +kernel
theorem dX8_choose_3 : decode cX8_choose 3 = .ok (.iconst 1, 1) := by decide +kernel
theorem dX8_choose_4 : decode cX8_choose 4 = .ok (.isub, 1) := by decide +kernel
theorem dX8_choose_5 : decode cX8_choose 5 = .ok (.istore_n 2, 1) := by decide +kernel
theorem dX8_choose_6 : decode cX8_choose 6 = .ok (.iconst 0, 1) := by decide +kernel
theorem dX8_choose_7 : decode cX8_choose 7 = .ok (.istore_n 3, 1) := by decide +kernel
theorem dX8_choose_8 : decode cX8_choose 8 = .ok (.iload_n 3, 1) := by decide +kernel
theorem dX8_choose_9 : decode cX8_choose 9 = .ok (.iload_n 1, 1) := by decide +kernel
theorem dX8_choose_10 : decode cX8_choose 10 = .ok (.if_icmp .ge 69, 3) := by decide +kernel
theorem dX8_choose_13 : decode cX8_choose 13 = .ok (.iload_n 2, 1) := by decide +kernel
theorem dX8_choose_14 : decode cX8_choose 14 = .ok (.iload_n 3, 1) := by decide +kernel
theorem dX8_choose_15 : decode cX8_choose 15 = .ok (.ishr, 1) := by decide +kernel
theorem dX8_choose_16 : decode cX8_choose 16 = .ok (.iconst 1, 1) := by decide +kernel
theorem dX8_choose_17 : decode cX8_choose 17 = .ok (.iand, 1) := by decide +kernel
theorem dX8_choose_18 : decode cX8_choose 18 = .ok (.iconst 1, 1) := by decide +kernel
theorem dX8_choose_19 : decode cX8_choose 19 = .ok (.if_icmp .ne 54, 3) := by decide +kernel
theorem dX8_choose_22 : decode cX8_choose 22 = .ok (.iload_n 2, 1) := by decide +kernel
theorem dX8_choose_23 : decode cX8_choose 23 = .ok (.iconst 1, 1) := by decide +kernel
theorem dX8_choose_24 : decode cX8_choose 24 = .ok (.iload_n 3, 1) := by decide +kernel
theorem dX8_choose_25 : decode cX8_choose 25 = .ok (.ishl, 1) := by decide +kernel
theorem dX8_choose_26 : decode cX8_choose 26 = .ok (.iconst (-1), 1) := by decide +kernel
theorem dX8_choose_27 : decode cX8_choose 27 = .ok (.ixor, 1) := by decide +kernel
theorem dX8_choose_28 : decode cX8_choose 28 = .ok (.iand, 1) := by decide +kernel
theorem dX8_choose_29 : decode cX8_choose 29 = .ok (.istore 4, 2) := by decide +kernel
theorem dX8_choose_31 : decode cX8_choose 31 = .ok (.aload_n 0, 1) := by decide +kernel
theorem dX8_choose_32 : decode cX8_choose 32 = .ok (.iload_n 3, 1) := by decide +kernel
theorem dX8_choose_33 : decode cX8_choose 33 = .ok (.iload 4, 2) := by decide +kernel
theorem dX8_choose_35 : decode cX8_choose 35 = .ok (.aload_n 0, 1) := by decide +kernel
theorem dX8_choose_36 : decode cX8_choose 36 = .ok (.getfield 15, 3) := by decide +kernel
theorem dX8_choose_39 : decode cX8_choose 39 = .ok (.iload_n 2, 1) := by decide +kernel
theorem dX8_choose_40 : decode cX8_choose 40 = .ok (.iaload, 1) := by decide +kernel
theorem dX8_choose_41 : decode cX8_choose 41 = .ok (.iload_n 1, 1) := by decide +kernel
theorem dX8_choose_42 : decode cX8_choose 42 = .ok (.invokevirtual 57, 3) := by decide +kernel
theorem dX8_choose_45 : decode cX8_choose 45 = .ok (.istore 5, 2) := by decide +kernel
theorem dX8_choose_47 : decode cX8_choose 47 = .ok (.aload_n 0, 1) := by decide +kernel
theorem dX8_choose_48 : decode cX8_choose 48 = .ok (.getfield 18, 3) := by decide +kernel
theorem dX8_choose_51 : decode cX8_choose 51 = .ok (.iload_n 3, 1) := by decide +kernel
theorem dX8_choose_52 : decode cX8_choose 52 = .ok (.iload 5, 2) := by decide +kernel
theorem dX8_choose_54 : decode cX8_choose 54 = .ok (.iastore, 1) := by decide +kernel
theorem dX8_choose_55 : decode cX8_choose 55 = .ok (.aload_n 0, 1) := by decide +kernel
theorem dX8_choose_56 : decode cX8_choose 56 = .ok (.getfield 18, 3) := by decide +kernel
theorem dX8_choose_59 : decode cX8_choose 59 = .ok (.iload 5, 2) := by decide +kernel
theorem dX8_choose_61 : decode cX8_choose 61 = .ok (.iload_n 3, 1) := by decide +kernel
theorem dX8_choose_62 : decode cX8_choose 62 = .ok (.iastore, 1) := by decide +kernel
theorem dX8_choose_63 : decode cX8_choose 63 = .ok (.iload 4, 2) := by decide +kernel
theorem dX8_choose_65 : decode cX8_choose 65 = .ok (.iconst 1, 1) := by decide +kernel
theorem dX8_choose_66 : decode cX8_choose 66 = .ok (.iload 5, 2) := by decide +kernel
theorem dX8_choose_68 : decode cX8_choose 68 = .ok (.ishl, 1) := by decide +kernel
theorem dX8_choose_69 : decode cX8_choose 69 = .ok (.iconst (-1), 1) := by decide +kernel
theorem dX8_choose_70 : decode cX8_choose 70 = .ok (.ixor, 1) := by decide +kernel
theorem dX8_choose_71 : decode cX8_choose 71 = .ok (.iand, 1) := by decide +kernel
theorem dX8_choose_72 : decode cX8_choose 72 = .ok (.istore_n 2, 1) := by decide +kernel
theorem dX8_choose_73 : decode cX8_choose 73 = .ok (.iinc 3 1, 3) := by decide +kernel
theorem dX8_choose_76 : decode cX8_choose 76 = .ok (.goto (-68), 3) := by decide +kernel
theorem dX8_choose_79 : decode cX8_choose 79 = .ok (.return_, 1) := by decide +kernel
theorem dX8_leastPartner_0 : decode cX8_leastPartner 0 = .ok (.aload_n 0, 1) := by decide +kernel
theorem dX8_leastPartner_1 : decode cX8_leastPartner 1 = .ok (.getfield 15, 3) := by decide +kernel
theorem dX8_leastPartner_4 : decode cX8_leastPartner 4 = .ok (.iload_n 2, 1) := by decide +kernel
theorem dX8_leastPartner_5 : decode cX8_leastPartner 5 = .ok (.iaload, 1) := by decide +kernel
theorem dX8_leastPartner_6 : decode cX8_leastPartner 6 = .ok (.iload_n 3, 1) := by decide +kernel
theorem dX8_leastPartner_7 : decode cX8_leastPartner 7 = .ok (.if_icmp .ne 5, 3) := by decide +kernel
theorem dX8_leastPartner_10 : decode cX8_leastPartner 10 = .ok (.iload_n 1, 1) := by decide +kernel
theorem dX8_leastPartner_11 : decode cX8_leastPartner 11 = .ok (.ireturn, 1) := by decide +kernel
theorem dX8_leastPartner_12 : decode cX8_leastPartner 12 = .ok (.iload_n 1, 1) := by decide +kernel
theorem dX8_leastPartner_13 : decode cX8_leastPartner 13 = .ok (.iconst 1, 1) := by decide +kernel
theorem dX8_leastPartner_14 : decode cX8_leastPartner 14 = .ok (.iadd, 1) := by decide +kernel
theorem dX8_leastPartner_15 : decode cX8_leastPartner 15 = .ok (.istore 5, 2) := by decide +kernel
theorem dX8_leastPartner_17 : decode cX8_leastPartner 17 = .ok (.iload 5, 2) := by decide +kernel
theorem dX8_leastPartner_19 : decode cX8_leastPartner 19 = .ok (.iload 4, 2) := by decide +kernel
theorem dX8_leastPartner_21 : decode cX8_leastPartner 21 = .ok (.if_icmp .ge 61, 3) := by decide +kernel
theorem dX8_leastPartner_24 : decode cX8_leastPartner 24 = .ok (.aload_n 0, 1) := by decide +kernel
theorem dX8_leastPartner_25 : decode cX8_leastPartner 25 = .ok (.getfield 9, 3) := by decide +kernel
theorem dX8_leastPartner_28 : decode cX8_leastPartner 28 = .ok (.iload_n 1, 1) := by decide +kernel
theorem dX8_leastPartner_29 : decode cX8_leastPartner 29 = .ok (.bipush 12, 2) := by decide +kernel
theorem dX8_leastPartner_31 : decode cX8_leastPartner 31 = .ok (.imul, 1) := by decide +kernel
theorem dX8_leastPartner_32 : decode cX8_leastPartner 32 = .ok (.iload 5, 2) := by decide +kernel
theorem dX8_leastPartner_34 : decode cX8_leastPartner 34 = .ok (.iadd, 1) := by decide +kernel
theorem dX8_leastPartner_35 : decode cX8_leastPartner 35 = .ok (.iaload, 1) := by decide +kernel
theorem dX8_leastPartner_36 : decode cX8_leastPartner 36 = .ok (.istore 6, 2) := by decide +kernel
theorem dX8_leastPartner_38 : decode cX8_leastPartner 38 = .ok (.iload_n 2, 1) := by decide +kernel
theorem dX8_leastPartner_39 : decode cX8_leastPartner 39 = .ok (.iload 5, 2) := by decide +kernel
theorem dX8_leastPartner_41 : decode cX8_leastPartner 41 = .ok (.ishr, 1) := by decide +kernel
theorem dX8_leastPartner_42 : decode cX8_leastPartner 42 = .ok (.iconst 1, 1) := by decide +kernel
theorem dX8_leastPartner_43 : decode cX8_leastPartner 43 = .ok (.iand, 1) := by decide +kernel
theorem dX8_leastPartner_44 : decode cX8_leastPartner 44 = .ok (.iconst 1, 1) := by decide +kernel
theorem dX8_leastPartner_45 : decode cX8_leastPartner 45 = .ok (.if_icmp .ne 31, 3) := by decide +kernel
theorem dX8_leastPartner_48 : decode cX8_leastPartner 48 = .ok (.iload 6, 2) := by decide +kernel
theorem dX8_leastPartner_50 : decode cX8_leastPartner 50 = .ok (.ifCond .le 26, 3) := by decide +kernel
theorem dX8_leastPartner_53 : decode cX8_leastPartner 53 = .ok (.iload 6, 2) := by decide +kernel
theorem dX8_leastPartner_55 : decode cX8_leastPartner 55 = .ok (.aload_n 0, 1) := by decide +kernel
theorem dX8_leastPartner_56 : decode cX8_leastPartner 56 = .ok (.getfield 15, 3) := by decide +kernel
theorem dX8_leastPartner_59 : decode cX8_leastPartner 59 = .ok (.iload_n 2, 1) := by decide +kernel
theorem dX8_leastPartner_60 : decode cX8_leastPartner 60 = .ok (.iconst 1, 1) := by decide +kernel
theorem dX8_leastPartner_61 : decode cX8_leastPartner 61 = .ok (.iload 5, 2) := by decide +kernel
theorem dX8_leastPartner_63 : decode cX8_leastPartner 63 = .ok (.ishl, 1) := by decide +kernel
theorem dX8_leastPartner_64 : decode cX8_leastPartner 64 = .ok (.iconst (-1), 1) := by decide +kernel
theorem dX8_leastPartner_65 : decode cX8_leastPartner 65 = .ok (.ixor, 1) := by decide +kernel
theorem dX8_leastPartner_66 : decode cX8_leastPartner 66 = .ok (.iand, 1) := by decide +kernel
theorem dX8_leastPartner_67 : decode cX8_leastPartner 67 = .ok (.iaload, 1) := by decide +kernel
theorem dX8_leastPartner_68 : decode cX8_leastPartner 68 = .ok (.iadd, 1) := by decide +kernel
theorem dX8_leastPartner_69 : decode cX8_leastPartner 69 = .ok (.iload_n 3, 1) := by decide +kernel
theorem dX8_leastPartner_70 : decode cX8_leastPartner 70 = .ok (.if_icmp .ne 6, 3) := by decide +kernel
theorem dX8_leastPartner_73 : decode cX8_leastPartner 73 = .ok (.iload 5, 2) := by decide +kernel
theorem dX8_leastPartner_75 : decode cX8_leastPartner 75 = .ok (.ireturn, 1) := by decide +kernel
theorem dX8_leastPartner_76 : decode cX8_leastPartner 76 = .ok (.iinc 5 1, 3) := by decide +kernel
theorem dX8_leastPartner_79 : decode cX8_leastPartner 79 = .ok (.goto (-62), 3) := by decide +kernel
theorem dX8_leastPartner_82 : decode cX8_leastPartner 82 = .ok (.iload_n 1, 1) := by decide +kernel
theorem dX8_leastPartner_83 : decode cX8_leastPartner 83 = .ok (.ireturn, 1) := by decide +kernel
theorem dX9_init_0 : decode cX9_init 0 = .ok (.aload_n 0, 1) := by decide +kernel
theorem dX9_init_1 : decode cX9_init 1 = .ok (.invokespecial 3, 3) := by decide +kernel
theorem dX9_init_4 : decode cX9_init 4 = .ok (.aload_n 0, 1) := by decide +kernel
theorem dX9_init_5 : decode cX9_init 5 = .ok (.bipush 64, 2) := by decide +kernel
theorem dX9_init_7 : decode cX9_init 7 = .ok (.newarray .int, 2) := by decide +kernel
theorem dX9_init_9 : decode cX9_init 9 = .ok (.putfield 9, 3) := by decide +kernel
theorem dX9_init_12 : decode cX9_init 12 = .ok (.aload_n 0, 1) := by decide +kernel
theorem dX9_init_13 : decode cX9_init 13 = .ok (.bipush 64, 2) := by decide +kernel
theorem dX9_init_15 : decode cX9_init 15 = .ok (.newarray .int, 2) := by decide +kernel
theorem dX9_init_17 : decode cX9_init 17 = .ok (.putfield 15, 3) := by decide +kernel
theorem dX9_init_20 : decode cX9_init 20 = .ok (.aload_n 0, 1) := by decide +kernel
theorem dX9_init_21 : decode cX9_init 21 = .ok (.bipush 64, 2) := by decide +kernel
theorem dX9_init_23 : decode cX9_init 23 = .ok (.newarray .int, 2) := by decide +kernel
theorem dX9_init_25 : decode cX9_init 25 = .ok (.putfield 18, 3) := by decide +kernel
theorem dX9_init_28 : decode cX9_init 28 = .ok (.return_, 1) := by decide +kernel
theorem dX9_rowsOf_0 : decode cX9_rowsOf 0 = .ok (.aload_n 0, 1) := by decide +kernel
theorem dX9_rowsOf_1 : decode cX9_rowsOf 1 = .ok (.aload_n 1, 1) := by decide +kernel
theorem dX9_rowsOf_2 : decode cX9_rowsOf 2 = .ok (.iload_n 2, 1) := by decide +kernel
theorem dX9_rowsOf_3 : decode cX9_rowsOf 3 = .ok (.iload_n 3, 1) := by decide +kernel
theorem dX9_rowsOf_4 : decode cX9_rowsOf 4 = .ok (.iload 5, 2) := by decide +kernel
theorem dX9_rowsOf_6 : decode cX9_rowsOf 6 = .ok (.iconst 0, 1) := by decide +kernel
theorem dX9_rowsOf_7 : decode cX9_rowsOf 7 = .ok (.iload 4, 2) := by decide +kernel
theorem dX9_rowsOf_9 : decode cX9_rowsOf 9 = .ok (.iconst 1, 1) := by decide +kernel
theorem dX9_rowsOf_10 : decode cX9_rowsOf 10 = .ok (.isub, 1) := by decide +kernel
theorem dX9_rowsOf_11 : decode cX9_rowsOf 11 = .ok (.aload_n 0, 1) := by decide +kernel
theorem dX9_rowsOf_12 : decode cX9_rowsOf 12 = .ok (.getfield 9, 3) := by decide +kernel
theorem dX9_rowsOf_15 : decode cX9_rowsOf 15 = .ok (.invokevirtual 21, 3) := by decide +kernel
theorem dX9_rowsOf_18 : decode cX9_rowsOf 18 = .ok (.iconst 0, 1) := by decide +kernel
theorem dX9_rowsOf_19 : decode cX9_rowsOf 19 = .ok (.istore 6, 2) := by decide +kernel
theorem dX9_rowsOf_21 : decode cX9_rowsOf 21 = .ok (.iconst 0, 1) := by decide +kernel
theorem dX9_rowsOf_22 : decode cX9_rowsOf 22 = .ok (.istore 7, 2) := by decide +kernel
theorem dX9_rowsOf_24 : decode cX9_rowsOf 24 = .ok (.iload 7, 2) := by decide +kernel
theorem dX9_rowsOf_26 : decode cX9_rowsOf 26 = .ok (.bipush 64, 2) := by decide +kernel
theorem dX9_rowsOf_28 : decode cX9_rowsOf 28 = .ok (.if_icmp .ge 21, 3) := by decide +kernel
theorem dX9_rowsOf_31 : decode cX9_rowsOf 31 = .ok (.iload 6, 2) := by decide +kernel
theorem dX9_rowsOf_33 : decode cX9_rowsOf 33 = .ok (.aload_n 0, 1) := by decide +kernel
theorem dX9_rowsOf_34 : decode cX9_rowsOf 34 = .ok (.getfield 9, 3) := by decide +kernel
theorem dX9_rowsOf_37 : decode cX9_rowsOf 37 = .ok (.iload 7, 2) := by decide +kernel
theorem dX9_rowsOf_39 : decode cX9_rowsOf 39 = .ok (.iaload, 1) := by decide +kernel
theorem dX9_rowsOf_40 : decode cX9_rowsOf 40 = .ok (.iadd, 1) := by decide +kernel
theorem dX9_rowsOf_41 : decode cX9_rowsOf 41 = .ok (.istore 6, 2) := by decide +kernel
theorem dX9_rowsOf_43 : decode cX9_rowsOf 43 = .ok (.iinc 7 1, 3) := by decide +kernel
theorem dX9_rowsOf_46 : decode cX9_rowsOf 46 = .ok (.goto (-22), 3) := by decide +kernel
theorem dX9_rowsOf_49 : decode cX9_rowsOf 49 = .ok (.iload 6, 2) := by decide +kernel
theorem dX9_rowsOf_51 : decode cX9_rowsOf 51 = .ok (.ireturn, 1) := by decide +kernel
theorem dX9_meet_0 : decode cX9_meet 0 = .ok (.aload_n 0, 1) := by decide +kernel
theorem dX9_meet_1 : decode cX9_meet 1 = .ok (.aload_n 1, 1) := by decide +kernel
theorem dX9_meet_2 : decode cX9_meet 2 = .ok (.iload_n 2, 1) := by decide +kernel
theorem dX9_meet_3 : decode cX9_meet 3 = .ok (.iload_n 3, 1) := by decide +kernel
theorem dX9_meet_4 : decode cX9_meet 4 = .ok (.iload 5, 2) := by decide +kernel
theorem dX9_meet_6 : decode cX9_meet 6 = .ok (.iload 4, 2) := by decide +kernel
theorem dX9_meet_8 : decode cX9_meet 8 = .ok (.iconst 1, 1) := by decide +kernel
theorem dX9_meet_9 : decode cX9_meet 9 = .ok (.isub, 1) := by decide +kernel
theorem dX9_meet_10 : decode cX9_meet 10 = .ok (.iload 6, 2) := by decide +kernel
theorem dX9_meet_12 : decode cX9_meet 12 = .ok (.aload_n 0, 1) := by decide +kernel
theorem dX9_meet_13 : decode cX9_meet 13 = .ok (.getfield 15, 3) := by decide +kernel
theorem dX9_meet_16 : decode cX9_meet 16 = .ok (.invokevirtual 21, 3) := by decide +kernel
theorem dX9_meet_19 : decode cX9_meet 19 = .ok (.aload_n 0, 1) := by decide +kernel
theorem dX9_meet_20 : decode cX9_meet 20 = .ok (.aload_n 1, 1) := by decide +kernel
theorem dX9_meet_21 : decode cX9_meet 21 = .ok (.iload_n 2, 1) := by decide +kernel
theorem dX9_meet_22 : decode cX9_meet 22 = .ok (.iload_n 3, 1) := by decide +kernel
theorem dX9_meet_23 : decode cX9_meet 23 = .ok (.iload 5, 2) := by decide +kernel
theorem dX9_meet_25 : decode cX9_meet 25 = .ok (.iconst 0, 1) := by decide +kernel
theorem dX9_meet_26 : decode cX9_meet 26 = .ok (.iload 6, 2) := by decide +kernel
theorem dX9_meet_28 : decode cX9_meet 28 = .ok (.aload_n 0, 1) := by decide +kernel
theorem dX9_meet_29 : decode cX9_meet 29 = .ok (.getfield 9, 3) := by decide +kernel
theorem dX9_meet_32 : decode cX9_meet 32 = .ok (.invokevirtual 21, 3) := by decide +kernel
theorem dX9_meet_35 : decode cX9_meet 35 = .ok (.return_, 1) := by decide +kernel
theorem dX9_passes_0 : decode cX9_passes 0 = .ok (.aload_n 0, 1) := by decide +kernel
theorem dX9_passes_1 : decode cX9_passes 1 = .ok (.getfield 9, 3) := by decide +kernel
theorem dX9_passes_4 : decode cX9_passes 4 = .ok (.iload_n 1, 1) := by decide +kernel
theorem dX9_passes_5 : decode cX9_passes 5 = .ok (.iaload, 1) := by decide +kernel
theorem dX9_passes_6 : decode cX9_passes 6 = .ok (.ifCond .le 16, 3) := by decide +kernel
theorem dX9_passes_9 : decode cX9_passes 9 = .ok (.aload_n 0, 1) := by decide +kernel
theorem dX9_passes_10 : decode cX9_passes 10 = .ok (.getfield 15, 3) := by decide +kernel
theorem dX9_passes_13 : decode cX9_passes 13 = .ok (.iload_n 1, 1) := by decide +kernel
theorem dX9_passes_14 : decode cX9_passes 14 = .ok (.iaload, 1) := by decide +kernel
theorem dX9_passes_15 : decode cX9_passes 15 = .ok (.ifCond .le 7, 3) := by decide +kernel
theorem dX9_passes_18 : decode cX9_passes 18 = .ok (.iconst 1, 1) := by decide +kernel
theorem dX9_passes_19 : decode cX9_passes 19 = .ok (.goto 4, 3) := by decide +kernel
theorem dX9_passes_22 : decode cX9_passes 22 = .ok (.iconst 0, 1) := by decide +kernel
theorem dX9_passes_23 : decode cX9_passes 23 = .ok (.ireturn, 1) := by decide +kernel
theorem dX9_go_0 : decode cX9_go 0 = .ok (.iload 5, 2) := by decide +kernel
theorem dX9_go_2 : decode cX9_go 2 = .ok (.iload 6, 2) := by decide +kernel
theorem dX9_go_4 : decode cX9_go 4 = .ok (.if_icmp .gt 7, 3) := by decide +kernel
theorem dX9_go_7 : decode cX9_go 7 = .ok (.iconst 1, 1) := by decide +kernel
theorem dX9_go_8 : decode cX9_go 8 = .ok (.goto 4, 3) := by decide +kernel
theorem dX9_go_11 : decode cX9_go 11 = .ok (.iconst (-1), 1) := by decide +kernel
theorem dX9_go_12 : decode cX9_go 12 = .ok (.istore 8, 2) := by decide +kernel
theorem dX9_go_14 : decode cX9_go 14 = .ok (.aload 7, 2) := by decide +kernel
theorem dX9_go_16 : decode cX9_go 16 = .ok (.iconst 1, 1) := by decide +kernel
theorem dX9_go_17 : decode cX9_go 17 = .ok (.invokestatic 25, 3) := by decide +kernel
theorem dX9_go_20 : decode cX9_go 20 = .ok (.aload_n 1, 1) := by decide +kernel
theorem dX9_go_21 : decode cX9_go 21 = .ok (.iload_n 2, 1) := by decide +kernel
theorem dX9_go_22 : decode cX9_go 22 = .ok (.iload_n 3, 1) := by decide +kernel
theorem dX9_go_23 : decode cX9_go 23 = .ok (.iload 4, 2) := by decide +kernel
theorem dX9_go_25 : decode cX9_go 25 = .ok (.iload 5, 2) := by decide +kernel
theorem dX9_go_27 : decode cX9_go 27 = .ok (.aload 7, 2) := by decide +kernel
theorem dX9_go_29 : decode cX9_go 29 = .ok (.invokestatic 31, 3) := by decide +kernel
theorem dX9_go_32 : decode cX9_go 32 = .ok (.iconst 1, 1) := by decide +kernel
theorem dX9_go_33 : decode cX9_go 33 = .ok (.istore 9, 2) := by decide +kernel
theorem dX9_go_35 : decode cX9_go 35 = .ok (.iload 9, 2) := by decide +kernel
theorem dX9_go_37 : decode cX9_go 37 = .ok (.iload 6, 2) := by decide +kernel
theorem dX9_go_39 : decode cX9_go 39 = .ok (.iload 5, 2) := by decide +kernel
theorem dX9_go_41 : decode cX9_go 41 = .ok (.isub, 1) := by decide +kernel
theorem dX9_go_42 : decode cX9_go 42 = .ok (.invokestatic 35, 3) := by decide +kernel
theorem dX9_go_45 : decode cX9_go 45 = .ok (.if_icmp .gt 70, 3) := by decide +kernel
theorem dX9_go_48 : decode cX9_go 48 = .ok (.iconst 0, 1) := by decide +kernel
theorem dX9_go_49 : decode cX9_go 49 = .ok (.istore 10, 2) := by decide +kernel
theorem dX9_go_51 : decode cX9_go 51 = .ok (.iload 10, 2) := by decide +kernel
theorem dX9_go_53 : decode cX9_go 53 = .ok (.bipush 64, 2) := by decide +kernel
theorem dX9_go_55 : decode cX9_go 55 = .ok (.if_icmp .ge 23, 3) := by decide +kernel
theorem dX9_go_58 : decode cX9_go 58 = .ok (.aload_n 0, 1) := by decide +kernel
theorem dX9_go_59 : decode cX9_go 59 = .ok (.getfield 18, 3) := by decide +kernel
theorem dX9_go_62 : decode cX9_go 62 = .ok (.iload 10, 2) := by decide +kernel
theorem dX9_go_64 : decode cX9_go 64 = .ok (.aload 7, 2) := by decide +kernel
theorem dX9_go_66 : decode cX9_go 66 = .ok (.iload 10, 2) := by decide +kernel
theorem dX9_go_68 : decode cX9_go 68 = .ok (.invokestatic 41, 3) := by decide +kernel
theorem dX9_go_71 : decode cX9_go 71 = .ok (.iastore, 1) := by decide +kernel
theorem dX9_go_72 : decode cX9_go 72 = .ok (.iinc 10 1, 3) := by decide +kernel
theorem dX9_go_75 : decode cX9_go 75 = .ok (.goto (-24), 3) := by decide +kernel
theorem dX9_go_78 : decode cX9_go 78 = .ok (.aload_n 0, 1) := by decide +kernel
theorem dX9_go_79 : decode cX9_go 79 = .ok (.getfield 18, 3) := by decide +kernel
theorem dX9_go_82 : decode cX9_go 82 = .ok (.iconst 0, 1) := by decide +kernel
theorem dX9_go_83 : decode cX9_go 83 = .ok (.aload 7, 2) := by decide +kernel
theorem dX9_go_85 : decode cX9_go 85 = .ok (.iconst 0, 1) := by decide +kernel
theorem dX9_go_86 : decode cX9_go 86 = .ok (.bipush 64, 2) := by decide +kernel
theorem dX9_go_88 : decode cX9_go 88 = .ok (.invokestatic 45, 3) := by decide +kernel
theorem dX9_go_91 : decode cX9_go 91 = .ok (.aload_n 1, 1) := by decide +kernel
theorem dX9_go_92 : decode cX9_go 92 = .ok (.iload_n 2, 1) := by decide +kernel
theorem dX9_go_93 : decode cX9_go 93 = .ok (.iload_n 3, 1) := by decide +kernel
theorem dX9_go_94 : decode cX9_go 94 = .ok (.iload 4, 2) := by decide +kernel
theorem dX9_go_96 : decode cX9_go 96 = .ok (.iload 5, 2) := by decide +kernel
theorem dX9_go_98 : decode cX9_go 98 = .ok (.iload 9, 2) := by decide +kernel
theorem dX9_go_100 : decode cX9_go 100 = .ok (.iload 8, 2) := by decide +kernel
theorem dX9_go_102 : decode cX9_go 102 = .ok (.imul, 1) := by decide +kernel
theorem dX9_go_103 : decode cX9_go 103 = .ok (.iadd, 1) := by decide +kernel
theorem dX9_go_104 : decode cX9_go 104 = .ok (.aload 7, 2) := by decide +kernel
theorem dX9_go_106 : decode cX9_go 106 = .ok (.invokestatic 31, 3) := by decide +kernel
theorem dX9_go_109 : decode cX9_go 109 = .ok (.iinc 9 1, 3) := by decide +kernel
theorem dX9_go_112 : decode cX9_go 112 = .ok (.goto (-77), 3) := by decide +kernel
theorem dX9_go_115 : decode cX9_go 115 = .ok (.return_, 1) := by decide +kernel
theorem dX9_keepColoured_0 : decode cX9_keepColoured 0 = .ok (.aload_n 0, 1) := by decide +kernel
theorem dX9_keepColoured_1 : decode cX9_keepColoured 1 = .ok (.iload_n 2, 1) := by decide +kernel
theorem dX9_keepColoured_2 : decode cX9_keepColoured 2 = .ok (.iload 4, 2) := by decide +kernel
theorem dX9_keepColoured_4 : decode cX9_keepColoured 4 = .ok (.iadd, 1) := by decide +kernel
theorem dX9_keepColoured_5 : decode cX9_keepColoured 5 = .ok (.invokevirtual 51, 3) := by decide +kernel
theorem dX9_keepColoured_8 : decode cX9_keepColoured 8 = .ok (.iload_n 3, 1) := by decide +kernel
theorem dX9_keepColoured_9 : decode cX9_keepColoured 9 = .ok (.iconst 3, 1) := by decide +kernel
theorem dX9_keepColoured_10 : decode cX9_keepColoured 10 = .ok (.iload 4, 2) := by decide +kernel
theorem dX9_keepColoured_12 : decode cX9_keepColoured 12 = .ok (.imul, 1) := by decide +kernel
theorem dX9_keepColoured_13 : decode cX9_keepColoured 13 = .ok (.ishr, 1) := by decide +kernel
theorem dX9_keepColoured_14 : decode cX9_keepColoured 14 = .ok (.bipush 7, 2) := by decide +kernel
theorem dX9_keepColoured_16 : decode cX9_keepColoured 16 = .ok (.iand, 1) := by decide +kernel
theorem dX9_keepColoured_17 : decode cX9_keepColoured 17 = .ok (.istore 6, 2) := by decide +kernel
theorem dX9_keepColoured_19 : decode cX9_keepColoured 19 = .ok (.iconst 0, 1) := by decide +kernel
theorem dX9_keepColoured_20 : decode cX9_keepColoured 20 = .ok (.istore 7, 2) := by decide +kernel
theorem dX9_keepColoured_22 : decode cX9_keepColoured 22 = .ok (.iload 7, 2) := by decide +kernel
theorem dX9_keepColoured_24 : decode cX9_keepColoured 24 = .ok (.bipush 64, 2) := by decide +kernel
theorem dX9_keepColoured_26 : decode cX9_keepColoured 26 = .ok (.if_icmp .ge 51, 3) := by decide +kernel
theorem dX9_keepColoured_29 : decode cX9_keepColoured 29 = .ok (.aload_n 0, 1) := by decide +kernel
theorem dX9_keepColoured_30 : decode cX9_keepColoured 30 = .ok (.getfield 57, 3) := by decide +kernel
theorem dX9_keepColoured_33 : decode cX9_keepColoured 33 = .ok (.iload 7, 2) := by decide +kernel
theorem dX9_keepColoured_35 : decode cX9_keepColoured 35 = .ok (.bipush 8, 2) := by decide +kernel
theorem dX9_keepColoured_37 : decode cX9_keepColoured 37 = .ok (.irem, 1) := by decide +kernel
theorem dX9_keepColoured_38 : decode cX9_keepColoured 38 = .ok (.iload 7, 2) := by decide +kernel
theorem dX9_keepColoured_40 : decode cX9_keepColoured 40 = .ok (.bipush 8, 2) := by decide +kernel
theorem dX9_keepColoured_42 : decode cX9_keepColoured 42 = .ok (.idiv, 1) := by decide +kernel
theorem dX9_keepColoured_43 : decode cX9_keepColoured 43 = .ok (.invokevirtual 61, 3) := by decide +kernel
theorem dX9_keepColoured_46 : decode cX9_keepColoured 46 = .ok (.istore 8, 2) := by decide +kernel
theorem dX9_keepColoured_48 : decode cX9_keepColoured 48 = .ok (.iload 8, 2) := by decide +kernel
theorem dX9_keepColoured_50 : decode cX9_keepColoured 50 = .ok (.ifCond .eq 15, 3) := by decide +kernel
theorem dX9_keepColoured_53 : decode cX9_keepColoured 53 = .ok (.aload_n 0, 1) := by decide +kernel
theorem dX9_keepColoured_54 : decode cX9_keepColoured 54 = .ok (.iload 7, 2) := by decide +kernel
theorem dX9_keepColoured_56 : decode cX9_keepColoured 56 = .ok (.iload_n 1, 1) := by decide +kernel
theorem dX9_keepColoured_57 : decode cX9_keepColoured 57 = .ok (.invokevirtual 67, 3) := by decide +kernel
theorem dX9_keepColoured_60 : decode cX9_keepColoured 60 = .ok (.iload 6, 2) := by decide +kernel
theorem dX9_keepColoured_62 : decode cX9_keepColoured 62 = .ok (.if_icmp .eq 9, 3) := by decide +kernel
theorem dX9_keepColoured_65 : decode cX9_keepColoured 65 = .ok (.aload 5, 2) := by decide +kernel
theorem dX9_keepColoured_67 : decode cX9_keepColoured 67 = .ok (.iload 7, 2) := by decide +kernel
theorem dX9_keepColoured_69 : decode cX9_keepColoured 69 = .ok (.iconst 0, 1) := by decide +kernel
theorem dX9_keepColoured_70 : decode cX9_keepColoured 70 = .ok (.iastore, 1) := by decide +kernel
theorem dX9_keepColoured_71 : decode cX9_keepColoured 71 = .ok (.iinc 7 1, 3) := by decide +kernel
theorem dX9_keepColoured_74 : decode cX9_keepColoured 74 = .ok (.goto (-52), 3) := by decide +kernel
theorem dX9_keepColoured_77 : decode cX9_keepColoured 77 = .ok (.return_, 1) := by decide +kernel
theorem dX9_waysAround_0 : decode cX9_waysAround 0 = .ok (.aload_n 0, 1) := by decide +kernel
theorem dX9_waysAround_1 : decode cX9_waysAround 1 = .ok (.iload_n 1, 1) := by decide +kernel
theorem dX9_waysAround_2 : decode cX9_waysAround 2 = .ok (.iaload, 1) := by decide +kernel
theorem dX9_waysAround_3 : decode cX9_waysAround 3 = .ok (.istore_n 2, 1) := by decide +kernel
theorem dX9_waysAround_4 : decode cX9_waysAround 4 = .ok (.iload_n 2, 1) := by decide +kernel
theorem dX9_waysAround_5 : decode cX9_waysAround 5 = .ok (.iload_n 1, 1) := by decide +kernel
theorem dX9_waysAround_6 : decode cX9_waysAround 6 = .ok (.bipush 8, 2) := by decide +kernel
theorem dX9_waysAround_8 : decode cX9_waysAround 8 = .ok (.irem, 1) := by decide +kernel
theorem dX9_waysAround_9 : decode cX9_waysAround 9 = .ok (.ifCond .le 11, 3) := by decide +kernel
theorem dX9_waysAround_12 : decode cX9_waysAround 12 = .ok (.aload_n 0, 1) := by decide +kernel
theorem dX9_waysAround_13 : decode cX9_waysAround 13 = .ok (.iload_n 1, 1) := by decide +kernel
theorem dX9_waysAround_14 : decode cX9_waysAround 14 = .ok (.iconst 1, 1) := by decide +kernel
theorem dX9_waysAround_15 : decode cX9_waysAround 15 = .ok (.isub, 1) := by decide +kernel
theorem dX9_waysAround_16 : decode cX9_waysAround 16 = .ok (.iaload, 1) := by decide +kernel
theorem dX9_waysAround_17 : decode cX9_waysAround 17 = .ok (.goto 4, 3) := by decide +kernel
theorem dX9_waysAround_20 : decode cX9_waysAround 20 = .ok (.iconst 0, 1) := by decide +kernel
theorem dX9_waysAround_21 : decode cX9_waysAround 21 = .ok (.iadd, 1) := by decide +kernel
theorem dX9_waysAround_22 : decode cX9_waysAround 22 = .ok (.istore_n 2, 1) := by decide +kernel
theorem dX9_waysAround_23 : decode cX9_waysAround 23 = .ok (.iload_n 2, 1) := by decide +kernel
theorem dX9_waysAround_24 : decode cX9_waysAround 24 = .ok (.iload_n 1, 1) := by decide +kernel
theorem dX9_waysAround_25 : decode cX9_waysAround 25 = .ok (.bipush 8, 2) := by decide +kernel
theorem dX9_waysAround_27 : decode cX9_waysAround 27 = .ok (.irem, 1) := by decide +kernel
theorem dX9_waysAround_28 : decode cX9_waysAround 28 = .ok (.bipush 7, 2) := by decide +kernel
theorem dX9_waysAround_30 : decode cX9_waysAround 30 = .ok (.if_icmp .ge 11, 3) := by decide +kernel
theorem dX9_waysAround_33 : decode cX9_waysAround 33 = .ok (.aload_n 0, 1) := by decide +kernel
theorem dX9_waysAround_34 : decode cX9_waysAround 34 = .ok (.iload_n 1, 1) := by decide +kernel
theorem dX9_waysAround_35 : decode cX9_waysAround 35 = .ok (.iconst 1, 1) := by decide +kernel
theorem dX9_waysAround_36 : decode cX9_waysAround 36 = .ok (.iadd, 1) := by decide +kernel
theorem dX9_waysAround_37 : decode cX9_waysAround 37 = .ok (.iaload, 1) := by decide +kernel
theorem dX9_waysAround_38 : decode cX9_waysAround 38 = .ok (.goto 4, 3) := by decide +kernel
theorem dX9_waysAround_41 : decode cX9_waysAround 41 = .ok (.iconst 0, 1) := by decide +kernel
theorem dX9_waysAround_42 : decode cX9_waysAround 42 = .ok (.iadd, 1) := by decide +kernel
theorem dX9_waysAround_43 : decode cX9_waysAround 43 = .ok (.istore_n 2, 1) := by decide +kernel
theorem dX9_waysAround_44 : decode cX9_waysAround 44 = .ok (.iload_n 2, 1) := by decide +kernel
theorem dX9_waysAround_45 : decode cX9_waysAround 45 = .ok (.iload_n 1, 1) := by decide +kernel
theorem dX9_waysAround_46 : decode cX9_waysAround 46 = .ok (.bipush 8, 2) := by decide +kernel
theorem dX9_waysAround_48 : decode cX9_waysAround 48 = .ok (.if_icmp .lt 12, 3) := by decide +kernel
theorem dX9_waysAround_51 : decode cX9_waysAround 51 = .ok (.aload_n 0, 1) := by decide +kernel
theorem dX9_waysAround_52 : decode cX9_waysAround 52 = .ok (.iload_n 1, 1) := by decide +kernel
theorem dX9_waysAround_53 : decode cX9_waysAround 53 = .ok (.bipush 8, 2) := by decide +kernel
theorem dX9_waysAround_55 : decode cX9_waysAround 55 = .ok (.isub, 1) := by decide +kernel
theorem dX9_waysAround_56 : decode cX9_waysAround 56 = .ok (.iaload, 1) := by decide +kernel
theorem dX9_waysAround_57 : decode cX9_waysAround 57 = .ok (.goto 4, 3) := by decide +kernel
theorem dX9_waysAround_60 : decode cX9_waysAround 60 = .ok (.iconst 0, 1) := by decide +kernel
theorem dX9_waysAround_61 : decode cX9_waysAround 61 = .ok (.iadd, 1) := by decide +kernel
theorem dX9_waysAround_62 : decode cX9_waysAround 62 = .ok (.istore_n 2, 1) := by decide +kernel
theorem dX9_waysAround_63 : decode cX9_waysAround 63 = .ok (.iload_n 2, 1) := by decide +kernel
theorem dX9_waysAround_64 : decode cX9_waysAround 64 = .ok (.iload_n 1, 1) := by decide +kernel
theorem dX9_waysAround_65 : decode cX9_waysAround 65 = .ok (.bipush 56, 2) := by decide +kernel
theorem dX9_waysAround_67 : decode cX9_waysAround 67 = .ok (.if_icmp .ge 12, 3) := by decide +kernel
theorem dX9_waysAround_70 : decode cX9_waysAround 70 = .ok (.aload_n 0, 1) := by decide +kernel
theorem dX9_waysAround_71 : decode cX9_waysAround 71 = .ok (.iload_n 1, 1) := by decide +kernel
theorem dX9_waysAround_72 : decode cX9_waysAround 72 = .ok (.bipush 8, 2) := by decide +kernel
theorem dX9_waysAround_74 : decode cX9_waysAround 74 = .ok (.iadd, 1) := by decide +kernel
theorem dX9_waysAround_75 : decode cX9_waysAround 75 = .ok (.iaload, 1) := by decide +kernel
theorem dX9_waysAround_76 : decode cX9_waysAround 76 = .ok (.goto 4, 3) := by decide +kernel
theorem dX9_waysAround_79 : decode cX9_waysAround 79 = .ok (.iconst 0, 1) := by decide +kernel
theorem dX9_waysAround_80 : decode cX9_waysAround 80 = .ok (.iadd, 1) := by decide +kernel
theorem dX9_waysAround_81 : decode cX9_waysAround 81 = .ok (.istore_n 2, 1) := by decide +kernel
theorem dX9_waysAround_82 : decode cX9_waysAround 82 = .ok (.iload_n 2, 1) := by decide +kernel
theorem dX9_waysAround_83 : decode cX9_waysAround 83 = .ok (.ireturn, 1) := by decide +kernel
theorem dX10_init_0 : decode cX10_init 0 = .ok (.aload_n 0, 1) := by decide +kernel
theorem dX10_init_1 : decode cX10_init 1 = .ok (.invokespecial 3, 3) := by decide +kernel
theorem dX10_init_4 : decode cX10_init 4 = .ok (.aload_n 0, 1) := by decide +kernel
theorem dX10_init_5 : decode cX10_init 5 = .ok (.bipush 24, 2) := by decide +kernel
theorem dX10_init_7 : decode cX10_init 7 = .ok (.newarray .long, 2) := by decide +kernel
theorem dX10_init_9 : decode cX10_init 9 = .ok (.putfield 9, 3) := by decide +kernel
theorem dX10_init_12 : decode cX10_init 12 = .ok (.aload_n 0, 1) := by decide +kernel
theorem dX10_init_13 : decode cX10_init 13 = .ok (.sipush 1536, 3) := by decide +kernel
theorem dX10_init_16 : decode cX10_init 16 = .ok (.newarray .int, 2) := by decide +kernel
theorem dX10_init_18 : decode cX10_init 18 = .ok (.putfield 15, 3) := by decide +kernel
theorem dX10_init_21 : decode cX10_init 21 = .ok (.aload_n 0, 1) := by decide +kernel
theorem dX10_init_22 : decode cX10_init 22 = .ok (.bipush 24, 2) := by decide +kernel
theorem dX10_init_24 : decode cX10_init 24 = .ok (.newarray .int, 2) := by decide +kernel
theorem dX10_init_26 : decode cX10_init 26 = .ok (.putfield 19, 3) := by decide +kernel
theorem dX10_init_29 : decode cX10_init 29 = .ok (.aload_n 0, 1) := by decide +kernel
theorem dX10_init_30 : decode cX10_init 30 = .ok (.iconst 0, 1) := by decide +kernel
theorem dX10_init_31 : decode cX10_init 31 = .ok (.putfield 22, 3) := by decide +kernel
theorem dX10_init_34 : decode cX10_init 34 = .ok (.return_, 1) := by decide +kernel
theorem dX10_find_0 : decode cX10_find 0 = .ok (.iload 4, 2) := by decide +kernel
theorem dX10_find_2 : decode cX10_find 2 = .ok (.bipush 24, 2) := by decide +kernel
theorem dX10_find_4 : decode cX10_find 4 = .ok (.invokestatic 26, 3) := by decide +kernel
theorem dX10_find_7 : decode cX10_find 7 = .ok (.istore 5, 2) := by decide +kernel
theorem dX10_find_9 : decode cX10_find 9 = .ok (.aload_n 1, 1) := by decide +kernel
theorem dX10_find_10 : decode cX10_find 10 = .ok (.getfield 32, 3) := by decide +kernel
theorem dX10_find_13 : decode cX10_find 13 = .ok (.invokestatic 38, 3) := by decide +kernel
theorem dX10_find_16 : decode cX10_find 16 = .ok (.lstore 6, 2) := by decide +kernel
theorem dX10_find_18 : decode cX10_find 18 = .ok (.iconst 0, 1) := by decide +kernel
theorem dX10_find_19 : decode cX10_find 19 = .ok (.istore 8, 2) := by decide +kernel
theorem dX10_find_21 : decode cX10_find 21 = .ok (.iload 8, 2) := by decide +kernel
theorem dX10_find_23 : decode cX10_find 23 = .ok (.iload 5, 2) := by decide +kernel
theorem dX10_find_25 : decode cX10_find 25 = .ok (.if_icmp .ge 45, 3) := by decide +kernel
theorem dX10_find_28 : decode cX10_find 28 = .ok (.aload_n 1, 1) := by decide +kernel
theorem dX10_find_29 : decode cX10_find 29 = .ok (.iload_n 3, 1) := by decide +kernel
theorem dX10_find_30 : decode cX10_find 30 = .ok (.iload 8, 2) := by decide +kernel
theorem dX10_find_32 : decode cX10_find 32 = .ok (.iadd, 1) := by decide +kernel
theorem dX10_find_33 : decode cX10_find 33 = .ok (.invokevirtual 42, 3) := by decide +kernel
theorem dX10_find_36 : decode cX10_find 36 = .ok (.aload_n 1, 1) := by decide +kernel
theorem dX10_find_37 : decode cX10_find 37 = .ok (.iload_n 2, 1) := by decide +kernel
theorem dX10_find_38 : decode cX10_find 38 = .ok (.invokevirtual 46, 3) := by decide +kernel
theorem dX10_find_41 : decode cX10_find 41 = .ok (.lstore 9, 2) := by decide +kernel
theorem dX10_find_43 : decode cX10_find 43 = .ok (.aload_n 0, 1) := by decide +kernel
theorem dX10_find_44 : decode cX10_find 44 = .ok (.getfield 9, 3) := by decide +kernel
theorem dX10_find_47 : decode cX10_find 47 = .ok (.iload 8, 2) := by decide +kernel
theorem dX10_find_49 : decode cX10_find 49 = .ok (.lload 9, 2) := by decide +kernel
theorem dX10_find_51 : decode cX10_find 51 = .ok (.lconst 0, 1) := by decide +kernel
theorem dX10_find_52 : decode cX10_find 52 = .ok (.lcmp, 1) := by decide +kernel
theorem dX10_find_53 : decode cX10_find 53 = .ok (.ifCond .eq 8, 3) := by decide +kernel
theorem dX10_find_56 : decode cX10_find 56 = .ok (.lload 9, 2) := by decide +kernel
theorem dX10_find_58 : decode cX10_find 58 = .ok (.goto 5, 3) := by decide +kernel
theorem dX10_find_61 : decode cX10_find 61 = .ok (.lload 6, 2) := by decide +kernel
theorem dX10_find_63 : decode cX10_find 63 = .ok (.lastore, 1) := by decide +kernel
theorem dX10_find_64 : decode cX10_find 64 = .ok (.iinc 8 1, 3) := by decide +kernel
theorem dX10_find_67 : decode cX10_find 67 = .ok (.goto (-46), 3) := by decide +kernel
theorem dX10_find_70 : decode cX10_find 70 = .ok (.iload 5, 2) := by decide +kernel
theorem dX10_find_72 : decode cX10_find 72 = .ok (.iconst 1, 1) := by decide +kernel
theorem dX10_find_73 : decode cX10_find 73 = .ok (.isub, 1) := by decide +kernel
theorem dX10_find_74 : decode cX10_find 74 = .ok (.istore 8, 2) := by decide +kernel
theorem dX10_find_76 : decode cX10_find 76 = .ok (.iload 8, 2) := by decide +kernel
theorem dX10_find_78 : decode cX10_find 78 = .ok (.ifCond .lt 21, 3) := by decide +kernel
theorem dX10_find_81 : decode cX10_find 81 = .ok (.aload_n 0, 1) := by decide +kernel
theorem dX10_find_82 : decode cX10_find 82 = .ok (.iload 8, 2) := by decide +kernel
theorem dX10_find_84 : decode cX10_find 84 = .ok (.iload 5, 2) := by decide +kernel
theorem dX10_find_86 : decode cX10_find 86 = .ok (.iconst 1, 1) := by decide +kernel
theorem dX10_find_87 : decode cX10_find 87 = .ok (.isub, 1) := by decide +kernel
theorem dX10_find_88 : decode cX10_find 88 = .ok (.lload 6, 2) := by decide +kernel
theorem dX10_find_90 : decode cX10_find 90 = .ok (.invokevirtual 50, 3) := by decide +kernel
theorem dX10_find_93 : decode cX10_find 93 = .ok (.iinc 8 (-1), 3) := by decide +kernel
theorem dX10_find_96 : decode cX10_find 96 = .ok (.goto (-20), 3) := by decide +kernel
theorem dX10_find_99 : decode cX10_find 99 = .ok (.iconst (-1), 1) := by decide +kernel
theorem dX10_find_100 : decode cX10_find 100 = .ok (.istore 8, 2) := by decide +kernel
theorem dX10_find_102 : decode cX10_find 102 = .ok (.iconst 0, 1) := by decide +kernel
theorem dX10_find_103 : decode cX10_find 103 = .ok (.istore 9, 2) := by decide +kernel
theorem dX10_find_105 : decode cX10_find 105 = .ok (.iload 9, 2) := by decide +kernel
theorem dX10_find_107 : decode cX10_find 107 = .ok (.iload 5, 2) := by decide +kernel
theorem dX10_find_109 : decode cX10_find 109 = .ok (.if_icmp .ge 28, 3) := by decide +kernel
theorem dX10_find_112 : decode cX10_find 112 = .ok (.aload_n 0, 1) := by decide +kernel
theorem dX10_find_113 : decode cX10_find 113 = .ok (.iload 8, 2) := by decide +kernel
theorem dX10_find_115 : decode cX10_find 115 = .ok (.iload 9, 2) := by decide +kernel
theorem dX10_find_117 : decode cX10_find 117 = .ok (.invokevirtual 54, 3) := by decide +kernel
theorem dX10_find_120 : decode cX10_find 120 = .ok (.istore 8, 2) := by decide +kernel
theorem dX10_find_122 : decode cX10_find 122 = .ok (.aload_n 0, 1) := by decide +kernel
theorem dX10_find_123 : decode cX10_find 123 = .ok (.getfield 19, 3) := by decide +kernel
theorem dX10_find_126 : decode cX10_find 126 = .ok (.iload 9, 2) := by decide +kernel
theorem dX10_find_128 : decode cX10_find 128 = .ok (.iload 8, 2) := by decide +kernel
theorem dX10_find_130 : decode cX10_find 130 = .ok (.iastore, 1) := by decide +kernel
theorem dX10_find_131 : decode cX10_find 131 = .ok (.iinc 9 1, 3) := by decide +kernel
theorem dX10_find_134 : decode cX10_find 134 = .ok (.goto (-29), 3) := by decide +kernel
theorem dX10_find_137 : decode cX10_find 137 = .ok (.aload_n 0, 1) := by decide +kernel
theorem dX10_find_138 : decode cX10_find 138 = .ok (.iload 5, 2) := by decide +kernel
theorem dX10_find_140 : decode cX10_find 140 = .ok (.ifCond .le 17, 3) := by decide +kernel
theorem dX10_find_143 : decode cX10_find 143 = .ok (.aload_n 0, 1) := by decide +kernel
theorem dX10_find_144 : decode cX10_find 144 = .ok (.getfield 15, 3) := by decide +kernel
theorem dX10_find_147 : decode cX10_find 147 = .ok (.aload_n 0, 1) := by decide +kernel
theorem dX10_find_148 : decode cX10_find 148 = .ok (.getfield 19, 3) := by decide +kernel
theorem dX10_find_151 : decode cX10_find 151 = .ok (.iconst 0, 1) := by decide +kernel
theorem dX10_find_152 : decode cX10_find 152 = .ok (.iaload, 1) := by decide +kernel
theorem dX10_find_153 : decode cX10_find 153 = .ok (.iaload, 1) := by decide +kernel
theorem dX10_find_154 : decode cX10_find 154 = .ok (.goto 4, 3) := by decide +kernel
theorem dX10_find_157 : decode cX10_find 157 = .ok (.iconst 0, 1) := by decide +kernel
theorem dX10_find_158 : decode cX10_find 158 = .ok (.putfield 22, 3) := by decide +kernel
theorem dX10_find_161 : decode cX10_find 161 = .ok (.return_, 1) := by decide +kernel
theorem dX10_lookAhead_0 : decode cX10_lookAhead 0 = .ok (.iconst 0, 1) := by decide +kernel
theorem dX10_lookAhead_1 : decode cX10_lookAhead 1 = .ok (.istore 5, 2) := by decide +kernel
theorem dX10_lookAhead_3 : decode cX10_lookAhead 3 = .ok (.iload 5, 2) := by decide +kernel
theorem dX10_lookAhead_5 : decode cX10_lookAhead 5 = .ok (.bipush 64, 2) := by decide +kernel
theorem dX10_lookAhead_7 : decode cX10_lookAhead 7 = .ok (.if_icmp .ge 89, 3) := by decide +kernel
theorem dX10_lookAhead_10 : decode cX10_lookAhead 10 = .ok (.aload_n 0, 1) := by decide +kernel
theorem dX10_lookAhead_11 : decode cX10_lookAhead 11 = .ok (.getfield 9, 3) := by decide +kernel
theorem dX10_lookAhead_14 : decode cX10_lookAhead 14 = .ok (.iload_n 1, 1) := by decide +kernel
theorem dX10_lookAhead_15 : decode cX10_lookAhead 15 = .ok (.laload, 1) := by decide +kernel
theorem dX10_lookAhead_16 : decode cX10_lookAhead 16 = .ok (.iload 5, 2) := by decide +kernel
theorem dX10_lookAhead_18 : decode cX10_lookAhead 18 = .ok (.lushr, 1) := by decide +kernel
theorem dX10_lookAhead_19 : decode cX10_lookAhead 19 = .ok (.lconst 1, 1) := by decide +kernel
theorem dX10_lookAhead_20 : decode cX10_lookAhead 20 = .ok (.land, 1) := by decide +kernel
theorem dX10_lookAhead_21 : decode cX10_lookAhead 21 = .ok (.lconst 1, 1) := by decide +kernel
theorem dX10_lookAhead_22 : decode cX10_lookAhead 22 = .ok (.lcmp, 1) := by decide +kernel
theorem dX10_lookAhead_23 : decode cX10_lookAhead 23 = .ok (.ifCond .ne 67, 3) := by decide +kernel
theorem dX10_lookAhead_26 : decode cX10_lookAhead 26 = .ok (.iconst 0, 1) := by decide +kernel
theorem dX10_lookAhead_27 : decode cX10_lookAhead 27 = .ok (.istore 6, 2) := by decide +kernel
theorem dX10_lookAhead_29 : decode cX10_lookAhead 29 = .ok (.iload_n 1, 1) := by decide +kernel
theorem dX10_lookAhead_30 : decode cX10_lookAhead 30 = .ok (.iload_n 2, 1) := by decide +kernel
theorem dX10_lookAhead_31 : decode cX10_lookAhead 31 = .ok (.if_icmp .ge 45, 3) := by decide +kernel
theorem dX10_lookAhead_34 : decode cX10_lookAhead 34 = .ok (.aload_n 0, 1) := by decide +kernel
theorem dX10_lookAhead_35 : decode cX10_lookAhead 35 = .ok (.getfield 9, 3) := by decide +kernel
theorem dX10_lookAhead_38 : decode cX10_lookAhead 38 = .ok (.iload_n 1, 1) := by decide +kernel
theorem dX10_lookAhead_39 : decode cX10_lookAhead 39 = .ok (.iconst 1, 1) := by decide +kernel
theorem dX10_lookAhead_40 : decode cX10_lookAhead 40 = .ok (.iadd, 1) := by decide +kernel
theorem dX10_lookAhead_41 : decode cX10_lookAhead 41 = .ok (.laload, 1) := by decide +kernel
theorem dX10_lookAhead_42 : decode cX10_lookAhead 42 = .ok (.lload_n 3, 1) := by decide +kernel
theorem dX10_lookAhead_43 : decode cX10_lookAhead 43 = .ok (.lcmp, 1) := by decide +kernel
theorem dX10_lookAhead_44 : decode cX10_lookAhead 44 = .ok (.ifCond .ne 8, 3) := by decide +kernel
theorem dX10_lookAhead_47 : decode cX10_lookAhead 47 = .ok (.iload 5, 2) := by decide +kernel
theorem dX10_lookAhead_49 : decode cX10_lookAhead 49 = .ok (.goto 12, 3) := by decide +kernel
theorem dX10_lookAhead_52 : decode cX10_lookAhead 52 = .ok (.aload_n 0, 1) := by decide +kernel
theorem dX10_lookAhead_53 : decode cX10_lookAhead 53 = .ok (.iload 5, 2) := by decide +kernel
theorem dX10_lookAhead_55 : decode cX10_lookAhead 55 = .ok (.iload_n 1, 1) := by decide +kernel
theorem dX10_lookAhead_56 : decode cX10_lookAhead 56 = .ok (.iconst 1, 1) := by decide +kernel
theorem dX10_lookAhead_57 : decode cX10_lookAhead 57 = .ok (.iadd, 1) := by decide +kernel
theorem dX10_lookAhead_58 : decode cX10_lookAhead 58 = .ok (.invokevirtual 54, 3) := by decide +kernel
theorem dX10_lookAhead_61 : decode cX10_lookAhead 61 = .ok (.istore 7, 2) := by decide +kernel
theorem dX10_lookAhead_63 : decode cX10_lookAhead 63 = .ok (.aload_n 0, 1) := by decide +kernel
theorem dX10_lookAhead_64 : decode cX10_lookAhead 64 = .ok (.iload 5, 2) := by decide +kernel
theorem dX10_lookAhead_66 : decode cX10_lookAhead 66 = .ok (.iload_n 1, 1) := by decide +kernel
theorem dX10_lookAhead_67 : decode cX10_lookAhead 67 = .ok (.iconst 1, 1) := by decide +kernel
theorem dX10_lookAhead_68 : decode cX10_lookAhead 68 = .ok (.iadd, 1) := by decide +kernel
theorem dX10_lookAhead_69 : decode cX10_lookAhead 69 = .ok (.iload 7, 2) := by decide +kernel
theorem dX10_lookAhead_71 : decode cX10_lookAhead 71 = .ok (.invokevirtual 57, 3) := by decide +kernel
theorem dX10_lookAhead_74 : decode cX10_lookAhead 74 = .ok (.istore 6, 2) := by decide +kernel
theorem dX10_lookAhead_76 : decode cX10_lookAhead 76 = .ok (.aload_n 0, 1) := by decide +kernel
theorem dX10_lookAhead_77 : decode cX10_lookAhead 77 = .ok (.getfield 15, 3) := by decide +kernel
theorem dX10_lookAhead_80 : decode cX10_lookAhead 80 = .ok (.iload_n 1, 1) := by decide +kernel
theorem dX10_lookAhead_81 : decode cX10_lookAhead 81 = .ok (.bipush 64, 2) := by decide +kernel
theorem dX10_lookAhead_83 : decode cX10_lookAhead 83 = .ok (.imul, 1) := by decide +kernel
theorem dX10_lookAhead_84 : decode cX10_lookAhead 84 = .ok (.iload 5, 2) := by decide +kernel
theorem dX10_lookAhead_86 : decode cX10_lookAhead 86 = .ok (.iadd, 1) := by decide +kernel
theorem dX10_lookAhead_87 : decode cX10_lookAhead 87 = .ok (.iload 6, 2) := by decide +kernel
theorem dX10_lookAhead_89 : decode cX10_lookAhead 89 = .ok (.iastore, 1) := by decide +kernel
theorem dX10_lookAhead_90 : decode cX10_lookAhead 90 = .ok (.iinc 5 1, 3) := by decide +kernel
theorem dX10_lookAhead_93 : decode cX10_lookAhead 93 = .ok (.goto (-90), 3) := by decide +kernel
theorem dX10_lookAhead_96 : decode cX10_lookAhead 96 = .ok (.return_, 1) := by decide +kernel
theorem dX10_floorOf_0 : decode cX10_floorOf 0 = .ok (.lconst 0, 1) := by decide +kernel
theorem dX10_floorOf_1 : decode cX10_floorOf 1 = .ok (.lstore_n 1, 1) := by decide +kernel
theorem dX10_floorOf_2 : decode cX10_floorOf 2 = .ok (.iconst 0, 1) := by decide +kernel
theorem dX10_floorOf_3 : decode cX10_floorOf 3 = .ok (.istore_n 3, 1) := by decide +kernel
theorem dX10_floorOf_4 : decode cX10_floorOf 4 = .ok (.iload_n 3, 1) := by decide +kernel
theorem dX10_floorOf_5 : decode cX10_floorOf 5 = .ok (.bipush 64, 2) := by decide +kernel
theorem dX10_floorOf_7 : decode cX10_floorOf 7 = .ok (.if_icmp .ge 30, 3) := by decide +kernel
theorem dX10_floorOf_10 : decode cX10_floorOf 10 = .ok (.aload_n 0, 1) := by decide +kernel
theorem dX10_floorOf_11 : decode cX10_floorOf 11 = .ok (.iload_n 3, 1) := by decide +kernel
theorem dX10_floorOf_12 : decode cX10_floorOf 12 = .ok (.bipush 8, 2) := by decide +kernel
theorem dX10_floorOf_14 : decode cX10_floorOf 14 = .ok (.irem, 1) := by decide +kernel
theorem dX10_floorOf_15 : decode cX10_floorOf 15 = .ok (.iload_n 3, 1) := by decide +kernel
theorem dX10_floorOf_16 : decode cX10_floorOf 16 = .ok (.bipush 8, 2) := by decide +kernel
theorem dX10_floorOf_18 : decode cX10_floorOf 18 = .ok (.idiv, 1) := by decide +kernel
theorem dX10_floorOf_19 : decode cX10_floorOf 19 = .ok (.invokevirtual 61, 3) := by decide +kernel
theorem dX10_floorOf_22 : decode cX10_floorOf 22 = .ok (.ifCond .eq 9, 3) := by decide +kernel
theorem dX10_floorOf_25 : decode cX10_floorOf 25 = .ok (.lload_n 1, 1) := by decide +kernel
theorem dX10_floorOf_26 : decode cX10_floorOf 26 = .ok (.lconst 1, 1) := by decide +kernel
theorem dX10_floorOf_27 : decode cX10_floorOf 27 = .ok (.iload_n 3, 1) := by decide +kernel
theorem dX10_floorOf_28 : decode cX10_floorOf 28 = .ok (.lshl, 1) := by decide +kernel
theorem dX10_floorOf_29 : decode cX10_floorOf 29 = .ok (.lor, 1) := by decide +kernel
theorem dX10_floorOf_30 : decode cX10_floorOf 30 = .ok (.lstore_n 1, 1) := by decide +kernel
theorem dX10_floorOf_31 : decode cX10_floorOf 31 = .ok (.iinc 3 1, 3) := by decide +kernel
theorem dX10_floorOf_34 : decode cX10_floorOf 34 = .ok (.goto (-30), 3) := by decide +kernel
theorem dX10_floorOf_37 : decode cX10_floorOf 37 = .ok (.lload_n 1, 1) := by decide +kernel
theorem dX10_floorOf_38 : decode cX10_floorOf 38 = .ok (.lreturn, 1) := by decide +kernel
theorem dX10_nextFrom_0 : decode cX10_nextFrom 0 = .ok (.iconst 0, 1) := by decide +kernel
theorem dX10_nextFrom_1 : decode cX10_nextFrom 1 = .ok (.istore_n 3, 1) := by decide +kernel
theorem dX10_nextFrom_2 : decode cX10_nextFrom 2 = .ok (.ldc 67, 2) := by decide +kernel
theorem dX10_nextFrom_4 : decode cX10_nextFrom 4 = .ok (.istore 4, 2) := by decide +kernel
theorem dX10_nextFrom_6 : decode cX10_nextFrom 6 = .ok (.iconst 0, 1) := by decide +kernel
theorem dX10_nextFrom_7 : decode cX10_nextFrom 7 = .ok (.istore 5, 2) := by decide +kernel
theorem dX10_nextFrom_9 : decode cX10_nextFrom 9 = .ok (.iload 5, 2) := by decide +kernel
theorem dX10_nextFrom_11 : decode cX10_nextFrom 11 = .ok (.bipush 64, 2) := by decide +kernel
theorem dX10_nextFrom_13 : decode cX10_nextFrom 13 = .ok (.if_icmp .ge 51, 3) := by decide +kernel
theorem dX10_nextFrom_16 : decode cX10_nextFrom 16 = .ok (.aload_n 0, 1) := by decide +kernel
theorem dX10_nextFrom_17 : decode cX10_nextFrom 17 = .ok (.getfield 9, 3) := by decide +kernel
theorem dX10_nextFrom_20 : decode cX10_nextFrom 20 = .ok (.iload_n 2, 1) := by decide +kernel
theorem dX10_nextFrom_21 : decode cX10_nextFrom 21 = .ok (.laload, 1) := by decide +kernel
theorem dX10_nextFrom_22 : decode cX10_nextFrom 22 = .ok (.iload 5, 2) := by decide +kernel
theorem dX10_nextFrom_24 : decode cX10_nextFrom 24 = .ok (.lushr, 1) := by decide +kernel
theorem dX10_nextFrom_25 : decode cX10_nextFrom 25 = .ok (.lconst 1, 1) := by decide +kernel
theorem dX10_nextFrom_26 : decode cX10_nextFrom 26 = .ok (.land, 1) := by decide +kernel
theorem dX10_nextFrom_27 : decode cX10_nextFrom 27 = .ok (.lconst 1, 1) := by decide +kernel
theorem dX10_nextFrom_28 : decode cX10_nextFrom 28 = .ok (.lcmp, 1) := by decide +kernel
theorem dX10_nextFrom_29 : decode cX10_nextFrom 29 = .ok (.ifCond .ne 29, 3) := by decide +kernel
theorem dX10_nextFrom_32 : decode cX10_nextFrom 32 = .ok (.aload_n 0, 1) := by decide +kernel
theorem dX10_nextFrom_33 : decode cX10_nextFrom 33 = .ok (.iload_n 1, 1) := by decide +kernel
theorem dX10_nextFrom_34 : decode cX10_nextFrom 34 = .ok (.iload_n 2, 1) := by decide +kernel
theorem dX10_nextFrom_35 : decode cX10_nextFrom 35 = .ok (.iload 5, 2) := by decide +kernel
theorem dX10_nextFrom_37 : decode cX10_nextFrom 37 = .ok (.invokevirtual 57, 3) := by decide +kernel
theorem dX10_nextFrom_40 : decode cX10_nextFrom 40 = .ok (.iload 4, 2) := by decide +kernel
theorem dX10_nextFrom_42 : decode cX10_nextFrom 42 = .ok (.if_icmp .ge 16, 3) := by decide +kernel
theorem dX10_nextFrom_45 : decode cX10_nextFrom 45 = .ok (.iload 5, 2) := by decide +kernel
theorem dX10_nextFrom_47 : decode cX10_nextFrom 47 = .ok (.istore_n 3, 1) := by decide +kernel
theorem dX10_nextFrom_48 : decode cX10_nextFrom 48 = .ok (.aload_n 0, 1) := by decide +kernel
theorem dX10_nextFrom_49 : decode cX10_nextFrom 49 = .ok (.iload_n 1, 1) := by decide +kernel
theorem dX10_nextFrom_50 : decode cX10_nextFrom 50 = .ok (.iload_n 2, 1) := by decide +kernel
theorem dX10_nextFrom_51 : decode cX10_nextFrom 51 = .ok (.iload 5, 2) := by decide +kernel
theorem dX10_nextFrom_53 : decode cX10_nextFrom 53 = .ok (.invokevirtual 57, 3) := by decide +kernel
theorem dX10_nextFrom_56 : decode cX10_nextFrom 56 = .ok (.istore 4, 2) := by decide +kernel
theorem dX10_nextFrom_58 : decode cX10_nextFrom 58 = .ok (.iinc 5 1, 3) := by decide +kernel
theorem dX10_nextFrom_61 : decode cX10_nextFrom 61 = .ok (.goto (-52), 3) := by decide +kernel
theorem dX10_nextFrom_64 : decode cX10_nextFrom 64 = .ok (.iload_n 3, 1) := by decide +kernel
theorem dX10_nextFrom_65 : decode cX10_nextFrom 65 = .ok (.ireturn, 1) := by decide +kernel
theorem dX10_stepsOver_0 : decode cX10_stepsOver 0 = .ok (.iload_n 1, 1) := by decide +kernel
theorem dX10_stepsOver_1 : decode cX10_stepsOver 1 = .ok (.iconst (-1), 1) := by decide +kernel
theorem dX10_stepsOver_2 : decode cX10_stepsOver 2 = .ok (.if_icmp .ne 7, 3) := by decide +kernel
theorem dX10_stepsOver_5 : decode cX10_stepsOver 5 = .ok (.iconst 0, 1) := by decide +kernel
theorem dX10_stepsOver_6 : decode cX10_stepsOver 6 = .ok (.goto 8, 3) := by decide +kernel
theorem dX10_stepsOver_9 : decode cX10_stepsOver 9 = .ok (.iload_n 1, 1) := by decide +kernel
theorem dX10_stepsOver_10 : decode cX10_stepsOver 10 = .ok (.iload_n 3, 1) := by decide +kernel
theorem dX10_stepsOver_11 : decode cX10_stepsOver 11 = .ok (.invokestatic 68, 3) := by decide +kernel
theorem dX10_stepsOver_14 : decode cX10_stepsOver 14 = .ok (.istore 4, 2) := by decide +kernel
theorem dX10_stepsOver_16 : decode cX10_stepsOver 16 = .ok (.iload 4, 2) := by decide +kernel
theorem dX10_stepsOver_18 : decode cX10_stepsOver 18 = .ok (.aload_n 0, 1) := by decide +kernel
theorem dX10_stepsOver_19 : decode cX10_stepsOver 19 = .ok (.getfield 15, 3) := by decide +kernel
theorem dX10_stepsOver_22 : decode cX10_stepsOver 22 = .ok (.iload_n 2, 1) := by decide +kernel
theorem dX10_stepsOver_23 : decode cX10_stepsOver 23 = .ok (.bipush 64, 2) := by decide +kernel
theorem dX10_stepsOver_25 : decode cX10_stepsOver 25 = .ok (.imul, 1) := by decide +kernel
theorem dX10_stepsOver_26 : decode cX10_stepsOver 26 = .ok (.iload_n 3, 1) := by decide +kernel
theorem dX10_stepsOver_27 : decode cX10_stepsOver 27 = .ok (.iadd, 1) := by decide +kernel
theorem dX10_stepsOver_28 : decode cX10_stepsOver 28 = .ok (.iaload, 1) := by decide +kernel
theorem dX10_stepsOver_29 : decode cX10_stepsOver 29 = .ok (.iadd, 1) := by decide +kernel
theorem dX10_stepsOver_30 : decode cX10_stepsOver 30 = .ok (.ireturn, 1) := by decide +kernel
theorem dX11_init_0 : decode cX11_init 0 = .ok (.aload_n 0, 1) := by decide +kernel
theorem dX11_init_1 : decode cX11_init 1 = .ok (.invokespecial 3, 3) := by decide +kernel
theorem dX11_init_4 : decode cX11_init 4 = .ok (.aload_n 0, 1) := by decide +kernel
theorem dX11_init_5 : decode cX11_init 5 = .ok (.new 9, 3) := by decide +kernel
theorem dX11_init_8 : decode cX11_init 8 = .ok (.dup, 1) := by decide +kernel
theorem dX11_init_9 : decode cX11_init 9 = .ok (.invokespecial 11, 3) := by decide +kernel
theorem dX11_init_12 : decode cX11_init 12 = .ok (.putfield 12, 3) := by decide +kernel
theorem dX11_init_15 : decode cX11_init 15 = .ok (.aload_n 0, 1) := by decide +kernel
theorem dX11_init_16 : decode cX11_init 16 = .ok (.new 16, 3) := by decide +kernel
theorem dX11_init_19 : decode cX11_init 19 = .ok (.dup, 1) := by decide +kernel
theorem dX11_init_20 : decode cX11_init 20 = .ok (.invokespecial 18, 3) := by decide +kernel
theorem dX11_init_23 : decode cX11_init 23 = .ok (.putfield 19, 3) := by decide +kernel
theorem dX11_init_26 : decode cX11_init 26 = .ok (.aload_n 0, 1) := by decide +kernel
theorem dX11_init_27 : decode cX11_init 27 = .ok (.new 23, 3) := by decide +kernel
theorem dX11_init_30 : decode cX11_init 30 = .ok (.dup, 1) := by decide +kernel
theorem dX11_init_31 : decode cX11_init 31 = .ok (.invokespecial 25, 3) := by decide +kernel
theorem dX11_init_34 : decode cX11_init 34 = .ok (.putfield 26, 3) := by decide +kernel
theorem dX11_init_37 : decode cX11_init 37 = .ok (.aload_n 0, 1) := by decide +kernel
theorem dX11_init_38 : decode cX11_init 38 = .ok (.new 30, 3) := by decide +kernel
theorem dX11_init_41 : decode cX11_init 41 = .ok (.dup, 1) := by decide +kernel
theorem dX11_init_42 : decode cX11_init 42 = .ok (.invokespecial 32, 3) := by decide +kernel
theorem dX11_init_45 : decode cX11_init 45 = .ok (.putfield 33, 3) := by decide +kernel
theorem dX11_init_48 : decode cX11_init 48 = .ok (.aload_n 0, 1) := by decide +kernel
theorem dX11_init_49 : decode cX11_init 49 = .ok (.new 37, 3) := by decide +kernel
theorem dX11_init_52 : decode cX11_init 52 = .ok (.dup, 1) := by decide +kernel
theorem dX11_init_53 : decode cX11_init 53 = .ok (.invokespecial 39, 3) := by decide +kernel
theorem dX11_init_56 : decode cX11_init 56 = .ok (.putfield 40, 3) := by decide +kernel
theorem dX11_init_59 : decode cX11_init 59 = .ok (.aload_n 0, 1) := by decide +kernel
theorem dX11_init_60 : decode cX11_init 60 = .ok (.new 44, 3) := by decide +kernel
theorem dX11_init_63 : decode cX11_init 63 = .ok (.dup, 1) := by decide +kernel
theorem dX11_init_64 : decode cX11_init 64 = .ok (.invokespecial 46, 3) := by decide +kernel
theorem dX11_init_67 : decode cX11_init 67 = .ok (.putfield 47, 3) := by decide +kernel
theorem dX11_init_70 : decode cX11_init 70 = .ok (.aload_n 0, 1) := by decide +kernel
theorem dX11_init_71 : decode cX11_init 71 = .ok (.new 51, 3) := by decide +kernel
theorem dX11_init_74 : decode cX11_init 74 = .ok (.dup, 1) := by decide +kernel
theorem dX11_init_75 : decode cX11_init 75 = .ok (.invokespecial 53, 3) := by decide +kernel
theorem dX11_init_78 : decode cX11_init 78 = .ok (.putfield 54, 3) := by decide +kernel
theorem dX11_init_81 : decode cX11_init 81 = .ok (.aload_n 0, 1) := by decide +kernel
theorem dX11_init_82 : decode cX11_init 82 = .ok (.new 58, 3) := by decide +kernel
theorem dX11_init_85 : decode cX11_init 85 = .ok (.dup, 1) := by decide +kernel
