theorem dX11_init_86 : decode cX11_init 86 = .ok (.invokespecial 60, 3) := by decide +kernel
theorem dX11_init_89 : decode cX11_init 89 = .ok (.putfield 61, 3) := by decide +kernel
theorem dX11_init_92 : decode cX11_init 92 = .ok (.aload_n 0, 1) := by decide +kernel
theorem dX11_init_93 : decode cX11_init 93 = .ok (.iconst 4, 1) := by decide +kernel
theorem dX11_init_94 : decode cX11_init 94 = .ok (.anewarray 23, 3) := by decide +kernel
theorem dX11_init_97 : decode cX11_init 97 = .ok (.putfield 65, 3) := by decide +kernel
theorem dX11_init_100 : decode cX11_init 100 = .ok (.iconst 0, 1) := by decide +kernel
theorem dX11_init_101 : decode cX11_init 101 = .ok (.istore_n 1, 1) := by decide +kernel
theorem dX11_init_102 : decode cX11_init 102 = .ok (.iload_n 1, 1) := by decide +kernel
theorem dX11_init_103 : decode cX11_init 103 = .ok (.iconst 4, 1) := by decide +kernel
theorem dX11_init_104 : decode cX11_init 104 = .ok (.if_icmp .ge 22, 3) := by decide +kernel
theorem dX11_init_107 : decode cX11_init 107 = .ok (.aload_n 0, 1) := by decide +kernel
theorem dX11_init_108 : decode cX11_init 108 = .ok (.getfield 65, 3) := by decide +kernel
theorem dX11_init_111 : decode cX11_init 111 = .ok (.iload_n 1, 1) := by decide +kernel
theorem dX11_init_112 : decode cX11_init 112 = .ok (.new 23, 3) := by decide +kernel
theorem dX11_init_115 : decode cX11_init 115 = .ok (.dup, 1) := by decide +kernel
theorem dX11_init_116 : decode cX11_init 116 = .ok (.invokespecial 25, 3) := by decide +kernel
theorem dX11_init_119 : decode cX11_init 119 = .ok (.aastore, 1) := by decide +kernel
theorem dX11_init_120 : decode cX11_init 120 = .ok (.iinc 1 1, 3) := by decide +kernel
theorem dX11_init_123 : decode cX11_init 123 = .ok (.goto (-21), 3) := by decide +kernel
theorem dX11_init_126 : decode cX11_init 126 = .ok (.aload_n 0, 1) := by decide +kernel
theorem dX11_init_127 : decode cX11_init 127 = .ok (.iconst 0, 1) := by decide +kernel
theorem dX11_init_128 : decode cX11_init 128 = .ok (.putfield 69, 3) := by decide +kernel
theorem dX11_init_131 : decode cX11_init 131 = .ok (.return_, 1) := by decide +kernel
theorem dX11_feed_0 : decode cX11_feed 0 = .ok (.aload_n 0, 1) := by decide +kernel
theorem dX11_feed_1 : decode cX11_feed 1 = .ok (.getfield 12, 3) := by decide +kernel
theorem dX11_feed_4 : decode cX11_feed 4 = .ok (.getfield 73, 3) := by decide +kernel
theorem dX11_feed_7 : decode cX11_feed 7 = .ok (.lload_n 1, 1) := by decide +kernel
theorem dX11_feed_8 : decode cX11_feed 8 = .ok (.invokevirtual 77, 3) := by decide +kernel
theorem dX11_feed_11 : decode cX11_feed 11 = .ok (.aload_n 0, 1) := by decide +kernel
theorem dX11_feed_12 : decode cX11_feed 12 = .ok (.getfield 12, 3) := by decide +kernel
theorem dX11_feed_15 : decode cX11_feed 15 = .ok (.getfield 73, 3) := by decide +kernel
theorem dX11_feed_18 : decode cX11_feed 18 = .ok (.lload_n 3, 1) := by decide +kernel
theorem dX11_feed_19 : decode cX11_feed 19 = .ok (.invokevirtual 77, 3) := by decide +kernel
theorem dX11_feed_22 : decode cX11_feed 22 = .ok (.aload_n 0, 1) := by decide +kernel
theorem dX11_feed_23 : decode cX11_feed 23 = .ok (.getfield 12, 3) := by decide +kernel
theorem dX11_feed_26 : decode cX11_feed 26 = .ok (.getfield 73, 3) := by decide +kernel
theorem dX11_feed_29 : decode cX11_feed 29 = .ok (.lload 5, 2) := by decide +kernel
theorem dX11_feed_31 : decode cX11_feed 31 = .ok (.invokevirtual 77, 3) := by decide +kernel
theorem dX11_feed_34 : decode cX11_feed 34 = .ok (.aload_n 0, 1) := by decide +kernel
theorem dX11_feed_35 : decode cX11_feed 35 = .ok (.getfield 12, 3) := by decide +kernel
theorem dX11_feed_38 : decode cX11_feed 38 = .ok (.getfield 73, 3) := by decide +kernel
theorem dX11_feed_41 : decode cX11_feed 41 = .ok (.getfield 83, 3) := by decide +kernel
theorem dX11_feed_44 : decode cX11_feed 44 = .ok (.ireturn, 1) := by decide +kernel
theorem dX11_chapel_0 : decode cX11_chapel 0 = .ok (.aload_n 0, 1) := by decide +kernel
theorem dX11_chapel_1 : decode cX11_chapel 1 = .ok (.getfield 12, 3) := by decide +kernel
theorem dX11_chapel_4 : decode cX11_chapel 4 = .ok (.invokevirtual 86, 3) := by decide +kernel
theorem dX11_chapel_7 : decode cX11_chapel 7 = .ok (.istore_n 1, 1) := by decide +kernel
theorem dX11_chapel_8 : decode cX11_chapel 8 = .ok (.iload_n 1, 1) := by decide +kernel
theorem dX11_chapel_9 : decode cX11_chapel 9 = .ok (.ifCond .ne 57, 3) := by decide +kernel
theorem dX11_chapel_12 : decode cX11_chapel 12 = .ok (.aload_n 0, 1) := by decide +kernel
theorem dX11_chapel_13 : decode cX11_chapel 13 = .ok (.getfield 12, 3) := by decide +kernel
theorem dX11_chapel_16 : decode cX11_chapel 16 = .ok (.aload_n 0, 1) := by decide +kernel
theorem dX11_chapel_17 : decode cX11_chapel 17 = .ok (.getfield 19, 3) := by decide +kernel
theorem dX11_chapel_20 : decode cX11_chapel 20 = .ok (.aload_n 0, 1) := by decide +kernel
theorem dX11_chapel_21 : decode cX11_chapel 21 = .ok (.getfield 12, 3) := by decide +kernel
theorem dX11_chapel_24 : decode cX11_chapel 24 = .ok (.getfield 90, 3) := by decide +kernel
theorem dX11_chapel_27 : decode cX11_chapel 27 = .ok (.invokevirtual 94, 3) := by decide +kernel
theorem dX11_chapel_30 : decode cX11_chapel 30 = .ok (.putfield 90, 3) := by decide +kernel
theorem dX11_chapel_33 : decode cX11_chapel 33 = .ok (.aload_n 0, 1) := by decide +kernel
theorem dX11_chapel_34 : decode cX11_chapel 34 = .ok (.getfield 26, 3) := by decide +kernel
theorem dX11_chapel_37 : decode cX11_chapel 37 = .ok (.aload_n 0, 1) := by decide +kernel
theorem dX11_chapel_38 : decode cX11_chapel 38 = .ok (.getfield 19, 3) := by decide +kernel
theorem dX11_chapel_41 : decode cX11_chapel 41 = .ok (.getfield 98, 3) := by decide +kernel
theorem dX11_chapel_44 : decode cX11_chapel 44 = .ok (.invokevirtual 101, 3) := by decide +kernel
theorem dX11_chapel_47 : decode cX11_chapel 47 = .ok (.aload_n 0, 1) := by decide +kernel
theorem dX11_chapel_48 : decode cX11_chapel 48 = .ok (.getfield 33, 3) := by decide +kernel
theorem dX11_chapel_51 : decode cX11_chapel 51 = .ok (.invokevirtual 105, 3) := by decide +kernel
theorem dX11_chapel_54 : decode cX11_chapel 54 = .ok (.aload_n 0, 1) := by decide +kernel
theorem dX11_chapel_55 : decode cX11_chapel 55 = .ok (.getfield 40, 3) := by decide +kernel
theorem dX11_chapel_58 : decode cX11_chapel 58 = .ok (.invokevirtual 108, 3) := by decide +kernel
theorem dX11_chapel_61 : decode cX11_chapel 61 = .ok (.aload_n 0, 1) := by decide +kernel
theorem dX11_chapel_62 : decode cX11_chapel 62 = .ok (.iconst 0, 1) := by decide +kernel
theorem dX11_chapel_63 : decode cX11_chapel 63 = .ok (.putfield 69, 3) := by decide +kernel
theorem dX11_chapel_66 : decode cX11_chapel 66 = .ok (.iload_n 1, 1) := by decide +kernel
theorem dX11_chapel_67 : decode cX11_chapel 67 = .ok (.ireturn, 1) := by decide +kernel
theorem dX11_guild_0 : decode cX11_guild 0 = .ok (.aload_n 0, 1) := by decide +kernel
theorem dX11_guild_1 : decode cX11_guild 1 = .ok (.iload_n 1, 1) := by decide +kernel
theorem dX11_guild_2 : decode cX11_guild 2 = .ok (.invokevirtual 109, 3) := by decide +kernel
theorem dX11_guild_5 : decode cX11_guild 5 = .ok (.ifCond .ne 5, 3) := by decide +kernel
theorem dX11_guild_8 : decode cX11_guild 8 = .ok (.iconst (-1), 1) := by decide +kernel
theorem dX11_guild_9 : decode cX11_guild 9 = .ok (.ireturn, 1) := by decide +kernel
theorem dX11_guild_10 : decode cX11_guild 10 = .ok (.iload_n 2, 1) := by decide +kernel
theorem dX11_guild_11 : decode cX11_guild 11 = .ok (.tableswitch 60 0 2 #[25, 38, 51], 25) := by decide +kernel
theorem dX11_guild_36 : decode cX11_guild 36 = .ok (.aload_n 0, 1) := by decide +kernel
theorem dX11_guild_37 : decode cX11_guild 37 = .ok (.getfield 19, 3) := by decide +kernel
theorem dX11_guild_40 : decode cX11_guild 40 = .ok (.getfield 98, 3) := by decide +kernel
theorem dX11_guild_43 : decode cX11_guild 43 = .ok (.getfield 113, 3) := by decide +kernel
theorem dX11_guild_46 : decode cX11_guild 46 = .ok (.iload_n 1, 1) := by decide +kernel
theorem dX11_guild_47 : decode cX11_guild 47 = .ok (.iaload, 1) := by decide +kernel
theorem dX11_guild_48 : decode cX11_guild 48 = .ok (.ireturn, 1) := by decide +kernel
theorem dX11_guild_49 : decode cX11_guild 49 = .ok (.aload_n 0, 1) := by decide +kernel
theorem dX11_guild_50 : decode cX11_guild 50 = .ok (.getfield 19, 3) := by decide +kernel
theorem dX11_guild_53 : decode cX11_guild 53 = .ok (.getfield 98, 3) := by decide +kernel
theorem dX11_guild_56 : decode cX11_guild 56 = .ok (.getfield 119, 3) := by decide +kernel
theorem dX11_guild_59 : decode cX11_guild 59 = .ok (.iload_n 1, 1) := by decide +kernel
theorem dX11_guild_60 : decode cX11_guild 60 = .ok (.iaload, 1) := by decide +kernel
theorem dX11_guild_61 : decode cX11_guild 61 = .ok (.ireturn, 1) := by decide +kernel
theorem dX11_guild_62 : decode cX11_guild 62 = .ok (.aload_n 0, 1) := by decide +kernel
theorem dX11_guild_63 : decode cX11_guild 63 = .ok (.getfield 26, 3) := by decide +kernel
theorem dX11_guild_66 : decode cX11_guild 66 = .ok (.iload_n 1, 1) := by decide +kernel
theorem dX11_guild_67 : decode cX11_guild 67 = .ok (.invokevirtual 122, 3) := by decide +kernel
theorem dX11_guild_70 : decode cX11_guild 70 = .ok (.ireturn, 1) := by decide +kernel
theorem dX11_guild_71 : decode cX11_guild 71 = .ok (.iconst (-1), 1) := by decide +kernel
theorem dX11_guild_72 : decode cX11_guild 72 = .ok (.ireturn, 1) := by decide +kernel
theorem dX11_pane_0 : decode cX11_pane 0 = .ok (.aload_n 0, 1) := by decide +kernel
theorem dX11_pane_1 : decode cX11_pane 1 = .ok (.iload_n 1, 1) := by decide +kernel
theorem dX11_pane_2 : decode cX11_pane 2 = .ok (.invokevirtual 126, 3) := by decide +kernel
theorem dX11_pane_5 : decode cX11_pane 5 = .ok (.ifCond .ne 5, 3) := by decide +kernel
theorem dX11_pane_8 : decode cX11_pane 8 = .ok (.iconst (-1), 1) := by decide +kernel
theorem dX11_pane_9 : decode cX11_pane 9 = .ok (.ireturn, 1) := by decide +kernel
theorem dX11_pane_10 : decode cX11_pane 10 = .ok (.iload_n 2, 1) := by decide +kernel
theorem dX11_pane_11 : decode cX11_pane 11 = .ok (.tableswitch 99 0 4 #[33, 46, 59, 69, 82], 33) := by decide +kernel
theorem dX11_pane_44 : decode cX11_pane 44 = .ok (.aload_n 0, 1) := by decide +kernel
theorem dX11_pane_45 : decode cX11_pane 45 = .ok (.getfield 19, 3) := by decide +kernel
theorem dX11_pane_48 : decode cX11_pane 48 = .ok (.getfield 98, 3) := by decide +kernel
theorem dX11_pane_51 : decode cX11_pane 51 = .ok (.getfield 129, 3) := by decide +kernel
theorem dX11_pane_54 : decode cX11_pane 54 = .ok (.iload_n 1, 1) := by decide +kernel
theorem dX11_pane_55 : decode cX11_pane 55 = .ok (.iaload, 1) := by decide +kernel
theorem dX11_pane_56 : decode cX11_pane 56 = .ok (.ireturn, 1) := by decide +kernel
theorem dX11_pane_57 : decode cX11_pane 57 = .ok (.aload_n 0, 1) := by decide +kernel
theorem dX11_pane_58 : decode cX11_pane 58 = .ok (.getfield 19, 3) := by decide +kernel
theorem dX11_pane_61 : decode cX11_pane 61 = .ok (.getfield 98, 3) := by decide +kernel
theorem dX11_pane_64 : decode cX11_pane 64 = .ok (.getfield 132, 3) := by decide +kernel
theorem dX11_pane_67 : decode cX11_pane 67 = .ok (.iload_n 1, 1) := by decide +kernel
theorem dX11_pane_68 : decode cX11_pane 68 = .ok (.iaload, 1) := by decide +kernel
theorem dX11_pane_69 : decode cX11_pane 69 = .ok (.ireturn, 1) := by decide +kernel
theorem dX11_pane_70 : decode cX11_pane 70 = .ok (.aload_n 0, 1) := by decide +kernel
theorem dX11_pane_71 : decode cX11_pane 71 = .ok (.getfield 26, 3) := by decide +kernel
theorem dX11_pane_74 : decode cX11_pane 74 = .ok (.getfield 135, 3) := by decide +kernel
theorem dX11_pane_77 : decode cX11_pane 77 = .ok (.iload_n 1, 1) := by decide +kernel
theorem dX11_pane_78 : decode cX11_pane 78 = .ok (.iaload, 1) := by decide +kernel
theorem dX11_pane_79 : decode cX11_pane 79 = .ok (.ireturn, 1) := by decide +kernel
theorem dX11_pane_80 : decode cX11_pane 80 = .ok (.aload_n 0, 1) := by decide +kernel
theorem dX11_pane_81 : decode cX11_pane 81 = .ok (.getfield 19, 3) := by decide +kernel
theorem dX11_pane_84 : decode cX11_pane 84 = .ok (.getfield 98, 3) := by decide +kernel
theorem dX11_pane_87 : decode cX11_pane 87 = .ok (.getfield 138, 3) := by decide +kernel
theorem dX11_pane_90 : decode cX11_pane 90 = .ok (.iload_n 1, 1) := by decide +kernel
theorem dX11_pane_91 : decode cX11_pane 91 = .ok (.iaload, 1) := by decide +kernel
theorem dX11_pane_92 : decode cX11_pane 92 = .ok (.ireturn, 1) := by decide +kernel
theorem dX11_pane_93 : decode cX11_pane 93 = .ok (.aload_n 0, 1) := by decide +kernel
theorem dX11_pane_94 : decode cX11_pane 94 = .ok (.getfield 26, 3) := by decide +kernel
theorem dX11_pane_97 : decode cX11_pane 97 = .ok (.iload_n 1, 1) := by decide +kernel
theorem dX11_pane_98 : decode cX11_pane 98 = .ok (.invokevirtual 141, 3) := by decide +kernel
theorem dX11_pane_101 : decode cX11_pane 101 = .ok (.ifCond .eq 7, 3) := by decide +kernel
theorem dX11_pane_104 : decode cX11_pane 104 = .ok (.iconst 1, 1) := by decide +kernel
theorem dX11_pane_105 : decode cX11_pane 105 = .ok (.goto 4, 3) := by decide +kernel
theorem dX11_pane_108 : decode cX11_pane 108 = .ok (.iconst 0, 1) := by decide +kernel
theorem dX11_pane_109 : decode cX11_pane 109 = .ok (.ireturn, 1) := by decide +kernel
theorem dX11_pane_110 : decode cX11_pane 110 = .ok (.iconst (-1), 1) := by decide +kernel
theorem dX11_pane_111 : decode cX11_pane 111 = .ok (.ireturn, 1) := by decide +kernel
theorem dX11_spot_0 : decode cX11_spot 0 = .ok (.aload_n 0, 1) := by decide +kernel
theorem dX11_spot_1 : decode cX11_spot 1 = .ok (.iload_n 1, 1) := by decide +kernel
theorem dX11_spot_2 : decode cX11_spot 2 = .ok (.invokevirtual 126, 3) := by decide +kernel
theorem dX11_spot_5 : decode cX11_spot 5 = .ok (.ifCond .eq 22, 3) := by decide +kernel
theorem dX11_spot_8 : decode cX11_spot 8 = .ok (.iload_n 2, 1) := by decide +kernel
theorem dX11_spot_9 : decode cX11_spot 9 = .ok (.iload_n 3, 1) := by decide +kernel
theorem dX11_spot_10 : decode cX11_spot 10 = .ok (.invokestatic 144, 3) := by decide +kernel
theorem dX11_spot_13 : decode cX11_spot 13 = .ok (.ifCond .eq 14, 3) := by decide +kernel
theorem dX11_spot_16 : decode cX11_spot 16 = .ok (.aload_n 0, 1) := by decide +kernel
theorem dX11_spot_17 : decode cX11_spot 17 = .ok (.getfield 26, 3) := by decide +kernel
theorem dX11_spot_20 : decode cX11_spot 20 = .ok (.iload_n 1, 1) := by decide +kernel
theorem dX11_spot_21 : decode cX11_spot 21 = .ok (.invokevirtual 141, 3) := by decide +kernel
theorem dX11_spot_24 : decode cX11_spot 24 = .ok (.ifCond .eq 5, 3) := by decide +kernel
theorem dX11_spot_27 : decode cX11_spot 27 = .ok (.iconst (-1), 1) := by decide +kernel
theorem dX11_spot_28 : decode cX11_spot 28 = .ok (.ireturn, 1) := by decide +kernel
theorem dX11_spot_29 : decode cX11_spot 29 = .ok (.aload_n 0, 1) := by decide +kernel
theorem dX11_spot_30 : decode cX11_spot 30 = .ok (.getfield 19, 3) := by decide +kernel
theorem dX11_spot_33 : decode cX11_spot 33 = .ok (.iload_n 2, 1) := by decide +kernel
theorem dX11_spot_34 : decode cX11_spot 34 = .ok (.iload_n 3, 1) := by decide +kernel
theorem dX11_spot_35 : decode cX11_spot 35 = .ok (.invokestatic 148, 3) := by decide +kernel
theorem dX11_spot_38 : decode cX11_spot 38 = .ok (.invokevirtual 152, 3) := by decide +kernel
theorem dX11_spot_41 : decode cX11_spot 41 = .ok (.aload_n 0, 1) := by decide +kernel
theorem dX11_spot_42 : decode cX11_spot 42 = .ok (.getfield 19, 3) := by decide +kernel
theorem dX11_spot_45 : decode cX11_spot 45 = .ok (.getfield 156, 3) := by decide +kernel
theorem dX11_spot_48 : decode cX11_spot 48 = .ok (.iload_n 1, 1) := by decide +kernel
theorem dX11_spot_49 : decode cX11_spot 49 = .ok (.iaload, 1) := by decide +kernel
theorem dX11_spot_50 : decode cX11_spot 50 = .ok (.ireturn, 1) := by decide +kernel
theorem dX11_place_0 : decode cX11_place 0 = .ok (.aload_n 0, 1) := by decide +kernel
theorem dX11_place_1 : decode cX11_place 1 = .ok (.getfield 19, 3) := by decide +kernel
theorem dX11_place_4 : decode cX11_place 4 = .ok (.getfield 98, 3) := by decide +kernel
theorem dX11_place_7 : decode cX11_place 7 = .ok (.iload_n 1, 1) := by decide +kernel
theorem dX11_place_8 : decode cX11_place 8 = .ok (.iload_n 2, 1) := by decide +kernel
theorem dX11_place_9 : decode cX11_place 9 = .ok (.invokevirtual 159, 3) := by decide +kernel
theorem dX11_place_12 : decode cX11_place 12 = .ok (.ifCond .eq 12, 3) := by decide +kernel
theorem dX11_place_15 : decode cX11_place 15 = .ok (.iload_n 3, 1) := by decide +kernel
theorem dX11_place_16 : decode cX11_place 16 = .ok (.iload 4, 2) := by decide +kernel
theorem dX11_place_18 : decode cX11_place 18 = .ok (.invokestatic 144, 3) := by decide +kernel
theorem dX11_place_21 : decode cX11_place 21 = .ok (.ifCond .ne 5, 3) := by decide +kernel
theorem dX11_place_24 : decode cX11_place 24 = .ok (.iconst (-1), 1) := by decide +kernel
theorem dX11_place_25 : decode cX11_place 25 = .ok (.ireturn, 1) := by decide +kernel
theorem dX11_place_26 : decode cX11_place 26 = .ok (.aload_n 0, 1) := by decide +kernel
theorem dX11_place_27 : decode cX11_place 27 = .ok (.getfield 19, 3) := by decide +kernel
theorem dX11_place_30 : decode cX11_place 30 = .ok (.iload_n 3, 1) := by decide +kernel
theorem dX11_place_31 : decode cX11_place 31 = .ok (.iload 4, 2) := by decide +kernel
theorem dX11_place_33 : decode cX11_place 33 = .ok (.invokestatic 148, 3) := by decide +kernel
theorem dX11_place_36 : decode cX11_place 36 = .ok (.invokevirtual 152, 3) := by decide +kernel
theorem dX11_place_39 : decode cX11_place 39 = .ok (.aload_n 0, 1) := by decide +kernel
theorem dX11_place_40 : decode cX11_place 40 = .ok (.getfield 19, 3) := by decide +kernel
theorem dX11_place_43 : decode cX11_place 43 = .ok (.iload_n 1, 1) := by decide +kernel
theorem dX11_place_44 : decode cX11_place 44 = .ok (.iload_n 2, 1) := by decide +kernel
theorem dX11_place_45 : decode cX11_place 45 = .ok (.invokestatic 162, 3) := by decide +kernel
theorem dX11_place_48 : decode cX11_place 48 = .ok (.aload_n 0, 1) := by decide +kernel
theorem dX11_place_49 : decode cX11_place 49 = .ok (.getfield 26, 3) := by decide +kernel
theorem dX11_place_52 : decode cX11_place 52 = .ok (.invokevirtual 165, 3) := by decide +kernel
theorem dX11_place_55 : decode cX11_place 55 = .ok (.invokevirtual 168, 3) := by decide +kernel
theorem dX11_place_58 : decode cX11_place 58 = .ok (.istore 6, 2) := by decide +kernel
theorem dX11_place_60 : decode cX11_place 60 = .ok (.iload 5, 2) := by decide +kernel
theorem dX11_place_62 : decode cX11_place 62 = .ok (.tableswitch 55 0 2 #[26, 36, 49], 26) := by decide +kernel
theorem dX11_place_88 : decode cX11_place 88 = .ok (.aload_n 0, 1) := by decide +kernel
theorem dX11_place_89 : decode cX11_place 89 = .ok (.getfield 26, 3) := by decide +kernel
theorem dX11_place_92 : decode cX11_place 92 = .ok (.iload 6, 2) := by decide +kernel
theorem dX11_place_94 : decode cX11_place 94 = .ok (.invokevirtual 171, 3) := by decide +kernel
theorem dX11_place_97 : decode cX11_place 97 = .ok (.ireturn, 1) := by decide +kernel
theorem dX11_place_98 : decode cX11_place 98 = .ok (.aload_n 0, 1) := by decide +kernel
theorem dX11_place_99 : decode cX11_place 99 = .ok (.getfield 19, 3) := by decide +kernel
theorem dX11_place_102 : decode cX11_place 102 = .ok (.getfield 98, 3) := by decide +kernel
theorem dX11_place_105 : decode cX11_place 105 = .ok (.iload 6, 2) := by decide +kernel
theorem dX11_place_107 : decode cX11_place 107 = .ok (.invokevirtual 174, 3) := by decide +kernel
theorem dX11_place_110 : decode cX11_place 110 = .ok (.ireturn, 1) := by decide +kernel
theorem dX11_place_111 : decode cX11_place 111 = .ok (.iload 6, 2) := by decide +kernel
theorem dX11_place_113 : decode cX11_place 113 = .ok (.invokestatic 177, 3) := by decide +kernel
theorem dX11_place_116 : decode cX11_place 116 = .ok (.ireturn, 1) := by decide +kernel
theorem dX11_place_117 : decode cX11_place 117 = .ok (.iconst (-1), 1) := by decide +kernel
theorem dX11_place_118 : decode cX11_place 118 = .ok (.ireturn, 1) := by decide +kernel
theorem dX11_yields_0 : decode cX11_yields 0 = .ok (.aload_n 0, 1) := by decide +kernel
theorem dX11_yields_1 : decode cX11_yields 1 = .ok (.iload_n 1, 1) := by decide +kernel
theorem dX11_yields_2 : decode cX11_yields 2 = .ok (.invokevirtual 126, 3) := by decide +kernel
theorem dX11_yields_5 : decode cX11_yields 5 = .ok (.ifCond .ne 5, 3) := by decide +kernel
theorem dX11_yields_8 : decode cX11_yields 8 = .ok (.iconst (-1), 1) := by decide +kernel
theorem dX11_yields_9 : decode cX11_yields 9 = .ok (.ireturn, 1) := by decide +kernel
theorem dX11_yields_10 : decode cX11_yields 10 = .ok (.aload_n 0, 1) := by decide +kernel
theorem dX11_yields_11 : decode cX11_yields 11 = .ok (.getfield 40, 3) := by decide +kernel
theorem dX11_yields_14 : decode cX11_yields 14 = .ok (.aload_n 0, 1) := by decide +kernel
theorem dX11_yields_15 : decode cX11_yields 15 = .ok (.invokevirtual 182, 3) := by decide +kernel
theorem dX11_yields_18 : decode cX11_yields 18 = .ok (.iload_n 1, 1) := by decide +kernel
theorem dX11_yields_19 : decode cX11_yields 19 = .ok (.invokevirtual 185, 3) := by decide +kernel
theorem dX11_yields_22 : decode cX11_yields 22 = .ok (.ireturn, 1) := by decide +kernel
theorem dX11_rents_0 : decode cX11_rents 0 = .ok (.aload_n 0, 1) := by decide +kernel
theorem dX11_rents_1 : decode cX11_rents 1 = .ok (.iload_n 1, 1) := by decide +kernel
theorem dX11_rents_2 : decode cX11_rents 2 = .ok (.invokevirtual 109, 3) := by decide +kernel
theorem dX11_rents_5 : decode cX11_rents 5 = .ok (.ifCond .ne 5, 3) := by decide +kernel
theorem dX11_rents_8 : decode cX11_rents 8 = .ok (.iconst (-1), 1) := by decide +kernel
theorem dX11_rents_9 : decode cX11_rents 9 = .ok (.ireturn, 1) := by decide +kernel
theorem dX11_rents_10 : decode cX11_rents 10 = .ok (.aload_n 0, 1) := by decide +kernel
theorem dX11_rents_11 : decode cX11_rents 11 = .ok (.getfield 40, 3) := by decide +kernel
theorem dX11_rents_14 : decode cX11_rents 14 = .ok (.aload_n 0, 1) := by decide +kernel
theorem dX11_rents_15 : decode cX11_rents 15 = .ok (.invokevirtual 182, 3) := by decide +kernel
theorem dX11_rents_18 : decode cX11_rents 18 = .ok (.aload_n 0, 1) := by decide +kernel
theorem dX11_rents_19 : decode cX11_rents 19 = .ok (.getfield 26, 3) := by decide +kernel
theorem dX11_rents_22 : decode cX11_rents 22 = .ok (.iload_n 1, 1) := by decide +kernel
theorem dX11_rents_23 : decode cX11_rents 23 = .ok (.invokevirtual 122, 3) := by decide +kernel
theorem dX11_rents_26 : decode cX11_rents 26 = .ok (.invokevirtual 188, 3) := by decide +kernel
theorem dX11_rents_29 : decode cX11_rents 29 = .ok (.ireturn, 1) := by decide +kernel
theorem dX11_worth_0 : decode cX11_worth 0 = .ok (.aload_n 0, 1) := by decide +kernel
theorem dX11_worth_1 : decode cX11_worth 1 = .ok (.iload_n 1, 1) := by decide +kernel
theorem dX11_worth_2 : decode cX11_worth 2 = .ok (.invokevirtual 109, 3) := by decide +kernel
theorem dX11_worth_5 : decode cX11_worth 5 = .ok (.ifCond .eq 11, 3) := by decide +kernel
theorem dX11_worth_8 : decode cX11_worth 8 = .ok (.aload_n 0, 1) := by decide +kernel
theorem dX11_worth_9 : decode cX11_worth 9 = .ok (.iload_n 2, 1) := by decide +kernel
theorem dX11_worth_10 : decode cX11_worth 10 = .ok (.invokevirtual 126, 3) := by decide +kernel
theorem dX11_worth_13 : decode cX11_worth 13 = .ok (.ifCond .ne 5, 3) := by decide +kernel
theorem dX11_worth_16 : decode cX11_worth 16 = .ok (.iconst (-1), 1) := by decide +kernel
theorem dX11_worth_17 : decode cX11_worth 17 = .ok (.ireturn, 1) := by decide +kernel
theorem dX11_worth_18 : decode cX11_worth 18 = .ok (.aload_n 0, 1) := by decide +kernel
theorem dX11_worth_19 : decode cX11_worth 19 = .ok (.getfield 40, 3) := by decide +kernel
theorem dX11_worth_22 : decode cX11_worth 22 = .ok (.aload_n 0, 1) := by decide +kernel
theorem dX11_worth_23 : decode cX11_worth 23 = .ok (.getfield 19, 3) := by decide +kernel
theorem dX11_worth_26 : decode cX11_worth 26 = .ok (.getfield 98, 3) := by decide +kernel
theorem dX11_worth_29 : decode cX11_worth 29 = .ok (.aload_n 0, 1) := by decide +kernel
theorem dX11_worth_30 : decode cX11_worth 30 = .ok (.invokevirtual 182, 3) := by decide +kernel
theorem dX11_worth_33 : decode cX11_worth 33 = .ok (.iload_n 1, 1) := by decide +kernel
theorem dX11_worth_34 : decode cX11_worth 34 = .ok (.iload_n 2, 1) := by decide +kernel
theorem dX11_worth_35 : decode cX11_worth 35 = .ok (.invokevirtual 191, 3) := by decide +kernel
theorem dX11_worth_38 : decode cX11_worth 38 = .ok (.ireturn, 1) := by decide +kernel
theorem dX11_gain_0 : decode cX11_gain 0 = .ok (.aload_n 0, 1) := by decide +kernel
theorem dX11_gain_1 : decode cX11_gain 1 = .ok (.iload_n 1, 1) := by decide +kernel
theorem dX11_gain_2 : decode cX11_gain 2 = .ok (.iload_n 2, 1) := by decide +kernel
theorem dX11_gain_3 : decode cX11_gain 3 = .ok (.invokevirtual 195, 3) := by decide +kernel
theorem dX11_gain_6 : decode cX11_gain 6 = .ok (.ifCond .ne 5, 3) := by decide +kernel
theorem dX11_gain_9 : decode cX11_gain 9 = .ok (.iconst (-1), 1) := by decide +kernel
theorem dX11_gain_10 : decode cX11_gain 10 = .ok (.ireturn, 1) := by decide +kernel
theorem dX11_gain_11 : decode cX11_gain 11 = .ok (.aload_n 0, 1) := by decide +kernel
theorem dX11_gain_12 : decode cX11_gain 12 = .ok (.getfield 40, 3) := by decide +kernel
theorem dX11_gain_15 : decode cX11_gain 15 = .ok (.aload_n 0, 1) := by decide +kernel
theorem dX11_gain_16 : decode cX11_gain 16 = .ok (.getfield 19, 3) := by decide +kernel
theorem dX11_gain_19 : decode cX11_gain 19 = .ok (.getfield 98, 3) := by decide +kernel
theorem dX11_gain_22 : decode cX11_gain 22 = .ok (.aload_n 0, 1) := by decide +kernel
theorem dX11_gain_23 : decode cX11_gain 23 = .ok (.getfield 26, 3) := by decide +kernel
theorem dX11_gain_26 : decode cX11_gain 26 = .ok (.aload_n 0, 1) := by decide +kernel
theorem dX11_gain_27 : decode cX11_gain 27 = .ok (.invokevirtual 182, 3) := by decide +kernel
theorem dX11_gain_30 : decode cX11_gain 30 = .ok (.iload_n 1, 1) := by decide +kernel
theorem dX11_gain_31 : decode cX11_gain 31 = .ok (.iload_n 2, 1) := by decide +kernel
theorem dX11_gain_32 : decode cX11_gain 32 = .ok (.invokevirtual 198, 3) := by decide +kernel
theorem dX11_gain_35 : decode cX11_gain 35 = .ok (.ireturn, 1) := by decide +kernel
theorem dX11_best_0 : decode cX11_best 0 = .ok (.iload_n 1, 1) := by decide +kernel
theorem dX11_best_1 : decode cX11_best 1 = .ok (.iconst (-1), 1) := by decide +kernel
theorem dX11_best_2 : decode cX11_best 2 = .ok (.if_icmp .eq 13, 3) := by decide +kernel
theorem dX11_best_5 : decode cX11_best 5 = .ok (.aload_n 0, 1) := by decide +kernel
theorem dX11_best_6 : decode cX11_best 6 = .ok (.iload_n 1, 1) := by decide +kernel
theorem dX11_best_7 : decode cX11_best 7 = .ok (.invokevirtual 126, 3) := by decide +kernel
theorem dX11_best_10 : decode cX11_best 10 = .ok (.ifCond .ne 5, 3) := by decide +kernel
theorem dX11_best_13 : decode cX11_best 13 = .ok (.iconst (-1), 1) := by decide +kernel
theorem dX11_best_14 : decode cX11_best 14 = .ok (.ireturn, 1) := by decide +kernel
theorem dX11_best_15 : decode cX11_best 15 = .ok (.aload_n 0, 1) := by decide +kernel
theorem dX11_best_16 : decode cX11_best 16 = .ok (.getfield 47, 3) := by decide +kernel
theorem dX11_best_19 : decode cX11_best 19 = .ok (.aload_n 0, 1) := by decide +kernel
theorem dX11_best_20 : decode cX11_best 20 = .ok (.getfield 19, 3) := by decide +kernel
theorem dX11_best_23 : decode cX11_best 23 = .ok (.getfield 98, 3) := by decide +kernel
theorem dX11_best_26 : decode cX11_best 26 = .ok (.aload_n 0, 1) := by decide +kernel
theorem dX11_best_27 : decode cX11_best 27 = .ok (.getfield 26, 3) := by decide +kernel
theorem dX11_best_30 : decode cX11_best 30 = .ok (.aload_n 0, 1) := by decide +kernel
theorem dX11_best_31 : decode cX11_best 31 = .ok (.getfield 40, 3) := by decide +kernel
theorem dX11_best_34 : decode cX11_best 34 = .ok (.aload_n 0, 1) := by decide +kernel
theorem dX11_best_35 : decode cX11_best 35 = .ok (.invokevirtual 182, 3) := by decide +kernel
theorem dX11_best_38 : decode cX11_best 38 = .ok (.invokevirtual 202, 3) := by decide +kernel
theorem dX11_best_41 : decode cX11_best 41 = .ok (.iload_n 1, 1) := by decide +kernel
theorem dX11_best_42 : decode cX11_best 42 = .ok (.iconst (-1), 1) := by decide +kernel
theorem dX11_best_43 : decode cX11_best 43 = .ok (.if_icmp .ne 13, 3) := by decide +kernel
theorem dX11_best_46 : decode cX11_best 46 = .ok (.aload_n 0, 1) := by decide +kernel
theorem dX11_best_47 : decode cX11_best 47 = .ok (.getfield 47, 3) := by decide +kernel
theorem dX11_best_50 : decode cX11_best 50 = .ok (.getfield 206, 3) := by decide +kernel
theorem dX11_best_53 : decode cX11_best 53 = .ok (.goto 12, 3) := by decide +kernel
theorem dX11_best_56 : decode cX11_best 56 = .ok (.aload_n 0, 1) := by decide +kernel
theorem dX11_best_57 : decode cX11_best 57 = .ok (.getfield 47, 3) := by decide +kernel
theorem dX11_best_60 : decode cX11_best 60 = .ok (.getfield 209, 3) := by decide +kernel
theorem dX11_best_63 : decode cX11_best 63 = .ok (.iload_n 1, 1) := by decide +kernel
theorem dX11_best_64 : decode cX11_best 64 = .ok (.iaload, 1) := by decide +kernel
theorem dX11_best_65 : decode cX11_best 65 = .ok (.ireturn, 1) := by decide +kernel
theorem dX11_exchange_0 : decode cX11_exchange 0 = .ok (.aload_n 0, 1) := by decide +kernel
theorem dX11_exchange_1 : decode cX11_exchange 1 = .ok (.iload_n 1, 1) := by decide +kernel
theorem dX11_exchange_2 : decode cX11_exchange 2 = .ok (.iload_n 2, 1) := by decide +kernel
theorem dX11_exchange_3 : decode cX11_exchange 3 = .ok (.invokevirtual 195, 3) := by decide +kernel
theorem dX11_exchange_6 : decode cX11_exchange 6 = .ok (.ifCond .ne 5, 3) := by decide +kernel
theorem dX11_exchange_9 : decode cX11_exchange 9 = .ok (.iconst 0, 1) := by decide +kernel
theorem dX11_exchange_10 : decode cX11_exchange 10 = .ok (.ireturn, 1) := by decide +kernel
theorem dX11_exchange_11 : decode cX11_exchange 11 = .ok (.aload_n 0, 1) := by decide +kernel
theorem dX11_exchange_12 : decode cX11_exchange 12 = .ok (.getfield 26, 3) := by decide +kernel
theorem dX11_exchange_15 : decode cX11_exchange 15 = .ok (.iload_n 1, 1) := by decide +kernel
theorem dX11_exchange_16 : decode cX11_exchange 16 = .ok (.iload_n 2, 1) := by decide +kernel
theorem dX11_exchange_17 : decode cX11_exchange 17 = .ok (.invokevirtual 212, 3) := by decide +kernel
theorem dX11_exchange_20 : decode cX11_exchange 20 = .ok (.aload_n 0, 1) := by decide +kernel
theorem dX11_exchange_21 : decode cX11_exchange 21 = .ok (.getfield 33, 3) := by decide +kernel
theorem dX11_exchange_24 : decode cX11_exchange 24 = .ok (.iload_n 1, 1) := by decide +kernel
theorem dX11_exchange_25 : decode cX11_exchange 25 = .ok (.iload_n 2, 1) := by decide +kernel
theorem dX11_exchange_26 : decode cX11_exchange 26 = .ok (.invokevirtual 216, 3) := by decide +kernel
theorem dX11_exchange_29 : decode cX11_exchange 29 = .ok (.iconst 1, 1) := by decide +kernel
theorem dX11_exchange_30 : decode cX11_exchange 30 = .ok (.ireturn, 1) := by decide +kernel
theorem dX11_breaks_0 : decode cX11_breaks 0 = .ok (.aload_n 0, 1) := by decide +kernel
theorem dX11_breaks_1 : decode cX11_breaks 1 = .ok (.iload_n 1, 1) := by decide +kernel
theorem dX11_breaks_2 : decode cX11_breaks 2 = .ok (.invokevirtual 126, 3) := by decide +kernel
theorem dX11_breaks_5 : decode cX11_breaks 5 = .ok (.ifCond .eq 15, 3) := by decide +kernel
theorem dX11_breaks_8 : decode cX11_breaks 8 = .ok (.aload_n 0, 1) := by decide +kernel
theorem dX11_breaks_9 : decode cX11_breaks 9 = .ok (.getfield 26, 3) := by decide +kernel
theorem dX11_breaks_12 : decode cX11_breaks 12 = .ok (.iload_n 1, 1) := by decide +kernel
theorem dX11_breaks_13 : decode cX11_breaks 13 = .ok (.invokevirtual 141, 3) := by decide +kernel
theorem dX11_breaks_16 : decode cX11_breaks 16 = .ok (.iload_n 2, 1) := by decide +kernel
theorem dX11_breaks_17 : decode cX11_breaks 17 = .ok (.if_icmp .eq 5, 3) := by decide +kernel
theorem dX11_breaks_20 : decode cX11_breaks 20 = .ok (.iconst 0, 1) := by decide +kernel
theorem dX11_breaks_21 : decode cX11_breaks 21 = .ok (.ireturn, 1) := by decide +kernel
theorem dX11_breaks_22 : decode cX11_breaks 22 = .ok (.aload_n 0, 1) := by decide +kernel
theorem dX11_breaks_23 : decode cX11_breaks 23 = .ok (.getfield 26, 3) := by decide +kernel
theorem dX11_breaks_26 : decode cX11_breaks 26 = .ok (.iload_n 1, 1) := by decide +kernel
theorem dX11_breaks_27 : decode cX11_breaks 27 = .ok (.invokevirtual 219, 3) := by decide +kernel
theorem dX11_breaks_30 : decode cX11_breaks 30 = .ok (.aload_n 0, 1) := by decide +kernel
theorem dX11_breaks_31 : decode cX11_breaks 31 = .ok (.getfield 33, 3) := by decide +kernel
theorem dX11_breaks_34 : decode cX11_breaks 34 = .ok (.iload_n 1, 1) := by decide +kernel
theorem dX11_breaks_35 : decode cX11_breaks 35 = .ok (.iconst (-1), 1) := by decide +kernel
theorem dX11_breaks_36 : decode cX11_breaks 36 = .ok (.invokevirtual 216, 3) := by decide +kernel
theorem dX11_breaks_39 : decode cX11_breaks 39 = .ok (.iconst 1, 1) := by decide +kernel
theorem dX11_breaks_40 : decode cX11_breaks 40 = .ok (.ireturn, 1) := by decide +kernel
theorem dX11_fallen_0 : decode cX11_fallen 0 = .ok (.aload_n 0, 1) := by decide +kernel
theorem dX11_fallen_1 : decode cX11_fallen 1 = .ok (.getfield 40, 3) := by decide +kernel
theorem dX11_fallen_4 : decode cX11_fallen 4 = .ok (.aload_n 0, 1) := by decide +kernel
theorem dX11_fallen_5 : decode cX11_fallen 5 = .ok (.getfield 19, 3) := by decide +kernel
theorem dX11_fallen_8 : decode cX11_fallen 8 = .ok (.aload_n 0, 1) := by decide +kernel
theorem dX11_fallen_9 : decode cX11_fallen 9 = .ok (.getfield 26, 3) := by decide +kernel
theorem dX11_fallen_12 : decode cX11_fallen 12 = .ok (.invokevirtual 222, 3) := by decide +kernel
theorem dX11_fallen_15 : decode cX11_fallen 15 = .ok (.iconst 0, 1) := by decide +kernel
theorem dX11_fallen_16 : decode cX11_fallen 16 = .ok (.istore_n 1, 1) := by decide +kernel
theorem dX11_fallen_17 : decode cX11_fallen 17 = .ok (.iconst 0, 1) := by decide +kernel
theorem dX11_fallen_18 : decode cX11_fallen 18 = .ok (.istore_n 2, 1) := by decide +kernel
theorem dX11_fallen_19 : decode cX11_fallen 19 = .ok (.iload_n 2, 1) := by decide +kernel
theorem dX11_fallen_20 : decode cX11_fallen 20 = .ok (.bipush 6, 2) := by decide +kernel
theorem dX11_fallen_22 : decode cX11_fallen 22 = .ok (.if_icmp .ge 27, 3) := by decide +kernel
theorem dX11_fallen_25 : decode cX11_fallen 25 = .ok (.aload_n 0, 1) := by decide +kernel
theorem dX11_fallen_26 : decode cX11_fallen 26 = .ok (.getfield 40, 3) := by decide +kernel
theorem dX11_fallen_29 : decode cX11_fallen 29 = .ok (.getfield 226, 3) := by decide +kernel
theorem dX11_fallen_32 : decode cX11_fallen 32 = .ok (.iload_n 2, 1) := by decide +kernel
theorem dX11_fallen_33 : decode cX11_fallen 33 = .ok (.iaload, 1) := by decide +kernel
theorem dX11_fallen_34 : decode cX11_fallen 34 = .ok (.ifCond .le 9, 3) := by decide +kernel
theorem dX11_fallen_37 : decode cX11_fallen 37 = .ok (.iload_n 1, 1) := by decide +kernel
theorem dX11_fallen_38 : decode cX11_fallen 38 = .ok (.iconst 1, 1) := by decide +kernel
theorem dX11_fallen_39 : decode cX11_fallen 39 = .ok (.iload_n 2, 1) := by decide +kernel
theorem dX11_fallen_40 : decode cX11_fallen 40 = .ok (.ishl, 1) := by decide +kernel
theorem dX11_fallen_41 : decode cX11_fallen 41 = .ok (.ior, 1) := by decide +kernel
theorem dX11_fallen_42 : decode cX11_fallen 42 = .ok (.istore_n 1, 1) := by decide +kernel
theorem dX11_fallen_43 : decode cX11_fallen 43 = .ok (.iinc 2 1, 3) := by decide +kernel
theorem dX11_fallen_46 : decode cX11_fallen 46 = .ok (.goto (-27), 3) := by decide +kernel
theorem dX11_fallen_49 : decode cX11_fallen 49 = .ok (.iload_n 1, 1) := by decide +kernel
theorem dX11_fallen_50 : decode cX11_fallen 50 = .ok (.ireturn, 1) := by decide +kernel
theorem dX11_falls_0 : decode cX11_falls 0 = .ok (.aload_n 0, 1) := by decide +kernel
theorem dX11_falls_1 : decode cX11_falls 1 = .ok (.iload_n 1, 1) := by decide +kernel
theorem dX11_falls_2 : decode cX11_falls 2 = .ok (.invokevirtual 109, 3) := by decide +kernel
theorem dX11_falls_5 : decode cX11_falls 5 = .ok (.ifCond .ne 5, 3) := by decide +kernel
theorem dX11_falls_8 : decode cX11_falls 8 = .ok (.iconst (-1), 1) := by decide +kernel
theorem dX11_falls_9 : decode cX11_falls 9 = .ok (.ireturn, 1) := by decide +kernel
theorem dX11_falls_10 : decode cX11_falls 10 = .ok (.aload_n 0, 1) := by decide +kernel
theorem dX11_falls_11 : decode cX11_falls 11 = .ok (.getfield 40, 3) := by decide +kernel
theorem dX11_falls_14 : decode cX11_falls 14 = .ok (.aload_n 0, 1) := by decide +kernel
theorem dX11_falls_15 : decode cX11_falls 15 = .ok (.getfield 19, 3) := by decide +kernel
theorem dX11_falls_18 : decode cX11_falls 18 = .ok (.aload_n 0, 1) := by decide +kernel
theorem dX11_falls_19 : decode cX11_falls 19 = .ok (.getfield 26, 3) := by decide +kernel
theorem dX11_falls_22 : decode cX11_falls 22 = .ok (.invokevirtual 222, 3) := by decide +kernel
theorem dX11_falls_25 : decode cX11_falls 25 = .ok (.aload_n 0, 1) := by decide +kernel
theorem dX11_falls_26 : decode cX11_falls 26 = .ok (.getfield 40, 3) := by decide +kernel
theorem dX11_falls_29 : decode cX11_falls 29 = .ok (.getfield 226, 3) := by decide +kernel
theorem dX11_falls_32 : decode cX11_falls 32 = .ok (.iload_n 1, 1) := by decide +kernel
theorem dX11_falls_33 : decode cX11_falls 33 = .ok (.iaload, 1) := by decide +kernel
theorem dX11_falls_34 : decode cX11_falls 34 = .ok (.ireturn, 1) := by decide +kernel
theorem dX11_undo_0 : decode cX11_undo 0 = .ok (.aload_n 0, 1) := by decide +kernel
theorem dX11_undo_1 : decode cX11_undo 1 = .ok (.getfield 33, 3) := by decide +kernel
theorem dX11_undo_4 : decode cX11_undo 4 = .ok (.aload_n 0, 1) := by decide +kernel
theorem dX11_undo_5 : decode cX11_undo 5 = .ok (.getfield 26, 3) := by decide +kernel
theorem dX11_undo_8 : decode cX11_undo 8 = .ok (.invokevirtual 229, 3) := by decide +kernel
theorem dX11_undo_11 : decode cX11_undo 11 = .ok (.ireturn, 1) := by decide +kernel
theorem dX11_stall_0 : decode cX11_stall 0 = .ok (.aload_n 0, 1) := by decide +kernel
theorem dX11_stall_1 : decode cX11_stall 1 = .ok (.iload_n 1, 1) := by decide +kernel
theorem dX11_stall_2 : decode cX11_stall 2 = .ok (.invokevirtual 109, 3) := by decide +kernel
theorem dX11_stall_5 : decode cX11_stall 5 = .ok (.ifCond .eq 26, 3) := by decide +kernel
theorem dX11_stall_8 : decode cX11_stall 8 = .ok (.iload_n 2, 1) := by decide +kernel
theorem dX11_stall_9 : decode cX11_stall 9 = .ok (.iload_n 3, 1) := by decide +kernel
theorem dX11_stall_10 : decode cX11_stall 10 = .ok (.invokestatic 144, 3) := by decide +kernel
theorem dX11_stall_13 : decode cX11_stall 13 = .ok (.ifCond .eq 18, 3) := by decide +kernel
theorem dX11_stall_16 : decode cX11_stall 16 = .ok (.iload_n 2, 1) := by decide +kernel
theorem dX11_stall_17 : decode cX11_stall 17 = .ok (.iload 4, 2) := by decide +kernel
theorem dX11_stall_19 : decode cX11_stall 19 = .ok (.invokestatic 144, 3) := by decide +kernel
theorem dX11_stall_22 : decode cX11_stall 22 = .ok (.ifCond .eq 9, 3) := by decide +kernel
theorem dX11_stall_25 : decode cX11_stall 25 = .ok (.iload 4, 2) := by decide +kernel
theorem dX11_stall_27 : decode cX11_stall 27 = .ok (.iload_n 3, 1) := by decide +kernel
theorem dX11_stall_28 : decode cX11_stall 28 = .ok (.if_icmp .ge 5, 3) := by decide +kernel
theorem dX11_stall_31 : decode cX11_stall 31 = .ok (.iconst (-1), 1) := by decide +kernel
theorem dX11_stall_32 : decode cX11_stall 32 = .ok (.ireturn, 1) := by decide +kernel
theorem dX11_stall_33 : decode cX11_stall 33 = .ok (.iload 4, 2) := by decide +kernel
theorem dX11_stall_35 : decode cX11_stall 35 = .ok (.iload_n 3, 1) := by decide +kernel
theorem dX11_stall_36 : decode cX11_stall 36 = .ok (.isub, 1) := by decide +kernel
theorem dX11_stall_37 : decode cX11_stall 37 = .ok (.iconst 1, 1) := by decide +kernel
theorem dX11_stall_38 : decode cX11_stall 38 = .ok (.iadd, 1) := by decide +kernel
theorem dX11_stall_39 : decode cX11_stall 39 = .ok (.istore 6, 2) := by decide +kernel
theorem dX11_stall_41 : decode cX11_stall 41 = .ok (.iload 5, 2) := by decide +kernel
theorem dX11_stall_43 : decode cX11_stall 43 = .ok (.iconst (-1), 1) := by decide +kernel
theorem dX11_stall_44 : decode cX11_stall 44 = .ok (.if_icmp .lt 10, 3) := by decide +kernel
theorem dX11_stall_47 : decode cX11_stall 47 = .ok (.iload 5, 2) := by decide +kernel
theorem dX11_stall_49 : decode cX11_stall 49 = .ok (.iload 6, 2) := by decide +kernel
theorem dX11_stall_51 : decode cX11_stall 51 = .ok (.if_icmp .lt 5, 3) := by decide +kernel
theorem dX11_stall_54 : decode cX11_stall 54 = .ok (.iconst (-1), 1) := by decide +kernel
theorem dX11_stall_55 : decode cX11_stall 55 = .ok (.ireturn, 1) := by decide +kernel
theorem dX11_stall_56 : decode cX11_stall 56 = .ok (.aload_n 0, 1) := by decide +kernel
theorem dX11_stall_57 : decode cX11_stall 57 = .ok (.getfield 54, 3) := by decide +kernel
theorem dX11_stall_60 : decode cX11_stall 60 = .ok (.aload_n 0, 1) := by decide +kernel
theorem dX11_stall_61 : decode cX11_stall 61 = .ok (.getfield 19, 3) := by decide +kernel
theorem dX11_stall_64 : decode cX11_stall 64 = .ok (.aload_n 0, 1) := by decide +kernel
theorem dX11_stall_65 : decode cX11_stall 65 = .ok (.getfield 26, 3) := by decide +kernel
theorem dX11_stall_68 : decode cX11_stall 68 = .ok (.iload_n 1, 1) := by decide +kernel
theorem dX11_stall_69 : decode cX11_stall 69 = .ok (.invokevirtual 122, 3) := by decide +kernel
theorem dX11_stall_72 : decode cX11_stall 72 = .ok (.aload_n 0, 1) := by decide +kernel
theorem dX11_stall_73 : decode cX11_stall 73 = .ok (.getfield 26, 3) := by decide +kernel
theorem dX11_stall_76 : decode cX11_stall 76 = .ok (.invokevirtual 165, 3) := by decide +kernel
theorem dX11_stall_79 : decode cX11_stall 79 = .ok (.iand, 1) := by decide +kernel
theorem dX11_stall_80 : decode cX11_stall 80 = .ok (.iload_n 2, 1) := by decide +kernel
theorem dX11_stall_81 : decode cX11_stall 81 = .ok (.iload_n 3, 1) := by decide +kernel
theorem dX11_stall_82 : decode cX11_stall 82 = .ok (.invokestatic 148, 3) := by decide +kernel
theorem dX11_stall_85 : decode cX11_stall 85 = .ok (.iload 6, 2) := by decide +kernel
theorem dX11_stall_87 : decode cX11_stall 87 = .ok (.invokevirtual 233, 3) := by decide +kernel
theorem dX11_stall_90 : decode cX11_stall 90 = .ok (.iload 5, 2) := by decide +kernel
theorem dX11_stall_92 : decode cX11_stall 92 = .ok (.iconst (-1), 1) := by decide +kernel
theorem dX11_stall_93 : decode cX11_stall 93 = .ok (.if_icmp .ne 13, 3) := by decide +kernel
theorem dX11_stall_96 : decode cX11_stall 96 = .ok (.aload_n 0, 1) := by decide +kernel
theorem dX11_stall_97 : decode cX11_stall 97 = .ok (.getfield 54, 3) := by decide +kernel
theorem dX11_stall_100 : decode cX11_stall 100 = .ok (.getfield 237, 3) := by decide +kernel
theorem dX11_stall_103 : decode cX11_stall 103 = .ok (.goto 13, 3) := by decide +kernel
theorem dX11_stall_106 : decode cX11_stall 106 = .ok (.aload_n 0, 1) := by decide +kernel
theorem dX11_stall_107 : decode cX11_stall 107 = .ok (.getfield 54, 3) := by decide +kernel
theorem dX11_stall_110 : decode cX11_stall 110 = .ok (.getfield 240, 3) := by decide +kernel
theorem dX11_stall_113 : decode cX11_stall 113 = .ok (.iload 5, 2) := by decide +kernel
theorem dX11_stall_115 : decode cX11_stall 115 = .ok (.iaload, 1) := by decide +kernel
theorem dX11_stall_116 : decode cX11_stall 116 = .ok (.ireturn, 1) := by decide +kernel
theorem dX11_see_0 : decode cX11_see 0 = .ok (.aload_n 0, 1) := by decide +kernel
theorem dX11_see_1 : decode cX11_see 1 = .ok (.getfield 19, 3) := by decide +kernel
theorem dX11_see_4 : decode cX11_see 4 = .ok (.getfield 98, 3) := by decide +kernel
theorem dX11_see_7 : decode cX11_see 7 = .ok (.iload_n 1, 1) := by decide +kernel
theorem dX11_see_8 : decode cX11_see 8 = .ok (.iload_n 2, 1) := by decide +kernel
theorem dX11_see_9 : decode cX11_see 9 = .ok (.invokevirtual 159, 3) := by decide +kernel
theorem dX11_see_12 : decode cX11_see 12 = .ok (.ifCond .eq 13, 3) := by decide +kernel
theorem dX11_see_15 : decode cX11_see 15 = .ok (.iload_n 3, 1) := by decide +kernel
theorem dX11_see_16 : decode cX11_see 16 = .ok (.ifCond .lt 9, 3) := by decide +kernel
theorem dX11_see_19 : decode cX11_see 19 = .ok (.iload_n 3, 1) := by decide +kernel
theorem dX11_see_20 : decode cX11_see 20 = .ok (.bipush 7, 2) := by decide +kernel
theorem dX11_see_22 : decode cX11_see 22 = .ok (.if_icmp .le 5, 3) := by decide +kernel
theorem dX11_see_25 : decode cX11_see 25 = .ok (.iconst (-1), 1) := by decide +kernel
theorem dX11_see_26 : decode cX11_see 26 = .ok (.ireturn, 1) := by decide +kernel
theorem dX11_see_27 : decode cX11_see 27 = .ok (.aload_n 0, 1) := by decide +kernel
theorem dX11_see_28 : decode cX11_see 28 = .ok (.getfield 26, 3) := by decide +kernel
theorem dX11_see_31 : decode cX11_see 31 = .ok (.iload_n 1, 1) := by decide +kernel
theorem dX11_see_32 : decode cX11_see 32 = .ok (.iload_n 2, 1) := by decide +kernel
theorem dX11_see_33 : decode cX11_see 33 = .ok (.invokestatic 162, 3) := by decide +kernel
theorem dX11_see_36 : decode cX11_see 36 = .ok (.iload_n 3, 1) := by decide +kernel
theorem dX11_see_37 : decode cX11_see 37 = .ok (.invokevirtual 243, 3) := by decide +kernel
theorem dX11_see_40 : decode cX11_see 40 = .ok (.ireturn, 1) := by decide +kernel
theorem dX11_candles_0 : decode cX11_candles 0 = .ok (.iload_n 1, 1) := by decide +kernel
theorem dX11_candles_1 : decode cX11_candles 1 = .ok (.iload_n 2, 1) := by decide +kernel
theorem dX11_candles_2 : decode cX11_candles 2 = .ok (.invokestatic 144, 3) := by decide +kernel
theorem dX11_candles_5 : decode cX11_candles 5 = .ok (.ifCond .ne 5, 3) := by decide +kernel
theorem dX11_candles_8 : decode cX11_candles 8 = .ok (.iconst (-1), 1) := by decide +kernel
theorem dX11_candles_9 : decode cX11_candles 9 = .ok (.ireturn, 1) := by decide +kernel
theorem dX11_candles_10 : decode cX11_candles 10 = .ok (.aload_n 0, 1) := by decide +kernel
theorem dX11_candles_11 : decode cX11_candles 11 = .ok (.iload_n 1, 1) := by decide +kernel
theorem dX11_candles_12 : decode cX11_candles 12 = .ok (.iload_n 2, 1) := by decide +kernel
theorem dX11_candles_13 : decode cX11_candles 13 = .ok (.invokestatic 148, 3) := by decide +kernel
theorem dX11_candles_16 : decode cX11_candles 16 = .ok (.invokevirtual 246, 3) := by decide +kernel
theorem dX11_candles_19 : decode cX11_candles 19 = .ok (.ireturn, 1) := by decide +kernel
theorem dX11_when_0 : decode cX11_when 0 = .ok (.iload_n 1, 1) := by decide +kernel
theorem dX11_when_1 : decode cX11_when 1 = .ok (.ifCond .lt 8, 3) := by decide +kernel
theorem dX11_when_4 : decode cX11_when 4 = .ok (.iload_n 1, 1) := by decide +kernel
theorem dX11_when_5 : decode cX11_when 5 = .ok (.iconst 2, 1) := by decide +kernel
theorem dX11_when_6 : decode cX11_when 6 = .ok (.if_icmp .le 5, 3) := by decide +kernel
theorem dX11_when_9 : decode cX11_when 9 = .ok (.iconst (-1), 1) := by decide +kernel
theorem dX11_when_10 : decode cX11_when 10 = .ok (.ireturn, 1) := by decide +kernel
theorem dX11_when_11 : decode cX11_when 11 = .ok (.iconst 0, 1) := by decide +kernel
theorem dX11_when_12 : decode cX11_when 12 = .ok (.istore_n 2, 1) := by decide +kernel
theorem dX11_when_13 : decode cX11_when 13 = .ok (.bipush 9, 2) := by decide +kernel
theorem dX11_when_15 : decode cX11_when 15 = .ok (.istore_n 3, 1) := by decide +kernel
theorem dX11_when_16 : decode cX11_when 16 = .ok (.iconst 0, 1) := by decide +kernel
theorem dX11_when_17 : decode cX11_when 17 = .ok (.istore 4, 2) := by decide +kernel
theorem dX11_when_19 : decode cX11_when 19 = .ok (.iconst 0, 1) := by decide +kernel
theorem dX11_when_20 : decode cX11_when 20 = .ok (.istore 5, 2) := by decide +kernel
theorem dX11_when_22 : decode cX11_when 22 = .ok (.iload 5, 2) := by decide +kernel
theorem dX11_when_24 : decode cX11_when 24 = .ok (.sipush 1248, 3) := by decide +kernel
theorem dX11_when_27 : decode cX11_when 27 = .ok (.if_icmp .ge 41, 3) := by decide +kernel
theorem dX11_when_30 : decode cX11_when 30 = .ok (.aload_n 0, 1) := by decide +kernel
theorem dX11_when_31 : decode cX11_when 31 = .ok (.iload 5, 2) := by decide +kernel
theorem dX11_when_33 : decode cX11_when 33 = .ok (.invokevirtual 246, 3) := by decide +kernel
theorem dX11_when_36 : decode cX11_when 36 = .ok (.istore 6, 2) := by decide +kernel
theorem dX11_when_38 : decode cX11_when 38 = .ok (.iload 6, 2) := by decide +kernel
theorem dX11_when_40 : decode cX11_when 40 = .ok (.iload_n 3, 1) := by decide +kernel
theorem dX11_when_41 : decode cX11_when 41 = .ok (.if_icmp .ge 12, 3) := by decide +kernel
theorem dX11_when_44 : decode cX11_when 44 = .ok (.iload 6, 2) := by decide +kernel
theorem dX11_when_46 : decode cX11_when 46 = .ok (.istore_n 3, 1) := by decide +kernel
theorem dX11_when_47 : decode cX11_when 47 = .ok (.iload 5, 2) := by decide +kernel
theorem dX11_when_49 : decode cX11_when 49 = .ok (.istore_n 2, 1) := by decide +kernel
theorem dX11_when_50 : decode cX11_when 50 = .ok (.iconst 0, 1) := by decide +kernel
theorem dX11_when_51 : decode cX11_when 51 = .ok (.istore 4, 2) := by decide +kernel
theorem dX11_when_53 : decode cX11_when 53 = .ok (.iload 6, 2) := by decide +kernel
theorem dX11_when_55 : decode cX11_when 55 = .ok (.iload_n 3, 1) := by decide +kernel
theorem dX11_when_56 : decode cX11_when 56 = .ok (.if_icmp .ne 6, 3) := by decide +kernel
theorem dX11_when_59 : decode cX11_when 59 = .ok (.iinc 4 1, 3) := by decide +kernel
theorem dX11_when_62 : decode cX11_when 62 = .ok (.iinc 5 1, 3) := by decide +kernel
theorem dX11_when_65 : decode cX11_when 65 = .ok (.goto (-43), 3) := by decide +kernel
theorem dX11_when_68 : decode cX11_when 68 = .ok (.iload_n 1, 1) := by decide +kernel
theorem dX11_when_69 : decode cX11_when 69 = .ok (.ifCond .ne 5, 3) := by decide +kernel
theorem dX11_when_72 : decode cX11_when 72 = .ok (.iload_n 2, 1) := by decide +kernel
theorem dX11_when_73 : decode cX11_when 73 = .ok (.ireturn, 1) := by decide +kernel
theorem dX11_when_74 : decode cX11_when 74 = .ok (.iload_n 1, 1) := by decide +kernel
theorem dX11_when_75 : decode cX11_when 75 = .ok (.iconst 1, 1) := by decide +kernel
theorem dX11_when_76 : decode cX11_when 76 = .ok (.if_icmp .ne 7, 3) := by decide +kernel
theorem dX11_when_79 : decode cX11_when 79 = .ok (.iload_n 3, 1) := by decide +kernel
theorem dX11_when_80 : decode cX11_when 80 = .ok (.goto 5, 3) := by decide +kernel
theorem dX11_when_83 : decode cX11_when 83 = .ok (.iload 4, 2) := by decide +kernel
theorem dX11_when_85 : decode cX11_when 85 = .ok (.ireturn, 1) := by decide +kernel
theorem dX11_clear_0 : decode cX11_clear 0 = .ok (.aload_n 0, 1) := by decide +kernel
theorem dX11_clear_1 : decode cX11_clear 1 = .ok (.getfield 26, 3) := by decide +kernel
theorem dX11_clear_4 : decode cX11_clear 4 = .ok (.iconst 0, 1) := by decide +kernel
theorem dX11_clear_5 : decode cX11_clear 5 = .ok (.putfield 249, 3) := by decide +kernel
theorem dX11_clear_8 : decode cX11_clear 8 = .ok (.iconst 1, 1) := by decide +kernel
theorem dX11_clear_9 : decode cX11_clear 9 = .ok (.ireturn, 1) := by decide +kernel
theorem dX11_stains_0 : decode cX11_stains 0 = .ok (.aload_n 0, 1) := by decide +kernel
theorem dX11_stains_1 : decode cX11_stains 1 = .ok (.iload_n 1, 1) := by decide +kernel
theorem dX11_stains_2 : decode cX11_stains 2 = .ok (.iload_n 2, 1) := by decide +kernel
theorem dX11_stains_3 : decode cX11_stains 3 = .ok (.iload_n 3, 1) := by decide +kernel
theorem dX11_stains_4 : decode cX11_stains 4 = .ok (.iload 4, 2) := by decide +kernel
theorem dX11_stains_6 : decode cX11_stains 6 = .ok (.invokevirtual 252, 3) := by decide +kernel
theorem dX11_stains_9 : decode cX11_stains 9 = .ok (.ifCond .ne 5, 3) := by decide +kernel
theorem dX11_stains_12 : decode cX11_stains 12 = .ok (.iconst (-1), 1) := by decide +kernel
theorem dX11_stains_13 : decode cX11_stains 13 = .ok (.ireturn, 1) := by decide +kernel
theorem dX11_stains_14 : decode cX11_stains 14 = .ok (.aload_n 0, 1) := by decide +kernel
theorem dX11_stains_15 : decode cX11_stains 15 = .ok (.getfield 61, 3) := by decide +kernel
theorem dX11_stains_18 : decode cX11_stains 18 = .ok (.aload_n 0, 1) := by decide +kernel
theorem dX11_stains_19 : decode cX11_stains 19 = .ok (.getfield 19, 3) := by decide +kernel
theorem dX11_stains_22 : decode cX11_stains 22 = .ok (.aload_n 0, 1) := by decide +kernel
theorem dX11_stains_23 : decode cX11_stains 23 = .ok (.getfield 26, 3) := by decide +kernel
theorem dX11_stains_26 : decode cX11_stains 26 = .ok (.invokevirtual 165, 3) := by decide +kernel
theorem dX11_stains_29 : decode cX11_stains 29 = .ok (.iload_n 1, 1) := by decide +kernel
theorem dX11_stains_30 : decode cX11_stains 30 = .ok (.iload_n 2, 1) := by decide +kernel
theorem dX11_stains_31 : decode cX11_stains 31 = .ok (.invokestatic 148, 3) := by decide +kernel
theorem dX11_stains_34 : decode cX11_stains 34 = .ok (.iload_n 3, 1) := by decide +kernel
theorem dX11_stains_35 : decode cX11_stains 35 = .ok (.iload 4, 2) := by decide +kernel
theorem dX11_stains_37 : decode cX11_stains 37 = .ok (.invokevirtual 256, 3) := by decide +kernel
theorem dX11_stains_40 : decode cX11_stains 40 = .ok (.ireturn, 1) := by decide +kernel
theorem dX11_stood_0 : decode cX11_stood 0 = .ok (.aload_n 0, 1) := by decide +kernel
theorem dX11_stood_1 : decode cX11_stood 1 = .ok (.iload_n 1, 1) := by decide +kernel
theorem dX11_stood_2 : decode cX11_stood 2 = .ok (.iload_n 2, 1) := by decide +kernel
theorem dX11_stood_3 : decode cX11_stood 3 = .ok (.iload_n 3, 1) := by decide +kernel
theorem dX11_stood_4 : decode cX11_stood 4 = .ok (.iload 4, 2) := by decide +kernel
theorem dX11_stood_6 : decode cX11_stood 6 = .ok (.invokevirtual 252, 3) := by decide +kernel
theorem dX11_stood_9 : decode cX11_stood 9 = .ok (.ifCond .eq 14, 3) := by decide +kernel
theorem dX11_stood_12 : decode cX11_stood 12 = .ok (.iload 5, 2) := by decide +kernel
theorem dX11_stood_14 : decode cX11_stood 14 = .ok (.ifCond .lt 9, 3) := by decide +kernel
theorem dX11_stood_17 : decode cX11_stood 17 = .ok (.iload 5, 2) := by decide +kernel
theorem dX11_stood_19 : decode cX11_stood 19 = .ok (.iload_n 3, 1) := by decide +kernel
theorem dX11_stood_20 : decode cX11_stood 20 = .ok (.if_icmp .lt 5, 3) := by decide +kernel
theorem dX11_stood_23 : decode cX11_stood 23 = .ok (.iconst (-1), 1) := by decide +kernel
theorem dX11_stood_24 : decode cX11_stood 24 = .ok (.ireturn, 1) := by decide +kernel
theorem dX11_stood_25 : decode cX11_stood 25 = .ok (.aload_n 0, 1) := by decide +kernel
theorem dX11_stood_26 : decode cX11_stood 26 = .ok (.getfield 61, 3) := by decide +kernel
theorem dX11_stood_29 : decode cX11_stood 29 = .ok (.aload_n 0, 1) := by decide +kernel
theorem dX11_stood_30 : decode cX11_stood 30 = .ok (.getfield 19, 3) := by decide +kernel
theorem dX11_stood_33 : decode cX11_stood 33 = .ok (.aload_n 0, 1) := by decide +kernel
theorem dX11_stood_34 : decode cX11_stood 34 = .ok (.getfield 26, 3) := by decide +kernel
theorem dX11_stood_37 : decode cX11_stood 37 = .ok (.invokevirtual 165, 3) := by decide +kernel
theorem dX11_stood_40 : decode cX11_stood 40 = .ok (.iload_n 1, 1) := by decide +kernel
theorem dX11_stood_41 : decode cX11_stood 41 = .ok (.iload_n 2, 1) := by decide +kernel
theorem dX11_stood_42 : decode cX11_stood 42 = .ok (.invokestatic 148, 3) := by decide +kernel
theorem dX11_stood_45 : decode cX11_stood 45 = .ok (.iload_n 3, 1) := by decide +kernel
theorem dX11_stood_46 : decode cX11_stood 46 = .ok (.iload 4, 2) := by decide +kernel
theorem dX11_stood_48 : decode cX11_stood 48 = .ok (.iload 5, 2) := by decide +kernel
theorem dX11_stood_50 : decode cX11_stood 50 = .ok (.invokevirtual 260, 3) := by decide +kernel
theorem dX11_stood_53 : decode cX11_stood 53 = .ok (.iload 6, 2) := by decide +kernel
theorem dX11_stood_55 : decode cX11_stood 55 = .ok (.ifCond .eq 10, 3) := by decide +kernel
theorem dX11_stood_58 : decode cX11_stood 58 = .ok (.aload_n 0, 1) := by decide +kernel
theorem dX11_stood_59 : decode cX11_stood 59 = .ok (.invokevirtual 264, 3) := by decide +kernel
theorem dX11_stood_62 : decode cX11_stood 62 = .ok (.goto 7, 3) := by decide +kernel
theorem dX11_stood_65 : decode cX11_stood 65 = .ok (.aload_n 0, 1) := by decide +kernel
theorem dX11_stood_66 : decode cX11_stood 66 = .ok (.invokevirtual 267, 3) := by decide +kernel
theorem dX11_stood_69 : decode cX11_stood 69 = .ok (.ireturn, 1) := by decide +kernel
theorem dX11_clouded_0 : decode cX11_clouded 0 = .ok (.iload_n 1, 1) := by decide +kernel
theorem dX11_clouded_1 : decode cX11_clouded 1 = .ok (.ifCond .lt 23, 3) := by decide +kernel
theorem dX11_clouded_4 : decode cX11_clouded 4 = .ok (.iload_n 1, 1) := by decide +kernel
theorem dX11_clouded_5 : decode cX11_clouded 5 = .ok (.sipush 9999, 3) := by decide +kernel
theorem dX11_clouded_8 : decode cX11_clouded 8 = .ok (.if_icmp .gt 16, 3) := by decide +kernel
theorem dX11_clouded_11 : decode cX11_clouded 11 = .ok (.iload_n 2, 1) := by decide +kernel
theorem dX11_clouded_12 : decode cX11_clouded 12 = .ok (.iconst (-1), 1) := by decide +kernel
theorem dX11_clouded_13 : decode cX11_clouded 13 = .ok (.if_icmp .eq 22, 3) := by decide +kernel
theorem dX11_clouded_16 : decode cX11_clouded 16 = .ok (.aload_n 0, 1) := by decide +kernel
theorem dX11_clouded_17 : decode cX11_clouded 17 = .ok (.iload_n 2, 1) := by decide +kernel
theorem dX11_clouded_18 : decode cX11_clouded 18 = .ok (.invokevirtual 109, 3) := by decide +kernel
theorem dX11_clouded_21 : decode cX11_clouded 21 = .ok (.ifCond .ne 14, 3) := by decide +kernel
theorem dX11_clouded_24 : decode cX11_clouded 24 = .ok (.new 270, 3) := by decide +kernel
theorem dX11_clouded_27 : decode cX11_clouded 27 = .ok (.dup, 1) := by decide +kernel
theorem dX11_clouded_28 : decode cX11_clouded 28 = .ok (.ldc_w 272, 3) := by decide +kernel
theorem dX11_clouded_31 : decode cX11_clouded 31 = .ok (.invokespecial 274, 3) := by decide +kernel
theorem dX11_clouded_34 : decode cX11_clouded 34 = .ok (.athrow, 1) := by decide +kernel
theorem dX11_clouded_35 : decode cX11_clouded 35 = .ok (.aload_n 0, 1) := by decide +kernel
theorem dX11_clouded_36 : decode cX11_clouded 36 = .ok (.getfield 40, 3) := by decide +kernel
theorem dX11_clouded_39 : decode cX11_clouded 39 = .ok (.aload_n 0, 1) := by decide +kernel
theorem dX11_clouded_40 : decode cX11_clouded 40 = .ok (.getfield 19, 3) := by decide +kernel
theorem dX11_clouded_43 : decode cX11_clouded 43 = .ok (.aload_n 0, 1) := by decide +kernel
theorem dX11_clouded_44 : decode cX11_clouded 44 = .ok (.getfield 26, 3) := by decide +kernel
theorem dX11_clouded_47 : decode cX11_clouded 47 = .ok (.invokevirtual 165, 3) := by decide +kernel
theorem dX11_clouded_50 : decode cX11_clouded 50 = .ok (.iload_n 1, 1) := by decide +kernel
theorem dX11_clouded_51 : decode cX11_clouded 51 = .ok (.invokevirtual 277, 3) := by decide +kernel
theorem dX11_clouded_54 : decode cX11_clouded 54 = .ok (.istore_n 3, 1) := by decide +kernel
theorem dX11_clouded_55 : decode cX11_clouded 55 = .ok (.iload_n 2, 1) := by decide +kernel
theorem dX11_clouded_56 : decode cX11_clouded 56 = .ok (.iconst (-1), 1) := by decide +kernel
theorem dX11_clouded_57 : decode cX11_clouded 57 = .ok (.if_icmp .eq 20, 3) := by decide +kernel
theorem dX11_clouded_60 : decode cX11_clouded 60 = .ok (.aload_n 0, 1) := by decide +kernel
theorem dX11_clouded_61 : decode cX11_clouded 61 = .ok (.getfield 40, 3) := by decide +kernel
theorem dX11_clouded_64 : decode cX11_clouded 64 = .ok (.iload_n 3, 1) := by decide +kernel
theorem dX11_clouded_65 : decode cX11_clouded 65 = .ok (.aload_n 0, 1) := by decide +kernel
theorem dX11_clouded_66 : decode cX11_clouded 66 = .ok (.getfield 26, 3) := by decide +kernel
theorem dX11_clouded_69 : decode cX11_clouded 69 = .ok (.iload_n 2, 1) := by decide +kernel
theorem dX11_clouded_70 : decode cX11_clouded 70 = .ok (.invokevirtual 122, 3) := by decide +kernel
theorem dX11_clouded_73 : decode cX11_clouded 73 = .ok (.invokevirtual 188, 3) := by decide +kernel
theorem dX11_clouded_76 : decode cX11_clouded 76 = .ok (.ireturn, 1) := by decide +kernel
theorem dX11_clouded_77 : decode cX11_clouded 77 = .ok (.iconst 0, 1) := by decide +kernel
theorem dX11_clouded_78 : decode cX11_clouded 78 = .ok (.istore 4, 2) := by decide +kernel
theorem dX11_clouded_80 : decode cX11_clouded 80 = .ok (.iconst 0, 1) := by decide +kernel
theorem dX11_clouded_81 : decode cX11_clouded 81 = .ok (.istore 5, 2) := by decide +kernel
theorem dX11_clouded_83 : decode cX11_clouded 83 = .ok (.iload 5, 2) := by decide +kernel
theorem dX11_clouded_85 : decode cX11_clouded 85 = .ok (.aload_n 0, 1) := by decide +kernel
theorem dX11_clouded_86 : decode cX11_clouded 86 = .ok (.getfield 19, 3) := by decide +kernel
theorem dX11_clouded_89 : decode cX11_clouded 89 = .ok (.getfield 98, 3) := by decide +kernel
theorem dX11_clouded_92 : decode cX11_clouded 92 = .ok (.getfield 281, 3) := by decide +kernel
theorem dX11_clouded_95 : decode cX11_clouded 95 = .ok (.if_icmp .ge 45, 3) := by decide +kernel
theorem dX11_clouded_98 : decode cX11_clouded 98 = .ok (.aload_n 0, 1) := by decide +kernel
theorem dX11_clouded_99 : decode cX11_clouded 99 = .ok (.getfield 40, 3) := by decide +kernel
theorem dX11_clouded_102 : decode cX11_clouded 102 = .ok (.iload_n 3, 1) := by decide +kernel
theorem dX11_clouded_103 : decode cX11_clouded 103 = .ok (.aload_n 0, 1) := by decide +kernel
theorem dX11_clouded_104 : decode cX11_clouded 104 = .ok (.getfield 26, 3) := by decide +kernel
theorem dX11_clouded_107 : decode cX11_clouded 107 = .ok (.iload 5, 2) := by decide +kernel
theorem dX11_clouded_109 : decode cX11_clouded 109 = .ok (.invokevirtual 122, 3) := by decide +kernel
theorem dX11_clouded_112 : decode cX11_clouded 112 = .ok (.invokevirtual 188, 3) := by decide +kernel
theorem dX11_clouded_115 : decode cX11_clouded 115 = .ok (.aload_n 0, 1) := by decide +kernel
theorem dX11_clouded_116 : decode cX11_clouded 116 = .ok (.getfield 19, 3) := by decide +kernel
theorem dX11_clouded_119 : decode cX11_clouded 119 = .ok (.getfield 98, 3) := by decide +kernel
theorem dX11_clouded_122 : decode cX11_clouded 122 = .ok (.getfield 119, 3) := by decide +kernel
theorem dX11_clouded_125 : decode cX11_clouded 125 = .ok (.iload 5, 2) := by decide +kernel
theorem dX11_clouded_127 : decode cX11_clouded 127 = .ok (.iaload, 1) := by decide +kernel
theorem dX11_clouded_128 : decode cX11_clouded 128 = .ok (.if_icmp .ge 6, 3) := by decide +kernel
theorem dX11_clouded_131 : decode cX11_clouded 131 = .ok (.iinc 4 1, 3) := by decide +kernel
theorem dX11_clouded_134 : decode cX11_clouded 134 = .ok (.iinc 5 1, 3) := by decide +kernel
theorem dX11_clouded_137 : decode cX11_clouded 137 = .ok (.goto (-54), 3) := by decide +kernel
theorem dX11_clouded_140 : decode cX11_clouded 140 = .ok (.iload 4, 2) := by decide +kernel
theorem dX11_clouded_142 : decode cX11_clouded 142 = .ok (.ireturn, 1) := by decide +kernel
theorem dX11_mark_0 : decode cX11_mark 0 = .ok (.iload_n 1, 1) := by decide +kernel
theorem dX11_mark_1 : decode cX11_mark 1 = .ok (.ifCond .lt 8, 3) := by decide +kernel
theorem dX11_mark_4 : decode cX11_mark 4 = .ok (.iload_n 1, 1) := by decide +kernel
theorem dX11_mark_5 : decode cX11_mark 5 = .ok (.iconst 4, 1) := by decide +kernel
theorem dX11_mark_6 : decode cX11_mark 6 = .ok (.if_icmp .lt 5, 3) := by decide +kernel
theorem dX11_mark_9 : decode cX11_mark 9 = .ok (.iconst 0, 1) := by decide +kernel
theorem dX11_mark_10 : decode cX11_mark 10 = .ok (.ireturn, 1) := by decide +kernel
theorem dX11_mark_11 : decode cX11_mark 11 = .ok (.iload_n 2, 1) := by decide +kernel
theorem dX11_mark_12 : decode cX11_mark 12 = .ok (.ifCond .ne 30, 3) := by decide +kernel
theorem dX11_mark_15 : decode cX11_mark 15 = .ok (.aload_n 0, 1) := by decide +kernel
theorem dX11_mark_16 : decode cX11_mark 16 = .ok (.getfield 65, 3) := by decide +kernel
theorem dX11_mark_19 : decode cX11_mark 19 = .ok (.iload_n 1, 1) := by decide +kernel
theorem dX11_mark_20 : decode cX11_mark 20 = .ok (.aaload, 1) := by decide +kernel
theorem dX11_mark_21 : decode cX11_mark 21 = .ok (.aload_n 0, 1) := by decide +kernel
theorem dX11_mark_22 : decode cX11_mark 22 = .ok (.getfield 26, 3) := by decide +kernel
theorem dX11_mark_25 : decode cX11_mark 25 = .ok (.invokevirtual 284, 3) := by decide +kernel
theorem dX11_mark_28 : decode cX11_mark 28 = .ok (.aload_n 0, 1) := by decide +kernel
theorem dX11_mark_29 : decode cX11_mark 29 = .ok (.dup, 1) := by decide +kernel
theorem dX11_mark_30 : decode cX11_mark 30 = .ok (.getfield 69, 3) := by decide +kernel
theorem dX11_mark_33 : decode cX11_mark 33 = .ok (.iconst 1, 1) := by decide +kernel
theorem dX11_mark_34 : decode cX11_mark 34 = .ok (.iload_n 1, 1) := by decide +kernel
theorem dX11_mark_35 : decode cX11_mark 35 = .ok (.ishl, 1) := by decide +kernel
theorem dX11_mark_36 : decode cX11_mark 36 = .ok (.ior, 1) := by decide +kernel
theorem dX11_mark_37 : decode cX11_mark 37 = .ok (.putfield 69, 3) := by decide +kernel
theorem dX11_mark_40 : decode cX11_mark 40 = .ok (.iconst 1, 1) := by decide +kernel
theorem dX11_mark_41 : decode cX11_mark 41 = .ok (.ireturn, 1) := by decide +kernel
theorem dX11_mark_42 : decode cX11_mark 42 = .ok (.aload_n 0, 1) := by decide +kernel
theorem dX11_mark_43 : decode cX11_mark 43 = .ok (.getfield 69, 3) := by decide +kernel
theorem dX11_mark_46 : decode cX11_mark 46 = .ok (.iload_n 1, 1) := by decide +kernel
theorem dX11_mark_47 : decode cX11_mark 47 = .ok (.ishr, 1) := by decide +kernel
theorem dX11_mark_48 : decode cX11_mark 48 = .ok (.iconst 1, 1) := by decide +kernel
theorem dX11_mark_49 : decode cX11_mark 49 = .ok (.iand, 1) := by decide +kernel
theorem dX11_mark_50 : decode cX11_mark 50 = .ok (.ifCond .ne 5, 3) := by decide +kernel
theorem dX11_mark_53 : decode cX11_mark 53 = .ok (.iconst 0, 1) := by decide +kernel
theorem dX11_mark_54 : decode cX11_mark 54 = .ok (.ireturn, 1) := by decide +kernel
theorem dX11_mark_55 : decode cX11_mark 55 = .ok (.aload_n 0, 1) := by decide +kernel
theorem dX11_mark_56 : decode cX11_mark 56 = .ok (.getfield 26, 3) := by decide +kernel
theorem dX11_mark_59 : decode cX11_mark 59 = .ok (.aload_n 0, 1) := by decide +kernel
theorem dX11_mark_60 : decode cX11_mark 60 = .ok (.getfield 65, 3) := by decide +kernel
theorem dX11_mark_63 : decode cX11_mark 63 = .ok (.iload_n 1, 1) := by decide +kernel
theorem dX11_mark_64 : decode cX11_mark 64 = .ok (.aaload, 1) := by decide +kernel
theorem dX11_mark_65 : decode cX11_mark 65 = .ok (.invokevirtual 284, 3) := by decide +kernel
theorem dX11_mark_68 : decode cX11_mark 68 = .ok (.aload_n 0, 1) := by decide +kernel
theorem dX11_mark_69 : decode cX11_mark 69 = .ok (.getfield 33, 3) := by decide +kernel
theorem dX11_mark_72 : decode cX11_mark 72 = .ok (.invokevirtual 105, 3) := by decide +kernel
theorem dX11_mark_75 : decode cX11_mark 75 = .ok (.iconst 1, 1) := by decide +kernel
theorem dX11_mark_76 : decode cX11_mark 76 = .ok (.ireturn, 1) := by decide +kernel
theorem dX11_count_0 : decode cX11_count 0 = .ok (.iload_n 1, 1) := by decide +kernel
theorem dX11_count_1 : decode cX11_count 1 = .ok (.tableswitch 144 0 8 #[51, 62, 73, 84, 95, 106, 114, 122, 133], 51) := by decide +kernel
theorem dX11_count_52 : decode cX11_count 52 = .ok (.aload_n 0, 1) := by decide +kernel
theorem dX11_count_53 : decode cX11_count 53 = .ok (.getfield 19, 3) := by decide +kernel
theorem dX11_count_56 : decode cX11_count 56 = .ok (.getfield 98, 3) := by decide +kernel
theorem dX11_count_59 : decode cX11_count 59 = .ok (.getfield 288, 3) := by decide +kernel
theorem dX11_count_62 : decode cX11_count 62 = .ok (.ireturn, 1) := by decide +kernel
theorem dX11_count_63 : decode cX11_count 63 = .ok (.aload_n 0, 1) := by decide +kernel
theorem dX11_count_64 : decode cX11_count 64 = .ok (.getfield 19, 3) := by decide +kernel
theorem dX11_count_67 : decode cX11_count 67 = .ok (.getfield 98, 3) := by decide +kernel
theorem dX11_count_70 : decode cX11_count 70 = .ok (.getfield 291, 3) := by decide +kernel
theorem dX11_count_73 : decode cX11_count 73 = .ok (.ireturn, 1) := by decide +kernel
theorem dX11_count_74 : decode cX11_count 74 = .ok (.aload_n 0, 1) := by decide +kernel
theorem dX11_count_75 : decode cX11_count 75 = .ok (.getfield 19, 3) := by decide +kernel
theorem dX11_count_78 : decode cX11_count 78 = .ok (.getfield 98, 3) := by decide +kernel
theorem dX11_count_81 : decode cX11_count 81 = .ok (.getfield 281, 3) := by decide +kernel
theorem dX11_count_84 : decode cX11_count 84 = .ok (.ireturn, 1) := by decide +kernel
theorem dX11_count_85 : decode cX11_count 85 = .ok (.aload_n 0, 1) := by decide +kernel
theorem dX11_count_86 : decode cX11_count 86 = .ok (.getfield 19, 3) := by decide +kernel
theorem dX11_count_89 : decode cX11_count 89 = .ok (.getfield 98, 3) := by decide +kernel
theorem dX11_count_92 : decode cX11_count 92 = .ok (.getfield 294, 3) := by decide +kernel
theorem dX11_count_95 : decode cX11_count 95 = .ok (.ireturn, 1) := by decide +kernel
theorem dX11_count_96 : decode cX11_count 96 = .ok (.aload_n 0, 1) := by decide +kernel
theorem dX11_count_97 : decode cX11_count 97 = .ok (.getfield 26, 3) := by decide +kernel
theorem dX11_count_100 : decode cX11_count 100 = .ok (.getfield 297, 3) := by decide +kernel
theorem dX11_count_103 : decode cX11_count 103 = .ok (.invokestatic 177, 3) := by decide +kernel
theorem dX11_count_106 : decode cX11_count 106 = .ok (.ireturn, 1) := by decide +kernel
theorem dX11_count_107 : decode cX11_count 107 = .ok (.aload_n 0, 1) := by decide +kernel
theorem dX11_count_108 : decode cX11_count 108 = .ok (.getfield 33, 3) := by decide +kernel
theorem dX11_count_111 : decode cX11_count 111 = .ok (.getfield 300, 3) := by decide +kernel
theorem dX11_count_114 : decode cX11_count 114 = .ok (.ireturn, 1) := by decide +kernel
theorem dX11_count_115 : decode cX11_count 115 = .ok (.aload_n 0, 1) := by decide +kernel
theorem dX11_count_116 : decode cX11_count 116 = .ok (.getfield 26, 3) := by decide +kernel
theorem dX11_count_119 : decode cX11_count 119 = .ok (.getfield 249, 3) := by decide +kernel
theorem dX11_count_122 : decode cX11_count 122 = .ok (.ireturn, 1) := by decide +kernel
theorem dX11_count_123 : decode cX11_count 123 = .ok (.aload_n 0, 1) := by decide +kernel
theorem dX11_count_124 : decode cX11_count 124 = .ok (.getfield 19, 3) := by decide +kernel
theorem dX11_count_127 : decode cX11_count 127 = .ok (.getfield 98, 3) := by decide +kernel
theorem dX11_count_130 : decode cX11_count 130 = .ok (.getfield 301, 3) := by decide +kernel
theorem dX11_count_133 : decode cX11_count 133 = .ok (.ireturn, 1) := by decide +kernel
theorem dX11_count_134 : decode cX11_count 134 = .ok (.aload_n 0, 1) := by decide +kernel
theorem dX11_count_135 : decode cX11_count 135 = .ok (.getfield 12, 3) := by decide +kernel
theorem dX11_count_138 : decode cX11_count 138 = .ok (.getfield 73, 3) := by decide +kernel
theorem dX11_count_141 : decode cX11_count 141 = .ok (.getfield 83, 3) := by decide +kernel
theorem dX11_count_144 : decode cX11_count 144 = .ok (.ireturn, 1) := by decide +kernel
theorem dX11_count_145 : decode cX11_count 145 = .ok (.iconst (-1), 1) := by decide +kernel
theorem dX11_count_146 : decode cX11_count 146 = .ok (.ireturn, 1) := by decide +kernel
theorem dX11_isGuild_0 : decode cX11_isGuild 0 = .ok (.iload_n 1, 1) := by decide +kernel
theorem dX11_isGuild_1 : decode cX11_isGuild 1 = .ok (.ifCond .lt 21, 3) := by decide +kernel
theorem dX11_isGuild_4 : decode cX11_isGuild 4 = .ok (.iload_n 1, 1) := by decide +kernel
theorem dX11_isGuild_5 : decode cX11_isGuild 5 = .ok (.aload_n 0, 1) := by decide +kernel
theorem dX11_isGuild_6 : decode cX11_isGuild 6 = .ok (.getfield 19, 3) := by decide +kernel
theorem dX11_isGuild_9 : decode cX11_isGuild 9 = .ok (.getfield 98, 3) := by decide +kernel
theorem dX11_isGuild_12 : decode cX11_isGuild 12 = .ok (.getfield 281, 3) := by decide +kernel
theorem dX11_isGuild_15 : decode cX11_isGuild 15 = .ok (.if_icmp .ge 7, 3) := by decide +kernel
theorem dX11_isGuild_18 : decode cX11_isGuild 18 = .ok (.iconst 1, 1) := by decide +kernel
theorem dX11_isGuild_19 : decode cX11_isGuild 19 = .ok (.goto 4, 3) := by decide +kernel
theorem dX11_isGuild_22 : decode cX11_isGuild 22 = .ok (.iconst 0, 1) := by decide +kernel
theorem dX11_isGuild_23 : decode cX11_isGuild 23 = .ok (.ireturn, 1) := by decide +kernel
theorem dX11_isPane_0 : decode cX11_isPane 0 = .ok (.iload_n 1, 1) := by decide +kernel
theorem dX11_isPane_1 : decode cX11_isPane 1 = .ok (.ifCond .lt 21, 3) := by decide +kernel
theorem dX11_isPane_4 : decode cX11_isPane 4 = .ok (.iload_n 1, 1) := by decide +kernel
theorem dX11_isPane_5 : decode cX11_isPane 5 = .ok (.aload_n 0, 1) := by decide +kernel
theorem dX11_isPane_6 : decode cX11_isPane 6 = .ok (.getfield 19, 3) := by decide +kernel
theorem dX11_isPane_9 : decode cX11_isPane 9 = .ok (.getfield 98, 3) := by decide +kernel
theorem dX11_isPane_12 : decode cX11_isPane 12 = .ok (.getfield 294, 3) := by decide +kernel
theorem dX11_isPane_15 : decode cX11_isPane 15 = .ok (.if_icmp .ge 7, 3) := by decide +kernel
theorem dX11_isPane_18 : decode cX11_isPane 18 = .ok (.iconst 1, 1) := by decide +kernel
theorem dX11_isPane_19 : decode cX11_isPane 19 = .ok (.goto 4, 3) := by decide +kernel
theorem dX11_isPane_22 : decode cX11_isPane 22 = .ok (.iconst 0, 1) := by decide +kernel
theorem dX11_isPane_23 : decode cX11_isPane 23 = .ok (.ireturn, 1) := by decide +kernel
theorem dX11_canExchange_0 : decode cX11_canExchange 0 = .ok (.aload_n 0, 1) := by decide +kernel
theorem dX11_canExchange_1 : decode cX11_canExchange 1 = .ok (.iload_n 1, 1) := by decide +kernel
theorem dX11_canExchange_2 : decode cX11_canExchange 2 = .ok (.invokevirtual 126, 3) := by decide +kernel
theorem dX11_canExchange_5 : decode cX11_canExchange 5 = .ok (.ifCond .eq 36, 3) := by decide +kernel
theorem dX11_canExchange_8 : decode cX11_canExchange 8 = .ok (.aload_n 0, 1) := by decide +kernel
theorem dX11_canExchange_9 : decode cX11_canExchange 9 = .ok (.iload_n 2, 1) := by decide +kernel
theorem dX11_canExchange_10 : decode cX11_canExchange 10 = .ok (.invokevirtual 126, 3) := by decide +kernel
theorem dX11_canExchange_13 : decode cX11_canExchange 13 = .ok (.ifCond .eq 28, 3) := by decide +kernel
theorem dX11_canExchange_16 : decode cX11_canExchange 16 = .ok (.aload_n 0, 1) := by decide +kernel
theorem dX11_canExchange_17 : decode cX11_canExchange 17 = .ok (.getfield 26, 3) := by decide +kernel
theorem dX11_canExchange_20 : decode cX11_canExchange 20 = .ok (.getfield 135, 3) := by decide +kernel
theorem dX11_canExchange_23 : decode cX11_canExchange 23 = .ok (.iload_n 1, 1) := by decide +kernel
theorem dX11_canExchange_24 : decode cX11_canExchange 24 = .ok (.iaload, 1) := by decide +kernel
theorem dX11_canExchange_25 : decode cX11_canExchange 25 = .ok (.aload_n 0, 1) := by decide +kernel
theorem dX11_canExchange_26 : decode cX11_canExchange 26 = .ok (.getfield 26, 3) := by decide +kernel
theorem dX11_canExchange_29 : decode cX11_canExchange 29 = .ok (.getfield 135, 3) := by decide +kernel
theorem dX11_canExchange_32 : decode cX11_canExchange 32 = .ok (.iload_n 2, 1) := by decide +kernel
theorem dX11_canExchange_33 : decode cX11_canExchange 33 = .ok (.iaload, 1) := by decide +kernel
theorem dX11_canExchange_34 : decode cX11_canExchange 34 = .ok (.if_icmp .eq 7, 3) := by decide +kernel
theorem dX11_canExchange_37 : decode cX11_canExchange 37 = .ok (.iconst 1, 1) := by decide +kernel
theorem dX11_canExchange_38 : decode cX11_canExchange 38 = .ok (.goto 4, 3) := by decide +kernel
theorem dX11_canExchange_41 : decode cX11_canExchange 41 = .ok (.iconst 0, 1) := by decide +kernel
theorem dX11_canExchange_42 : decode cX11_canExchange 42 = .ok (.ireturn, 1) := by decide +kernel
theorem dX11_isStained_0 : decode cX11_isStained 0 = .ok (.iload_n 1, 1) := by decide +kernel
theorem dX11_isStained_1 : decode cX11_isStained 1 = .ok (.iload_n 2, 1) := by decide +kernel
theorem dX11_isStained_2 : decode cX11_isStained 2 = .ok (.invokestatic 144, 3) := by decide +kernel
theorem dX11_isStained_5 : decode cX11_isStained 5 = .ok (.ifCond .eq 41, 3) := by decide +kernel
theorem dX11_isStained_8 : decode cX11_isStained 8 = .ok (.iload_n 3, 1) := by decide +kernel
theorem dX11_isStained_9 : decode cX11_isStained 9 = .ok (.iconst 1, 1) := by decide +kernel
theorem dX11_isStained_10 : decode cX11_isStained 10 = .ok (.if_icmp .lt 36, 3) := by decide +kernel
theorem dX11_isStained_13 : decode cX11_isStained 13 = .ok (.iload_n 3, 1) := by decide +kernel
theorem dX11_isStained_14 : decode cX11_isStained 14 = .ok (.bipush 6, 2) := by decide +kernel
theorem dX11_isStained_16 : decode cX11_isStained 16 = .ok (.if_icmp .gt 30, 3) := by decide +kernel
theorem dX11_isStained_19 : decode cX11_isStained 19 = .ok (.iload_n 2, 1) := by decide +kernel
theorem dX11_isStained_20 : decode cX11_isStained 20 = .ok (.iload_n 3, 1) := by decide +kernel
theorem dX11_isStained_21 : decode cX11_isStained 21 = .ok (.iadd, 1) := by decide +kernel
theorem dX11_isStained_22 : decode cX11_isStained 22 = .ok (.bipush 24, 2) := by decide +kernel
theorem dX11_isStained_24 : decode cX11_isStained 24 = .ok (.if_icmp .gt 22, 3) := by decide +kernel
theorem dX11_isStained_27 : decode cX11_isStained 27 = .ok (.iload 4, 2) := by decide +kernel
theorem dX11_isStained_29 : decode cX11_isStained 29 = .ok (.ifCond .lt 17, 3) := by decide +kernel
theorem dX11_isStained_32 : decode cX11_isStained 32 = .ok (.iload 4, 2) := by decide +kernel
theorem dX11_isStained_34 : decode cX11_isStained 34 = .ok (.iconst 1, 1) := by decide +kernel
theorem dX11_isStained_35 : decode cX11_isStained 35 = .ok (.iconst 3, 1) := by decide +kernel
theorem dX11_isStained_36 : decode cX11_isStained 36 = .ok (.iload_n 3, 1) := by decide +kernel
theorem dX11_isStained_37 : decode cX11_isStained 37 = .ok (.imul, 1) := by decide +kernel
theorem dX11_isStained_38 : decode cX11_isStained 38 = .ok (.ishl, 1) := by decide +kernel
theorem dX11_isStained_39 : decode cX11_isStained 39 = .ok (.if_icmp .ge 7, 3) := by decide +kernel
theorem dX11_isStained_42 : decode cX11_isStained 42 = .ok (.iconst 1, 1) := by decide +kernel
theorem dX11_isStained_43 : decode cX11_isStained 43 = .ok (.goto 4, 3) := by decide +kernel
theorem dX11_isStained_46 : decode cX11_isStained 46 = .ok (.iconst 0, 1) := by decide +kernel
theorem dX11_isStained_47 : decode cX11_isStained 47 = .ok (.ireturn, 1) := by decide +kernel
theorem dX11_isTime_0 : decode cX11_isTime 0 = .ok (.iload_n 0, 1) := by decide +kernel
theorem dX11_isTime_1 : decode cX11_isTime 1 = .ok (.ifCond .lt 23, 3) := by decide +kernel
theorem dX11_isTime_4 : decode cX11_isTime 4 = .ok (.iload_n 0, 1) := by decide +kernel
theorem dX11_isTime_5 : decode cX11_isTime 5 = .ok (.bipush 52, 2) := by decide +kernel
theorem dX11_isTime_7 : decode cX11_isTime 7 = .ok (.if_icmp .ge 17, 3) := by decide +kernel
theorem dX11_isTime_10 : decode cX11_isTime 10 = .ok (.iload_n 1, 1) := by decide +kernel
theorem dX11_isTime_11 : decode cX11_isTime 11 = .ok (.ifCond .lt 13, 3) := by decide +kernel
theorem dX11_isTime_14 : decode cX11_isTime 14 = .ok (.iload_n 1, 1) := by decide +kernel
theorem dX11_isTime_15 : decode cX11_isTime 15 = .ok (.bipush 24, 2) := by decide +kernel
theorem dX11_isTime_17 : decode cX11_isTime 17 = .ok (.if_icmp .ge 7, 3) := by decide +kernel
theorem dX11_isTime_20 : decode cX11_isTime 20 = .ok (.iconst 1, 1) := by decide +kernel
theorem dX11_isTime_21 : decode cX11_isTime 21 = .ok (.goto 4, 3) := by decide +kernel
theorem dX11_isTime_24 : decode cX11_isTime 24 = .ok (.iconst 0, 1) := by decide +kernel
theorem dX11_isTime_25 : decode cX11_isTime 25 = .ok (.ireturn, 1) := by decide +kernel
theorem dX11_timeOf_0 : decode cX11_timeOf 0 = .ok (.iload_n 0, 1) := by decide +kernel
theorem dX11_timeOf_1 : decode cX11_timeOf 1 = .ok (.bipush 24, 2) := by decide +kernel
theorem dX11_timeOf_3 : decode cX11_timeOf 3 = .ok (.imul, 1) := by decide +kernel
theorem dX11_timeOf_4 : decode cX11_timeOf 4 = .ok (.iload_n 1, 1) := by decide +kernel
theorem dX11_timeOf_5 : decode cX11_timeOf 5 = .ok (.iadd, 1) := by decide +kernel
theorem dX11_timeOf_6 : decode cX11_timeOf 6 = .ok (.ireturn, 1) := by decide +kernel
theorem dX11_placeOf_0 : decode cX11_placeOf 0 = .ok (.iload_n 1, 1) := by decide +kernel
theorem dX11_placeOf_1 : decode cX11_placeOf 1 = .ok (.bipush 8, 2) := by decide +kernel
theorem dX11_placeOf_3 : decode cX11_placeOf 3 = .ok (.imul, 1) := by decide +kernel
theorem dX11_placeOf_4 : decode cX11_placeOf 4 = .ok (.iload_n 0, 1) := by decide +kernel
theorem dX11_placeOf_5 : decode cX11_placeOf 5 = .ok (.iadd, 1) := by decide +kernel
theorem dX11_placeOf_6 : decode cX11_placeOf 6 = .ok (.ireturn, 1) := by decide +kernel
theorem dX11_stepsBetween_0 : decode cX11_stepsBetween 0 = .ok (.iload_n 0, 1) := by decide +kernel
theorem dX11_stepsBetween_1 : decode cX11_stepsBetween 1 = .ok (.bipush 8, 2) := by decide +kernel
theorem dX11_stepsBetween_3 : decode cX11_stepsBetween 3 = .ok (.irem, 1) := by decide +kernel
theorem dX11_stepsBetween_4 : decode cX11_stepsBetween 4 = .ok (.iload_n 1, 1) := by decide +kernel
theorem dX11_stepsBetween_5 : decode cX11_stepsBetween 5 = .ok (.bipush 8, 2) := by decide +kernel
theorem dX11_stepsBetween_7 : decode cX11_stepsBetween 7 = .ok (.irem, 1) := by decide +kernel
theorem dX11_stepsBetween_8 : decode cX11_stepsBetween 8 = .ok (.isub, 1) := by decide +kernel
theorem dX11_stepsBetween_9 : decode cX11_stepsBetween 9 = .ok (.invokestatic 304, 3) := by decide +kernel
theorem dX11_stepsBetween_12 : decode cX11_stepsBetween 12 = .ok (.iload_n 0, 1) := by decide +kernel
theorem dX11_stepsBetween_13 : decode cX11_stepsBetween 13 = .ok (.bipush 8, 2) := by decide +kernel
theorem dX11_stepsBetween_15 : decode cX11_stepsBetween 15 = .ok (.idiv, 1) := by decide +kernel
theorem dX11_stepsBetween_16 : decode cX11_stepsBetween 16 = .ok (.iload_n 1, 1) := by decide +kernel
theorem dX11_stepsBetween_17 : decode cX11_stepsBetween 17 = .ok (.bipush 8, 2) := by decide +kernel
theorem dX11_stepsBetween_19 : decode cX11_stepsBetween 19 = .ok (.idiv, 1) := by decide +kernel
theorem dX11_stepsBetween_20 : decode cX11_stepsBetween 20 = .ok (.isub, 1) := by decide +kernel
theorem dX11_stepsBetween_21 : decode cX11_stepsBetween 21 = .ok (.invokestatic 304, 3) := by decide +kernel
theorem dX11_stepsBetween_24 : decode cX11_stepsBetween 24 = .ok (.iadd, 1) := by decide +kernel
theorem dX11_stepsBetween_25 : decode cX11_stepsBetween 25 = .ok (.ireturn, 1) := by decide +kernel
theorem dX11_yearNow_0 : decode cX11_yearNow 0 = .ok (.aload_n 0, 1) := by decide +kernel
theorem dX11_yearNow_1 : decode cX11_yearNow 1 = .ok (.getfield 40, 3) := by decide +kernel
theorem dX11_yearNow_4 : decode cX11_yearNow 4 = .ok (.aload_n 0, 1) := by decide +kernel
theorem dX11_yearNow_5 : decode cX11_yearNow 5 = .ok (.getfield 19, 3) := by decide +kernel
theorem dX11_yearNow_8 : decode cX11_yearNow 8 = .ok (.aload_n 0, 1) := by decide +kernel
theorem dX11_yearNow_9 : decode cX11_yearNow 9 = .ok (.getfield 26, 3) := by decide +kernel
theorem dX11_yearNow_12 : decode cX11_yearNow 12 = .ok (.invokevirtual 165, 3) := by decide +kernel
theorem dX11_yearNow_15 : decode cX11_yearNow 15 = .ok (.invokevirtual 309, 3) := by decide +kernel
theorem dX11_yearNow_18 : decode cX11_yearNow 18 = .ok (.ireturn, 1) := by decide +kernel
theorem dX11_candlesAt_0 : decode cX11_candlesAt 0 = .ok (.aload_n 0, 1) := by decide +kernel
theorem dX11_candlesAt_1 : decode cX11_candlesAt 1 = .ok (.getfield 19, 3) := by decide +kernel
theorem dX11_candlesAt_4 : decode cX11_candlesAt 4 = .ok (.iload_n 1, 1) := by decide +kernel
theorem dX11_candlesAt_5 : decode cX11_candlesAt 5 = .ok (.invokevirtual 152, 3) := by decide +kernel
theorem dX11_candlesAt_8 : decode cX11_candlesAt 8 = .ok (.aload_n 0, 1) := by decide +kernel
theorem dX11_candlesAt_9 : decode cX11_candlesAt 9 = .ok (.getfield 26, 3) := by decide +kernel
theorem dX11_candlesAt_12 : decode cX11_candlesAt 12 = .ok (.invokevirtual 165, 3) := by decide +kernel
theorem dX11_candlesAt_15 : decode cX11_candlesAt 15 = .ok (.istore_n 2, 1) := by decide +kernel
theorem dX11_candlesAt_16 : decode cX11_candlesAt 16 = .ok (.iconst 0, 1) := by decide +kernel
theorem dX11_candlesAt_17 : decode cX11_candlesAt 17 = .ok (.istore_n 3, 1) := by decide +kernel
theorem dX11_candlesAt_18 : decode cX11_candlesAt 18 = .ok (.iconst 0, 1) := by decide +kernel
theorem dX11_candlesAt_19 : decode cX11_candlesAt 19 = .ok (.istore 4, 2) := by decide +kernel
theorem dX11_candlesAt_21 : decode cX11_candlesAt 21 = .ok (.iload 4, 2) := by decide +kernel
theorem dX11_candlesAt_23 : decode cX11_candlesAt 23 = .ok (.aload_n 0, 1) := by decide +kernel
theorem dX11_candlesAt_24 : decode cX11_candlesAt 24 = .ok (.getfield 26, 3) := by decide +kernel
theorem dX11_candlesAt_27 : decode cX11_candlesAt 27 = .ok (.getfield 249, 3) := by decide +kernel
theorem dX11_candlesAt_30 : decode cX11_candlesAt 30 = .ok (.if_icmp .ge 50, 3) := by decide +kernel
theorem dX11_candlesAt_33 : decode cX11_candlesAt 33 = .ok (.iload 4, 2) := by decide +kernel
theorem dX11_candlesAt_35 : decode cX11_candlesAt 35 = .ok (.bipush 8, 2) := by decide +kernel
theorem dX11_candlesAt_37 : decode cX11_candlesAt 37 = .ok (.if_icmp .ge 43, 3) := by decide +kernel
theorem dX11_candlesAt_40 : decode cX11_candlesAt 40 = .ok (.aload_n 0, 1) := by decide +kernel
theorem dX11_candlesAt_41 : decode cX11_candlesAt 41 = .ok (.getfield 19, 3) := by decide +kernel
theorem dX11_candlesAt_44 : decode cX11_candlesAt 44 = .ok (.aload_n 0, 1) := by decide +kernel
theorem dX11_candlesAt_45 : decode cX11_candlesAt 45 = .ok (.getfield 26, 3) := by decide +kernel
theorem dX11_candlesAt_48 : decode cX11_candlesAt 48 = .ok (.getfield 313, 3) := by decide +kernel
theorem dX11_candlesAt_51 : decode cX11_candlesAt 51 = .ok (.iload 4, 2) := by decide +kernel
theorem dX11_candlesAt_53 : decode cX11_candlesAt 53 = .ok (.iaload, 1) := by decide +kernel
theorem dX11_candlesAt_54 : decode cX11_candlesAt 54 = .ok (.iload_n 2, 1) := by decide +kernel
theorem dX11_candlesAt_55 : decode cX11_candlesAt 55 = .ok (.invokevirtual 316, 3) := by decide +kernel
theorem dX11_candlesAt_58 : decode cX11_candlesAt 58 = .ok (.aload_n 0, 1) := by decide +kernel
theorem dX11_candlesAt_59 : decode cX11_candlesAt 59 = .ok (.getfield 26, 3) := by decide +kernel
theorem dX11_candlesAt_62 : decode cX11_candlesAt 62 = .ok (.getfield 319, 3) := by decide +kernel
theorem dX11_candlesAt_65 : decode cX11_candlesAt 65 = .ok (.iload 4, 2) := by decide +kernel
theorem dX11_candlesAt_67 : decode cX11_candlesAt 67 = .ok (.iaload, 1) := by decide +kernel
theorem dX11_candlesAt_68 : decode cX11_candlesAt 68 = .ok (.if_icmp .eq 6, 3) := by decide +kernel
theorem dX11_candlesAt_71 : decode cX11_candlesAt 71 = .ok (.iinc 3 1, 3) := by decide +kernel
theorem dX11_candlesAt_74 : decode cX11_candlesAt 74 = .ok (.iinc 4 1, 3) := by decide +kernel
theorem dX11_candlesAt_77 : decode cX11_candlesAt 77 = .ok (.goto (-56), 3) := by decide +kernel
theorem dX11_candlesAt_80 : decode cX11_candlesAt 80 = .ok (.iload_n 3, 1) := by decide +kernel
theorem dX11_candlesAt_81 : decode cX11_candlesAt 81 = .ok (.ireturn, 1) := by decide +kernel
theorem dX11_ownersOnSome_0 : decode cX11_ownersOnSome 0 = .ok (.iconst (-1), 1) := by decide +kernel
theorem dX11_ownersOnSome_1 : decode cX11_ownersOnSome 1 = .ok (.istore_n 1, 1) := by decide +kernel
theorem dX11_ownersOnSome_2 : decode cX11_ownersOnSome 2 = .ok (.iconst 0, 1) := by decide +kernel
theorem dX11_ownersOnSome_3 : decode cX11_ownersOnSome 3 = .ok (.istore_n 2, 1) := by decide +kernel
theorem dX11_ownersOnSome_4 : decode cX11_ownersOnSome 4 = .ok (.iload_n 2, 1) := by decide +kernel
theorem dX11_ownersOnSome_5 : decode cX11_ownersOnSome 5 = .ok (.bipush 64, 2) := by decide +kernel
theorem dX11_ownersOnSome_7 : decode cX11_ownersOnSome 7 = .ok (.if_icmp .ge 56, 3) := by decide +kernel
theorem dX11_ownersOnSome_10 : decode cX11_ownersOnSome 10 = .ok (.aload_n 0, 1) := by decide +kernel
theorem dX11_ownersOnSome_11 : decode cX11_ownersOnSome 11 = .ok (.getfield 61, 3) := by decide +kernel
theorem dX11_ownersOnSome_14 : decode cX11_ownersOnSome 14 = .ok (.iload_n 2, 1) := by decide +kernel
theorem dX11_ownersOnSome_15 : decode cX11_ownersOnSome 15 = .ok (.invokevirtual 322, 3) := by decide +kernel
theorem dX11_ownersOnSome_18 : decode cX11_ownersOnSome 18 = .ok (.ifCond .eq 39, 3) := by decide +kernel
theorem dX11_ownersOnSome_21 : decode cX11_ownersOnSome 21 = .ok (.aload_n 0, 1) := by decide +kernel
theorem dX11_ownersOnSome_22 : decode cX11_ownersOnSome 22 = .ok (.getfield 26, 3) := by decide +kernel
theorem dX11_ownersOnSome_25 : decode cX11_ownersOnSome 25 = .ok (.aload_n 0, 1) := by decide +kernel
theorem dX11_ownersOnSome_26 : decode cX11_ownersOnSome 26 = .ok (.getfield 19, 3) := by decide +kernel
theorem dX11_ownersOnSome_29 : decode cX11_ownersOnSome 29 = .ok (.iload_n 2, 1) := by decide +kernel
theorem dX11_ownersOnSome_30 : decode cX11_ownersOnSome 30 = .ok (.aload_n 0, 1) := by decide +kernel
theorem dX11_ownersOnSome_31 : decode cX11_ownersOnSome 31 = .ok (.getfield 26, 3) := by decide +kernel
theorem dX11_ownersOnSome_34 : decode cX11_ownersOnSome 34 = .ok (.invokevirtual 165, 3) := by decide +kernel
theorem dX11_ownersOnSome_37 : decode cX11_ownersOnSome 37 = .ok (.invokevirtual 168, 3) := by decide +kernel
theorem dX11_ownersOnSome_40 : decode cX11_ownersOnSome 40 = .ok (.invokevirtual 171, 3) := by decide +kernel
theorem dX11_ownersOnSome_43 : decode cX11_ownersOnSome 43 = .ok (.istore_n 3, 1) := by decide +kernel
theorem dX11_ownersOnSome_44 : decode cX11_ownersOnSome 44 = .ok (.iload_n 1, 1) := by decide +kernel
theorem dX11_ownersOnSome_45 : decode cX11_ownersOnSome 45 = .ok (.iconst (-1), 1) := by decide +kernel
theorem dX11_ownersOnSome_46 : decode cX11_ownersOnSome 46 = .ok (.if_icmp .ne 7, 3) := by decide +kernel
theorem dX11_ownersOnSome_49 : decode cX11_ownersOnSome 49 = .ok (.iload_n 3, 1) := by decide +kernel
theorem dX11_ownersOnSome_50 : decode cX11_ownersOnSome 50 = .ok (.goto 6, 3) := by decide +kernel
theorem dX11_ownersOnSome_53 : decode cX11_ownersOnSome 53 = .ok (.iload_n 1, 1) := by decide +kernel
theorem dX11_ownersOnSome_54 : decode cX11_ownersOnSome 54 = .ok (.iload_n 3, 1) := by decide +kernel
theorem dX11_ownersOnSome_55 : decode cX11_ownersOnSome 55 = .ok (.ior, 1) := by decide +kernel
theorem dX11_ownersOnSome_56 : decode cX11_ownersOnSome 56 = .ok (.istore_n 1, 1) := by decide +kernel
theorem dX11_ownersOnSome_57 : decode cX11_ownersOnSome 57 = .ok (.iinc 2 1, 3) := by decide +kernel
theorem dX11_ownersOnSome_60 : decode cX11_ownersOnSome 60 = .ok (.goto (-56), 3) := by decide +kernel
theorem dX11_ownersOnSome_63 : decode cX11_ownersOnSome 63 = .ok (.iload_n 1, 1) := by decide +kernel
theorem dX11_ownersOnSome_64 : decode cX11_ownersOnSome 64 = .ok (.ireturn, 1) := by decide +kernel
theorem dX11_ownersOnAll_0 : decode cX11_ownersOnAll 0 = .ok (.iconst (-1), 1) := by decide +kernel
theorem dX11_ownersOnAll_1 : decode cX11_ownersOnAll 1 = .ok (.istore_n 1, 1) := by decide +kernel
theorem dX11_ownersOnAll_2 : decode cX11_ownersOnAll 2 = .ok (.iconst 0, 1) := by decide +kernel
theorem dX11_ownersOnAll_3 : decode cX11_ownersOnAll 3 = .ok (.istore_n 2, 1) := by decide +kernel
theorem dX11_ownersOnAll_4 : decode cX11_ownersOnAll 4 = .ok (.iload_n 2, 1) := by decide +kernel
theorem dX11_ownersOnAll_5 : decode cX11_ownersOnAll 5 = .ok (.bipush 64, 2) := by decide +kernel
theorem dX11_ownersOnAll_7 : decode cX11_ownersOnAll 7 = .ok (.if_icmp .ge 45, 3) := by decide +kernel
theorem dX11_ownersOnAll_10 : decode cX11_ownersOnAll 10 = .ok (.aload_n 0, 1) := by decide +kernel
theorem dX11_ownersOnAll_11 : decode cX11_ownersOnAll 11 = .ok (.getfield 61, 3) := by decide +kernel
theorem dX11_ownersOnAll_14 : decode cX11_ownersOnAll 14 = .ok (.iload_n 2, 1) := by decide +kernel
theorem dX11_ownersOnAll_15 : decode cX11_ownersOnAll 15 = .ok (.invokevirtual 322, 3) := by decide +kernel
theorem dX11_ownersOnAll_18 : decode cX11_ownersOnAll 18 = .ok (.ifCond .eq 28, 3) := by decide +kernel
theorem dX11_ownersOnAll_21 : decode cX11_ownersOnAll 21 = .ok (.iload_n 1, 1) := by decide +kernel
theorem dX11_ownersOnAll_22 : decode cX11_ownersOnAll 22 = .ok (.aload_n 0, 1) := by decide +kernel
theorem dX11_ownersOnAll_23 : decode cX11_ownersOnAll 23 = .ok (.getfield 26, 3) := by decide +kernel
theorem dX11_ownersOnAll_26 : decode cX11_ownersOnAll 26 = .ok (.aload_n 0, 1) := by decide +kernel
theorem dX11_ownersOnAll_27 : decode cX11_ownersOnAll 27 = .ok (.getfield 19, 3) := by decide +kernel
theorem dX11_ownersOnAll_30 : decode cX11_ownersOnAll 30 = .ok (.iload_n 2, 1) := by decide +kernel
theorem dX11_ownersOnAll_31 : decode cX11_ownersOnAll 31 = .ok (.aload_n 0, 1) := by decide +kernel
theorem dX11_ownersOnAll_32 : decode cX11_ownersOnAll 32 = .ok (.getfield 26, 3) := by decide +kernel
theorem dX11_ownersOnAll_35 : decode cX11_ownersOnAll 35 = .ok (.invokevirtual 165, 3) := by decide +kernel
theorem dX11_ownersOnAll_38 : decode cX11_ownersOnAll 38 = .ok (.invokevirtual 168, 3) := by decide +kernel
theorem dX11_ownersOnAll_41 : decode cX11_ownersOnAll 41 = .ok (.invokevirtual 171, 3) := by decide +kernel
theorem dX11_ownersOnAll_44 : decode cX11_ownersOnAll 44 = .ok (.iand, 1) := by decide +kernel
theorem dX11_ownersOnAll_45 : decode cX11_ownersOnAll 45 = .ok (.istore_n 1, 1) := by decide +kernel
theorem dX11_ownersOnAll_46 : decode cX11_ownersOnAll 46 = .ok (.iinc 2 1, 3) := by decide +kernel
theorem dX11_ownersOnAll_49 : decode cX11_ownersOnAll 49 = .ok (.goto (-45), 3) := by decide +kernel
theorem dX11_ownersOnAll_52 : decode cX11_ownersOnAll 52 = .ok (.iload_n 1, 1) := by decide +kernel
theorem dX11_ownersOnAll_53 : decode cX11_ownersOnAll 53 = .ok (.ireturn, 1) := by decide +kernel
theorem dX12_thrown_0 : decode cX12_thrown 0 = .ok (.aload_n 0, 1) := by decide +kernel
theorem dX12_thrown_1 : decode cX12_thrown 1 = .ok (.getfield 1, 3) := by decide +kernel
theorem dX12_thrown_4 : decode cX12_thrown 4 = .ok (.ireturn, 1) := by decide +kernel
theorem dX12_feed_0 : decode cX12_feed 0 = .ok (.aload_n 0, 1) := by decide +kernel
theorem dX12_feed_1 : decode cX12_feed 1 = .ok (.iconst 0, 1) := by decide +kernel
theorem dX12_feed_2 : decode cX12_feed 2 = .ok (.putfield 1, 3) := by decide +kernel
theorem dX12_feed_5 : decode cX12_feed 5 = .ok (.aload_n 0, 1) := by decide +kernel
theorem dX12_feed_6 : decode cX12_feed 6 = .ok (.lload_n 1, 1) := by decide +kernel
theorem dX12_feed_7 : decode cX12_feed 7 = .ok (.invokevirtual 7, 3) := by decide +kernel
theorem dX12_feed_10 : decode cX12_feed 10 = .ok (.aload_n 0, 1) := by decide +kernel
theorem dX12_feed_11 : decode cX12_feed 11 = .ok (.lload_n 3, 1) := by decide +kernel
theorem dX12_feed_12 : decode cX12_feed 12 = .ok (.invokevirtual 7, 3) := by decide +kernel
theorem dX12_feed_15 : decode cX12_feed 15 = .ok (.aload_n 0, 1) := by decide +kernel
theorem dX12_feed_16 : decode cX12_feed 16 = .ok (.lload 5, 2) := by decide +kernel
theorem dX12_feed_18 : decode cX12_feed 18 = .ok (.invokevirtual 7, 3) := by decide +kernel
theorem dX12_feed_21 : decode cX12_feed 21 = .ok (.aload_n 0, 1) := by decide +kernel
theorem dX12_feed_22 : decode cX12_feed 22 = .ok (.getfield 11, 3) := by decide +kernel
theorem dX12_feed_25 : decode cX12_feed 25 = .ok (.ireturn, 1) := by decide +kernel
theorem dX12_lay_0 : decode cX12_lay 0 = .ok (.bipush 56, 2) := by decide +kernel
theorem dX12_lay_2 : decode cX12_lay 2 = .ok (.istore_n 3, 1) := by decide +kernel
theorem dX12_lay_3 : decode cX12_lay 3 = .ok (.iload_n 3, 1) := by decide +kernel
theorem dX12_lay_4 : decode cX12_lay 4 = .ok (.ifCond .lt 71, 3) := by decide +kernel
theorem dX12_lay_7 : decode cX12_lay 7 = .ok (.lload_n 1, 1) := by decide +kernel
theorem dX12_lay_8 : decode cX12_lay 8 = .ok (.iload_n 3, 1) := by decide +kernel
theorem dX12_lay_9 : decode cX12_lay 9 = .ok (.lshr, 1) := by decide +kernel
theorem dX12_lay_10 : decode cX12_lay 10 = .ok (.l2i, 1) := by decide +kernel
theorem dX12_lay_11 : decode cX12_lay 11 = .ok (.sipush 255, 3) := by decide +kernel
theorem dX12_lay_14 : decode cX12_lay 14 = .ok (.iand, 1) := by decide +kernel
theorem dX12_lay_15 : decode cX12_lay 15 = .ok (.istore 4, 2) := by decide +kernel
theorem dX12_lay_17 : decode cX12_lay 17 = .ok (.iload 4, 2) := by decide +kernel
theorem dX12_lay_19 : decode cX12_lay 19 = .ok (.bipush 10, 2) := by decide +kernel
theorem dX12_lay_21 : decode cX12_lay 21 = .ok (.if_icmp .eq 17, 3) := by decide +kernel
theorem dX12_lay_24 : decode cX12_lay 24 = .ok (.iload 4, 2) := by decide +kernel
theorem dX12_lay_26 : decode cX12_lay 26 = .ok (.bipush 32, 2) := by decide +kernel
theorem dX12_lay_28 : decode cX12_lay 28 = .ok (.if_icmp .lt 41, 3) := by decide +kernel
theorem dX12_lay_31 : decode cX12_lay 31 = .ok (.iload 4, 2) := by decide +kernel
theorem dX12_lay_33 : decode cX12_lay 33 = .ok (.bipush 126, 2) := by decide +kernel
theorem dX12_lay_35 : decode cX12_lay 35 = .ok (.if_icmp .gt 34, 3) := by decide +kernel
theorem dX12_lay_38 : decode cX12_lay 38 = .ok (.aload_n 0, 1) := by decide +kernel
theorem dX12_lay_39 : decode cX12_lay 39 = .ok (.getfield 11, 3) := by decide +kernel
theorem dX12_lay_42 : decode cX12_lay 42 = .ok (.sipush 1000, 3) := by decide +kernel
theorem dX12_lay_45 : decode cX12_lay 45 = .ok (.if_icmp .ge 24, 3) := by decide +kernel
theorem dX12_lay_48 : decode cX12_lay 48 = .ok (.aload_n 0, 1) := by decide +kernel
theorem dX12_lay_49 : decode cX12_lay 49 = .ok (.getfield 14, 3) := by decide +kernel
theorem dX12_lay_52 : decode cX12_lay 52 = .ok (.aload_n 0, 1) := by decide +kernel
theorem dX12_lay_53 : decode cX12_lay 53 = .ok (.getfield 11, 3) := by decide +kernel
theorem dX12_lay_56 : decode cX12_lay 56 = .ok (.iload 4, 2) := by decide +kernel
theorem dX12_lay_58 : decode cX12_lay 58 = .ok (.iastore, 1) := by decide +kernel
theorem dX12_lay_59 : decode cX12_lay 59 = .ok (.aload_n 0, 1) := by decide +kernel
theorem dX12_lay_60 : decode cX12_lay 60 = .ok (.dup, 1) := by decide +kernel
theorem dX12_lay_61 : decode cX12_lay 61 = .ok (.getfield 11, 3) := by decide +kernel
theorem dX12_lay_64 : decode cX12_lay 64 = .ok (.iconst 1, 1) := by decide +kernel
theorem dX12_lay_65 : decode cX12_lay 65 = .ok (.iadd, 1) := by decide +kernel
theorem dX12_lay_66 : decode cX12_lay 66 = .ok (.putfield 11, 3) := by decide +kernel
theorem dX12_lay_69 : decode cX12_lay 69 = .ok (.iinc 3 (-8), 3) := by decide +kernel
theorem dX12_lay_72 : decode cX12_lay 72 = .ok (.goto (-69), 3) := by decide +kernel
theorem dX12_lay_75 : decode cX12_lay 75 = .ok (.return_, 1) := by decide +kernel
theorem dX12_init_0 : decode cX12_init 0 = .ok (.aload_n 0, 1) := by decide +kernel
theorem dX12_init_1 : decode cX12_init 1 = .ok (.invokespecial 18, 3) := by decide +kernel
theorem dX12_init_4 : decode cX12_init 4 = .ok (.aload_n 0, 1) := by decide +kernel
theorem dX12_init_5 : decode cX12_init 5 = .ok (.sipush 1000, 3) := by decide +kernel
theorem dX12_init_8 : decode cX12_init 8 = .ok (.newarray .int, 2) := by decide +kernel
theorem dX12_init_10 : decode cX12_init 10 = .ok (.putfield 14, 3) := by decide +kernel
theorem dX12_init_13 : decode cX12_init 13 = .ok (.aload_n 0, 1) := by decide +kernel
theorem dX12_init_14 : decode cX12_init 14 = .ok (.sipush 1002, 3) := by decide +kernel
theorem dX12_init_17 : decode cX12_init 17 = .ok (.newarray .int, 2) := by decide +kernel
theorem dX12_init_19 : decode cX12_init 19 = .ok (.putfield 24, 3) := by decide +kernel
theorem dX12_init_22 : decode cX12_init 22 = .ok (.aload_n 0, 1) := by decide +kernel
theorem dX12_init_23 : decode cX12_init 23 = .ok (.sipush 1002, 3) := by decide +kernel
theorem dX12_init_26 : decode cX12_init 26 = .ok (.newarray .int, 2) := by decide +kernel
theorem dX12_init_28 : decode cX12_init 28 = .ok (.putfield 27, 3) := by decide +kernel
theorem dX12_init_31 : decode cX12_init 31 = .ok (.aload_n 0, 1) := by decide +kernel
theorem dX12_init_32 : decode cX12_init 32 = .ok (.sipush 1002, 3) := by decide +kernel
theorem dX12_init_35 : decode cX12_init 35 = .ok (.newarray .long, 2) := by decide +kernel
theorem dX12_init_37 : decode cX12_init 37 = .ok (.putfield 30, 3) := by decide +kernel
theorem dX12_init_40 : decode cX12_init 40 = .ok (.aload_n 0, 1) := by decide +kernel
theorem dX12_init_41 : decode cX12_init 41 = .ok (.bipush 22, 2) := by decide +kernel
theorem dX12_init_43 : decode cX12_init 43 = .ok (.newarray .long, 2) := by decide +kernel
theorem dX12_init_45 : decode cX12_init 45 = .ok (.dup, 1) := by decide +kernel
theorem dX12_init_46 : decode cX12_init 46 = .ok (.iconst 0, 1) := by decide +kernel
theorem dX12_init_47 : decode cX12_init 47 = .ok (.ldc2_w 34, 3) := by decide +kernel
theorem dX12_init_50 : decode cX12_init 50 = .ok (.lastore, 1) := by decide +kernel
theorem dX12_init_51 : decode cX12_init 51 = .ok (.dup, 1) := by decide +kernel
theorem dX12_init_52 : decode cX12_init 52 = .ok (.iconst 1, 1) := by decide +kernel
theorem dX12_init_53 : decode cX12_init 53 = .ok (.ldc2_w 36, 3) := by decide +kernel
theorem dX12_init_56 : decode cX12_init 56 = .ok (.lastore, 1) := by decide +kernel
theorem dX12_init_57 : decode cX12_init 57 = .ok (.dup, 1) := by decide +kernel
theorem dX12_init_58 : decode cX12_init 58 = .ok (.iconst 2, 1) := by decide +kernel
theorem dX12_init_59 : decode cX12_init 59 = .ok (.ldc2_w 38, 3) := by decide +kernel
theorem dX12_init_62 : decode cX12_init 62 = .ok (.lastore, 1) := by decide +kernel
theorem dX12_init_63 : decode cX12_init 63 = .ok (.dup, 1) := by decide +kernel
theorem dX12_init_64 : decode cX12_init 64 = .ok (.iconst 3, 1) := by decide +kernel
theorem dX12_init_65 : decode cX12_init 65 = .ok (.ldc2_w 40, 3) := by decide +kernel
theorem dX12_init_68 : decode cX12_init 68 = .ok (.lastore, 1) := by decide +kernel
theorem dX12_init_69 : decode cX12_init 69 = .ok (.dup, 1) := by decide +kernel
theorem dX12_init_70 : decode cX12_init 70 = .ok (.iconst 4, 1) := by decide +kernel
theorem dX12_init_71 : decode cX12_init 71 = .ok (.ldc2_w 42, 3) := by decide +kernel
theorem dX12_init_74 : decode cX12_init 74 = .ok (.lastore, 1) := by decide +kernel
theorem dX12_init_75 : decode cX12_init 75 = .ok (.dup, 1) := by decide +kernel
theorem dX12_init_76 : decode cX12_init 76 = .ok (.iconst 5, 1) := by decide +kernel
theorem dX12_init_77 : decode cX12_init 77 = .ok (.ldc2_w 44, 3) := by decide +kernel
theorem dX12_init_80 : decode cX12_init 80 = .ok (.lastore, 1) := by decide +kernel
theorem dX12_init_81 : decode cX12_init 81 = .ok (.dup, 1) := by decide +kernel
theorem dX12_init_82 : decode cX12_init 82 = .ok (.bipush 6, 2) := by decide +kernel
theorem dX12_init_84 : decode cX12_init 84 = .ok (.ldc2_w 46, 3) := by decide +kernel
theorem dX12_init_87 : decode cX12_init 87 = .ok (.lastore, 1) := by decide +kernel
theorem dX12_init_88 : decode cX12_init 88 = .ok (.dup, 1) := by decide +kernel
theorem dX12_init_89 : decode cX12_init 89 = .ok (.bipush 7, 2) := by decide +kernel
theorem dX12_init_91 : decode cX12_init 91 = .ok (.ldc2_w 48, 3) := by decide +kernel
theorem dX12_init_94 : decode cX12_init 94 = .ok (.lastore, 1) := by decide +kernel
theorem dX12_init_95 : decode cX12_init 95 = .ok (.dup, 1) := by decide +kernel
theorem dX12_init_96 : decode cX12_init 96 = .ok (.bipush 8, 2) := by decide +kernel
theorem dX12_init_98 : decode cX12_init 98 = .ok (.ldc2_w 50, 3) := by decide +kernel
theorem dX12_init_101 : decode cX12_init 101 = .ok (.lastore, 1) := by decide +kernel
theorem dX12_init_102 : decode cX12_init 102 = .ok (.dup, 1) := by decide +kernel
theorem dX12_init_103 : decode cX12_init 103 = .ok (.bipush 9, 2) := by decide +kernel
theorem dX12_init_105 : decode cX12_init 105 = .ok (.ldc2_w 52, 3) := by decide +kernel
theorem dX12_init_108 : decode cX12_init 108 = .ok (.lastore, 1) := by decide +kernel
theorem dX12_init_109 : decode cX12_init 109 = .ok (.dup, 1) := by decide +kernel
theorem dX12_init_110 : decode cX12_init 110 = .ok (.bipush 10, 2) := by decide +kernel
theorem dX12_init_112 : decode cX12_init 112 = .ok (.ldc2_w 54, 3) := by decide +kernel
theorem dX12_init_115 : decode cX12_init 115 = .ok (.lastore, 1) := by decide +kernel
theorem dX12_init_116 : decode cX12_init 116 = .ok (.dup, 1) := by decide +kernel
theorem dX12_init_117 : decode cX12_init 117 = .ok (.bipush 11, 2) := by decide +kernel
theorem dX12_init_119 : decode cX12_init 119 = .ok (.ldc2_w 56, 3) := by decide +kernel
theorem dX12_init_122 : decode cX12_init 122 = .ok (.lastore, 1) := by decide +kernel
theorem dX12_init_123 : decode cX12_init 123 = .ok (.dup, 1) := by decide +kernel
theorem dX12_init_124 : decode cX12_init 124 = .ok (.bipush 12, 2) := by decide +kernel
theorem dX12_init_126 : decode cX12_init 126 = .ok (.ldc2_w 58, 3) := by decide +kernel
theorem dX12_init_129 : decode cX12_init 129 = .ok (.lastore, 1) := by decide +kernel
theorem dX12_init_130 : decode cX12_init 130 = .ok (.dup, 1) := by decide +kernel
theorem dX12_init_131 : decode cX12_init 131 = .ok (.bipush 13, 2) := by decide +kernel
theorem dX12_init_133 : decode cX12_init 133 = .ok (.ldc2_w 60, 3) := by decide +kernel
theorem dX12_init_136 : decode cX12_init 136 = .ok (.lastore, 1) := by decide +kernel
theorem dX12_init_137 : decode cX12_init 137 = .ok (.dup, 1) := by decide +kernel
theorem dX12_init_138 : decode cX12_init 138 = .ok (.bipush 14, 2) := by decide +kernel
theorem dX12_init_140 : decode cX12_init 140 = .ok (.ldc2_w 62, 3) := by decide +kernel
theorem dX12_init_143 : decode cX12_init 143 = .ok (.lastore, 1) := by decide +kernel
theorem dX12_init_144 : decode cX12_init 144 = .ok (.dup, 1) := by decide +kernel
theorem dX12_init_145 : decode cX12_init 145 = .ok (.bipush 15, 2) := by decide +kernel
theorem dX12_init_147 : decode cX12_init 147 = .ok (.ldc2_w 64, 3) := by decide +kernel
theorem dX12_init_150 : decode cX12_init 150 = .ok (.lastore, 1) := by decide +kernel
theorem dX12_init_151 : decode cX12_init 151 = .ok (.dup, 1) := by decide +kernel
theorem dX12_init_152 : decode cX12_init 152 = .ok (.bipush 16, 2) := by decide +kernel
theorem dX12_init_154 : decode cX12_init 154 = .ok (.ldc2_w 66, 3) := by decide +kernel
theorem dX12_init_157 : decode cX12_init 157 = .ok (.lastore, 1) := by decide +kernel
theorem dX12_init_158 : decode cX12_init 158 = .ok (.dup, 1) := by decide +kernel
theorem dX12_init_159 : decode cX12_init 159 = .ok (.bipush 17, 2) := by decide +kernel
theorem dX12_init_161 : decode cX12_init 161 = .ok (.ldc2_w 68, 3) := by decide +kernel
theorem dX12_init_164 : decode cX12_init 164 = .ok (.lastore, 1) := by decide +kernel
theorem dX12_init_165 : decode cX12_init 165 = .ok (.dup, 1) := by decide +kernel
theorem dX12_init_166 : decode cX12_init 166 = .ok (.bipush 18, 2) := by decide +kernel
theorem dX12_init_168 : decode cX12_init 168 = .ok (.ldc2_w 70, 3) := by decide +kernel
theorem dX12_init_171 : decode cX12_init 171 = .ok (.lastore, 1) := by decide +kernel
theorem dX12_init_172 : decode cX12_init 172 = .ok (.dup, 1) := by decide +kernel
theorem dX12_init_173 : decode cX12_init 173 = .ok (.bipush 19, 2) := by decide +kernel
theorem dX12_init_175 : decode cX12_init 175 = .ok (.ldc2_w 72, 3) := by decide +kernel
theorem dX12_init_178 : decode cX12_init 178 = .ok (.lastore, 1) := by decide +kernel
theorem dX12_init_179 : decode cX12_init 179 = .ok (.dup, 1) := by decide +kernel
theorem dX12_init_180 : decode cX12_init 180 = .ok (.bipush 20, 2) := by decide +kernel
theorem dX12_init_182 : decode cX12_init 182 = .ok (.ldc2_w 74, 3) := by decide +kernel
theorem dX12_init_185 : decode cX12_init 185 = .ok (.lastore, 1) := by decide +kernel
theorem dX12_init_186 : decode cX12_init 186 = .ok (.dup, 1) := by decide +kernel
theorem dX12_init_187 : decode cX12_init 187 = .ok (.bipush 21, 2) := by decide +kernel
theorem dX12_init_189 : decode cX12_init 189 = .ok (.ldc2_w 76, 3) := by decide +kernel
theorem dX12_init_192 : decode cX12_init 192 = .ok (.lastore, 1) := by decide +kernel
theorem dX12_init_193 : decode cX12_init 193 = .ok (.putfield 78, 3) := by decide +kernel
theorem dX12_init_196 : decode cX12_init 196 = .ok (.aload_n 0, 1) := by decide +kernel
theorem dX12_init_197 : decode cX12_init 197 = .ok (.sipush 160, 3) := by decide +kernel
theorem dX12_init_200 : decode cX12_init 200 = .ok (.newarray .int, 2) := by decide +kernel
theorem dX12_init_202 : decode cX12_init 202 = .ok (.putfield 81, 3) := by decide +kernel
theorem dX12_init_205 : decode cX12_init 205 = .ok (.aload_n 0, 1) := by decide +kernel
theorem dX12_init_206 : decode cX12_init 206 = .ok (.sipush 2200, 3) := by decide +kernel
theorem dX12_init_209 : decode cX12_init 209 = .ok (.newarray .int, 2) := by decide +kernel
theorem dX12_init_211 : decode cX12_init 211 = .ok (.putfield 84, 3) := by decide +kernel
theorem dX12_init_214 : decode cX12_init 214 = .ok (.aload_n 0, 1) := by decide +kernel
theorem dX12_init_215 : decode cX12_init 215 = .ok (.sipush 2200, 3) := by decide +kernel
theorem dX12_init_218 : decode cX12_init 218 = .ok (.newarray .int, 2) := by decide +kernel
theorem dX12_init_220 : decode cX12_init 220 = .ok (.putfield 87, 3) := by decide +kernel
theorem dX12_init_223 : decode cX12_init 223 = .ok (.aload_n 0, 1) := by decide +kernel
theorem dX12_init_224 : decode cX12_init 224 = .ok (.bipush 6, 2) := by decide +kernel
theorem dX12_init_226 : decode cX12_init 226 = .ok (.newarray .long, 2) := by decide +kernel
theorem dX12_init_228 : decode cX12_init 228 = .ok (.putfield 90, 3) := by decide +kernel
theorem dX12_init_231 : decode cX12_init 231 = .ok (.aload_n 0, 1) := by decide +kernel
theorem dX12_init_232 : decode cX12_init 232 = .ok (.bipush 7, 2) := by decide +kernel
theorem dX12_init_234 : decode cX12_init 234 = .ok (.newarray .int, 2) := by decide +kernel
theorem dX12_init_236 : decode cX12_init 236 = .ok (.putfield 93, 3) := by decide +kernel
theorem dX12_init_239 : decode cX12_init 239 = .ok (.aload_n 0, 1) := by decide +kernel
theorem dX12_init_240 : decode cX12_init 240 = .ok (.sipush 1100, 3) := by decide +kernel
theorem dX12_init_243 : decode cX12_init 243 = .ok (.newarray .int, 2) := by decide +kernel
theorem dX12_init_245 : decode cX12_init 245 = .ok (.putfield 96, 3) := by decide +kernel
theorem dX12_init_248 : decode cX12_init 248 = .ok (.aload_n 0, 1) := by decide +kernel
theorem dX12_init_249 : decode cX12_init 249 = .ok (.sipush 1000, 3) := by decide +kernel
theorem dX12_init_252 : decode cX12_init 252 = .ok (.newarray .int, 2) := by decide +kernel
theorem dX12_init_254 : decode cX12_init 254 = .ok (.putfield 99, 3) := by decide +kernel
theorem dX12_init_257 : decode cX12_init 257 = .ok (.aload_n 0, 1) := by decide +kernel
theorem dX12_init_258 : decode cX12_init 258 = .ok (.iconst 4, 1) := by decide +kernel
theorem dX12_init_259 : decode cX12_init 259 = .ok (.newarray .boolean, 2) := by decide +kernel
theorem dX12_init_261 : decode cX12_init 261 = .ok (.putfield 102, 3) := by decide +kernel
theorem dX12_init_264 : decode cX12_init 264 = .ok (.aload_n 0, 1) := by decide +kernel
theorem dX12_init_265 : decode cX12_init 265 = .ok (.bipush 12, 2) := by decide +kernel
theorem dX12_init_267 : decode cX12_init 267 = .ok (.newarray .int, 2) := by decide +kernel
theorem dX12_init_269 : decode cX12_init 269 = .ok (.putfield 106, 3) := by decide +kernel
theorem dX12_init_272 : decode cX12_init 272 = .ok (.aload_n 0, 1) := by decide +kernel
theorem dX12_init_273 : decode cX12_init 273 = .ok (.bipush 12, 2) := by decide +kernel
theorem dX12_init_275 : decode cX12_init 275 = .ok (.newarray .int, 2) := by decide +kernel
theorem dX12_init_277 : decode cX12_init 277 = .ok (.putfield 109, 3) := by decide +kernel
theorem dX12_init_280 : decode cX12_init 280 = .ok (.aload_n 0, 1) := by decide +kernel
theorem dX12_init_281 : decode cX12_init 281 = .ok (.bipush 12, 2) := by decide +kernel
theorem dX12_init_283 : decode cX12_init 283 = .ok (.newarray .int, 2) := by decide +kernel
theorem dX12_init_285 : decode cX12_init 285 = .ok (.putfield 112, 3) := by decide +kernel
theorem dX12_init_288 : decode cX12_init 288 = .ok (.aload_n 0, 1) := by decide +kernel
theorem dX12_init_289 : decode cX12_init 289 = .ok (.bipush 12, 2) := by decide +kernel
theorem dX12_init_291 : decode cX12_init 291 = .ok (.newarray .int, 2) := by decide +kernel
theorem dX12_init_293 : decode cX12_init 293 = .ok (.putfield 115, 3) := by decide +kernel
theorem dX12_init_296 : decode cX12_init 296 = .ok (.aload_n 0, 1) := by decide +kernel
theorem dX12_init_297 : decode cX12_init 297 = .ok (.bipush 6, 2) := by decide +kernel
theorem dX12_init_299 : decode cX12_init 299 = .ok (.newarray .int, 2) := by decide +kernel
theorem dX12_init_301 : decode cX12_init 301 = .ok (.putfield 118, 3) := by decide +kernel
theorem dX12_init_304 : decode cX12_init 304 = .ok (.aload_n 0, 1) := by decide +kernel
theorem dX12_init_305 : decode cX12_init 305 = .ok (.sipush 1536, 3) := by decide +kernel
theorem dX12_init_308 : decode cX12_init 308 = .ok (.newarray .int, 2) := by decide +kernel
theorem dX12_init_310 : decode cX12_init 310 = .ok (.putfield 121, 3) := by decide +kernel
theorem dX12_init_313 : decode cX12_init 313 = .ok (.aload_n 0, 1) := by decide +kernel
theorem dX12_init_314 : decode cX12_init 314 = .ok (.sipush 384, 3) := by decide +kernel
theorem dX12_init_317 : decode cX12_init 317 = .ok (.newarray .int, 2) := by decide +kernel
theorem dX12_init_319 : decode cX12_init 319 = .ok (.putfield 124, 3) := by decide +kernel
theorem dX12_init_322 : decode cX12_init 322 = .ok (.aload_n 0, 1) := by decide +kernel
theorem dX12_init_323 : decode cX12_init 323 = .ok (.sipush 384, 3) := by decide +kernel
theorem dX12_init_326 : decode cX12_init 326 = .ok (.newarray .int, 2) := by decide +kernel
theorem dX12_init_328 : decode cX12_init 328 = .ok (.putfield 127, 3) := by decide +kernel
theorem dX12_init_331 : decode cX12_init 331 = .ok (.aload_n 0, 1) := by decide +kernel
theorem dX12_init_332 : decode cX12_init 332 = .ok (.sipush 384, 3) := by decide +kernel
theorem dX12_init_335 : decode cX12_init 335 = .ok (.newarray .int, 2) := by decide +kernel
theorem dX12_init_337 : decode cX12_init 337 = .ok (.putfield 130, 3) := by decide +kernel
theorem dX12_init_340 : decode cX12_init 340 = .ok (.aload_n 0, 1) := by decide +kernel
theorem dX12_init_341 : decode cX12_init 341 = .ok (.getfield 81, 3) := by decide +kernel
theorem dX12_init_344 : decode cX12_init 344 = .ok (.iconst 0, 1) := by decide +kernel
theorem dX12_init_345 : decode cX12_init 345 = .ok (.iconst 4, 1) := by decide +kernel
theorem dX12_init_346 : decode cX12_init 346 = .ok (.iastore, 1) := by decide +kernel
theorem dX12_init_347 : decode cX12_init 347 = .ok (.aload_n 0, 1) := by decide +kernel
theorem dX12_init_348 : decode cX12_init 348 = .ok (.getfield 81, 3) := by decide +kernel
theorem dX12_init_351 : decode cX12_init 351 = .ok (.iconst 1, 1) := by decide +kernel
theorem dX12_init_352 : decode cX12_init 352 = .ok (.iconst 4, 1) := by decide +kernel
theorem dX12_init_353 : decode cX12_init 353 = .ok (.iastore, 1) := by decide +kernel
theorem dX12_init_354 : decode cX12_init 354 = .ok (.iconst 0, 1) := by decide +kernel
theorem dX12_init_355 : decode cX12_init 355 = .ok (.istore_n 1, 1) := by decide +kernel
theorem dX12_init_356 : decode cX12_init 356 = .ok (.iload_n 1, 1) := by decide +kernel
theorem dX12_init_357 : decode cX12_init 357 = .ok (.iconst 4, 1) := by decide +kernel
theorem dX12_init_358 : decode cX12_init 358 = .ok (.if_icmp .ge 19, 3) := by decide +kernel
theorem dX12_init_361 : decode cX12_init 361 = .ok (.aload_n 0, 1) := by decide +kernel
theorem dX12_init_362 : decode cX12_init 362 = .ok (.getfield 81, 3) := by decide +kernel
theorem dX12_init_365 : decode cX12_init 365 = .ok (.bipush 65, 2) := by decide +kernel
theorem dX12_init_367 : decode cX12_init 367 = .ok (.iload_n 1, 1) := by decide +kernel
theorem dX12_init_368 : decode cX12_init 368 = .ok (.iadd, 1) := by decide +kernel
theorem dX12_init_369 : decode cX12_init 369 = .ok (.iconst (-1), 1) := by decide +kernel
theorem dX12_init_370 : decode cX12_init 370 = .ok (.iastore, 1) := by decide +kernel
theorem dX12_init_371 : decode cX12_init 371 = .ok (.iinc 1 1, 3) := by decide +kernel
theorem dX12_init_374 : decode cX12_init 374 = .ok (.goto (-18), 3) := by decide +kernel
theorem dX12_init_377 : decode cX12_init 377 = .ok (.return_, 1) := by decide +kernel
theorem dX12_isLetter_0 : decode cX12_isLetter 0 = .ok (.iload_n 0, 1) := by decide +kernel
theorem dX12_isLetter_1 : decode cX12_isLetter 1 = .ok (.bipush 97, 2) := by decide +kernel
theorem dX12_isLetter_3 : decode cX12_isLetter 3 = .ok (.if_icmp .lt 13, 3) := by decide +kernel
theorem dX12_isLetter_6 : decode cX12_isLetter 6 = .ok (.iload_n 0, 1) := by decide +kernel
theorem dX12_isLetter_7 : decode cX12_isLetter 7 = .ok (.bipush 122, 2) := by decide +kernel
theorem dX12_isLetter_9 : decode cX12_isLetter 9 = .ok (.if_icmp .gt 7, 3) := by decide +kernel
theorem dX12_isLetter_12 : decode cX12_isLetter 12 = .ok (.iconst 1, 1) := by decide +kernel
theorem dX12_isLetter_13 : decode cX12_isLetter 13 = .ok (.goto 4, 3) := by decide +kernel
theorem dX12_isLetter_16 : decode cX12_isLetter 16 = .ok (.iconst 0, 1) := by decide +kernel
theorem dX12_isLetter_17 : decode cX12_isLetter 17 = .ok (.ireturn, 1) := by decide +kernel
theorem dX12_isDigit_0 : decode cX12_isDigit 0 = .ok (.iload_n 0, 1) := by decide +kernel
theorem dX12_isDigit_1 : decode cX12_isDigit 1 = .ok (.bipush 48, 2) := by decide +kernel
theorem dX12_isDigit_3 : decode cX12_isDigit 3 = .ok (.if_icmp .lt 13, 3) := by decide +kernel
theorem dX12_isDigit_6 : decode cX12_isDigit 6 = .ok (.iload_n 0, 1) := by decide +kernel
theorem dX12_isDigit_7 : decode cX12_isDigit 7 = .ok (.bipush 57, 2) := by decide +kernel
theorem dX12_isDigit_9 : decode cX12_isDigit 9 = .ok (.if_icmp .gt 7, 3) := by decide +kernel
theorem dX12_isDigit_12 : decode cX12_isDigit 12 = .ok (.iconst 1, 1) := by decide +kernel
theorem dX12_isDigit_13 : decode cX12_isDigit 13 = .ok (.goto 4, 3) := by decide +kernel
theorem dX12_isDigit_16 : decode cX12_isDigit 16 = .ok (.iconst 0, 1) := by decide +kernel
theorem dX12_isDigit_17 : decode cX12_isDigit 17 = .ok (.ireturn, 1) := by decide +kernel
theorem dX12_rank_0 : decode cX12_rank 0 = .ok (.iload_n 0, 1) := by decide +kernel
theorem dX12_rank_1 : decode cX12_rank 1 = .ok (.invokestatic 133, 3) := by decide +kernel
theorem dX12_rank_4 : decode cX12_rank 4 = .ok (.ifCond .eq 10, 3) := by decide +kernel
theorem dX12_rank_7 : decode cX12_rank 7 = .ok (.iload_n 0, 1) := by decide +kernel
theorem dX12_rank_8 : decode cX12_rank 8 = .ok (.bipush 96, 2) := by decide +kernel
theorem dX12_rank_10 : decode cX12_rank 10 = .ok (.isub, 1) := by decide +kernel
theorem dX12_rank_11 : decode cX12_rank 11 = .ok (.goto 7, 3) := by decide +kernel
theorem dX12_rank_14 : decode cX12_rank 14 = .ok (.iload_n 0, 1) := by decide +kernel
theorem dX12_rank_15 : decode cX12_rank 15 = .ok (.bipush 21, 2) := by decide +kernel
theorem dX12_rank_17 : decode cX12_rank 17 = .ok (.isub, 1) := by decide +kernel
theorem dX12_rank_18 : decode cX12_rank 18 = .ok (.ireturn, 1) := by decide +kernel
theorem dX12_isSignOf_0 : decode cX12_isSignOf 0 = .ok (.iload_n 0, 1) := by decide +kernel
theorem dX12_isSignOf_1 : decode cX12_isSignOf 1 = .ok (.bipush 40, 2) := by decide +kernel
theorem dX12_isSignOf_3 : decode cX12_isSignOf 3 = .ok (.if_icmp .eq 45, 3) := by decide +kernel
theorem dX12_isSignOf_6 : decode cX12_isSignOf 6 = .ok (.iload_n 0, 1) := by decide +kernel
theorem dX12_isSignOf_7 : decode cX12_isSignOf 7 = .ok (.bipush 41, 2) := by decide +kernel
theorem dX12_isSignOf_9 : decode cX12_isSignOf 9 = .ok (.if_icmp .eq 39, 3) := by decide +kernel
theorem dX12_isSignOf_12 : decode cX12_isSignOf 12 = .ok (.iload_n 0, 1) := by decide +kernel
theorem dX12_isSignOf_13 : decode cX12_isSignOf 13 = .ok (.bipush 59, 2) := by decide +kernel
theorem dX12_isSignOf_15 : decode cX12_isSignOf 15 = .ok (.if_icmp .eq 33, 3) := by decide +kernel
theorem dX12_isSignOf_18 : decode cX12_isSignOf 18 = .ok (.iload_n 0, 1) := by decide +kernel
theorem dX12_isSignOf_19 : decode cX12_isSignOf 19 = .ok (.bipush 61, 2) := by decide +kernel
theorem dX12_isSignOf_21 : decode cX12_isSignOf 21 = .ok (.if_icmp .eq 27, 3) := by decide +kernel
theorem dX12_isSignOf_24 : decode cX12_isSignOf 24 = .ok (.iload_n 0, 1) := by decide +kernel
theorem dX12_isSignOf_25 : decode cX12_isSignOf 25 = .ok (.bipush 60, 2) := by decide +kernel
theorem dX12_isSignOf_27 : decode cX12_isSignOf 27 = .ok (.if_icmp .eq 21, 3) := by decide +kernel
theorem dX12_isSignOf_30 : decode cX12_isSignOf 30 = .ok (.iload_n 0, 1) := by decide +kernel
theorem dX12_isSignOf_31 : decode cX12_isSignOf 31 = .ok (.bipush 43, 2) := by decide +kernel
theorem dX12_isSignOf_33 : decode cX12_isSignOf 33 = .ok (.if_icmp .eq 15, 3) := by decide +kernel
theorem dX12_isSignOf_36 : decode cX12_isSignOf 36 = .ok (.iload_n 0, 1) := by decide +kernel
theorem dX12_isSignOf_37 : decode cX12_isSignOf 37 = .ok (.bipush 45, 2) := by decide +kernel
theorem dX12_isSignOf_39 : decode cX12_isSignOf 39 = .ok (.if_icmp .eq 9, 3) := by decide +kernel
theorem dX12_isSignOf_42 : decode cX12_isSignOf 42 = .ok (.iload_n 0, 1) := by decide +kernel
theorem dX12_isSignOf_43 : decode cX12_isSignOf 43 = .ok (.bipush 42, 2) := by decide +kernel
theorem dX12_isSignOf_45 : decode cX12_isSignOf 45 = .ok (.if_icmp .ne 7, 3) := by decide +kernel
theorem dX12_isSignOf_48 : decode cX12_isSignOf 48 = .ok (.iconst 1, 1) := by decide +kernel
theorem dX12_isSignOf_49 : decode cX12_isSignOf 49 = .ok (.goto 4, 3) := by decide +kernel
theorem dX12_isSignOf_52 : decode cX12_isSignOf 52 = .ok (.iconst 0, 1) := by decide +kernel
theorem dX12_isSignOf_53 : decode cX12_isSignOf 53 = .ok (.ireturn, 1) := by decide +kernel
theorem dX12_cutAll_0 : decode cX12_cutAll 0 = .ok (.aload_n 0, 1) := by decide +kernel
theorem dX12_cutAll_1 : decode cX12_cutAll 1 = .ok (.aload_n 0, 1) := by decide +kernel
theorem dX12_cutAll_2 : decode cX12_cutAll 2 = .ok (.getfield 11, 3) := by decide +kernel
theorem dX12_cutAll_5 : decode cX12_cutAll 5 = .ok (.putfield 137, 3) := by decide +kernel
theorem dX12_cutAll_8 : decode cX12_cutAll 8 = .ok (.aload_n 0, 1) := by decide +kernel
theorem dX12_cutAll_9 : decode cX12_cutAll 9 = .ok (.iconst 0, 1) := by decide +kernel
theorem dX12_cutAll_10 : decode cX12_cutAll 10 = .ok (.putfield 11, 3) := by decide +kernel
theorem dX12_cutAll_13 : decode cX12_cutAll 13 = .ok (.iconst 0, 1) := by decide +kernel
theorem dX12_cutAll_14 : decode cX12_cutAll 14 = .ok (.istore_n 1, 1) := by decide +kernel
theorem dX12_cutAll_15 : decode cX12_cutAll 15 = .ok (.iconst 0, 1) := by decide +kernel
theorem dX12_cutAll_16 : decode cX12_cutAll 16 = .ok (.istore_n 2, 1) := by decide +kernel
theorem dX12_cutAll_17 : decode cX12_cutAll 17 = .ok (.iload_n 2, 1) := by decide +kernel
theorem dX12_cutAll_18 : decode cX12_cutAll 18 = .ok (.aload_n 0, 1) := by decide +kernel
theorem dX12_cutAll_19 : decode cX12_cutAll 19 = .ok (.getfield 137, 3) := by decide +kernel
theorem dX12_cutAll_22 : decode cX12_cutAll 22 = .ok (.if_icmp .ge 257, 3) := by decide +kernel
theorem dX12_cutAll_25 : decode cX12_cutAll 25 = .ok (.aload_n 0, 1) := by decide +kernel
theorem dX12_cutAll_26 : decode cX12_cutAll 26 = .ok (.getfield 14, 3) := by decide +kernel
theorem dX12_cutAll_29 : decode cX12_cutAll 29 = .ok (.iload_n 2, 1) := by decide +kernel
theorem dX12_cutAll_30 : decode cX12_cutAll 30 = .ok (.iaload, 1) := by decide +kernel
theorem dX12_cutAll_31 : decode cX12_cutAll 31 = .ok (.istore_n 3, 1) := by decide +kernel
theorem dX12_cutAll_32 : decode cX12_cutAll 32 = .ok (.iload_n 3, 1) := by decide +kernel
theorem dX12_cutAll_33 : decode cX12_cutAll 33 = .ok (.bipush 10, 2) := by decide +kernel
theorem dX12_cutAll_35 : decode cX12_cutAll 35 = .ok (.if_icmp .eq 9, 3) := by decide +kernel
theorem dX12_cutAll_38 : decode cX12_cutAll 38 = .ok (.iload_n 3, 1) := by decide +kernel
theorem dX12_cutAll_39 : decode cX12_cutAll 39 = .ok (.bipush 32, 2) := by decide +kernel
theorem dX12_cutAll_41 : decode cX12_cutAll 41 = .ok (.if_icmp .ne 9, 3) := by decide +kernel
theorem dX12_cutAll_44 : decode cX12_cutAll 44 = .ok (.iinc 2 1, 3) := by decide +kernel
theorem dX12_cutAll_47 : decode cX12_cutAll 47 = .ok (.goto (-30), 3) := by decide +kernel
theorem dX12_cutAll_50 : decode cX12_cutAll 50 = .ok (.iload_n 2, 1) := by decide +kernel
theorem dX12_cutAll_51 : decode cX12_cutAll 51 = .ok (.istore 4, 2) := by decide +kernel
theorem dX12_cutAll_53 : decode cX12_cutAll 53 = .ok (.lconst 0, 1) := by decide +kernel
theorem dX12_cutAll_54 : decode cX12_cutAll 54 = .ok (.lstore 5, 2) := by decide +kernel
theorem dX12_cutAll_56 : decode cX12_cutAll 56 = .ok (.aload_n 0, 1) := by decide +kernel
theorem dX12_cutAll_57 : decode cX12_cutAll 57 = .ok (.getfield 27, 3) := by decide +kernel
theorem dX12_cutAll_60 : decode cX12_cutAll 60 = .ok (.iload_n 1, 1) := by decide +kernel
theorem dX12_cutAll_61 : decode cX12_cutAll 61 = .ok (.iload_n 2, 1) := by decide +kernel
theorem dX12_cutAll_62 : decode cX12_cutAll 62 = .ok (.iastore, 1) := by decide +kernel
theorem dX12_cutAll_63 : decode cX12_cutAll 63 = .ok (.iload_n 3, 1) := by decide +kernel
theorem dX12_cutAll_64 : decode cX12_cutAll 64 = .ok (.invokestatic 133, 3) := by decide +kernel
theorem dX12_cutAll_67 : decode cX12_cutAll 67 = .ok (.ifCond .eq 85, 3) := by decide +kernel
theorem dX12_cutAll_70 : decode cX12_cutAll 70 = .ok (.iload_n 2, 1) := by decide +kernel
theorem dX12_cutAll_71 : decode cX12_cutAll 71 = .ok (.aload_n 0, 1) := by decide +kernel
theorem dX12_cutAll_72 : decode cX12_cutAll 72 = .ok (.getfield 137, 3) := by decide +kernel
theorem dX12_cutAll_75 : decode cX12_cutAll 75 = .ok (.if_icmp .ge 54, 3) := by decide +kernel
theorem dX12_cutAll_78 : decode cX12_cutAll 78 = .ok (.aload_n 0, 1) := by decide +kernel
theorem dX12_cutAll_79 : decode cX12_cutAll 79 = .ok (.getfield 14, 3) := by decide +kernel
theorem dX12_cutAll_82 : decode cX12_cutAll 82 = .ok (.iload_n 2, 1) := by decide +kernel
theorem dX12_cutAll_83 : decode cX12_cutAll 83 = .ok (.iaload, 1) := by decide +kernel
theorem dX12_cutAll_84 : decode cX12_cutAll 84 = .ok (.invokestatic 133, 3) := by decide +kernel
theorem dX12_cutAll_87 : decode cX12_cutAll 87 = .ok (.ifCond .eq 42, 3) := by decide +kernel
theorem dX12_cutAll_90 : decode cX12_cutAll 90 = .ok (.iload_n 2, 1) := by decide +kernel
theorem dX12_cutAll_91 : decode cX12_cutAll 91 = .ok (.iload 4, 2) := by decide +kernel
theorem dX12_cutAll_93 : decode cX12_cutAll 93 = .ok (.isub, 1) := by decide +kernel
theorem dX12_cutAll_94 : decode cX12_cutAll 94 = .ok (.bipush 8, 2) := by decide +kernel
theorem dX12_cutAll_96 : decode cX12_cutAll 96 = .ok (.if_icmp .ge 23, 3) := by decide +kernel
theorem dX12_cutAll_99 : decode cX12_cutAll 99 = .ok (.ldc2_w 140, 3) := by decide +kernel
theorem dX12_cutAll_102 : decode cX12_cutAll 102 = .ok (.lload 5, 2) := by decide +kernel
theorem dX12_cutAll_104 : decode cX12_cutAll 104 = .ok (.lmul, 1) := by decide +kernel
theorem dX12_cutAll_105 : decode cX12_cutAll 105 = .ok (.aload_n 0, 1) := by decide +kernel
theorem dX12_cutAll_106 : decode cX12_cutAll 106 = .ok (.getfield 14, 3) := by decide +kernel
theorem dX12_cutAll_109 : decode cX12_cutAll 109 = .ok (.iload_n 2, 1) := by decide +kernel
theorem dX12_cutAll_110 : decode cX12_cutAll 110 = .ok (.iaload, 1) := by decide +kernel
theorem dX12_cutAll_111 : decode cX12_cutAll 111 = .ok (.invokestatic 142, 3) := by decide +kernel
theorem dX12_cutAll_114 : decode cX12_cutAll 114 = .ok (.i2l, 1) := by decide +kernel
theorem dX12_cutAll_115 : decode cX12_cutAll 115 = .ok (.ladd, 1) := by decide +kernel
theorem dX12_cutAll_116 : decode cX12_cutAll 116 = .ok (.goto 5, 3) := by decide +kernel
theorem dX12_cutAll_119 : decode cX12_cutAll 119 = .ok (.lload 5, 2) := by decide +kernel
theorem dX12_cutAll_121 : decode cX12_cutAll 121 = .ok (.lstore 5, 2) := by decide +kernel
theorem dX12_cutAll_123 : decode cX12_cutAll 123 = .ok (.iinc 2 1, 3) := by decide +kernel
theorem dX12_cutAll_126 : decode cX12_cutAll 126 = .ok (.goto (-56), 3) := by decide +kernel
theorem dX12_cutAll_129 : decode cX12_cutAll 129 = .ok (.aload_n 0, 1) := by decide +kernel
theorem dX12_cutAll_130 : decode cX12_cutAll 130 = .ok (.getfield 24, 3) := by decide +kernel
theorem dX12_cutAll_133 : decode cX12_cutAll 133 = .ok (.iload_n 1, 1) := by decide +kernel
theorem dX12_cutAll_134 : decode cX12_cutAll 134 = .ok (.iload_n 2, 1) := by decide +kernel
theorem dX12_cutAll_135 : decode cX12_cutAll 135 = .ok (.iload 4, 2) := by decide +kernel
theorem dX12_cutAll_137 : decode cX12_cutAll 137 = .ok (.isub, 1) := by decide +kernel
theorem dX12_cutAll_138 : decode cX12_cutAll 138 = .ok (.bipush 8, 2) := by decide +kernel
theorem dX12_cutAll_140 : decode cX12_cutAll 140 = .ok (.if_icmp .le 7, 3) := by decide +kernel
theorem dX12_cutAll_143 : decode cX12_cutAll 143 = .ok (.iconst 4, 1) := by decide +kernel
theorem dX12_cutAll_144 : decode cX12_cutAll 144 = .ok (.goto 4, 3) := by decide +kernel
theorem dX12_cutAll_147 : decode cX12_cutAll 147 = .ok (.iconst 1, 1) := by decide +kernel
theorem dX12_cutAll_148 : decode cX12_cutAll 148 = .ok (.iastore, 1) := by decide +kernel
theorem dX12_cutAll_149 : decode cX12_cutAll 149 = .ok (.goto 116, 3) := by decide +kernel
theorem dX12_cutAll_152 : decode cX12_cutAll 152 = .ok (.iload_n 3, 1) := by decide +kernel
theorem dX12_cutAll_153 : decode cX12_cutAll 153 = .ok (.invokestatic 146, 3) := by decide +kernel
theorem dX12_cutAll_156 : decode cX12_cutAll 156 = .ok (.ifCond .eq 84, 3) := by decide +kernel
theorem dX12_cutAll_159 : decode cX12_cutAll 159 = .ok (.iload_n 2, 1) := by decide +kernel
theorem dX12_cutAll_160 : decode cX12_cutAll 160 = .ok (.aload_n 0, 1) := by decide +kernel
theorem dX12_cutAll_161 : decode cX12_cutAll 161 = .ok (.getfield 137, 3) := by decide +kernel
theorem dX12_cutAll_164 : decode cX12_cutAll 164 = .ok (.if_icmp .ge 54, 3) := by decide +kernel
theorem dX12_cutAll_167 : decode cX12_cutAll 167 = .ok (.aload_n 0, 1) := by decide +kernel
theorem dX12_cutAll_168 : decode cX12_cutAll 168 = .ok (.getfield 14, 3) := by decide +kernel
theorem dX12_cutAll_171 : decode cX12_cutAll 171 = .ok (.iload_n 2, 1) := by decide +kernel
theorem dX12_cutAll_172 : decode cX12_cutAll 172 = .ok (.iaload, 1) := by decide +kernel
theorem dX12_cutAll_173 : decode cX12_cutAll 173 = .ok (.invokestatic 146, 3) := by decide +kernel
theorem dX12_cutAll_176 : decode cX12_cutAll 176 = .ok (.ifCond .eq 42, 3) := by decide +kernel
theorem dX12_cutAll_179 : decode cX12_cutAll 179 = .ok (.iload_n 2, 1) := by decide +kernel
theorem dX12_cutAll_180 : decode cX12_cutAll 180 = .ok (.iload 4, 2) := by decide +kernel
theorem dX12_cutAll_182 : decode cX12_cutAll 182 = .ok (.isub, 1) := by decide +kernel
theorem dX12_cutAll_183 : decode cX12_cutAll 183 = .ok (.iconst 4, 1) := by decide +kernel
theorem dX12_cutAll_184 : decode cX12_cutAll 184 = .ok (.if_icmp .ge 24, 3) := by decide +kernel
theorem dX12_cutAll_187 : decode cX12_cutAll 187 = .ok (.ldc2_w 149, 3) := by decide +kernel
theorem dX12_cutAll_190 : decode cX12_cutAll 190 = .ok (.lload 5, 2) := by decide +kernel
theorem dX12_cutAll_192 : decode cX12_cutAll 192 = .ok (.lmul, 1) := by decide +kernel
theorem dX12_cutAll_193 : decode cX12_cutAll 193 = .ok (.aload_n 0, 1) := by decide +kernel
theorem dX12_cutAll_194 : decode cX12_cutAll 194 = .ok (.getfield 14, 3) := by decide +kernel
theorem dX12_cutAll_197 : decode cX12_cutAll 197 = .ok (.iload_n 2, 1) := by decide +kernel
theorem dX12_cutAll_198 : decode cX12_cutAll 198 = .ok (.iaload, 1) := by decide +kernel
theorem dX12_cutAll_199 : decode cX12_cutAll 199 = .ok (.i2l, 1) := by decide +kernel
theorem dX12_cutAll_200 : decode cX12_cutAll 200 = .ok (.ladd, 1) := by decide +kernel
theorem dX12_cutAll_201 : decode cX12_cutAll 201 = .ok (.ldc2_w 151, 3) := by decide +kernel
theorem dX12_cutAll_204 : decode cX12_cutAll 204 = .ok (.lsub, 1) := by decide +kernel
theorem dX12_cutAll_205 : decode cX12_cutAll 205 = .ok (.goto 5, 3) := by decide +kernel
theorem dX12_cutAll_208 : decode cX12_cutAll 208 = .ok (.lload 5, 2) := by decide +kernel
theorem dX12_cutAll_210 : decode cX12_cutAll 210 = .ok (.lstore 5, 2) := by decide +kernel
theorem dX12_cutAll_212 : decode cX12_cutAll 212 = .ok (.iinc 2 1, 3) := by decide +kernel
theorem dX12_cutAll_215 : decode cX12_cutAll 215 = .ok (.goto (-56), 3) := by decide +kernel
theorem dX12_cutAll_218 : decode cX12_cutAll 218 = .ok (.aload_n 0, 1) := by decide +kernel
theorem dX12_cutAll_219 : decode cX12_cutAll 219 = .ok (.getfield 24, 3) := by decide +kernel
theorem dX12_cutAll_222 : decode cX12_cutAll 222 = .ok (.iload_n 1, 1) := by decide +kernel
theorem dX12_cutAll_223 : decode cX12_cutAll 223 = .ok (.iload_n 2, 1) := by decide +kernel
theorem dX12_cutAll_224 : decode cX12_cutAll 224 = .ok (.iload 4, 2) := by decide +kernel
theorem dX12_cutAll_226 : decode cX12_cutAll 226 = .ok (.isub, 1) := by decide +kernel
theorem dX12_cutAll_227 : decode cX12_cutAll 227 = .ok (.iconst 4, 1) := by decide +kernel
theorem dX12_cutAll_228 : decode cX12_cutAll 228 = .ok (.if_icmp .le 7, 3) := by decide +kernel
theorem dX12_cutAll_231 : decode cX12_cutAll 231 = .ok (.iconst 4, 1) := by decide +kernel
theorem dX12_cutAll_232 : decode cX12_cutAll 232 = .ok (.goto 4, 3) := by decide +kernel
theorem dX12_cutAll_235 : decode cX12_cutAll 235 = .ok (.iconst 2, 1) := by decide +kernel
theorem dX12_cutAll_236 : decode cX12_cutAll 236 = .ok (.iastore, 1) := by decide +kernel
theorem dX12_cutAll_237 : decode cX12_cutAll 237 = .ok (.goto 28, 3) := by decide +kernel
theorem dX12_cutAll_240 : decode cX12_cutAll 240 = .ok (.iload_n 3, 1) := by decide +kernel
theorem dX12_cutAll_241 : decode cX12_cutAll 241 = .ok (.i2l, 1) := by decide +kernel
theorem dX12_cutAll_242 : decode cX12_cutAll 242 = .ok (.lstore 5, 2) := by decide +kernel
theorem dX12_cutAll_244 : decode cX12_cutAll 244 = .ok (.aload_n 0, 1) := by decide +kernel
theorem dX12_cutAll_245 : decode cX12_cutAll 245 = .ok (.getfield 24, 3) := by decide +kernel
theorem dX12_cutAll_248 : decode cX12_cutAll 248 = .ok (.iload_n 1, 1) := by decide +kernel
theorem dX12_cutAll_249 : decode cX12_cutAll 249 = .ok (.iload_n 3, 1) := by decide +kernel
theorem dX12_cutAll_250 : decode cX12_cutAll 250 = .ok (.invokestatic 153, 3) := by decide +kernel
theorem dX12_cutAll_253 : decode cX12_cutAll 253 = .ok (.ifCond .eq 7, 3) := by decide +kernel
theorem dX12_cutAll_256 : decode cX12_cutAll 256 = .ok (.iconst 3, 1) := by decide +kernel
theorem dX12_cutAll_257 : decode cX12_cutAll 257 = .ok (.goto 4, 3) := by decide +kernel
theorem dX12_cutAll_260 : decode cX12_cutAll 260 = .ok (.iconst 4, 1) := by decide +kernel
theorem dX12_cutAll_261 : decode cX12_cutAll 261 = .ok (.iastore, 1) := by decide +kernel
theorem dX12_cutAll_262 : decode cX12_cutAll 262 = .ok (.iinc 2 1, 3) := by decide +kernel
theorem dX12_cutAll_265 : decode cX12_cutAll 265 = .ok (.aload_n 0, 1) := by decide +kernel
theorem dX12_cutAll_266 : decode cX12_cutAll 266 = .ok (.getfield 30, 3) := by decide +kernel
theorem dX12_cutAll_269 : decode cX12_cutAll 269 = .ok (.iload_n 1, 1) := by decide +kernel
theorem dX12_cutAll_270 : decode cX12_cutAll 270 = .ok (.lload 5, 2) := by decide +kernel
theorem dX12_cutAll_272 : decode cX12_cutAll 272 = .ok (.lastore, 1) := by decide +kernel
theorem dX12_cutAll_273 : decode cX12_cutAll 273 = .ok (.iinc 1 1, 3) := by decide +kernel
theorem dX12_cutAll_276 : decode cX12_cutAll 276 = .ok (.goto (-259), 3) := by decide +kernel
theorem dX12_cutAll_279 : decode cX12_cutAll 279 = .ok (.aload_n 0, 1) := by decide +kernel
theorem dX12_cutAll_280 : decode cX12_cutAll 280 = .ok (.getfield 24, 3) := by decide +kernel
theorem dX12_cutAll_283 : decode cX12_cutAll 283 = .ok (.iload_n 1, 1) := by decide +kernel
theorem dX12_cutAll_284 : decode cX12_cutAll 284 = .ok (.iconst 0, 1) := by decide +kernel
theorem dX12_cutAll_285 : decode cX12_cutAll 285 = .ok (.iastore, 1) := by decide +kernel
theorem dX12_cutAll_286 : decode cX12_cutAll 286 = .ok (.aload_n 0, 1) := by decide +kernel
theorem dX12_cutAll_287 : decode cX12_cutAll 287 = .ok (.getfield 27, 3) := by decide +kernel
theorem dX12_cutAll_290 : decode cX12_cutAll 290 = .ok (.iload_n 1, 1) := by decide +kernel
theorem dX12_cutAll_291 : decode cX12_cutAll 291 = .ok (.aload_n 0, 1) := by decide +kernel
theorem dX12_cutAll_292 : decode cX12_cutAll 292 = .ok (.getfield 137, 3) := by decide +kernel
theorem dX12_cutAll_295 : decode cX12_cutAll 295 = .ok (.iastore, 1) := by decide +kernel
theorem dX12_cutAll_296 : decode cX12_cutAll 296 = .ok (.aload_n 0, 1) := by decide +kernel
theorem dX12_cutAll_297 : decode cX12_cutAll 297 = .ok (.iconst 0, 1) := by decide +kernel
theorem dX12_cutAll_298 : decode cX12_cutAll 298 = .ok (.putfield 156, 3) := by decide +kernel
theorem dX12_cutAll_301 : decode cX12_cutAll 301 = .ok (.aload_n 0, 1) := by decide +kernel
theorem dX12_cutAll_302 : decode cX12_cutAll 302 = .ok (.iconst 0, 1) := by decide +kernel
theorem dX12_cutAll_303 : decode cX12_cutAll 303 = .ok (.putfield 159, 3) := by decide +kernel
theorem dX12_cutAll_306 : decode cX12_cutAll 306 = .ok (.return_, 1) := by decide +kernel
theorem dX12_wrong_0 : decode cX12_wrong 0 = .ok (.aload_n 0, 1) := by decide +kernel
theorem dX12_wrong_1 : decode cX12_wrong 1 = .ok (.getfield 159, 3) := by decide +kernel
theorem dX12_wrong_4 : decode cX12_wrong 4 = .ok (.ifCond .ne 21, 3) := by decide +kernel
theorem dX12_wrong_7 : decode cX12_wrong 7 = .ok (.aload_n 0, 1) := by decide +kernel
theorem dX12_wrong_8 : decode cX12_wrong 8 = .ok (.iload_n 1, 1) := by decide +kernel
theorem dX12_wrong_9 : decode cX12_wrong 9 = .ok (.bipush 16, 2) := by decide +kernel
theorem dX12_wrong_11 : decode cX12_wrong 11 = .ok (.aload_n 0, 1) := by decide +kernel
theorem dX12_wrong_12 : decode cX12_wrong 12 = .ok (.getfield 27, 3) := by decide +kernel
theorem dX12_wrong_15 : decode cX12_wrong 15 = .ok (.aload_n 0, 1) := by decide +kernel
theorem dX12_wrong_16 : decode cX12_wrong 16 = .ok (.getfield 156, 3) := by decide +kernel
theorem dX12_wrong_19 : decode cX12_wrong 19 = .ok (.iaload, 1) := by decide +kernel
theorem dX12_wrong_20 : decode cX12_wrong 20 = .ok (.imul, 1) := by decide +kernel
theorem dX12_wrong_21 : decode cX12_wrong 21 = .ok (.iadd, 1) := by decide +kernel
theorem dX12_wrong_22 : decode cX12_wrong 22 = .ok (.putfield 159, 3) := by decide +kernel
theorem dX12_wrong_25 : decode cX12_wrong 25 = .ok (.return_, 1) := by decide +kernel
theorem dX12_isSign_0 : decode cX12_isSign 0 = .ok (.aload_n 0, 1) := by decide +kernel
theorem dX12_isSign_1 : decode cX12_isSign 1 = .ok (.getfield 159, 3) := by decide +kernel
theorem dX12_isSign_4 : decode cX12_isSign 4 = .ok (.ifCond .ne 35, 3) := by decide +kernel
theorem dX12_isSign_7 : decode cX12_isSign 7 = .ok (.aload_n 0, 1) := by decide +kernel
theorem dX12_isSign_8 : decode cX12_isSign 8 = .ok (.getfield 24, 3) := by decide +kernel
theorem dX12_isSign_11 : decode cX12_isSign 11 = .ok (.aload_n 0, 1) := by decide +kernel
theorem dX12_isSign_12 : decode cX12_isSign 12 = .ok (.getfield 156, 3) := by decide +kernel
theorem dX12_isSign_15 : decode cX12_isSign 15 = .ok (.iaload, 1) := by decide +kernel
theorem dX12_isSign_16 : decode cX12_isSign 16 = .ok (.iconst 3, 1) := by decide +kernel
theorem dX12_isSign_17 : decode cX12_isSign 17 = .ok (.if_icmp .ne 22, 3) := by decide +kernel
theorem dX12_isSign_20 : decode cX12_isSign 20 = .ok (.aload_n 0, 1) := by decide +kernel
theorem dX12_isSign_21 : decode cX12_isSign 21 = .ok (.getfield 30, 3) := by decide +kernel
theorem dX12_isSign_24 : decode cX12_isSign 24 = .ok (.aload_n 0, 1) := by decide +kernel
theorem dX12_isSign_25 : decode cX12_isSign 25 = .ok (.getfield 156, 3) := by decide +kernel
theorem dX12_isSign_28 : decode cX12_isSign 28 = .ok (.laload, 1) := by decide +kernel
theorem dX12_isSign_29 : decode cX12_isSign 29 = .ok (.iload_n 1, 1) := by decide +kernel
theorem dX12_isSign_30 : decode cX12_isSign 30 = .ok (.i2l, 1) := by decide +kernel
theorem dX12_isSign_31 : decode cX12_isSign 31 = .ok (.lcmp, 1) := by decide +kernel
theorem dX12_isSign_32 : decode cX12_isSign 32 = .ok (.ifCond .ne 7, 3) := by decide +kernel
theorem dX12_isSign_35 : decode cX12_isSign 35 = .ok (.iconst 1, 1) := by decide +kernel
theorem dX12_isSign_36 : decode cX12_isSign 36 = .ok (.goto 4, 3) := by decide +kernel
theorem dX12_isSign_39 : decode cX12_isSign 39 = .ok (.iconst 0, 1) := by decide +kernel
theorem dX12_isSign_40 : decode cX12_isSign 40 = .ok (.ireturn, 1) := by decide +kernel
theorem dX12_isWord_0 : decode cX12_isWord 0 = .ok (.aload_n 0, 1) := by decide +kernel
theorem dX12_isWord_1 : decode cX12_isWord 1 = .ok (.getfield 159, 3) := by decide +kernel
theorem dX12_isWord_4 : decode cX12_isWord 4 = .ok (.ifCond .ne 39, 3) := by decide +kernel
theorem dX12_isWord_7 : decode cX12_isWord 7 = .ok (.aload_n 0, 1) := by decide +kernel
theorem dX12_isWord_8 : decode cX12_isWord 8 = .ok (.getfield 24, 3) := by decide +kernel
theorem dX12_isWord_11 : decode cX12_isWord 11 = .ok (.aload_n 0, 1) := by decide +kernel
theorem dX12_isWord_12 : decode cX12_isWord 12 = .ok (.getfield 156, 3) := by decide +kernel
theorem dX12_isWord_15 : decode cX12_isWord 15 = .ok (.iaload, 1) := by decide +kernel
theorem dX12_isWord_16 : decode cX12_isWord 16 = .ok (.iconst 1, 1) := by decide +kernel
theorem dX12_isWord_17 : decode cX12_isWord 17 = .ok (.if_icmp .ne 26, 3) := by decide +kernel
theorem dX12_isWord_20 : decode cX12_isWord 20 = .ok (.aload_n 0, 1) := by decide +kernel
theorem dX12_isWord_21 : decode cX12_isWord 21 = .ok (.getfield 30, 3) := by decide +kernel
theorem dX12_isWord_24 : decode cX12_isWord 24 = .ok (.aload_n 0, 1) := by decide +kernel
theorem dX12_isWord_25 : decode cX12_isWord 25 = .ok (.getfield 156, 3) := by decide +kernel
theorem dX12_isWord_28 : decode cX12_isWord 28 = .ok (.laload, 1) := by decide +kernel
theorem dX12_isWord_29 : decode cX12_isWord 29 = .ok (.aload_n 0, 1) := by decide +kernel
theorem dX12_isWord_30 : decode cX12_isWord 30 = .ok (.getfield 78, 3) := by decide +kernel
theorem dX12_isWord_33 : decode cX12_isWord 33 = .ok (.iload_n 1, 1) := by decide +kernel
theorem dX12_isWord_34 : decode cX12_isWord 34 = .ok (.laload, 1) := by decide +kernel
theorem dX12_isWord_35 : decode cX12_isWord 35 = .ok (.lcmp, 1) := by decide +kernel
theorem dX12_isWord_36 : decode cX12_isWord 36 = .ok (.ifCond .ne 7, 3) := by decide +kernel
theorem dX12_isWord_39 : decode cX12_isWord 39 = .ok (.iconst 1, 1) := by decide +kernel
theorem dX12_isWord_40 : decode cX12_isWord 40 = .ok (.goto 4, 3) := by decide +kernel
theorem dX12_isWord_43 : decode cX12_isWord 43 = .ok (.iconst 0, 1) := by decide +kernel
theorem dX12_isWord_44 : decode cX12_isWord 44 = .ok (.ireturn, 1) := by decide +kernel
theorem dX12_takeSign_0 : decode cX12_takeSign 0 = .ok (.aload_n 0, 1) := by decide +kernel
theorem dX12_takeSign_1 : decode cX12_takeSign 1 = .ok (.iload_n 1, 1) := by decide +kernel
theorem dX12_takeSign_2 : decode cX12_takeSign 2 = .ok (.invokevirtual 162, 3) := by decide +kernel
theorem dX12_takeSign_5 : decode cX12_takeSign 5 = .ok (.ifCond .eq 16, 3) := by decide +kernel
theorem dX12_takeSign_8 : decode cX12_takeSign 8 = .ok (.aload_n 0, 1) := by decide +kernel
theorem dX12_takeSign_9 : decode cX12_takeSign 9 = .ok (.dup, 1) := by decide +kernel
theorem dX12_takeSign_10 : decode cX12_takeSign 10 = .ok (.getfield 156, 3) := by decide +kernel
theorem dX12_takeSign_13 : decode cX12_takeSign 13 = .ok (.iconst 1, 1) := by decide +kernel
theorem dX12_takeSign_14 : decode cX12_takeSign 14 = .ok (.iadd, 1) := by decide +kernel
theorem dX12_takeSign_15 : decode cX12_takeSign 15 = .ok (.putfield 156, 3) := by decide +kernel
theorem dX12_takeSign_18 : decode cX12_takeSign 18 = .ok (.goto 8, 3) := by decide +kernel
theorem dX12_takeSign_21 : decode cX12_takeSign 21 = .ok (.aload_n 0, 1) := by decide +kernel
theorem dX12_takeSign_22 : decode cX12_takeSign 22 = .ok (.iconst 1, 1) := by decide +kernel
theorem dX12_takeSign_23 : decode cX12_takeSign 23 = .ok (.invokevirtual 165, 3) := by decide +kernel
theorem dX12_takeSign_26 : decode cX12_takeSign 26 = .ok (.return_, 1) := by decide +kernel
theorem dX12_hasSign_0 : decode cX12_hasSign 0 = .ok (.aload_n 0, 1) := by decide +kernel
theorem dX12_hasSign_1 : decode cX12_hasSign 1 = .ok (.iload_n 1, 1) := by decide +kernel
theorem dX12_hasSign_2 : decode cX12_hasSign 2 = .ok (.invokevirtual 162, 3) := by decide +kernel
theorem dX12_hasSign_5 : decode cX12_hasSign 5 = .ok (.istore_n 2, 1) := by decide +kernel
theorem dX12_hasSign_6 : decode cX12_hasSign 6 = .ok (.aload_n 0, 1) := by decide +kernel
theorem dX12_hasSign_7 : decode cX12_hasSign 7 = .ok (.dup, 1) := by decide +kernel
theorem dX12_hasSign_8 : decode cX12_hasSign 8 = .ok (.getfield 156, 3) := by decide +kernel
theorem dX12_hasSign_11 : decode cX12_hasSign 11 = .ok (.iload_n 2, 1) := by decide +kernel
theorem dX12_hasSign_12 : decode cX12_hasSign 12 = .ok (.ifCond .eq 7, 3) := by decide +kernel
theorem dX12_hasSign_15 : decode cX12_hasSign 15 = .ok (.iconst 1, 1) := by decide +kernel
theorem dX12_hasSign_16 : decode cX12_hasSign 16 = .ok (.goto 4, 3) := by decide +kernel
theorem dX12_hasSign_19 : decode cX12_hasSign 19 = .ok (.iconst 0, 1) := by decide +kernel
theorem dX12_hasSign_20 : decode cX12_hasSign 20 = .ok (.iadd, 1) := by decide +kernel
theorem dX12_hasSign_21 : decode cX12_hasSign 21 = .ok (.putfield 156, 3) := by decide +kernel
theorem dX12_hasSign_24 : decode cX12_hasSign 24 = .ok (.iload_n 2, 1) := by decide +kernel
theorem dX12_hasSign_25 : decode cX12_hasSign 25 = .ok (.ireturn, 1) := by decide +kernel
theorem dX12_hasWord_0 : decode cX12_hasWord 0 = .ok (.aload_n 0, 1) := by decide +kernel
theorem dX12_hasWord_1 : decode cX12_hasWord 1 = .ok (.iload_n 1, 1) := by decide +kernel
theorem dX12_hasWord_2 : decode cX12_hasWord 2 = .ok (.invokevirtual 169, 3) := by decide +kernel
theorem dX12_hasWord_5 : decode cX12_hasWord 5 = .ok (.istore_n 2, 1) := by decide +kernel
theorem dX12_hasWord_6 : decode cX12_hasWord 6 = .ok (.aload_n 0, 1) := by decide +kernel
theorem dX12_hasWord_7 : decode cX12_hasWord 7 = .ok (.dup, 1) := by decide +kernel
theorem dX12_hasWord_8 : decode cX12_hasWord 8 = .ok (.getfield 156, 3) := by decide +kernel
theorem dX12_hasWord_11 : decode cX12_hasWord 11 = .ok (.iload_n 2, 1) := by decide +kernel
theorem dX12_hasWord_12 : decode cX12_hasWord 12 = .ok (.ifCond .eq 7, 3) := by decide +kernel
theorem dX12_hasWord_15 : decode cX12_hasWord 15 = .ok (.iconst 1, 1) := by decide +kernel
theorem dX12_hasWord_16 : decode cX12_hasWord 16 = .ok (.goto 4, 3) := by decide +kernel
theorem dX12_hasWord_19 : decode cX12_hasWord 19 = .ok (.iconst 0, 1) := by decide +kernel
theorem dX12_hasWord_20 : decode cX12_hasWord 20 = .ok (.iadd, 1) := by decide +kernel
theorem dX12_hasWord_21 : decode cX12_hasWord 21 = .ok (.putfield 156, 3) := by decide +kernel
theorem dX12_hasWord_24 : decode cX12_hasWord 24 = .ok (.iload_n 2, 1) := by decide +kernel
theorem dX12_hasWord_25 : decode cX12_hasWord 25 = .ok (.ireturn, 1) := by decide +kernel
theorem dX12_takeWord_0 : decode cX12_takeWord 0 = .ok (.aload_n 0, 1) := by decide +kernel
theorem dX12_takeWord_1 : decode cX12_takeWord 1 = .ok (.iload_n 1, 1) := by decide +kernel
theorem dX12_takeWord_2 : decode cX12_takeWord 2 = .ok (.invokevirtual 172, 3) := by decide +kernel
theorem dX12_takeWord_5 : decode cX12_takeWord 5 = .ok (.ifCond .ne 8, 3) := by decide +kernel
theorem dX12_takeWord_8 : decode cX12_takeWord 8 = .ok (.aload_n 0, 1) := by decide +kernel
theorem dX12_takeWord_9 : decode cX12_takeWord 9 = .ok (.iconst 1, 1) := by decide +kernel
theorem dX12_takeWord_10 : decode cX12_takeWord 10 = .ok (.invokevirtual 165, 3) := by decide +kernel
theorem dX12_takeWord_13 : decode cX12_takeWord 13 = .ok (.return_, 1) := by decide +kernel
theorem dX12_within_0 : decode cX12_within 0 = .ok (.iload_n 0, 1) := by decide +kernel
theorem dX12_within_1 : decode cX12_within 1 = .ok (.iload_n 1, 1) := by decide +kernel
theorem dX12_within_2 : decode cX12_within 2 = .ok (.if_icmp .lt 12, 3) := by decide +kernel
theorem dX12_within_5 : decode cX12_within 5 = .ok (.iload_n 0, 1) := by decide +kernel
theorem dX12_within_6 : decode cX12_within 6 = .ok (.iload_n 2, 1) := by decide +kernel
theorem dX12_within_7 : decode cX12_within 7 = .ok (.if_icmp .gt 7, 3) := by decide +kernel
theorem dX12_within_10 : decode cX12_within 10 = .ok (.iconst 1, 1) := by decide +kernel
theorem dX12_within_11 : decode cX12_within 11 = .ok (.goto 4, 3) := by decide +kernel
theorem dX12_within_14 : decode cX12_within 14 = .ok (.iconst 0, 1) := by decide +kernel
theorem dX12_within_15 : decode cX12_within 15 = .ok (.ireturn, 1) := by decide +kernel
theorem dX12_takeNumber_0 : decode cX12_takeNumber 0 = .ok (.aload_n 0, 1) := by decide +kernel
theorem dX12_takeNumber_1 : decode cX12_takeNumber 1 = .ok (.getfield 159, 3) := by decide +kernel
theorem dX12_takeNumber_4 : decode cX12_takeNumber 4 = .ok (.ifCond .ne 24, 3) := by decide +kernel
theorem dX12_takeNumber_7 : decode cX12_takeNumber 7 = .ok (.aload_n 0, 1) := by decide +kernel
theorem dX12_takeNumber_8 : decode cX12_takeNumber 8 = .ok (.getfield 24, 3) := by decide +kernel
theorem dX12_takeNumber_11 : decode cX12_takeNumber 11 = .ok (.aload_n 0, 1) := by decide +kernel
theorem dX12_takeNumber_12 : decode cX12_takeNumber 12 = .ok (.getfield 156, 3) := by decide +kernel
theorem dX12_takeNumber_15 : decode cX12_takeNumber 15 = .ok (.iaload, 1) := by decide +kernel
theorem dX12_takeNumber_16 : decode cX12_takeNumber 16 = .ok (.iconst 2, 1) := by decide +kernel
theorem dX12_takeNumber_17 : decode cX12_takeNumber 17 = .ok (.if_icmp .eq 11, 3) := by decide +kernel
theorem dX12_takeNumber_20 : decode cX12_takeNumber 20 = .ok (.aload_n 0, 1) := by decide +kernel
theorem dX12_takeNumber_21 : decode cX12_takeNumber 21 = .ok (.iconst 1, 1) := by decide +kernel
theorem dX12_takeNumber_22 : decode cX12_takeNumber 22 = .ok (.invokevirtual 165, 3) := by decide +kernel
theorem dX12_takeNumber_25 : decode cX12_takeNumber 25 = .ok (.goto 45, 3) := by decide +kernel
theorem dX12_takeNumber_28 : decode cX12_takeNumber 28 = .ok (.aload_n 0, 1) := by decide +kernel
theorem dX12_takeNumber_29 : decode cX12_takeNumber 29 = .ok (.getfield 159, 3) := by decide +kernel
theorem dX12_takeNumber_32 : decode cX12_takeNumber 32 = .ok (.ifCond .ne 38, 3) := by decide +kernel
theorem dX12_takeNumber_35 : decode cX12_takeNumber 35 = .ok (.aload_n 0, 1) := by decide +kernel
theorem dX12_takeNumber_36 : decode cX12_takeNumber 36 = .ok (.getfield 30, 3) := by decide +kernel
theorem dX12_takeNumber_39 : decode cX12_takeNumber 39 = .ok (.aload_n 0, 1) := by decide +kernel
theorem dX12_takeNumber_40 : decode cX12_takeNumber 40 = .ok (.getfield 156, 3) := by decide +kernel
theorem dX12_takeNumber_43 : decode cX12_takeNumber 43 = .ok (.laload, 1) := by decide +kernel
theorem dX12_takeNumber_44 : decode cX12_takeNumber 44 = .ok (.iload_n 1, 1) := by decide +kernel
theorem dX12_takeNumber_45 : decode cX12_takeNumber 45 = .ok (.i2l, 1) := by decide +kernel
theorem dX12_takeNumber_46 : decode cX12_takeNumber 46 = .ok (.lcmp, 1) := by decide +kernel
theorem dX12_takeNumber_47 : decode cX12_takeNumber 47 = .ok (.ifCond .lt 18, 3) := by decide +kernel
theorem dX12_takeNumber_50 : decode cX12_takeNumber 50 = .ok (.aload_n 0, 1) := by decide +kernel
theorem dX12_takeNumber_51 : decode cX12_takeNumber 51 = .ok (.getfield 30, 3) := by decide +kernel
theorem dX12_takeNumber_54 : decode cX12_takeNumber 54 = .ok (.aload_n 0, 1) := by decide +kernel
theorem dX12_takeNumber_55 : decode cX12_takeNumber 55 = .ok (.getfield 156, 3) := by decide +kernel
theorem dX12_takeNumber_58 : decode cX12_takeNumber 58 = .ok (.laload, 1) := by decide +kernel
theorem dX12_takeNumber_59 : decode cX12_takeNumber 59 = .ok (.iload_n 2, 1) := by decide +kernel
theorem dX12_takeNumber_60 : decode cX12_takeNumber 60 = .ok (.i2l, 1) := by decide +kernel
theorem dX12_takeNumber_61 : decode cX12_takeNumber 61 = .ok (.lcmp, 1) := by decide +kernel
theorem dX12_takeNumber_62 : decode cX12_takeNumber 62 = .ok (.ifCond .le 8, 3) := by decide +kernel
theorem dX12_takeNumber_65 : decode cX12_takeNumber 65 = .ok (.aload_n 0, 1) := by decide +kernel
theorem dX12_takeNumber_66 : decode cX12_takeNumber 66 = .ok (.iconst 4, 1) := by decide +kernel
theorem dX12_takeNumber_67 : decode cX12_takeNumber 67 = .ok (.invokevirtual 165, 3) := by decide +kernel
theorem dX12_takeNumber_70 : decode cX12_takeNumber 70 = .ok (.aload_n 0, 1) := by decide +kernel
theorem dX12_takeNumber_71 : decode cX12_takeNumber 71 = .ok (.getfield 159, 3) := by decide +kernel
theorem dX12_takeNumber_74 : decode cX12_takeNumber 74 = .ok (.ifCond .le 5, 3) := by decide +kernel
theorem dX12_takeNumber_77 : decode cX12_takeNumber 77 = .ok (.iconst 0, 1) := by decide +kernel
theorem dX12_takeNumber_78 : decode cX12_takeNumber 78 = .ok (.ireturn, 1) := by decide +kernel
theorem dX12_takeNumber_79 : decode cX12_takeNumber 79 = .ok (.aload_n 0, 1) := by decide +kernel
theorem dX12_takeNumber_80 : decode cX12_takeNumber 80 = .ok (.dup, 1) := by decide +kernel
theorem dX12_takeNumber_81 : decode cX12_takeNumber 81 = .ok (.getfield 156, 3) := by decide +kernel
theorem dX12_takeNumber_84 : decode cX12_takeNumber 84 = .ok (.iconst 1, 1) := by decide +kernel
theorem dX12_takeNumber_85 : decode cX12_takeNumber 85 = .ok (.iadd, 1) := by decide +kernel
theorem dX12_takeNumber_86 : decode cX12_takeNumber 86 = .ok (.putfield 156, 3) := by decide +kernel
theorem dX12_takeNumber_89 : decode cX12_takeNumber 89 = .ok (.aload_n 0, 1) := by decide +kernel
theorem dX12_takeNumber_90 : decode cX12_takeNumber 90 = .ok (.getfield 30, 3) := by decide +kernel
theorem dX12_takeNumber_93 : decode cX12_takeNumber 93 = .ok (.aload_n 0, 1) := by decide +kernel
theorem dX12_takeNumber_94 : decode cX12_takeNumber 94 = .ok (.getfield 156, 3) := by decide +kernel
theorem dX12_takeNumber_97 : decode cX12_takeNumber 97 = .ok (.iconst 1, 1) := by decide +kernel
theorem dX12_takeNumber_98 : decode cX12_takeNumber 98 = .ok (.isub, 1) := by decide +kernel
theorem dX12_takeNumber_99 : decode cX12_takeNumber 99 = .ok (.laload, 1) := by decide +kernel
theorem dX12_takeNumber_100 : decode cX12_takeNumber 100 = .ok (.l2i, 1) := by decide +kernel
theorem dX12_takeNumber_101 : decode cX12_takeNumber 101 = .ok (.ireturn, 1) := by decide +kernel
theorem dX12_takeAfter_0 : decode cX12_takeAfter 0 = .ok (.aload_n 0, 1) := by decide +kernel
theorem dX12_takeAfter_1 : decode cX12_takeAfter 1 = .ok (.iload_n 1, 1) := by decide +kernel
theorem dX12_takeAfter_2 : decode cX12_takeAfter 2 = .ok (.invokevirtual 175, 3) := by decide +kernel
theorem dX12_takeAfter_5 : decode cX12_takeAfter 5 = .ok (.aload_n 0, 1) := by decide +kernel
theorem dX12_takeAfter_6 : decode cX12_takeAfter 6 = .ok (.iload_n 2, 1) := by decide +kernel
theorem dX12_takeAfter_7 : decode cX12_takeAfter 7 = .ok (.iload_n 3, 1) := by decide +kernel
theorem dX12_takeAfter_8 : decode cX12_takeAfter 8 = .ok (.invokevirtual 178, 3) := by decide +kernel
theorem dX12_takeAfter_11 : decode cX12_takeAfter 11 = .ok (.ireturn, 1) := by decide +kernel
theorem dX12_isName_0 : decode cX12_isName 0 = .ok (.aload_n 0, 1) := by decide +kernel
theorem dX12_isName_1 : decode cX12_isName 1 = .ok (.getfield 159, 3) := by decide +kernel
theorem dX12_isName_4 : decode cX12_isName 4 = .ok (.ifCond .ne 20, 3) := by decide +kernel
theorem dX12_isName_7 : decode cX12_isName 7 = .ok (.aload_n 0, 1) := by decide +kernel
theorem dX12_isName_8 : decode cX12_isName 8 = .ok (.getfield 24, 3) := by decide +kernel
theorem dX12_isName_11 : decode cX12_isName 11 = .ok (.aload_n 0, 1) := by decide +kernel
theorem dX12_isName_12 : decode cX12_isName 12 = .ok (.getfield 156, 3) := by decide +kernel
theorem dX12_isName_15 : decode cX12_isName 15 = .ok (.iaload, 1) := by decide +kernel
theorem dX12_isName_16 : decode cX12_isName 16 = .ok (.iconst 1, 1) := by decide +kernel
theorem dX12_isName_17 : decode cX12_isName 17 = .ok (.if_icmp .ne 7, 3) := by decide +kernel
theorem dX12_isName_20 : decode cX12_isName 20 = .ok (.iconst 1, 1) := by decide +kernel
theorem dX12_isName_21 : decode cX12_isName 21 = .ok (.goto 4, 3) := by decide +kernel
theorem dX12_isName_24 : decode cX12_isName 24 = .ok (.iconst 0, 1) := by decide +kernel
theorem dX12_isName_25 : decode cX12_isName 25 = .ok (.istore_n 1, 1) := by decide +kernel
theorem dX12_isName_26 : decode cX12_isName 26 = .ok (.iconst 0, 1) := by decide +kernel
theorem dX12_isName_27 : decode cX12_isName 27 = .ok (.istore_n 2, 1) := by decide +kernel
theorem dX12_isName_28 : decode cX12_isName 28 = .ok (.iload_n 2, 1) := by decide +kernel
theorem dX12_isName_29 : decode cX12_isName 29 = .ok (.bipush 15, 2) := by decide +kernel
theorem dX12_isName_31 : decode cX12_isName 31 = .ok (.if_icmp .ge 38, 3) := by decide +kernel
theorem dX12_isName_34 : decode cX12_isName 34 = .ok (.iload_n 1, 1) := by decide +kernel
theorem dX12_isName_35 : decode cX12_isName 35 = .ok (.ifCond .eq 26, 3) := by decide +kernel
theorem dX12_isName_38 : decode cX12_isName 38 = .ok (.aload_n 0, 1) := by decide +kernel
theorem dX12_isName_39 : decode cX12_isName 39 = .ok (.getfield 30, 3) := by decide +kernel
theorem dX12_isName_42 : decode cX12_isName 42 = .ok (.aload_n 0, 1) := by decide +kernel
theorem dX12_isName_43 : decode cX12_isName 43 = .ok (.getfield 156, 3) := by decide +kernel
theorem dX12_isName_46 : decode cX12_isName 46 = .ok (.laload, 1) := by decide +kernel
theorem dX12_isName_47 : decode cX12_isName 47 = .ok (.aload_n 0, 1) := by decide +kernel
theorem dX12_isName_48 : decode cX12_isName 48 = .ok (.getfield 78, 3) := by decide +kernel
theorem dX12_isName_51 : decode cX12_isName 51 = .ok (.iload_n 2, 1) := by decide +kernel
theorem dX12_isName_52 : decode cX12_isName 52 = .ok (.laload, 1) := by decide +kernel
theorem dX12_isName_53 : decode cX12_isName 53 = .ok (.lcmp, 1) := by decide +kernel
theorem dX12_isName_54 : decode cX12_isName 54 = .ok (.ifCond .eq 7, 3) := by decide +kernel
theorem dX12_isName_57 : decode cX12_isName 57 = .ok (.iconst 1, 1) := by decide +kernel
theorem dX12_isName_58 : decode cX12_isName 58 = .ok (.goto 4, 3) := by decide +kernel
theorem dX12_isName_61 : decode cX12_isName 61 = .ok (.iconst 0, 1) := by decide +kernel
theorem dX12_isName_62 : decode cX12_isName 62 = .ok (.istore_n 1, 1) := by decide +kernel
theorem dX12_isName_63 : decode cX12_isName 63 = .ok (.iinc 2 1, 3) := by decide +kernel
theorem dX12_isName_66 : decode cX12_isName 66 = .ok (.goto (-38), 3) := by decide +kernel
theorem dX12_isName_69 : decode cX12_isName 69 = .ok (.iload_n 1, 1) := by decide +kernel
theorem dX12_isName_70 : decode cX12_isName 70 = .ok (.ireturn, 1) := by decide +kernel
theorem dX12_find_0 : decode cX12_find 0 = .ok (.iconst 0, 1) := by decide +kernel
theorem dX12_find_1 : decode cX12_find 1 = .ok (.istore_n 1, 1) := by decide +kernel
theorem dX12_find_2 : decode cX12_find 2 = .ok (.iload_n 1, 1) := by decide +kernel
theorem dX12_find_3 : decode cX12_find 3 = .ok (.aload_n 0, 1) := by decide +kernel
theorem dX12_find_4 : decode cX12_find 4 = .ok (.getfield 81, 3) := by decide +kernel
theorem dX12_find_7 : decode cX12_find 7 = .ok (.bipush 83, 2) := by decide +kernel
theorem dX12_find_9 : decode cX12_find 9 = .ok (.iaload, 1) := by decide +kernel
theorem dX12_find_10 : decode cX12_find 10 = .ok (.if_icmp .ge 30, 3) := by decide +kernel
theorem dX12_find_13 : decode cX12_find 13 = .ok (.aload_n 0, 1) := by decide +kernel
theorem dX12_find_14 : decode cX12_find 14 = .ok (.getfield 90, 3) := by decide +kernel
theorem dX12_find_17 : decode cX12_find 17 = .ok (.iload_n 1, 1) := by decide +kernel
theorem dX12_find_18 : decode cX12_find 18 = .ok (.laload, 1) := by decide +kernel
theorem dX12_find_19 : decode cX12_find 19 = .ok (.aload_n 0, 1) := by decide +kernel
theorem dX12_find_20 : decode cX12_find 20 = .ok (.getfield 30, 3) := by decide +kernel
theorem dX12_find_23 : decode cX12_find 23 = .ok (.aload_n 0, 1) := by decide +kernel
theorem dX12_find_24 : decode cX12_find 24 = .ok (.getfield 156, 3) := by decide +kernel
theorem dX12_find_27 : decode cX12_find 27 = .ok (.laload, 1) := by decide +kernel
theorem dX12_find_28 : decode cX12_find 28 = .ok (.lcmp, 1) := by decide +kernel
theorem dX12_find_29 : decode cX12_find 29 = .ok (.ifCond .ne 5, 3) := by decide +kernel
theorem dX12_find_32 : decode cX12_find 32 = .ok (.iload_n 1, 1) := by decide +kernel
theorem dX12_find_33 : decode cX12_find 33 = .ok (.ireturn, 1) := by decide +kernel
theorem dX12_find_34 : decode cX12_find 34 = .ok (.iinc 1 1, 3) := by decide +kernel
theorem dX12_find_37 : decode cX12_find 37 = .ok (.goto (-35), 3) := by decide +kernel
theorem dX12_find_40 : decode cX12_find 40 = .ok (.iconst (-1), 1) := by decide +kernel
theorem dX12_find_41 : decode cX12_find 41 = .ok (.ireturn, 1) := by decide +kernel
theorem dX12_chapel_0 : decode cX12_chapel 0 = .ok (.aload_n 0, 1) := by decide +kernel
theorem dX12_chapel_1 : decode cX12_chapel 1 = .ok (.iconst 0, 1) := by decide +kernel
theorem dX12_chapel_2 : decode cX12_chapel 2 = .ok (.putfield 1, 3) := by decide +kernel
theorem dX12_chapel_5 : decode cX12_chapel 5 = .ok (.aload_n 0, 1) := by decide +kernel
theorem dX12_chapel_6 : decode cX12_chapel 6 = .ok (.invokevirtual 182, 3) := by decide +kernel
theorem dX12_chapel_9 : decode cX12_chapel 9 = .ok (.aload_n 0, 1) := by decide +kernel
theorem dX12_chapel_10 : decode cX12_chapel 10 = .ok (.iconst 0, 1) := by decide +kernel
theorem dX12_chapel_11 : decode cX12_chapel 11 = .ok (.putfield 185, 3) := by decide +kernel
theorem dX12_chapel_14 : decode cX12_chapel 14 = .ok (.aload_n 0, 1) := by decide +kernel
theorem dX12_chapel_15 : decode cX12_chapel 15 = .ok (.iconst 0, 1) := by decide +kernel
theorem dX12_chapel_16 : decode cX12_chapel 16 = .ok (.putfield 188, 3) := by decide +kernel
theorem dX12_chapel_19 : decode cX12_chapel 19 = .ok (.aload_n 0, 1) := by decide +kernel
theorem dX12_chapel_20 : decode cX12_chapel 20 = .ok (.iconst 0, 1) := by decide +kernel
theorem dX12_chapel_21 : decode cX12_chapel 21 = .ok (.putfield 192, 3) := by decide +kernel
theorem dX12_chapel_24 : decode cX12_chapel 24 = .ok (.iconst 0, 1) := by decide +kernel
theorem dX12_chapel_25 : decode cX12_chapel 25 = .ok (.istore_n 1, 1) := by decide +kernel
theorem dX12_chapel_26 : decode cX12_chapel 26 = .ok (.iload_n 1, 1) := by decide +kernel
theorem dX12_chapel_27 : decode cX12_chapel 27 = .ok (.bipush 80, 2) := by decide +kernel
theorem dX12_chapel_29 : decode cX12_chapel 29 = .ok (.if_icmp .ge 38, 3) := by decide +kernel
theorem dX12_chapel_32 : decode cX12_chapel 32 = .ok (.aload_n 0, 1) := by decide +kernel
theorem dX12_chapel_33 : decode cX12_chapel 33 = .ok (.getfield 81, 3) := by decide +kernel
theorem dX12_chapel_36 : decode cX12_chapel 36 = .ok (.bipush 80, 2) := by decide +kernel
theorem dX12_chapel_38 : decode cX12_chapel 38 = .ok (.iload_n 1, 1) := by decide +kernel
theorem dX12_chapel_39 : decode cX12_chapel 39 = .ok (.iadd, 1) := by decide +kernel
theorem dX12_chapel_40 : decode cX12_chapel 40 = .ok (.iload_n 1, 1) := by decide +kernel
theorem dX12_chapel_41 : decode cX12_chapel 41 = .ok (.iconst 2, 1) := by decide +kernel
theorem dX12_chapel_42 : decode cX12_chapel 42 = .ok (.if_icmp .ge 7, 3) := by decide +kernel
theorem dX12_chapel_45 : decode cX12_chapel 45 = .ok (.iconst 4, 1) := by decide +kernel
theorem dX12_chapel_46 : decode cX12_chapel 46 = .ok (.goto 14, 3) := by decide +kernel
theorem dX12_chapel_49 : decode cX12_chapel 49 = .ok (.iload_n 1, 1) := by decide +kernel
theorem dX12_chapel_50 : decode cX12_chapel 50 = .ok (.bipush 65, 2) := by decide +kernel
theorem dX12_chapel_52 : decode cX12_chapel 52 = .ok (.if_icmp .lt 7, 3) := by decide +kernel
theorem dX12_chapel_55 : decode cX12_chapel 55 = .ok (.iconst (-1), 1) := by decide +kernel
theorem dX12_chapel_56 : decode cX12_chapel 56 = .ok (.goto 4, 3) := by decide +kernel
theorem dX12_chapel_59 : decode cX12_chapel 59 = .ok (.iconst 0, 1) := by decide +kernel
theorem dX12_chapel_60 : decode cX12_chapel 60 = .ok (.iastore, 1) := by decide +kernel
theorem dX12_chapel_61 : decode cX12_chapel 61 = .ok (.iinc 1 1, 3) := by decide +kernel
theorem dX12_chapel_64 : decode cX12_chapel 64 = .ok (.goto (-38), 3) := by decide +kernel
theorem dX12_chapel_67 : decode cX12_chapel 67 = .ok (.aload_n 0, 1) := by decide +kernel
theorem dX12_chapel_68 : decode cX12_chapel 68 = .ok (.getfield 159, 3) := by decide +kernel
theorem dX12_chapel_71 : decode cX12_chapel 71 = .ok (.ifCond .ne 28, 3) := by decide +kernel
theorem dX12_chapel_74 : decode cX12_chapel 74 = .ok (.aload_n 0, 1) := by decide +kernel
theorem dX12_chapel_75 : decode cX12_chapel 75 = .ok (.getfield 24, 3) := by decide +kernel
theorem dX12_chapel_78 : decode cX12_chapel 78 = .ok (.aload_n 0, 1) := by decide +kernel
theorem dX12_chapel_79 : decode cX12_chapel 79 = .ok (.getfield 156, 3) := by decide +kernel
theorem dX12_chapel_82 : decode cX12_chapel 82 = .ok (.iaload, 1) := by decide +kernel
theorem dX12_chapel_83 : decode cX12_chapel 83 = .ok (.ifCond .eq 16, 3) := by decide +kernel
theorem dX12_chapel_86 : decode cX12_chapel 86 = .ok (.aload_n 0, 1) := by decide +kernel
theorem dX12_chapel_87 : decode cX12_chapel 87 = .ok (.invokevirtual 195, 3) := by decide +kernel
theorem dX12_chapel_90 : decode cX12_chapel 90 = .ok (.aload_n 0, 1) := by decide +kernel
theorem dX12_chapel_91 : decode cX12_chapel 91 = .ok (.bipush 59, 2) := by decide +kernel
theorem dX12_chapel_93 : decode cX12_chapel 93 = .ok (.invokevirtual 198, 3) := by decide +kernel
theorem dX12_chapel_96 : decode cX12_chapel 96 = .ok (.goto (-29), 3) := by decide +kernel
theorem dX12_chapel_99 : decode cX12_chapel 99 = .ok (.aload_n 0, 1) := by decide +kernel
theorem dX12_chapel_100 : decode cX12_chapel 100 = .ok (.getfield 159, 3) := by decide +kernel
theorem dX12_chapel_103 : decode cX12_chapel 103 = .ok (.ifCond .le 8, 3) := by decide +kernel
theorem dX12_chapel_106 : decode cX12_chapel 106 = .ok (.aload_n 0, 1) := by decide +kernel
theorem dX12_chapel_107 : decode cX12_chapel 107 = .ok (.getfield 159, 3) := by decide +kernel
theorem dX12_chapel_110 : decode cX12_chapel 110 = .ok (.ireturn, 1) := by decide +kernel
theorem dX12_chapel_111 : decode cX12_chapel 111 = .ok (.iconst 0, 1) := by decide +kernel
theorem dX12_chapel_112 : decode cX12_chapel 112 = .ok (.istore_n 1, 1) := by decide +kernel
theorem dX12_chapel_113 : decode cX12_chapel 113 = .ok (.iload_n 1, 1) := by decide +kernel
theorem dX12_chapel_114 : decode cX12_chapel 114 = .ok (.bipush 80, 2) := by decide +kernel
theorem dX12_chapel_116 : decode cX12_chapel 116 = .ok (.if_icmp .ge 24, 3) := by decide +kernel
theorem dX12_chapel_119 : decode cX12_chapel 119 = .ok (.aload_n 0, 1) := by decide +kernel
theorem dX12_chapel_120 : decode cX12_chapel 120 = .ok (.getfield 81, 3) := by decide +kernel
theorem dX12_chapel_123 : decode cX12_chapel 123 = .ok (.iload_n 1, 1) := by decide +kernel
theorem dX12_chapel_124 : decode cX12_chapel 124 = .ok (.aload_n 0, 1) := by decide +kernel
theorem dX12_chapel_125 : decode cX12_chapel 125 = .ok (.getfield 81, 3) := by decide +kernel
theorem dX12_chapel_128 : decode cX12_chapel 128 = .ok (.bipush 80, 2) := by decide +kernel
theorem dX12_chapel_130 : decode cX12_chapel 130 = .ok (.iload_n 1, 1) := by decide +kernel
theorem dX12_chapel_131 : decode cX12_chapel 131 = .ok (.iadd, 1) := by decide +kernel
theorem dX12_chapel_132 : decode cX12_chapel 132 = .ok (.iaload, 1) := by decide +kernel
theorem dX12_chapel_133 : decode cX12_chapel 133 = .ok (.iastore, 1) := by decide +kernel
theorem dX12_chapel_134 : decode cX12_chapel 134 = .ok (.iinc 1 1, 3) := by decide +kernel
theorem dX12_chapel_137 : decode cX12_chapel 137 = .ok (.goto (-24), 3) := by decide +kernel
theorem dX12_chapel_140 : decode cX12_chapel 140 = .ok (.iconst 0, 1) := by decide +kernel
theorem dX12_chapel_141 : decode cX12_chapel 141 = .ok (.istore_n 1, 1) := by decide +kernel
theorem dX12_chapel_142 : decode cX12_chapel 142 = .ok (.iload_n 1, 1) := by decide +kernel
theorem dX12_chapel_143 : decode cX12_chapel 143 = .ok (.aload_n 0, 1) := by decide +kernel
theorem dX12_chapel_144 : decode cX12_chapel 144 = .ok (.getfield 185, 3) := by decide +kernel
theorem dX12_chapel_147 : decode cX12_chapel 147 = .ok (.if_icmp .ge 41, 3) := by decide +kernel
theorem dX12_chapel_150 : decode cX12_chapel 150 = .ok (.aload_n 0, 1) := by decide +kernel
theorem dX12_chapel_151 : decode cX12_chapel 151 = .ok (.getfield 84, 3) := by decide +kernel
theorem dX12_chapel_154 : decode cX12_chapel 154 = .ok (.iload_n 1, 1) := by decide +kernel
theorem dX12_chapel_155 : decode cX12_chapel 155 = .ok (.aload_n 0, 1) := by decide +kernel
theorem dX12_chapel_156 : decode cX12_chapel 156 = .ok (.getfield 84, 3) := by decide +kernel
theorem dX12_chapel_159 : decode cX12_chapel 159 = .ok (.sipush 1100, 3) := by decide +kernel
theorem dX12_chapel_162 : decode cX12_chapel 162 = .ok (.iload_n 1, 1) := by decide +kernel
theorem dX12_chapel_163 : decode cX12_chapel 163 = .ok (.iadd, 1) := by decide +kernel
theorem dX12_chapel_164 : decode cX12_chapel 164 = .ok (.iaload, 1) := by decide +kernel
theorem dX12_chapel_165 : decode cX12_chapel 165 = .ok (.iastore, 1) := by decide +kernel
theorem dX12_chapel_166 : decode cX12_chapel 166 = .ok (.aload_n 0, 1) := by decide +kernel
theorem dX12_chapel_167 : decode cX12_chapel 167 = .ok (.getfield 87, 3) := by decide +kernel
theorem dX12_chapel_170 : decode cX12_chapel 170 = .ok (.iload_n 1, 1) := by decide +kernel
theorem dX12_chapel_171 : decode cX12_chapel 171 = .ok (.aload_n 0, 1) := by decide +kernel
theorem dX12_chapel_172 : decode cX12_chapel 172 = .ok (.getfield 87, 3) := by decide +kernel
theorem dX12_chapel_175 : decode cX12_chapel 175 = .ok (.sipush 1100, 3) := by decide +kernel
theorem dX12_chapel_178 : decode cX12_chapel 178 = .ok (.iload_n 1, 1) := by decide +kernel
theorem dX12_chapel_179 : decode cX12_chapel 179 = .ok (.iadd, 1) := by decide +kernel
theorem dX12_chapel_180 : decode cX12_chapel 180 = .ok (.iaload, 1) := by decide +kernel
theorem dX12_chapel_181 : decode cX12_chapel 181 = .ok (.iastore, 1) := by decide +kernel
theorem dX12_chapel_182 : decode cX12_chapel 182 = .ok (.iinc 1 1, 3) := by decide +kernel
theorem dX12_chapel_185 : decode cX12_chapel 185 = .ok (.goto (-43), 3) := by decide +kernel
theorem dX12_chapel_188 : decode cX12_chapel 188 = .ok (.iconst 0, 1) := by decide +kernel
theorem dX12_chapel_189 : decode cX12_chapel 189 = .ok (.istore_n 1, 1) := by decide +kernel
theorem dX12_chapel_190 : decode cX12_chapel 190 = .ok (.iload_n 1, 1) := by decide +kernel
theorem dX12_chapel_191 : decode cX12_chapel 191 = .ok (.bipush 12, 2) := by decide +kernel
theorem dX12_chapel_193 : decode cX12_chapel 193 = .ok (.if_icmp .ge 30, 3) := by decide +kernel
theorem dX12_chapel_196 : decode cX12_chapel 196 = .ok (.aload_n 0, 1) := by decide +kernel
theorem dX12_chapel_197 : decode cX12_chapel 197 = .ok (.getfield 99, 3) := by decide +kernel
theorem dX12_chapel_200 : decode cX12_chapel 200 = .ok (.iconst 0, 1) := by decide +kernel
theorem dX12_chapel_201 : decode cX12_chapel 201 = .ok (.iload_n 1, 1) := by decide +kernel
theorem dX12_chapel_202 : decode cX12_chapel 202 = .ok (.iadd, 1) := by decide +kernel
theorem dX12_chapel_203 : decode cX12_chapel 203 = .ok (.aload_n 0, 1) := by decide +kernel
theorem dX12_chapel_204 : decode cX12_chapel 204 = .ok (.getfield 81, 3) := by decide +kernel
theorem dX12_chapel_207 : decode cX12_chapel 207 = .ok (.bipush 17, 2) := by decide +kernel
theorem dX12_chapel_209 : decode cX12_chapel 209 = .ok (.iconst 4, 1) := by decide +kernel
theorem dX12_chapel_210 : decode cX12_chapel 210 = .ok (.iload_n 1, 1) := by decide +kernel
theorem dX12_chapel_211 : decode cX12_chapel 211 = .ok (.imul, 1) := by decide +kernel
theorem dX12_chapel_212 : decode cX12_chapel 212 = .ok (.iadd, 1) := by decide +kernel
theorem dX12_chapel_213 : decode cX12_chapel 213 = .ok (.iconst 2, 1) := by decide +kernel
theorem dX12_chapel_214 : decode cX12_chapel 214 = .ok (.iadd, 1) := by decide +kernel
theorem dX12_chapel_215 : decode cX12_chapel 215 = .ok (.iaload, 1) := by decide +kernel
theorem dX12_chapel_216 : decode cX12_chapel 216 = .ok (.iastore, 1) := by decide +kernel
theorem dX12_chapel_217 : decode cX12_chapel 217 = .ok (.iinc 1 1, 3) := by decide +kernel
theorem dX12_chapel_220 : decode cX12_chapel 220 = .ok (.goto (-30), 3) := by decide +kernel
theorem dX12_chapel_223 : decode cX12_chapel 223 = .ok (.aload_n 0, 1) := by decide +kernel
theorem dX12_chapel_224 : decode cX12_chapel 224 = .ok (.getfield 99, 3) := by decide +kernel
theorem dX12_chapel_227 : decode cX12_chapel 227 = .ok (.bipush 12, 2) := by decide +kernel
theorem dX12_chapel_229 : decode cX12_chapel 229 = .ok (.iconst 0, 1) := by decide +kernel
theorem dX12_chapel_230 : decode cX12_chapel 230 = .ok (.iastore, 1) := by decide +kernel
theorem dX12_chapel_231 : decode cX12_chapel 231 = .ok (.aload_n 0, 1) := by decide +kernel
theorem dX12_chapel_232 : decode cX12_chapel 232 = .ok (.getfield 99, 3) := by decide +kernel
theorem dX12_chapel_235 : decode cX12_chapel 235 = .ok (.bipush 13, 2) := by decide +kernel
theorem dX12_chapel_237 : decode cX12_chapel 237 = .ok (.iconst 0, 1) := by decide +kernel
theorem dX12_chapel_238 : decode cX12_chapel 238 = .ok (.iastore, 1) := by decide +kernel
theorem dX12_chapel_239 : decode cX12_chapel 239 = .ok (.aload_n 0, 1) := by decide +kernel
theorem dX12_chapel_240 : decode cX12_chapel 240 = .ok (.iconst 0, 1) := by decide +kernel
theorem dX12_chapel_241 : decode cX12_chapel 241 = .ok (.putfield 201, 3) := by decide +kernel
theorem dX12_chapel_244 : decode cX12_chapel 244 = .ok (.iconst 0, 1) := by decide +kernel
theorem dX12_chapel_245 : decode cX12_chapel 245 = .ok (.istore_n 1, 1) := by decide +kernel
theorem dX12_chapel_246 : decode cX12_chapel 246 = .ok (.iload_n 1, 1) := by decide +kernel
theorem dX12_chapel_247 : decode cX12_chapel 247 = .ok (.iconst 4, 1) := by decide +kernel
theorem dX12_chapel_248 : decode cX12_chapel 248 = .ok (.if_icmp .ge 16, 3) := by decide +kernel
theorem dX12_chapel_251 : decode cX12_chapel 251 = .ok (.aload_n 0, 1) := by decide +kernel
theorem dX12_chapel_252 : decode cX12_chapel 252 = .ok (.getfield 102, 3) := by decide +kernel
theorem dX12_chapel_255 : decode cX12_chapel 255 = .ok (.iload_n 1, 1) := by decide +kernel
theorem dX12_chapel_256 : decode cX12_chapel 256 = .ok (.iconst 0, 1) := by decide +kernel
theorem dX12_chapel_257 : decode cX12_chapel 257 = .ok (.bastore, 1) := by decide +kernel
theorem dX12_chapel_258 : decode cX12_chapel 258 = .ok (.iinc 1 1, 3) := by decide +kernel
theorem dX12_chapel_261 : decode cX12_chapel 261 = .ok (.goto (-15), 3) := by decide +kernel
theorem dX12_chapel_264 : decode cX12_chapel 264 = .ok (.iconst 0, 1) := by decide +kernel
theorem dX12_chapel_265 : decode cX12_chapel 265 = .ok (.ireturn, 1) := by decide +kernel
theorem dX12_readLine_0 : decode cX12_readLine 0 = .ok (.aload_n 0, 1) := by decide +kernel
theorem dX12_readLine_1 : decode cX12_readLine 1 = .ok (.iconst 0, 1) := by decide +kernel
theorem dX12_readLine_2 : decode cX12_readLine 2 = .ok (.invokevirtual 169, 3) := by decide +kernel
theorem dX12_readLine_5 : decode cX12_readLine 5 = .ok (.ifCond .eq 10, 3) := by decide +kernel
theorem dX12_readLine_8 : decode cX12_readLine 8 = .ok (.aload_n 0, 1) := by decide +kernel
theorem dX12_readLine_9 : decode cX12_readLine 9 = .ok (.invokevirtual 204, 3) := by decide +kernel
theorem dX12_readLine_12 : decode cX12_readLine 12 = .ok (.goto 53, 3) := by decide +kernel
theorem dX12_readLine_15 : decode cX12_readLine 15 = .ok (.aload_n 0, 1) := by decide +kernel
theorem dX12_readLine_16 : decode cX12_readLine 16 = .ok (.iconst 1, 1) := by decide +kernel
theorem dX12_readLine_17 : decode cX12_readLine 17 = .ok (.invokevirtual 169, 3) := by decide +kernel
theorem dX12_readLine_20 : decode cX12_readLine 20 = .ok (.ifCond .eq 10, 3) := by decide +kernel
theorem dX12_readLine_23 : decode cX12_readLine 23 = .ok (.aload_n 0, 1) := by decide +kernel
theorem dX12_readLine_24 : decode cX12_readLine 24 = .ok (.invokevirtual 207, 3) := by decide +kernel
theorem dX12_readLine_27 : decode cX12_readLine 27 = .ok (.goto 38, 3) := by decide +kernel
theorem dX12_readLine_30 : decode cX12_readLine 30 = .ok (.aload_n 0, 1) := by decide +kernel
theorem dX12_readLine_31 : decode cX12_readLine 31 = .ok (.iconst 4, 1) := by decide +kernel
theorem dX12_readLine_32 : decode cX12_readLine 32 = .ok (.invokevirtual 169, 3) := by decide +kernel
theorem dX12_readLine_35 : decode cX12_readLine 35 = .ok (.ifCond .eq 10, 3) := by decide +kernel
theorem dX12_readLine_38 : decode cX12_readLine 38 = .ok (.aload_n 0, 1) := by decide +kernel
theorem dX12_readLine_39 : decode cX12_readLine 39 = .ok (.invokevirtual 210, 3) := by decide +kernel
theorem dX12_readLine_42 : decode cX12_readLine 42 = .ok (.goto 23, 3) := by decide +kernel
theorem dX12_readLine_45 : decode cX12_readLine 45 = .ok (.aload_n 0, 1) := by decide +kernel
theorem dX12_readLine_46 : decode cX12_readLine 46 = .ok (.bipush 11, 2) := by decide +kernel
theorem dX12_readLine_48 : decode cX12_readLine 48 = .ok (.invokevirtual 169, 3) := by decide +kernel
theorem dX12_readLine_51 : decode cX12_readLine 51 = .ok (.ifCond .eq 10, 3) := by decide +kernel
theorem dX12_readLine_54 : decode cX12_readLine 54 = .ok (.aload_n 0, 1) := by decide +kernel
theorem dX12_readLine_55 : decode cX12_readLine 55 = .ok (.invokevirtual 213, 3) := by decide +kernel
theorem dX12_readLine_58 : decode cX12_readLine 58 = .ok (.goto 7, 3) := by decide +kernel
theorem dX12_readLine_61 : decode cX12_readLine 61 = .ok (.aload_n 0, 1) := by decide +kernel
theorem dX12_readLine_62 : decode cX12_readLine 62 = .ok (.invokevirtual 216, 3) := by decide +kernel
theorem dX12_readLine_65 : decode cX12_readLine 65 = .ok (.return_, 1) := by decide +kernel
theorem dX12_readFloor_0 : decode cX12_readFloor 0 = .ok (.aload_n 0, 1) := by decide +kernel
theorem dX12_readFloor_1 : decode cX12_readFloor 1 = .ok (.getfield 188, 3) := by decide +kernel
theorem dX12_readFloor_4 : decode cX12_readFloor 4 = .ok (.ifCond .eq 9, 3) := by decide +kernel
theorem dX12_readFloor_7 : decode cX12_readFloor 7 = .ok (.aload_n 0, 1) := by decide +kernel
theorem dX12_readFloor_8 : decode cX12_readFloor 8 = .ok (.iconst 3, 1) := by decide +kernel
theorem dX12_readFloor_9 : decode cX12_readFloor 9 = .ok (.invokevirtual 165, 3) := by decide +kernel
theorem dX12_readFloor_12 : decode cX12_readFloor 12 = .ok (.return_, 1) := by decide +kernel
theorem dX12_readFloor_13 : decode cX12_readFloor 13 = .ok (.aload_n 0, 1) := by decide +kernel
theorem dX12_readFloor_14 : decode cX12_readFloor 14 = .ok (.iconst 1, 1) := by decide +kernel
theorem dX12_readFloor_15 : decode cX12_readFloor 15 = .ok (.putfield 188, 3) := by decide +kernel
theorem dX12_readFloor_18 : decode cX12_readFloor 18 = .ok (.aload_n 0, 1) := by decide +kernel
theorem dX12_readFloor_19 : decode cX12_readFloor 19 = .ok (.dup, 1) := by decide +kernel
theorem dX12_readFloor_20 : decode cX12_readFloor 20 = .ok (.getfield 156, 3) := by decide +kernel
theorem dX12_readFloor_23 : decode cX12_readFloor 23 = .ok (.iconst 1, 1) := by decide +kernel
theorem dX12_readFloor_24 : decode cX12_readFloor 24 = .ok (.iadd, 1) := by decide +kernel
theorem dX12_readFloor_25 : decode cX12_readFloor 25 = .ok (.putfield 156, 3) := by decide +kernel
theorem dX12_readFloor_28 : decode cX12_readFloor 28 = .ok (.aload_n 0, 1) := by decide +kernel
theorem dX12_readFloor_29 : decode cX12_readFloor 29 = .ok (.getfield 81, 3) := by decide +kernel
theorem dX12_readFloor_32 : decode cX12_readFloor 32 = .ok (.bipush 80, 2) := by decide +kernel
theorem dX12_readFloor_34 : decode cX12_readFloor 34 = .ok (.aload_n 0, 1) := by decide +kernel
theorem dX12_readFloor_35 : decode cX12_readFloor 35 = .ok (.iconst 1, 1) := by decide +kernel
theorem dX12_readFloor_36 : decode cX12_readFloor 36 = .ok (.bipush 8, 2) := by decide +kernel
theorem dX12_readFloor_38 : decode cX12_readFloor 38 = .ok (.invokevirtual 178, 3) := by decide +kernel
theorem dX12_readFloor_41 : decode cX12_readFloor 41 = .ok (.iastore, 1) := by decide +kernel
theorem dX12_readFloor_42 : decode cX12_readFloor 42 = .ok (.aload_n 0, 1) := by decide +kernel
theorem dX12_readFloor_43 : decode cX12_readFloor 43 = .ok (.getfield 81, 3) := by decide +kernel
theorem dX12_readFloor_46 : decode cX12_readFloor 46 = .ok (.bipush 81, 2) := by decide +kernel
theorem dX12_readFloor_48 : decode cX12_readFloor 48 = .ok (.aload_n 0, 1) := by decide +kernel
theorem dX12_readFloor_49 : decode cX12_readFloor 49 = .ok (.iconst 1, 1) := by decide +kernel
theorem dX12_readFloor_50 : decode cX12_readFloor 50 = .ok (.bipush 8, 2) := by decide +kernel
theorem dX12_readFloor_52 : decode cX12_readFloor 52 = .ok (.invokevirtual 178, 3) := by decide +kernel
theorem dX12_readFloor_55 : decode cX12_readFloor 55 = .ok (.iastore, 1) := by decide +kernel
theorem dX12_readFloor_56 : decode cX12_readFloor 56 = .ok (.return_, 1) := by decide +kernel
theorem dX12_readCloud_0 : decode cX12_readCloud 0 = .ok (.aload_n 0, 1) := by decide +kernel
theorem dX12_readCloud_1 : decode cX12_readCloud 1 = .ok (.getfield 192, 3) := by decide +kernel
theorem dX12_readCloud_4 : decode cX12_readCloud 4 = .ok (.ifCond .eq 9, 3) := by decide +kernel
theorem dX12_readCloud_7 : decode cX12_readCloud 7 = .ok (.aload_n 0, 1) := by decide +kernel
theorem dX12_readCloud_8 : decode cX12_readCloud 8 = .ok (.iconst 3, 1) := by decide +kernel
theorem dX12_readCloud_9 : decode cX12_readCloud 9 = .ok (.invokevirtual 165, 3) := by decide +kernel
theorem dX12_readCloud_12 : decode cX12_readCloud 12 = .ok (.return_, 1) := by decide +kernel
theorem dX12_readCloud_13 : decode cX12_readCloud 13 = .ok (.aload_n 0, 1) := by decide +kernel
theorem dX12_readCloud_14 : decode cX12_readCloud 14 = .ok (.iconst 1, 1) := by decide +kernel
theorem dX12_readCloud_15 : decode cX12_readCloud 15 = .ok (.putfield 192, 3) := by decide +kernel
theorem dX12_readCloud_18 : decode cX12_readCloud 18 = .ok (.aload_n 0, 1) := by decide +kernel
theorem dX12_readCloud_19 : decode cX12_readCloud 19 = .ok (.dup, 1) := by decide +kernel
theorem dX12_readCloud_20 : decode cX12_readCloud 20 = .ok (.getfield 156, 3) := by decide +kernel
theorem dX12_readCloud_23 : decode cX12_readCloud 23 = .ok (.iconst 1, 1) := by decide +kernel
theorem dX12_readCloud_24 : decode cX12_readCloud 24 = .ok (.iadd, 1) := by decide +kernel
theorem dX12_readCloud_25 : decode cX12_readCloud 25 = .ok (.putfield 156, 3) := by decide +kernel
theorem dX12_readCloud_28 : decode cX12_readCloud 28 = .ok (.aload_n 0, 1) := by decide +kernel
theorem dX12_readCloud_29 : decode cX12_readCloud 29 = .ok (.getfield 81, 3) := by decide +kernel
theorem dX12_readCloud_32 : decode cX12_readCloud 32 = .ok (.bipush 82, 2) := by decide +kernel
theorem dX12_readCloud_34 : decode cX12_readCloud 34 = .ok (.aload_n 0, 1) := by decide +kernel
theorem dX12_readCloud_35 : decode cX12_readCloud 35 = .ok (.iconst 0, 1) := by decide +kernel
theorem dX12_readCloud_36 : decode cX12_readCloud 36 = .ok (.bipush 8, 2) := by decide +kernel
theorem dX12_readCloud_38 : decode cX12_readCloud 38 = .ok (.invokevirtual 178, 3) := by decide +kernel
theorem dX12_readCloud_41 : decode cX12_readCloud 41 = .ok (.iastore, 1) := by decide +kernel
theorem dX12_readCloud_42 : decode cX12_readCloud 42 = .ok (.return_, 1) := by decide +kernel
theorem dX12_readGuild_0 : decode cX12_readGuild 0 = .ok (.aload_n 0, 1) := by decide +kernel
theorem dX12_readGuild_1 : decode cX12_readGuild 1 = .ok (.getfield 81, 3) := by decide +kernel
theorem dX12_readGuild_4 : decode cX12_readGuild 4 = .ok (.bipush 83, 2) := by decide +kernel
theorem dX12_readGuild_6 : decode cX12_readGuild 6 = .ok (.iaload, 1) := by decide +kernel
theorem dX12_readGuild_7 : decode cX12_readGuild 7 = .ok (.istore_n 1, 1) := by decide +kernel
theorem dX12_readGuild_8 : decode cX12_readGuild 8 = .ok (.iload_n 1, 1) := by decide +kernel
theorem dX12_readGuild_9 : decode cX12_readGuild 9 = .ok (.bipush 6, 2) := by decide +kernel
theorem dX12_readGuild_11 : decode cX12_readGuild 11 = .ok (.if_icmp .ne 9, 3) := by decide +kernel
theorem dX12_readGuild_14 : decode cX12_readGuild 14 = .ok (.aload_n 0, 1) := by decide +kernel
theorem dX12_readGuild_15 : decode cX12_readGuild 15 = .ok (.iconst 5, 1) := by decide +kernel
theorem dX12_readGuild_16 : decode cX12_readGuild 16 = .ok (.invokevirtual 165, 3) := by decide +kernel
theorem dX12_readGuild_19 : decode cX12_readGuild 19 = .ok (.return_, 1) := by decide +kernel
theorem dX12_readGuild_20 : decode cX12_readGuild 20 = .ok (.aload_n 0, 1) := by decide +kernel
theorem dX12_readGuild_21 : decode cX12_readGuild 21 = .ok (.dup, 1) := by decide +kernel
theorem dX12_readGuild_22 : decode cX12_readGuild 22 = .ok (.getfield 156, 3) := by decide +kernel
theorem dX12_readGuild_25 : decode cX12_readGuild 25 = .ok (.iconst 1, 1) := by decide +kernel
theorem dX12_readGuild_26 : decode cX12_readGuild 26 = .ok (.iadd, 1) := by decide +kernel
theorem dX12_readGuild_27 : decode cX12_readGuild 27 = .ok (.putfield 156, 3) := by decide +kernel
theorem dX12_readGuild_30 : decode cX12_readGuild 30 = .ok (.aload_n 0, 1) := by decide +kernel
theorem dX12_readGuild_31 : decode cX12_readGuild 31 = .ok (.invokevirtual 219, 3) := by decide +kernel
theorem dX12_readGuild_34 : decode cX12_readGuild 34 = .ok (.ifCond .ne 11, 3) := by decide +kernel
theorem dX12_readGuild_37 : decode cX12_readGuild 37 = .ok (.aload_n 0, 1) := by decide +kernel
theorem dX12_readGuild_38 : decode cX12_readGuild 38 = .ok (.iconst 1, 1) := by decide +kernel
theorem dX12_readGuild_39 : decode cX12_readGuild 39 = .ok (.invokevirtual 165, 3) := by decide +kernel
theorem dX12_readGuild_42 : decode cX12_readGuild 42 = .ok (.goto 15, 3) := by decide +kernel
theorem dX12_readGuild_45 : decode cX12_readGuild 45 = .ok (.aload_n 0, 1) := by decide +kernel
theorem dX12_readGuild_46 : decode cX12_readGuild 46 = .ok (.invokevirtual 223, 3) := by decide +kernel
theorem dX12_readGuild_49 : decode cX12_readGuild 49 = .ok (.ifCond .lt 8, 3) := by decide +kernel
theorem dX12_readGuild_52 : decode cX12_readGuild 52 = .ok (.aload_n 0, 1) := by decide +kernel
theorem dX12_readGuild_53 : decode cX12_readGuild 53 = .ok (.iconst 3, 1) := by decide +kernel
theorem dX12_readGuild_54 : decode cX12_readGuild 54 = .ok (.invokevirtual 165, 3) := by decide +kernel
theorem dX12_readGuild_57 : decode cX12_readGuild 57 = .ok (.aload_n 0, 1) := by decide +kernel
theorem dX12_readGuild_58 : decode cX12_readGuild 58 = .ok (.getfield 159, 3) := by decide +kernel
theorem dX12_readGuild_61 : decode cX12_readGuild 61 = .ok (.ifCond .le 4, 3) := by decide +kernel
theorem dX12_readGuild_64 : decode cX12_readGuild 64 = .ok (.return_, 1) := by decide +kernel
theorem dX12_readGuild_65 : decode cX12_readGuild 65 = .ok (.aload_n 0, 1) := by decide +kernel
theorem dX12_readGuild_66 : decode cX12_readGuild 66 = .ok (.getfield 90, 3) := by decide +kernel
theorem dX12_readGuild_69 : decode cX12_readGuild 69 = .ok (.iload_n 1, 1) := by decide +kernel
theorem dX12_readGuild_70 : decode cX12_readGuild 70 = .ok (.aload_n 0, 1) := by decide +kernel
theorem dX12_readGuild_71 : decode cX12_readGuild 71 = .ok (.getfield 30, 3) := by decide +kernel
theorem dX12_readGuild_74 : decode cX12_readGuild 74 = .ok (.aload_n 0, 1) := by decide +kernel
theorem dX12_readGuild_75 : decode cX12_readGuild 75 = .ok (.getfield 156, 3) := by decide +kernel
theorem dX12_readGuild_78 : decode cX12_readGuild 78 = .ok (.laload, 1) := by decide +kernel
theorem dX12_readGuild_79 : decode cX12_readGuild 79 = .ok (.lastore, 1) := by decide +kernel
theorem dX12_readGuild_80 : decode cX12_readGuild 80 = .ok (.aload_n 0, 1) := by decide +kernel
theorem dX12_readGuild_81 : decode cX12_readGuild 81 = .ok (.dup, 1) := by decide +kernel
theorem dX12_readGuild_82 : decode cX12_readGuild 82 = .ok (.getfield 156, 3) := by decide +kernel
theorem dX12_readGuild_85 : decode cX12_readGuild 85 = .ok (.iconst 1, 1) := by decide +kernel
theorem dX12_readGuild_86 : decode cX12_readGuild 86 = .ok (.iadd, 1) := by decide +kernel
theorem dX12_readGuild_87 : decode cX12_readGuild 87 = .ok (.putfield 156, 3) := by decide +kernel
theorem dX12_readGuild_90 : decode cX12_readGuild 90 = .ok (.aload_n 0, 1) := by decide +kernel
theorem dX12_readGuild_91 : decode cX12_readGuild 91 = .ok (.getfield 81, 3) := by decide +kernel
theorem dX12_readGuild_94 : decode cX12_readGuild 94 = .ok (.bipush 85, 2) := by decide +kernel
theorem dX12_readGuild_96 : decode cX12_readGuild 96 = .ok (.iconst 2, 1) := by decide +kernel
theorem dX12_readGuild_97 : decode cX12_readGuild 97 = .ok (.iload_n 1, 1) := by decide +kernel
theorem dX12_readGuild_98 : decode cX12_readGuild 98 = .ok (.imul, 1) := by decide +kernel
theorem dX12_readGuild_99 : decode cX12_readGuild 99 = .ok (.iadd, 1) := by decide +kernel
theorem dX12_readGuild_100 : decode cX12_readGuild 100 = .ok (.aload_n 0, 1) := by decide +kernel
theorem dX12_readGuild_101 : decode cX12_readGuild 101 = .ok (.iconst 2, 1) := by decide +kernel
theorem dX12_readGuild_102 : decode cX12_readGuild 102 = .ok (.iconst 0, 1) := by decide +kernel
theorem dX12_readGuild_103 : decode cX12_readGuild 103 = .ok (.bipush 7, 2) := by decide +kernel
theorem dX12_readGuild_105 : decode cX12_readGuild 105 = .ok (.invokevirtual 227, 3) := by decide +kernel
theorem dX12_readGuild_108 : decode cX12_readGuild 108 = .ok (.iastore, 1) := by decide +kernel
theorem dX12_readGuild_109 : decode cX12_readGuild 109 = .ok (.aload_n 0, 1) := by decide +kernel
theorem dX12_readGuild_110 : decode cX12_readGuild 110 = .ok (.getfield 81, 3) := by decide +kernel
theorem dX12_readGuild_113 : decode cX12_readGuild 113 = .ok (.bipush 85, 2) := by decide +kernel
theorem dX12_readGuild_115 : decode cX12_readGuild 115 = .ok (.iconst 2, 1) := by decide +kernel
theorem dX12_readGuild_116 : decode cX12_readGuild 116 = .ok (.iload_n 1, 1) := by decide +kernel
theorem dX12_readGuild_117 : decode cX12_readGuild 117 = .ok (.imul, 1) := by decide +kernel
theorem dX12_readGuild_118 : decode cX12_readGuild 118 = .ok (.iadd, 1) := by decide +kernel
theorem dX12_readGuild_119 : decode cX12_readGuild 119 = .ok (.iconst 1, 1) := by decide +kernel
theorem dX12_readGuild_120 : decode cX12_readGuild 120 = .ok (.iadd, 1) := by decide +kernel
theorem dX12_readGuild_121 : decode cX12_readGuild 121 = .ok (.aload_n 0, 1) := by decide +kernel
theorem dX12_readGuild_122 : decode cX12_readGuild 122 = .ok (.iconst 3, 1) := by decide +kernel
theorem dX12_readGuild_123 : decode cX12_readGuild 123 = .ok (.iconst 0, 1) := by decide +kernel
theorem dX12_readGuild_124 : decode cX12_readGuild 124 = .ok (.sipush 9999, 3) := by decide +kernel
theorem dX12_readGuild_127 : decode cX12_readGuild 127 = .ok (.invokevirtual 227, 3) := by decide +kernel
theorem dX12_readGuild_130 : decode cX12_readGuild 130 = .ok (.iastore, 1) := by decide +kernel
theorem dX12_readGuild_131 : decode cX12_readGuild 131 = .ok (.aload_n 0, 1) := by decide +kernel
theorem dX12_readGuild_132 : decode cX12_readGuild 132 = .ok (.getfield 81, 3) := by decide +kernel
theorem dX12_readGuild_135 : decode cX12_readGuild 135 = .ok (.bipush 83, 2) := by decide +kernel
theorem dX12_readGuild_137 : decode cX12_readGuild 137 = .ok (.dup2, 1) := by decide +kernel
theorem dX12_readGuild_138 : decode cX12_readGuild 138 = .ok (.iaload, 1) := by decide +kernel
theorem dX12_readGuild_139 : decode cX12_readGuild 139 = .ok (.iconst 1, 1) := by decide +kernel
theorem dX12_readGuild_140 : decode cX12_readGuild 140 = .ok (.iadd, 1) := by decide +kernel
theorem dX12_readGuild_141 : decode cX12_readGuild 141 = .ok (.iastore, 1) := by decide +kernel
theorem dX12_readGuild_142 : decode cX12_readGuild 142 = .ok (.return_, 1) := by decide +kernel
theorem dX12_readPane_0 : decode cX12_readPane 0 = .ok (.aload_n 0, 1) := by decide +kernel
theorem dX12_readPane_1 : decode cX12_readPane 1 = .ok (.getfield 81, 3) := by decide +kernel
theorem dX12_readPane_4 : decode cX12_readPane 4 = .ok (.bipush 84, 2) := by decide +kernel
theorem dX12_readPane_6 : decode cX12_readPane 6 = .ok (.iaload, 1) := by decide +kernel
theorem dX12_readPane_7 : decode cX12_readPane 7 = .ok (.istore_n 1, 1) := by decide +kernel
theorem dX12_readPane_8 : decode cX12_readPane 8 = .ok (.iload_n 1, 1) := by decide +kernel
theorem dX12_readPane_9 : decode cX12_readPane 9 = .ok (.bipush 12, 2) := by decide +kernel
theorem dX12_readPane_11 : decode cX12_readPane 11 = .ok (.if_icmp .ne 9, 3) := by decide +kernel
theorem dX12_readPane_14 : decode cX12_readPane 14 = .ok (.aload_n 0, 1) := by decide +kernel
theorem dX12_readPane_15 : decode cX12_readPane 15 = .ok (.iconst 5, 1) := by decide +kernel
theorem dX12_readPane_16 : decode cX12_readPane 16 = .ok (.invokevirtual 165, 3) := by decide +kernel
theorem dX12_readPane_19 : decode cX12_readPane 19 = .ok (.return_, 1) := by decide +kernel
theorem dX12_readPane_20 : decode cX12_readPane 20 = .ok (.aload_n 0, 1) := by decide +kernel
theorem dX12_readPane_21 : decode cX12_readPane 21 = .ok (.dup, 1) := by decide +kernel
theorem dX12_readPane_22 : decode cX12_readPane 22 = .ok (.getfield 156, 3) := by decide +kernel
theorem dX12_readPane_25 : decode cX12_readPane 25 = .ok (.iconst 1, 1) := by decide +kernel
theorem dX12_readPane_26 : decode cX12_readPane 26 = .ok (.iadd, 1) := by decide +kernel
theorem dX12_readPane_27 : decode cX12_readPane 27 = .ok (.putfield 156, 3) := by decide +kernel
theorem dX12_readPane_30 : decode cX12_readPane 30 = .ok (.bipush 97, 2) := by decide +kernel
theorem dX12_readPane_32 : decode cX12_readPane 32 = .ok (.iconst 4, 1) := by decide +kernel
theorem dX12_readPane_33 : decode cX12_readPane 33 = .ok (.iload_n 1, 1) := by decide +kernel
theorem dX12_readPane_34 : decode cX12_readPane 34 = .ok (.imul, 1) := by decide +kernel
theorem dX12_readPane_35 : decode cX12_readPane 35 = .ok (.iadd, 1) := by decide +kernel
theorem dX12_readPane_36 : decode cX12_readPane 36 = .ok (.istore_n 2, 1) := by decide +kernel
theorem dX12_readPane_37 : decode cX12_readPane 37 = .ok (.aload_n 0, 1) := by decide +kernel
theorem dX12_readPane_38 : decode cX12_readPane 38 = .ok (.getfield 81, 3) := by decide +kernel
theorem dX12_readPane_41 : decode cX12_readPane 41 = .ok (.iload_n 2, 1) := by decide +kernel
theorem dX12_readPane_42 : decode cX12_readPane 42 = .ok (.aload_n 0, 1) := by decide +kernel
theorem dX12_readPane_43 : decode cX12_readPane 43 = .ok (.iconst 0, 1) := by decide +kernel
theorem dX12_readPane_44 : decode cX12_readPane 44 = .ok (.bipush 7, 2) := by decide +kernel
theorem dX12_readPane_46 : decode cX12_readPane 46 = .ok (.invokevirtual 178, 3) := by decide +kernel
theorem dX12_readPane_49 : decode cX12_readPane 49 = .ok (.iastore, 1) := by decide +kernel
theorem dX12_readPane_50 : decode cX12_readPane 50 = .ok (.iconst 0, 1) := by decide +kernel
theorem dX12_readPane_51 : decode cX12_readPane 51 = .ok (.istore_n 3, 1) := by decide +kernel
theorem dX12_readPane_52 : decode cX12_readPane 52 = .ok (.iload_n 3, 1) := by decide +kernel
theorem dX12_readPane_53 : decode cX12_readPane 53 = .ok (.iload_n 1, 1) := by decide +kernel
theorem dX12_readPane_54 : decode cX12_readPane 54 = .ok (.if_icmp .ge 81, 3) := by decide +kernel
theorem dX12_readPane_57 : decode cX12_readPane 57 = .ok (.aload_n 0, 1) := by decide +kernel
theorem dX12_readPane_58 : decode cX12_readPane 58 = .ok (.getfield 159, 3) := by decide +kernel
theorem dX12_readPane_61 : decode cX12_readPane 61 = .ok (.ifCond .ne 74, 3) := by decide +kernel
theorem dX12_readPane_64 : decode cX12_readPane 64 = .ok (.bipush 97, 2) := by decide +kernel
theorem dX12_readPane_66 : decode cX12_readPane 66 = .ok (.iconst 4, 1) := by decide +kernel
theorem dX12_readPane_67 : decode cX12_readPane 67 = .ok (.iload_n 3, 1) := by decide +kernel
theorem dX12_readPane_68 : decode cX12_readPane 68 = .ok (.imul, 1) := by decide +kernel
theorem dX12_readPane_69 : decode cX12_readPane 69 = .ok (.iadd, 1) := by decide +kernel
theorem dX12_readPane_70 : decode cX12_readPane 70 = .ok (.istore 4, 2) := by decide +kernel
theorem dX12_readPane_72 : decode cX12_readPane 72 = .ok (.aload_n 0, 1) := by decide +kernel
theorem dX12_readPane_73 : decode cX12_readPane 73 = .ok (.getfield 24, 3) := by decide +kernel
theorem dX12_readPane_76 : decode cX12_readPane 76 = .ok (.aload_n 0, 1) := by decide +kernel
theorem dX12_readPane_77 : decode cX12_readPane 77 = .ok (.getfield 156, 3) := by decide +kernel
theorem dX12_readPane_80 : decode cX12_readPane 80 = .ok (.iaload, 1) := by decide +kernel
theorem dX12_readPane_81 : decode cX12_readPane 81 = .ok (.iconst 2, 1) := by decide +kernel
theorem dX12_readPane_82 : decode cX12_readPane 82 = .ok (.if_icmp .ne 47, 3) := by decide +kernel
theorem dX12_readPane_85 : decode cX12_readPane 85 = .ok (.aload_n 0, 1) := by decide +kernel
theorem dX12_readPane_86 : decode cX12_readPane 86 = .ok (.getfield 81, 3) := by decide +kernel
theorem dX12_readPane_89 : decode cX12_readPane 89 = .ok (.iload 4, 2) := by decide +kernel
theorem dX12_readPane_91 : decode cX12_readPane 91 = .ok (.iaload, 1) := by decide +kernel
theorem dX12_readPane_92 : decode cX12_readPane 92 = .ok (.aload_n 0, 1) := by decide +kernel
theorem dX12_readPane_93 : decode cX12_readPane 93 = .ok (.getfield 81, 3) := by decide +kernel
theorem dX12_readPane_96 : decode cX12_readPane 96 = .ok (.iload_n 2, 1) := by decide +kernel
theorem dX12_readPane_97 : decode cX12_readPane 97 = .ok (.iaload, 1) := by decide +kernel
theorem dX12_readPane_98 : decode cX12_readPane 98 = .ok (.if_icmp .ne 31, 3) := by decide +kernel
theorem dX12_readPane_101 : decode cX12_readPane 101 = .ok (.aload_n 0, 1) := by decide +kernel
theorem dX12_readPane_102 : decode cX12_readPane 102 = .ok (.getfield 81, 3) := by decide +kernel
theorem dX12_readPane_105 : decode cX12_readPane 105 = .ok (.iload 4, 2) := by decide +kernel
theorem dX12_readPane_107 : decode cX12_readPane 107 = .ok (.iconst 1, 1) := by decide +kernel
theorem dX12_readPane_108 : decode cX12_readPane 108 = .ok (.iadd, 1) := by decide +kernel
theorem dX12_readPane_109 : decode cX12_readPane 109 = .ok (.iaload, 1) := by decide +kernel
theorem dX12_readPane_110 : decode cX12_readPane 110 = .ok (.i2l, 1) := by decide +kernel
theorem dX12_readPane_111 : decode cX12_readPane 111 = .ok (.aload_n 0, 1) := by decide +kernel
theorem dX12_readPane_112 : decode cX12_readPane 112 = .ok (.getfield 30, 3) := by decide +kernel
theorem dX12_readPane_115 : decode cX12_readPane 115 = .ok (.aload_n 0, 1) := by decide +kernel
theorem dX12_readPane_116 : decode cX12_readPane 116 = .ok (.getfield 156, 3) := by decide +kernel
theorem dX12_readPane_119 : decode cX12_readPane 119 = .ok (.laload, 1) := by decide +kernel
theorem dX12_readPane_120 : decode cX12_readPane 120 = .ok (.lcmp, 1) := by decide +kernel
theorem dX12_readPane_121 : decode cX12_readPane 121 = .ok (.ifCond .ne 8, 3) := by decide +kernel
theorem dX12_readPane_124 : decode cX12_readPane 124 = .ok (.aload_n 0, 1) := by decide +kernel
theorem dX12_readPane_125 : decode cX12_readPane 125 = .ok (.iconst 3, 1) := by decide +kernel
theorem dX12_readPane_126 : decode cX12_readPane 126 = .ok (.invokevirtual 165, 3) := by decide +kernel
theorem dX12_readPane_129 : decode cX12_readPane 129 = .ok (.iinc 3 1, 3) := by decide +kernel
theorem dX12_readPane_132 : decode cX12_readPane 132 = .ok (.goto (-80), 3) := by decide +kernel
theorem dX12_readPane_135 : decode cX12_readPane 135 = .ok (.aload_n 0, 1) := by decide +kernel
theorem dX12_readPane_136 : decode cX12_readPane 136 = .ok (.getfield 81, 3) := by decide +kernel
theorem dX12_readPane_139 : decode cX12_readPane 139 = .ok (.iload_n 2, 1) := by decide +kernel
theorem dX12_readPane_140 : decode cX12_readPane 140 = .ok (.iconst 1, 1) := by decide +kernel
theorem dX12_readPane_141 : decode cX12_readPane 141 = .ok (.iadd, 1) := by decide +kernel
theorem dX12_readPane_142 : decode cX12_readPane 142 = .ok (.aload_n 0, 1) := by decide +kernel
theorem dX12_readPane_143 : decode cX12_readPane 143 = .ok (.iconst 0, 1) := by decide +kernel
theorem dX12_readPane_144 : decode cX12_readPane 144 = .ok (.iconst 3, 1) := by decide +kernel
theorem dX12_readPane_145 : decode cX12_readPane 145 = .ok (.invokevirtual 178, 3) := by decide +kernel
theorem dX12_readPane_148 : decode cX12_readPane 148 = .ok (.iastore, 1) := by decide +kernel
theorem dX12_readPane_149 : decode cX12_readPane 149 = .ok (.aload_n 0, 1) := by decide +kernel
theorem dX12_readPane_150 : decode cX12_readPane 150 = .ok (.iconst 5, 1) := by decide +kernel
theorem dX12_readPane_151 : decode cX12_readPane 151 = .ok (.invokevirtual 175, 3) := by decide +kernel
theorem dX12_readPane_154 : decode cX12_readPane 154 = .ok (.aload_n 0, 1) := by decide +kernel
theorem dX12_readPane_155 : decode cX12_readPane 155 = .ok (.getfield 159, 3) := by decide +kernel
theorem dX12_readPane_158 : decode cX12_readPane 158 = .ok (.ifCond .ne 18, 3) := by decide +kernel
theorem dX12_readPane_161 : decode cX12_readPane 161 = .ok (.aload_n 0, 1) := by decide +kernel
theorem dX12_readPane_162 : decode cX12_readPane 162 = .ok (.invokevirtual 219, 3) := by decide +kernel
theorem dX12_readPane_165 : decode cX12_readPane 165 = .ok (.ifCond .ne 11, 3) := by decide +kernel
theorem dX12_readPane_168 : decode cX12_readPane 168 = .ok (.aload_n 0, 1) := by decide +kernel
theorem dX12_readPane_169 : decode cX12_readPane 169 = .ok (.iconst 1, 1) := by decide +kernel
theorem dX12_readPane_170 : decode cX12_readPane 170 = .ok (.invokevirtual 165, 3) := by decide +kernel
theorem dX12_readPane_173 : decode cX12_readPane 173 = .ok (.goto 22, 3) := by decide +kernel
theorem dX12_readPane_176 : decode cX12_readPane 176 = .ok (.aload_n 0, 1) := by decide +kernel
theorem dX12_readPane_177 : decode cX12_readPane 177 = .ok (.getfield 159, 3) := by decide +kernel
theorem dX12_readPane_180 : decode cX12_readPane 180 = .ok (.ifCond .ne 15, 3) := by decide +kernel
theorem dX12_readPane_183 : decode cX12_readPane 183 = .ok (.aload_n 0, 1) := by decide +kernel
theorem dX12_readPane_184 : decode cX12_readPane 184 = .ok (.invokevirtual 223, 3) := by decide +kernel
theorem dX12_readPane_187 : decode cX12_readPane 187 = .ok (.ifCond .ge 8, 3) := by decide +kernel
theorem dX12_readPane_190 : decode cX12_readPane 190 = .ok (.aload_n 0, 1) := by decide +kernel
theorem dX12_readPane_191 : decode cX12_readPane 191 = .ok (.iconst 2, 1) := by decide +kernel
theorem dX12_readPane_192 : decode cX12_readPane 192 = .ok (.invokevirtual 165, 3) := by decide +kernel
theorem dX12_readPane_195 : decode cX12_readPane 195 = .ok (.aload_n 0, 1) := by decide +kernel
theorem dX12_readPane_196 : decode cX12_readPane 196 = .ok (.getfield 159, 3) := by decide +kernel
theorem dX12_readPane_199 : decode cX12_readPane 199 = .ok (.ifCond .le 4, 3) := by decide +kernel
theorem dX12_readPane_202 : decode cX12_readPane 202 = .ok (.return_, 1) := by decide +kernel
theorem dX12_readPane_203 : decode cX12_readPane 203 = .ok (.aload_n 0, 1) := by decide +kernel
theorem dX12_readPane_204 : decode cX12_readPane 204 = .ok (.getfield 81, 3) := by decide +kernel
theorem dX12_readPane_207 : decode cX12_readPane 207 = .ok (.iload_n 2, 1) := by decide +kernel
theorem dX12_readPane_208 : decode cX12_readPane 208 = .ok (.iconst 2, 1) := by decide +kernel
theorem dX12_readPane_209 : decode cX12_readPane 209 = .ok (.iadd, 1) := by decide +kernel
theorem dX12_readPane_210 : decode cX12_readPane 210 = .ok (.aload_n 0, 1) := by decide +kernel
theorem dX12_readPane_211 : decode cX12_readPane 211 = .ok (.invokevirtual 223, 3) := by decide +kernel
theorem dX12_readPane_214 : decode cX12_readPane 214 = .ok (.iastore, 1) := by decide +kernel
theorem dX12_readPane_215 : decode cX12_readPane 215 = .ok (.aload_n 0, 1) := by decide +kernel
theorem dX12_readPane_216 : decode cX12_readPane 216 = .ok (.dup, 1) := by decide +kernel
theorem dX12_readPane_217 : decode cX12_readPane 217 = .ok (.getfield 156, 3) := by decide +kernel
theorem dX12_readPane_220 : decode cX12_readPane 220 = .ok (.iconst 1, 1) := by decide +kernel
theorem dX12_readPane_221 : decode cX12_readPane 221 = .ok (.iadd, 1) := by decide +kernel
theorem dX12_readPane_222 : decode cX12_readPane 222 = .ok (.putfield 156, 3) := by decide +kernel
theorem dX12_readPane_225 : decode cX12_readPane 225 = .ok (.aload_n 0, 1) := by decide +kernel
theorem dX12_readPane_226 : decode cX12_readPane 226 = .ok (.getfield 81, 3) := by decide +kernel
theorem dX12_readPane_229 : decode cX12_readPane 229 = .ok (.iload_n 2, 1) := by decide +kernel
theorem dX12_readPane_230 : decode cX12_readPane 230 = .ok (.iconst 3, 1) := by decide +kernel
theorem dX12_readPane_231 : decode cX12_readPane 231 = .ok (.iadd, 1) := by decide +kernel
theorem dX12_readPane_232 : decode cX12_readPane 232 = .ok (.aload_n 0, 1) := by decide +kernel
theorem dX12_readPane_233 : decode cX12_readPane 233 = .ok (.bipush 6, 2) := by decide +kernel
theorem dX12_readPane_235 : decode cX12_readPane 235 = .ok (.iconst 1, 1) := by decide +kernel
theorem dX12_readPane_236 : decode cX12_readPane 236 = .ok (.bipush 7, 2) := by decide +kernel
theorem dX12_readPane_238 : decode cX12_readPane 238 = .ok (.invokevirtual 227, 3) := by decide +kernel
theorem dX12_readPane_241 : decode cX12_readPane 241 = .ok (.iastore, 1) := by decide +kernel
theorem dX12_readPane_242 : decode cX12_readPane 242 = .ok (.aload_n 0, 1) := by decide +kernel
theorem dX12_readPane_243 : decode cX12_readPane 243 = .ok (.getfield 81, 3) := by decide +kernel
theorem dX12_readPane_246 : decode cX12_readPane 246 = .ok (.bipush 84, 2) := by decide +kernel
theorem dX12_readPane_248 : decode cX12_readPane 248 = .ok (.dup2, 1) := by decide +kernel
theorem dX12_readPane_249 : decode cX12_readPane 249 = .ok (.iaload, 1) := by decide +kernel
theorem dX12_readPane_250 : decode cX12_readPane 250 = .ok (.iconst 1, 1) := by decide +kernel
theorem dX12_readPane_251 : decode cX12_readPane 251 = .ok (.iadd, 1) := by decide +kernel
theorem dX12_readPane_252 : decode cX12_readPane 252 = .ok (.iastore, 1) := by decide +kernel
theorem dX12_readPane_253 : decode cX12_readPane 253 = .ok (.return_, 1) := by decide +kernel
theorem dX12_readLaw_0 : decode cX12_readLaw 0 = .ok (.aload_n 0, 1) := by decide +kernel
theorem dX12_readLaw_1 : decode cX12_readLaw 1 = .ok (.iconst (-1), 1) := by decide +kernel
theorem dX12_readLaw_2 : decode cX12_readLaw 2 = .ok (.putfield 231, 3) := by decide +kernel
theorem dX12_readLaw_5 : decode cX12_readLaw 5 = .ok (.iconst 0, 1) := by decide +kernel
theorem dX12_readLaw_6 : decode cX12_readLaw 6 = .ok (.istore_n 1, 1) := by decide +kernel
theorem dX12_readLaw_7 : decode cX12_readLaw 7 = .ok (.iload_n 1, 1) := by decide +kernel
theorem dX12_readLaw_8 : decode cX12_readLaw 8 = .ok (.iconst 4, 1) := by decide +kernel
theorem dX12_readLaw_9 : decode cX12_readLaw 9 = .ok (.if_icmp .ge 32, 3) := by decide +kernel
theorem dX12_readLaw_12 : decode cX12_readLaw 12 = .ok (.aload_n 0, 1) := by decide +kernel
theorem dX12_readLaw_13 : decode cX12_readLaw 13 = .ok (.aload_n 0, 1) := by decide +kernel
theorem dX12_readLaw_14 : decode cX12_readLaw 14 = .ok (.bipush 7, 2) := by decide +kernel
theorem dX12_readLaw_16 : decode cX12_readLaw 16 = .ok (.iload_n 1, 1) := by decide +kernel
theorem dX12_readLaw_17 : decode cX12_readLaw 17 = .ok (.iadd, 1) := by decide +kernel
theorem dX12_readLaw_18 : decode cX12_readLaw 18 = .ok (.invokevirtual 169, 3) := by decide +kernel
theorem dX12_readLaw_21 : decode cX12_readLaw 21 = .ok (.ifCond .eq 7, 3) := by decide +kernel
theorem dX12_readLaw_24 : decode cX12_readLaw 24 = .ok (.iload_n 1, 1) := by decide +kernel
theorem dX12_readLaw_25 : decode cX12_readLaw 25 = .ok (.goto 7, 3) := by decide +kernel
theorem dX12_readLaw_28 : decode cX12_readLaw 28 = .ok (.aload_n 0, 1) := by decide +kernel
theorem dX12_readLaw_29 : decode cX12_readLaw 29 = .ok (.getfield 231, 3) := by decide +kernel
theorem dX12_readLaw_32 : decode cX12_readLaw 32 = .ok (.putfield 231, 3) := by decide +kernel
theorem dX12_readLaw_35 : decode cX12_readLaw 35 = .ok (.iinc 1 1, 3) := by decide +kernel
theorem dX12_readLaw_38 : decode cX12_readLaw 38 = .ok (.goto (-31), 3) := by decide +kernel
theorem dX12_readLaw_41 : decode cX12_readLaw 41 = .ok (.aload_n 0, 1) := by decide +kernel
theorem dX12_readLaw_42 : decode cX12_readLaw 42 = .ok (.getfield 231, 3) := by decide +kernel
theorem dX12_readLaw_45 : decode cX12_readLaw 45 = .ok (.ifCond .ge 9, 3) := by decide +kernel
theorem dX12_readLaw_48 : decode cX12_readLaw 48 = .ok (.aload_n 0, 1) := by decide +kernel
theorem dX12_readLaw_49 : decode cX12_readLaw 49 = .ok (.iconst 1, 1) := by decide +kernel
theorem dX12_readLaw_50 : decode cX12_readLaw 50 = .ok (.invokevirtual 165, 3) := by decide +kernel
theorem dX12_readLaw_53 : decode cX12_readLaw 53 = .ok (.return_, 1) := by decide +kernel
theorem dX12_readLaw_54 : decode cX12_readLaw 54 = .ok (.sipush 145, 3) := by decide +kernel
theorem dX12_readLaw_57 : decode cX12_readLaw 57 = .ok (.aload_n 0, 1) := by decide +kernel
theorem dX12_readLaw_58 : decode cX12_readLaw 58 = .ok (.getfield 231, 3) := by decide +kernel
theorem dX12_readLaw_61 : decode cX12_readLaw 61 = .ok (.iadd, 1) := by decide +kernel
theorem dX12_readLaw_62 : decode cX12_readLaw 62 = .ok (.istore_n 1, 1) := by decide +kernel
theorem dX12_readLaw_63 : decode cX12_readLaw 63 = .ok (.aload_n 0, 1) := by decide +kernel
theorem dX12_readLaw_64 : decode cX12_readLaw 64 = .ok (.getfield 81, 3) := by decide +kernel
theorem dX12_readLaw_67 : decode cX12_readLaw 67 = .ok (.iload_n 1, 1) := by decide +kernel
theorem dX12_readLaw_68 : decode cX12_readLaw 68 = .ok (.iaload, 1) := by decide +kernel
theorem dX12_readLaw_69 : decode cX12_readLaw 69 = .ok (.ifCond .lt 9, 3) := by decide +kernel
theorem dX12_readLaw_72 : decode cX12_readLaw 72 = .ok (.aload_n 0, 1) := by decide +kernel
theorem dX12_readLaw_73 : decode cX12_readLaw 73 = .ok (.iconst 3, 1) := by decide +kernel
theorem dX12_readLaw_74 : decode cX12_readLaw 74 = .ok (.invokevirtual 165, 3) := by decide +kernel
theorem dX12_readLaw_77 : decode cX12_readLaw 77 = .ok (.return_, 1) := by decide +kernel
theorem dX12_readLaw_78 : decode cX12_readLaw 78 = .ok (.aload_n 0, 1) := by decide +kernel
theorem dX12_readLaw_79 : decode cX12_readLaw 79 = .ok (.dup, 1) := by decide +kernel
theorem dX12_readLaw_80 : decode cX12_readLaw 80 = .ok (.getfield 156, 3) := by decide +kernel
theorem dX12_readLaw_83 : decode cX12_readLaw 83 = .ok (.iconst 1, 1) := by decide +kernel
theorem dX12_readLaw_84 : decode cX12_readLaw 84 = .ok (.iadd, 1) := by decide +kernel
theorem dX12_readLaw_85 : decode cX12_readLaw 85 = .ok (.putfield 156, 3) := by decide +kernel
theorem dX12_readLaw_88 : decode cX12_readLaw 88 = .ok (.aload_n 0, 1) := by decide +kernel
theorem dX12_readLaw_89 : decode cX12_readLaw 89 = .ok (.getfield 81, 3) := by decide +kernel
theorem dX12_readLaw_92 : decode cX12_readLaw 92 = .ok (.iload_n 1, 1) := by decide +kernel
theorem dX12_readLaw_93 : decode cX12_readLaw 93 = .ok (.aload_n 0, 1) := by decide +kernel
theorem dX12_readLaw_94 : decode cX12_readLaw 94 = .ok (.getfield 185, 3) := by decide +kernel
theorem dX12_readLaw_97 : decode cX12_readLaw 97 = .ok (.iastore, 1) := by decide +kernel
theorem dX12_readLaw_98 : decode cX12_readLaw 98 = .ok (.aload_n 0, 1) := by decide +kernel
theorem dX12_readLaw_99 : decode cX12_readLaw 99 = .ok (.iconst 0, 1) := by decide +kernel
theorem dX12_readLaw_100 : decode cX12_readLaw 100 = .ok (.invokevirtual 234, 3) := by decide +kernel
theorem dX12_readLaw_103 : decode cX12_readLaw 103 = .ok (.aload_n 0, 1) := by decide +kernel
theorem dX12_readLaw_104 : decode cX12_readLaw 104 = .ok (.iconst 0, 1) := by decide +kernel
theorem dX12_readLaw_105 : decode cX12_readLaw 105 = .ok (.iconst 0, 1) := by decide +kernel
theorem dX12_readLaw_106 : decode cX12_readLaw 106 = .ok (.invokevirtual 237, 3) := by decide +kernel
theorem dX12_readLaw_109 : decode cX12_readLaw 109 = .ok (.return_, 1) := by decide +kernel
theorem dX12_emit_0 : decode cX12_emit 0 = .ok (.aload_n 0, 1) := by decide +kernel
theorem dX12_emit_1 : decode cX12_emit 1 = .ok (.getfield 84, 3) := by decide +kernel
theorem dX12_emit_4 : decode cX12_emit 4 = .ok (.sipush 1100, 3) := by decide +kernel
theorem dX12_emit_7 : decode cX12_emit 7 = .ok (.aload_n 0, 1) := by decide +kernel
theorem dX12_emit_8 : decode cX12_emit 8 = .ok (.getfield 185, 3) := by decide +kernel
theorem dX12_emit_11 : decode cX12_emit 11 = .ok (.iadd, 1) := by decide +kernel
theorem dX12_emit_12 : decode cX12_emit 12 = .ok (.iload_n 1, 1) := by decide +kernel
theorem dX12_emit_13 : decode cX12_emit 13 = .ok (.iastore, 1) := by decide +kernel
theorem dX12_emit_14 : decode cX12_emit 14 = .ok (.aload_n 0, 1) := by decide +kernel
theorem dX12_emit_15 : decode cX12_emit 15 = .ok (.getfield 87, 3) := by decide +kernel
theorem dX12_emit_18 : decode cX12_emit 18 = .ok (.sipush 1100, 3) := by decide +kernel
theorem dX12_emit_21 : decode cX12_emit 21 = .ok (.aload_n 0, 1) := by decide +kernel
theorem dX12_emit_22 : decode cX12_emit 22 = .ok (.getfield 185, 3) := by decide +kernel
theorem dX12_emit_25 : decode cX12_emit 25 = .ok (.iadd, 1) := by decide +kernel
theorem dX12_emit_26 : decode cX12_emit 26 = .ok (.iload_n 2, 1) := by decide +kernel
theorem dX12_emit_27 : decode cX12_emit 27 = .ok (.iastore, 1) := by decide +kernel
theorem dX12_emit_28 : decode cX12_emit 28 = .ok (.aload_n 0, 1) := by decide +kernel
theorem dX12_emit_29 : decode cX12_emit 29 = .ok (.dup, 1) := by decide +kernel
theorem dX12_emit_30 : decode cX12_emit 30 = .ok (.getfield 185, 3) := by decide +kernel
theorem dX12_emit_33 : decode cX12_emit 33 = .ok (.iconst 1, 1) := by decide +kernel
theorem dX12_emit_34 : decode cX12_emit 34 = .ok (.iadd, 1) := by decide +kernel
theorem dX12_emit_35 : decode cX12_emit 35 = .ok (.putfield 185, 3) := by decide +kernel
theorem dX12_emit_38 : decode cX12_emit 38 = .ok (.return_, 1) := by decide +kernel
theorem dX12_all_0 : decode cX12_all 0 = .ok (.aload_n 0, 1) := by decide +kernel
theorem dX12_all_1 : decode cX12_all 1 = .ok (.iload_n 1, 1) := by decide +kernel
theorem dX12_all_2 : decode cX12_all 2 = .ok (.invokevirtual 241, 3) := by decide +kernel
theorem dX12_all_5 : decode cX12_all 5 = .ok (.aload_n 0, 1) := by decide +kernel
theorem dX12_all_6 : decode cX12_all 6 = .ok (.bipush 13, 2) := by decide +kernel
theorem dX12_all_8 : decode cX12_all 8 = .ok (.invokevirtual 169, 3) := by decide +kernel
theorem dX12_all_11 : decode cX12_all 11 = .ok (.ifCond .ne 12, 3) := by decide +kernel
theorem dX12_all_14 : decode cX12_all 14 = .ok (.aload_n 0, 1) := by decide +kernel
theorem dX12_all_15 : decode cX12_all 15 = .ok (.bipush 14, 2) := by decide +kernel
theorem dX12_all_17 : decode cX12_all 17 = .ok (.invokevirtual 169, 3) := by decide +kernel
theorem dX12_all_20 : decode cX12_all 20 = .ok (.ifCond .eq 44, 3) := by decide +kernel
theorem dX12_all_23 : decode cX12_all 23 = .ok (.aload_n 0, 1) := by decide +kernel
theorem dX12_all_24 : decode cX12_all 24 = .ok (.bipush 13, 2) := by decide +kernel
theorem dX12_all_26 : decode cX12_all 26 = .ok (.invokevirtual 169, 3) := by decide +kernel
theorem dX12_all_29 : decode cX12_all 29 = .ok (.istore_n 2, 1) := by decide +kernel
theorem dX12_all_30 : decode cX12_all 30 = .ok (.aload_n 0, 1) := by decide +kernel
theorem dX12_all_31 : decode cX12_all 31 = .ok (.dup, 1) := by decide +kernel
theorem dX12_all_32 : decode cX12_all 32 = .ok (.getfield 156, 3) := by decide +kernel
theorem dX12_all_35 : decode cX12_all 35 = .ok (.iconst 1, 1) := by decide +kernel
theorem dX12_all_36 : decode cX12_all 36 = .ok (.iadd, 1) := by decide +kernel
theorem dX12_all_37 : decode cX12_all 37 = .ok (.putfield 156, 3) := by decide +kernel
theorem dX12_all_40 : decode cX12_all 40 = .ok (.aload_n 0, 1) := by decide +kernel
theorem dX12_all_41 : decode cX12_all 41 = .ok (.iload_n 1, 1) := by decide +kernel
theorem dX12_all_42 : decode cX12_all 42 = .ok (.invokevirtual 241, 3) := by decide +kernel
theorem dX12_all_45 : decode cX12_all 45 = .ok (.aload_n 0, 1) := by decide +kernel
theorem dX12_all_46 : decode cX12_all 46 = .ok (.iload_n 2, 1) := by decide +kernel
theorem dX12_all_47 : decode cX12_all 47 = .ok (.ifCond .eq 8, 3) := by decide +kernel
theorem dX12_all_50 : decode cX12_all 50 = .ok (.bipush 9, 2) := by decide +kernel
theorem dX12_all_52 : decode cX12_all 52 = .ok (.goto 5, 3) := by decide +kernel
theorem dX12_all_55 : decode cX12_all 55 = .ok (.bipush 10, 2) := by decide +kernel
theorem dX12_all_57 : decode cX12_all 57 = .ok (.iconst 0, 1) := by decide +kernel
theorem dX12_all_58 : decode cX12_all 58 = .ok (.invokevirtual 237, 3) := by decide +kernel
theorem dX12_all_61 : decode cX12_all 61 = .ok (.goto (-56), 3) := by decide +kernel
theorem dX12_all_64 : decode cX12_all 64 = .ok (.return_, 1) := by decide +kernel
theorem dX12_test_0 : decode cX12_test 0 = .ok (.aload_n 0, 1) := by decide +kernel
theorem dX12_test_1 : decode cX12_test 1 = .ok (.iload_n 1, 1) := by decide +kernel
theorem dX12_test_2 : decode cX12_test 2 = .ok (.invokevirtual 244, 3) := by decide +kernel
theorem dX12_test_5 : decode cX12_test 5 = .ok (.aload_n 0, 1) := by decide +kernel
theorem dX12_test_6 : decode cX12_test 6 = .ok (.bipush 60, 2) := by decide +kernel
theorem dX12_test_8 : decode cX12_test 8 = .ok (.invokevirtual 162, 3) := by decide +kernel
theorem dX12_test_11 : decode cX12_test 11 = .ok (.istore_n 2, 1) := by decide +kernel
theorem dX12_test_12 : decode cX12_test 12 = .ok (.aload_n 0, 1) := by decide +kernel
theorem dX12_test_13 : decode cX12_test 13 = .ok (.bipush 60, 2) := by decide +kernel
theorem dX12_test_15 : decode cX12_test 15 = .ok (.invokevirtual 247, 3) := by decide +kernel
theorem dX12_test_18 : decode cX12_test 18 = .ok (.ifCond .ne 12, 3) := by decide +kernel
theorem dX12_test_21 : decode cX12_test 21 = .ok (.aload_n 0, 1) := by decide +kernel
theorem dX12_test_22 : decode cX12_test 22 = .ok (.bipush 61, 2) := by decide +kernel
theorem dX12_test_24 : decode cX12_test 24 = .ok (.invokevirtual 247, 3) := by decide +kernel
theorem dX12_test_27 : decode cX12_test 27 = .ok (.ifCond .eq 24, 3) := by decide +kernel
theorem dX12_test_30 : decode cX12_test 30 = .ok (.aload_n 0, 1) := by decide +kernel
theorem dX12_test_31 : decode cX12_test 31 = .ok (.iload_n 1, 1) := by decide +kernel
theorem dX12_test_32 : decode cX12_test 32 = .ok (.invokevirtual 244, 3) := by decide +kernel
theorem dX12_test_35 : decode cX12_test 35 = .ok (.aload_n 0, 1) := by decide +kernel
theorem dX12_test_36 : decode cX12_test 36 = .ok (.iload_n 2, 1) := by decide +kernel
theorem dX12_test_37 : decode cX12_test 37 = .ok (.ifCond .eq 8, 3) := by decide +kernel
theorem dX12_test_40 : decode cX12_test 40 = .ok (.bipush 7, 2) := by decide +kernel
theorem dX12_test_42 : decode cX12_test 42 = .ok (.goto 5, 3) := by decide +kernel
theorem dX12_test_45 : decode cX12_test 45 = .ok (.bipush 8, 2) := by decide +kernel
theorem dX12_test_47 : decode cX12_test 47 = .ok (.iconst 0, 1) := by decide +kernel
theorem dX12_test_48 : decode cX12_test 48 = .ok (.invokevirtual 237, 3) := by decide +kernel
theorem dX12_test_51 : decode cX12_test 51 = .ok (.return_, 1) := by decide +kernel
theorem dX12_sums_0 : decode cX12_sums 0 = .ok (.aload_n 0, 1) := by decide +kernel
theorem dX12_sums_1 : decode cX12_sums 1 = .ok (.iload_n 1, 1) := by decide +kernel
theorem dX12_sums_2 : decode cX12_sums 2 = .ok (.invokevirtual 250, 3) := by decide +kernel
theorem dX12_sums_5 : decode cX12_sums 5 = .ok (.aload_n 0, 1) := by decide +kernel
theorem dX12_sums_6 : decode cX12_sums 6 = .ok (.bipush 43, 2) := by decide +kernel
theorem dX12_sums_8 : decode cX12_sums 8 = .ok (.invokevirtual 162, 3) := by decide +kernel
theorem dX12_sums_11 : decode cX12_sums 11 = .ok (.ifCond .ne 12, 3) := by decide +kernel
theorem dX12_sums_14 : decode cX12_sums 14 = .ok (.aload_n 0, 1) := by decide +kernel
theorem dX12_sums_15 : decode cX12_sums 15 = .ok (.bipush 45, 2) := by decide +kernel
theorem dX12_sums_17 : decode cX12_sums 17 = .ok (.invokevirtual 162, 3) := by decide +kernel
theorem dX12_sums_20 : decode cX12_sums 20 = .ok (.ifCond .eq 42, 3) := by decide +kernel
theorem dX12_sums_23 : decode cX12_sums 23 = .ok (.aload_n 0, 1) := by decide +kernel
theorem dX12_sums_24 : decode cX12_sums 24 = .ok (.bipush 43, 2) := by decide +kernel
theorem dX12_sums_26 : decode cX12_sums 26 = .ok (.invokevirtual 162, 3) := by decide +kernel
theorem dX12_sums_29 : decode cX12_sums 29 = .ok (.istore_n 2, 1) := by decide +kernel
theorem dX12_sums_30 : decode cX12_sums 30 = .ok (.aload_n 0, 1) := by decide +kernel
theorem dX12_sums_31 : decode cX12_sums 31 = .ok (.dup, 1) := by decide +kernel
theorem dX12_sums_32 : decode cX12_sums 32 = .ok (.getfield 156, 3) := by decide +kernel
theorem dX12_sums_35 : decode cX12_sums 35 = .ok (.iconst 1, 1) := by decide +kernel
theorem dX12_sums_36 : decode cX12_sums 36 = .ok (.iadd, 1) := by decide +kernel
theorem dX12_sums_37 : decode cX12_sums 37 = .ok (.putfield 156, 3) := by decide +kernel
theorem dX12_sums_40 : decode cX12_sums 40 = .ok (.aload_n 0, 1) := by decide +kernel
theorem dX12_sums_41 : decode cX12_sums 41 = .ok (.iload_n 1, 1) := by decide +kernel
theorem dX12_sums_42 : decode cX12_sums 42 = .ok (.invokevirtual 250, 3) := by decide +kernel
theorem dX12_sums_45 : decode cX12_sums 45 = .ok (.aload_n 0, 1) := by decide +kernel
theorem dX12_sums_46 : decode cX12_sums 46 = .ok (.iload_n 2, 1) := by decide +kernel
theorem dX12_sums_47 : decode cX12_sums 47 = .ok (.ifCond .eq 7, 3) := by decide +kernel
theorem dX12_sums_50 : decode cX12_sums 50 = .ok (.iconst 4, 1) := by decide +kernel
theorem dX12_sums_51 : decode cX12_sums 51 = .ok (.goto 4, 3) := by decide +kernel
theorem dX12_sums_54 : decode cX12_sums 54 = .ok (.iconst 5, 1) := by decide +kernel
theorem dX12_sums_55 : decode cX12_sums 55 = .ok (.iconst 0, 1) := by decide +kernel
theorem dX12_sums_56 : decode cX12_sums 56 = .ok (.invokevirtual 237, 3) := by decide +kernel
theorem dX12_sums_59 : decode cX12_sums 59 = .ok (.goto (-54), 3) := by decide +kernel
theorem dX12_sums_62 : decode cX12_sums 62 = .ok (.return_, 1) := by decide +kernel
theorem dX12_products_0 : decode cX12_products 0 = .ok (.aload_n 0, 1) := by decide +kernel
theorem dX12_products_1 : decode cX12_products 1 = .ok (.iload_n 1, 1) := by decide +kernel
theorem dX12_products_2 : decode cX12_products 2 = .ok (.invokevirtual 253, 3) := by decide +kernel
theorem dX12_products_5 : decode cX12_products 5 = .ok (.aload_n 0, 1) := by decide +kernel
theorem dX12_products_6 : decode cX12_products 6 = .ok (.bipush 42, 2) := by decide +kernel
theorem dX12_products_8 : decode cX12_products 8 = .ok (.invokevirtual 247, 3) := by decide +kernel
theorem dX12_products_11 : decode cX12_products 11 = .ok (.ifCond .eq 18, 3) := by decide +kernel
theorem dX12_products_14 : decode cX12_products 14 = .ok (.aload_n 0, 1) := by decide +kernel
theorem dX12_products_15 : decode cX12_products 15 = .ok (.iload_n 1, 1) := by decide +kernel
theorem dX12_products_16 : decode cX12_products 16 = .ok (.invokevirtual 253, 3) := by decide +kernel
theorem dX12_products_19 : decode cX12_products 19 = .ok (.aload_n 0, 1) := by decide +kernel
theorem dX12_products_20 : decode cX12_products 20 = .ok (.bipush 6, 2) := by decide +kernel
theorem dX12_products_22 : decode cX12_products 22 = .ok (.iconst 0, 1) := by decide +kernel
theorem dX12_products_23 : decode cX12_products 23 = .ok (.invokevirtual 237, 3) := by decide +kernel
theorem dX12_products_26 : decode cX12_products 26 = .ok (.goto (-21), 3) := by decide +kernel
theorem dX12_products_29 : decode cX12_products 29 = .ok (.return_, 1) := by decide +kernel
theorem dX12_factHere_0 : decode cX12_factHere 0 = .ok (.iconst (-1), 1) := by decide +kernel
theorem dX12_factHere_1 : decode cX12_factHere 1 = .ok (.istore_n 1, 1) := by decide +kernel
theorem dX12_factHere_2 : decode cX12_factHere 2 = .ok (.iconst 0, 1) := by decide +kernel
theorem dX12_factHere_3 : decode cX12_factHere 3 = .ok (.istore_n 2, 1) := by decide +kernel
theorem dX12_factHere_4 : decode cX12_factHere 4 = .ok (.iload_n 2, 1) := by decide +kernel
theorem dX12_factHere_5 : decode cX12_factHere 5 = .ok (.bipush 7, 2) := by decide +kernel
theorem dX12_factHere_7 : decode cX12_factHere 7 = .ok (.if_icmp .ge 67, 3) := by decide +kernel
theorem dX12_factHere_10 : decode cX12_factHere 10 = .ok (.iload_n 2, 1) := by decide +kernel
theorem dX12_factHere_11 : decode cX12_factHere 11 = .ok (.iconst 2, 1) := by decide +kernel
theorem dX12_factHere_12 : decode cX12_factHere 12 = .ok (.if_icmp .lt 29, 3) := by decide +kernel
theorem dX12_factHere_15 : decode cX12_factHere 15 = .ok (.iload_n 2, 1) := by decide +kernel
theorem dX12_factHere_16 : decode cX12_factHere 16 = .ok (.iconst 4, 1) := by decide +kernel
theorem dX12_factHere_17 : decode cX12_factHere 17 = .ok (.if_icmp .ge 11, 3) := by decide +kernel
theorem dX12_factHere_20 : decode cX12_factHere 20 = .ok (.aload_n 0, 1) := by decide +kernel
theorem dX12_factHere_21 : decode cX12_factHere 21 = .ok (.getfield 231, 3) := by decide +kernel
theorem dX12_factHere_24 : decode cX12_factHere 24 = .ok (.iconst 2, 1) := by decide +kernel
theorem dX12_factHere_25 : decode cX12_factHere 25 = .ok (.if_icmp .lt 16, 3) := by decide +kernel
theorem dX12_factHere_28 : decode cX12_factHere 28 = .ok (.iload_n 2, 1) := by decide +kernel
theorem dX12_factHere_29 : decode cX12_factHere 29 = .ok (.iconst 4, 1) := by decide +kernel
theorem dX12_factHere_30 : decode cX12_factHere 30 = .ok (.if_icmp .lt 15, 3) := by decide +kernel
theorem dX12_factHere_33 : decode cX12_factHere 33 = .ok (.aload_n 0, 1) := by decide +kernel
theorem dX12_factHere_34 : decode cX12_factHere 34 = .ok (.getfield 231, 3) := by decide +kernel
theorem dX12_factHere_37 : decode cX12_factHere 37 = .ok (.iconst 3, 1) := by decide +kernel
theorem dX12_factHere_38 : decode cX12_factHere 38 = .ok (.if_icmp .ne 7, 3) := by decide +kernel
theorem dX12_factHere_41 : decode cX12_factHere 41 = .ok (.iconst 1, 1) := by decide +kernel
theorem dX12_factHere_42 : decode cX12_factHere 42 = .ok (.goto 4, 3) := by decide +kernel
theorem dX12_factHere_45 : decode cX12_factHere 45 = .ok (.iconst 0, 1) := by decide +kernel
theorem dX12_factHere_46 : decode cX12_factHere 46 = .ok (.istore_n 3, 1) := by decide +kernel
theorem dX12_factHere_47 : decode cX12_factHere 47 = .ok (.iload_n 3, 1) := by decide +kernel
theorem dX12_factHere_48 : decode cX12_factHere 48 = .ok (.ifCond .eq 18, 3) := by decide +kernel
theorem dX12_factHere_51 : decode cX12_factHere 51 = .ok (.aload_n 0, 1) := by decide +kernel
theorem dX12_factHere_52 : decode cX12_factHere 52 = .ok (.bipush 15, 2) := by decide +kernel
theorem dX12_factHere_54 : decode cX12_factHere 54 = .ok (.iload_n 2, 1) := by decide +kernel
theorem dX12_factHere_55 : decode cX12_factHere 55 = .ok (.iadd, 1) := by decide +kernel
theorem dX12_factHere_56 : decode cX12_factHere 56 = .ok (.invokevirtual 169, 3) := by decide +kernel
theorem dX12_factHere_59 : decode cX12_factHere 59 = .ok (.ifCond .eq 7, 3) := by decide +kernel
theorem dX12_factHere_62 : decode cX12_factHere 62 = .ok (.iload_n 2, 1) := by decide +kernel
theorem dX12_factHere_63 : decode cX12_factHere 63 = .ok (.goto 4, 3) := by decide +kernel
theorem dX12_factHere_66 : decode cX12_factHere 66 = .ok (.iload_n 1, 1) := by decide +kernel
theorem dX12_factHere_67 : decode cX12_factHere 67 = .ok (.istore_n 1, 1) := by decide +kernel
theorem dX12_factHere_68 : decode cX12_factHere 68 = .ok (.iinc 2 1, 3) := by decide +kernel
theorem dX12_factHere_71 : decode cX12_factHere 71 = .ok (.goto (-67), 3) := by decide +kernel
theorem dX12_factHere_74 : decode cX12_factHere 74 = .ok (.iload_n 1, 1) := by decide +kernel
theorem dX12_factHere_75 : decode cX12_factHere 75 = .ok (.ireturn, 1) := by decide +kernel
theorem dX12_takePart_0 : decode cX12_takePart 0 = .ok (.aload_n 0, 1) := by decide +kernel
theorem dX12_takePart_1 : decode cX12_takePart 1 = .ok (.getfield 159, 3) := by decide +kernel
theorem dX12_takePart_4 : decode cX12_takePart 4 = .ok (.ifCond .le 4, 3) := by decide +kernel
theorem dX12_takePart_7 : decode cX12_takePart 7 = .ok (.return_, 1) := by decide +kernel
theorem dX12_takePart_8 : decode cX12_takePart 8 = .ok (.aload_n 0, 1) := by decide +kernel
theorem dX12_takePart_9 : decode cX12_takePart 9 = .ok (.getfield 24, 3) := by decide +kernel
theorem dX12_takePart_12 : decode cX12_takePart 12 = .ok (.aload_n 0, 1) := by decide +kernel
theorem dX12_takePart_13 : decode cX12_takePart 13 = .ok (.getfield 156, 3) := by decide +kernel
theorem dX12_takePart_16 : decode cX12_takePart 16 = .ok (.iaload, 1) := by decide +kernel
theorem dX12_takePart_17 : decode cX12_takePart 17 = .ok (.iconst 2, 1) := by decide +kernel
theorem dX12_takePart_18 : decode cX12_takePart 18 = .ok (.if_icmp .ne 7, 3) := by decide +kernel
theorem dX12_takePart_21 : decode cX12_takePart 21 = .ok (.iconst 1, 1) := by decide +kernel
theorem dX12_takePart_22 : decode cX12_takePart 22 = .ok (.goto 4, 3) := by decide +kernel
theorem dX12_takePart_25 : decode cX12_takePart 25 = .ok (.iconst 0, 1) := by decide +kernel
theorem dX12_takePart_26 : decode cX12_takePart 26 = .ok (.istore_n 2, 1) := by decide +kernel
theorem dX12_takePart_27 : decode cX12_takePart 27 = .ok (.aload_n 0, 1) := by decide +kernel
theorem dX12_takePart_28 : decode cX12_takePart 28 = .ok (.invokevirtual 256, 3) := by decide +kernel
theorem dX12_takePart_31 : decode cX12_takePart 31 = .ok (.istore_n 3, 1) := by decide +kernel
theorem dX12_takePart_32 : decode cX12_takePart 32 = .ok (.iload_n 3, 1) := by decide +kernel
theorem dX12_takePart_33 : decode cX12_takePart 33 = .ok (.ifCond .ge 33, 3) := by decide +kernel
theorem dX12_takePart_36 : decode cX12_takePart 36 = .ok (.iload_n 2, 1) := by decide +kernel
theorem dX12_takePart_37 : decode cX12_takePart 37 = .ok (.ifCond .ne 29, 3) := by decide +kernel
theorem dX12_takePart_40 : decode cX12_takePart 40 = .ok (.aload_n 0, 1) := by decide +kernel
theorem dX12_takePart_41 : decode cX12_takePart 41 = .ok (.bipush 40, 2) := by decide +kernel
theorem dX12_takePart_43 : decode cX12_takePart 43 = .ok (.invokevirtual 162, 3) := by decide +kernel
theorem dX12_takePart_46 : decode cX12_takePart 46 = .ok (.ifCond .ne 20, 3) := by decide +kernel
theorem dX12_takePart_49 : decode cX12_takePart 49 = .ok (.aload_n 0, 1) := by decide +kernel
theorem dX12_takePart_50 : decode cX12_takePart 50 = .ok (.bipush 12, 2) := by decide +kernel
theorem dX12_takePart_52 : decode cX12_takePart 52 = .ok (.invokevirtual 169, 3) := by decide +kernel
theorem dX12_takePart_55 : decode cX12_takePart 55 = .ok (.ifCond .ne 11, 3) := by decide +kernel
theorem dX12_takePart_58 : decode cX12_takePart 58 = .ok (.aload_n 0, 1) := by decide +kernel
theorem dX12_takePart_59 : decode cX12_takePart 59 = .ok (.iconst 1, 1) := by decide +kernel
theorem dX12_takePart_60 : decode cX12_takePart 60 = .ok (.invokevirtual 165, 3) := by decide +kernel
theorem dX12_takePart_63 : decode cX12_takePart 63 = .ok (.goto 13, 3) := by decide +kernel
theorem dX12_takePart_66 : decode cX12_takePart 66 = .ok (.iload_n 1, 1) := by decide +kernel
theorem dX12_takePart_67 : decode cX12_takePart 67 = .ok (.iconst 5, 1) := by decide +kernel
theorem dX12_takePart_68 : decode cX12_takePart 68 = .ok (.if_icmp .ne 8, 3) := by decide +kernel
theorem dX12_takePart_71 : decode cX12_takePart 71 = .ok (.aload_n 0, 1) := by decide +kernel
theorem dX12_takePart_72 : decode cX12_takePart 72 = .ok (.iconst 5, 1) := by decide +kernel
theorem dX12_takePart_73 : decode cX12_takePart 73 = .ok (.invokevirtual 165, 3) := by decide +kernel
theorem dX12_takePart_76 : decode cX12_takePart 76 = .ok (.aload_n 0, 1) := by decide +kernel
theorem dX12_takePart_77 : decode cX12_takePart 77 = .ok (.getfield 159, 3) := by decide +kernel
theorem dX12_takePart_80 : decode cX12_takePart 80 = .ok (.ifCond .le 4, 3) := by decide +kernel
theorem dX12_takePart_83 : decode cX12_takePart 83 = .ok (.return_, 1) := by decide +kernel
theorem dX12_takePart_84 : decode cX12_takePart 84 = .ok (.aload_n 0, 1) := by decide +kernel
theorem dX12_takePart_85 : decode cX12_takePart 85 = .ok (.bipush 12, 2) := by decide +kernel
theorem dX12_takePart_87 : decode cX12_takePart 87 = .ok (.invokevirtual 172, 3) := by decide +kernel
theorem dX12_takePart_90 : decode cX12_takePart 90 = .ok (.ifCond .eq 19, 3) := by decide +kernel
theorem dX12_takePart_93 : decode cX12_takePart 93 = .ok (.aload_n 0, 1) := by decide +kernel
theorem dX12_takePart_94 : decode cX12_takePart 94 = .ok (.iload_n 1, 1) := by decide +kernel
theorem dX12_takePart_95 : decode cX12_takePart 95 = .ok (.iconst 1, 1) := by decide +kernel
theorem dX12_takePart_96 : decode cX12_takePart 96 = .ok (.iadd, 1) := by decide +kernel
theorem dX12_takePart_97 : decode cX12_takePart 97 = .ok (.invokevirtual 253, 3) := by decide +kernel
theorem dX12_takePart_100 : decode cX12_takePart 100 = .ok (.aload_n 0, 1) := by decide +kernel
theorem dX12_takePart_101 : decode cX12_takePart 101 = .ok (.iconst 3, 1) := by decide +kernel
theorem dX12_takePart_102 : decode cX12_takePart 102 = .ok (.iconst 0, 1) := by decide +kernel
theorem dX12_takePart_103 : decode cX12_takePart 103 = .ok (.invokevirtual 237, 3) := by decide +kernel
theorem dX12_takePart_106 : decode cX12_takePart 106 = .ok (.goto 69, 3) := by decide +kernel
theorem dX12_takePart_109 : decode cX12_takePart 109 = .ok (.aload_n 0, 1) := by decide +kernel
theorem dX12_takePart_110 : decode cX12_takePart 110 = .ok (.bipush 40, 2) := by decide +kernel
theorem dX12_takePart_112 : decode cX12_takePart 112 = .ok (.invokevirtual 247, 3) := by decide +kernel
theorem dX12_takePart_115 : decode cX12_takePart 115 = .ok (.ifCond .eq 19, 3) := by decide +kernel
theorem dX12_takePart_118 : decode cX12_takePart 118 = .ok (.aload_n 0, 1) := by decide +kernel
theorem dX12_takePart_119 : decode cX12_takePart 119 = .ok (.iload_n 1, 1) := by decide +kernel
theorem dX12_takePart_120 : decode cX12_takePart 120 = .ok (.iconst 1, 1) := by decide +kernel
theorem dX12_takePart_121 : decode cX12_takePart 121 = .ok (.iadd, 1) := by decide +kernel
theorem dX12_takePart_122 : decode cX12_takePart 122 = .ok (.invokevirtual 234, 3) := by decide +kernel
theorem dX12_takePart_125 : decode cX12_takePart 125 = .ok (.aload_n 0, 1) := by decide +kernel
theorem dX12_takePart_126 : decode cX12_takePart 126 = .ok (.bipush 41, 2) := by decide +kernel
theorem dX12_takePart_128 : decode cX12_takePart 128 = .ok (.invokevirtual 198, 3) := by decide +kernel
theorem dX12_takePart_131 : decode cX12_takePart 131 = .ok (.goto 44, 3) := by decide +kernel
theorem dX12_takePart_134 : decode cX12_takePart 134 = .ok (.aload_n 0, 1) := by decide +kernel
theorem dX12_takePart_135 : decode cX12_takePart 135 = .ok (.iload_n 2, 1) := by decide +kernel
theorem dX12_takePart_136 : decode cX12_takePart 136 = .ok (.ifCond .eq 7, 3) := by decide +kernel
theorem dX12_takePart_139 : decode cX12_takePart 139 = .ok (.iconst 1, 1) := by decide +kernel
theorem dX12_takePart_140 : decode cX12_takePart 140 = .ok (.goto 4, 3) := by decide +kernel
theorem dX12_takePart_143 : decode cX12_takePart 143 = .ok (.iconst 2, 1) := by decide +kernel
theorem dX12_takePart_144 : decode cX12_takePart 144 = .ok (.iload_n 2, 1) := by decide +kernel
theorem dX12_takePart_145 : decode cX12_takePart 145 = .ok (.ifCond .eq 16, 3) := by decide +kernel
theorem dX12_takePart_148 : decode cX12_takePart 148 = .ok (.aload_n 0, 1) := by decide +kernel
theorem dX12_takePart_149 : decode cX12_takePart 149 = .ok (.getfield 30, 3) := by decide +kernel
theorem dX12_takePart_152 : decode cX12_takePart 152 = .ok (.aload_n 0, 1) := by decide +kernel
theorem dX12_takePart_153 : decode cX12_takePart 153 = .ok (.getfield 156, 3) := by decide +kernel
theorem dX12_takePart_156 : decode cX12_takePart 156 = .ok (.laload, 1) := by decide +kernel
theorem dX12_takePart_157 : decode cX12_takePart 157 = .ok (.l2i, 1) := by decide +kernel
theorem dX12_takePart_158 : decode cX12_takePart 158 = .ok (.goto 4, 3) := by decide +kernel
theorem dX12_takePart_161 : decode cX12_takePart 161 = .ok (.iload_n 3, 1) := by decide +kernel
theorem dX12_takePart_162 : decode cX12_takePart 162 = .ok (.invokevirtual 237, 3) := by decide +kernel
theorem dX12_takePart_165 : decode cX12_takePart 165 = .ok (.aload_n 0, 1) := by decide +kernel
theorem dX12_takePart_166 : decode cX12_takePart 166 = .ok (.dup, 1) := by decide +kernel
theorem dX12_takePart_167 : decode cX12_takePart 167 = .ok (.getfield 156, 3) := by decide +kernel
theorem dX12_takePart_170 : decode cX12_takePart 170 = .ok (.iconst 1, 1) := by decide +kernel
theorem dX12_takePart_171 : decode cX12_takePart 171 = .ok (.iadd, 1) := by decide +kernel
theorem dX12_takePart_172 : decode cX12_takePart 172 = .ok (.putfield 156, 3) := by decide +kernel
theorem dX12_takePart_175 : decode cX12_takePart 175 = .ok (.return_, 1) := by decide +kernel
theorem dX12_worthAt_0 : decode cX12_worthAt 0 = .ok (.iconst 0, 1) := by decide +kernel
theorem dX12_worthAt_1 : decode cX12_worthAt 1 = .ok (.istore_n 2, 1) := by decide +kernel
theorem dX12_worthAt_2 : decode cX12_worthAt 2 = .ok (.iload_n 1, 1) := by decide +kernel
theorem dX12_worthAt_3 : decode cX12_worthAt 3 = .ok (.istore_n 3, 1) := by decide +kernel
theorem dX12_worthAt_4 : decode cX12_worthAt 4 = .ok (.aload_n 0, 1) := by decide +kernel
theorem dX12_worthAt_5 : decode cX12_worthAt 5 = .ok (.getfield 84, 3) := by decide +kernel
theorem dX12_worthAt_8 : decode cX12_worthAt 8 = .ok (.iload_n 3, 1) := by decide +kernel
theorem dX12_worthAt_9 : decode cX12_worthAt 9 = .ok (.iaload, 1) := by decide +kernel
theorem dX12_worthAt_10 : decode cX12_worthAt 10 = .ok (.ifCond .eq 130, 3) := by decide +kernel
theorem dX12_worthAt_13 : decode cX12_worthAt 13 = .ok (.aload_n 0, 1) := by decide +kernel
theorem dX12_worthAt_14 : decode cX12_worthAt 14 = .ok (.getfield 84, 3) := by decide +kernel
theorem dX12_worthAt_17 : decode cX12_worthAt 17 = .ok (.iload_n 3, 1) := by decide +kernel
theorem dX12_worthAt_18 : decode cX12_worthAt 18 = .ok (.iaload, 1) := by decide +kernel
theorem dX12_worthAt_19 : decode cX12_worthAt 19 = .ok (.istore 4, 2) := by decide +kernel
theorem dX12_worthAt_21 : decode cX12_worthAt 21 = .ok (.iload 4, 2) := by decide +kernel
theorem dX12_worthAt_23 : decode cX12_worthAt 23 = .ok (.iconst 1, 1) := by decide +kernel
theorem dX12_worthAt_24 : decode cX12_worthAt 24 = .ok (.if_icmp .eq 9, 3) := by decide +kernel
theorem dX12_worthAt_27 : decode cX12_worthAt 27 = .ok (.iload 4, 2) := by decide +kernel
theorem dX12_worthAt_29 : decode cX12_worthAt 29 = .ok (.iconst 2, 1) := by decide +kernel
theorem dX12_worthAt_30 : decode cX12_worthAt 30 = .ok (.if_icmp .ne 41, 3) := by decide +kernel
theorem dX12_worthAt_33 : decode cX12_worthAt 33 = .ok (.aload_n 0, 1) := by decide +kernel
theorem dX12_worthAt_34 : decode cX12_worthAt 34 = .ok (.getfield 96, 3) := by decide +kernel
theorem dX12_worthAt_37 : decode cX12_worthAt 37 = .ok (.iload_n 2, 1) := by decide +kernel
theorem dX12_worthAt_38 : decode cX12_worthAt 38 = .ok (.iload 4, 2) := by decide +kernel
theorem dX12_worthAt_40 : decode cX12_worthAt 40 = .ok (.iconst 1, 1) := by decide +kernel
theorem dX12_worthAt_41 : decode cX12_worthAt 41 = .ok (.if_icmp .ne 12, 3) := by decide +kernel
theorem dX12_worthAt_44 : decode cX12_worthAt 44 = .ok (.aload_n 0, 1) := by decide +kernel
theorem dX12_worthAt_45 : decode cX12_worthAt 45 = .ok (.getfield 87, 3) := by decide +kernel
theorem dX12_worthAt_48 : decode cX12_worthAt 48 = .ok (.iload_n 3, 1) := by decide +kernel
theorem dX12_worthAt_49 : decode cX12_worthAt 49 = .ok (.iaload, 1) := by decide +kernel
theorem dX12_worthAt_50 : decode cX12_worthAt 50 = .ok (.goto 14, 3) := by decide +kernel
theorem dX12_worthAt_53 : decode cX12_worthAt 53 = .ok (.aload_n 0, 1) := by decide +kernel
theorem dX12_worthAt_54 : decode cX12_worthAt 54 = .ok (.getfield 93, 3) := by decide +kernel
theorem dX12_worthAt_57 : decode cX12_worthAt 57 = .ok (.aload_n 0, 1) := by decide +kernel
theorem dX12_worthAt_58 : decode cX12_worthAt 58 = .ok (.getfield 87, 3) := by decide +kernel
theorem dX12_worthAt_61 : decode cX12_worthAt 61 = .ok (.iload_n 3, 1) := by decide +kernel
theorem dX12_worthAt_62 : decode cX12_worthAt 62 = .ok (.iaload, 1) := by decide +kernel
theorem dX12_worthAt_63 : decode cX12_worthAt 63 = .ok (.iaload, 1) := by decide +kernel
theorem dX12_worthAt_64 : decode cX12_worthAt 64 = .ok (.iastore, 1) := by decide +kernel
theorem dX12_worthAt_65 : decode cX12_worthAt 65 = .ok (.iinc 2 1, 3) := by decide +kernel
theorem dX12_worthAt_68 : decode cX12_worthAt 68 = .ok (.goto 66, 3) := by decide +kernel
theorem dX12_worthAt_71 : decode cX12_worthAt 71 = .ok (.iload 4, 2) := by decide +kernel
theorem dX12_worthAt_73 : decode cX12_worthAt 73 = .ok (.iconst 3, 1) := by decide +kernel
theorem dX12_worthAt_74 : decode cX12_worthAt 74 = .ok (.if_icmp .ne 30, 3) := by decide +kernel
theorem dX12_worthAt_77 : decode cX12_worthAt 77 = .ok (.aload_n 0, 1) := by decide +kernel
theorem dX12_worthAt_78 : decode cX12_worthAt 78 = .ok (.getfield 96, 3) := by decide +kernel
theorem dX12_worthAt_81 : decode cX12_worthAt 81 = .ok (.iload_n 2, 1) := by decide +kernel
theorem dX12_worthAt_82 : decode cX12_worthAt 82 = .ok (.iconst 1, 1) := by decide +kernel
theorem dX12_worthAt_83 : decode cX12_worthAt 83 = .ok (.isub, 1) := by decide +kernel
theorem dX12_worthAt_84 : decode cX12_worthAt 84 = .ok (.aload_n 0, 1) := by decide +kernel
theorem dX12_worthAt_85 : decode cX12_worthAt 85 = .ok (.getfield 96, 3) := by decide +kernel
theorem dX12_worthAt_88 : decode cX12_worthAt 88 = .ok (.iload_n 2, 1) := by decide +kernel
theorem dX12_worthAt_89 : decode cX12_worthAt 89 = .ok (.iconst 1, 1) := by decide +kernel
theorem dX12_worthAt_90 : decode cX12_worthAt 90 = .ok (.isub, 1) := by decide +kernel
theorem dX12_worthAt_91 : decode cX12_worthAt 91 = .ok (.iaload, 1) := by decide +kernel
theorem dX12_worthAt_92 : decode cX12_worthAt 92 = .ok (.ifCond .ne 7, 3) := by decide +kernel
theorem dX12_worthAt_95 : decode cX12_worthAt 95 = .ok (.iconst 1, 1) := by decide +kernel
theorem dX12_worthAt_96 : decode cX12_worthAt 96 = .ok (.goto 4, 3) := by decide +kernel
theorem dX12_worthAt_99 : decode cX12_worthAt 99 = .ok (.iconst 0, 1) := by decide +kernel
theorem dX12_worthAt_100 : decode cX12_worthAt 100 = .ok (.iastore, 1) := by decide +kernel
theorem dX12_worthAt_101 : decode cX12_worthAt 101 = .ok (.goto 33, 3) := by decide +kernel
theorem dX12_worthAt_104 : decode cX12_worthAt 104 = .ok (.iinc 2 (-1), 3) := by decide +kernel
theorem dX12_worthAt_107 : decode cX12_worthAt 107 = .ok (.aload_n 0, 1) := by decide +kernel
theorem dX12_worthAt_108 : decode cX12_worthAt 108 = .ok (.getfield 96, 3) := by decide +kernel
theorem dX12_worthAt_111 : decode cX12_worthAt 111 = .ok (.iload_n 2, 1) := by decide +kernel
theorem dX12_worthAt_112 : decode cX12_worthAt 112 = .ok (.iconst 1, 1) := by decide +kernel
theorem dX12_worthAt_113 : decode cX12_worthAt 113 = .ok (.isub, 1) := by decide +kernel
theorem dX12_worthAt_114 : decode cX12_worthAt 114 = .ok (.iload 4, 2) := by decide +kernel
theorem dX12_worthAt_116 : decode cX12_worthAt 116 = .ok (.aload_n 0, 1) := by decide +kernel
theorem dX12_worthAt_117 : decode cX12_worthAt 117 = .ok (.getfield 96, 3) := by decide +kernel
theorem dX12_worthAt_120 : decode cX12_worthAt 120 = .ok (.iload_n 2, 1) := by decide +kernel
theorem dX12_worthAt_121 : decode cX12_worthAt 121 = .ok (.iconst 1, 1) := by decide +kernel
theorem dX12_worthAt_122 : decode cX12_worthAt 122 = .ok (.isub, 1) := by decide +kernel
theorem dX12_worthAt_123 : decode cX12_worthAt 123 = .ok (.iaload, 1) := by decide +kernel
theorem dX12_worthAt_124 : decode cX12_worthAt 124 = .ok (.aload_n 0, 1) := by decide +kernel
theorem dX12_worthAt_125 : decode cX12_worthAt 125 = .ok (.getfield 96, 3) := by decide +kernel
theorem dX12_worthAt_128 : decode cX12_worthAt 128 = .ok (.iload_n 2, 1) := by decide +kernel
theorem dX12_worthAt_129 : decode cX12_worthAt 129 = .ok (.iaload, 1) := by decide +kernel
theorem dX12_worthAt_130 : decode cX12_worthAt 130 = .ok (.invokestatic 259, 3) := by decide +kernel
theorem dX12_worthAt_133 : decode cX12_worthAt 133 = .ok (.iastore, 1) := by decide +kernel
theorem dX12_worthAt_134 : decode cX12_worthAt 134 = .ok (.iinc 3 1, 3) := by decide +kernel
theorem dX12_worthAt_137 : decode cX12_worthAt 137 = .ok (.goto (-133), 3) := by decide +kernel
theorem dX12_worthAt_140 : decode cX12_worthAt 140 = .ok (.aload_n 0, 1) := by decide +kernel
theorem dX12_worthAt_141 : decode cX12_worthAt 141 = .ok (.getfield 96, 3) := by decide +kernel
theorem dX12_worthAt_144 : decode cX12_worthAt 144 = .ok (.iconst 0, 1) := by decide +kernel
theorem dX12_worthAt_145 : decode cX12_worthAt 145 = .ok (.iaload, 1) := by decide +kernel
theorem dX12_worthAt_146 : decode cX12_worthAt 146 = .ok (.ireturn, 1) := by decide +kernel
theorem dX12_both_0 : decode cX12_both 0 = .ok (.iload_n 0, 1) := by decide +kernel
theorem dX12_both_1 : decode cX12_both 1 = .ok (.tableswitch 87 4 9 #[39, 43, 47, 51, 62, 73], 39) := by decide +kernel
theorem dX12_both_40 : decode cX12_both 40 = .ok (.iload_n 1, 1) := by decide +kernel
theorem dX12_both_41 : decode cX12_both 41 = .ok (.iload_n 2, 1) := by decide +kernel
theorem dX12_both_42 : decode cX12_both 42 = .ok (.iadd, 1) := by decide +kernel
theorem dX12_both_43 : decode cX12_both 43 = .ok (.ireturn, 1) := by decide +kernel
theorem dX12_both_44 : decode cX12_both 44 = .ok (.iload_n 1, 1) := by decide +kernel
theorem dX12_both_45 : decode cX12_both 45 = .ok (.iload_n 2, 1) := by decide +kernel
theorem dX12_both_46 : decode cX12_both 46 = .ok (.isub, 1) := by decide +kernel
theorem dX12_both_47 : decode cX12_both 47 = .ok (.ireturn, 1) := by decide +kernel
theorem dX12_both_48 : decode cX12_both 48 = .ok (.iload_n 1, 1) := by decide +kernel
theorem dX12_both_49 : decode cX12_both 49 = .ok (.iload_n 2, 1) := by decide +kernel
theorem dX12_both_50 : decode cX12_both 50 = .ok (.imul, 1) := by decide +kernel
theorem dX12_both_51 : decode cX12_both 51 = .ok (.ireturn, 1) := by decide +kernel
theorem dX12_both_52 : decode cX12_both 52 = .ok (.iload_n 1, 1) := by decide +kernel
theorem dX12_both_53 : decode cX12_both 53 = .ok (.iload_n 2, 1) := by decide +kernel
theorem dX12_both_54 : decode cX12_both 54 = .ok (.if_icmp .ge 7, 3) := by decide +kernel
theorem dX12_both_57 : decode cX12_both 57 = .ok (.iconst 1, 1) := by decide +kernel
theorem dX12_both_58 : decode cX12_both 58 = .ok (.goto 4, 3) := by decide +kernel
theorem dX12_both_61 : decode cX12_both 61 = .ok (.iconst 0, 1) := by decide +kernel
theorem dX12_both_62 : decode cX12_both 62 = .ok (.ireturn, 1) := by decide +kernel
theorem dX12_both_63 : decode cX12_both 63 = .ok (.iload_n 1, 1) := by decide +kernel
theorem dX12_both_64 : decode cX12_both 64 = .ok (.iload_n 2, 1) := by decide +kernel
theorem dX12_both_65 : decode cX12_both 65 = .ok (.if_icmp .ne 7, 3) := by decide +kernel
theorem dX12_both_68 : decode cX12_both 68 = .ok (.iconst 1, 1) := by decide +kernel
theorem dX12_both_69 : decode cX12_both 69 = .ok (.goto 4, 3) := by decide +kernel
theorem dX12_both_72 : decode cX12_both 72 = .ok (.iconst 0, 1) := by decide +kernel
theorem dX12_both_73 : decode cX12_both 73 = .ok (.ireturn, 1) := by decide +kernel
theorem dX12_both_74 : decode cX12_both 74 = .ok (.iload_n 1, 1) := by decide +kernel
theorem dX12_both_75 : decode cX12_both 75 = .ok (.ifCond .eq 11, 3) := by decide +kernel
theorem dX12_both_78 : decode cX12_both 78 = .ok (.iload_n 2, 1) := by decide +kernel
theorem dX12_both_79 : decode cX12_both 79 = .ok (.ifCond .eq 7, 3) := by decide +kernel
theorem dX12_both_82 : decode cX12_both 82 = .ok (.iconst 1, 1) := by decide +kernel
theorem dX12_both_83 : decode cX12_both 83 = .ok (.goto 4, 3) := by decide +kernel
theorem dX12_both_86 : decode cX12_both 86 = .ok (.iconst 0, 1) := by decide +kernel
theorem dX12_both_87 : decode cX12_both 87 = .ok (.ireturn, 1) := by decide +kernel
theorem dX12_both_88 : decode cX12_both 88 = .ok (.iload_n 1, 1) := by decide +kernel
theorem dX12_both_89 : decode cX12_both 89 = .ok (.ifCond .ne 7, 3) := by decide +kernel
theorem dX12_both_92 : decode cX12_both 92 = .ok (.iload_n 2, 1) := by decide +kernel
theorem dX12_both_93 : decode cX12_both 93 = .ok (.ifCond .eq 7, 3) := by decide +kernel
theorem dX12_both_96 : decode cX12_both 96 = .ok (.iconst 1, 1) := by decide +kernel
theorem dX12_both_97 : decode cX12_both 97 = .ok (.goto 4, 3) := by decide +kernel
theorem dX12_both_100 : decode cX12_both 100 = .ok (.iconst 0, 1) := by decide +kernel
theorem dX12_both_101 : decode cX12_both 101 = .ok (.ireturn, 1) := by decide +kernel
theorem dX12_copies_0 : decode cX12_copies 0 = .ok (.iconst 0, 1) := by decide +kernel
theorem dX12_copies_1 : decode cX12_copies 1 = .ok (.istore 4, 2) := by decide +kernel
theorem dX12_copies_3 : decode cX12_copies 3 = .ok (.iload 4, 2) := by decide +kernel
theorem dX12_copies_5 : decode cX12_copies 5 = .ok (.iload_n 3, 1) := by decide +kernel
theorem dX12_copies_6 : decode cX12_copies 6 = .ok (.if_icmp .ge 33, 3) := by decide +kernel
theorem dX12_copies_9 : decode cX12_copies 9 = .ok (.aload_n 0, 1) := by decide +kernel
theorem dX12_copies_10 : decode cX12_copies 10 = .ok (.getfield 99, 3) := by decide +kernel
theorem dX12_copies_13 : decode cX12_copies 13 = .ok (.bipush 40, 2) := by decide +kernel
theorem dX12_copies_15 : decode cX12_copies 15 = .ok (.iload_n 2, 1) := by decide +kernel
theorem dX12_copies_16 : decode cX12_copies 16 = .ok (.imul, 1) := by decide +kernel
theorem dX12_copies_17 : decode cX12_copies 17 = .ok (.iload 4, 2) := by decide +kernel
theorem dX12_copies_19 : decode cX12_copies 19 = .ok (.iadd, 1) := by decide +kernel
theorem dX12_copies_20 : decode cX12_copies 20 = .ok (.aload_n 0, 1) := by decide +kernel
theorem dX12_copies_21 : decode cX12_copies 21 = .ok (.getfield 99, 3) := by decide +kernel
theorem dX12_copies_24 : decode cX12_copies 24 = .ok (.bipush 40, 2) := by decide +kernel
theorem dX12_copies_26 : decode cX12_copies 26 = .ok (.iload_n 1, 1) := by decide +kernel
theorem dX12_copies_27 : decode cX12_copies 27 = .ok (.imul, 1) := by decide +kernel
theorem dX12_copies_28 : decode cX12_copies 28 = .ok (.iload 4, 2) := by decide +kernel
theorem dX12_copies_30 : decode cX12_copies 30 = .ok (.iadd, 1) := by decide +kernel
theorem dX12_copies_31 : decode cX12_copies 31 = .ok (.iaload, 1) := by decide +kernel
theorem dX12_copies_32 : decode cX12_copies 32 = .ok (.iastore, 1) := by decide +kernel
theorem dX12_copies_33 : decode cX12_copies 33 = .ok (.iinc 4 1, 3) := by decide +kernel
theorem dX12_copies_36 : decode cX12_copies 36 = .ok (.goto (-33), 3) := by decide +kernel
theorem dX12_copies_39 : decode cX12_copies 39 = .ok (.return_, 1) := by decide +kernel
theorem dX12_keeps_0 : decode cX12_keeps 0 = .ok (.aload_n 0, 1) := by decide +kernel
theorem dX12_keeps_1 : decode cX12_keeps 1 = .ok (.getfield 201, 3) := by decide +kernel
theorem dX12_keeps_4 : decode cX12_keeps 4 = .ok (.bipush 20, 2) := by decide +kernel
theorem dX12_keeps_6 : decode cX12_keeps 6 = .ok (.if_icmp .ne 41, 3) := by decide +kernel
theorem dX12_keeps_9 : decode cX12_keeps 9 = .ok (.iconst 1, 1) := by decide +kernel
theorem dX12_keeps_10 : decode cX12_keeps 10 = .ok (.istore_n 1, 1) := by decide +kernel
theorem dX12_keeps_11 : decode cX12_keeps 11 = .ok (.iload_n 1, 1) := by decide +kernel
theorem dX12_keeps_12 : decode cX12_keeps 12 = .ok (.bipush 20, 2) := by decide +kernel
theorem dX12_keeps_14 : decode cX12_keeps 14 = .ok (.if_icmp .ge 23, 3) := by decide +kernel
theorem dX12_keeps_17 : decode cX12_keeps 17 = .ok (.aload_n 0, 1) := by decide +kernel
theorem dX12_keeps_18 : decode cX12_keeps 18 = .ok (.iconst 5, 1) := by decide +kernel
theorem dX12_keeps_19 : decode cX12_keeps 19 = .ok (.iload_n 1, 1) := by decide +kernel
theorem dX12_keeps_20 : decode cX12_keeps 20 = .ok (.iadd, 1) := by decide +kernel
theorem dX12_keeps_21 : decode cX12_keeps 21 = .ok (.iconst 5, 1) := by decide +kernel
theorem dX12_keeps_22 : decode cX12_keeps 22 = .ok (.iload_n 1, 1) := by decide +kernel
theorem dX12_keeps_23 : decode cX12_keeps 23 = .ok (.iadd, 1) := by decide +kernel
theorem dX12_keeps_24 : decode cX12_keeps 24 = .ok (.iconst 1, 1) := by decide +kernel
theorem dX12_keeps_25 : decode cX12_keeps 25 = .ok (.isub, 1) := by decide +kernel
theorem dX12_keeps_26 : decode cX12_keeps 26 = .ok (.bipush 40, 2) := by decide +kernel
theorem dX12_keeps_28 : decode cX12_keeps 28 = .ok (.invokevirtual 262, 3) := by decide +kernel
theorem dX12_keeps_31 : decode cX12_keeps 31 = .ok (.iinc 1 1, 3) := by decide +kernel
theorem dX12_keeps_34 : decode cX12_keeps 34 = .ok (.goto (-23), 3) := by decide +kernel
theorem dX12_keeps_37 : decode cX12_keeps 37 = .ok (.aload_n 0, 1) := by decide +kernel
theorem dX12_keeps_38 : decode cX12_keeps 38 = .ok (.dup, 1) := by decide +kernel
theorem dX12_keeps_39 : decode cX12_keeps 39 = .ok (.getfield 201, 3) := by decide +kernel
theorem dX12_keeps_42 : decode cX12_keeps 42 = .ok (.iconst 1, 1) := by decide +kernel
theorem dX12_keeps_43 : decode cX12_keeps 43 = .ok (.isub, 1) := by decide +kernel
theorem dX12_keeps_44 : decode cX12_keeps 44 = .ok (.putfield 201, 3) := by decide +kernel
theorem dX12_keeps_47 : decode cX12_keeps 47 = .ok (.aload_n 0, 1) := by decide +kernel
theorem dX12_keeps_48 : decode cX12_keeps 48 = .ok (.iconst 0, 1) := by decide +kernel
theorem dX12_keeps_49 : decode cX12_keeps 49 = .ok (.iconst 5, 1) := by decide +kernel
theorem dX12_keeps_50 : decode cX12_keeps 50 = .ok (.aload_n 0, 1) := by decide +kernel
theorem dX12_keeps_51 : decode cX12_keeps 51 = .ok (.getfield 201, 3) := by decide +kernel
theorem dX12_keeps_54 : decode cX12_keeps 54 = .ok (.iadd, 1) := by decide +kernel
theorem dX12_keeps_55 : decode cX12_keeps 55 = .ok (.bipush 40, 2) := by decide +kernel
theorem dX12_keeps_57 : decode cX12_keeps 57 = .ok (.invokevirtual 262, 3) := by decide +kernel
theorem dX12_keeps_60 : decode cX12_keeps 60 = .ok (.aload_n 0, 1) := by decide +kernel
theorem dX12_keeps_61 : decode cX12_keeps 61 = .ok (.dup, 1) := by decide +kernel
theorem dX12_keeps_62 : decode cX12_keeps 62 = .ok (.getfield 201, 3) := by decide +kernel
theorem dX12_keeps_65 : decode cX12_keeps 65 = .ok (.iconst 1, 1) := by decide +kernel
theorem dX12_keeps_66 : decode cX12_keeps 66 = .ok (.iadd, 1) := by decide +kernel
theorem dX12_keeps_67 : decode cX12_keeps 67 = .ok (.putfield 201, 3) := by decide +kernel
theorem dX12_keeps_70 : decode cX12_keeps 70 = .ok (.return_, 1) := by decide +kernel
theorem dX12_guilds_0 : decode cX12_guilds 0 = .ok (.aload_n 0, 1) := by decide +kernel
theorem dX12_guilds_1 : decode cX12_guilds 1 = .ok (.getfield 81, 3) := by decide +kernel
theorem dX12_guilds_4 : decode cX12_guilds 4 = .ok (.iconst 3, 1) := by decide +kernel
theorem dX12_guilds_5 : decode cX12_guilds 5 = .ok (.iaload, 1) := by decide +kernel
theorem dX12_guilds_6 : decode cX12_guilds 6 = .ok (.ireturn, 1) := by decide +kernel
theorem dX12_panes_0 : decode cX12_panes 0 = .ok (.aload_n 0, 1) := by decide +kernel
theorem dX12_panes_1 : decode cX12_panes 1 = .ok (.getfield 81, 3) := by decide +kernel
theorem dX12_panes_4 : decode cX12_panes 4 = .ok (.iconst 4, 1) := by decide +kernel
theorem dX12_panes_5 : decode cX12_panes 5 = .ok (.iaload, 1) := by decide +kernel
theorem dX12_panes_6 : decode cX12_panes 6 = .ok (.ireturn, 1) := by decide +kernel
theorem dX12_isGuild_0 : decode cX12_isGuild 0 = .ok (.iload_n 1, 1) := by decide +kernel
theorem dX12_isGuild_1 : decode cX12_isGuild 1 = .ok (.ifCond .lt 15, 3) := by decide +kernel
theorem dX12_isGuild_4 : decode cX12_isGuild 4 = .ok (.iload_n 1, 1) := by decide +kernel
theorem dX12_isGuild_5 : decode cX12_isGuild 5 = .ok (.aload_n 0, 1) := by decide +kernel
theorem dX12_isGuild_6 : decode cX12_isGuild 6 = .ok (.invokevirtual 266, 3) := by decide +kernel
theorem dX12_isGuild_9 : decode cX12_isGuild 9 = .ok (.if_icmp .ge 7, 3) := by decide +kernel
theorem dX12_isGuild_12 : decode cX12_isGuild 12 = .ok (.iconst 1, 1) := by decide +kernel
theorem dX12_isGuild_13 : decode cX12_isGuild 13 = .ok (.goto 4, 3) := by decide +kernel
theorem dX12_isGuild_16 : decode cX12_isGuild 16 = .ok (.iconst 0, 1) := by decide +kernel
theorem dX12_isGuild_17 : decode cX12_isGuild 17 = .ok (.ireturn, 1) := by decide +kernel
theorem dX12_isPane_0 : decode cX12_isPane 0 = .ok (.iload_n 1, 1) := by decide +kernel
theorem dX12_isPane_1 : decode cX12_isPane 1 = .ok (.ifCond .lt 15, 3) := by decide +kernel
theorem dX12_isPane_4 : decode cX12_isPane 4 = .ok (.iload_n 1, 1) := by decide +kernel
theorem dX12_isPane_5 : decode cX12_isPane 5 = .ok (.aload_n 0, 1) := by decide +kernel
theorem dX12_isPane_6 : decode cX12_isPane 6 = .ok (.invokevirtual 269, 3) := by decide +kernel
theorem dX12_isPane_9 : decode cX12_isPane 9 = .ok (.if_icmp .ge 7, 3) := by decide +kernel
theorem dX12_isPane_12 : decode cX12_isPane 12 = .ok (.iconst 1, 1) := by decide +kernel
theorem dX12_isPane_13 : decode cX12_isPane 13 = .ok (.goto 4, 3) := by decide +kernel
theorem dX12_isPane_16 : decode cX12_isPane 16 = .ok (.iconst 0, 1) := by decide +kernel
theorem dX12_isPane_17 : decode cX12_isPane 17 = .ok (.ireturn, 1) := by decide +kernel
theorem dX12_paneOf_0 : decode cX12_paneOf 0 = .ok (.aload_n 0, 1) := by decide +kernel
theorem dX12_paneOf_1 : decode cX12_paneOf 1 = .ok (.getfield 81, 3) := by decide +kernel
theorem dX12_paneOf_4 : decode cX12_paneOf 4 = .ok (.bipush 17, 2) := by decide +kernel
theorem dX12_paneOf_6 : decode cX12_paneOf 6 = .ok (.iconst 4, 1) := by decide +kernel
theorem dX12_paneOf_7 : decode cX12_paneOf 7 = .ok (.iload_n 1, 1) := by decide +kernel
theorem dX12_paneOf_8 : decode cX12_paneOf 8 = .ok (.imul, 1) := by decide +kernel
theorem dX12_paneOf_9 : decode cX12_paneOf 9 = .ok (.iadd, 1) := by decide +kernel
theorem dX12_paneOf_10 : decode cX12_paneOf 10 = .ok (.iload_n 2, 1) := by decide +kernel
theorem dX12_paneOf_11 : decode cX12_paneOf 11 = .ok (.iadd, 1) := by decide +kernel
theorem dX12_paneOf_12 : decode cX12_paneOf 12 = .ok (.iaload, 1) := by decide +kernel
theorem dX12_paneOf_13 : decode cX12_paneOf 13 = .ok (.ireturn, 1) := by decide +kernel
theorem dX12_ownerOf_0 : decode cX12_ownerOf 0 = .ok (.aload_n 0, 1) := by decide +kernel
theorem dX12_ownerOf_1 : decode cX12_ownerOf 1 = .ok (.getfield 99, 3) := by decide +kernel
theorem dX12_ownerOf_4 : decode cX12_ownerOf 4 = .ok (.iconst 0, 1) := by decide +kernel
theorem dX12_ownerOf_5 : decode cX12_ownerOf 5 = .ok (.iload_n 1, 1) := by decide +kernel
theorem dX12_ownerOf_6 : decode cX12_ownerOf 6 = .ok (.iadd, 1) := by decide +kernel
theorem dX12_ownerOf_7 : decode cX12_ownerOf 7 = .ok (.iaload, 1) := by decide +kernel
theorem dX12_ownerOf_8 : decode cX12_ownerOf 8 = .ok (.ireturn, 1) := by decide +kernel
theorem dX12_isBroken_0 : decode cX12_isBroken 0 = .ok (.aload_n 0, 1) := by decide +kernel
theorem dX12_isBroken_1 : decode cX12_isBroken 1 = .ok (.getfield 99, 3) := by decide +kernel
theorem dX12_isBroken_4 : decode cX12_isBroken 4 = .ok (.bipush 12, 2) := by decide +kernel
theorem dX12_isBroken_6 : decode cX12_isBroken 6 = .ok (.iaload, 1) := by decide +kernel
theorem dX12_isBroken_7 : decode cX12_isBroken 7 = .ok (.iload_n 1, 1) := by decide +kernel
theorem dX12_isBroken_8 : decode cX12_isBroken 8 = .ok (.ishr, 1) := by decide +kernel
theorem dX12_isBroken_9 : decode cX12_isBroken 9 = .ok (.iconst 1, 1) := by decide +kernel
theorem dX12_isBroken_10 : decode cX12_isBroken 10 = .ok (.iand, 1) := by decide +kernel
theorem dX12_isBroken_11 : decode cX12_isBroken 11 = .ok (.iconst 1, 1) := by decide +kernel
theorem dX12_isBroken_12 : decode cX12_isBroken 12 = .ok (.if_icmp .ne 7, 3) := by decide +kernel
theorem dX12_isBroken_15 : decode cX12_isBroken 15 = .ok (.iconst 1, 1) := by decide +kernel
theorem dX12_isBroken_16 : decode cX12_isBroken 16 = .ok (.goto 4, 3) := by decide +kernel
theorem dX12_isBroken_19 : decode cX12_isBroken 19 = .ok (.iconst 0, 1) := by decide +kernel
theorem dX12_isBroken_20 : decode cX12_isBroken 20 = .ok (.ireturn, 1) := by decide +kernel
theorem dX12_isTime_0 : decode cX12_isTime 0 = .ok (.iload_n 0, 1) := by decide +kernel
theorem dX12_isTime_1 : decode cX12_isTime 1 = .ok (.iconst 0, 1) := by decide +kernel
theorem dX12_isTime_2 : decode cX12_isTime 2 = .ok (.bipush 51, 2) := by decide +kernel
theorem dX12_isTime_4 : decode cX12_isTime 4 = .ok (.invokestatic 272, 3) := by decide +kernel
theorem dX12_isTime_7 : decode cX12_isTime 7 = .ok (.ifCond .eq 17, 3) := by decide +kernel
theorem dX12_isTime_10 : decode cX12_isTime 10 = .ok (.iload_n 1, 1) := by decide +kernel
theorem dX12_isTime_11 : decode cX12_isTime 11 = .ok (.iconst 0, 1) := by decide +kernel
theorem dX12_isTime_12 : decode cX12_isTime 12 = .ok (.bipush 23, 2) := by decide +kernel
theorem dX12_isTime_14 : decode cX12_isTime 14 = .ok (.invokestatic 272, 3) := by decide +kernel
theorem dX12_isTime_17 : decode cX12_isTime 17 = .ok (.ifCond .eq 7, 3) := by decide +kernel
theorem dX12_isTime_20 : decode cX12_isTime 20 = .ok (.iconst 1, 1) := by decide +kernel
theorem dX12_isTime_21 : decode cX12_isTime 21 = .ok (.goto 4, 3) := by decide +kernel
theorem dX12_isTime_24 : decode cX12_isTime 24 = .ok (.iconst 0, 1) := by decide +kernel
theorem dX12_isTime_25 : decode cX12_isTime 25 = .ok (.ireturn, 1) := by decide +kernel
theorem dX12_isOn_0 : decode cX12_isOn 0 = .ok (.iload_n 1, 1) := by decide +kernel
theorem dX12_isOn_1 : decode cX12_isOn 1 = .ok (.ifCond .lt 31, 3) := by decide +kernel
theorem dX12_isOn_4 : decode cX12_isOn 4 = .ok (.iload_n 1, 1) := by decide +kernel
theorem dX12_isOn_5 : decode cX12_isOn 5 = .ok (.aload_n 0, 1) := by decide +kernel
theorem dX12_isOn_6 : decode cX12_isOn 6 = .ok (.getfield 81, 3) := by decide +kernel
theorem dX12_isOn_9 : decode cX12_isOn 9 = .ok (.iconst 0, 1) := by decide +kernel
theorem dX12_isOn_10 : decode cX12_isOn 10 = .ok (.iaload, 1) := by decide +kernel
theorem dX12_isOn_11 : decode cX12_isOn 11 = .ok (.if_icmp .ge 21, 3) := by decide +kernel
theorem dX12_isOn_14 : decode cX12_isOn 14 = .ok (.iload_n 2, 1) := by decide +kernel
theorem dX12_isOn_15 : decode cX12_isOn 15 = .ok (.ifCond .lt 17, 3) := by decide +kernel
theorem dX12_isOn_18 : decode cX12_isOn 18 = .ok (.iload_n 2, 1) := by decide +kernel
theorem dX12_isOn_19 : decode cX12_isOn 19 = .ok (.aload_n 0, 1) := by decide +kernel
theorem dX12_isOn_20 : decode cX12_isOn 20 = .ok (.getfield 81, 3) := by decide +kernel
theorem dX12_isOn_23 : decode cX12_isOn 23 = .ok (.iconst 1, 1) := by decide +kernel
theorem dX12_isOn_24 : decode cX12_isOn 24 = .ok (.iaload, 1) := by decide +kernel
theorem dX12_isOn_25 : decode cX12_isOn 25 = .ok (.if_icmp .ge 7, 3) := by decide +kernel
theorem dX12_isOn_28 : decode cX12_isOn 28 = .ok (.iconst 1, 1) := by decide +kernel
theorem dX12_isOn_29 : decode cX12_isOn 29 = .ok (.goto 4, 3) := by decide +kernel
theorem dX12_isOn_32 : decode cX12_isOn 32 = .ok (.iconst 0, 1) := by decide +kernel
theorem dX12_isOn_33 : decode cX12_isOn 33 = .ok (.ireturn, 1) := by decide +kernel
theorem dX12_isDark_0 : decode cX12_isDark 0 = .ok (.aload_n 0, 1) := by decide +kernel
theorem dX12_isDark_1 : decode cX12_isDark 1 = .ok (.getfield 93, 3) := by decide +kernel
theorem dX12_isDark_4 : decode cX12_isDark 4 = .ok (.iconst 0, 1) := by decide +kernel
theorem dX12_isDark_5 : decode cX12_isDark 5 = .ok (.iload_n 1, 1) := by decide +kernel
theorem dX12_isDark_6 : decode cX12_isDark 6 = .ok (.iastore, 1) := by decide +kernel
theorem dX12_isDark_7 : decode cX12_isDark 7 = .ok (.aload_n 0, 1) := by decide +kernel
theorem dX12_isDark_8 : decode cX12_isDark 8 = .ok (.getfield 93, 3) := by decide +kernel
theorem dX12_isDark_11 : decode cX12_isDark 11 = .ok (.iconst 1, 1) := by decide +kernel
theorem dX12_isDark_12 : decode cX12_isDark 12 = .ok (.iload_n 2, 1) := by decide +kernel
theorem dX12_isDark_13 : decode cX12_isDark 13 = .ok (.iastore, 1) := by decide +kernel
theorem dX12_isDark_14 : decode cX12_isDark 14 = .ok (.aload_n 0, 1) := by decide +kernel
theorem dX12_isDark_15 : decode cX12_isDark 15 = .ok (.getfield 81, 3) := by decide +kernel
theorem dX12_isDark_18 : decode cX12_isDark 18 = .ok (.bipush 67, 2) := by decide +kernel
theorem dX12_isDark_20 : decode cX12_isDark 20 = .ok (.iaload, 1) := by decide +kernel
theorem dX12_isDark_21 : decode cX12_isDark 21 = .ok (.ifCond .ge 23, 3) := by decide +kernel
theorem dX12_isDark_24 : decode cX12_isDark 24 = .ok (.iload_n 2, 1) := by decide +kernel
theorem dX12_isDark_25 : decode cX12_isDark 25 = .ok (.bipush 6, 2) := by decide +kernel
theorem dX12_isDark_27 : decode cX12_isDark 27 = .ok (.if_icmp .lt 9, 3) := by decide +kernel
theorem dX12_isDark_30 : decode cX12_isDark 30 = .ok (.iload_n 2, 1) := by decide +kernel
theorem dX12_isDark_31 : decode cX12_isDark 31 = .ok (.bipush 18, 2) := by decide +kernel
theorem dX12_isDark_33 : decode cX12_isDark 33 = .ok (.if_icmp .le 7, 3) := by decide +kernel
theorem dX12_isDark_36 : decode cX12_isDark 36 = .ok (.iconst 1, 1) := by decide +kernel
theorem dX12_isDark_37 : decode cX12_isDark 37 = .ok (.goto 26, 3) := by decide +kernel
theorem dX12_isDark_40 : decode cX12_isDark 40 = .ok (.iconst 0, 1) := by decide +kernel
theorem dX12_isDark_41 : decode cX12_isDark 41 = .ok (.goto 22, 3) := by decide +kernel
theorem dX12_isDark_44 : decode cX12_isDark 44 = .ok (.aload_n 0, 1) := by decide +kernel
theorem dX12_isDark_45 : decode cX12_isDark 45 = .ok (.aload_n 0, 1) := by decide +kernel
theorem dX12_isDark_46 : decode cX12_isDark 46 = .ok (.getfield 81, 3) := by decide +kernel
theorem dX12_isDark_49 : decode cX12_isDark 49 = .ok (.bipush 67, 2) := by decide +kernel
theorem dX12_isDark_51 : decode cX12_isDark 51 = .ok (.iaload, 1) := by decide +kernel
theorem dX12_isDark_52 : decode cX12_isDark 52 = .ok (.invokevirtual 276, 3) := by decide +kernel
theorem dX12_isDark_55 : decode cX12_isDark 55 = .ok (.ifCond .eq 7, 3) := by decide +kernel
theorem dX12_isDark_58 : decode cX12_isDark 58 = .ok (.iconst 1, 1) := by decide +kernel
theorem dX12_isDark_59 : decode cX12_isDark 59 = .ok (.goto 4, 3) := by decide +kernel
theorem dX12_isDark_62 : decode cX12_isDark 62 = .ok (.iconst 0, 1) := by decide +kernel
theorem dX12_isDark_63 : decode cX12_isDark 63 = .ok (.ireturn, 1) := by decide +kernel
theorem dX12_findLight_0 : decode cX12_findLight 0 = .ok (.aload_n 0, 1) := by decide +kernel
theorem dX12_findLight_1 : decode cX12_findLight 1 = .ok (.iload_n 1, 1) := by decide +kernel
theorem dX12_findLight_2 : decode cX12_findLight 2 = .ok (.iload_n 2, 1) := by decide +kernel
theorem dX12_findLight_3 : decode cX12_findLight 3 = .ok (.invokevirtual 279, 3) := by decide +kernel
theorem dX12_findLight_6 : decode cX12_findLight 6 = .ok (.istore_n 3, 1) := by decide +kernel
theorem dX12_findLight_7 : decode cX12_findLight 7 = .ok (.iconst 0, 1) := by decide +kernel
theorem dX12_findLight_8 : decode cX12_findLight 8 = .ok (.istore 4, 2) := by decide +kernel
theorem dX12_findLight_10 : decode cX12_findLight 10 = .ok (.iload 4, 2) := by decide +kernel
theorem dX12_findLight_12 : decode cX12_findLight 12 = .ok (.aload_n 0, 1) := by decide +kernel
theorem dX12_findLight_13 : decode cX12_findLight 13 = .ok (.invokevirtual 269, 3) := by decide +kernel
theorem dX12_findLight_16 : decode cX12_findLight 16 = .ok (.if_icmp .ge 187, 3) := by decide +kernel
theorem dX12_findLight_19 : decode cX12_findLight 19 = .ok (.aload_n 0, 1) := by decide +kernel
theorem dX12_findLight_20 : decode cX12_findLight 20 = .ok (.getfield 106, 3) := by decide +kernel
theorem dX12_findLight_23 : decode cX12_findLight 23 = .ok (.iload 4, 2) := by decide +kernel
theorem dX12_findLight_25 : decode cX12_findLight 25 = .ok (.iconst (-1), 1) := by decide +kernel
theorem dX12_findLight_26 : decode cX12_findLight 26 = .ok (.iastore, 1) := by decide +kernel
theorem dX12_findLight_27 : decode cX12_findLight 27 = .ok (.iload_n 3, 1) := by decide +kernel
theorem dX12_findLight_28 : decode cX12_findLight 28 = .ok (.ifCond .ne 169, 3) := by decide +kernel
theorem dX12_findLight_31 : decode cX12_findLight 31 = .ok (.aload_n 0, 1) := by decide +kernel
theorem dX12_findLight_32 : decode cX12_findLight 32 = .ok (.iload 4, 2) := by decide +kernel
theorem dX12_findLight_34 : decode cX12_findLight 34 = .ok (.invokevirtual 283, 3) := by decide +kernel
theorem dX12_findLight_37 : decode cX12_findLight 37 = .ok (.ifCond .ne 160, 3) := by decide +kernel
theorem dX12_findLight_40 : decode cX12_findLight 40 = .ok (.aload_n 0, 1) := by decide +kernel
theorem dX12_findLight_41 : decode cX12_findLight 41 = .ok (.getfield 286, 3) := by decide +kernel
theorem dX12_findLight_44 : decode cX12_findLight 44 = .ok (.aload_n 0, 1) := by decide +kernel
theorem dX12_findLight_45 : decode cX12_findLight 45 = .ok (.iload 4, 2) := by decide +kernel
theorem dX12_findLight_47 : decode cX12_findLight 47 = .ok (.invokevirtual 289, 3) := by decide +kernel
theorem dX12_findLight_50 : decode cX12_findLight 50 = .ok (.ishr, 1) := by decide +kernel
theorem dX12_findLight_51 : decode cX12_findLight 51 = .ok (.iconst 1, 1) := by decide +kernel
theorem dX12_findLight_52 : decode cX12_findLight 52 = .ok (.iand, 1) := by decide +kernel
theorem dX12_findLight_53 : decode cX12_findLight 53 = .ok (.ifCond .ne 144, 3) := by decide +kernel
theorem dX12_findLight_56 : decode cX12_findLight 56 = .ok (.aload_n 0, 1) := by decide +kernel
theorem dX12_findLight_57 : decode cX12_findLight 57 = .ok (.getfield 93, 3) := by decide +kernel
theorem dX12_findLight_60 : decode cX12_findLight 60 = .ok (.iconst 0, 1) := by decide +kernel
theorem dX12_findLight_61 : decode cX12_findLight 61 = .ok (.iload_n 1, 1) := by decide +kernel
theorem dX12_findLight_62 : decode cX12_findLight 62 = .ok (.iastore, 1) := by decide +kernel
theorem dX12_findLight_63 : decode cX12_findLight 63 = .ok (.aload_n 0, 1) := by decide +kernel
theorem dX12_findLight_64 : decode cX12_findLight 64 = .ok (.getfield 93, 3) := by decide +kernel
theorem dX12_findLight_67 : decode cX12_findLight 67 = .ok (.iconst 1, 1) := by decide +kernel
theorem dX12_findLight_68 : decode cX12_findLight 68 = .ok (.iload_n 2, 1) := by decide +kernel
theorem dX12_findLight_69 : decode cX12_findLight 69 = .ok (.iastore, 1) := by decide +kernel
theorem dX12_findLight_70 : decode cX12_findLight 70 = .ok (.aload_n 0, 1) := by decide +kernel
theorem dX12_findLight_71 : decode cX12_findLight 71 = .ok (.getfield 93, 3) := by decide +kernel
theorem dX12_findLight_74 : decode cX12_findLight 74 = .ok (.iconst 2, 1) := by decide +kernel
theorem dX12_findLight_75 : decode cX12_findLight 75 = .ok (.aload_n 0, 1) := by decide +kernel
theorem dX12_findLight_76 : decode cX12_findLight 76 = .ok (.iload 4, 2) := by decide +kernel
theorem dX12_findLight_78 : decode cX12_findLight 78 = .ok (.iconst 0, 1) := by decide +kernel
theorem dX12_findLight_79 : decode cX12_findLight 79 = .ok (.invokevirtual 292, 3) := by decide +kernel
theorem dX12_findLight_82 : decode cX12_findLight 82 = .ok (.iastore, 1) := by decide +kernel
theorem dX12_findLight_83 : decode cX12_findLight 83 = .ok (.aload_n 0, 1) := by decide +kernel
theorem dX12_findLight_84 : decode cX12_findLight 84 = .ok (.getfield 93, 3) := by decide +kernel
theorem dX12_findLight_87 : decode cX12_findLight 87 = .ok (.iconst 3, 1) := by decide +kernel
theorem dX12_findLight_88 : decode cX12_findLight 88 = .ok (.aload_n 0, 1) := by decide +kernel
theorem dX12_findLight_89 : decode cX12_findLight 89 = .ok (.iload 4, 2) := by decide +kernel
theorem dX12_findLight_91 : decode cX12_findLight 91 = .ok (.iconst 1, 1) := by decide +kernel
theorem dX12_findLight_92 : decode cX12_findLight 92 = .ok (.invokevirtual 292, 3) := by decide +kernel
theorem dX12_findLight_95 : decode cX12_findLight 95 = .ok (.iastore, 1) := by decide +kernel
theorem dX12_findLight_96 : decode cX12_findLight 96 = .ok (.aload_n 0, 1) := by decide +kernel
theorem dX12_findLight_97 : decode cX12_findLight 97 = .ok (.iload 4, 2) := by decide +kernel
theorem dX12_findLight_99 : decode cX12_findLight 99 = .ok (.iconst 0, 1) := by decide +kernel
theorem dX12_findLight_100 : decode cX12_findLight 100 = .ok (.invokevirtual 292, 3) := by decide +kernel
theorem dX12_findLight_103 : decode cX12_findLight 103 = .ok (.aload_n 0, 1) := by decide +kernel
theorem dX12_findLight_104 : decode cX12_findLight 104 = .ok (.getfield 81, 3) := by decide +kernel
theorem dX12_findLight_107 : decode cX12_findLight 107 = .ok (.bipush 65, 2) := by decide +kernel
theorem dX12_findLight_109 : decode cX12_findLight 109 = .ok (.iaload, 1) := by decide +kernel
theorem dX12_findLight_110 : decode cX12_findLight 110 = .ok (.ifCond .ge 10, 3) := by decide +kernel
theorem dX12_findLight_113 : decode cX12_findLight 113 = .ok (.iload_n 2, 1) := by decide +kernel
theorem dX12_findLight_114 : decode cX12_findLight 114 = .ok (.bipush 12, 2) := by decide +kernel
theorem dX12_findLight_116 : decode cX12_findLight 116 = .ok (.isub, 1) := by decide +kernel
theorem dX12_findLight_117 : decode cX12_findLight 117 = .ok (.goto 14, 3) := by decide +kernel
theorem dX12_findLight_120 : decode cX12_findLight 120 = .ok (.aload_n 0, 1) := by decide +kernel
theorem dX12_findLight_121 : decode cX12_findLight 121 = .ok (.aload_n 0, 1) := by decide +kernel
theorem dX12_findLight_122 : decode cX12_findLight 122 = .ok (.getfield 81, 3) := by decide +kernel
theorem dX12_findLight_125 : decode cX12_findLight 125 = .ok (.bipush 65, 2) := by decide +kernel
theorem dX12_findLight_127 : decode cX12_findLight 127 = .ok (.iaload, 1) := by decide +kernel
theorem dX12_findLight_128 : decode cX12_findLight 128 = .ok (.invokevirtual 276, 3) := by decide +kernel
theorem dX12_findLight_131 : decode cX12_findLight 131 = .ok (.iadd, 1) := by decide +kernel
theorem dX12_findLight_132 : decode cX12_findLight 132 = .ok (.istore 5, 2) := by decide +kernel
theorem dX12_findLight_134 : decode cX12_findLight 134 = .ok (.aload_n 0, 1) := by decide +kernel
theorem dX12_findLight_135 : decode cX12_findLight 135 = .ok (.getfield 81, 3) := by decide +kernel
theorem dX12_findLight_138 : decode cX12_findLight 138 = .ok (.bipush 66, 2) := by decide +kernel
theorem dX12_findLight_140 : decode cX12_findLight 140 = .ok (.iaload, 1) := by decide +kernel
theorem dX12_findLight_141 : decode cX12_findLight 141 = .ok (.ifCond .ge 13, 3) := by decide +kernel
theorem dX12_findLight_144 : decode cX12_findLight 144 = .ok (.aload_n 0, 1) := by decide +kernel
theorem dX12_findLight_145 : decode cX12_findLight 145 = .ok (.iload 4, 2) := by decide +kernel
theorem dX12_findLight_147 : decode cX12_findLight 147 = .ok (.iconst 1, 1) := by decide +kernel
theorem dX12_findLight_148 : decode cX12_findLight 148 = .ok (.invokevirtual 292, 3) := by decide +kernel
theorem dX12_findLight_151 : decode cX12_findLight 151 = .ok (.goto 14, 3) := by decide +kernel
theorem dX12_findLight_154 : decode cX12_findLight 154 = .ok (.aload_n 0, 1) := by decide +kernel
theorem dX12_findLight_155 : decode cX12_findLight 155 = .ok (.aload_n 0, 1) := by decide +kernel
theorem dX12_findLight_156 : decode cX12_findLight 156 = .ok (.getfield 81, 3) := by decide +kernel
theorem dX12_findLight_159 : decode cX12_findLight 159 = .ok (.bipush 66, 2) := by decide +kernel
theorem dX12_findLight_161 : decode cX12_findLight 161 = .ok (.iaload, 1) := by decide +kernel
theorem dX12_findLight_162 : decode cX12_findLight 162 = .ok (.invokevirtual 276, 3) := by decide +kernel
theorem dX12_findLight_165 : decode cX12_findLight 165 = .ok (.istore 6, 2) := by decide +kernel
theorem dX12_findLight_167 : decode cX12_findLight 167 = .ok (.aload_n 0, 1) := by decide +kernel
theorem dX12_findLight_168 : decode cX12_findLight 168 = .ok (.getfield 106, 3) := by decide +kernel
theorem dX12_findLight_171 : decode cX12_findLight 171 = .ok (.iload 4, 2) := by decide +kernel
theorem dX12_findLight_173 : decode cX12_findLight 173 = .ok (.aload_n 0, 1) := by decide +kernel
theorem dX12_findLight_174 : decode cX12_findLight 174 = .ok (.iload 5, 2) := by decide +kernel
theorem dX12_findLight_176 : decode cX12_findLight 176 = .ok (.iload 6, 2) := by decide +kernel
theorem dX12_findLight_178 : decode cX12_findLight 178 = .ok (.invokevirtual 295, 3) := by decide +kernel
theorem dX12_findLight_181 : decode cX12_findLight 181 = .ok (.ifCond .eq 14, 3) := by decide +kernel
theorem dX12_findLight_184 : decode cX12_findLight 184 = .ok (.bipush 8, 2) := by decide +kernel
theorem dX12_findLight_186 : decode cX12_findLight 186 = .ok (.iload 6, 2) := by decide +kernel
theorem dX12_findLight_188 : decode cX12_findLight 188 = .ok (.imul, 1) := by decide +kernel
theorem dX12_findLight_189 : decode cX12_findLight 189 = .ok (.iload 5, 2) := by decide +kernel
theorem dX12_findLight_191 : decode cX12_findLight 191 = .ok (.iadd, 1) := by decide +kernel
theorem dX12_findLight_192 : decode cX12_findLight 192 = .ok (.goto 4, 3) := by decide +kernel
theorem dX12_findLight_195 : decode cX12_findLight 195 = .ok (.iconst (-1), 1) := by decide +kernel
theorem dX12_findLight_196 : decode cX12_findLight 196 = .ok (.iastore, 1) := by decide +kernel
theorem dX12_findLight_197 : decode cX12_findLight 197 = .ok (.iinc 4 1, 3) := by decide +kernel
theorem dX12_findLight_200 : decode cX12_findLight 200 = .ok (.goto (-190), 3) := by decide +kernel
theorem dX12_findLight_203 : decode cX12_findLight 203 = .ok (.return_, 1) := by decide +kernel
theorem dX12_lightAt_0 : decode cX12_lightAt 0 = .ok (.iconst 0, 1) := by decide +kernel
theorem dX12_lightAt_1 : decode cX12_lightAt 1 = .ok (.istore_n 3, 1) := by decide +kernel
theorem dX12_lightAt_2 : decode cX12_lightAt 2 = .ok (.iconst 0, 1) := by decide +kernel
theorem dX12_lightAt_3 : decode cX12_lightAt 3 = .ok (.istore 4, 2) := by decide +kernel
theorem dX12_lightAt_5 : decode cX12_lightAt 5 = .ok (.iconst 0, 1) := by decide +kernel
theorem dX12_lightAt_6 : decode cX12_lightAt 6 = .ok (.istore 5, 2) := by decide +kernel
theorem dX12_lightAt_8 : decode cX12_lightAt 8 = .ok (.iconst 0, 1) := by decide +kernel
theorem dX12_lightAt_9 : decode cX12_lightAt 9 = .ok (.istore 6, 2) := by decide +kernel
theorem dX12_lightAt_11 : decode cX12_lightAt 11 = .ok (.iload 6, 2) := by decide +kernel
theorem dX12_lightAt_13 : decode cX12_lightAt 13 = .ok (.aload_n 0, 1) := by decide +kernel
theorem dX12_lightAt_14 : decode cX12_lightAt 14 = .ok (.invokevirtual 269, 3) := by decide +kernel
theorem dX12_lightAt_17 : decode cX12_lightAt 17 = .ok (.if_icmp .ge 46, 3) := by decide +kernel
theorem dX12_lightAt_20 : decode cX12_lightAt 20 = .ok (.aload_n 0, 1) := by decide +kernel
theorem dX12_lightAt_21 : decode cX12_lightAt 21 = .ok (.getfield 106, 3) := by decide +kernel
theorem dX12_lightAt_24 : decode cX12_lightAt 24 = .ok (.iload 6, 2) := by decide +kernel
theorem dX12_lightAt_26 : decode cX12_lightAt 26 = .ok (.iaload, 1) := by decide +kernel
theorem dX12_lightAt_27 : decode cX12_lightAt 27 = .ok (.iload_n 1, 1) := by decide +kernel
theorem dX12_lightAt_28 : decode cX12_lightAt 28 = .ok (.if_icmp .ne 29, 3) := by decide +kernel
theorem dX12_lightAt_31 : decode cX12_lightAt 31 = .ok (.iload_n 3, 1) := by decide +kernel
theorem dX12_lightAt_32 : decode cX12_lightAt 32 = .ok (.iconst 1, 1) := by decide +kernel
theorem dX12_lightAt_33 : decode cX12_lightAt 33 = .ok (.aload_n 0, 1) := by decide +kernel
theorem dX12_lightAt_34 : decode cX12_lightAt 34 = .ok (.iload 6, 2) := by decide +kernel
theorem dX12_lightAt_36 : decode cX12_lightAt 36 = .ok (.invokevirtual 289, 3) := by decide +kernel
theorem dX12_lightAt_39 : decode cX12_lightAt 39 = .ok (.ishl, 1) := by decide +kernel
theorem dX12_lightAt_40 : decode cX12_lightAt 40 = .ok (.ior, 1) := by decide +kernel
theorem dX12_lightAt_41 : decode cX12_lightAt 41 = .ok (.istore_n 3, 1) := by decide +kernel
theorem dX12_lightAt_42 : decode cX12_lightAt 42 = .ok (.iload 4, 2) := by decide +kernel
theorem dX12_lightAt_44 : decode cX12_lightAt 44 = .ok (.aload_n 0, 1) := by decide +kernel
theorem dX12_lightAt_45 : decode cX12_lightAt 45 = .ok (.iload 6, 2) := by decide +kernel
theorem dX12_lightAt_47 : decode cX12_lightAt 47 = .ok (.iconst 3, 1) := by decide +kernel
theorem dX12_lightAt_48 : decode cX12_lightAt 48 = .ok (.invokevirtual 292, 3) := by decide +kernel
theorem dX12_lightAt_51 : decode cX12_lightAt 51 = .ok (.ior, 1) := by decide +kernel
theorem dX12_lightAt_52 : decode cX12_lightAt 52 = .ok (.istore 4, 2) := by decide +kernel
theorem dX12_lightAt_54 : decode cX12_lightAt 54 = .ok (.iinc 5 1, 3) := by decide +kernel
theorem dX12_lightAt_57 : decode cX12_lightAt 57 = .ok (.iinc 6 1, 3) := by decide +kernel
theorem dX12_lightAt_60 : decode cX12_lightAt 60 = .ok (.goto (-49), 3) := by decide +kernel
theorem dX12_lightAt_63 : decode cX12_lightAt 63 = .ok (.iload_n 2, 1) := by decide +kernel
theorem dX12_lightAt_64 : decode cX12_lightAt 64 = .ok (.ifCond .ne 7, 3) := by decide +kernel
theorem dX12_lightAt_67 : decode cX12_lightAt 67 = .ok (.iload_n 3, 1) := by decide +kernel
theorem dX12_lightAt_68 : decode cX12_lightAt 68 = .ok (.goto 15, 3) := by decide +kernel
theorem dX12_lightAt_71 : decode cX12_lightAt 71 = .ok (.iload_n 2, 1) := by decide +kernel
theorem dX12_lightAt_72 : decode cX12_lightAt 72 = .ok (.iconst 1, 1) := by decide +kernel
theorem dX12_lightAt_73 : decode cX12_lightAt 73 = .ok (.if_icmp .ne 8, 3) := by decide +kernel
theorem dX12_lightAt_76 : decode cX12_lightAt 76 = .ok (.iload 4, 2) := by decide +kernel
theorem dX12_lightAt_78 : decode cX12_lightAt 78 = .ok (.goto 5, 3) := by decide +kernel
theorem dX12_lightAt_81 : decode cX12_lightAt 81 = .ok (.iload 5, 2) := by decide +kernel
theorem dX12_lightAt_83 : decode cX12_lightAt 83 = .ok (.ireturn, 1) := by decide +kernel
theorem dX12_rentAt_0 : decode cX12_rentAt 0 = .ok (.aload_n 0, 1) := by decide +kernel
theorem dX12_rentAt_1 : decode cX12_rentAt 1 = .ok (.getfield 81, 3) := by decide +kernel
theorem dX12_rentAt_4 : decode cX12_rentAt 4 = .ok (.bipush 68, 2) := by decide +kernel
theorem dX12_rentAt_6 : decode cX12_rentAt 6 = .ok (.iaload, 1) := by decide +kernel
theorem dX12_rentAt_7 : decode cX12_rentAt 7 = .ok (.ifCond .ge 5, 3) := by decide +kernel
theorem dX12_rentAt_10 : decode cX12_rentAt 10 = .ok (.iconst 1, 1) := by decide +kernel
theorem dX12_rentAt_11 : decode cX12_rentAt 11 = .ok (.ireturn, 1) := by decide +kernel
theorem dX12_rentAt_12 : decode cX12_rentAt 12 = .ok (.aload_n 0, 1) := by decide +kernel
theorem dX12_rentAt_13 : decode cX12_rentAt 13 = .ok (.getfield 93, 3) := by decide +kernel
theorem dX12_rentAt_16 : decode cX12_rentAt 16 = .ok (.iconst 0, 1) := by decide +kernel
theorem dX12_rentAt_17 : decode cX12_rentAt 17 = .ok (.iload_n 1, 1) := by decide +kernel
theorem dX12_rentAt_18 : decode cX12_rentAt 18 = .ok (.iastore, 1) := by decide +kernel
theorem dX12_rentAt_19 : decode cX12_rentAt 19 = .ok (.aload_n 0, 1) := by decide +kernel
theorem dX12_rentAt_20 : decode cX12_rentAt 20 = .ok (.getfield 93, 3) := by decide +kernel
theorem dX12_rentAt_23 : decode cX12_rentAt 23 = .ok (.iconst 1, 1) := by decide +kernel
theorem dX12_rentAt_24 : decode cX12_rentAt 24 = .ok (.iload_n 2, 1) := by decide +kernel
theorem dX12_rentAt_25 : decode cX12_rentAt 25 = .ok (.iastore, 1) := by decide +kernel
theorem dX12_rentAt_26 : decode cX12_rentAt 26 = .ok (.aload_n 0, 1) := by decide +kernel
theorem dX12_rentAt_27 : decode cX12_rentAt 27 = .ok (.getfield 93, 3) := by decide +kernel
theorem dX12_rentAt_30 : decode cX12_rentAt 30 = .ok (.iconst 4, 1) := by decide +kernel
theorem dX12_rentAt_31 : decode cX12_rentAt 31 = .ok (.iload_n 3, 1) := by decide +kernel
theorem dX12_rentAt_32 : decode cX12_rentAt 32 = .ok (.bipush 8, 2) := by decide +kernel
theorem dX12_rentAt_34 : decode cX12_rentAt 34 = .ok (.irem, 1) := by decide +kernel
theorem dX12_rentAt_35 : decode cX12_rentAt 35 = .ok (.iastore, 1) := by decide +kernel
theorem dX12_rentAt_36 : decode cX12_rentAt 36 = .ok (.aload_n 0, 1) := by decide +kernel
theorem dX12_rentAt_37 : decode cX12_rentAt 37 = .ok (.getfield 93, 3) := by decide +kernel
theorem dX12_rentAt_40 : decode cX12_rentAt 40 = .ok (.iconst 5, 1) := by decide +kernel
theorem dX12_rentAt_41 : decode cX12_rentAt 41 = .ok (.iload_n 3, 1) := by decide +kernel
theorem dX12_rentAt_42 : decode cX12_rentAt 42 = .ok (.bipush 8, 2) := by decide +kernel
theorem dX12_rentAt_44 : decode cX12_rentAt 44 = .ok (.idiv, 1) := by decide +kernel
theorem dX12_rentAt_45 : decode cX12_rentAt 45 = .ok (.iastore, 1) := by decide +kernel
theorem dX12_rentAt_46 : decode cX12_rentAt 46 = .ok (.aload_n 0, 1) := by decide +kernel
theorem dX12_rentAt_47 : decode cX12_rentAt 47 = .ok (.getfield 93, 3) := by decide +kernel
theorem dX12_rentAt_50 : decode cX12_rentAt 50 = .ok (.bipush 6, 2) := by decide +kernel
theorem dX12_rentAt_52 : decode cX12_rentAt 52 = .ok (.iload 4, 2) := by decide +kernel
theorem dX12_rentAt_54 : decode cX12_rentAt 54 = .ok (.iastore, 1) := by decide +kernel
theorem dX12_rentAt_55 : decode cX12_rentAt 55 = .ok (.aload_n 0, 1) := by decide +kernel
theorem dX12_rentAt_56 : decode cX12_rentAt 56 = .ok (.aload_n 0, 1) := by decide +kernel
theorem dX12_rentAt_57 : decode cX12_rentAt 57 = .ok (.getfield 81, 3) := by decide +kernel
theorem dX12_rentAt_60 : decode cX12_rentAt 60 = .ok (.bipush 68, 2) := by decide +kernel
theorem dX12_rentAt_62 : decode cX12_rentAt 62 = .ok (.iaload, 1) := by decide +kernel
theorem dX12_rentAt_63 : decode cX12_rentAt 63 = .ok (.invokevirtual 276, 3) := by decide +kernel
theorem dX12_rentAt_66 : decode cX12_rentAt 66 = .ok (.istore 5, 2) := by decide +kernel
theorem dX12_rentAt_68 : decode cX12_rentAt 68 = .ok (.iload 5, 2) := by decide +kernel
theorem dX12_rentAt_70 : decode cX12_rentAt 70 = .ok (.ifCond .ge 7, 3) := by decide +kernel
theorem dX12_rentAt_73 : decode cX12_rentAt 73 = .ok (.iconst 0, 1) := by decide +kernel
theorem dX12_rentAt_74 : decode cX12_rentAt 74 = .ok (.goto 19, 3) := by decide +kernel
theorem dX12_rentAt_77 : decode cX12_rentAt 77 = .ok (.iload 5, 2) := by decide +kernel
theorem dX12_rentAt_79 : decode cX12_rentAt 79 = .ok (.sipush 999, 3) := by decide +kernel
theorem dX12_rentAt_82 : decode cX12_rentAt 82 = .ok (.if_icmp .le 9, 3) := by decide +kernel
theorem dX12_rentAt_85 : decode cX12_rentAt 85 = .ok (.sipush 999, 3) := by decide +kernel
theorem dX12_rentAt_88 : decode cX12_rentAt 88 = .ok (.goto 5, 3) := by decide +kernel
theorem dX12_rentAt_91 : decode cX12_rentAt 91 = .ok (.iload 5, 2) := by decide +kernel
theorem dX12_rentAt_93 : decode cX12_rentAt 93 = .ok (.ireturn, 1) := by decide +kernel
theorem dX12_addsYields_0 : decode cX12_addsYields 0 = .ok (.aload_n 0, 1) := by decide +kernel
theorem dX12_addsYields_1 : decode cX12_addsYields 1 = .ok (.iload_n 1, 1) := by decide +kernel
theorem dX12_addsYields_2 : decode cX12_addsYields 2 = .ok (.iload_n 2, 1) := by decide +kernel
theorem dX12_addsYields_3 : decode cX12_addsYields 3 = .ok (.invokevirtual 298, 3) := by decide +kernel
theorem dX12_addsYields_6 : decode cX12_addsYields 6 = .ok (.iconst 0, 1) := by decide +kernel
theorem dX12_addsYields_7 : decode cX12_addsYields 7 = .ok (.istore_n 3, 1) := by decide +kernel
theorem dX12_addsYields_8 : decode cX12_addsYields 8 = .ok (.iload_n 3, 1) := by decide +kernel
theorem dX12_addsYields_9 : decode cX12_addsYields 9 = .ok (.aload_n 0, 1) := by decide +kernel
theorem dX12_addsYields_10 : decode cX12_addsYields 10 = .ok (.invokevirtual 269, 3) := by decide +kernel
theorem dX12_addsYields_13 : decode cX12_addsYields 13 = .ok (.if_icmp .ge 57, 3) := by decide +kernel
theorem dX12_addsYields_16 : decode cX12_addsYields 16 = .ok (.aload_n 0, 1) := by decide +kernel
theorem dX12_addsYields_17 : decode cX12_addsYields 17 = .ok (.getfield 106, 3) := by decide +kernel
theorem dX12_addsYields_20 : decode cX12_addsYields 20 = .ok (.iload_n 3, 1) := by decide +kernel
theorem dX12_addsYields_21 : decode cX12_addsYields 21 = .ok (.iaload, 1) := by decide +kernel
theorem dX12_addsYields_22 : decode cX12_addsYields 22 = .ok (.ifCond .lt 42, 3) := by decide +kernel
theorem dX12_addsYields_25 : decode cX12_addsYields 25 = .ok (.aload_n 0, 1) := by decide +kernel
theorem dX12_addsYields_26 : decode cX12_addsYields 26 = .ok (.aload_n 0, 1) := by decide +kernel
theorem dX12_addsYields_27 : decode cX12_addsYields 27 = .ok (.getfield 106, 3) := by decide +kernel
theorem dX12_addsYields_30 : decode cX12_addsYields 30 = .ok (.iload_n 3, 1) := by decide +kernel
theorem dX12_addsYields_31 : decode cX12_addsYields 31 = .ok (.iaload, 1) := by decide +kernel
theorem dX12_addsYields_32 : decode cX12_addsYields 32 = .ok (.iconst 2, 1) := by decide +kernel
theorem dX12_addsYields_33 : decode cX12_addsYields 33 = .ok (.invokevirtual 301, 3) := by decide +kernel
theorem dX12_addsYields_36 : decode cX12_addsYields 36 = .ok (.istore 4, 2) := by decide +kernel
theorem dX12_addsYields_38 : decode cX12_addsYields 38 = .ok (.aload_n 0, 1) := by decide +kernel
theorem dX12_addsYields_39 : decode cX12_addsYields 39 = .ok (.getfield 109, 3) := by decide +kernel
theorem dX12_addsYields_42 : decode cX12_addsYields 42 = .ok (.iload_n 3, 1) := by decide +kernel
theorem dX12_addsYields_43 : decode cX12_addsYields 43 = .ok (.dup2, 1) := by decide +kernel
theorem dX12_addsYields_44 : decode cX12_addsYields 44 = .ok (.iaload, 1) := by decide +kernel
theorem dX12_addsYields_45 : decode cX12_addsYields 45 = .ok (.aload_n 0, 1) := by decide +kernel
theorem dX12_addsYields_46 : decode cX12_addsYields 46 = .ok (.iload_n 1, 1) := by decide +kernel
theorem dX12_addsYields_47 : decode cX12_addsYields 47 = .ok (.iload_n 2, 1) := by decide +kernel
theorem dX12_addsYields_48 : decode cX12_addsYields 48 = .ok (.aload_n 0, 1) := by decide +kernel
theorem dX12_addsYields_49 : decode cX12_addsYields 49 = .ok (.getfield 106, 3) := by decide +kernel
theorem dX12_addsYields_52 : decode cX12_addsYields 52 = .ok (.iload_n 3, 1) := by decide +kernel
theorem dX12_addsYields_53 : decode cX12_addsYields 53 = .ok (.iaload, 1) := by decide +kernel
theorem dX12_addsYields_54 : decode cX12_addsYields 54 = .ok (.iload 4, 2) := by decide +kernel
theorem dX12_addsYields_56 : decode cX12_addsYields 56 = .ok (.invokevirtual 304, 3) := by decide +kernel
theorem dX12_addsYields_59 : decode cX12_addsYields 59 = .ok (.iload 4, 2) := by decide +kernel
theorem dX12_addsYields_61 : decode cX12_addsYields 61 = .ok (.idiv, 1) := by decide +kernel
theorem dX12_addsYields_62 : decode cX12_addsYields 62 = .ok (.iadd, 1) := by decide +kernel
theorem dX12_addsYields_63 : decode cX12_addsYields 63 = .ok (.iastore, 1) := by decide +kernel
theorem dX12_addsYields_64 : decode cX12_addsYields 64 = .ok (.iinc 3 1, 3) := by decide +kernel
theorem dX12_addsYields_67 : decode cX12_addsYields 67 = .ok (.goto (-59), 3) := by decide +kernel
theorem dX12_addsYields_70 : decode cX12_addsYields 70 = .ok (.return_, 1) := by decide +kernel
theorem dX12_findYields_0 : decode cX12_findYields 0 = .ok (.iconst 0, 1) := by decide +kernel
theorem dX12_findYields_1 : decode cX12_findYields 1 = .ok (.istore_n 1, 1) := by decide +kernel
theorem dX12_findYields_2 : decode cX12_findYields 2 = .ok (.iload_n 1, 1) := by decide +kernel
theorem dX12_findYields_3 : decode cX12_findYields 3 = .ok (.bipush 12, 2) := by decide +kernel
theorem dX12_findYields_5 : decode cX12_findYields 5 = .ok (.if_icmp .ge 16, 3) := by decide +kernel
theorem dX12_findYields_8 : decode cX12_findYields 8 = .ok (.aload_n 0, 1) := by decide +kernel
theorem dX12_findYields_9 : decode cX12_findYields 9 = .ok (.getfield 109, 3) := by decide +kernel
theorem dX12_findYields_12 : decode cX12_findYields 12 = .ok (.iload_n 1, 1) := by decide +kernel
theorem dX12_findYields_13 : decode cX12_findYields 13 = .ok (.iconst 0, 1) := by decide +kernel
theorem dX12_findYields_14 : decode cX12_findYields 14 = .ok (.iastore, 1) := by decide +kernel
theorem dX12_findYields_15 : decode cX12_findYields 15 = .ok (.iinc 1 1, 3) := by decide +kernel
theorem dX12_findYields_18 : decode cX12_findYields 18 = .ok (.goto (-16), 3) := by decide +kernel
theorem dX12_findYields_21 : decode cX12_findYields 21 = .ok (.iconst 0, 1) := by decide +kernel
theorem dX12_findYields_22 : decode cX12_findYields 22 = .ok (.istore_n 1, 1) := by decide +kernel
theorem dX12_findYields_23 : decode cX12_findYields 23 = .ok (.iload_n 1, 1) := by decide +kernel
theorem dX12_findYields_24 : decode cX12_findYields 24 = .ok (.sipush 1248, 3) := by decide +kernel
theorem dX12_findYields_27 : decode cX12_findYields 27 = .ok (.if_icmp .ge 21, 3) := by decide +kernel
theorem dX12_findYields_30 : decode cX12_findYields 30 = .ok (.aload_n 0, 1) := by decide +kernel
theorem dX12_findYields_31 : decode cX12_findYields 31 = .ok (.iload_n 1, 1) := by decide +kernel
theorem dX12_findYields_32 : decode cX12_findYields 32 = .ok (.bipush 24, 2) := by decide +kernel
theorem dX12_findYields_34 : decode cX12_findYields 34 = .ok (.idiv, 1) := by decide +kernel
theorem dX12_findYields_35 : decode cX12_findYields 35 = .ok (.iload_n 1, 1) := by decide +kernel
theorem dX12_findYields_36 : decode cX12_findYields 36 = .ok (.bipush 24, 2) := by decide +kernel
theorem dX12_findYields_38 : decode cX12_findYields 38 = .ok (.irem, 1) := by decide +kernel
theorem dX12_findYields_39 : decode cX12_findYields 39 = .ok (.invokevirtual 308, 3) := by decide +kernel
theorem dX12_findYields_42 : decode cX12_findYields 42 = .ok (.iinc 1 1, 3) := by decide +kernel
theorem dX12_findYields_45 : decode cX12_findYields 45 = .ok (.goto (-22), 3) := by decide +kernel
theorem dX12_findYields_48 : decode cX12_findYields 48 = .ok (.return_, 1) := by decide +kernel
theorem dX12_rentsOf_0 : decode cX12_rentsOf 0 = .ok (.iconst 0, 1) := by decide +kernel
theorem dX12_rentsOf_1 : decode cX12_rentsOf 1 = .ok (.istore_n 2, 1) := by decide +kernel
theorem dX12_rentsOf_2 : decode cX12_rentsOf 2 = .ok (.iconst 0, 1) := by decide +kernel
theorem dX12_rentsOf_3 : decode cX12_rentsOf 3 = .ok (.istore_n 3, 1) := by decide +kernel
theorem dX12_rentsOf_4 : decode cX12_rentsOf 4 = .ok (.iload_n 3, 1) := by decide +kernel
theorem dX12_rentsOf_5 : decode cX12_rentsOf 5 = .ok (.aload_n 0, 1) := by decide +kernel
theorem dX12_rentsOf_6 : decode cX12_rentsOf 6 = .ok (.invokevirtual 269, 3) := by decide +kernel
theorem dX12_rentsOf_9 : decode cX12_rentsOf 9 = .ok (.if_icmp .ge 31, 3) := by decide +kernel
theorem dX12_rentsOf_12 : decode cX12_rentsOf 12 = .ok (.iload_n 2, 1) := by decide +kernel
theorem dX12_rentsOf_13 : decode cX12_rentsOf 13 = .ok (.aload_n 0, 1) := by decide +kernel
theorem dX12_rentsOf_14 : decode cX12_rentsOf 14 = .ok (.iload_n 3, 1) := by decide +kernel
theorem dX12_rentsOf_15 : decode cX12_rentsOf 15 = .ok (.invokevirtual 289, 3) := by decide +kernel
theorem dX12_rentsOf_18 : decode cX12_rentsOf 18 = .ok (.iload_n 1, 1) := by decide +kernel
theorem dX12_rentsOf_19 : decode cX12_rentsOf 19 = .ok (.if_icmp .ne 12, 3) := by decide +kernel
theorem dX12_rentsOf_22 : decode cX12_rentsOf 22 = .ok (.aload_n 0, 1) := by decide +kernel
theorem dX12_rentsOf_23 : decode cX12_rentsOf 23 = .ok (.getfield 109, 3) := by decide +kernel
theorem dX12_rentsOf_26 : decode cX12_rentsOf 26 = .ok (.iload_n 3, 1) := by decide +kernel
theorem dX12_rentsOf_27 : decode cX12_rentsOf 27 = .ok (.iaload, 1) := by decide +kernel
theorem dX12_rentsOf_28 : decode cX12_rentsOf 28 = .ok (.goto 4, 3) := by decide +kernel
theorem dX12_rentsOf_31 : decode cX12_rentsOf 31 = .ok (.iconst 0, 1) := by decide +kernel
theorem dX12_rentsOf_32 : decode cX12_rentsOf 32 = .ok (.iadd, 1) := by decide +kernel
theorem dX12_rentsOf_33 : decode cX12_rentsOf 33 = .ok (.istore_n 2, 1) := by decide +kernel
theorem dX12_rentsOf_34 : decode cX12_rentsOf 34 = .ok (.iinc 3 1, 3) := by decide +kernel
theorem dX12_rentsOf_37 : decode cX12_rentsOf 37 = .ok (.goto (-33), 3) := by decide +kernel
theorem dX12_rentsOf_40 : decode cX12_rentsOf 40 = .ok (.iload_n 2, 1) := by decide +kernel
theorem dX12_rentsOf_41 : decode cX12_rentsOf 41 = .ok (.ireturn, 1) := by decide +kernel
theorem dX12_guild_0 : decode cX12_guild 0 = .ok (.aload_n 0, 1) := by decide +kernel
theorem dX12_guild_1 : decode cX12_guild 1 = .ok (.iconst 0, 1) := by decide +kernel
theorem dX12_guild_2 : decode cX12_guild 2 = .ok (.putfield 1, 3) := by decide +kernel
theorem dX12_guild_5 : decode cX12_guild 5 = .ok (.aload_n 0, 1) := by decide +kernel
theorem dX12_guild_6 : decode cX12_guild 6 = .ok (.iload_n 1, 1) := by decide +kernel
theorem dX12_guild_7 : decode cX12_guild 7 = .ok (.invokevirtual 311, 3) := by decide +kernel
theorem dX12_guild_10 : decode cX12_guild 10 = .ok (.ifCond .eq 12, 3) := by decide +kernel
theorem dX12_guild_13 : decode cX12_guild 13 = .ok (.iload_n 2, 1) := by decide +kernel
theorem dX12_guild_14 : decode cX12_guild 14 = .ok (.iconst 0, 1) := by decide +kernel
theorem dX12_guild_15 : decode cX12_guild 15 = .ok (.iconst 2, 1) := by decide +kernel
theorem dX12_guild_16 : decode cX12_guild 16 = .ok (.invokestatic 272, 3) := by decide +kernel
theorem dX12_guild_19 : decode cX12_guild 19 = .ok (.ifCond .ne 5, 3) := by decide +kernel
theorem dX12_guild_22 : decode cX12_guild 22 = .ok (.iconst (-1), 1) := by decide +kernel
theorem dX12_guild_23 : decode cX12_guild 23 = .ok (.ireturn, 1) := by decide +kernel
theorem dX12_guild_24 : decode cX12_guild 24 = .ok (.iconst 0, 1) := by decide +kernel
theorem dX12_guild_25 : decode cX12_guild 25 = .ok (.istore_n 3, 1) := by decide +kernel
theorem dX12_guild_26 : decode cX12_guild 26 = .ok (.iconst 0, 1) := by decide +kernel
theorem dX12_guild_27 : decode cX12_guild 27 = .ok (.istore 4, 2) := by decide +kernel
theorem dX12_guild_29 : decode cX12_guild 29 = .ok (.iload 4, 2) := by decide +kernel
theorem dX12_guild_31 : decode cX12_guild 31 = .ok (.aload_n 0, 1) := by decide +kernel
theorem dX12_guild_32 : decode cX12_guild 32 = .ok (.invokevirtual 269, 3) := by decide +kernel
theorem dX12_guild_35 : decode cX12_guild 35 = .ok (.if_icmp .ge 30, 3) := by decide +kernel
theorem dX12_guild_38 : decode cX12_guild 38 = .ok (.iload_n 3, 1) := by decide +kernel
theorem dX12_guild_39 : decode cX12_guild 39 = .ok (.aload_n 0, 1) := by decide +kernel
theorem dX12_guild_40 : decode cX12_guild 40 = .ok (.iload 4, 2) := by decide +kernel
theorem dX12_guild_42 : decode cX12_guild 42 = .ok (.invokevirtual 289, 3) := by decide +kernel
theorem dX12_guild_45 : decode cX12_guild 45 = .ok (.iload_n 1, 1) := by decide +kernel
theorem dX12_guild_46 : decode cX12_guild 46 = .ok (.if_icmp .ne 10, 3) := by decide +kernel
theorem dX12_guild_49 : decode cX12_guild 49 = .ok (.iconst 1, 1) := by decide +kernel
theorem dX12_guild_50 : decode cX12_guild 50 = .ok (.iload 4, 2) := by decide +kernel
theorem dX12_guild_52 : decode cX12_guild 52 = .ok (.ishl, 1) := by decide +kernel
theorem dX12_guild_53 : decode cX12_guild 53 = .ok (.goto 4, 3) := by decide +kernel
theorem dX12_guild_56 : decode cX12_guild 56 = .ok (.iconst 0, 1) := by decide +kernel
theorem dX12_guild_57 : decode cX12_guild 57 = .ok (.ior, 1) := by decide +kernel
theorem dX12_guild_58 : decode cX12_guild 58 = .ok (.istore_n 3, 1) := by decide +kernel
theorem dX12_guild_59 : decode cX12_guild 59 = .ok (.iinc 4 1, 3) := by decide +kernel
theorem dX12_guild_62 : decode cX12_guild 62 = .ok (.goto (-33), 3) := by decide +kernel
theorem dX12_guild_65 : decode cX12_guild 65 = .ok (.iload_n 2, 1) := by decide +kernel
theorem dX12_guild_66 : decode cX12_guild 66 = .ok (.iconst 2, 1) := by decide +kernel
theorem dX12_guild_67 : decode cX12_guild 67 = .ok (.if_icmp .ge 18, 3) := by decide +kernel
theorem dX12_guild_70 : decode cX12_guild 70 = .ok (.aload_n 0, 1) := by decide +kernel
theorem dX12_guild_71 : decode cX12_guild 71 = .ok (.getfield 81, 3) := by decide +kernel
theorem dX12_guild_74 : decode cX12_guild 74 = .ok (.iconst 5, 1) := by decide +kernel
theorem dX12_guild_75 : decode cX12_guild 75 = .ok (.iconst 2, 1) := by decide +kernel
theorem dX12_guild_76 : decode cX12_guild 76 = .ok (.iload_n 1, 1) := by decide +kernel
theorem dX12_guild_77 : decode cX12_guild 77 = .ok (.imul, 1) := by decide +kernel
theorem dX12_guild_78 : decode cX12_guild 78 = .ok (.iadd, 1) := by decide +kernel
theorem dX12_guild_79 : decode cX12_guild 79 = .ok (.iload_n 2, 1) := by decide +kernel
theorem dX12_guild_80 : decode cX12_guild 80 = .ok (.iadd, 1) := by decide +kernel
theorem dX12_guild_81 : decode cX12_guild 81 = .ok (.iaload, 1) := by decide +kernel
theorem dX12_guild_82 : decode cX12_guild 82 = .ok (.goto 4, 3) := by decide +kernel
theorem dX12_guild_85 : decode cX12_guild 85 = .ok (.iload_n 3, 1) := by decide +kernel
theorem dX12_guild_86 : decode cX12_guild 86 = .ok (.ireturn, 1) := by decide +kernel
theorem dX12_pane_0 : decode cX12_pane 0 = .ok (.aload_n 0, 1) := by decide +kernel
theorem dX12_pane_1 : decode cX12_pane 1 = .ok (.iconst 0, 1) := by decide +kernel
theorem dX12_pane_2 : decode cX12_pane 2 = .ok (.putfield 1, 3) := by decide +kernel
theorem dX12_pane_5 : decode cX12_pane 5 = .ok (.aload_n 0, 1) := by decide +kernel
theorem dX12_pane_6 : decode cX12_pane 6 = .ok (.iload_n 1, 1) := by decide +kernel
theorem dX12_pane_7 : decode cX12_pane 7 = .ok (.invokevirtual 314, 3) := by decide +kernel
theorem dX12_pane_10 : decode cX12_pane 10 = .ok (.ifCond .eq 12, 3) := by decide +kernel
theorem dX12_pane_13 : decode cX12_pane 13 = .ok (.iload_n 2, 1) := by decide +kernel
theorem dX12_pane_14 : decode cX12_pane 14 = .ok (.iconst 0, 1) := by decide +kernel
theorem dX12_pane_15 : decode cX12_pane 15 = .ok (.iconst 4, 1) := by decide +kernel
theorem dX12_pane_16 : decode cX12_pane 16 = .ok (.invokestatic 272, 3) := by decide +kernel
theorem dX12_pane_19 : decode cX12_pane 19 = .ok (.ifCond .ne 5, 3) := by decide +kernel
theorem dX12_pane_22 : decode cX12_pane 22 = .ok (.iconst (-1), 1) := by decide +kernel
theorem dX12_pane_23 : decode cX12_pane 23 = .ok (.ireturn, 1) := by decide +kernel
theorem dX12_pane_24 : decode cX12_pane 24 = .ok (.iload_n 2, 1) := by decide +kernel
theorem dX12_pane_25 : decode cX12_pane 25 = .ok (.iconst 2, 1) := by decide +kernel
theorem dX12_pane_26 : decode cX12_pane 26 = .ok (.if_icmp .ne 11, 3) := by decide +kernel
theorem dX12_pane_29 : decode cX12_pane 29 = .ok (.aload_n 0, 1) := by decide +kernel
theorem dX12_pane_30 : decode cX12_pane 30 = .ok (.iload_n 1, 1) := by decide +kernel
theorem dX12_pane_31 : decode cX12_pane 31 = .ok (.invokevirtual 289, 3) := by decide +kernel
theorem dX12_pane_34 : decode cX12_pane 34 = .ok (.goto 30, 3) := by decide +kernel
theorem dX12_pane_37 : decode cX12_pane 37 = .ok (.iload_n 2, 1) := by decide +kernel
theorem dX12_pane_38 : decode cX12_pane 38 = .ok (.iconst 4, 1) := by decide +kernel
theorem dX12_pane_39 : decode cX12_pane 39 = .ok (.if_icmp .ne 19, 3) := by decide +kernel
theorem dX12_pane_42 : decode cX12_pane 42 = .ok (.aload_n 0, 1) := by decide +kernel
theorem dX12_pane_43 : decode cX12_pane 43 = .ok (.iload_n 1, 1) := by decide +kernel
theorem dX12_pane_44 : decode cX12_pane 44 = .ok (.invokevirtual 283, 3) := by decide +kernel
theorem dX12_pane_47 : decode cX12_pane 47 = .ok (.ifCond .eq 7, 3) := by decide +kernel
theorem dX12_pane_50 : decode cX12_pane 50 = .ok (.iconst 1, 1) := by decide +kernel
theorem dX12_pane_51 : decode cX12_pane 51 = .ok (.goto 13, 3) := by decide +kernel
theorem dX12_pane_54 : decode cX12_pane 54 = .ok (.iconst 0, 1) := by decide +kernel
theorem dX12_pane_55 : decode cX12_pane 55 = .ok (.goto 9, 3) := by decide +kernel
theorem dX12_pane_58 : decode cX12_pane 58 = .ok (.aload_n 0, 1) := by decide +kernel
theorem dX12_pane_59 : decode cX12_pane 59 = .ok (.iload_n 1, 1) := by decide +kernel
theorem dX12_pane_60 : decode cX12_pane 60 = .ok (.iload_n 2, 1) := by decide +kernel
theorem dX12_pane_61 : decode cX12_pane 61 = .ok (.invokevirtual 292, 3) := by decide +kernel
theorem dX12_pane_64 : decode cX12_pane 64 = .ok (.ireturn, 1) := by decide +kernel
theorem dX12_spot_0 : decode cX12_spot 0 = .ok (.aload_n 0, 1) := by decide +kernel
theorem dX12_spot_1 : decode cX12_spot 1 = .ok (.iconst 0, 1) := by decide +kernel
theorem dX12_spot_2 : decode cX12_spot 2 = .ok (.putfield 1, 3) := by decide +kernel
theorem dX12_spot_5 : decode cX12_spot 5 = .ok (.aload_n 0, 1) := by decide +kernel
theorem dX12_spot_6 : decode cX12_spot 6 = .ok (.iload_n 1, 1) := by decide +kernel
theorem dX12_spot_7 : decode cX12_spot 7 = .ok (.invokevirtual 314, 3) := by decide +kernel
theorem dX12_spot_10 : decode cX12_spot 10 = .ok (.ifCond .eq 11, 3) := by decide +kernel
theorem dX12_spot_13 : decode cX12_spot 13 = .ok (.iload_n 2, 1) := by decide +kernel
theorem dX12_spot_14 : decode cX12_spot 14 = .ok (.iload_n 3, 1) := by decide +kernel
theorem dX12_spot_15 : decode cX12_spot 15 = .ok (.invokestatic 317, 3) := by decide +kernel
theorem dX12_spot_18 : decode cX12_spot 18 = .ok (.ifCond .ne 5, 3) := by decide +kernel
theorem dX12_spot_21 : decode cX12_spot 21 = .ok (.iconst (-1), 1) := by decide +kernel
theorem dX12_spot_22 : decode cX12_spot 22 = .ok (.ireturn, 1) := by decide +kernel
theorem dX12_spot_23 : decode cX12_spot 23 = .ok (.aload_n 0, 1) := by decide +kernel
theorem dX12_spot_24 : decode cX12_spot 24 = .ok (.iload_n 2, 1) := by decide +kernel
theorem dX12_spot_25 : decode cX12_spot 25 = .ok (.iload_n 3, 1) := by decide +kernel
theorem dX12_spot_26 : decode cX12_spot 26 = .ok (.invokevirtual 298, 3) := by decide +kernel
theorem dX12_spot_29 : decode cX12_spot 29 = .ok (.aload_n 0, 1) := by decide +kernel
theorem dX12_spot_30 : decode cX12_spot 30 = .ok (.getfield 106, 3) := by decide +kernel
theorem dX12_spot_33 : decode cX12_spot 33 = .ok (.iload_n 1, 1) := by decide +kernel
theorem dX12_spot_34 : decode cX12_spot 34 = .ok (.iaload, 1) := by decide +kernel
theorem dX12_spot_35 : decode cX12_spot 35 = .ok (.ireturn, 1) := by decide +kernel
theorem dX12_place_0 : decode cX12_place 0 = .ok (.aload_n 0, 1) := by decide +kernel
theorem dX12_place_1 : decode cX12_place 1 = .ok (.iconst 0, 1) := by decide +kernel
theorem dX12_place_2 : decode cX12_place 2 = .ok (.putfield 1, 3) := by decide +kernel
theorem dX12_place_5 : decode cX12_place 5 = .ok (.aload_n 0, 1) := by decide +kernel
theorem dX12_place_6 : decode cX12_place 6 = .ok (.iload_n 1, 1) := by decide +kernel
theorem dX12_place_7 : decode cX12_place 7 = .ok (.iload_n 2, 1) := by decide +kernel
theorem dX12_place_8 : decode cX12_place 8 = .ok (.invokevirtual 295, 3) := by decide +kernel
theorem dX12_place_11 : decode cX12_place 11 = .ok (.ifCond .eq 22, 3) := by decide +kernel
theorem dX12_place_14 : decode cX12_place 14 = .ok (.iload_n 3, 1) := by decide +kernel
theorem dX12_place_15 : decode cX12_place 15 = .ok (.iload 4, 2) := by decide +kernel
theorem dX12_place_17 : decode cX12_place 17 = .ok (.invokestatic 317, 3) := by decide +kernel
theorem dX12_place_20 : decode cX12_place 20 = .ok (.ifCond .eq 13, 3) := by decide +kernel
theorem dX12_place_23 : decode cX12_place 23 = .ok (.iload 5, 2) := by decide +kernel
theorem dX12_place_25 : decode cX12_place 25 = .ok (.iconst 0, 1) := by decide +kernel
theorem dX12_place_26 : decode cX12_place 26 = .ok (.iconst 2, 1) := by decide +kernel
theorem dX12_place_27 : decode cX12_place 27 = .ok (.invokestatic 272, 3) := by decide +kernel
theorem dX12_place_30 : decode cX12_place 30 = .ok (.ifCond .ne 5, 3) := by decide +kernel
theorem dX12_place_33 : decode cX12_place 33 = .ok (.iconst (-1), 1) := by decide +kernel
theorem dX12_place_34 : decode cX12_place 34 = .ok (.ireturn, 1) := by decide +kernel
theorem dX12_place_35 : decode cX12_place 35 = .ok (.aload_n 0, 1) := by decide +kernel
theorem dX12_place_36 : decode cX12_place 36 = .ok (.iload_n 3, 1) := by decide +kernel
theorem dX12_place_37 : decode cX12_place 37 = .ok (.iload 4, 2) := by decide +kernel
theorem dX12_place_39 : decode cX12_place 39 = .ok (.invokevirtual 298, 3) := by decide +kernel
theorem dX12_place_42 : decode cX12_place 42 = .ok (.aload_n 0, 1) := by decide +kernel
theorem dX12_place_43 : decode cX12_place 43 = .ok (.bipush 8, 2) := by decide +kernel
theorem dX12_place_45 : decode cX12_place 45 = .ok (.iload_n 2, 1) := by decide +kernel
theorem dX12_place_46 : decode cX12_place 46 = .ok (.imul, 1) := by decide +kernel
theorem dX12_place_47 : decode cX12_place 47 = .ok (.iload_n 1, 1) := by decide +kernel
theorem dX12_place_48 : decode cX12_place 48 = .ok (.iadd, 1) := by decide +kernel
theorem dX12_place_49 : decode cX12_place 49 = .ok (.iload 5, 2) := by decide +kernel
theorem dX12_place_51 : decode cX12_place 51 = .ok (.invokevirtual 301, 3) := by decide +kernel
theorem dX12_place_54 : decode cX12_place 54 = .ok (.ireturn, 1) := by decide +kernel
theorem dX12_yields_0 : decode cX12_yields 0 = .ok (.aload_n 0, 1) := by decide +kernel
theorem dX12_yields_1 : decode cX12_yields 1 = .ok (.iconst 0, 1) := by decide +kernel
theorem dX12_yields_2 : decode cX12_yields 2 = .ok (.putfield 1, 3) := by decide +kernel
theorem dX12_yields_5 : decode cX12_yields 5 = .ok (.aload_n 0, 1) := by decide +kernel
theorem dX12_yields_6 : decode cX12_yields 6 = .ok (.iload_n 1, 1) := by decide +kernel
theorem dX12_yields_7 : decode cX12_yields 7 = .ok (.invokevirtual 314, 3) := by decide +kernel
theorem dX12_yields_10 : decode cX12_yields 10 = .ok (.ifCond .ne 5, 3) := by decide +kernel
theorem dX12_yields_13 : decode cX12_yields 13 = .ok (.iconst (-1), 1) := by decide +kernel
theorem dX12_yields_14 : decode cX12_yields 14 = .ok (.ireturn, 1) := by decide +kernel
theorem dX12_yields_15 : decode cX12_yields 15 = .ok (.aload_n 0, 1) := by decide +kernel
theorem dX12_yields_16 : decode cX12_yields 16 = .ok (.invokevirtual 320, 3) := by decide +kernel
theorem dX12_yields_19 : decode cX12_yields 19 = .ok (.aload_n 0, 1) := by decide +kernel
theorem dX12_yields_20 : decode cX12_yields 20 = .ok (.getfield 109, 3) := by decide +kernel
theorem dX12_yields_23 : decode cX12_yields 23 = .ok (.iload_n 1, 1) := by decide +kernel
theorem dX12_yields_24 : decode cX12_yields 24 = .ok (.iaload, 1) := by decide +kernel
theorem dX12_yields_25 : decode cX12_yields 25 = .ok (.ireturn, 1) := by decide +kernel
theorem dX12_rents_0 : decode cX12_rents 0 = .ok (.aload_n 0, 1) := by decide +kernel
theorem dX12_rents_1 : decode cX12_rents 1 = .ok (.iconst 0, 1) := by decide +kernel
theorem dX12_rents_2 : decode cX12_rents 2 = .ok (.putfield 1, 3) := by decide +kernel
theorem dX12_rents_5 : decode cX12_rents 5 = .ok (.aload_n 0, 1) := by decide +kernel
theorem dX12_rents_6 : decode cX12_rents 6 = .ok (.iload_n 1, 1) := by decide +kernel
theorem dX12_rents_7 : decode cX12_rents 7 = .ok (.invokevirtual 311, 3) := by decide +kernel
theorem dX12_rents_10 : decode cX12_rents 10 = .ok (.ifCond .ne 5, 3) := by decide +kernel
theorem dX12_rents_13 : decode cX12_rents 13 = .ok (.iconst (-1), 1) := by decide +kernel
theorem dX12_rents_14 : decode cX12_rents 14 = .ok (.ireturn, 1) := by decide +kernel
theorem dX12_rents_15 : decode cX12_rents 15 = .ok (.aload_n 0, 1) := by decide +kernel
theorem dX12_rents_16 : decode cX12_rents 16 = .ok (.invokevirtual 320, 3) := by decide +kernel
theorem dX12_rents_19 : decode cX12_rents 19 = .ok (.aload_n 0, 1) := by decide +kernel
theorem dX12_rents_20 : decode cX12_rents 20 = .ok (.iload_n 1, 1) := by decide +kernel
theorem dX12_rents_21 : decode cX12_rents 21 = .ok (.invokevirtual 323, 3) := by decide +kernel
theorem dX12_rents_24 : decode cX12_rents 24 = .ok (.ireturn, 1) := by decide +kernel
theorem dX12_bits_0 : decode cX12_bits 0 = .ok (.iconst 0, 1) := by decide +kernel
theorem dX12_bits_1 : decode cX12_bits 1 = .ok (.istore_n 1, 1) := by decide +kernel
theorem dX12_bits_2 : decode cX12_bits 2 = .ok (.iconst 0, 1) := by decide +kernel
theorem dX12_bits_3 : decode cX12_bits 3 = .ok (.istore_n 2, 1) := by decide +kernel
theorem dX12_bits_4 : decode cX12_bits 4 = .ok (.iload_n 2, 1) := by decide +kernel
theorem dX12_bits_5 : decode cX12_bits 5 = .ok (.bipush 12, 2) := by decide +kernel
theorem dX12_bits_7 : decode cX12_bits 7 = .ok (.if_icmp .ge 17, 3) := by decide +kernel
theorem dX12_bits_10 : decode cX12_bits 10 = .ok (.iload_n 1, 1) := by decide +kernel
theorem dX12_bits_11 : decode cX12_bits 11 = .ok (.iload_n 0, 1) := by decide +kernel
theorem dX12_bits_12 : decode cX12_bits 12 = .ok (.iload_n 2, 1) := by decide +kernel
theorem dX12_bits_13 : decode cX12_bits 13 = .ok (.ishr, 1) := by decide +kernel
theorem dX12_bits_14 : decode cX12_bits 14 = .ok (.iconst 1, 1) := by decide +kernel
theorem dX12_bits_15 : decode cX12_bits 15 = .ok (.iand, 1) := by decide +kernel
theorem dX12_bits_16 : decode cX12_bits 16 = .ok (.iadd, 1) := by decide +kernel
theorem dX12_bits_17 : decode cX12_bits 17 = .ok (.istore_n 1, 1) := by decide +kernel
theorem dX12_bits_18 : decode cX12_bits 18 = .ok (.iinc 2 1, 3) := by decide +kernel
theorem dX12_bits_21 : decode cX12_bits 21 = .ok (.goto (-17), 3) := by decide +kernel
theorem dX12_bits_24 : decode cX12_bits 24 = .ok (.iload_n 1, 1) := by decide +kernel
theorem dX12_bits_25 : decode cX12_bits 25 = .ok (.ireturn, 1) := by decide +kernel
theorem dX12_worthOf_0 : decode cX12_worthOf 0 = .ok (.aload_n 0, 1) := by decide +kernel
theorem dX12_worthOf_1 : decode cX12_worthOf 1 = .ok (.getfield 109, 3) := by decide +kernel
theorem dX12_worthOf_4 : decode cX12_worthOf 4 = .ok (.iload_n 2, 1) := by decide +kernel
theorem dX12_worthOf_5 : decode cX12_worthOf 5 = .ok (.iaload, 1) := by decide +kernel
theorem dX12_worthOf_6 : decode cX12_worthOf 6 = .ok (.iconst 1, 1) := by decide +kernel
theorem dX12_worthOf_7 : decode cX12_worthOf 7 = .ok (.aload_n 0, 1) := by decide +kernel
theorem dX12_worthOf_8 : decode cX12_worthOf 8 = .ok (.getfield 81, 3) := by decide +kernel
theorem dX12_worthOf_11 : decode cX12_worthOf 11 = .ok (.iconst 5, 1) := by decide +kernel
theorem dX12_worthOf_12 : decode cX12_worthOf 12 = .ok (.iconst 2, 1) := by decide +kernel
theorem dX12_worthOf_13 : decode cX12_worthOf 13 = .ok (.iload_n 1, 1) := by decide +kernel
theorem dX12_worthOf_14 : decode cX12_worthOf 14 = .ok (.imul, 1) := by decide +kernel
theorem dX12_worthOf_15 : decode cX12_worthOf 15 = .ok (.iadd, 1) := by decide +kernel
theorem dX12_worthOf_16 : decode cX12_worthOf 16 = .ok (.iaload, 1) := by decide +kernel
theorem dX12_worthOf_17 : decode cX12_worthOf 17 = .ok (.aload_n 0, 1) := by decide +kernel
theorem dX12_worthOf_18 : decode cX12_worthOf 18 = .ok (.iload_n 2, 1) := by decide +kernel
theorem dX12_worthOf_19 : decode cX12_worthOf 19 = .ok (.iconst 3, 1) := by decide +kernel
theorem dX12_worthOf_20 : decode cX12_worthOf 20 = .ok (.invokevirtual 292, 3) := by decide +kernel
theorem dX12_worthOf_23 : decode cX12_worthOf 23 = .ok (.iand, 1) := by decide +kernel
theorem dX12_worthOf_24 : decode cX12_worthOf 24 = .ok (.invokestatic 326, 3) := by decide +kernel
theorem dX12_worthOf_27 : decode cX12_worthOf 27 = .ok (.iadd, 1) := by decide +kernel
theorem dX12_worthOf_28 : decode cX12_worthOf 28 = .ok (.imul, 1) := by decide +kernel
theorem dX12_worthOf_29 : decode cX12_worthOf 29 = .ok (.ireturn, 1) := by decide +kernel
theorem dX12_worth_0 : decode cX12_worth 0 = .ok (.aload_n 0, 1) := by decide +kernel
theorem dX12_worth_1 : decode cX12_worth 1 = .ok (.iconst 0, 1) := by decide +kernel
theorem dX12_worth_2 : decode cX12_worth 2 = .ok (.putfield 1, 3) := by decide +kernel
theorem dX12_worth_5 : decode cX12_worth 5 = .ok (.aload_n 0, 1) := by decide +kernel
theorem dX12_worth_6 : decode cX12_worth 6 = .ok (.iload_n 1, 1) := by decide +kernel
theorem dX12_worth_7 : decode cX12_worth 7 = .ok (.invokevirtual 311, 3) := by decide +kernel
theorem dX12_worth_10 : decode cX12_worth 10 = .ok (.ifCond .eq 11, 3) := by decide +kernel
theorem dX12_worth_13 : decode cX12_worth 13 = .ok (.aload_n 0, 1) := by decide +kernel
theorem dX12_worth_14 : decode cX12_worth 14 = .ok (.iload_n 2, 1) := by decide +kernel
theorem dX12_worth_15 : decode cX12_worth 15 = .ok (.invokevirtual 314, 3) := by decide +kernel
theorem dX12_worth_18 : decode cX12_worth 18 = .ok (.ifCond .ne 5, 3) := by decide +kernel
theorem dX12_worth_21 : decode cX12_worth 21 = .ok (.iconst (-1), 1) := by decide +kernel
theorem dX12_worth_22 : decode cX12_worth 22 = .ok (.ireturn, 1) := by decide +kernel
theorem dX12_worth_23 : decode cX12_worth 23 = .ok (.aload_n 0, 1) := by decide +kernel
theorem dX12_worth_24 : decode cX12_worth 24 = .ok (.invokevirtual 320, 3) := by decide +kernel
theorem dX12_worth_27 : decode cX12_worth 27 = .ok (.aload_n 0, 1) := by decide +kernel
theorem dX12_worth_28 : decode cX12_worth 28 = .ok (.iload_n 1, 1) := by decide +kernel
theorem dX12_worth_29 : decode cX12_worth 29 = .ok (.iload_n 2, 1) := by decide +kernel
theorem dX12_worth_30 : decode cX12_worth 30 = .ok (.invokevirtual 329, 3) := by decide +kernel
theorem dX12_worth_33 : decode cX12_worth 33 = .ok (.ireturn, 1) := by decide +kernel
theorem dX12_gainOf_0 : decode cX12_gainOf 0 = .ok (.aload_n 0, 1) := by decide +kernel
theorem dX12_gainOf_1 : decode cX12_gainOf 1 = .ok (.iload_n 1, 1) := by decide +kernel
theorem dX12_gainOf_2 : decode cX12_gainOf 2 = .ok (.invokevirtual 289, 3) := by decide +kernel
theorem dX12_gainOf_5 : decode cX12_gainOf 5 = .ok (.istore_n 3, 1) := by decide +kernel
theorem dX12_gainOf_6 : decode cX12_gainOf 6 = .ok (.aload_n 0, 1) := by decide +kernel
theorem dX12_gainOf_7 : decode cX12_gainOf 7 = .ok (.iload_n 2, 1) := by decide +kernel
theorem dX12_gainOf_8 : decode cX12_gainOf 8 = .ok (.invokevirtual 289, 3) := by decide +kernel
theorem dX12_gainOf_11 : decode cX12_gainOf 11 = .ok (.istore 4, 2) := by decide +kernel
theorem dX12_gainOf_13 : decode cX12_gainOf 13 = .ok (.aload_n 0, 1) := by decide +kernel
theorem dX12_gainOf_14 : decode cX12_gainOf 14 = .ok (.iload_n 3, 1) := by decide +kernel
theorem dX12_gainOf_15 : decode cX12_gainOf 15 = .ok (.iload_n 2, 1) := by decide +kernel
theorem dX12_gainOf_16 : decode cX12_gainOf 16 = .ok (.invokevirtual 329, 3) := by decide +kernel
theorem dX12_gainOf_19 : decode cX12_gainOf 19 = .ok (.aload_n 0, 1) := by decide +kernel
theorem dX12_gainOf_20 : decode cX12_gainOf 20 = .ok (.iload_n 3, 1) := by decide +kernel
theorem dX12_gainOf_21 : decode cX12_gainOf 21 = .ok (.iload_n 1, 1) := by decide +kernel
theorem dX12_gainOf_22 : decode cX12_gainOf 22 = .ok (.invokevirtual 329, 3) := by decide +kernel
theorem dX12_gainOf_25 : decode cX12_gainOf 25 = .ok (.isub, 1) := by decide +kernel
theorem dX12_gainOf_26 : decode cX12_gainOf 26 = .ok (.istore 5, 2) := by decide +kernel
theorem dX12_gainOf_28 : decode cX12_gainOf 28 = .ok (.aload_n 0, 1) := by decide +kernel
theorem dX12_gainOf_29 : decode cX12_gainOf 29 = .ok (.iload 4, 2) := by decide +kernel
theorem dX12_gainOf_31 : decode cX12_gainOf 31 = .ok (.iload_n 1, 1) := by decide +kernel
theorem dX12_gainOf_32 : decode cX12_gainOf 32 = .ok (.invokevirtual 329, 3) := by decide +kernel
theorem dX12_gainOf_35 : decode cX12_gainOf 35 = .ok (.aload_n 0, 1) := by decide +kernel
theorem dX12_gainOf_36 : decode cX12_gainOf 36 = .ok (.iload 4, 2) := by decide +kernel
theorem dX12_gainOf_38 : decode cX12_gainOf 38 = .ok (.iload_n 2, 1) := by decide +kernel
theorem dX12_gainOf_39 : decode cX12_gainOf 39 = .ok (.invokevirtual 329, 3) := by decide +kernel
theorem dX12_gainOf_42 : decode cX12_gainOf 42 = .ok (.isub, 1) := by decide +kernel
