theorem dX11_init_0 : decode cX11_init 0 = .ok (.aload_n 0, 1) := by decide +kernel
theorem dX11_init_1 : decode cX11_init 1 = .ok (.invokespecial 1, 3) := by decide +kernel
theorem dX11_init_4 : decode cX11_init 4 = .ok (.aload_n 0, 1) := by decide +kernel
theorem dX11_init_5 : decode cX11_init 5 = .ok (.new 7, 3) := by decide +kernel
theorem dX11_init_8 : decode cX11_init 8 = .ok (.dup, 1) := by decide +kernel
theorem dX11_init_9 : decode cX11_init 9 = .ok (.invokespecial 9, 3) := by decide +kernel
theorem dX11_init_12 : decode cX11_init 12 = .ok (.putfield 10, 3) := by decide +kernel
theorem dX11_init_15 : decode cX11_init 15 = .ok (.aload_n 0, 1) := by decide +kernel
theorem dX11_init_16 : decode cX11_init 16 = .ok (.new 16, 3) := by decide +kernel
theorem dX11_init_19 : decode cX11_init 19 = .ok (.dup, 1) := by decide +kernel
theorem dX11_init_20 : decode cX11_init 20 = .ok (.invokespecial 18, 3) := by decide +kernel
theorem dX11_init_23 : decode cX11_init 23 = .ok (.putfield 19, 3) := by decide +kernel
theorem dX11_init_26 : decode cX11_init 26 = .ok (.aload_n 0, 1) := by decide +kernel
theorem dX11_init_27 : decode cX11_init 27 = .ok (.new 23, 3) := by decide +kernel
theorem dX11_init_30 : decode cX11_init 30 = .ok (.dup, 1) := by decide +kernel
theorem dX11_init_31 : decode cX11_init 31 = .ok (.invokespecial 25, 3) := by decide +kernel
theorem dX11_init_34 : decode cX11_init 34 = .ok (.putfield 26, 3) := by decide +kernel
theorem dX11_init_37 : decode cX11_init 37 = .ok (.aload_n 0, 1) := by decide +kernel
theorem dX11_init_38 : decode cX11_init 38 = .ok (.new 30, 3) := by decide +kernel
theorem dX11_init_41 : decode cX11_init 41 = .ok (.dup, 1) := by decide +kernel
theorem dX11_init_42 : decode cX11_init 42 = .ok (.invokespecial 32, 3) := by decide +kernel
theorem dX11_init_45 : decode cX11_init 45 = .ok (.putfield 33, 3) := by decide +kernel
theorem dX11_init_48 : decode cX11_init 48 = .ok (.aload_n 0, 1) := by decide +kernel
theorem dX11_init_49 : decode cX11_init 49 = .ok (.new 37, 3) := by decide +kernel
theorem dX11_init_52 : decode cX11_init 52 = .ok (.dup, 1) := by decide +kernel
theorem dX11_init_53 : decode cX11_init 53 = .ok (.invokespecial 39, 3) := by decide +kernel
theorem dX11_init_56 : decode cX11_init 56 = .ok (.putfield 40, 3) := by decide +kernel
theorem dX11_init_59 : decode cX11_init 59 = .ok (.aload_n 0, 1) := by decide +kernel
theorem dX11_init_60 : decode cX11_init 60 = .ok (.new 37, 3) := by decide +kernel
theorem dX11_init_63 : decode cX11_init 63 = .ok (.dup, 1) := by decide +kernel
theorem dX11_init_64 : decode cX11_init 64 = .ok (.invokespecial 39, 3) := by decide +kernel
theorem dX11_init_67 : decode cX11_init 67 = .ok (.putfield 44, 3) := by decide +kernel
theorem dX11_init_70 : decode cX11_init 70 = .ok (.aload_n 0, 1) := by decide +kernel
theorem dX11_init_71 : decode cX11_init 71 = .ok (.new 47, 3) := by decide +kernel
theorem dX11_init_74 : decode cX11_init 74 = .ok (.dup, 1) := by decide +kernel
theorem dX11_init_75 : decode cX11_init 75 = .ok (.invokespecial 49, 3) := by decide +kernel
theorem dX11_init_78 : decode cX11_init 78 = .ok (.putfield 50, 3) := by decide +kernel
theorem dX11_init_81 : decode cX11_init 81 = .ok (.aload_n 0, 1) := by decide +kernel
theorem dX11_init_82 : decode cX11_init 82 = .ok (.new 54, 3) := by decide +kernel
theorem dX11_init_85 : decode cX11_init 85 = .ok (.dup, 1) := by decide +kernel
theorem dX11_init_86 : decode cX11_init 86 = .ok (.invokespecial 56, 3) := by decide +kernel
theorem dX11_init_89 : decode cX11_init 89 = .ok (.putfield 57, 3) := by decide +kernel
theorem dX11_init_92 : decode cX11_init 92 = .ok (.aload_n 0, 1) := by decide +kernel
theorem dX11_init_93 : decode cX11_init 93 = .ok (.new 61, 3) := by decide +kernel
theorem dX11_init_96 : decode cX11_init 96 = .ok (.dup, 1) := by decide +kernel
theorem dX11_init_97 : decode cX11_init 97 = .ok (.invokespecial 63, 3) := by decide +kernel
theorem dX11_init_100 : decode cX11_init 100 = .ok (.putfield 64, 3) := by decide +kernel
theorem dX11_init_103 : decode cX11_init 103 = .ok (.aload_n 0, 1) := by decide +kernel
theorem dX11_init_104 : decode cX11_init 104 = .ok (.new 68, 3) := by decide +kernel
theorem dX11_init_107 : decode cX11_init 107 = .ok (.dup, 1) := by decide +kernel
theorem dX11_init_108 : decode cX11_init 108 = .ok (.invokespecial 70, 3) := by decide +kernel
theorem dX11_init_111 : decode cX11_init 111 = .ok (.putfield 71, 3) := by decide +kernel
theorem dX11_init_114 : decode cX11_init 114 = .ok (.aload_n 0, 1) := by decide +kernel
theorem dX11_init_115 : decode cX11_init 115 = .ok (.new 68, 3) := by decide +kernel
theorem dX11_init_118 : decode cX11_init 118 = .ok (.dup, 1) := by decide +kernel
theorem dX11_init_119 : decode cX11_init 119 = .ok (.invokespecial 70, 3) := by decide +kernel
theorem dX11_init_122 : decode cX11_init 122 = .ok (.putfield 75, 3) := by decide +kernel
theorem dX11_init_125 : decode cX11_init 125 = .ok (.aload_n 0, 1) := by decide +kernel
theorem dX11_init_126 : decode cX11_init 126 = .ok (.iconst 0, 1) := by decide +kernel
theorem dX11_init_127 : decode cX11_init 127 = .ok (.putfield 78, 3) := by decide +kernel
theorem dX11_init_130 : decode cX11_init 130 = .ok (.return_, 1) := by decide +kernel
theorem dX11_status_0 : decode cX11_status 0 = .ok (.aload_n 0, 1) := by decide +kernel
theorem dX11_status_1 : decode cX11_status 1 = .ok (.getfield 78, 3) := by decide +kernel
theorem dX11_status_4 : decode cX11_status 4 = .ok (.ireturn, 1) := by decide +kernel
theorem dX11_feed_0 : decode cX11_feed 0 = .ok (.aload_n 0, 1) := by decide +kernel
theorem dX11_feed_1 : decode cX11_feed 1 = .ok (.getfield 10, 3) := by decide +kernel
theorem dX11_feed_4 : decode cX11_feed 4 = .ok (.getfield 82, 3) := by decide +kernel
theorem dX11_feed_7 : decode cX11_feed 7 = .ok (.sipush 380, 3) := by decide +kernel
theorem dX11_feed_10 : decode cX11_feed 10 = .ok (.if_icmp .le 5, 3) := by decide +kernel
theorem dX11_feed_13 : decode cX11_feed 13 = .ok (.iconst (-1), 1) := by decide +kernel
theorem dX11_feed_14 : decode cX11_feed 14 = .ok (.ireturn, 1) := by decide +kernel
theorem dX11_feed_15 : decode cX11_feed 15 = .ok (.aload_n 0, 1) := by decide +kernel
theorem dX11_feed_16 : decode cX11_feed 16 = .ok (.getfield 10, 3) := by decide +kernel
theorem dX11_feed_19 : decode cX11_feed 19 = .ok (.iload_n 1, 1) := by decide +kernel
theorem dX11_feed_20 : decode cX11_feed 20 = .ok (.invokevirtual 85, 3) := by decide +kernel
theorem dX11_feed_23 : decode cX11_feed 23 = .ok (.aload_n 0, 1) := by decide +kernel
theorem dX11_feed_24 : decode cX11_feed 24 = .ok (.getfield 10, 3) := by decide +kernel
theorem dX11_feed_27 : decode cX11_feed 27 = .ok (.iload_n 2, 1) := by decide +kernel
theorem dX11_feed_28 : decode cX11_feed 28 = .ok (.invokevirtual 85, 3) := by decide +kernel
theorem dX11_feed_31 : decode cX11_feed 31 = .ok (.aload_n 0, 1) := by decide +kernel
theorem dX11_feed_32 : decode cX11_feed 32 = .ok (.getfield 10, 3) := by decide +kernel
theorem dX11_feed_35 : decode cX11_feed 35 = .ok (.iload_n 3, 1) := by decide +kernel
theorem dX11_feed_36 : decode cX11_feed 36 = .ok (.invokevirtual 85, 3) := by decide +kernel
theorem dX11_feed_39 : decode cX11_feed 39 = .ok (.aload_n 0, 1) := by decide +kernel
theorem dX11_feed_40 : decode cX11_feed 40 = .ok (.getfield 10, 3) := by decide +kernel
theorem dX11_feed_43 : decode cX11_feed 43 = .ok (.iload 4, 2) := by decide +kernel
theorem dX11_feed_45 : decode cX11_feed 45 = .ok (.invokevirtual 85, 3) := by decide +kernel
theorem dX11_feed_48 : decode cX11_feed 48 = .ok (.aload_n 0, 1) := by decide +kernel
theorem dX11_feed_49 : decode cX11_feed 49 = .ok (.getfield 10, 3) := by decide +kernel
theorem dX11_feed_52 : decode cX11_feed 52 = .ok (.iload 5, 2) := by decide +kernel
theorem dX11_feed_54 : decode cX11_feed 54 = .ok (.invokevirtual 85, 3) := by decide +kernel
theorem dX11_feed_57 : decode cX11_feed 57 = .ok (.aload_n 0, 1) := by decide +kernel
theorem dX11_feed_58 : decode cX11_feed 58 = .ok (.getfield 10, 3) := by decide +kernel
theorem dX11_feed_61 : decode cX11_feed 61 = .ok (.getfield 82, 3) := by decide +kernel
theorem dX11_feed_64 : decode cX11_feed 64 = .ok (.ireturn, 1) := by decide +kernel
theorem dX11_load_0 : decode cX11_load 0 = .ok (.aload_n 0, 1) := by decide +kernel
theorem dX11_load_1 : decode cX11_load 1 = .ok (.iload_n 1, 1) := by decide +kernel
theorem dX11_load_2 : decode cX11_load 2 = .ok (.invokevirtual 89, 3) := by decide +kernel
theorem dX11_load_5 : decode cX11_load 5 = .ok (.ifCond .ne 9, 3) := by decide +kernel
theorem dX11_load_8 : decode cX11_load 8 = .ok (.aload_n 0, 1) := by decide +kernel
theorem dX11_load_9 : decode cX11_load 9 = .ok (.iconst 1, 1) := by decide +kernel
theorem dX11_load_10 : decode cX11_load 10 = .ok (.invokevirtual 93, 3) := by decide +kernel
theorem dX11_load_13 : decode cX11_load 13 = .ok (.ireturn, 1) := by decide +kernel
theorem dX11_load_14 : decode cX11_load 14 = .ok (.aload_n 0, 1) := by decide +kernel
theorem dX11_load_15 : decode cX11_load 15 = .ok (.getfield 10, 3) := by decide +kernel
theorem dX11_load_18 : decode cX11_load 18 = .ok (.iload_n 1, 1) := by decide +kernel
theorem dX11_load_19 : decode cX11_load 19 = .ok (.iconst 0, 1) := by decide +kernel
theorem dX11_load_20 : decode cX11_load 20 = .ok (.invokevirtual 97, 3) := by decide +kernel
theorem dX11_load_23 : decode cX11_load 23 = .ok (.aload_n 0, 1) := by decide +kernel
theorem dX11_load_24 : decode cX11_load 24 = .ok (.getfield 19, 3) := by decide +kernel
theorem dX11_load_27 : decode cX11_load 27 = .ok (.aload_n 0, 1) := by decide +kernel
theorem dX11_load_28 : decode cX11_load 28 = .ok (.getfield 10, 3) := by decide +kernel
theorem dX11_load_31 : decode cX11_load 31 = .ok (.aload_n 0, 1) := by decide +kernel
theorem dX11_load_32 : decode cX11_load 32 = .ok (.getfield 75, 3) := by decide +kernel
theorem dX11_load_35 : decode cX11_load 35 = .ok (.invokevirtual 101, 3) := by decide +kernel
theorem dX11_load_38 : decode cX11_load 38 = .ok (.ifCond .ne 10, 3) := by decide +kernel
theorem dX11_load_41 : decode cX11_load 41 = .ok (.aload_n 0, 1) := by decide +kernel
theorem dX11_load_42 : decode cX11_load 42 = .ok (.bipush 9, 2) := by decide +kernel
theorem dX11_load_44 : decode cX11_load 44 = .ok (.invokevirtual 93, 3) := by decide +kernel
theorem dX11_load_47 : decode cX11_load 47 = .ok (.ireturn, 1) := by decide +kernel
theorem dX11_load_48 : decode cX11_load 48 = .ok (.aload_n 0, 1) := by decide +kernel
theorem dX11_load_49 : decode cX11_load 49 = .ok (.getfield 71, 3) := by decide +kernel
theorem dX11_load_52 : decode cX11_load 52 = .ok (.astore_n 2, 1) := by decide +kernel
theorem dX11_load_53 : decode cX11_load 53 = .ok (.aload_n 0, 1) := by decide +kernel
theorem dX11_load_54 : decode cX11_load 54 = .ok (.aload_n 0, 1) := by decide +kernel
theorem dX11_load_55 : decode cX11_load 55 = .ok (.getfield 75, 3) := by decide +kernel
theorem dX11_load_58 : decode cX11_load 58 = .ok (.putfield 71, 3) := by decide +kernel
theorem dX11_load_61 : decode cX11_load 61 = .ok (.aload_n 0, 1) := by decide +kernel
theorem dX11_load_62 : decode cX11_load 62 = .ok (.aload_n 2, 1) := by decide +kernel
theorem dX11_load_63 : decode cX11_load 63 = .ok (.putfield 75, 3) := by decide +kernel
theorem dX11_load_66 : decode cX11_load 66 = .ok (.aload_n 0, 1) := by decide +kernel
theorem dX11_load_67 : decode cX11_load 67 = .ok (.invokevirtual 105, 3) := by decide +kernel
theorem dX11_load_70 : decode cX11_load 70 = .ok (.aload_n 0, 1) := by decide +kernel
theorem dX11_load_71 : decode cX11_load 71 = .ok (.aload_n 0, 1) := by decide +kernel
theorem dX11_load_72 : decode cX11_load 72 = .ok (.getfield 71, 3) := by decide +kernel
theorem dX11_load_75 : decode cX11_load 75 = .ok (.getfield 108, 3) := by decide +kernel
theorem dX11_load_78 : decode cX11_load 78 = .ok (.invokevirtual 111, 3) := by decide +kernel
theorem dX11_load_81 : decode cX11_load 81 = .ok (.ireturn, 1) := by decide +kernel
theorem dX11_pairs_0 : decode cX11_pairs 0 = .ok (.aload_n 0, 1) := by decide +kernel
theorem dX11_pairs_1 : decode cX11_pairs 1 = .ok (.iload_n 1, 1) := by decide +kernel
theorem dX11_pairs_2 : decode cX11_pairs 2 = .ok (.invokevirtual 89, 3) := by decide +kernel
theorem dX11_pairs_5 : decode cX11_pairs 5 = .ok (.ifCond .ne 9, 3) := by decide +kernel
theorem dX11_pairs_8 : decode cX11_pairs 8 = .ok (.aload_n 0, 1) := by decide +kernel
theorem dX11_pairs_9 : decode cX11_pairs 9 = .ok (.iconst 1, 1) := by decide +kernel
theorem dX11_pairs_10 : decode cX11_pairs 10 = .ok (.invokevirtual 93, 3) := by decide +kernel
theorem dX11_pairs_13 : decode cX11_pairs 13 = .ok (.ireturn, 1) := by decide +kernel
theorem dX11_pairs_14 : decode cX11_pairs 14 = .ok (.aload_n 0, 1) := by decide +kernel
theorem dX11_pairs_15 : decode cX11_pairs 15 = .ok (.getfield 10, 3) := by decide +kernel
theorem dX11_pairs_18 : decode cX11_pairs 18 = .ok (.iload_n 1, 1) := by decide +kernel
theorem dX11_pairs_19 : decode cX11_pairs 19 = .ok (.iconst 1, 1) := by decide +kernel
theorem dX11_pairs_20 : decode cX11_pairs 20 = .ok (.invokevirtual 97, 3) := by decide +kernel
theorem dX11_pairs_23 : decode cX11_pairs 23 = .ok (.aload_n 0, 1) := by decide +kernel
theorem dX11_pairs_24 : decode cX11_pairs 24 = .ok (.getfield 26, 3) := by decide +kernel
theorem dX11_pairs_27 : decode cX11_pairs 27 = .ok (.aload_n 0, 1) := by decide +kernel
theorem dX11_pairs_28 : decode cX11_pairs 28 = .ok (.getfield 10, 3) := by decide +kernel
theorem dX11_pairs_31 : decode cX11_pairs 31 = .ok (.aload_n 0, 1) := by decide +kernel
theorem dX11_pairs_32 : decode cX11_pairs 32 = .ok (.getfield 71, 3) := by decide +kernel
theorem dX11_pairs_35 : decode cX11_pairs 35 = .ok (.invokevirtual 114, 3) := by decide +kernel
theorem dX11_pairs_38 : decode cX11_pairs 38 = .ok (.ifCond .ne 10, 3) := by decide +kernel
theorem dX11_pairs_41 : decode cX11_pairs 41 = .ok (.aload_n 0, 1) := by decide +kernel
theorem dX11_pairs_42 : decode cX11_pairs 42 = .ok (.bipush 9, 2) := by decide +kernel
theorem dX11_pairs_44 : decode cX11_pairs 44 = .ok (.invokevirtual 93, 3) := by decide +kernel
theorem dX11_pairs_47 : decode cX11_pairs 47 = .ok (.ireturn, 1) := by decide +kernel
theorem dX11_pairs_48 : decode cX11_pairs 48 = .ok (.aload_n 0, 1) := by decide +kernel
theorem dX11_pairs_49 : decode cX11_pairs 49 = .ok (.getfield 26, 3) := by decide +kernel
theorem dX11_pairs_52 : decode cX11_pairs 52 = .ok (.getfield 117, 3) := by decide +kernel
theorem dX11_pairs_55 : decode cX11_pairs 55 = .ok (.aload_n 0, 1) := by decide +kernel
theorem dX11_pairs_56 : decode cX11_pairs 56 = .ok (.getfield 71, 3) := by decide +kernel
theorem dX11_pairs_59 : decode cX11_pairs 59 = .ok (.invokevirtual 120, 3) := by decide +kernel
theorem dX11_pairs_62 : decode cX11_pairs 62 = .ok (.if_icmp .eq 9, 3) := by decide +kernel
theorem dX11_pairs_65 : decode cX11_pairs 65 = .ok (.aload_n 0, 1) := by decide +kernel
theorem dX11_pairs_66 : decode cX11_pairs 66 = .ok (.iconst 5, 1) := by decide +kernel
theorem dX11_pairs_67 : decode cX11_pairs 67 = .ok (.invokevirtual 93, 3) := by decide +kernel
theorem dX11_pairs_70 : decode cX11_pairs 70 = .ok (.ireturn, 1) := by decide +kernel
theorem dX11_pairs_71 : decode cX11_pairs 71 = .ok (.aload_n 0, 1) := by decide +kernel
theorem dX11_pairs_72 : decode cX11_pairs 72 = .ok (.invokevirtual 124, 3) := by decide +kernel
theorem dX11_pairs_75 : decode cX11_pairs 75 = .ok (.aload_n 0, 1) := by decide +kernel
theorem dX11_pairs_76 : decode cX11_pairs 76 = .ok (.getfield 26, 3) := by decide +kernel
theorem dX11_pairs_79 : decode cX11_pairs 79 = .ok (.getfield 128, 3) := by decide +kernel
theorem dX11_pairs_82 : decode cX11_pairs 82 = .ok (.invokevirtual 132, 3) := by decide +kernel
theorem dX11_pairs_85 : decode cX11_pairs 85 = .ok (.istore_n 2, 1) := by decide +kernel
theorem dX11_pairs_86 : decode cX11_pairs 86 = .ok (.iload_n 2, 1) := by decide +kernel
theorem dX11_pairs_87 : decode cX11_pairs 87 = .ok (.ifCond .ge 11, 3) := by decide +kernel
theorem dX11_pairs_90 : decode cX11_pairs 90 = .ok (.aload_n 0, 1) := by decide +kernel
theorem dX11_pairs_91 : decode cX11_pairs 91 = .ok (.iconst 5, 1) := by decide +kernel
theorem dX11_pairs_92 : decode cX11_pairs 92 = .ok (.invokevirtual 93, 3) := by decide +kernel
theorem dX11_pairs_95 : decode cX11_pairs 95 = .ok (.goto 8, 3) := by decide +kernel
theorem dX11_pairs_98 : decode cX11_pairs 98 = .ok (.aload_n 0, 1) := by decide +kernel
theorem dX11_pairs_99 : decode cX11_pairs 99 = .ok (.iload_n 2, 1) := by decide +kernel
theorem dX11_pairs_100 : decode cX11_pairs 100 = .ok (.invokevirtual 111, 3) := by decide +kernel
theorem dX11_pairs_103 : decode cX11_pairs 103 = .ok (.ireturn, 1) := by decide +kernel
theorem dX11_lines_0 : decode cX11_lines 0 = .ok (.aload_n 0, 1) := by decide +kernel
theorem dX11_lines_1 : decode cX11_lines 1 = .ok (.iload_n 1, 1) := by decide +kernel
theorem dX11_lines_2 : decode cX11_lines 2 = .ok (.invokevirtual 89, 3) := by decide +kernel
theorem dX11_lines_5 : decode cX11_lines 5 = .ok (.ifCond .ne 9, 3) := by decide +kernel
theorem dX11_lines_8 : decode cX11_lines 8 = .ok (.aload_n 0, 1) := by decide +kernel
theorem dX11_lines_9 : decode cX11_lines 9 = .ok (.iconst 1, 1) := by decide +kernel
theorem dX11_lines_10 : decode cX11_lines 10 = .ok (.invokevirtual 93, 3) := by decide +kernel
theorem dX11_lines_13 : decode cX11_lines 13 = .ok (.ireturn, 1) := by decide +kernel
theorem dX11_lines_14 : decode cX11_lines 14 = .ok (.aload_n 0, 1) := by decide +kernel
theorem dX11_lines_15 : decode cX11_lines 15 = .ok (.getfield 10, 3) := by decide +kernel
theorem dX11_lines_18 : decode cX11_lines 18 = .ok (.iload_n 1, 1) := by decide +kernel
theorem dX11_lines_19 : decode cX11_lines 19 = .ok (.iconst 1, 1) := by decide +kernel
theorem dX11_lines_20 : decode cX11_lines 20 = .ok (.invokevirtual 97, 3) := by decide +kernel
theorem dX11_lines_23 : decode cX11_lines 23 = .ok (.aload_n 0, 1) := by decide +kernel
theorem dX11_lines_24 : decode cX11_lines 24 = .ok (.getfield 26, 3) := by decide +kernel
theorem dX11_lines_27 : decode cX11_lines 27 = .ok (.aload_n 0, 1) := by decide +kernel
theorem dX11_lines_28 : decode cX11_lines 28 = .ok (.getfield 10, 3) := by decide +kernel
theorem dX11_lines_31 : decode cX11_lines 31 = .ok (.aload_n 0, 1) := by decide +kernel
theorem dX11_lines_32 : decode cX11_lines 32 = .ok (.getfield 71, 3) := by decide +kernel
theorem dX11_lines_35 : decode cX11_lines 35 = .ok (.invokevirtual 136, 3) := by decide +kernel
theorem dX11_lines_38 : decode cX11_lines 38 = .ok (.ifCond .ne 10, 3) := by decide +kernel
theorem dX11_lines_41 : decode cX11_lines 41 = .ok (.aload_n 0, 1) := by decide +kernel
theorem dX11_lines_42 : decode cX11_lines 42 = .ok (.bipush 9, 2) := by decide +kernel
theorem dX11_lines_44 : decode cX11_lines 44 = .ok (.invokevirtual 93, 3) := by decide +kernel
theorem dX11_lines_47 : decode cX11_lines 47 = .ok (.ireturn, 1) := by decide +kernel
theorem dX11_lines_48 : decode cX11_lines 48 = .ok (.aload_n 0, 1) := by decide +kernel
theorem dX11_lines_49 : decode cX11_lines 49 = .ok (.getfield 26, 3) := by decide +kernel
theorem dX11_lines_52 : decode cX11_lines 52 = .ok (.getfield 139, 3) := by decide +kernel
theorem dX11_lines_55 : decode cX11_lines 55 = .ok (.aload_n 0, 1) := by decide +kernel
theorem dX11_lines_56 : decode cX11_lines 56 = .ok (.getfield 71, 3) := by decide +kernel
theorem dX11_lines_59 : decode cX11_lines 59 = .ok (.getfield 108, 3) := by decide +kernel
theorem dX11_lines_62 : decode cX11_lines 62 = .ok (.iconst 2, 1) := by decide +kernel
theorem dX11_lines_63 : decode cX11_lines 63 = .ok (.idiv, 1) := by decide +kernel
theorem dX11_lines_64 : decode cX11_lines 64 = .ok (.if_icmp .eq 9, 3) := by decide +kernel
theorem dX11_lines_67 : decode cX11_lines 67 = .ok (.aload_n 0, 1) := by decide +kernel
theorem dX11_lines_68 : decode cX11_lines 68 = .ok (.iconst 5, 1) := by decide +kernel
theorem dX11_lines_69 : decode cX11_lines 69 = .ok (.invokevirtual 93, 3) := by decide +kernel
theorem dX11_lines_72 : decode cX11_lines 72 = .ok (.ireturn, 1) := by decide +kernel
theorem dX11_lines_73 : decode cX11_lines 73 = .ok (.aload_n 0, 1) := by decide +kernel
theorem dX11_lines_74 : decode cX11_lines 74 = .ok (.invokevirtual 142, 3) := by decide +kernel
theorem dX11_lines_77 : decode cX11_lines 77 = .ok (.aload_n 0, 1) := by decide +kernel
theorem dX11_lines_78 : decode cX11_lines 78 = .ok (.getfield 26, 3) := by decide +kernel
theorem dX11_lines_81 : decode cX11_lines 81 = .ok (.invokevirtual 146, 3) := by decide +kernel
theorem dX11_lines_84 : decode cX11_lines 84 = .ok (.invokevirtual 150, 3) := by decide +kernel
theorem dX11_lines_87 : decode cX11_lines 87 = .ok (.istore_n 2, 1) := by decide +kernel
theorem dX11_lines_88 : decode cX11_lines 88 = .ok (.iload_n 2, 1) := by decide +kernel
theorem dX11_lines_89 : decode cX11_lines 89 = .ok (.ifCond .ge 11, 3) := by decide +kernel
theorem dX11_lines_92 : decode cX11_lines 92 = .ok (.aload_n 0, 1) := by decide +kernel
theorem dX11_lines_93 : decode cX11_lines 93 = .ok (.iconst 5, 1) := by decide +kernel
theorem dX11_lines_94 : decode cX11_lines 94 = .ok (.invokevirtual 93, 3) := by decide +kernel
theorem dX11_lines_97 : decode cX11_lines 97 = .ok (.goto 8, 3) := by decide +kernel
theorem dX11_lines_100 : decode cX11_lines 100 = .ok (.aload_n 0, 1) := by decide +kernel
theorem dX11_lines_101 : decode cX11_lines 101 = .ok (.iload_n 2, 1) := by decide +kernel
theorem dX11_lines_102 : decode cX11_lines 102 = .ok (.invokevirtual 111, 3) := by decide +kernel
theorem dX11_lines_105 : decode cX11_lines 105 = .ok (.ireturn, 1) := by decide +kernel
theorem dX11_fault_0 : decode cX11_fault 0 = .ok (.iload_n 1, 1) := by decide +kernel
theorem dX11_fault_1 : decode cX11_fault 1 = .ok (.ifCond .ne 11, 3) := by decide +kernel
theorem dX11_fault_4 : decode cX11_fault 4 = .ok (.aload_n 0, 1) := by decide +kernel
theorem dX11_fault_5 : decode cX11_fault 5 = .ok (.getfield 10, 3) := by decide +kernel
theorem dX11_fault_8 : decode cX11_fault 8 = .ok (.getfield 151, 3) := by decide +kernel
theorem dX11_fault_11 : decode cX11_fault 11 = .ok (.ireturn, 1) := by decide +kernel
theorem dX11_fault_12 : decode cX11_fault 12 = .ok (.iload_n 1, 1) := by decide +kernel
theorem dX11_fault_13 : decode cX11_fault 13 = .ok (.iconst 1, 1) := by decide +kernel
theorem dX11_fault_14 : decode cX11_fault 14 = .ok (.if_icmp .ne 13, 3) := by decide +kernel
theorem dX11_fault_17 : decode cX11_fault 17 = .ok (.aload_n 0, 1) := by decide +kernel
theorem dX11_fault_18 : decode cX11_fault 18 = .ok (.getfield 10, 3) := by decide +kernel
theorem dX11_fault_21 : decode cX11_fault 21 = .ok (.getfield 154, 3) := by decide +kernel
theorem dX11_fault_24 : decode cX11_fault 24 = .ok (.goto 4, 3) := by decide +kernel
theorem dX11_fault_27 : decode cX11_fault 27 = .ok (.iconst (-1), 1) := by decide +kernel
theorem dX11_fault_28 : decode cX11_fault 28 = .ok (.ireturn, 1) := by decide +kernel
theorem dX11_many_0 : decode cX11_many 0 = .ok (.iload_n 1, 1) := by decide +kernel
theorem dX11_many_1 : decode cX11_many 1 = .ok (.tableswitch 225 0 12 #[67, 79, 91, 103, 115, 127, 136, 148, 160, 172, 184, 199, 211], 67) := by decide +kernel
theorem dX11_many_68 : decode cX11_many 68 = .ok (.aload_n 0, 1) := by decide +kernel
theorem dX11_many_69 : decode cX11_many 69 = .ok (.aload_n 0, 1) := by decide +kernel
theorem dX11_many_70 : decode cX11_many 70 = .ok (.getfield 71, 3) := by decide +kernel
theorem dX11_many_73 : decode cX11_many 73 = .ok (.getfield 157, 3) := by decide +kernel
theorem dX11_many_76 : decode cX11_many 76 = .ok (.invokevirtual 111, 3) := by decide +kernel
theorem dX11_many_79 : decode cX11_many 79 = .ok (.ireturn, 1) := by decide +kernel
theorem dX11_many_80 : decode cX11_many 80 = .ok (.aload_n 0, 1) := by decide +kernel
theorem dX11_many_81 : decode cX11_many 81 = .ok (.aload_n 0, 1) := by decide +kernel
theorem dX11_many_82 : decode cX11_many 82 = .ok (.getfield 71, 3) := by decide +kernel
theorem dX11_many_85 : decode cX11_many 85 = .ok (.getfield 160, 3) := by decide +kernel
theorem dX11_many_88 : decode cX11_many 88 = .ok (.invokevirtual 111, 3) := by decide +kernel
theorem dX11_many_91 : decode cX11_many 91 = .ok (.ireturn, 1) := by decide +kernel
theorem dX11_many_92 : decode cX11_many 92 = .ok (.aload_n 0, 1) := by decide +kernel
theorem dX11_many_93 : decode cX11_many 93 = .ok (.aload_n 0, 1) := by decide +kernel
theorem dX11_many_94 : decode cX11_many 94 = .ok (.getfield 71, 3) := by decide +kernel
theorem dX11_many_97 : decode cX11_many 97 = .ok (.getfield 163, 3) := by decide +kernel
theorem dX11_many_100 : decode cX11_many 100 = .ok (.invokevirtual 111, 3) := by decide +kernel
theorem dX11_many_103 : decode cX11_many 103 = .ok (.ireturn, 1) := by decide +kernel
theorem dX11_many_104 : decode cX11_many 104 = .ok (.aload_n 0, 1) := by decide +kernel
theorem dX11_many_105 : decode cX11_many 105 = .ok (.aload_n 0, 1) := by decide +kernel
theorem dX11_many_106 : decode cX11_many 106 = .ok (.getfield 71, 3) := by decide +kernel
theorem dX11_many_109 : decode cX11_many 109 = .ok (.invokevirtual 166, 3) := by decide +kernel
theorem dX11_many_112 : decode cX11_many 112 = .ok (.invokevirtual 111, 3) := by decide +kernel
theorem dX11_many_115 : decode cX11_many 115 = .ok (.ireturn, 1) := by decide +kernel
theorem dX11_many_116 : decode cX11_many 116 = .ok (.aload_n 0, 1) := by decide +kernel
theorem dX11_many_117 : decode cX11_many 117 = .ok (.aload_n 0, 1) := by decide +kernel
theorem dX11_many_118 : decode cX11_many 118 = .ok (.getfield 71, 3) := by decide +kernel
theorem dX11_many_121 : decode cX11_many 121 = .ok (.getfield 108, 3) := by decide +kernel
theorem dX11_many_124 : decode cX11_many 124 = .ok (.invokevirtual 111, 3) := by decide +kernel
theorem dX11_many_127 : decode cX11_many 127 = .ok (.ireturn, 1) := by decide +kernel
theorem dX11_many_128 : decode cX11_many 128 = .ok (.aload_n 0, 1) := by decide +kernel
theorem dX11_many_129 : decode cX11_many 129 = .ok (.aload_n 0, 1) := by decide +kernel
theorem dX11_many_130 : decode cX11_many 130 = .ok (.invokevirtual 169, 3) := by decide +kernel
theorem dX11_many_133 : decode cX11_many 133 = .ok (.invokevirtual 111, 3) := by decide +kernel
theorem dX11_many_136 : decode cX11_many 136 = .ok (.ireturn, 1) := by decide +kernel
theorem dX11_many_137 : decode cX11_many 137 = .ok (.aload_n 0, 1) := by decide +kernel
theorem dX11_many_138 : decode cX11_many 138 = .ok (.aload_n 0, 1) := by decide +kernel
theorem dX11_many_139 : decode cX11_many 139 = .ok (.invokevirtual 142, 3) := by decide +kernel
theorem dX11_many_142 : decode cX11_many 142 = .ok (.getfield 172, 3) := by decide +kernel
theorem dX11_many_145 : decode cX11_many 145 = .ok (.invokevirtual 111, 3) := by decide +kernel
theorem dX11_many_148 : decode cX11_many 148 = .ok (.ireturn, 1) := by decide +kernel
theorem dX11_many_149 : decode cX11_many 149 = .ok (.aload_n 0, 1) := by decide +kernel
theorem dX11_many_150 : decode cX11_many 150 = .ok (.aload_n 0, 1) := by decide +kernel
theorem dX11_many_151 : decode cX11_many 151 = .ok (.invokevirtual 124, 3) := by decide +kernel
theorem dX11_many_154 : decode cX11_many 154 = .ok (.invokevirtual 175, 3) := by decide +kernel
theorem dX11_many_157 : decode cX11_many 157 = .ok (.invokevirtual 111, 3) := by decide +kernel
theorem dX11_many_160 : decode cX11_many 160 = .ok (.ireturn, 1) := by decide +kernel
theorem dX11_many_161 : decode cX11_many 161 = .ok (.aload_n 0, 1) := by decide +kernel
theorem dX11_many_162 : decode cX11_many 162 = .ok (.aload_n 0, 1) := by decide +kernel
theorem dX11_many_163 : decode cX11_many 163 = .ok (.invokevirtual 142, 3) := by decide +kernel
theorem dX11_many_166 : decode cX11_many 166 = .ok (.invokevirtual 178, 3) := by decide +kernel
theorem dX11_many_169 : decode cX11_many 169 = .ok (.invokevirtual 111, 3) := by decide +kernel
theorem dX11_many_172 : decode cX11_many 172 = .ok (.ireturn, 1) := by decide +kernel
theorem dX11_many_173 : decode cX11_many 173 = .ok (.aload_n 0, 1) := by decide +kernel
theorem dX11_many_174 : decode cX11_many 174 = .ok (.aload_n 0, 1) := by decide +kernel
theorem dX11_many_175 : decode cX11_many 175 = .ok (.invokevirtual 142, 3) := by decide +kernel
theorem dX11_many_178 : decode cX11_many 178 = .ok (.invokevirtual 181, 3) := by decide +kernel
theorem dX11_many_181 : decode cX11_many 181 = .ok (.invokevirtual 111, 3) := by decide +kernel
theorem dX11_many_184 : decode cX11_many 184 = .ok (.ireturn, 1) := by decide +kernel
theorem dX11_many_185 : decode cX11_many 185 = .ok (.aload_n 0, 1) := by decide +kernel
theorem dX11_many_186 : decode cX11_many 186 = .ok (.aload_n 0, 1) := by decide +kernel
theorem dX11_many_187 : decode cX11_many 187 = .ok (.invokevirtual 124, 3) := by decide +kernel
theorem dX11_many_190 : decode cX11_many 190 = .ok (.iconst 0, 1) := by decide +kernel
theorem dX11_many_191 : decode cX11_many 191 = .ok (.iconst 0, 1) := by decide +kernel
theorem dX11_many_192 : decode cX11_many 192 = .ok (.iconst 0, 1) := by decide +kernel
theorem dX11_many_193 : decode cX11_many 193 = .ok (.invokevirtual 184, 3) := by decide +kernel
theorem dX11_many_196 : decode cX11_many 196 = .ok (.invokevirtual 111, 3) := by decide +kernel
theorem dX11_many_199 : decode cX11_many 199 = .ok (.ireturn, 1) := by decide +kernel
theorem dX11_many_200 : decode cX11_many 200 = .ok (.aload_n 0, 1) := by decide +kernel
theorem dX11_many_201 : decode cX11_many 201 = .ok (.aload_n 0, 1) := by decide +kernel
theorem dX11_many_202 : decode cX11_many 202 = .ok (.invokevirtual 142, 3) := by decide +kernel
theorem dX11_many_205 : decode cX11_many 205 = .ok (.invokevirtual 188, 3) := by decide +kernel
theorem dX11_many_208 : decode cX11_many 208 = .ok (.invokevirtual 111, 3) := by decide +kernel
theorem dX11_many_211 : decode cX11_many 211 = .ok (.ireturn, 1) := by decide +kernel
theorem dX11_many_212 : decode cX11_many 212 = .ok (.aload_n 0, 1) := by decide +kernel
theorem dX11_many_213 : decode cX11_many 213 = .ok (.aload_n 0, 1) := by decide +kernel
theorem dX11_many_214 : decode cX11_many 214 = .ok (.invokevirtual 142, 3) := by decide +kernel
theorem dX11_many_217 : decode cX11_many 217 = .ok (.iconst 0, 1) := by decide +kernel
theorem dX11_many_218 : decode cX11_many 218 = .ok (.iconst 1, 1) := by decide +kernel
theorem dX11_many_219 : decode cX11_many 219 = .ok (.invokevirtual 191, 3) := by decide +kernel
theorem dX11_many_222 : decode cX11_many 222 = .ok (.invokevirtual 111, 3) := by decide +kernel
theorem dX11_many_225 : decode cX11_many 225 = .ok (.ireturn, 1) := by decide +kernel
theorem dX11_many_226 : decode cX11_many 226 = .ok (.aload_n 0, 1) := by decide +kernel
theorem dX11_many_227 : decode cX11_many 227 = .ok (.iconst 1, 1) := by decide +kernel
theorem dX11_many_228 : decode cX11_many 228 = .ok (.invokevirtual 93, 3) := by decide +kernel
theorem dX11_many_231 : decode cX11_many 231 = .ok (.ireturn, 1) := by decide +kernel
theorem dX11_letter_0 : decode cX11_letter 0 = .ok (.iload_n 2, 1) := by decide +kernel
theorem dX11_letter_1 : decode cX11_letter 1 = .ok (.ifCond .lt 8, 3) := by decide +kernel
theorem dX11_letter_4 : decode cX11_letter 4 = .ok (.iload_n 2, 1) := by decide +kernel
theorem dX11_letter_5 : decode cX11_letter 5 = .ok (.iconst 3, 1) := by decide +kernel
theorem dX11_letter_6 : decode cX11_letter 6 = .ok (.if_icmp .le 9, 3) := by decide +kernel
theorem dX11_letter_9 : decode cX11_letter 9 = .ok (.aload_n 0, 1) := by decide +kernel
theorem dX11_letter_10 : decode cX11_letter 10 = .ok (.iconst 1, 1) := by decide +kernel
theorem dX11_letter_11 : decode cX11_letter 11 = .ok (.invokevirtual 93, 3) := by decide +kernel
theorem dX11_letter_14 : decode cX11_letter 14 = .ok (.ireturn, 1) := by decide +kernel
theorem dX11_letter_15 : decode cX11_letter 15 = .ok (.aload_n 0, 1) := by decide +kernel
theorem dX11_letter_16 : decode cX11_letter 16 = .ok (.getfield 71, 3) := by decide +kernel
theorem dX11_letter_19 : decode cX11_letter 19 = .ok (.iload_n 1, 1) := by decide +kernel
theorem dX11_letter_20 : decode cX11_letter 20 = .ok (.invokevirtual 195, 3) := by decide +kernel
theorem dX11_letter_23 : decode cX11_letter 23 = .ok (.ifCond .ne 9, 3) := by decide +kernel
theorem dX11_letter_26 : decode cX11_letter 26 = .ok (.aload_n 0, 1) := by decide +kernel
theorem dX11_letter_27 : decode cX11_letter 27 = .ok (.iconst 2, 1) := by decide +kernel
theorem dX11_letter_28 : decode cX11_letter 28 = .ok (.invokevirtual 93, 3) := by decide +kernel
theorem dX11_letter_31 : decode cX11_letter 31 = .ok (.ireturn, 1) := by decide +kernel
theorem dX11_letter_32 : decode cX11_letter 32 = .ok (.aload_n 0, 1) := by decide +kernel
theorem dX11_letter_33 : decode cX11_letter 33 = .ok (.aload_n 0, 1) := by decide +kernel
theorem dX11_letter_34 : decode cX11_letter 34 = .ok (.getfield 71, 3) := by decide +kernel
theorem dX11_letter_37 : decode cX11_letter 37 = .ok (.iload_n 1, 1) := by decide +kernel
theorem dX11_letter_38 : decode cX11_letter 38 = .ok (.iload_n 2, 1) := by decide +kernel
theorem dX11_letter_39 : decode cX11_letter 39 = .ok (.invokevirtual 198, 3) := by decide +kernel
theorem dX11_letter_42 : decode cX11_letter 42 = .ok (.invokevirtual 111, 3) := by decide +kernel
theorem dX11_letter_45 : decode cX11_letter 45 = .ok (.ireturn, 1) := by decide +kernel
theorem dX11_field_0 : decode cX11_field 0 = .ok (.iload_n 2, 1) := by decide +kernel
theorem dX11_field_1 : decode cX11_field 1 = .ok (.ifCond .lt 8, 3) := by decide +kernel
theorem dX11_field_4 : decode cX11_field 4 = .ok (.iload_n 2, 1) := by decide +kernel
theorem dX11_field_5 : decode cX11_field 5 = .ok (.iconst 2, 1) := by decide +kernel
theorem dX11_field_6 : decode cX11_field 6 = .ok (.if_icmp .le 9, 3) := by decide +kernel
theorem dX11_field_9 : decode cX11_field 9 = .ok (.aload_n 0, 1) := by decide +kernel
theorem dX11_field_10 : decode cX11_field 10 = .ok (.iconst 1, 1) := by decide +kernel
theorem dX11_field_11 : decode cX11_field 11 = .ok (.invokevirtual 93, 3) := by decide +kernel
theorem dX11_field_14 : decode cX11_field 14 = .ok (.ireturn, 1) := by decide +kernel
theorem dX11_field_15 : decode cX11_field 15 = .ok (.iload_n 1, 1) := by decide +kernel
theorem dX11_field_16 : decode cX11_field 16 = .ok (.ifCond .lt 14, 3) := by decide +kernel
theorem dX11_field_19 : decode cX11_field 19 = .ok (.iload_n 1, 1) := by decide +kernel
theorem dX11_field_20 : decode cX11_field 20 = .ok (.aload_n 0, 1) := by decide +kernel
theorem dX11_field_21 : decode cX11_field 21 = .ok (.getfield 71, 3) := by decide +kernel
theorem dX11_field_24 : decode cX11_field 24 = .ok (.getfield 157, 3) := by decide +kernel
theorem dX11_field_27 : decode cX11_field 27 = .ok (.if_icmp .lt 9, 3) := by decide +kernel
theorem dX11_field_30 : decode cX11_field 30 = .ok (.aload_n 0, 1) := by decide +kernel
theorem dX11_field_31 : decode cX11_field 31 = .ok (.iconst 2, 1) := by decide +kernel
theorem dX11_field_32 : decode cX11_field 32 = .ok (.invokevirtual 93, 3) := by decide +kernel
theorem dX11_field_35 : decode cX11_field 35 = .ok (.ireturn, 1) := by decide +kernel
theorem dX11_field_36 : decode cX11_field 36 = .ok (.aload_n 0, 1) := by decide +kernel
theorem dX11_field_37 : decode cX11_field 37 = .ok (.aload_n 0, 1) := by decide +kernel
theorem dX11_field_38 : decode cX11_field 38 = .ok (.getfield 71, 3) := by decide +kernel
theorem dX11_field_41 : decode cX11_field 41 = .ok (.iload_n 1, 1) := by decide +kernel
theorem dX11_field_42 : decode cX11_field 42 = .ok (.iload_n 2, 1) := by decide +kernel
theorem dX11_field_43 : decode cX11_field 43 = .ok (.invokevirtual 201, 3) := by decide +kernel
theorem dX11_field_46 : decode cX11_field 46 = .ok (.invokevirtual 111, 3) := by decide +kernel
theorem dX11_field_49 : decode cX11_field 49 = .ok (.ireturn, 1) := by decide +kernel
theorem dX11_point_0 : decode cX11_point 0 = .ok (.iload_n 2, 1) := by decide +kernel
theorem dX11_point_1 : decode cX11_point 1 = .ok (.ifCond .lt 8, 3) := by decide +kernel
theorem dX11_point_4 : decode cX11_point 4 = .ok (.iload_n 2, 1) := by decide +kernel
theorem dX11_point_5 : decode cX11_point 5 = .ok (.iconst 4, 1) := by decide +kernel
theorem dX11_point_6 : decode cX11_point 6 = .ok (.if_icmp .le 9, 3) := by decide +kernel
theorem dX11_point_9 : decode cX11_point 9 = .ok (.aload_n 0, 1) := by decide +kernel
theorem dX11_point_10 : decode cX11_point 10 = .ok (.iconst 1, 1) := by decide +kernel
theorem dX11_point_11 : decode cX11_point 11 = .ok (.invokevirtual 93, 3) := by decide +kernel
theorem dX11_point_14 : decode cX11_point 14 = .ok (.ireturn, 1) := by decide +kernel
theorem dX11_point_15 : decode cX11_point 15 = .ok (.aload_n 0, 1) := by decide +kernel
theorem dX11_point_16 : decode cX11_point 16 = .ok (.getfield 71, 3) := by decide +kernel
theorem dX11_point_19 : decode cX11_point 19 = .ok (.iload_n 1, 1) := by decide +kernel
theorem dX11_point_20 : decode cX11_point 20 = .ok (.invokevirtual 204, 3) := by decide +kernel
theorem dX11_point_23 : decode cX11_point 23 = .ok (.ifCond .ne 9, 3) := by decide +kernel
theorem dX11_point_26 : decode cX11_point 26 = .ok (.aload_n 0, 1) := by decide +kernel
theorem dX11_point_27 : decode cX11_point 27 = .ok (.iconst 2, 1) := by decide +kernel
theorem dX11_point_28 : decode cX11_point 28 = .ok (.invokevirtual 93, 3) := by decide +kernel
theorem dX11_point_31 : decode cX11_point 31 = .ok (.ireturn, 1) := by decide +kernel
theorem dX11_point_32 : decode cX11_point 32 = .ok (.aload_n 0, 1) := by decide +kernel
theorem dX11_point_33 : decode cX11_point 33 = .ok (.aload_n 0, 1) := by decide +kernel
theorem dX11_point_34 : decode cX11_point 34 = .ok (.getfield 71, 3) := by decide +kernel
theorem dX11_point_37 : decode cX11_point 37 = .ok (.iload_n 1, 1) := by decide +kernel
theorem dX11_point_38 : decode cX11_point 38 = .ok (.iload_n 2, 1) := by decide +kernel
theorem dX11_point_39 : decode cX11_point 39 = .ok (.invokevirtual 207, 3) := by decide +kernel
theorem dX11_point_42 : decode cX11_point 42 = .ok (.invokevirtual 111, 3) := by decide +kernel
theorem dX11_point_45 : decode cX11_point 45 = .ok (.ireturn, 1) := by decide +kernel
theorem dX11_code_0 : decode cX11_code 0 = .ok (.aload_n 0, 1) := by decide +kernel
theorem dX11_code_1 : decode cX11_code 1 = .ok (.getfield 71, 3) := by decide +kernel
theorem dX11_code_4 : decode cX11_code 4 = .ok (.iload_n 1, 1) := by decide +kernel
theorem dX11_code_5 : decode cX11_code 5 = .ok (.invokevirtual 195, 3) := by decide +kernel
theorem dX11_code_8 : decode cX11_code 8 = .ok (.ifCond .eq 14, 3) := by decide +kernel
theorem dX11_code_11 : decode cX11_code 11 = .ok (.aload_n 0, 1) := by decide +kernel
theorem dX11_code_12 : decode cX11_code 12 = .ok (.getfield 71, 3) := by decide +kernel
theorem dX11_code_15 : decode cX11_code 15 = .ok (.iload_n 2, 1) := by decide +kernel
theorem dX11_code_16 : decode cX11_code 16 = .ok (.invokevirtual 195, 3) := by decide +kernel
theorem dX11_code_19 : decode cX11_code 19 = .ok (.ifCond .ne 9, 3) := by decide +kernel
theorem dX11_code_22 : decode cX11_code 22 = .ok (.aload_n 0, 1) := by decide +kernel
theorem dX11_code_23 : decode cX11_code 23 = .ok (.iconst 2, 1) := by decide +kernel
theorem dX11_code_24 : decode cX11_code 24 = .ok (.invokevirtual 93, 3) := by decide +kernel
theorem dX11_code_27 : decode cX11_code 27 = .ok (.ireturn, 1) := by decide +kernel
theorem dX11_code_28 : decode cX11_code 28 = .ok (.iload_n 1, 1) := by decide +kernel
theorem dX11_code_29 : decode cX11_code 29 = .ok (.iload_n 2, 1) := by decide +kernel
theorem dX11_code_30 : decode cX11_code 30 = .ok (.if_icmp .ne 9, 3) := by decide +kernel
theorem dX11_code_33 : decode cX11_code 33 = .ok (.aload_n 0, 1) := by decide +kernel
theorem dX11_code_34 : decode cX11_code 34 = .ok (.iconst 4, 1) := by decide +kernel
theorem dX11_code_35 : decode cX11_code 35 = .ok (.invokevirtual 93, 3) := by decide +kernel
theorem dX11_code_38 : decode cX11_code 38 = .ok (.ireturn, 1) := by decide +kernel
theorem dX11_code_39 : decode cX11_code 39 = .ok (.aload_n 0, 1) := by decide +kernel
theorem dX11_code_40 : decode cX11_code 40 = .ok (.getfield 71, 3) := by decide +kernel
theorem dX11_code_43 : decode cX11_code 43 = .ok (.iload_n 1, 1) := by decide +kernel
theorem dX11_code_44 : decode cX11_code 44 = .ok (.iload_n 2, 1) := by decide +kernel
theorem dX11_code_45 : decode cX11_code 45 = .ok (.invokevirtual 210, 3) := by decide +kernel
theorem dX11_code_48 : decode cX11_code 48 = .ok (.ifCond .eq 19, 3) := by decide +kernel
theorem dX11_code_51 : decode cX11_code 51 = .ok (.aload_n 0, 1) := by decide +kernel
theorem dX11_code_52 : decode cX11_code 52 = .ok (.aload_n 0, 1) := by decide +kernel
theorem dX11_code_53 : decode cX11_code 53 = .ok (.getfield 71, 3) := by decide +kernel
theorem dX11_code_56 : decode cX11_code 56 = .ok (.iload_n 1, 1) := by decide +kernel
theorem dX11_code_57 : decode cX11_code 57 = .ok (.iload_n 2, 1) := by decide +kernel
theorem dX11_code_58 : decode cX11_code 58 = .ok (.invokevirtual 214, 3) := by decide +kernel
theorem dX11_code_61 : decode cX11_code 61 = .ok (.invokevirtual 111, 3) := by decide +kernel
theorem dX11_code_64 : decode cX11_code 64 = .ok (.goto 8, 3) := by decide +kernel
theorem dX11_code_67 : decode cX11_code 67 = .ok (.aload_n 0, 1) := by decide +kernel
theorem dX11_code_68 : decode cX11_code 68 = .ok (.iconst 5, 1) := by decide +kernel
theorem dX11_code_69 : decode cX11_code 69 = .ok (.invokevirtual 93, 3) := by decide +kernel
theorem dX11_code_72 : decode cX11_code 72 = .ok (.ireturn, 1) := by decide +kernel
theorem dX11_drop_0 : decode cX11_drop 0 = .ok (.aload_n 0, 1) := by decide +kernel
theorem dX11_drop_1 : decode cX11_drop 1 = .ok (.getfield 71, 3) := by decide +kernel
theorem dX11_drop_4 : decode cX11_drop 4 = .ok (.iload_n 1, 1) := by decide +kernel
theorem dX11_drop_5 : decode cX11_drop 5 = .ok (.invokevirtual 204, 3) := by decide +kernel
theorem dX11_drop_8 : decode cX11_drop 8 = .ok (.ifCond .ne 9, 3) := by decide +kernel
theorem dX11_drop_11 : decode cX11_drop 11 = .ok (.aload_n 0, 1) := by decide +kernel
theorem dX11_drop_12 : decode cX11_drop 12 = .ok (.iconst 2, 1) := by decide +kernel
theorem dX11_drop_13 : decode cX11_drop 13 = .ok (.invokevirtual 93, 3) := by decide +kernel
theorem dX11_drop_16 : decode cX11_drop 16 = .ok (.ireturn, 1) := by decide +kernel
theorem dX11_drop_17 : decode cX11_drop 17 = .ok (.aload_n 0, 1) := by decide +kernel
theorem dX11_drop_18 : decode cX11_drop 18 = .ok (.getfield 71, 3) := by decide +kernel
theorem dX11_drop_21 : decode cX11_drop 21 = .ok (.iload_n 1, 1) := by decide +kernel
theorem dX11_drop_22 : decode cX11_drop 22 = .ok (.invokevirtual 217, 3) := by decide +kernel
theorem dX11_drop_25 : decode cX11_drop 25 = .ok (.aload_n 0, 1) := by decide +kernel
theorem dX11_drop_26 : decode cX11_drop 26 = .ok (.invokevirtual 105, 3) := by decide +kernel
theorem dX11_drop_29 : decode cX11_drop 29 = .ok (.aload_n 0, 1) := by decide +kernel
theorem dX11_drop_30 : decode cX11_drop 30 = .ok (.aload_n 0, 1) := by decide +kernel
theorem dX11_drop_31 : decode cX11_drop 31 = .ok (.getfield 71, 3) := by decide +kernel
theorem dX11_drop_34 : decode cX11_drop 34 = .ok (.getfield 163, 3) := by decide +kernel
theorem dX11_drop_37 : decode cX11_drop 37 = .ok (.invokevirtual 111, 3) := by decide +kernel
theorem dX11_drop_40 : decode cX11_drop 40 = .ok (.ireturn, 1) := by decide +kernel
theorem dX11_move_0 : decode cX11_move 0 = .ok (.iload_n 2, 1) := by decide +kernel
theorem dX11_move_1 : decode cX11_move 1 = .ok (.ifCond .lt 14, 3) := by decide +kernel
theorem dX11_move_4 : decode cX11_move 4 = .ok (.iload_n 2, 1) := by decide +kernel
theorem dX11_move_5 : decode cX11_move 5 = .ok (.aload_n 0, 1) := by decide +kernel
theorem dX11_move_6 : decode cX11_move 6 = .ok (.getfield 71, 3) := by decide +kernel
theorem dX11_move_9 : decode cX11_move 9 = .ok (.getfield 163, 3) := by decide +kernel
theorem dX11_move_12 : decode cX11_move 12 = .ok (.if_icmp .lt 9, 3) := by decide +kernel
theorem dX11_move_15 : decode cX11_move 15 = .ok (.aload_n 0, 1) := by decide +kernel
theorem dX11_move_16 : decode cX11_move 16 = .ok (.iconst 1, 1) := by decide +kernel
theorem dX11_move_17 : decode cX11_move 17 = .ok (.invokevirtual 93, 3) := by decide +kernel
theorem dX11_move_20 : decode cX11_move 20 = .ok (.ireturn, 1) := by decide +kernel
theorem dX11_move_21 : decode cX11_move 21 = .ok (.aload_n 0, 1) := by decide +kernel
theorem dX11_move_22 : decode cX11_move 22 = .ok (.getfield 71, 3) := by decide +kernel
theorem dX11_move_25 : decode cX11_move 25 = .ok (.iload_n 1, 1) := by decide +kernel
theorem dX11_move_26 : decode cX11_move 26 = .ok (.invokevirtual 204, 3) := by decide +kernel
theorem dX11_move_29 : decode cX11_move 29 = .ok (.ifCond .ne 9, 3) := by decide +kernel
theorem dX11_move_32 : decode cX11_move 32 = .ok (.aload_n 0, 1) := by decide +kernel
theorem dX11_move_33 : decode cX11_move 33 = .ok (.iconst 2, 1) := by decide +kernel
theorem dX11_move_34 : decode cX11_move 34 = .ok (.invokevirtual 93, 3) := by decide +kernel
theorem dX11_move_37 : decode cX11_move 37 = .ok (.ireturn, 1) := by decide +kernel
theorem dX11_move_38 : decode cX11_move 38 = .ok (.iload_n 1, 1) := by decide +kernel
theorem dX11_move_39 : decode cX11_move 39 = .ok (.iload_n 2, 1) := by decide +kernel
theorem dX11_move_40 : decode cX11_move 40 = .ok (.if_icmp .ne 9, 3) := by decide +kernel
theorem dX11_move_43 : decode cX11_move 43 = .ok (.aload_n 0, 1) := by decide +kernel
theorem dX11_move_44 : decode cX11_move 44 = .ok (.iconst 4, 1) := by decide +kernel
theorem dX11_move_45 : decode cX11_move 45 = .ok (.invokevirtual 93, 3) := by decide +kernel
theorem dX11_move_48 : decode cX11_move 48 = .ok (.ireturn, 1) := by decide +kernel
theorem dX11_move_49 : decode cX11_move 49 = .ok (.aload_n 0, 1) := by decide +kernel
theorem dX11_move_50 : decode cX11_move 50 = .ok (.getfield 71, 3) := by decide +kernel
theorem dX11_move_53 : decode cX11_move 53 = .ok (.iload_n 1, 1) := by decide +kernel
theorem dX11_move_54 : decode cX11_move 54 = .ok (.iload_n 2, 1) := by decide +kernel
theorem dX11_move_55 : decode cX11_move 55 = .ok (.invokevirtual 220, 3) := by decide +kernel
theorem dX11_move_58 : decode cX11_move 58 = .ok (.aload_n 0, 1) := by decide +kernel
theorem dX11_move_59 : decode cX11_move 59 = .ok (.invokevirtual 105, 3) := by decide +kernel
theorem dX11_move_62 : decode cX11_move 62 = .ok (.aload_n 0, 1) := by decide +kernel
theorem dX11_move_63 : decode cX11_move 63 = .ok (.aload_n 0, 1) := by decide +kernel
theorem dX11_move_64 : decode cX11_move 64 = .ok (.getfield 71, 3) := by decide +kernel
theorem dX11_move_67 : decode cX11_move 67 = .ok (.iload_n 2, 1) := by decide +kernel
theorem dX11_move_68 : decode cX11_move 68 = .ok (.invokevirtual 224, 3) := by decide +kernel
theorem dX11_move_71 : decode cX11_move 71 = .ok (.invokevirtual 111, 3) := by decide +kernel
theorem dX11_move_74 : decode cX11_move 74 = .ok (.ireturn, 1) := by decide +kernel
theorem dX11_swap_0 : decode cX11_swap 0 = .ok (.aload_n 0, 1) := by decide +kernel
theorem dX11_swap_1 : decode cX11_swap 1 = .ok (.getfield 71, 3) := by decide +kernel
theorem dX11_swap_4 : decode cX11_swap 4 = .ok (.iload_n 1, 1) := by decide +kernel
theorem dX11_swap_5 : decode cX11_swap 5 = .ok (.invokevirtual 195, 3) := by decide +kernel
theorem dX11_swap_8 : decode cX11_swap 8 = .ok (.ifCond .eq 16, 3) := by decide +kernel
theorem dX11_swap_11 : decode cX11_swap 11 = .ok (.aload_n 0, 1) := by decide +kernel
theorem dX11_swap_12 : decode cX11_swap 12 = .ok (.getfield 71, 3) := by decide +kernel
theorem dX11_swap_15 : decode cX11_swap 15 = .ok (.iload_n 1, 1) := by decide +kernel
theorem dX11_swap_16 : decode cX11_swap 16 = .ok (.iconst 1, 1) := by decide +kernel
theorem dX11_swap_17 : decode cX11_swap 17 = .ok (.iadd, 1) := by decide +kernel
theorem dX11_swap_18 : decode cX11_swap 18 = .ok (.invokevirtual 195, 3) := by decide +kernel
theorem dX11_swap_21 : decode cX11_swap 21 = .ok (.ifCond .ne 9, 3) := by decide +kernel
theorem dX11_swap_24 : decode cX11_swap 24 = .ok (.aload_n 0, 1) := by decide +kernel
theorem dX11_swap_25 : decode cX11_swap 25 = .ok (.iconst 2, 1) := by decide +kernel
theorem dX11_swap_26 : decode cX11_swap 26 = .ok (.invokevirtual 93, 3) := by decide +kernel
theorem dX11_swap_29 : decode cX11_swap 29 = .ok (.ireturn, 1) := by decide +kernel
theorem dX11_swap_30 : decode cX11_swap 30 = .ok (.aload_n 0, 1) := by decide +kernel
theorem dX11_swap_31 : decode cX11_swap 31 = .ok (.getfield 71, 3) := by decide +kernel
theorem dX11_swap_34 : decode cX11_swap 34 = .ok (.getfield 227, 3) := by decide +kernel
theorem dX11_swap_37 : decode cX11_swap 37 = .ok (.iload_n 1, 1) := by decide +kernel
theorem dX11_swap_38 : decode cX11_swap 38 = .ok (.iaload, 1) := by decide +kernel
theorem dX11_swap_39 : decode cX11_swap 39 = .ok (.aload_n 0, 1) := by decide +kernel
theorem dX11_swap_40 : decode cX11_swap 40 = .ok (.getfield 71, 3) := by decide +kernel
theorem dX11_swap_43 : decode cX11_swap 43 = .ok (.getfield 227, 3) := by decide +kernel
theorem dX11_swap_46 : decode cX11_swap 46 = .ok (.iload_n 1, 1) := by decide +kernel
theorem dX11_swap_47 : decode cX11_swap 47 = .ok (.iconst 1, 1) := by decide +kernel
theorem dX11_swap_48 : decode cX11_swap 48 = .ok (.iadd, 1) := by decide +kernel
theorem dX11_swap_49 : decode cX11_swap 49 = .ok (.iaload, 1) := by decide +kernel
theorem dX11_swap_50 : decode cX11_swap 50 = .ok (.if_icmp .ne 7, 3) := by decide +kernel
theorem dX11_swap_53 : decode cX11_swap 53 = .ok (.iconst 1, 1) := by decide +kernel
theorem dX11_swap_54 : decode cX11_swap 54 = .ok (.goto 4, 3) := by decide +kernel
theorem dX11_swap_57 : decode cX11_swap 57 = .ok (.iconst 0, 1) := by decide +kernel
theorem dX11_swap_58 : decode cX11_swap 58 = .ok (.istore_n 2, 1) := by decide +kernel
theorem dX11_swap_59 : decode cX11_swap 59 = .ok (.iload_n 2, 1) := by decide +kernel
theorem dX11_swap_60 : decode cX11_swap 60 = .ok (.ifCond .eq 32, 3) := by decide +kernel
theorem dX11_swap_63 : decode cX11_swap 63 = .ok (.aload_n 0, 1) := by decide +kernel
theorem dX11_swap_64 : decode cX11_swap 64 = .ok (.getfield 71, 3) := by decide +kernel
theorem dX11_swap_67 : decode cX11_swap 67 = .ok (.getfield 231, 3) := by decide +kernel
theorem dX11_swap_70 : decode cX11_swap 70 = .ok (.iload_n 1, 1) := by decide +kernel
theorem dX11_swap_71 : decode cX11_swap 71 = .ok (.iaload, 1) := by decide +kernel
theorem dX11_swap_72 : decode cX11_swap 72 = .ok (.aload_n 0, 1) := by decide +kernel
theorem dX11_swap_73 : decode cX11_swap 73 = .ok (.getfield 71, 3) := by decide +kernel
theorem dX11_swap_76 : decode cX11_swap 76 = .ok (.getfield 231, 3) := by decide +kernel
theorem dX11_swap_79 : decode cX11_swap 79 = .ok (.iload_n 1, 1) := by decide +kernel
theorem dX11_swap_80 : decode cX11_swap 80 = .ok (.iconst 1, 1) := by decide +kernel
theorem dX11_swap_81 : decode cX11_swap 81 = .ok (.iadd, 1) := by decide +kernel
theorem dX11_swap_82 : decode cX11_swap 82 = .ok (.iaload, 1) := by decide +kernel
theorem dX11_swap_83 : decode cX11_swap 83 = .ok (.if_icmp .ne 9, 3) := by decide +kernel
theorem dX11_swap_86 : decode cX11_swap 86 = .ok (.aload_n 0, 1) := by decide +kernel
theorem dX11_swap_87 : decode cX11_swap 87 = .ok (.iconst 4, 1) := by decide +kernel
theorem dX11_swap_88 : decode cX11_swap 88 = .ok (.invokevirtual 93, 3) := by decide +kernel
theorem dX11_swap_91 : decode cX11_swap 91 = .ok (.ireturn, 1) := by decide +kernel
theorem dX11_swap_92 : decode cX11_swap 92 = .ok (.iload_n 2, 1) := by decide +kernel
theorem dX11_swap_93 : decode cX11_swap 93 = .ok (.ifCond .ne 9, 3) := by decide +kernel
theorem dX11_swap_96 : decode cX11_swap 96 = .ok (.aload_n 0, 1) := by decide +kernel
theorem dX11_swap_97 : decode cX11_swap 97 = .ok (.iconst 5, 1) := by decide +kernel
theorem dX11_swap_98 : decode cX11_swap 98 = .ok (.invokevirtual 93, 3) := by decide +kernel
theorem dX11_swap_101 : decode cX11_swap 101 = .ok (.ireturn, 1) := by decide +kernel
theorem dX11_swap_102 : decode cX11_swap 102 = .ok (.aload_n 0, 1) := by decide +kernel
theorem dX11_swap_103 : decode cX11_swap 103 = .ok (.getfield 71, 3) := by decide +kernel
theorem dX11_swap_106 : decode cX11_swap 106 = .ok (.iload_n 1, 1) := by decide +kernel
theorem dX11_swap_107 : decode cX11_swap 107 = .ok (.invokevirtual 234, 3) := by decide +kernel
theorem dX11_swap_110 : decode cX11_swap 110 = .ok (.aload_n 0, 1) := by decide +kernel
theorem dX11_swap_111 : decode cX11_swap 111 = .ok (.invokevirtual 105, 3) := by decide +kernel
theorem dX11_swap_114 : decode cX11_swap 114 = .ok (.aload_n 0, 1) := by decide +kernel
theorem dX11_swap_115 : decode cX11_swap 115 = .ok (.aload_n 0, 1) := by decide +kernel
theorem dX11_swap_116 : decode cX11_swap 116 = .ok (.invokevirtual 124, 3) := by decide +kernel
theorem dX11_swap_119 : decode cX11_swap 119 = .ok (.invokevirtual 175, 3) := by decide +kernel
theorem dX11_swap_122 : decode cX11_swap 122 = .ok (.invokevirtual 111, 3) := by decide +kernel
theorem dX11_swap_125 : decode cX11_swap 125 = .ok (.ireturn, 1) := by decide +kernel
theorem dX11_normal_0 : decode cX11_normal 0 = .ok (.aload_n 0, 1) := by decide +kernel
theorem dX11_normal_1 : decode cX11_normal 1 = .ok (.getfield 71, 3) := by decide +kernel
theorem dX11_normal_4 : decode cX11_normal 4 = .ok (.iload_n 1, 1) := by decide +kernel
theorem dX11_normal_5 : decode cX11_normal 5 = .ok (.invokevirtual 204, 3) := by decide +kernel
theorem dX11_normal_8 : decode cX11_normal 8 = .ok (.ifCond .ne 9, 3) := by decide +kernel
theorem dX11_normal_11 : decode cX11_normal 11 = .ok (.aload_n 0, 1) := by decide +kernel
theorem dX11_normal_12 : decode cX11_normal 12 = .ok (.iconst 2, 1) := by decide +kernel
theorem dX11_normal_13 : decode cX11_normal 13 = .ok (.invokevirtual 93, 3) := by decide +kernel
theorem dX11_normal_16 : decode cX11_normal 16 = .ok (.ireturn, 1) := by decide +kernel
theorem dX11_normal_17 : decode cX11_normal 17 = .ok (.aload_n 0, 1) := by decide +kernel
theorem dX11_normal_18 : decode cX11_normal 18 = .ok (.getfield 71, 3) := by decide +kernel
theorem dX11_normal_21 : decode cX11_normal 21 = .ok (.getfield 237, 3) := by decide +kernel
theorem dX11_normal_24 : decode cX11_normal 24 = .ok (.iload_n 1, 1) := by decide +kernel
theorem dX11_normal_25 : decode cX11_normal 25 = .ok (.aaload, 1) := by decide +kernel
theorem dX11_normal_26 : decode cX11_normal 26 = .ok (.getfield 241, 3) := by decide +kernel
theorem dX11_normal_29 : decode cX11_normal 29 = .ok (.iload_n 2, 1) := by decide +kernel
theorem dX11_normal_30 : decode cX11_normal 30 = .ok (.if_icmp .ne 9, 3) := by decide +kernel
theorem dX11_normal_33 : decode cX11_normal 33 = .ok (.aload_n 0, 1) := by decide +kernel
theorem dX11_normal_34 : decode cX11_normal 34 = .ok (.iconst 4, 1) := by decide +kernel
theorem dX11_normal_35 : decode cX11_normal 35 = .ok (.invokevirtual 93, 3) := by decide +kernel
theorem dX11_normal_38 : decode cX11_normal 38 = .ok (.ireturn, 1) := by decide +kernel
theorem dX11_normal_39 : decode cX11_normal 39 = .ok (.aload_n 0, 1) := by decide +kernel
theorem dX11_normal_40 : decode cX11_normal 40 = .ok (.getfield 71, 3) := by decide +kernel
theorem dX11_normal_43 : decode cX11_normal 43 = .ok (.iload_n 1, 1) := by decide +kernel
theorem dX11_normal_44 : decode cX11_normal 44 = .ok (.iload_n 2, 1) := by decide +kernel
theorem dX11_normal_45 : decode cX11_normal 45 = .ok (.invokevirtual 247, 3) := by decide +kernel
theorem dX11_normal_48 : decode cX11_normal 48 = .ok (.aload_n 0, 1) := by decide +kernel
theorem dX11_normal_49 : decode cX11_normal 49 = .ok (.invokevirtual 105, 3) := by decide +kernel
theorem dX11_normal_52 : decode cX11_normal 52 = .ok (.aload_n 0, 1) := by decide +kernel
theorem dX11_normal_53 : decode cX11_normal 53 = .ok (.aload_n 0, 1) := by decide +kernel
theorem dX11_normal_54 : decode cX11_normal 54 = .ok (.invokevirtual 169, 3) := by decide +kernel
theorem dX11_normal_57 : decode cX11_normal 57 = .ok (.invokevirtual 111, 3) := by decide +kernel
theorem dX11_normal_60 : decode cX11_normal 60 = .ok (.ireturn, 1) := by decide +kernel
theorem dX11_copy_0 : decode cX11_copy 0 = .ok (.aload_n 0, 1) := by decide +kernel
theorem dX11_copy_1 : decode cX11_copy 1 = .ok (.getfield 71, 3) := by decide +kernel
theorem dX11_copy_4 : decode cX11_copy 4 = .ok (.iload_n 1, 1) := by decide +kernel
theorem dX11_copy_5 : decode cX11_copy 5 = .ok (.invokevirtual 204, 3) := by decide +kernel
theorem dX11_copy_8 : decode cX11_copy 8 = .ok (.ifCond .ne 9, 3) := by decide +kernel
theorem dX11_copy_11 : decode cX11_copy 11 = .ok (.aload_n 0, 1) := by decide +kernel
theorem dX11_copy_12 : decode cX11_copy 12 = .ok (.iconst 2, 1) := by decide +kernel
theorem dX11_copy_13 : decode cX11_copy 13 = .ok (.invokevirtual 93, 3) := by decide +kernel
theorem dX11_copy_16 : decode cX11_copy 16 = .ok (.ireturn, 1) := by decide +kernel
theorem dX11_copy_17 : decode cX11_copy 17 = .ok (.aload_n 0, 1) := by decide +kernel
theorem dX11_copy_18 : decode cX11_copy 18 = .ok (.getfield 71, 3) := by decide +kernel
theorem dX11_copy_21 : decode cX11_copy 21 = .ok (.iload_n 1, 1) := by decide +kernel
theorem dX11_copy_22 : decode cX11_copy 22 = .ok (.invokevirtual 250, 3) := by decide +kernel
theorem dX11_copy_25 : decode cX11_copy 25 = .ok (.ifCond .ne 9, 3) := by decide +kernel
theorem dX11_copy_28 : decode cX11_copy 28 = .ok (.aload_n 0, 1) := by decide +kernel
theorem dX11_copy_29 : decode cX11_copy 29 = .ok (.iconst 3, 1) := by decide +kernel
theorem dX11_copy_30 : decode cX11_copy 30 = .ok (.invokevirtual 93, 3) := by decide +kernel
theorem dX11_copy_33 : decode cX11_copy 33 = .ok (.ireturn, 1) := by decide +kernel
theorem dX11_copy_34 : decode cX11_copy 34 = .ok (.aload_n 0, 1) := by decide +kernel
theorem dX11_copy_35 : decode cX11_copy 35 = .ok (.getfield 71, 3) := by decide +kernel
theorem dX11_copy_38 : decode cX11_copy 38 = .ok (.iload_n 1, 1) := by decide +kernel
theorem dX11_copy_39 : decode cX11_copy 39 = .ok (.invokevirtual 253, 3) := by decide +kernel
theorem dX11_copy_42 : decode cX11_copy 42 = .ok (.aload_n 0, 1) := by decide +kernel
theorem dX11_copy_43 : decode cX11_copy 43 = .ok (.invokevirtual 105, 3) := by decide +kernel
theorem dX11_copy_46 : decode cX11_copy 46 = .ok (.aload_n 0, 1) := by decide +kernel
theorem dX11_copy_47 : decode cX11_copy 47 = .ok (.aload_n 0, 1) := by decide +kernel
theorem dX11_copy_48 : decode cX11_copy 48 = .ok (.getfield 71, 3) := by decide +kernel
theorem dX11_copy_51 : decode cX11_copy 51 = .ok (.getfield 163, 3) := by decide +kernel
theorem dX11_copy_54 : decode cX11_copy 54 = .ok (.iconst 1, 1) := by decide +kernel
theorem dX11_copy_55 : decode cX11_copy 55 = .ok (.isub, 1) := by decide +kernel
theorem dX11_copy_56 : decode cX11_copy 56 = .ok (.invokevirtual 111, 3) := by decide +kernel
theorem dX11_copy_59 : decode cX11_copy 59 = .ok (.ireturn, 1) := by decide +kernel
theorem dX11_worth_0 : decode cX11_worth 0 = .ok (.iload_n 2, 1) := by decide +kernel
theorem dX11_worth_1 : decode cX11_worth 1 = .ok (.bipush (-9), 2) := by decide +kernel
theorem dX11_worth_3 : decode cX11_worth 3 = .ok (.if_icmp .lt 9, 3) := by decide +kernel
theorem dX11_worth_6 : decode cX11_worth 6 = .ok (.iload_n 2, 1) := by decide +kernel
theorem dX11_worth_7 : decode cX11_worth 7 = .ok (.bipush 9, 2) := by decide +kernel
theorem dX11_worth_9 : decode cX11_worth 9 = .ok (.if_icmp .le 9, 3) := by decide +kernel
theorem dX11_worth_12 : decode cX11_worth 12 = .ok (.aload_n 0, 1) := by decide +kernel
theorem dX11_worth_13 : decode cX11_worth 13 = .ok (.iconst 1, 1) := by decide +kernel
theorem dX11_worth_14 : decode cX11_worth 14 = .ok (.invokevirtual 93, 3) := by decide +kernel
theorem dX11_worth_17 : decode cX11_worth 17 = .ok (.ireturn, 1) := by decide +kernel
theorem dX11_worth_18 : decode cX11_worth 18 = .ok (.aload_n 0, 1) := by decide +kernel
theorem dX11_worth_19 : decode cX11_worth 19 = .ok (.getfield 71, 3) := by decide +kernel
theorem dX11_worth_22 : decode cX11_worth 22 = .ok (.iload_n 1, 1) := by decide +kernel
theorem dX11_worth_23 : decode cX11_worth 23 = .ok (.invokevirtual 256, 3) := by decide +kernel
theorem dX11_worth_26 : decode cX11_worth 26 = .ok (.ifCond .ne 9, 3) := by decide +kernel
theorem dX11_worth_29 : decode cX11_worth 29 = .ok (.aload_n 0, 1) := by decide +kernel
theorem dX11_worth_30 : decode cX11_worth 30 = .ok (.iconst 2, 1) := by decide +kernel
theorem dX11_worth_31 : decode cX11_worth 31 = .ok (.invokevirtual 93, 3) := by decide +kernel
theorem dX11_worth_34 : decode cX11_worth 34 = .ok (.ireturn, 1) := by decide +kernel
theorem dX11_worth_35 : decode cX11_worth 35 = .ok (.aload_n 0, 1) := by decide +kernel
theorem dX11_worth_36 : decode cX11_worth 36 = .ok (.getfield 71, 3) := by decide +kernel
theorem dX11_worth_39 : decode cX11_worth 39 = .ok (.getfield 259, 3) := by decide +kernel
theorem dX11_worth_42 : decode cX11_worth 42 = .ok (.iload_n 1, 1) := by decide +kernel
theorem dX11_worth_43 : decode cX11_worth 43 = .ok (.iaload, 1) := by decide +kernel
theorem dX11_worth_44 : decode cX11_worth 44 = .ok (.istore_n 3, 1) := by decide +kernel
theorem dX11_worth_45 : decode cX11_worth 45 = .ok (.iload_n 3, 1) := by decide +kernel
theorem dX11_worth_46 : decode cX11_worth 46 = .ok (.iload_n 2, 1) := by decide +kernel
theorem dX11_worth_47 : decode cX11_worth 47 = .ok (.if_icmp .ne 9, 3) := by decide +kernel
theorem dX11_worth_50 : decode cX11_worth 50 = .ok (.aload_n 0, 1) := by decide +kernel
theorem dX11_worth_51 : decode cX11_worth 51 = .ok (.iconst 4, 1) := by decide +kernel
theorem dX11_worth_52 : decode cX11_worth 52 = .ok (.invokevirtual 93, 3) := by decide +kernel
theorem dX11_worth_55 : decode cX11_worth 55 = .ok (.ireturn, 1) := by decide +kernel
theorem dX11_worth_56 : decode cX11_worth 56 = .ok (.aload_n 0, 1) := by decide +kernel
theorem dX11_worth_57 : decode cX11_worth 57 = .ok (.getfield 71, 3) := by decide +kernel
theorem dX11_worth_60 : decode cX11_worth 60 = .ok (.getfield 259, 3) := by decide +kernel
theorem dX11_worth_63 : decode cX11_worth 63 = .ok (.iload_n 1, 1) := by decide +kernel
theorem dX11_worth_64 : decode cX11_worth 64 = .ok (.iload_n 2, 1) := by decide +kernel
theorem dX11_worth_65 : decode cX11_worth 65 = .ok (.iastore, 1) := by decide +kernel
theorem dX11_worth_66 : decode cX11_worth 66 = .ok (.aload_n 0, 1) := by decide +kernel
theorem dX11_worth_67 : decode cX11_worth 67 = .ok (.iload_n 3, 1) := by decide +kernel
theorem dX11_worth_68 : decode cX11_worth 68 = .ok (.invokevirtual 111, 3) := by decide +kernel
theorem dX11_worth_71 : decode cX11_worth 71 = .ok (.ireturn, 1) := by decide +kernel
theorem dX11_mate_0 : decode cX11_mate 0 = .ok (.aload_n 0, 1) := by decide +kernel
theorem dX11_mate_1 : decode cX11_mate 1 = .ok (.iload_n 1, 1) := by decide +kernel
theorem dX11_mate_2 : decode cX11_mate 2 = .ok (.invokevirtual 262, 3) := by decide +kernel
theorem dX11_mate_5 : decode cX11_mate 5 = .ok (.ifCond .eq 14, 3) := by decide +kernel
theorem dX11_mate_8 : decode cX11_mate 8 = .ok (.aload_n 0, 1) := by decide +kernel
theorem dX11_mate_9 : decode cX11_mate 9 = .ok (.getfield 71, 3) := by decide +kernel
theorem dX11_mate_12 : decode cX11_mate 12 = .ok (.iload_n 2, 1) := by decide +kernel
theorem dX11_mate_13 : decode cX11_mate 13 = .ok (.invokevirtual 195, 3) := by decide +kernel
theorem dX11_mate_16 : decode cX11_mate 16 = .ok (.ifCond .ne 9, 3) := by decide +kernel
theorem dX11_mate_19 : decode cX11_mate 19 = .ok (.aload_n 0, 1) := by decide +kernel
theorem dX11_mate_20 : decode cX11_mate 20 = .ok (.iconst 2, 1) := by decide +kernel
theorem dX11_mate_21 : decode cX11_mate 21 = .ok (.invokevirtual 93, 3) := by decide +kernel
theorem dX11_mate_24 : decode cX11_mate 24 = .ok (.ireturn, 1) := by decide +kernel
theorem dX11_mate_25 : decode cX11_mate 25 = .ok (.aload_n 0, 1) := by decide +kernel
theorem dX11_mate_26 : decode cX11_mate 26 = .ok (.aload_n 0, 1) := by decide +kernel
theorem dX11_mate_27 : decode cX11_mate 27 = .ok (.invokevirtual 124, 3) := by decide +kernel
theorem dX11_mate_30 : decode cX11_mate 30 = .ok (.iload_n 1, 1) := by decide +kernel
theorem dX11_mate_31 : decode cX11_mate 31 = .ok (.iload_n 2, 1) := by decide +kernel
theorem dX11_mate_32 : decode cX11_mate 32 = .ok (.invokevirtual 265, 3) := by decide +kernel
theorem dX11_mate_35 : decode cX11_mate 35 = .ok (.invokevirtual 111, 3) := by decide +kernel
theorem dX11_mate_38 : decode cX11_mate 38 = .ok (.ireturn, 1) := by decide +kernel
theorem dX11_pairing_0 : decode cX11_pairing 0 = .ok (.iload_n 2, 1) := by decide +kernel
theorem dX11_pairing_1 : decode cX11_pairing 1 = .ok (.ifCond .lt 8, 3) := by decide +kernel
theorem dX11_pairing_4 : decode cX11_pairing 4 = .ok (.iload_n 2, 1) := by decide +kernel
theorem dX11_pairing_5 : decode cX11_pairing 5 = .ok (.iconst 4, 1) := by decide +kernel
theorem dX11_pairing_6 : decode cX11_pairing 6 = .ok (.if_icmp .le 9, 3) := by decide +kernel
theorem dX11_pairing_9 : decode cX11_pairing 9 = .ok (.aload_n 0, 1) := by decide +kernel
theorem dX11_pairing_10 : decode cX11_pairing 10 = .ok (.iconst 1, 1) := by decide +kernel
theorem dX11_pairing_11 : decode cX11_pairing 11 = .ok (.invokevirtual 93, 3) := by decide +kernel
theorem dX11_pairing_14 : decode cX11_pairing 14 = .ok (.ireturn, 1) := by decide +kernel
theorem dX11_pairing_15 : decode cX11_pairing 15 = .ok (.aload_n 0, 1) := by decide +kernel
theorem dX11_pairing_16 : decode cX11_pairing 16 = .ok (.iload_n 1, 1) := by decide +kernel
theorem dX11_pairing_17 : decode cX11_pairing 17 = .ok (.invokevirtual 262, 3) := by decide +kernel
theorem dX11_pairing_20 : decode cX11_pairing 20 = .ok (.ifCond .ne 9, 3) := by decide +kernel
theorem dX11_pairing_23 : decode cX11_pairing 23 = .ok (.aload_n 0, 1) := by decide +kernel
theorem dX11_pairing_24 : decode cX11_pairing 24 = .ok (.iconst 2, 1) := by decide +kernel
theorem dX11_pairing_25 : decode cX11_pairing 25 = .ok (.invokevirtual 93, 3) := by decide +kernel
theorem dX11_pairing_28 : decode cX11_pairing 28 = .ok (.ireturn, 1) := by decide +kernel
theorem dX11_pairing_29 : decode cX11_pairing 29 = .ok (.iload_n 2, 1) := by decide +kernel
theorem dX11_pairing_30 : decode cX11_pairing 30 = .ok (.tableswitch 82 0 3 #[30, 43, 56, 69], 30) := by decide +kernel
theorem dX11_pairing_60 : decode cX11_pairing 60 = .ok (.aload_n 0, 1) := by decide +kernel
theorem dX11_pairing_61 : decode cX11_pairing 61 = .ok (.aload_n 0, 1) := by decide +kernel
theorem dX11_pairing_62 : decode cX11_pairing 62 = .ok (.invokevirtual 124, 3) := by decide +kernel
theorem dX11_pairing_65 : decode cX11_pairing 65 = .ok (.iload_n 1, 1) := by decide +kernel
theorem dX11_pairing_66 : decode cX11_pairing 66 = .ok (.invokevirtual 268, 3) := by decide +kernel
theorem dX11_pairing_69 : decode cX11_pairing 69 = .ok (.invokevirtual 111, 3) := by decide +kernel
theorem dX11_pairing_72 : decode cX11_pairing 72 = .ok (.ireturn, 1) := by decide +kernel
theorem dX11_pairing_73 : decode cX11_pairing 73 = .ok (.aload_n 0, 1) := by decide +kernel
theorem dX11_pairing_74 : decode cX11_pairing 74 = .ok (.aload_n 0, 1) := by decide +kernel
theorem dX11_pairing_75 : decode cX11_pairing 75 = .ok (.invokevirtual 124, 3) := by decide +kernel
theorem dX11_pairing_78 : decode cX11_pairing 78 = .ok (.iload_n 1, 1) := by decide +kernel
theorem dX11_pairing_79 : decode cX11_pairing 79 = .ok (.invokevirtual 271, 3) := by decide +kernel
theorem dX11_pairing_82 : decode cX11_pairing 82 = .ok (.invokevirtual 111, 3) := by decide +kernel
theorem dX11_pairing_85 : decode cX11_pairing 85 = .ok (.ireturn, 1) := by decide +kernel
theorem dX11_pairing_86 : decode cX11_pairing 86 = .ok (.aload_n 0, 1) := by decide +kernel
theorem dX11_pairing_87 : decode cX11_pairing 87 = .ok (.aload_n 0, 1) := by decide +kernel
theorem dX11_pairing_88 : decode cX11_pairing 88 = .ok (.invokevirtual 274, 3) := by decide +kernel
theorem dX11_pairing_91 : decode cX11_pairing 91 = .ok (.iload_n 1, 1) := by decide +kernel
theorem dX11_pairing_92 : decode cX11_pairing 92 = .ok (.invokevirtual 277, 3) := by decide +kernel
theorem dX11_pairing_95 : decode cX11_pairing 95 = .ok (.invokevirtual 111, 3) := by decide +kernel
theorem dX11_pairing_98 : decode cX11_pairing 98 = .ok (.ireturn, 1) := by decide +kernel
theorem dX11_pairing_99 : decode cX11_pairing 99 = .ok (.aload_n 0, 1) := by decide +kernel
theorem dX11_pairing_100 : decode cX11_pairing 100 = .ok (.aload_n 0, 1) := by decide +kernel
theorem dX11_pairing_101 : decode cX11_pairing 101 = .ok (.invokevirtual 142, 3) := by decide +kernel
theorem dX11_pairing_104 : decode cX11_pairing 104 = .ok (.iload_n 1, 1) := by decide +kernel
theorem dX11_pairing_105 : decode cX11_pairing 105 = .ok (.invokevirtual 280, 3) := by decide +kernel
theorem dX11_pairing_108 : decode cX11_pairing 108 = .ok (.invokevirtual 111, 3) := by decide +kernel
theorem dX11_pairing_111 : decode cX11_pairing 111 = .ok (.ireturn, 1) := by decide +kernel
theorem dX11_pairing_112 : decode cX11_pairing 112 = .ok (.aload_n 0, 1) := by decide +kernel
theorem dX11_pairing_113 : decode cX11_pairing 113 = .ok (.aload_n 0, 1) := by decide +kernel
theorem dX11_pairing_114 : decode cX11_pairing 114 = .ok (.invokevirtual 274, 3) := by decide +kernel
theorem dX11_pairing_117 : decode cX11_pairing 117 = .ok (.iload_n 1, 1) := by decide +kernel
theorem dX11_pairing_118 : decode cX11_pairing 118 = .ok (.invokevirtual 283, 3) := by decide +kernel
theorem dX11_pairing_121 : decode cX11_pairing 121 = .ok (.invokevirtual 111, 3) := by decide +kernel
theorem dX11_pairing_124 : decode cX11_pairing 124 = .ok (.ireturn, 1) := by decide +kernel
theorem dX11_ways_0 : decode cX11_ways 0 = .ok (.iload_n 3, 1) := by decide +kernel
theorem dX11_ways_1 : decode cX11_ways 1 = .ok (.ifCond .lt 8, 3) := by decide +kernel
theorem dX11_ways_4 : decode cX11_ways 4 = .ok (.iload_n 3, 1) := by decide +kernel
theorem dX11_ways_5 : decode cX11_ways 5 = .ok (.iconst 1, 1) := by decide +kernel
theorem dX11_ways_6 : decode cX11_ways 6 = .ok (.if_icmp .le 9, 3) := by decide +kernel
theorem dX11_ways_9 : decode cX11_ways 9 = .ok (.aload_n 0, 1) := by decide +kernel
theorem dX11_ways_10 : decode cX11_ways 10 = .ok (.iconst 1, 1) := by decide +kernel
theorem dX11_ways_11 : decode cX11_ways 11 = .ok (.invokevirtual 93, 3) := by decide +kernel
theorem dX11_ways_14 : decode cX11_ways 14 = .ok (.ireturn, 1) := by decide +kernel
theorem dX11_ways_15 : decode cX11_ways 15 = .ok (.aload_n 0, 1) := by decide +kernel
theorem dX11_ways_16 : decode cX11_ways 16 = .ok (.getfield 71, 3) := by decide +kernel
theorem dX11_ways_19 : decode cX11_ways 19 = .ok (.iload_n 1, 1) := by decide +kernel
theorem dX11_ways_20 : decode cX11_ways 20 = .ok (.invokevirtual 195, 3) := by decide +kernel
theorem dX11_ways_23 : decode cX11_ways 23 = .ok (.ifCond .eq 14, 3) := by decide +kernel
theorem dX11_ways_26 : decode cX11_ways 26 = .ok (.aload_n 0, 1) := by decide +kernel
theorem dX11_ways_27 : decode cX11_ways 27 = .ok (.getfield 71, 3) := by decide +kernel
theorem dX11_ways_30 : decode cX11_ways 30 = .ok (.iload_n 2, 1) := by decide +kernel
theorem dX11_ways_31 : decode cX11_ways 31 = .ok (.invokevirtual 195, 3) := by decide +kernel
theorem dX11_ways_34 : decode cX11_ways 34 = .ok (.ifCond .ne 9, 3) := by decide +kernel
theorem dX11_ways_37 : decode cX11_ways 37 = .ok (.aload_n 0, 1) := by decide +kernel
theorem dX11_ways_38 : decode cX11_ways 38 = .ok (.iconst 2, 1) := by decide +kernel
theorem dX11_ways_39 : decode cX11_ways 39 = .ok (.invokevirtual 93, 3) := by decide +kernel
theorem dX11_ways_42 : decode cX11_ways 42 = .ok (.ireturn, 1) := by decide +kernel
theorem dX11_ways_43 : decode cX11_ways 43 = .ok (.iload_n 1, 1) := by decide +kernel
theorem dX11_ways_44 : decode cX11_ways 44 = .ok (.iload_n 2, 1) := by decide +kernel
theorem dX11_ways_45 : decode cX11_ways 45 = .ok (.if_icmp .ne 9, 3) := by decide +kernel
theorem dX11_ways_48 : decode cX11_ways 48 = .ok (.aload_n 0, 1) := by decide +kernel
theorem dX11_ways_49 : decode cX11_ways 49 = .ok (.iconst 4, 1) := by decide +kernel
theorem dX11_ways_50 : decode cX11_ways 50 = .ok (.invokevirtual 93, 3) := by decide +kernel
theorem dX11_ways_53 : decode cX11_ways 53 = .ok (.ireturn, 1) := by decide +kernel
theorem dX11_ways_54 : decode cX11_ways 54 = .ok (.aload_n 0, 1) := by decide +kernel
theorem dX11_ways_55 : decode cX11_ways 55 = .ok (.aload_n 0, 1) := by decide +kernel
theorem dX11_ways_56 : decode cX11_ways 56 = .ok (.invokevirtual 124, 3) := by decide +kernel
theorem dX11_ways_59 : decode cX11_ways 59 = .ok (.iload_n 1, 1) := by decide +kernel
theorem dX11_ways_60 : decode cX11_ways 60 = .ok (.iload_n 2, 1) := by decide +kernel
theorem dX11_ways_61 : decode cX11_ways 61 = .ok (.iload_n 3, 1) := by decide +kernel
theorem dX11_ways_62 : decode cX11_ways 62 = .ok (.iconst 1, 1) := by decide +kernel
theorem dX11_ways_63 : decode cX11_ways 63 = .ok (.if_icmp .ne 7, 3) := by decide +kernel
theorem dX11_ways_66 : decode cX11_ways 66 = .ok (.iconst 1, 1) := by decide +kernel
theorem dX11_ways_67 : decode cX11_ways 67 = .ok (.goto 4, 3) := by decide +kernel
theorem dX11_ways_70 : decode cX11_ways 70 = .ok (.iconst 0, 1) := by decide +kernel
theorem dX11_ways_71 : decode cX11_ways 71 = .ok (.invokevirtual 286, 3) := by decide +kernel
theorem dX11_ways_74 : decode cX11_ways 74 = .ok (.invokevirtual 111, 3) := by decide +kernel
theorem dX11_ways_77 : decode cX11_ways 77 = .ok (.ireturn, 1) := by decide +kernel
theorem dX11_overlay_0 : decode cX11_overlay 0 = .ok (.iload_n 3, 1) := by decide +kernel
theorem dX11_overlay_1 : decode cX11_overlay 1 = .ok (.ifCond .lt 8, 3) := by decide +kernel
theorem dX11_overlay_4 : decode cX11_overlay 4 = .ok (.iload_n 3, 1) := by decide +kernel
theorem dX11_overlay_5 : decode cX11_overlay 5 = .ok (.iconst 1, 1) := by decide +kernel
theorem dX11_overlay_6 : decode cX11_overlay 6 = .ok (.if_icmp .le 9, 3) := by decide +kernel
theorem dX11_overlay_9 : decode cX11_overlay 9 = .ok (.aload_n 0, 1) := by decide +kernel
theorem dX11_overlay_10 : decode cX11_overlay 10 = .ok (.iconst 1, 1) := by decide +kernel
theorem dX11_overlay_11 : decode cX11_overlay 11 = .ok (.invokevirtual 93, 3) := by decide +kernel
theorem dX11_overlay_14 : decode cX11_overlay 14 = .ok (.ireturn, 1) := by decide +kernel
theorem dX11_overlay_15 : decode cX11_overlay 15 = .ok (.aload_n 0, 1) := by decide +kernel
theorem dX11_overlay_16 : decode cX11_overlay 16 = .ok (.iload_n 1, 1) := by decide +kernel
theorem dX11_overlay_17 : decode cX11_overlay 17 = .ok (.invokevirtual 262, 3) := by decide +kernel
theorem dX11_overlay_20 : decode cX11_overlay 20 = .ok (.ifCond .eq 11, 3) := by decide +kernel
theorem dX11_overlay_23 : decode cX11_overlay 23 = .ok (.aload_n 0, 1) := by decide +kernel
theorem dX11_overlay_24 : decode cX11_overlay 24 = .ok (.iload_n 2, 1) := by decide +kernel
theorem dX11_overlay_25 : decode cX11_overlay 25 = .ok (.invokevirtual 262, 3) := by decide +kernel
theorem dX11_overlay_28 : decode cX11_overlay 28 = .ok (.ifCond .ne 9, 3) := by decide +kernel
theorem dX11_overlay_31 : decode cX11_overlay 31 = .ok (.aload_n 0, 1) := by decide +kernel
theorem dX11_overlay_32 : decode cX11_overlay 32 = .ok (.iconst 2, 1) := by decide +kernel
theorem dX11_overlay_33 : decode cX11_overlay 33 = .ok (.invokevirtual 93, 3) := by decide +kernel
theorem dX11_overlay_36 : decode cX11_overlay 36 = .ok (.ireturn, 1) := by decide +kernel
theorem dX11_overlay_37 : decode cX11_overlay 37 = .ok (.aload_n 0, 1) := by decide +kernel
theorem dX11_overlay_38 : decode cX11_overlay 38 = .ok (.invokevirtual 124, 3) := by decide +kernel
theorem dX11_overlay_41 : decode cX11_overlay 41 = .ok (.astore 4, 2) := by decide +kernel
theorem dX11_overlay_43 : decode cX11_overlay 43 = .ok (.aload_n 0, 1) := by decide +kernel
theorem dX11_overlay_44 : decode cX11_overlay 44 = .ok (.iload_n 3, 1) := by decide +kernel
theorem dX11_overlay_45 : decode cX11_overlay 45 = .ok (.ifCond .ne 13, 3) := by decide +kernel
theorem dX11_overlay_48 : decode cX11_overlay 48 = .ok (.aload 4, 2) := by decide +kernel
theorem dX11_overlay_50 : decode cX11_overlay 50 = .ok (.iload_n 1, 1) := by decide +kernel
theorem dX11_overlay_51 : decode cX11_overlay 51 = .ok (.iload_n 2, 1) := by decide +kernel
theorem dX11_overlay_52 : decode cX11_overlay 52 = .ok (.invokevirtual 290, 3) := by decide +kernel
theorem dX11_overlay_55 : decode cX11_overlay 55 = .ok (.goto 10, 3) := by decide +kernel
theorem dX11_overlay_58 : decode cX11_overlay 58 = .ok (.aload 4, 2) := by decide +kernel
theorem dX11_overlay_60 : decode cX11_overlay 60 = .ok (.iload_n 1, 1) := by decide +kernel
theorem dX11_overlay_61 : decode cX11_overlay 61 = .ok (.iload_n 2, 1) := by decide +kernel
theorem dX11_overlay_62 : decode cX11_overlay 62 = .ok (.invokevirtual 293, 3) := by decide +kernel
theorem dX11_overlay_65 : decode cX11_overlay 65 = .ok (.invokevirtual 111, 3) := by decide +kernel
theorem dX11_overlay_68 : decode cX11_overlay 68 = .ok (.ireturn, 1) := by decide +kernel
theorem dX11_by_0 : decode cX11_by 0 = .ok (.iload_n 1, 1) := by decide +kernel
theorem dX11_by_1 : decode cX11_by 1 = .ok (.ifCond .lt 12, 3) := by decide +kernel
theorem dX11_by_4 : decode cX11_by 4 = .ok (.iload_n 1, 1) := by decide +kernel
theorem dX11_by_5 : decode cX11_by 5 = .ok (.iconst 1, 1) := by decide +kernel
theorem dX11_by_6 : decode cX11_by 6 = .ok (.if_icmp .gt 7, 3) := by decide +kernel
theorem dX11_by_9 : decode cX11_by 9 = .ok (.iload_n 2, 1) := by decide +kernel
theorem dX11_by_10 : decode cX11_by 10 = .ok (.ifCond .ge 9, 3) := by decide +kernel
theorem dX11_by_13 : decode cX11_by 13 = .ok (.aload_n 0, 1) := by decide +kernel
theorem dX11_by_14 : decode cX11_by 14 = .ok (.iconst 1, 1) := by decide +kernel
theorem dX11_by_15 : decode cX11_by 15 = .ok (.invokevirtual 93, 3) := by decide +kernel
theorem dX11_by_18 : decode cX11_by 18 = .ok (.ireturn, 1) := by decide +kernel
theorem dX11_by_19 : decode cX11_by 19 = .ok (.aload_n 0, 1) := by decide +kernel
theorem dX11_by_20 : decode cX11_by 20 = .ok (.aload_n 0, 1) := by decide +kernel
theorem dX11_by_21 : decode cX11_by 21 = .ok (.invokevirtual 274, 3) := by decide +kernel
theorem dX11_by_24 : decode cX11_by 24 = .ok (.iload_n 1, 1) := by decide +kernel
theorem dX11_by_25 : decode cX11_by 25 = .ok (.iconst 1, 1) := by decide +kernel
theorem dX11_by_26 : decode cX11_by 26 = .ok (.if_icmp .ne 7, 3) := by decide +kernel
theorem dX11_by_29 : decode cX11_by 29 = .ok (.iconst 1, 1) := by decide +kernel
theorem dX11_by_30 : decode cX11_by 30 = .ok (.goto 4, 3) := by decide +kernel
theorem dX11_by_33 : decode cX11_by 33 = .ok (.iconst 0, 1) := by decide +kernel
theorem dX11_by_34 : decode cX11_by 34 = .ok (.iload_n 2, 1) := by decide +kernel
theorem dX11_by_35 : decode cX11_by 35 = .ok (.iconst 0, 1) := by decide +kernel
theorem dX11_by_36 : decode cX11_by 36 = .ok (.invokevirtual 184, 3) := by decide +kernel
theorem dX11_by_39 : decode cX11_by 39 = .ok (.invokevirtual 111, 3) := by decide +kernel
theorem dX11_by_42 : decode cX11_by 42 = .ok (.ireturn, 1) := by decide +kernel
theorem dX11_signedBy_0 : decode cX11_signedBy 0 = .ok (.iload_n 1, 1) := by decide +kernel
theorem dX11_signedBy_1 : decode cX11_signedBy 1 = .ok (.ifCond .lt 12, 3) := by decide +kernel
theorem dX11_signedBy_4 : decode cX11_signedBy 4 = .ok (.iload_n 1, 1) := by decide +kernel
theorem dX11_signedBy_5 : decode cX11_signedBy 5 = .ok (.iconst 1, 1) := by decide +kernel
theorem dX11_signedBy_6 : decode cX11_signedBy 6 = .ok (.if_icmp .gt 7, 3) := by decide +kernel
theorem dX11_signedBy_9 : decode cX11_signedBy 9 = .ok (.iload_n 2, 1) := by decide +kernel
theorem dX11_signedBy_10 : decode cX11_signedBy 10 = .ok (.ifCond .ge 9, 3) := by decide +kernel
theorem dX11_signedBy_13 : decode cX11_signedBy 13 = .ok (.aload_n 0, 1) := by decide +kernel
theorem dX11_signedBy_14 : decode cX11_signedBy 14 = .ok (.iconst 1, 1) := by decide +kernel
theorem dX11_signedBy_15 : decode cX11_signedBy 15 = .ok (.invokevirtual 93, 3) := by decide +kernel
theorem dX11_signedBy_18 : decode cX11_signedBy 18 = .ok (.ireturn, 1) := by decide +kernel
theorem dX11_signedBy_19 : decode cX11_signedBy 19 = .ok (.aload_n 0, 1) := by decide +kernel
theorem dX11_signedBy_20 : decode cX11_signedBy 20 = .ok (.aload_n 0, 1) := by decide +kernel
theorem dX11_signedBy_21 : decode cX11_signedBy 21 = .ok (.invokevirtual 274, 3) := by decide +kernel
theorem dX11_signedBy_24 : decode cX11_signedBy 24 = .ok (.iload_n 1, 1) := by decide +kernel
theorem dX11_signedBy_25 : decode cX11_signedBy 25 = .ok (.iconst 1, 1) := by decide +kernel
theorem dX11_signedBy_26 : decode cX11_signedBy 26 = .ok (.if_icmp .ne 7, 3) := by decide +kernel
theorem dX11_signedBy_29 : decode cX11_signedBy 29 = .ok (.iconst 1, 1) := by decide +kernel
theorem dX11_signedBy_30 : decode cX11_signedBy 30 = .ok (.goto 4, 3) := by decide +kernel
theorem dX11_signedBy_33 : decode cX11_signedBy 33 = .ok (.iconst 0, 1) := by decide +kernel
theorem dX11_signedBy_34 : decode cX11_signedBy 34 = .ok (.iload_n 2, 1) := by decide +kernel
theorem dX11_signedBy_35 : decode cX11_signedBy 35 = .ok (.iconst 1, 1) := by decide +kernel
theorem dX11_signedBy_36 : decode cX11_signedBy 36 = .ok (.invokevirtual 184, 3) := by decide +kernel
theorem dX11_signedBy_39 : decode cX11_signedBy 39 = .ok (.invokevirtual 111, 3) := by decide +kernel
theorem dX11_signedBy_42 : decode cX11_signedBy 42 = .ok (.ireturn, 1) := by decide +kernel
theorem dX11_partial_0 : decode cX11_partial 0 = .ok (.iload_n 1, 1) := by decide +kernel
theorem dX11_partial_1 : decode cX11_partial 1 = .ok (.ifCond .ge 9, 3) := by decide +kernel
theorem dX11_partial_4 : decode cX11_partial 4 = .ok (.aload_n 0, 1) := by decide +kernel
theorem dX11_partial_5 : decode cX11_partial 5 = .ok (.iconst 1, 1) := by decide +kernel
theorem dX11_partial_6 : decode cX11_partial 6 = .ok (.invokevirtual 93, 3) := by decide +kernel
theorem dX11_partial_9 : decode cX11_partial 9 = .ok (.ireturn, 1) := by decide +kernel
theorem dX11_partial_10 : decode cX11_partial 10 = .ok (.aload_n 0, 1) := by decide +kernel
theorem dX11_partial_11 : decode cX11_partial 11 = .ok (.iload_n 1, 1) := by decide +kernel
theorem dX11_partial_12 : decode cX11_partial 12 = .ok (.bipush 6, 2) := by decide +kernel
theorem dX11_partial_14 : decode cX11_partial 14 = .ok (.if_icmp .le 7, 3) := by decide +kernel
theorem dX11_partial_17 : decode cX11_partial 17 = .ok (.iconst 0, 1) := by decide +kernel
theorem dX11_partial_18 : decode cX11_partial 18 = .ok (.goto 11, 3) := by decide +kernel
theorem dX11_partial_21 : decode cX11_partial 21 = .ok (.aload_n 0, 1) := by decide +kernel
theorem dX11_partial_22 : decode cX11_partial 22 = .ok (.invokevirtual 296, 3) := by decide +kernel
theorem dX11_partial_25 : decode cX11_partial 25 = .ok (.iload_n 1, 1) := by decide +kernel
theorem dX11_partial_26 : decode cX11_partial 26 = .ok (.invokevirtual 300, 3) := by decide +kernel
theorem dX11_partial_29 : decode cX11_partial 29 = .ok (.invokevirtual 111, 3) := by decide +kernel
theorem dX11_partial_32 : decode cX11_partial 32 = .ok (.ireturn, 1) := by decide +kernel
theorem dX11_sub_0 : decode cX11_sub 0 = .ok (.iload_n 2, 1) := by decide +kernel
theorem dX11_sub_1 : decode cX11_sub 1 = .ok (.ifCond .lt 23, 3) := by decide +kernel
theorem dX11_sub_4 : decode cX11_sub 4 = .ok (.iload_n 2, 1) := by decide +kernel
theorem dX11_sub_5 : decode cX11_sub 5 = .ok (.iconst 3, 1) := by decide +kernel
theorem dX11_sub_6 : decode cX11_sub 6 = .ok (.if_icmp .gt 18, 3) := by decide +kernel
theorem dX11_sub_9 : decode cX11_sub 9 = .ok (.iload_n 1, 1) := by decide +kernel
theorem dX11_sub_10 : decode cX11_sub 10 = .ok (.ifCond .lt 14, 3) := by decide +kernel
theorem dX11_sub_13 : decode cX11_sub 13 = .ok (.iload_n 1, 1) := by decide +kernel
theorem dX11_sub_14 : decode cX11_sub 14 = .ok (.aload_n 0, 1) := by decide +kernel
theorem dX11_sub_15 : decode cX11_sub 15 = .ok (.getfield 71, 3) := by decide +kernel
theorem dX11_sub_18 : decode cX11_sub 18 = .ok (.invokevirtual 303, 3) := by decide +kernel
theorem dX11_sub_21 : decode cX11_sub 21 = .ok (.if_icmp .le 9, 3) := by decide +kernel
theorem dX11_sub_24 : decode cX11_sub 24 = .ok (.aload_n 0, 1) := by decide +kernel
theorem dX11_sub_25 : decode cX11_sub 25 = .ok (.iconst 1, 1) := by decide +kernel
theorem dX11_sub_26 : decode cX11_sub 26 = .ok (.invokevirtual 93, 3) := by decide +kernel
theorem dX11_sub_29 : decode cX11_sub 29 = .ok (.ireturn, 1) := by decide +kernel
theorem dX11_sub_30 : decode cX11_sub 30 = .ok (.iload_n 2, 1) := by decide +kernel
theorem dX11_sub_31 : decode cX11_sub 31 = .ok (.ifCond .ne 23, 3) := by decide +kernel
theorem dX11_sub_34 : decode cX11_sub 34 = .ok (.aload_n 0, 1) := by decide +kernel
theorem dX11_sub_35 : decode cX11_sub 35 = .ok (.aload_n 0, 1) := by decide +kernel
theorem dX11_sub_36 : decode cX11_sub 36 = .ok (.invokevirtual 296, 3) := by decide +kernel
theorem dX11_sub_39 : decode cX11_sub 39 = .ok (.aload_n 0, 1) := by decide +kernel
theorem dX11_sub_40 : decode cX11_sub 40 = .ok (.getfield 71, 3) := by decide +kernel
theorem dX11_sub_43 : decode cX11_sub 43 = .ok (.iload_n 1, 1) := by decide +kernel
theorem dX11_sub_44 : decode cX11_sub 44 = .ok (.invokevirtual 306, 3) := by decide +kernel
theorem dX11_sub_47 : decode cX11_sub 47 = .ok (.invokevirtual 309, 3) := by decide +kernel
theorem dX11_sub_50 : decode cX11_sub 50 = .ok (.invokevirtual 111, 3) := by decide +kernel
theorem dX11_sub_53 : decode cX11_sub 53 = .ok (.ireturn, 1) := by decide +kernel
theorem dX11_sub_54 : decode cX11_sub 54 = .ok (.iload_n 2, 1) := by decide +kernel
theorem dX11_sub_55 : decode cX11_sub 55 = .ok (.iconst 1, 1) := by decide +kernel
theorem dX11_sub_56 : decode cX11_sub 56 = .ok (.if_icmp .ne 16, 3) := by decide +kernel
theorem dX11_sub_59 : decode cX11_sub 59 = .ok (.aload_n 0, 1) := by decide +kernel
theorem dX11_sub_60 : decode cX11_sub 60 = .ok (.aload_n 0, 1) := by decide +kernel
theorem dX11_sub_61 : decode cX11_sub 61 = .ok (.iload_n 1, 1) := by decide +kernel
theorem dX11_sub_62 : decode cX11_sub 62 = .ok (.invokevirtual 312, 3) := by decide +kernel
theorem dX11_sub_65 : decode cX11_sub 65 = .ok (.invokevirtual 175, 3) := by decide +kernel
theorem dX11_sub_68 : decode cX11_sub 68 = .ok (.invokevirtual 111, 3) := by decide +kernel
theorem dX11_sub_71 : decode cX11_sub 71 = .ok (.ireturn, 1) := by decide +kernel
theorem dX11_sub_72 : decode cX11_sub 72 = .ok (.iload_n 2, 1) := by decide +kernel
theorem dX11_sub_73 : decode cX11_sub 73 = .ok (.iconst 2, 1) := by decide +kernel
theorem dX11_sub_74 : decode cX11_sub 74 = .ok (.if_icmp .ne 7, 3) := by decide +kernel
theorem dX11_sub_77 : decode cX11_sub 77 = .ok (.iconst 1, 1) := by decide +kernel
theorem dX11_sub_78 : decode cX11_sub 78 = .ok (.goto 4, 3) := by decide +kernel
theorem dX11_sub_81 : decode cX11_sub 81 = .ok (.iconst 0, 1) := by decide +kernel
theorem dX11_sub_82 : decode cX11_sub 82 = .ok (.istore_n 3, 1) := by decide +kernel
theorem dX11_sub_83 : decode cX11_sub 83 = .ok (.iload_n 1, 1) := by decide +kernel
theorem dX11_sub_84 : decode cX11_sub 84 = .ok (.aload_n 0, 1) := by decide +kernel
theorem dX11_sub_85 : decode cX11_sub 85 = .ok (.getfield 71, 3) := by decide +kernel
theorem dX11_sub_88 : decode cX11_sub 88 = .ok (.invokevirtual 303, 3) := by decide +kernel
theorem dX11_sub_91 : decode cX11_sub 91 = .ok (.if_icmp .ne 31, 3) := by decide +kernel
theorem dX11_sub_94 : decode cX11_sub 94 = .ok (.aload_n 0, 1) := by decide +kernel
theorem dX11_sub_95 : decode cX11_sub 95 = .ok (.invokevirtual 142, 3) := by decide +kernel
theorem dX11_sub_98 : decode cX11_sub 98 = .ok (.astore 4, 2) := by decide +kernel
theorem dX11_sub_100 : decode cX11_sub 100 = .ok (.aload_n 0, 1) := by decide +kernel
theorem dX11_sub_101 : decode cX11_sub 101 = .ok (.iload_n 3, 1) := by decide +kernel
theorem dX11_sub_102 : decode cX11_sub 102 = .ok (.ifCond .eq 11, 3) := by decide +kernel
theorem dX11_sub_105 : decode cX11_sub 105 = .ok (.aload 4, 2) := by decide +kernel
theorem dX11_sub_107 : decode cX11_sub 107 = .ok (.invokevirtual 178, 3) := by decide +kernel
theorem dX11_sub_110 : decode cX11_sub 110 = .ok (.goto 8, 3) := by decide +kernel
theorem dX11_sub_113 : decode cX11_sub 113 = .ok (.aload 4, 2) := by decide +kernel
theorem dX11_sub_115 : decode cX11_sub 115 = .ok (.invokevirtual 181, 3) := by decide +kernel
theorem dX11_sub_118 : decode cX11_sub 118 = .ok (.invokevirtual 111, 3) := by decide +kernel
theorem dX11_sub_121 : decode cX11_sub 121 = .ok (.ireturn, 1) := by decide +kernel
theorem dX11_sub_122 : decode cX11_sub 122 = .ok (.aload_n 0, 1) := by decide +kernel
theorem dX11_sub_123 : decode cX11_sub 123 = .ok (.aload_n 0, 1) := by decide +kernel
theorem dX11_sub_124 : decode cX11_sub 124 = .ok (.aload_n 0, 1) := by decide +kernel
theorem dX11_sub_125 : decode cX11_sub 125 = .ok (.iload_n 1, 1) := by decide +kernel
theorem dX11_sub_126 : decode cX11_sub 126 = .ok (.invokevirtual 312, 3) := by decide +kernel
theorem dX11_sub_129 : decode cX11_sub 129 = .ok (.iload_n 1, 1) := by decide +kernel
theorem dX11_sub_130 : decode cX11_sub 130 = .ok (.iload_n 3, 1) := by decide +kernel
theorem dX11_sub_131 : decode cX11_sub 131 = .ok (.invokevirtual 316, 3) := by decide +kernel
theorem dX11_sub_134 : decode cX11_sub 134 = .ok (.invokevirtual 111, 3) := by decide +kernel
theorem dX11_sub_137 : decode cX11_sub 137 = .ok (.ireturn, 1) := by decide +kernel
theorem dX11_sum_0 : decode cX11_sum 0 = .ok (.aload_n 0, 1) := by decide +kernel
theorem dX11_sum_1 : decode cX11_sum 1 = .ok (.iconst 0, 1) := by decide +kernel
theorem dX11_sum_2 : decode cX11_sum 2 = .ok (.putfield 78, 3) := by decide +kernel
theorem dX11_sum_5 : decode cX11_sum 5 = .ok (.aload_n 0, 1) := by decide +kernel
theorem dX11_sum_6 : decode cX11_sum 6 = .ok (.invokevirtual 124, 3) := by decide +kernel
theorem dX11_sum_9 : decode cX11_sum 9 = .ok (.astore_n 1, 1) := by decide +kernel
theorem dX11_sum_10 : decode cX11_sum 10 = .ok (.lconst 0, 1) := by decide +kernel
theorem dX11_sum_11 : decode cX11_sum 11 = .ok (.lstore_n 2, 1) := by decide +kernel
theorem dX11_sum_12 : decode cX11_sum 12 = .ok (.iconst 0, 1) := by decide +kernel
theorem dX11_sum_13 : decode cX11_sum 13 = .ok (.istore 4, 2) := by decide +kernel
theorem dX11_sum_15 : decode cX11_sum 15 = .ok (.iload 4, 2) := by decide +kernel
theorem dX11_sum_17 : decode cX11_sum 17 = .ok (.aload_n 1, 1) := by decide +kernel
theorem dX11_sum_18 : decode cX11_sum 18 = .ok (.getfield 320, 3) := by decide +kernel
theorem dX11_sum_21 : decode cX11_sum 21 = .ok (.if_icmp .ge 19, 3) := by decide +kernel
theorem dX11_sum_24 : decode cX11_sum 24 = .ok (.lload_n 2, 1) := by decide +kernel
theorem dX11_sum_25 : decode cX11_sum 25 = .ok (.aload_n 0, 1) := by decide +kernel
theorem dX11_sum_26 : decode cX11_sum 26 = .ok (.aload_n 1, 1) := by decide +kernel
theorem dX11_sum_27 : decode cX11_sum 27 = .ok (.iload 4, 2) := by decide +kernel
theorem dX11_sum_29 : decode cX11_sum 29 = .ok (.invokevirtual 321, 3) := by decide +kernel
theorem dX11_sum_32 : decode cX11_sum 32 = .ok (.ladd, 1) := by decide +kernel
theorem dX11_sum_33 : decode cX11_sum 33 = .ok (.lstore_n 2, 1) := by decide +kernel
theorem dX11_sum_34 : decode cX11_sum 34 = .ok (.iinc 4 1, 3) := by decide +kernel
theorem dX11_sum_37 : decode cX11_sum 37 = .ok (.goto (-22), 3) := by decide +kernel
theorem dX11_sum_40 : decode cX11_sum 40 = .ok (.lload_n 2, 1) := by decide +kernel
theorem dX11_sum_41 : decode cX11_sum 41 = .ok (.lreturn, 1) := by decide +kernel
theorem dX11_diagram_0 : decode cX11_diagram 0 = .ok (.iload_n 2, 1) := by decide +kernel
theorem dX11_diagram_1 : decode cX11_diagram 1 = .ok (.ifCond .lt 9, 3) := by decide +kernel
theorem dX11_diagram_4 : decode cX11_diagram 4 = .ok (.iload_n 2, 1) := by decide +kernel
theorem dX11_diagram_5 : decode cX11_diagram 5 = .ok (.bipush 10, 2) := by decide +kernel
theorem dX11_diagram_7 : decode cX11_diagram 7 = .ok (.if_icmp .le 9, 3) := by decide +kernel
theorem dX11_diagram_10 : decode cX11_diagram 10 = .ok (.aload_n 0, 1) := by decide +kernel
theorem dX11_diagram_11 : decode cX11_diagram 11 = .ok (.iconst 1, 1) := by decide +kernel
theorem dX11_diagram_12 : decode cX11_diagram 12 = .ok (.invokevirtual 93, 3) := by decide +kernel
theorem dX11_diagram_15 : decode cX11_diagram 15 = .ok (.ireturn, 1) := by decide +kernel
theorem dX11_diagram_16 : decode cX11_diagram 16 = .ok (.aload_n 0, 1) := by decide +kernel
theorem dX11_diagram_17 : decode cX11_diagram 17 = .ok (.iload_n 1, 1) := by decide +kernel
theorem dX11_diagram_18 : decode cX11_diagram 18 = .ok (.invokevirtual 325, 3) := by decide +kernel
theorem dX11_diagram_21 : decode cX11_diagram 21 = .ok (.ifCond .ne 9, 3) := by decide +kernel
theorem dX11_diagram_24 : decode cX11_diagram 24 = .ok (.aload_n 0, 1) := by decide +kernel
theorem dX11_diagram_25 : decode cX11_diagram 25 = .ok (.iconst 2, 1) := by decide +kernel
theorem dX11_diagram_26 : decode cX11_diagram 26 = .ok (.invokevirtual 93, 3) := by decide +kernel
theorem dX11_diagram_29 : decode cX11_diagram 29 = .ok (.ireturn, 1) := by decide +kernel
theorem dX11_diagram_30 : decode cX11_diagram 30 = .ok (.aload_n 0, 1) := by decide +kernel
theorem dX11_diagram_31 : decode cX11_diagram 31 = .ok (.aload_n 0, 1) := by decide +kernel
theorem dX11_diagram_32 : decode cX11_diagram 32 = .ok (.invokevirtual 142, 3) := by decide +kernel
theorem dX11_diagram_35 : decode cX11_diagram 35 = .ok (.iload_n 1, 1) := by decide +kernel
theorem dX11_diagram_36 : decode cX11_diagram 36 = .ok (.iload_n 2, 1) := by decide +kernel
theorem dX11_diagram_37 : decode cX11_diagram 37 = .ok (.invokevirtual 328, 3) := by decide +kernel
theorem dX11_diagram_40 : decode cX11_diagram 40 = .ok (.invokevirtual 111, 3) := by decide +kernel
theorem dX11_diagram_43 : decode cX11_diagram 43 = .ok (.ireturn, 1) := by decide +kernel
theorem dX11_name_0 : decode cX11_name 0 = .ok (.iload_n 2, 1) := by decide +kernel
theorem dX11_name_1 : decode cX11_name 1 = .ok (.ifCond .ge 9, 3) := by decide +kernel
theorem dX11_name_4 : decode cX11_name 4 = .ok (.aload_n 0, 1) := by decide +kernel
theorem dX11_name_5 : decode cX11_name 5 = .ok (.iconst 1, 1) := by decide +kernel
theorem dX11_name_6 : decode cX11_name 6 = .ok (.invokevirtual 93, 3) := by decide +kernel
theorem dX11_name_9 : decode cX11_name 9 = .ok (.ireturn, 1) := by decide +kernel
theorem dX11_name_10 : decode cX11_name 10 = .ok (.aload_n 0, 1) := by decide +kernel
theorem dX11_name_11 : decode cX11_name 11 = .ok (.iload_n 1, 1) := by decide +kernel
theorem dX11_name_12 : decode cX11_name 12 = .ok (.invokevirtual 325, 3) := by decide +kernel
theorem dX11_name_15 : decode cX11_name 15 = .ok (.ifCond .ne 9, 3) := by decide +kernel
theorem dX11_name_18 : decode cX11_name 18 = .ok (.aload_n 0, 1) := by decide +kernel
theorem dX11_name_19 : decode cX11_name 19 = .ok (.iconst 2, 1) := by decide +kernel
theorem dX11_name_20 : decode cX11_name 20 = .ok (.invokevirtual 93, 3) := by decide +kernel
theorem dX11_name_23 : decode cX11_name 23 = .ok (.ireturn, 1) := by decide +kernel
theorem dX11_name_24 : decode cX11_name 24 = .ok (.iload_n 2, 1) := by decide +kernel
theorem dX11_name_25 : decode cX11_name 25 = .ok (.aload_n 0, 1) := by decide +kernel
theorem dX11_name_26 : decode cX11_name 26 = .ok (.getfield 71, 3) := by decide +kernel
theorem dX11_name_29 : decode cX11_name 29 = .ok (.getfield 108, 3) := by decide +kernel
theorem dX11_name_32 : decode cX11_name 32 = .ok (.iconst 2, 1) := by decide +kernel
theorem dX11_name_33 : decode cX11_name 33 = .ok (.idiv, 1) := by decide +kernel
theorem dX11_name_34 : decode cX11_name 34 = .ok (.if_icmp .lt 9, 3) := by decide +kernel
theorem dX11_name_37 : decode cX11_name 37 = .ok (.aload_n 0, 1) := by decide +kernel
theorem dX11_name_38 : decode cX11_name 38 = .ok (.iconst 5, 1) := by decide +kernel
theorem dX11_name_39 : decode cX11_name 39 = .ok (.invokevirtual 93, 3) := by decide +kernel
theorem dX11_name_42 : decode cX11_name 42 = .ok (.ireturn, 1) := by decide +kernel
theorem dX11_name_43 : decode cX11_name 43 = .ok (.aload_n 0, 1) := by decide +kernel
theorem dX11_name_44 : decode cX11_name 44 = .ok (.aload_n 0, 1) := by decide +kernel
theorem dX11_name_45 : decode cX11_name 45 = .ok (.invokevirtual 142, 3) := by decide +kernel
theorem dX11_name_48 : decode cX11_name 48 = .ok (.iload_n 1, 1) := by decide +kernel
theorem dX11_name_49 : decode cX11_name 49 = .ok (.iload_n 2, 1) := by decide +kernel
theorem dX11_name_50 : decode cX11_name 50 = .ok (.invokevirtual 331, 3) := by decide +kernel
theorem dX11_name_53 : decode cX11_name 53 = .ok (.invokevirtual 111, 3) := by decide +kernel
theorem dX11_name_56 : decode cX11_name 56 = .ok (.ireturn, 1) := by decide +kernel
theorem dX11_part_0 : decode cX11_part 0 = .ok (.aload_n 0, 1) := by decide +kernel
theorem dX11_part_1 : decode cX11_part 1 = .ok (.iload_n 1, 1) := by decide +kernel
theorem dX11_part_2 : decode cX11_part 2 = .ok (.invokevirtual 325, 3) := by decide +kernel
theorem dX11_part_5 : decode cX11_part 5 = .ok (.ifCond .eq 14, 3) := by decide +kernel
theorem dX11_part_8 : decode cX11_part 8 = .ok (.aload_n 0, 1) := by decide +kernel
theorem dX11_part_9 : decode cX11_part 9 = .ok (.getfield 71, 3) := by decide +kernel
theorem dX11_part_12 : decode cX11_part 12 = .ok (.iload_n 2, 1) := by decide +kernel
theorem dX11_part_13 : decode cX11_part 13 = .ok (.invokevirtual 204, 3) := by decide +kernel
theorem dX11_part_16 : decode cX11_part 16 = .ok (.ifCond .ne 9, 3) := by decide +kernel
theorem dX11_part_19 : decode cX11_part 19 = .ok (.aload_n 0, 1) := by decide +kernel
theorem dX11_part_20 : decode cX11_part 20 = .ok (.iconst 2, 1) := by decide +kernel
theorem dX11_part_21 : decode cX11_part 21 = .ok (.invokevirtual 93, 3) := by decide +kernel
theorem dX11_part_24 : decode cX11_part 24 = .ok (.ireturn, 1) := by decide +kernel
theorem dX11_part_25 : decode cX11_part 25 = .ok (.aload_n 0, 1) := by decide +kernel
theorem dX11_part_26 : decode cX11_part 26 = .ok (.aload_n 0, 1) := by decide +kernel
theorem dX11_part_27 : decode cX11_part 27 = .ok (.iload_n 1, 1) := by decide +kernel
theorem dX11_part_28 : decode cX11_part 28 = .ok (.invokevirtual 334, 3) := by decide +kernel
theorem dX11_part_31 : decode cX11_part 31 = .ok (.iconst 1, 1) := by decide +kernel
theorem dX11_part_32 : decode cX11_part 32 = .ok (.iload_n 2, 1) := by decide +kernel
theorem dX11_part_33 : decode cX11_part 33 = .ok (.ishl, 1) := by decide +kernel
theorem dX11_part_34 : decode cX11_part 34 = .ok (.aload_n 0, 1) := by decide +kernel
theorem dX11_part_35 : decode cX11_part 35 = .ok (.getfield 71, 3) := by decide +kernel
theorem dX11_part_38 : decode cX11_part 38 = .ok (.invokevirtual 303, 3) := by decide +kernel
theorem dX11_part_41 : decode cX11_part 41 = .ok (.invokevirtual 338, 3) := by decide +kernel
theorem dX11_part_44 : decode cX11_part 44 = .ok (.invokevirtual 111, 3) := by decide +kernel
theorem dX11_part_47 : decode cX11_part 47 = .ok (.ireturn, 1) := by decide +kernel
theorem dX11_far_0 : decode cX11_far 0 = .ok (.aload_n 0, 1) := by decide +kernel
theorem dX11_far_1 : decode cX11_far 1 = .ok (.iload_n 1, 1) := by decide +kernel
theorem dX11_far_2 : decode cX11_far 2 = .ok (.invokevirtual 325, 3) := by decide +kernel
theorem dX11_far_5 : decode cX11_far 5 = .ok (.ifCond .eq 25, 3) := by decide +kernel
theorem dX11_far_8 : decode cX11_far 8 = .ok (.aload_n 0, 1) := by decide +kernel
theorem dX11_far_9 : decode cX11_far 9 = .ok (.getfield 71, 3) := by decide +kernel
theorem dX11_far_12 : decode cX11_far 12 = .ok (.iload_n 2, 1) := by decide +kernel
theorem dX11_far_13 : decode cX11_far 13 = .ok (.invokevirtual 204, 3) := by decide +kernel
theorem dX11_far_16 : decode cX11_far 16 = .ok (.ifCond .eq 14, 3) := by decide +kernel
theorem dX11_far_19 : decode cX11_far 19 = .ok (.aload_n 0, 1) := by decide +kernel
theorem dX11_far_20 : decode cX11_far 20 = .ok (.getfield 71, 3) := by decide +kernel
theorem dX11_far_23 : decode cX11_far 23 = .ok (.iload_n 3, 1) := by decide +kernel
theorem dX11_far_24 : decode cX11_far 24 = .ok (.invokevirtual 204, 3) := by decide +kernel
theorem dX11_far_27 : decode cX11_far 27 = .ok (.ifCond .ne 9, 3) := by decide +kernel
theorem dX11_far_30 : decode cX11_far 30 = .ok (.aload_n 0, 1) := by decide +kernel
theorem dX11_far_31 : decode cX11_far 31 = .ok (.iconst 2, 1) := by decide +kernel
theorem dX11_far_32 : decode cX11_far 32 = .ok (.invokevirtual 93, 3) := by decide +kernel
theorem dX11_far_35 : decode cX11_far 35 = .ok (.ireturn, 1) := by decide +kernel
theorem dX11_far_36 : decode cX11_far 36 = .ok (.aload_n 0, 1) := by decide +kernel
theorem dX11_far_37 : decode cX11_far 37 = .ok (.iload_n 1, 1) := by decide +kernel
theorem dX11_far_38 : decode cX11_far 38 = .ok (.invokevirtual 334, 3) := by decide +kernel
theorem dX11_far_41 : decode cX11_far 41 = .ok (.iload_n 2, 1) := by decide +kernel
theorem dX11_far_42 : decode cX11_far 42 = .ok (.iload_n 3, 1) := by decide +kernel
theorem dX11_far_43 : decode cX11_far 43 = .ok (.invokevirtual 341, 3) := by decide +kernel
theorem dX11_far_46 : decode cX11_far 46 = .ok (.istore 4, 2) := by decide +kernel
theorem dX11_far_48 : decode cX11_far 48 = .ok (.iload 4, 2) := by decide +kernel
theorem dX11_far_50 : decode cX11_far 50 = .ok (.ifCond .ge 11, 3) := by decide +kernel
theorem dX11_far_53 : decode cX11_far 53 = .ok (.aload_n 0, 1) := by decide +kernel
theorem dX11_far_54 : decode cX11_far 54 = .ok (.iconst 5, 1) := by decide +kernel
theorem dX11_far_55 : decode cX11_far 55 = .ok (.invokevirtual 93, 3) := by decide +kernel
theorem dX11_far_58 : decode cX11_far 58 = .ok (.goto 9, 3) := by decide +kernel
theorem dX11_far_61 : decode cX11_far 61 = .ok (.aload_n 0, 1) := by decide +kernel
theorem dX11_far_62 : decode cX11_far 62 = .ok (.iload 4, 2) := by decide +kernel
theorem dX11_far_64 : decode cX11_far 64 = .ok (.invokevirtual 111, 3) := by decide +kernel
theorem dX11_far_67 : decode cX11_far 67 = .ok (.ireturn, 1) := by decide +kernel
theorem dX11_holds_0 : decode cX11_holds 0 = .ok (.aload_n 0, 1) := by decide +kernel
theorem dX11_holds_1 : decode cX11_holds 1 = .ok (.iload_n 1, 1) := by decide +kernel
theorem dX11_holds_2 : decode cX11_holds 2 = .ok (.invokevirtual 325, 3) := by decide +kernel
theorem dX11_holds_5 : decode cX11_holds 5 = .ok (.ifCond .ne 9, 3) := by decide +kernel
theorem dX11_holds_8 : decode cX11_holds 8 = .ok (.aload_n 0, 1) := by decide +kernel
theorem dX11_holds_9 : decode cX11_holds 9 = .ok (.iconst 2, 1) := by decide +kernel
theorem dX11_holds_10 : decode cX11_holds 10 = .ok (.invokevirtual 93, 3) := by decide +kernel
theorem dX11_holds_13 : decode cX11_holds 13 = .ok (.ireturn, 1) := by decide +kernel
theorem dX11_holds_14 : decode cX11_holds 14 = .ok (.aload_n 0, 1) := by decide +kernel
theorem dX11_holds_15 : decode cX11_holds 15 = .ok (.aload_n 0, 1) := by decide +kernel
theorem dX11_holds_16 : decode cX11_holds 16 = .ok (.iload_n 1, 1) := by decide +kernel
theorem dX11_holds_17 : decode cX11_holds 17 = .ok (.invokevirtual 334, 3) := by decide +kernel
theorem dX11_holds_20 : decode cX11_holds 20 = .ok (.invokevirtual 344, 3) := by decide +kernel
theorem dX11_holds_23 : decode cX11_holds 23 = .ok (.invokevirtual 111, 3) := by decide +kernel
theorem dX11_holds_26 : decode cX11_holds 26 = .ok (.ireturn, 1) := by decide +kernel
theorem dX11_ofDiagram_0 : decode cX11_ofDiagram 0 = .ok (.iload_n 2, 1) := by decide +kernel
theorem dX11_ofDiagram_1 : decode cX11_ofDiagram 1 = .ok (.ifCond .lt 12, 3) := by decide +kernel
theorem dX11_ofDiagram_4 : decode cX11_ofDiagram 4 = .ok (.iload_n 2, 1) := by decide +kernel
theorem dX11_ofDiagram_5 : decode cX11_ofDiagram 5 = .ok (.iconst 1, 1) := by decide +kernel
theorem dX11_ofDiagram_6 : decode cX11_ofDiagram 6 = .ok (.if_icmp .gt 7, 3) := by decide +kernel
theorem dX11_ofDiagram_9 : decode cX11_ofDiagram 9 = .ok (.iload_n 3, 1) := by decide +kernel
theorem dX11_ofDiagram_10 : decode cX11_ofDiagram 10 = .ok (.ifCond .ge 9, 3) := by decide +kernel
theorem dX11_ofDiagram_13 : decode cX11_ofDiagram 13 = .ok (.aload_n 0, 1) := by decide +kernel
theorem dX11_ofDiagram_14 : decode cX11_ofDiagram 14 = .ok (.iconst 1, 1) := by decide +kernel
theorem dX11_ofDiagram_15 : decode cX11_ofDiagram 15 = .ok (.invokevirtual 93, 3) := by decide +kernel
theorem dX11_ofDiagram_18 : decode cX11_ofDiagram 18 = .ok (.ireturn, 1) := by decide +kernel
theorem dX11_ofDiagram_19 : decode cX11_ofDiagram 19 = .ok (.aload_n 0, 1) := by decide +kernel
theorem dX11_ofDiagram_20 : decode cX11_ofDiagram 20 = .ok (.iload_n 1, 1) := by decide +kernel
theorem dX11_ofDiagram_21 : decode cX11_ofDiagram 21 = .ok (.invokevirtual 325, 3) := by decide +kernel
theorem dX11_ofDiagram_24 : decode cX11_ofDiagram 24 = .ok (.ifCond .ne 9, 3) := by decide +kernel
theorem dX11_ofDiagram_27 : decode cX11_ofDiagram 27 = .ok (.aload_n 0, 1) := by decide +kernel
theorem dX11_ofDiagram_28 : decode cX11_ofDiagram 28 = .ok (.iconst 2, 1) := by decide +kernel
theorem dX11_ofDiagram_29 : decode cX11_ofDiagram 29 = .ok (.invokevirtual 93, 3) := by decide +kernel
theorem dX11_ofDiagram_32 : decode cX11_ofDiagram 32 = .ok (.ireturn, 1) := by decide +kernel
theorem dX11_ofDiagram_33 : decode cX11_ofDiagram 33 = .ok (.aload_n 0, 1) := by decide +kernel
theorem dX11_ofDiagram_34 : decode cX11_ofDiagram 34 = .ok (.invokevirtual 274, 3) := by decide +kernel
theorem dX11_ofDiagram_37 : decode cX11_ofDiagram 37 = .ok (.astore 4, 2) := by decide +kernel
theorem dX11_ofDiagram_39 : decode cX11_ofDiagram 39 = .ok (.iconst 0, 1) := by decide +kernel
theorem dX11_ofDiagram_40 : decode cX11_ofDiagram 40 = .ok (.istore 5, 2) := by decide +kernel
theorem dX11_ofDiagram_42 : decode cX11_ofDiagram 42 = .ok (.iconst 0, 1) := by decide +kernel
theorem dX11_ofDiagram_43 : decode cX11_ofDiagram 43 = .ok (.istore 6, 2) := by decide +kernel
theorem dX11_ofDiagram_45 : decode cX11_ofDiagram 45 = .ok (.iload 6, 2) := by decide +kernel
theorem dX11_ofDiagram_47 : decode cX11_ofDiagram 47 = .ok (.aload 4, 2) := by decide +kernel
theorem dX11_ofDiagram_49 : decode cX11_ofDiagram 49 = .ok (.getfield 320, 3) := by decide +kernel
theorem dX11_ofDiagram_52 : decode cX11_ofDiagram 52 = .ok (.if_icmp .ge 54, 3) := by decide +kernel
theorem dX11_ofDiagram_55 : decode cX11_ofDiagram 55 = .ok (.iload_n 2, 1) := by decide +kernel
theorem dX11_ofDiagram_56 : decode cX11_ofDiagram 56 = .ok (.ifCond .ne 13, 3) := by decide +kernel
theorem dX11_ofDiagram_59 : decode cX11_ofDiagram 59 = .ok (.aload 4, 2) := by decide +kernel
theorem dX11_ofDiagram_61 : decode cX11_ofDiagram 61 = .ok (.iload 6, 2) := by decide +kernel
theorem dX11_ofDiagram_63 : decode cX11_ofDiagram 63 = .ok (.invokevirtual 271, 3) := by decide +kernel
theorem dX11_ofDiagram_66 : decode cX11_ofDiagram 66 = .ok (.goto 10, 3) := by decide +kernel
theorem dX11_ofDiagram_69 : decode cX11_ofDiagram 69 = .ok (.aload 4, 2) := by decide +kernel
theorem dX11_ofDiagram_71 : decode cX11_ofDiagram 71 = .ok (.iload 6, 2) := by decide +kernel
theorem dX11_ofDiagram_73 : decode cX11_ofDiagram 73 = .ok (.invokevirtual 277, 3) := by decide +kernel
theorem dX11_ofDiagram_76 : decode cX11_ofDiagram 76 = .ok (.istore 7, 2) := by decide +kernel
theorem dX11_ofDiagram_78 : decode cX11_ofDiagram 78 = .ok (.iload 7, 2) := by decide +kernel
theorem dX11_ofDiagram_80 : decode cX11_ofDiagram 80 = .ok (.iload_n 3, 1) := by decide +kernel
theorem dX11_ofDiagram_81 : decode cX11_ofDiagram 81 = .ok (.if_icmp .ne 19, 3) := by decide +kernel
theorem dX11_ofDiagram_84 : decode cX11_ofDiagram 84 = .ok (.aload_n 0, 1) := by decide +kernel
theorem dX11_ofDiagram_85 : decode cX11_ofDiagram 85 = .ok (.getfield 50, 3) := by decide +kernel
theorem dX11_ofDiagram_88 : decode cX11_ofDiagram 88 = .ok (.iload 6, 2) := by decide +kernel
theorem dX11_ofDiagram_90 : decode cX11_ofDiagram 90 = .ok (.invokevirtual 280, 3) := by decide +kernel
theorem dX11_ofDiagram_93 : decode cX11_ofDiagram 93 = .ok (.iload_n 1, 1) := by decide +kernel
theorem dX11_ofDiagram_94 : decode cX11_ofDiagram 94 = .ok (.if_icmp .ne 6, 3) := by decide +kernel
theorem dX11_ofDiagram_97 : decode cX11_ofDiagram 97 = .ok (.iinc 5 1, 3) := by decide +kernel
theorem dX11_ofDiagram_100 : decode cX11_ofDiagram 100 = .ok (.iinc 6 1, 3) := by decide +kernel
theorem dX11_ofDiagram_103 : decode cX11_ofDiagram 103 = .ok (.goto (-58), 3) := by decide +kernel
theorem dX11_ofDiagram_106 : decode cX11_ofDiagram 106 = .ok (.aload_n 0, 1) := by decide +kernel
theorem dX11_ofDiagram_107 : decode cX11_ofDiagram 107 = .ok (.iload 5, 2) := by decide +kernel
theorem dX11_ofDiagram_109 : decode cX11_ofDiagram 109 = .ok (.invokevirtual 111, 3) := by decide +kernel
theorem dX11_ofDiagram_112 : decode cX11_ofDiagram 112 = .ok (.ireturn, 1) := by decide +kernel
theorem dX11_sumOf_0 : decode cX11_sumOf 0 = .ok (.aload_n 0, 1) := by decide +kernel
theorem dX11_sumOf_1 : decode cX11_sumOf 1 = .ok (.iload_n 1, 1) := by decide +kernel
theorem dX11_sumOf_2 : decode cX11_sumOf 2 = .ok (.invokevirtual 325, 3) := by decide +kernel
theorem dX11_sumOf_5 : decode cX11_sumOf 5 = .ok (.ifCond .ne 10, 3) := by decide +kernel
theorem dX11_sumOf_8 : decode cX11_sumOf 8 = .ok (.aload_n 0, 1) := by decide +kernel
theorem dX11_sumOf_9 : decode cX11_sumOf 9 = .ok (.iconst 2, 1) := by decide +kernel
theorem dX11_sumOf_10 : decode cX11_sumOf 10 = .ok (.invokevirtual 93, 3) := by decide +kernel
theorem dX11_sumOf_13 : decode cX11_sumOf 13 = .ok (.i2l, 1) := by decide +kernel
theorem dX11_sumOf_14 : decode cX11_sumOf 14 = .ok (.lreturn, 1) := by decide +kernel
theorem dX11_sumOf_15 : decode cX11_sumOf 15 = .ok (.aload_n 0, 1) := by decide +kernel
theorem dX11_sumOf_16 : decode cX11_sumOf 16 = .ok (.iconst 0, 1) := by decide +kernel
theorem dX11_sumOf_17 : decode cX11_sumOf 17 = .ok (.putfield 78, 3) := by decide +kernel
theorem dX11_sumOf_20 : decode cX11_sumOf 20 = .ok (.aload_n 0, 1) := by decide +kernel
theorem dX11_sumOf_21 : decode cX11_sumOf 21 = .ok (.invokevirtual 124, 3) := by decide +kernel
theorem dX11_sumOf_24 : decode cX11_sumOf 24 = .ok (.astore_n 2, 1) := by decide +kernel
theorem dX11_sumOf_25 : decode cX11_sumOf 25 = .ok (.lconst 0, 1) := by decide +kernel
theorem dX11_sumOf_26 : decode cX11_sumOf 26 = .ok (.lstore_n 3, 1) := by decide +kernel
theorem dX11_sumOf_27 : decode cX11_sumOf 27 = .ok (.iconst 0, 1) := by decide +kernel
theorem dX11_sumOf_28 : decode cX11_sumOf 28 = .ok (.istore 5, 2) := by decide +kernel
theorem dX11_sumOf_30 : decode cX11_sumOf 30 = .ok (.iload 5, 2) := by decide +kernel
theorem dX11_sumOf_32 : decode cX11_sumOf 32 = .ok (.aload_n 2, 1) := by decide +kernel
theorem dX11_sumOf_33 : decode cX11_sumOf 33 = .ok (.getfield 320, 3) := by decide +kernel
theorem dX11_sumOf_36 : decode cX11_sumOf 36 = .ok (.if_icmp .ge 32, 3) := by decide +kernel
theorem dX11_sumOf_39 : decode cX11_sumOf 39 = .ok (.aload_n 0, 1) := by decide +kernel
theorem dX11_sumOf_40 : decode cX11_sumOf 40 = .ok (.getfield 50, 3) := by decide +kernel
theorem dX11_sumOf_43 : decode cX11_sumOf 43 = .ok (.iload 5, 2) := by decide +kernel
theorem dX11_sumOf_45 : decode cX11_sumOf 45 = .ok (.invokevirtual 280, 3) := by decide +kernel
theorem dX11_sumOf_48 : decode cX11_sumOf 48 = .ok (.iload_n 1, 1) := by decide +kernel
theorem dX11_sumOf_49 : decode cX11_sumOf 49 = .ok (.if_icmp .ne 13, 3) := by decide +kernel
theorem dX11_sumOf_52 : decode cX11_sumOf 52 = .ok (.lload_n 3, 1) := by decide +kernel
theorem dX11_sumOf_53 : decode cX11_sumOf 53 = .ok (.aload_n 0, 1) := by decide +kernel
theorem dX11_sumOf_54 : decode cX11_sumOf 54 = .ok (.aload_n 2, 1) := by decide +kernel
theorem dX11_sumOf_55 : decode cX11_sumOf 55 = .ok (.iload 5, 2) := by decide +kernel
theorem dX11_sumOf_57 : decode cX11_sumOf 57 = .ok (.invokevirtual 321, 3) := by decide +kernel
theorem dX11_sumOf_60 : decode cX11_sumOf 60 = .ok (.ladd, 1) := by decide +kernel
theorem dX11_sumOf_61 : decode cX11_sumOf 61 = .ok (.lstore_n 3, 1) := by decide +kernel
theorem dX11_sumOf_62 : decode cX11_sumOf 62 = .ok (.iinc 5 1, 3) := by decide +kernel
theorem dX11_sumOf_65 : decode cX11_sumOf 65 = .ok (.goto (-35), 3) := by decide +kernel
theorem dX11_sumOf_68 : decode cX11_sumOf 68 = .ok (.lload_n 3, 1) := by decide +kernel
theorem dX11_sumOf_69 : decode cX11_sumOf 69 = .ok (.lreturn, 1) := by decide +kernel
theorem dX11_diagrams_0 : decode cX11_diagrams 0 = .ok (.iload_n 1, 1) := by decide +kernel
theorem dX11_diagrams_1 : decode cX11_diagrams 1 = .ok (.ifCond .lt 12, 3) := by decide +kernel
theorem dX11_diagrams_4 : decode cX11_diagrams 4 = .ok (.iload_n 1, 1) := by decide +kernel
theorem dX11_diagrams_5 : decode cX11_diagrams 5 = .ok (.iconst 4, 1) := by decide +kernel
theorem dX11_diagrams_6 : decode cX11_diagrams 6 = .ok (.if_icmp .gt 7, 3) := by decide +kernel
theorem dX11_diagrams_9 : decode cX11_diagrams 9 = .ok (.iload_n 2, 1) := by decide +kernel
theorem dX11_diagrams_10 : decode cX11_diagrams 10 = .ok (.ifCond .ge 9, 3) := by decide +kernel
theorem dX11_diagrams_13 : decode cX11_diagrams 13 = .ok (.aload_n 0, 1) := by decide +kernel
theorem dX11_diagrams_14 : decode cX11_diagrams 14 = .ok (.iconst 1, 1) := by decide +kernel
theorem dX11_diagrams_15 : decode cX11_diagrams 15 = .ok (.invokevirtual 93, 3) := by decide +kernel
theorem dX11_diagrams_18 : decode cX11_diagrams 18 = .ok (.ireturn, 1) := by decide +kernel
theorem dX11_diagrams_19 : decode cX11_diagrams 19 = .ok (.aload_n 0, 1) := by decide +kernel
theorem dX11_diagrams_20 : decode cX11_diagrams 20 = .ok (.aload_n 0, 1) := by decide +kernel
theorem dX11_diagrams_21 : decode cX11_diagrams 21 = .ok (.invokevirtual 142, 3) := by decide +kernel
theorem dX11_diagrams_24 : decode cX11_diagrams 24 = .ok (.iload_n 1, 1) := by decide +kernel
theorem dX11_diagrams_25 : decode cX11_diagrams 25 = .ok (.iload_n 2, 1) := by decide +kernel
theorem dX11_diagrams_26 : decode cX11_diagrams 26 = .ok (.invokevirtual 191, 3) := by decide +kernel
theorem dX11_diagrams_29 : decode cX11_diagrams 29 = .ok (.invokevirtual 111, 3) := by decide +kernel
theorem dX11_diagrams_32 : decode cX11_diagrams 32 = .ok (.ireturn, 1) := by decide +kernel
theorem dX11_print_0 : decode cX11_print 0 = .ok (.aload_n 0, 1) := by decide +kernel
theorem dX11_print_1 : decode cX11_print 1 = .ok (.iload_n 1, 1) := by decide +kernel
theorem dX11_print_2 : decode cX11_print 2 = .ok (.invokevirtual 325, 3) := by decide +kernel
theorem dX11_print_5 : decode cX11_print 5 = .ok (.ifCond .ne 9, 3) := by decide +kernel
theorem dX11_print_8 : decode cX11_print 8 = .ok (.aload_n 0, 1) := by decide +kernel
theorem dX11_print_9 : decode cX11_print 9 = .ok (.iconst 2, 1) := by decide +kernel
theorem dX11_print_10 : decode cX11_print 10 = .ok (.invokevirtual 93, 3) := by decide +kernel
theorem dX11_print_13 : decode cX11_print 13 = .ok (.ireturn, 1) := by decide +kernel
theorem dX11_print_14 : decode cX11_print 14 = .ok (.aload_n 0, 1) := by decide +kernel
theorem dX11_print_15 : decode cX11_print 15 = .ok (.getfield 64, 3) := by decide +kernel
theorem dX11_print_18 : decode cX11_print 18 = .ok (.invokevirtual 347, 3) := by decide +kernel
theorem dX11_print_21 : decode cX11_print 21 = .ok (.aload_n 0, 1) := by decide +kernel
theorem dX11_print_22 : decode cX11_print 22 = .ok (.invokevirtual 142, 3) := by decide +kernel
theorem dX11_print_25 : decode cX11_print 25 = .ok (.astore_n 2, 1) := by decide +kernel
theorem dX11_print_26 : decode cX11_print 26 = .ok (.iconst 0, 1) := by decide +kernel
theorem dX11_print_27 : decode cX11_print 27 = .ok (.istore_n 3, 1) := by decide +kernel
theorem dX11_print_28 : decode cX11_print 28 = .ok (.iload_n 3, 1) := by decide +kernel
theorem dX11_print_29 : decode cX11_print 29 = .ok (.aload_n 0, 1) := by decide +kernel
theorem dX11_print_30 : decode cX11_print 30 = .ok (.getfield 71, 3) := by decide +kernel
theorem dX11_print_33 : decode cX11_print 33 = .ok (.getfield 108, 3) := by decide +kernel
theorem dX11_print_36 : decode cX11_print 36 = .ok (.iconst 2, 1) := by decide +kernel
theorem dX11_print_37 : decode cX11_print 37 = .ok (.idiv, 1) := by decide +kernel
theorem dX11_print_38 : decode cX11_print 38 = .ok (.if_icmp .ge 26, 3) := by decide +kernel
theorem dX11_print_41 : decode cX11_print 41 = .ok (.aload_n 0, 1) := by decide +kernel
theorem dX11_print_42 : decode cX11_print 42 = .ok (.getfield 64, 3) := by decide +kernel
theorem dX11_print_45 : decode cX11_print 45 = .ok (.aload_n 2, 1) := by decide +kernel
theorem dX11_print_46 : decode cX11_print 46 = .ok (.iload_n 1, 1) := by decide +kernel
theorem dX11_print_47 : decode cX11_print 47 = .ok (.iload_n 3, 1) := by decide +kernel
theorem dX11_print_48 : decode cX11_print 48 = .ok (.invokevirtual 331, 3) := by decide +kernel
theorem dX11_print_51 : decode cX11_print 51 = .ok (.aload_n 0, 1) := by decide +kernel
theorem dX11_print_52 : decode cX11_print 52 = .ok (.getfield 71, 3) := by decide +kernel
theorem dX11_print_55 : decode cX11_print 55 = .ok (.invokevirtual 350, 3) := by decide +kernel
theorem dX11_print_58 : decode cX11_print 58 = .ok (.iinc 3 1, 3) := by decide +kernel
theorem dX11_print_61 : decode cX11_print 61 = .ok (.goto (-33), 3) := by decide +kernel
theorem dX11_print_64 : decode cX11_print 64 = .ok (.aload_n 0, 1) := by decide +kernel
theorem dX11_print_65 : decode cX11_print 65 = .ok (.aload_n 0, 1) := by decide +kernel
theorem dX11_print_66 : decode cX11_print 66 = .ok (.getfield 64, 3) := by decide +kernel
theorem dX11_print_69 : decode cX11_print 69 = .ok (.getfield 354, 3) := by decide +kernel
theorem dX11_print_72 : decode cX11_print 72 = .ok (.invokevirtual 111, 3) := by decide +kernel
theorem dX11_print_75 : decode cX11_print 75 = .ok (.ireturn, 1) := by decide +kernel
theorem dX11_printPairs_0 : decode cX11_printPairs 0 = .ok (.aload_n 0, 1) := by decide +kernel
theorem dX11_printPairs_1 : decode cX11_printPairs 1 = .ok (.iload_n 1, 1) := by decide +kernel
theorem dX11_printPairs_2 : decode cX11_printPairs 2 = .ok (.invokevirtual 262, 3) := by decide +kernel
theorem dX11_printPairs_5 : decode cX11_printPairs 5 = .ok (.ifCond .ne 9, 3) := by decide +kernel
theorem dX11_printPairs_8 : decode cX11_printPairs 8 = .ok (.aload_n 0, 1) := by decide +kernel
theorem dX11_printPairs_9 : decode cX11_printPairs 9 = .ok (.iconst 2, 1) := by decide +kernel
theorem dX11_printPairs_10 : decode cX11_printPairs 10 = .ok (.invokevirtual 93, 3) := by decide +kernel
theorem dX11_printPairs_13 : decode cX11_printPairs 13 = .ok (.ireturn, 1) := by decide +kernel
theorem dX11_printPairs_14 : decode cX11_printPairs 14 = .ok (.aload_n 0, 1) := by decide +kernel
theorem dX11_printPairs_15 : decode cX11_printPairs 15 = .ok (.getfield 64, 3) := by decide +kernel
theorem dX11_printPairs_18 : decode cX11_printPairs 18 = .ok (.invokevirtual 347, 3) := by decide +kernel
theorem dX11_printPairs_21 : decode cX11_printPairs 21 = .ok (.iconst 0, 1) := by decide +kernel
theorem dX11_printPairs_22 : decode cX11_printPairs 22 = .ok (.istore_n 2, 1) := by decide +kernel
theorem dX11_printPairs_23 : decode cX11_printPairs 23 = .ok (.iload_n 2, 1) := by decide +kernel
theorem dX11_printPairs_24 : decode cX11_printPairs 24 = .ok (.aload_n 0, 1) := by decide +kernel
theorem dX11_printPairs_25 : decode cX11_printPairs 25 = .ok (.getfield 71, 3) := by decide +kernel
theorem dX11_printPairs_28 : decode cX11_printPairs 28 = .ok (.getfield 108, 3) := by decide +kernel
theorem dX11_printPairs_31 : decode cX11_printPairs 31 = .ok (.if_icmp .ge 33, 3) := by decide +kernel
theorem dX11_printPairs_34 : decode cX11_printPairs 34 = .ok (.aload_n 0, 1) := by decide +kernel
theorem dX11_printPairs_35 : decode cX11_printPairs 35 = .ok (.invokevirtual 124, 3) := by decide +kernel
theorem dX11_printPairs_38 : decode cX11_printPairs 38 = .ok (.iload_n 1, 1) := by decide +kernel
theorem dX11_printPairs_39 : decode cX11_printPairs 39 = .ok (.iload_n 2, 1) := by decide +kernel
theorem dX11_printPairs_40 : decode cX11_printPairs 40 = .ok (.invokevirtual 265, 3) := by decide +kernel
theorem dX11_printPairs_43 : decode cX11_printPairs 43 = .ok (.istore_n 3, 1) := by decide +kernel
theorem dX11_printPairs_44 : decode cX11_printPairs 44 = .ok (.iload_n 2, 1) := by decide +kernel
theorem dX11_printPairs_45 : decode cX11_printPairs 45 = .ok (.iload_n 3, 1) := by decide +kernel
theorem dX11_printPairs_46 : decode cX11_printPairs 46 = .ok (.if_icmp .ge 12, 3) := by decide +kernel
theorem dX11_printPairs_49 : decode cX11_printPairs 49 = .ok (.aload_n 0, 1) := by decide +kernel
theorem dX11_printPairs_50 : decode cX11_printPairs 50 = .ok (.getfield 64, 3) := by decide +kernel
theorem dX11_printPairs_53 : decode cX11_printPairs 53 = .ok (.iload_n 2, 1) := by decide +kernel
theorem dX11_printPairs_54 : decode cX11_printPairs 54 = .ok (.iload_n 3, 1) := by decide +kernel
theorem dX11_printPairs_55 : decode cX11_printPairs 55 = .ok (.invokevirtual 357, 3) := by decide +kernel
theorem dX11_printPairs_58 : decode cX11_printPairs 58 = .ok (.iinc 2 1, 3) := by decide +kernel
theorem dX11_printPairs_61 : decode cX11_printPairs 61 = .ok (.goto (-38), 3) := by decide +kernel
theorem dX11_printPairs_64 : decode cX11_printPairs 64 = .ok (.aload_n 0, 1) := by decide +kernel
theorem dX11_printPairs_65 : decode cX11_printPairs 65 = .ok (.aload_n 0, 1) := by decide +kernel
theorem dX11_printPairs_66 : decode cX11_printPairs 66 = .ok (.getfield 64, 3) := by decide +kernel
theorem dX11_printPairs_69 : decode cX11_printPairs 69 = .ok (.getfield 354, 3) := by decide +kernel
theorem dX11_printPairs_72 : decode cX11_printPairs 72 = .ok (.invokevirtual 111, 3) := by decide +kernel
theorem dX11_printPairs_75 : decode cX11_printPairs 75 = .ok (.ireturn, 1) := by decide +kernel
theorem dX11_out_0 : decode cX11_out 0 = .ok (.iload_n 1, 1) := by decide +kernel
theorem dX11_out_1 : decode cX11_out 1 = .ok (.ifCond .ge 9, 3) := by decide +kernel
theorem dX11_out_4 : decode cX11_out 4 = .ok (.aload_n 0, 1) := by decide +kernel
theorem dX11_out_5 : decode cX11_out 5 = .ok (.iconst 1, 1) := by decide +kernel
theorem dX11_out_6 : decode cX11_out 6 = .ok (.invokevirtual 93, 3) := by decide +kernel
theorem dX11_out_9 : decode cX11_out 9 = .ok (.ireturn, 1) := by decide +kernel
theorem dX11_out_10 : decode cX11_out 10 = .ok (.iload_n 1, 1) := by decide +kernel
theorem dX11_out_11 : decode cX11_out 11 = .ok (.aload_n 0, 1) := by decide +kernel
theorem dX11_out_12 : decode cX11_out 12 = .ok (.getfield 64, 3) := by decide +kernel
theorem dX11_out_15 : decode cX11_out 15 = .ok (.getfield 354, 3) := by decide +kernel
theorem dX11_out_18 : decode cX11_out 18 = .ok (.if_icmp .lt 11, 3) := by decide +kernel
theorem dX11_out_21 : decode cX11_out 21 = .ok (.aload_n 0, 1) := by decide +kernel
theorem dX11_out_22 : decode cX11_out 22 = .ok (.iconst 5, 1) := by decide +kernel
theorem dX11_out_23 : decode cX11_out 23 = .ok (.invokevirtual 93, 3) := by decide +kernel
theorem dX11_out_26 : decode cX11_out 26 = .ok (.goto 16, 3) := by decide +kernel
theorem dX11_out_29 : decode cX11_out 29 = .ok (.aload_n 0, 1) := by decide +kernel
theorem dX11_out_30 : decode cX11_out 30 = .ok (.aload_n 0, 1) := by decide +kernel
theorem dX11_out_31 : decode cX11_out 31 = .ok (.getfield 64, 3) := by decide +kernel
theorem dX11_out_34 : decode cX11_out 34 = .ok (.getfield 360, 3) := by decide +kernel
theorem dX11_out_37 : decode cX11_out 37 = .ok (.iload_n 1, 1) := by decide +kernel
theorem dX11_out_38 : decode cX11_out 38 = .ok (.iaload, 1) := by decide +kernel
theorem dX11_out_39 : decode cX11_out 39 = .ok (.invokevirtual 111, 3) := by decide +kernel
theorem dX11_out_42 : decode cX11_out 42 = .ok (.ireturn, 1) := by decide +kernel
theorem dX11_core_0 : decode cX11_core 0 = .ok (.iload_n 2, 1) := by decide +kernel
theorem dX11_core_1 : decode cX11_core 1 = .ok (.ifCond .lt 8, 3) := by decide +kernel
theorem dX11_core_4 : decode cX11_core 4 = .ok (.iload_n 2, 1) := by decide +kernel
theorem dX11_core_5 : decode cX11_core 5 = .ok (.iconst 2, 1) := by decide +kernel
theorem dX11_core_6 : decode cX11_core 6 = .ok (.if_icmp .le 9, 3) := by decide +kernel
theorem dX11_core_9 : decode cX11_core 9 = .ok (.aload_n 0, 1) := by decide +kernel
theorem dX11_core_10 : decode cX11_core 10 = .ok (.iconst 1, 1) := by decide +kernel
theorem dX11_core_11 : decode cX11_core 11 = .ok (.invokevirtual 93, 3) := by decide +kernel
theorem dX11_core_14 : decode cX11_core 14 = .ok (.ireturn, 1) := by decide +kernel
theorem dX11_core_15 : decode cX11_core 15 = .ok (.aload_n 0, 1) := by decide +kernel
theorem dX11_core_16 : decode cX11_core 16 = .ok (.iload_n 1, 1) := by decide +kernel
theorem dX11_core_17 : decode cX11_core 17 = .ok (.invokevirtual 325, 3) := by decide +kernel
theorem dX11_core_20 : decode cX11_core 20 = .ok (.ifCond .ne 9, 3) := by decide +kernel
theorem dX11_core_23 : decode cX11_core 23 = .ok (.aload_n 0, 1) := by decide +kernel
theorem dX11_core_24 : decode cX11_core 24 = .ok (.iconst 2, 1) := by decide +kernel
theorem dX11_core_25 : decode cX11_core 25 = .ok (.invokevirtual 93, 3) := by decide +kernel
theorem dX11_core_28 : decode cX11_core 28 = .ok (.ireturn, 1) := by decide +kernel
theorem dX11_core_29 : decode cX11_core 29 = .ok (.aload_n 0, 1) := by decide +kernel
theorem dX11_core_30 : decode cX11_core 30 = .ok (.iload_n 1, 1) := by decide +kernel
theorem dX11_core_31 : decode cX11_core 31 = .ok (.invokevirtual 334, 3) := by decide +kernel
theorem dX11_core_34 : decode cX11_core 34 = .ok (.astore_n 3, 1) := by decide +kernel
theorem dX11_core_35 : decode cX11_core 35 = .ok (.aload_n 3, 1) := by decide +kernel
theorem dX11_core_36 : decode cX11_core 36 = .ok (.aload_n 0, 1) := by decide +kernel
theorem dX11_core_37 : decode cX11_core 37 = .ok (.getfield 71, 3) := by decide +kernel
theorem dX11_core_40 : decode cX11_core 40 = .ok (.invokevirtual 363, 3) := by decide +kernel
theorem dX11_core_43 : decode cX11_core 43 = .ok (.aload_n 0, 1) := by decide +kernel
theorem dX11_core_44 : decode cX11_core 44 = .ok (.getfield 71, 3) := by decide +kernel
theorem dX11_core_47 : decode cX11_core 47 = .ok (.invokevirtual 303, 3) := by decide +kernel
theorem dX11_core_50 : decode cX11_core 50 = .ok (.invokevirtual 338, 3) := by decide +kernel
theorem dX11_core_53 : decode cX11_core 53 = .ok (.istore 4, 2) := by decide +kernel
theorem dX11_core_55 : decode cX11_core 55 = .ok (.iload_n 2, 1) := by decide +kernel
theorem dX11_core_56 : decode cX11_core 56 = .ok (.ifCond .ne 13, 3) := by decide +kernel
theorem dX11_core_59 : decode cX11_core 59 = .ok (.aload_n 0, 1) := by decide +kernel
theorem dX11_core_60 : decode cX11_core 60 = .ok (.iload 4, 2) := by decide +kernel
theorem dX11_core_62 : decode cX11_core 62 = .ok (.invokestatic 366, 3) := by decide +kernel
theorem dX11_core_65 : decode cX11_core 65 = .ok (.invokevirtual 111, 3) := by decide +kernel
theorem dX11_core_68 : decode cX11_core 68 = .ok (.ireturn, 1) := by decide +kernel
theorem dX11_core_69 : decode cX11_core 69 = .ok (.aload_n 0, 1) := by decide +kernel
theorem dX11_core_70 : decode cX11_core 70 = .ok (.iload_n 2, 1) := by decide +kernel
theorem dX11_core_71 : decode cX11_core 71 = .ok (.iconst 1, 1) := by decide +kernel
theorem dX11_core_72 : decode cX11_core 72 = .ok (.if_icmp .ne 12, 3) := by decide +kernel
theorem dX11_core_75 : decode cX11_core 75 = .ok (.aload_n 3, 1) := by decide +kernel
theorem dX11_core_76 : decode cX11_core 76 = .ok (.iload 4, 2) := by decide +kernel
theorem dX11_core_78 : decode cX11_core 78 = .ok (.invokevirtual 371, 3) := by decide +kernel
theorem dX11_core_81 : decode cX11_core 81 = .ok (.goto 5, 3) := by decide +kernel
theorem dX11_core_84 : decode cX11_core 84 = .ok (.iload 4, 2) := by decide +kernel
theorem dX11_core_86 : decode cX11_core 86 = .ok (.invokevirtual 111, 3) := by decide +kernel
theorem dX11_core_89 : decode cX11_core 89 = .ok (.ireturn, 1) := by decide +kernel
theorem dX11_answer_0 : decode cX11_answer 0 = .ok (.aload_n 0, 1) := by decide +kernel
theorem dX11_answer_1 : decode cX11_answer 1 = .ok (.iconst 0, 1) := by decide +kernel
theorem dX11_answer_2 : decode cX11_answer 2 = .ok (.putfield 78, 3) := by decide +kernel
theorem dX11_answer_5 : decode cX11_answer 5 = .ok (.iload_n 1, 1) := by decide +kernel
theorem dX11_answer_6 : decode cX11_answer 6 = .ok (.ireturn, 1) := by decide +kernel
theorem dX11_refuse_0 : decode cX11_refuse 0 = .ok (.aload_n 0, 1) := by decide +kernel
theorem dX11_refuse_1 : decode cX11_refuse 1 = .ok (.iload_n 1, 1) := by decide +kernel
theorem dX11_refuse_2 : decode cX11_refuse 2 = .ok (.putfield 78, 3) := by decide +kernel
theorem dX11_refuse_5 : decode cX11_refuse 5 = .ok (.iconst (-1), 1) := by decide +kernel
theorem dX11_refuse_6 : decode cX11_refuse 6 = .ok (.ireturn, 1) := by decide +kernel
theorem dX11_isOnTape_0 : decode cX11_isOnTape 0 = .ok (.iload_n 1, 1) := by decide +kernel
theorem dX11_isOnTape_1 : decode cX11_isOnTape 1 = .ok (.ifCond .lt 18, 3) := by decide +kernel
theorem dX11_isOnTape_4 : decode cX11_isOnTape 4 = .ok (.iload_n 1, 1) := by decide +kernel
theorem dX11_isOnTape_5 : decode cX11_isOnTape 5 = .ok (.aload_n 0, 1) := by decide +kernel
theorem dX11_isOnTape_6 : decode cX11_isOnTape 6 = .ok (.getfield 10, 3) := by decide +kernel
theorem dX11_isOnTape_9 : decode cX11_isOnTape 9 = .ok (.getfield 82, 3) := by decide +kernel
theorem dX11_isOnTape_12 : decode cX11_isOnTape 12 = .ok (.if_icmp .gt 7, 3) := by decide +kernel
theorem dX11_isOnTape_15 : decode cX11_isOnTape 15 = .ok (.iconst 1, 1) := by decide +kernel
theorem dX11_isOnTape_16 : decode cX11_isOnTape 16 = .ok (.goto 4, 3) := by decide +kernel
theorem dX11_isOnTape_19 : decode cX11_isOnTape 19 = .ok (.iconst 0, 1) := by decide +kernel
theorem dX11_isOnTape_20 : decode cX11_isOnTape 20 = .ok (.ireturn, 1) := by decide +kernel
theorem dX11_forgetAll_0 : decode cX11_forgetAll 0 = .ok (.aload_n 0, 1) := by decide +kernel
theorem dX11_forgetAll_1 : decode cX11_forgetAll 1 = .ok (.getfield 33, 3) := by decide +kernel
theorem dX11_forgetAll_4 : decode cX11_forgetAll 4 = .ok (.iconst 0, 1) := by decide +kernel
theorem dX11_forgetAll_5 : decode cX11_forgetAll 5 = .ok (.putfield 374, 3) := by decide +kernel
theorem dX11_forgetAll_8 : decode cX11_forgetAll 8 = .ok (.aload_n 0, 1) := by decide +kernel
theorem dX11_forgetAll_9 : decode cX11_forgetAll 9 = .ok (.getfield 40, 3) := by decide +kernel
theorem dX11_forgetAll_12 : decode cX11_forgetAll 12 = .ok (.iconst 0, 1) := by decide +kernel
theorem dX11_forgetAll_13 : decode cX11_forgetAll 13 = .ok (.putfield 377, 3) := by decide +kernel
theorem dX11_forgetAll_16 : decode cX11_forgetAll 16 = .ok (.aload_n 0, 1) := by decide +kernel
theorem dX11_forgetAll_17 : decode cX11_forgetAll 17 = .ok (.getfield 40, 3) := by decide +kernel
theorem dX11_forgetAll_20 : decode cX11_forgetAll 20 = .ok (.iconst 0, 1) := by decide +kernel
theorem dX11_forgetAll_21 : decode cX11_forgetAll 21 = .ok (.putfield 378, 3) := by decide +kernel
theorem dX11_forgetAll_24 : decode cX11_forgetAll 24 = .ok (.aload_n 0, 1) := by decide +kernel
theorem dX11_forgetAll_25 : decode cX11_forgetAll 25 = .ok (.getfield 50, 3) := by decide +kernel
theorem dX11_forgetAll_28 : decode cX11_forgetAll 28 = .ok (.iconst 0, 1) := by decide +kernel
theorem dX11_forgetAll_29 : decode cX11_forgetAll 29 = .ok (.putfield 381, 3) := by decide +kernel
theorem dX11_forgetAll_32 : decode cX11_forgetAll 32 = .ok (.return_, 1) := by decide +kernel
theorem dX11_knownWays_0 : decode cX11_knownWays 0 = .ok (.aload_n 0, 1) := by decide +kernel
theorem dX11_knownWays_1 : decode cX11_knownWays 1 = .ok (.getfield 33, 3) := by decide +kernel
theorem dX11_knownWays_4 : decode cX11_knownWays 4 = .ok (.getfield 374, 3) := by decide +kernel
theorem dX11_knownWays_7 : decode cX11_knownWays 7 = .ok (.ifCond .ne 14, 3) := by decide +kernel
theorem dX11_knownWays_10 : decode cX11_knownWays 10 = .ok (.aload_n 0, 1) := by decide +kernel
theorem dX11_knownWays_11 : decode cX11_knownWays 11 = .ok (.getfield 33, 3) := by decide +kernel
theorem dX11_knownWays_14 : decode cX11_knownWays 14 = .ok (.aload_n 0, 1) := by decide +kernel
theorem dX11_knownWays_15 : decode cX11_knownWays 15 = .ok (.getfield 71, 3) := by decide +kernel
theorem dX11_knownWays_18 : decode cX11_knownWays 18 = .ok (.invokevirtual 382, 3) := by decide +kernel
theorem dX11_knownWays_21 : decode cX11_knownWays 21 = .ok (.aload_n 0, 1) := by decide +kernel
theorem dX11_knownWays_22 : decode cX11_knownWays 22 = .ok (.getfield 33, 3) := by decide +kernel
theorem dX11_knownWays_25 : decode cX11_knownWays 25 = .ok (.areturn, 1) := by decide +kernel
theorem dX11_pairingCount_0 : decode cX11_pairingCount 0 = .ok (.aload_n 0, 1) := by decide +kernel
theorem dX11_pairingCount_1 : decode cX11_pairingCount 1 = .ok (.invokevirtual 296, 3) := by decide +kernel
theorem dX11_pairingCount_4 : decode cX11_pairingCount 4 = .ok (.aload_n 0, 1) := by decide +kernel
theorem dX11_pairingCount_5 : decode cX11_pairingCount 5 = .ok (.getfield 71, 3) := by decide +kernel
theorem dX11_pairingCount_8 : decode cX11_pairingCount 8 = .ok (.invokevirtual 120, 3) := by decide +kernel
theorem dX11_pairingCount_11 : decode cX11_pairingCount 11 = .ok (.invokevirtual 309, 3) := by decide +kernel
theorem dX11_pairingCount_14 : decode cX11_pairingCount 14 = .ok (.ireturn, 1) := by decide +kernel
theorem dX11_knownPairings_0 : decode cX11_knownPairings 0 = .ok (.aload_n 0, 1) := by decide +kernel
theorem dX11_knownPairings_1 : decode cX11_knownPairings 1 = .ok (.getfield 40, 3) := by decide +kernel
theorem dX11_knownPairings_4 : decode cX11_knownPairings 4 = .ok (.getfield 377, 3) := by decide +kernel
theorem dX11_knownPairings_7 : decode cX11_knownPairings 7 = .ok (.ifCond .ne 25, 3) := by decide +kernel
theorem dX11_knownPairings_10 : decode cX11_knownPairings 10 = .ok (.aload_n 0, 1) := by decide +kernel
theorem dX11_knownPairings_11 : decode cX11_knownPairings 11 = .ok (.getfield 40, 3) := by decide +kernel
theorem dX11_knownPairings_14 : decode cX11_knownPairings 14 = .ok (.aload_n 0, 1) := by decide +kernel
theorem dX11_knownPairings_15 : decode cX11_knownPairings 15 = .ok (.getfield 71, 3) := by decide +kernel
theorem dX11_knownPairings_18 : decode cX11_knownPairings 18 = .ok (.aload_n 0, 1) := by decide +kernel
theorem dX11_knownPairings_19 : decode cX11_knownPairings 19 = .ok (.invokevirtual 296, 3) := by decide +kernel
theorem dX11_knownPairings_22 : decode cX11_knownPairings 22 = .ok (.aload_n 0, 1) := by decide +kernel
theorem dX11_knownPairings_23 : decode cX11_knownPairings 23 = .ok (.getfield 71, 3) := by decide +kernel
theorem dX11_knownPairings_26 : decode cX11_knownPairings 26 = .ok (.invokevirtual 120, 3) := by decide +kernel
