theorem dX1_init_0 : decode cX1_init 0 = .ok (.aload_n 0, 1) := by decide +kernel
theorem dX1_init_1 : decode cX1_init 1 = .ok (.invokespecial 3, 3) := by decide +kernel
theorem dX1_init_4 : decode cX1_init 4 = .ok (.aload_n 0, 1) := by decide +kernel
theorem dX1_init_5 : decode cX1_init 5 = .ok (.bipush 8, 2) := by decide +kernel
theorem dX1_init_7 : decode cX1_init 7 = .ok (.newarray .int, 2) := by decide +kernel
theorem dX1_init_9 : decode cX1_init 9 = .ok (.putfield 9, 3) := by decide +kernel
theorem dX1_init_12 : decode cX1_init 12 = .ok (.aload_n 0, 1) := by decide +kernel
theorem dX1_init_13 : decode cX1_init 13 = .ok (.bipush 6, 2) := by decide +kernel
theorem dX1_init_15 : decode cX1_init 15 = .ok (.newarray .int, 2) := by decide +kernel
theorem dX1_init_17 : decode cX1_init 17 = .ok (.putfield 15, 3) := by decide +kernel
theorem dX1_init_20 : decode cX1_init 20 = .ok (.aload_n 0, 1) := by decide +kernel
theorem dX1_init_21 : decode cX1_init 21 = .ok (.bipush 6, 2) := by decide +kernel
theorem dX1_init_23 : decode cX1_init 23 = .ok (.newarray .int, 2) := by decide +kernel
theorem dX1_init_25 : decode cX1_init 25 = .ok (.putfield 18, 3) := by decide +kernel
theorem dX1_init_28 : decode cX1_init 28 = .ok (.return_, 1) := by decide +kernel
theorem dX1_clear_0 : decode cX1_clear 0 = .ok (.aload_n 0, 1) := by decide +kernel
theorem dX1_clear_1 : decode cX1_clear 1 = .ok (.iload_n 1, 1) := by decide +kernel
theorem dX1_clear_2 : decode cX1_clear 2 = .ok (.putfield 21, 3) := by decide +kernel
theorem dX1_clear_5 : decode cX1_clear 5 = .ok (.aload_n 0, 1) := by decide +kernel
theorem dX1_clear_6 : decode cX1_clear 6 = .ok (.iconst 0, 1) := by decide +kernel
theorem dX1_clear_7 : decode cX1_clear 7 = .ok (.putfield 25, 3) := by decide +kernel
theorem dX1_clear_10 : decode cX1_clear 10 = .ok (.aload_n 0, 1) := by decide +kernel
theorem dX1_clear_11 : decode cX1_clear 11 = .ok (.getfield 9, 3) := by decide +kernel
theorem dX1_clear_14 : decode cX1_clear 14 = .ok (.iconst 0, 1) := by decide +kernel
theorem dX1_clear_15 : decode cX1_clear 15 = .ok (.invokestatic 28, 3) := by decide +kernel
theorem dX1_clear_18 : decode cX1_clear 18 = .ok (.return_, 1) := by decide +kernel
theorem dX1_addLine_0 : decode cX1_addLine 0 = .ok (.iload_n 1, 1) := by decide +kernel
theorem dX1_addLine_1 : decode cX1_addLine 1 = .ok (.bipush 100, 2) := by decide +kernel
theorem dX1_addLine_3 : decode cX1_addLine 3 = .ok (.idiv, 1) := by decide +kernel
theorem dX1_addLine_4 : decode cX1_addLine 4 = .ok (.istore_n 2, 1) := by decide +kernel
theorem dX1_addLine_5 : decode cX1_addLine 5 = .ok (.iload_n 1, 1) := by decide +kernel
theorem dX1_addLine_6 : decode cX1_addLine 6 = .ok (.bipush 10, 2) := by decide +kernel
theorem dX1_addLine_8 : decode cX1_addLine 8 = .ok (.idiv, 1) := by decide +kernel
theorem dX1_addLine_9 : decode cX1_addLine 9 = .ok (.bipush 10, 2) := by decide +kernel
theorem dX1_addLine_11 : decode cX1_addLine 11 = .ok (.irem, 1) := by decide +kernel
theorem dX1_addLine_12 : decode cX1_addLine 12 = .ok (.istore_n 3, 1) := by decide +kernel
theorem dX1_addLine_13 : decode cX1_addLine 13 = .ok (.iload_n 2, 1) := by decide +kernel
theorem dX1_addLine_14 : decode cX1_addLine 14 = .ok (.bipush 8, 2) := by decide +kernel
theorem dX1_addLine_16 : decode cX1_addLine 16 = .ok (.if_icmp .ge 72, 3) := by decide +kernel
theorem dX1_addLine_19 : decode cX1_addLine 19 = .ok (.iload_n 3, 1) := by decide +kernel
theorem dX1_addLine_20 : decode cX1_addLine 20 = .ok (.bipush 8, 2) := by decide +kernel
theorem dX1_addLine_22 : decode cX1_addLine 22 = .ok (.if_icmp .ge 66, 3) := by decide +kernel
theorem dX1_addLine_25 : decode cX1_addLine 25 = .ok (.aload_n 0, 1) := by decide +kernel
theorem dX1_addLine_26 : decode cX1_addLine 26 = .ok (.getfield 25, 3) := by decide +kernel
theorem dX1_addLine_29 : decode cX1_addLine 29 = .ok (.bipush 6, 2) := by decide +kernel
theorem dX1_addLine_31 : decode cX1_addLine 31 = .ok (.if_icmp .ge 57, 3) := by decide +kernel
theorem dX1_addLine_34 : decode cX1_addLine 34 = .ok (.aload_n 0, 1) := by decide +kernel
theorem dX1_addLine_35 : decode cX1_addLine 35 = .ok (.getfield 15, 3) := by decide +kernel
theorem dX1_addLine_38 : decode cX1_addLine 38 = .ok (.aload_n 0, 1) := by decide +kernel
theorem dX1_addLine_39 : decode cX1_addLine 39 = .ok (.getfield 25, 3) := by decide +kernel
theorem dX1_addLine_42 : decode cX1_addLine 42 = .ok (.iload_n 2, 1) := by decide +kernel
theorem dX1_addLine_43 : decode cX1_addLine 43 = .ok (.iastore, 1) := by decide +kernel
theorem dX1_addLine_44 : decode cX1_addLine 44 = .ok (.aload_n 0, 1) := by decide +kernel
theorem dX1_addLine_45 : decode cX1_addLine 45 = .ok (.getfield 18, 3) := by decide +kernel
theorem dX1_addLine_48 : decode cX1_addLine 48 = .ok (.aload_n 0, 1) := by decide +kernel
theorem dX1_addLine_49 : decode cX1_addLine 49 = .ok (.getfield 25, 3) := by decide +kernel
theorem dX1_addLine_52 : decode cX1_addLine 52 = .ok (.iload_n 3, 1) := by decide +kernel
theorem dX1_addLine_53 : decode cX1_addLine 53 = .ok (.iastore, 1) := by decide +kernel
theorem dX1_addLine_54 : decode cX1_addLine 54 = .ok (.aload_n 0, 1) := by decide +kernel
theorem dX1_addLine_55 : decode cX1_addLine 55 = .ok (.dup, 1) := by decide +kernel
theorem dX1_addLine_56 : decode cX1_addLine 56 = .ok (.getfield 25, 3) := by decide +kernel
theorem dX1_addLine_59 : decode cX1_addLine 59 = .ok (.iconst 1, 1) := by decide +kernel
theorem dX1_addLine_60 : decode cX1_addLine 60 = .ok (.iadd, 1) := by decide +kernel
theorem dX1_addLine_61 : decode cX1_addLine 61 = .ok (.putfield 25, 3) := by decide +kernel
theorem dX1_addLine_64 : decode cX1_addLine 64 = .ok (.aload_n 0, 1) := by decide +kernel
theorem dX1_addLine_65 : decode cX1_addLine 65 = .ok (.getfield 9, 3) := by decide +kernel
theorem dX1_addLine_68 : decode cX1_addLine 68 = .ok (.iload_n 2, 1) := by decide +kernel
theorem dX1_addLine_69 : decode cX1_addLine 69 = .ok (.dup2, 1) := by decide +kernel
theorem dX1_addLine_70 : decode cX1_addLine 70 = .ok (.iaload, 1) := by decide +kernel
theorem dX1_addLine_71 : decode cX1_addLine 71 = .ok (.iconst 1, 1) := by decide +kernel
theorem dX1_addLine_72 : decode cX1_addLine 72 = .ok (.iload_n 3, 1) := by decide +kernel
theorem dX1_addLine_73 : decode cX1_addLine 73 = .ok (.ishl, 1) := by decide +kernel
theorem dX1_addLine_74 : decode cX1_addLine 74 = .ok (.ior, 1) := by decide +kernel
theorem dX1_addLine_75 : decode cX1_addLine 75 = .ok (.iastore, 1) := by decide +kernel
theorem dX1_addLine_76 : decode cX1_addLine 76 = .ok (.aload_n 0, 1) := by decide +kernel
theorem dX1_addLine_77 : decode cX1_addLine 77 = .ok (.getfield 9, 3) := by decide +kernel
theorem dX1_addLine_80 : decode cX1_addLine 80 = .ok (.iload_n 3, 1) := by decide +kernel
theorem dX1_addLine_81 : decode cX1_addLine 81 = .ok (.dup2, 1) := by decide +kernel
theorem dX1_addLine_82 : decode cX1_addLine 82 = .ok (.iaload, 1) := by decide +kernel
theorem dX1_addLine_83 : decode cX1_addLine 83 = .ok (.iconst 1, 1) := by decide +kernel
theorem dX1_addLine_84 : decode cX1_addLine 84 = .ok (.iload_n 2, 1) := by decide +kernel
theorem dX1_addLine_85 : decode cX1_addLine 85 = .ok (.ishl, 1) := by decide +kernel
theorem dX1_addLine_86 : decode cX1_addLine 86 = .ok (.ior, 1) := by decide +kernel
theorem dX1_addLine_87 : decode cX1_addLine 87 = .ok (.iastore, 1) := by decide +kernel
theorem dX1_addLine_88 : decode cX1_addLine 88 = .ok (.return_, 1) := by decide +kernel
theorem dX1_readName_0 : decode cX1_readName 0 = .ok (.aload_n 0, 1) := by decide +kernel
theorem dX1_readName_1 : decode cX1_readName 1 = .ok (.iload 4, 2) := by decide +kernel
theorem dX1_readName_3 : decode cX1_readName 3 = .ok (.invokevirtual 34, 3) := by decide +kernel
theorem dX1_readName_6 : decode cX1_readName 6 = .ok (.iload_n 3, 1) := by decide +kernel
theorem dX1_readName_7 : decode cX1_readName 7 = .ok (.iconst 1, 1) := by decide +kernel
theorem dX1_readName_8 : decode cX1_readName 8 = .ok (.isub, 1) := by decide +kernel
theorem dX1_readName_9 : decode cX1_readName 9 = .ok (.istore 5, 2) := by decide +kernel
theorem dX1_readName_11 : decode cX1_readName 11 = .ok (.iload 5, 2) := by decide +kernel
theorem dX1_readName_13 : decode cX1_readName 13 = .ok (.ifCond .lt 25, 3) := by decide +kernel
theorem dX1_readName_16 : decode cX1_readName 16 = .ok (.aload_n 0, 1) := by decide +kernel
theorem dX1_readName_17 : decode cX1_readName 17 = .ok (.lload_n 1, 1) := by decide +kernel
theorem dX1_readName_18 : decode cX1_readName 18 = .ok (.bipush 10, 2) := by decide +kernel
theorem dX1_readName_20 : decode cX1_readName 20 = .ok (.iload 5, 2) := by decide +kernel
theorem dX1_readName_22 : decode cX1_readName 22 = .ok (.imul, 1) := by decide +kernel
theorem dX1_readName_23 : decode cX1_readName 23 = .ok (.lushr, 1) := by decide +kernel
theorem dX1_readName_24 : decode cX1_readName 24 = .ok (.l2i, 1) := by decide +kernel
theorem dX1_readName_25 : decode cX1_readName 25 = .ok (.sipush 1023, 3) := by decide +kernel
theorem dX1_readName_28 : decode cX1_readName 28 = .ok (.iand, 1) := by decide +kernel
theorem dX1_readName_29 : decode cX1_readName 29 = .ok (.invokevirtual 38, 3) := by decide +kernel
theorem dX1_readName_32 : decode cX1_readName 32 = .ok (.iinc 5 (-1), 3) := by decide +kernel
theorem dX1_readName_35 : decode cX1_readName 35 = .ok (.goto (-24), 3) := by decide +kernel
theorem dX1_readName_38 : decode cX1_readName 38 = .ok (.return_, 1) := by decide +kernel
theorem dX1_nextTo_0 : decode cX1_nextTo 0 = .ok (.iconst 0, 1) := by decide +kernel
theorem dX1_nextTo_1 : decode cX1_nextTo 1 = .ok (.istore_n 2, 1) := by decide +kernel
theorem dX1_nextTo_2 : decode cX1_nextTo 2 = .ok (.iconst 0, 1) := by decide +kernel
theorem dX1_nextTo_3 : decode cX1_nextTo 3 = .ok (.istore_n 3, 1) := by decide +kernel
theorem dX1_nextTo_4 : decode cX1_nextTo 4 = .ok (.iload_n 3, 1) := by decide +kernel
theorem dX1_nextTo_5 : decode cX1_nextTo 5 = .ok (.bipush 8, 2) := by decide +kernel
theorem dX1_nextTo_7 : decode cX1_nextTo 7 = .ok (.if_icmp .ge 26, 3) := by decide +kernel
theorem dX1_nextTo_10 : decode cX1_nextTo 10 = .ok (.iload_n 1, 1) := by decide +kernel
theorem dX1_nextTo_11 : decode cX1_nextTo 11 = .ok (.iload_n 3, 1) := by decide +kernel
theorem dX1_nextTo_12 : decode cX1_nextTo 12 = .ok (.ishr, 1) := by decide +kernel
theorem dX1_nextTo_13 : decode cX1_nextTo 13 = .ok (.iconst 1, 1) := by decide +kernel
theorem dX1_nextTo_14 : decode cX1_nextTo 14 = .ok (.iand, 1) := by decide +kernel
theorem dX1_nextTo_15 : decode cX1_nextTo 15 = .ok (.ifCond .eq 12, 3) := by decide +kernel
theorem dX1_nextTo_18 : decode cX1_nextTo 18 = .ok (.iload_n 2, 1) := by decide +kernel
theorem dX1_nextTo_19 : decode cX1_nextTo 19 = .ok (.aload_n 0, 1) := by decide +kernel
theorem dX1_nextTo_20 : decode cX1_nextTo 20 = .ok (.getfield 9, 3) := by decide +kernel
theorem dX1_nextTo_23 : decode cX1_nextTo 23 = .ok (.iload_n 3, 1) := by decide +kernel
theorem dX1_nextTo_24 : decode cX1_nextTo 24 = .ok (.iaload, 1) := by decide +kernel
theorem dX1_nextTo_25 : decode cX1_nextTo 25 = .ok (.ior, 1) := by decide +kernel
theorem dX1_nextTo_26 : decode cX1_nextTo 26 = .ok (.istore_n 2, 1) := by decide +kernel
theorem dX1_nextTo_27 : decode cX1_nextTo 27 = .ok (.iinc 3 1, 3) := by decide +kernel
theorem dX1_nextTo_30 : decode cX1_nextTo 30 = .ok (.goto (-26), 3) := by decide +kernel
theorem dX1_nextTo_33 : decode cX1_nextTo 33 = .ok (.iload_n 2, 1) := by decide +kernel
theorem dX1_nextTo_34 : decode cX1_nextTo 34 = .ok (.ireturn, 1) := by decide +kernel
theorem dX1_reach_0 : decode cX1_reach 0 = .ok (.iload_n 1, 1) := by decide +kernel
theorem dX1_reach_1 : decode cX1_reach 1 = .ok (.iload_n 2, 1) := by decide +kernel
theorem dX1_reach_2 : decode cX1_reach 2 = .ok (.iand, 1) := by decide +kernel
theorem dX1_reach_3 : decode cX1_reach 3 = .ok (.istore_n 3, 1) := by decide +kernel
theorem dX1_reach_4 : decode cX1_reach 4 = .ok (.iload_n 3, 1) := by decide +kernel
theorem dX1_reach_5 : decode cX1_reach 5 = .ok (.istore 4, 2) := by decide +kernel
theorem dX1_reach_7 : decode cX1_reach 7 = .ok (.iconst 0, 1) := by decide +kernel
theorem dX1_reach_8 : decode cX1_reach 8 = .ok (.istore 5, 2) := by decide +kernel
theorem dX1_reach_10 : decode cX1_reach 10 = .ok (.iload 5, 2) := by decide +kernel
theorem dX1_reach_12 : decode cX1_reach 12 = .ok (.bipush 8, 2) := by decide +kernel
theorem dX1_reach_14 : decode cX1_reach 14 = .ok (.if_icmp .ge 33, 3) := by decide +kernel
theorem dX1_reach_17 : decode cX1_reach 17 = .ok (.iload 4, 2) := by decide +kernel
theorem dX1_reach_19 : decode cX1_reach 19 = .ok (.ifCond .eq 28, 3) := by decide +kernel
theorem dX1_reach_22 : decode cX1_reach 22 = .ok (.aload_n 0, 1) := by decide +kernel
theorem dX1_reach_23 : decode cX1_reach 23 = .ok (.iload 4, 2) := by decide +kernel
theorem dX1_reach_25 : decode cX1_reach 25 = .ok (.invokevirtual 41, 3) := by decide +kernel
theorem dX1_reach_28 : decode cX1_reach 28 = .ok (.iload_n 2, 1) := by decide +kernel
theorem dX1_reach_29 : decode cX1_reach 29 = .ok (.iand, 1) := by decide +kernel
theorem dX1_reach_30 : decode cX1_reach 30 = .ok (.iload_n 3, 1) := by decide +kernel
theorem dX1_reach_31 : decode cX1_reach 31 = .ok (.iconst (-1), 1) := by decide +kernel
theorem dX1_reach_32 : decode cX1_reach 32 = .ok (.ixor, 1) := by decide +kernel
theorem dX1_reach_33 : decode cX1_reach 33 = .ok (.iand, 1) := by decide +kernel
theorem dX1_reach_34 : decode cX1_reach 34 = .ok (.istore 4, 2) := by decide +kernel
theorem dX1_reach_36 : decode cX1_reach 36 = .ok (.iload_n 3, 1) := by decide +kernel
theorem dX1_reach_37 : decode cX1_reach 37 = .ok (.iload 4, 2) := by decide +kernel
theorem dX1_reach_39 : decode cX1_reach 39 = .ok (.ior, 1) := by decide +kernel
theorem dX1_reach_40 : decode cX1_reach 40 = .ok (.istore_n 3, 1) := by decide +kernel
theorem dX1_reach_41 : decode cX1_reach 41 = .ok (.iinc 5 1, 3) := by decide +kernel
theorem dX1_reach_44 : decode cX1_reach 44 = .ok (.goto (-34), 3) := by decide +kernel
theorem dX1_reach_47 : decode cX1_reach 47 = .ok (.iload_n 3, 1) := by decide +kernel
theorem dX1_reach_48 : decode cX1_reach 48 = .ok (.ireturn, 1) := by decide +kernel
theorem dX1_partCount_0 : decode cX1_partCount 0 = .ok (.aload_n 0, 1) := by decide +kernel
theorem dX1_partCount_1 : decode cX1_partCount 1 = .ok (.getfield 21, 3) := by decide +kernel
theorem dX1_partCount_4 : decode cX1_partCount 4 = .ok (.istore_n 1, 1) := by decide +kernel
theorem dX1_partCount_5 : decode cX1_partCount 5 = .ok (.iconst 0, 1) := by decide +kernel
theorem dX1_partCount_6 : decode cX1_partCount 6 = .ok (.istore_n 2, 1) := by decide +kernel
theorem dX1_partCount_7 : decode cX1_partCount 7 = .ok (.iconst 0, 1) := by decide +kernel
theorem dX1_partCount_8 : decode cX1_partCount 8 = .ok (.istore_n 3, 1) := by decide +kernel
theorem dX1_partCount_9 : decode cX1_partCount 9 = .ok (.iload_n 3, 1) := by decide +kernel
theorem dX1_partCount_10 : decode cX1_partCount 10 = .ok (.bipush 8, 2) := by decide +kernel
theorem dX1_partCount_12 : decode cX1_partCount 12 = .ok (.if_icmp .ge 33, 3) := by decide +kernel
theorem dX1_partCount_15 : decode cX1_partCount 15 = .ok (.iload_n 1, 1) := by decide +kernel
theorem dX1_partCount_16 : decode cX1_partCount 16 = .ok (.ifCond .eq 29, 3) := by decide +kernel
theorem dX1_partCount_19 : decode cX1_partCount 19 = .ok (.iload_n 1, 1) := by decide +kernel
theorem dX1_partCount_20 : decode cX1_partCount 20 = .ok (.aload_n 0, 1) := by decide +kernel
theorem dX1_partCount_21 : decode cX1_partCount 21 = .ok (.iload_n 1, 1) := by decide +kernel
theorem dX1_partCount_22 : decode cX1_partCount 22 = .ok (.iload_n 1, 1) := by decide +kernel
theorem dX1_partCount_23 : decode cX1_partCount 23 = .ok (.ineg, 1) := by decide +kernel
theorem dX1_partCount_24 : decode cX1_partCount 24 = .ok (.iand, 1) := by decide +kernel
theorem dX1_partCount_25 : decode cX1_partCount 25 = .ok (.aload_n 0, 1) := by decide +kernel
theorem dX1_partCount_26 : decode cX1_partCount 26 = .ok (.getfield 21, 3) := by decide +kernel
theorem dX1_partCount_29 : decode cX1_partCount 29 = .ok (.invokevirtual 45, 3) := by decide +kernel
theorem dX1_partCount_32 : decode cX1_partCount 32 = .ok (.iconst (-1), 1) := by decide +kernel
theorem dX1_partCount_33 : decode cX1_partCount 33 = .ok (.ixor, 1) := by decide +kernel
theorem dX1_partCount_34 : decode cX1_partCount 34 = .ok (.iand, 1) := by decide +kernel
theorem dX1_partCount_35 : decode cX1_partCount 35 = .ok (.istore_n 1, 1) := by decide +kernel
theorem dX1_partCount_36 : decode cX1_partCount 36 = .ok (.iinc 2 1, 3) := by decide +kernel
theorem dX1_partCount_39 : decode cX1_partCount 39 = .ok (.iinc 3 1, 3) := by decide +kernel
theorem dX1_partCount_42 : decode cX1_partCount 42 = .ok (.goto (-33), 3) := by decide +kernel
theorem dX1_partCount_45 : decode cX1_partCount 45 = .ok (.iload_n 2, 1) := by decide +kernel
theorem dX1_partCount_46 : decode cX1_partCount 46 = .ok (.ireturn, 1) := by decide +kernel
theorem dX1_distance_0 : decode cX1_distance 0 = .ok (.iconst 1, 1) := by decide +kernel
theorem dX1_distance_1 : decode cX1_distance 1 = .ok (.iload_n 1, 1) := by decide +kernel
theorem dX1_distance_2 : decode cX1_distance 2 = .ok (.ishl, 1) := by decide +kernel
theorem dX1_distance_3 : decode cX1_distance 3 = .ok (.istore_n 3, 1) := by decide +kernel
theorem dX1_distance_4 : decode cX1_distance 4 = .ok (.iconst 0, 1) := by decide +kernel
theorem dX1_distance_5 : decode cX1_distance 5 = .ok (.istore 4, 2) := by decide +kernel
theorem dX1_distance_7 : decode cX1_distance 7 = .ok (.iload 4, 2) := by decide +kernel
theorem dX1_distance_9 : decode cX1_distance 9 = .ok (.bipush 8, 2) := by decide +kernel
theorem dX1_distance_11 : decode cX1_distance 11 = .ok (.if_icmp .ge 33, 3) := by decide +kernel
theorem dX1_distance_14 : decode cX1_distance 14 = .ok (.iload_n 3, 1) := by decide +kernel
theorem dX1_distance_15 : decode cX1_distance 15 = .ok (.iload_n 2, 1) := by decide +kernel
theorem dX1_distance_16 : decode cX1_distance 16 = .ok (.ishr, 1) := by decide +kernel
theorem dX1_distance_17 : decode cX1_distance 17 = .ok (.iconst 1, 1) := by decide +kernel
theorem dX1_distance_18 : decode cX1_distance 18 = .ok (.iand, 1) := by decide +kernel
theorem dX1_distance_19 : decode cX1_distance 19 = .ok (.ifCond .eq 6, 3) := by decide +kernel
theorem dX1_distance_22 : decode cX1_distance 22 = .ok (.iload 4, 2) := by decide +kernel
theorem dX1_distance_24 : decode cX1_distance 24 = .ok (.ireturn, 1) := by decide +kernel
theorem dX1_distance_25 : decode cX1_distance 25 = .ok (.iload_n 3, 1) := by decide +kernel
theorem dX1_distance_26 : decode cX1_distance 26 = .ok (.aload_n 0, 1) := by decide +kernel
theorem dX1_distance_27 : decode cX1_distance 27 = .ok (.iload_n 3, 1) := by decide +kernel
theorem dX1_distance_28 : decode cX1_distance 28 = .ok (.invokevirtual 41, 3) := by decide +kernel
theorem dX1_distance_31 : decode cX1_distance 31 = .ok (.aload_n 0, 1) := by decide +kernel
theorem dX1_distance_32 : decode cX1_distance 32 = .ok (.getfield 21, 3) := by decide +kernel
theorem dX1_distance_35 : decode cX1_distance 35 = .ok (.iand, 1) := by decide +kernel
theorem dX1_distance_36 : decode cX1_distance 36 = .ok (.ior, 1) := by decide +kernel
theorem dX1_distance_37 : decode cX1_distance 37 = .ok (.istore_n 3, 1) := by decide +kernel
theorem dX1_distance_38 : decode cX1_distance 38 = .ok (.iinc 4 1, 3) := by decide +kernel
theorem dX1_distance_41 : decode cX1_distance 41 = .ok (.goto (-34), 3) := by decide +kernel
theorem dX1_distance_44 : decode cX1_distance 44 = .ok (.iconst (-1), 1) := by decide +kernel
theorem dX1_distance_45 : decode cX1_distance 45 = .ok (.ireturn, 1) := by decide +kernel
theorem dX1_rings_0 : decode cX1_rings 0 = .ok (.iconst 0, 1) := by decide +kernel
theorem dX1_rings_1 : decode cX1_rings 1 = .ok (.istore_n 1, 1) := by decide +kernel
theorem dX1_rings_2 : decode cX1_rings 2 = .ok (.iconst 0, 1) := by decide +kernel
theorem dX1_rings_3 : decode cX1_rings 3 = .ok (.istore_n 2, 1) := by decide +kernel
theorem dX1_rings_4 : decode cX1_rings 4 = .ok (.iload_n 2, 1) := by decide +kernel
theorem dX1_rings_5 : decode cX1_rings 5 = .ok (.aload_n 0, 1) := by decide +kernel
theorem dX1_rings_6 : decode cX1_rings 6 = .ok (.getfield 25, 3) := by decide +kernel
theorem dX1_rings_9 : decode cX1_rings 9 = .ok (.if_icmp .ge 32, 3) := by decide +kernel
theorem dX1_rings_12 : decode cX1_rings 12 = .ok (.iload_n 1, 1) := by decide +kernel
theorem dX1_rings_13 : decode cX1_rings 13 = .ok (.aload_n 0, 1) := by decide +kernel
theorem dX1_rings_14 : decode cX1_rings 14 = .ok (.getfield 15, 3) := by decide +kernel
theorem dX1_rings_17 : decode cX1_rings 17 = .ok (.iload_n 2, 1) := by decide +kernel
theorem dX1_rings_18 : decode cX1_rings 18 = .ok (.iaload, 1) := by decide +kernel
theorem dX1_rings_19 : decode cX1_rings 19 = .ok (.aload_n 0, 1) := by decide +kernel
theorem dX1_rings_20 : decode cX1_rings 20 = .ok (.getfield 18, 3) := by decide +kernel
theorem dX1_rings_23 : decode cX1_rings 23 = .ok (.iload_n 2, 1) := by decide +kernel
theorem dX1_rings_24 : decode cX1_rings 24 = .ok (.iaload, 1) := by decide +kernel
theorem dX1_rings_25 : decode cX1_rings 25 = .ok (.if_icmp .ne 7, 3) := by decide +kernel
theorem dX1_rings_28 : decode cX1_rings 28 = .ok (.iconst 1, 1) := by decide +kernel
theorem dX1_rings_29 : decode cX1_rings 29 = .ok (.goto 4, 3) := by decide +kernel
theorem dX1_rings_32 : decode cX1_rings 32 = .ok (.iconst 0, 1) := by decide +kernel
theorem dX1_rings_33 : decode cX1_rings 33 = .ok (.iadd, 1) := by decide +kernel
theorem dX1_rings_34 : decode cX1_rings 34 = .ok (.istore_n 1, 1) := by decide +kernel
theorem dX1_rings_35 : decode cX1_rings 35 = .ok (.iinc 2 1, 3) := by decide +kernel
theorem dX1_rings_38 : decode cX1_rings 38 = .ok (.goto (-34), 3) := by decide +kernel
theorem dX1_rings_41 : decode cX1_rings 41 = .ok (.iload_n 1, 1) := by decide +kernel
theorem dX1_rings_42 : decode cX1_rings 42 = .ok (.ireturn, 1) := by decide +kernel
theorem dX1_bridges_0 : decode cX1_bridges 0 = .ok (.iconst 0, 1) := by decide +kernel
theorem dX1_bridges_1 : decode cX1_bridges 1 = .ok (.istore_n 1, 1) := by decide +kernel
theorem dX1_bridges_2 : decode cX1_bridges 2 = .ok (.iconst 0, 1) := by decide +kernel
theorem dX1_bridges_3 : decode cX1_bridges 3 = .ok (.istore_n 2, 1) := by decide +kernel
theorem dX1_bridges_4 : decode cX1_bridges 4 = .ok (.iload_n 2, 1) := by decide +kernel
theorem dX1_bridges_5 : decode cX1_bridges 5 = .ok (.aload_n 0, 1) := by decide +kernel
theorem dX1_bridges_6 : decode cX1_bridges 6 = .ok (.getfield 25, 3) := by decide +kernel
theorem dX1_bridges_9 : decode cX1_bridges 9 = .ok (.if_icmp .ge 170, 3) := by decide +kernel
theorem dX1_bridges_12 : decode cX1_bridges 12 = .ok (.aload_n 0, 1) := by decide +kernel
theorem dX1_bridges_13 : decode cX1_bridges 13 = .ok (.getfield 15, 3) := by decide +kernel
theorem dX1_bridges_16 : decode cX1_bridges 16 = .ok (.iload_n 2, 1) := by decide +kernel
theorem dX1_bridges_17 : decode cX1_bridges 17 = .ok (.iaload, 1) := by decide +kernel
theorem dX1_bridges_18 : decode cX1_bridges 18 = .ok (.aload_n 0, 1) := by decide +kernel
theorem dX1_bridges_19 : decode cX1_bridges 19 = .ok (.getfield 18, 3) := by decide +kernel
theorem dX1_bridges_22 : decode cX1_bridges 22 = .ok (.iload_n 2, 1) := by decide +kernel
theorem dX1_bridges_23 : decode cX1_bridges 23 = .ok (.iaload, 1) := by decide +kernel
theorem dX1_bridges_24 : decode cX1_bridges 24 = .ok (.if_icmp .eq 149, 3) := by decide +kernel
theorem dX1_bridges_27 : decode cX1_bridges 27 = .ok (.aload_n 0, 1) := by decide +kernel
theorem dX1_bridges_28 : decode cX1_bridges 28 = .ok (.iload_n 2, 1) := by decide +kernel
theorem dX1_bridges_29 : decode cX1_bridges 29 = .ok (.invokevirtual 49, 3) := by decide +kernel
theorem dX1_bridges_32 : decode cX1_bridges 32 = .ok (.ifCond .ne 141, 3) := by decide +kernel
theorem dX1_bridges_35 : decode cX1_bridges 35 = .ok (.aload_n 0, 1) := by decide +kernel
theorem dX1_bridges_36 : decode cX1_bridges 36 = .ok (.getfield 9, 3) := by decide +kernel
theorem dX1_bridges_39 : decode cX1_bridges 39 = .ok (.aload_n 0, 1) := by decide +kernel
theorem dX1_bridges_40 : decode cX1_bridges 40 = .ok (.getfield 15, 3) := by decide +kernel
theorem dX1_bridges_43 : decode cX1_bridges 43 = .ok (.iload_n 2, 1) := by decide +kernel
theorem dX1_bridges_44 : decode cX1_bridges 44 = .ok (.iaload, 1) := by decide +kernel
theorem dX1_bridges_45 : decode cX1_bridges 45 = .ok (.dup2, 1) := by decide +kernel
theorem dX1_bridges_46 : decode cX1_bridges 46 = .ok (.iaload, 1) := by decide +kernel
theorem dX1_bridges_47 : decode cX1_bridges 47 = .ok (.iconst 1, 1) := by decide +kernel
theorem dX1_bridges_48 : decode cX1_bridges 48 = .ok (.aload_n 0, 1) := by decide +kernel
theorem dX1_bridges_49 : decode cX1_bridges 49 = .ok (.getfield 18, 3) := by decide +kernel
theorem dX1_bridges_52 : decode cX1_bridges 52 = .ok (.iload_n 2, 1) := by decide +kernel
theorem dX1_bridges_53 : decode cX1_bridges 53 = .ok (.iaload, 1) := by decide +kernel
theorem dX1_bridges_54 : decode cX1_bridges 54 = .ok (.ishl, 1) := by decide +kernel
theorem dX1_bridges_55 : decode cX1_bridges 55 = .ok (.iconst (-1), 1) := by decide +kernel
theorem dX1_bridges_56 : decode cX1_bridges 56 = .ok (.ixor, 1) := by decide +kernel
theorem dX1_bridges_57 : decode cX1_bridges 57 = .ok (.iand, 1) := by decide +kernel
theorem dX1_bridges_58 : decode cX1_bridges 58 = .ok (.iastore, 1) := by decide +kernel
theorem dX1_bridges_59 : decode cX1_bridges 59 = .ok (.aload_n 0, 1) := by decide +kernel
theorem dX1_bridges_60 : decode cX1_bridges 60 = .ok (.getfield 9, 3) := by decide +kernel
theorem dX1_bridges_63 : decode cX1_bridges 63 = .ok (.aload_n 0, 1) := by decide +kernel
theorem dX1_bridges_64 : decode cX1_bridges 64 = .ok (.getfield 18, 3) := by decide +kernel
theorem dX1_bridges_67 : decode cX1_bridges 67 = .ok (.iload_n 2, 1) := by decide +kernel
theorem dX1_bridges_68 : decode cX1_bridges 68 = .ok (.iaload, 1) := by decide +kernel
theorem dX1_bridges_69 : decode cX1_bridges 69 = .ok (.dup2, 1) := by decide +kernel
theorem dX1_bridges_70 : decode cX1_bridges 70 = .ok (.iaload, 1) := by decide +kernel
theorem dX1_bridges_71 : decode cX1_bridges 71 = .ok (.iconst 1, 1) := by decide +kernel
theorem dX1_bridges_72 : decode cX1_bridges 72 = .ok (.aload_n 0, 1) := by decide +kernel
theorem dX1_bridges_73 : decode cX1_bridges 73 = .ok (.getfield 15, 3) := by decide +kernel
theorem dX1_bridges_76 : decode cX1_bridges 76 = .ok (.iload_n 2, 1) := by decide +kernel
theorem dX1_bridges_77 : decode cX1_bridges 77 = .ok (.iaload, 1) := by decide +kernel
theorem dX1_bridges_78 : decode cX1_bridges 78 = .ok (.ishl, 1) := by decide +kernel
theorem dX1_bridges_79 : decode cX1_bridges 79 = .ok (.iconst (-1), 1) := by decide +kernel
theorem dX1_bridges_80 : decode cX1_bridges 80 = .ok (.ixor, 1) := by decide +kernel
theorem dX1_bridges_81 : decode cX1_bridges 81 = .ok (.iand, 1) := by decide +kernel
theorem dX1_bridges_82 : decode cX1_bridges 82 = .ok (.iastore, 1) := by decide +kernel
theorem dX1_bridges_83 : decode cX1_bridges 83 = .ok (.aload_n 0, 1) := by decide +kernel
theorem dX1_bridges_84 : decode cX1_bridges 84 = .ok (.iconst 1, 1) := by decide +kernel
theorem dX1_bridges_85 : decode cX1_bridges 85 = .ok (.aload_n 0, 1) := by decide +kernel
theorem dX1_bridges_86 : decode cX1_bridges 86 = .ok (.getfield 15, 3) := by decide +kernel
theorem dX1_bridges_89 : decode cX1_bridges 89 = .ok (.iload_n 2, 1) := by decide +kernel
theorem dX1_bridges_90 : decode cX1_bridges 90 = .ok (.iaload, 1) := by decide +kernel
theorem dX1_bridges_91 : decode cX1_bridges 91 = .ok (.ishl, 1) := by decide +kernel
theorem dX1_bridges_92 : decode cX1_bridges 92 = .ok (.aload_n 0, 1) := by decide +kernel
theorem dX1_bridges_93 : decode cX1_bridges 93 = .ok (.getfield 21, 3) := by decide +kernel
theorem dX1_bridges_96 : decode cX1_bridges 96 = .ok (.invokevirtual 45, 3) := by decide +kernel
theorem dX1_bridges_99 : decode cX1_bridges 99 = .ok (.aload_n 0, 1) := by decide +kernel
theorem dX1_bridges_100 : decode cX1_bridges 100 = .ok (.getfield 18, 3) := by decide +kernel
theorem dX1_bridges_103 : decode cX1_bridges 103 = .ok (.iload_n 2, 1) := by decide +kernel
theorem dX1_bridges_104 : decode cX1_bridges 104 = .ok (.iaload, 1) := by decide +kernel
theorem dX1_bridges_105 : decode cX1_bridges 105 = .ok (.ishr, 1) := by decide +kernel
theorem dX1_bridges_106 : decode cX1_bridges 106 = .ok (.iconst 1, 1) := by decide +kernel
theorem dX1_bridges_107 : decode cX1_bridges 107 = .ok (.iand, 1) := by decide +kernel
theorem dX1_bridges_108 : decode cX1_bridges 108 = .ok (.ifCond .ne 7, 3) := by decide +kernel
theorem dX1_bridges_111 : decode cX1_bridges 111 = .ok (.iconst 1, 1) := by decide +kernel
theorem dX1_bridges_112 : decode cX1_bridges 112 = .ok (.goto 4, 3) := by decide +kernel
theorem dX1_bridges_115 : decode cX1_bridges 115 = .ok (.iconst 0, 1) := by decide +kernel
theorem dX1_bridges_116 : decode cX1_bridges 116 = .ok (.istore_n 3, 1) := by decide +kernel
theorem dX1_bridges_117 : decode cX1_bridges 117 = .ok (.aload_n 0, 1) := by decide +kernel
theorem dX1_bridges_118 : decode cX1_bridges 118 = .ok (.getfield 9, 3) := by decide +kernel
theorem dX1_bridges_121 : decode cX1_bridges 121 = .ok (.aload_n 0, 1) := by decide +kernel
theorem dX1_bridges_122 : decode cX1_bridges 122 = .ok (.getfield 15, 3) := by decide +kernel
theorem dX1_bridges_125 : decode cX1_bridges 125 = .ok (.iload_n 2, 1) := by decide +kernel
theorem dX1_bridges_126 : decode cX1_bridges 126 = .ok (.iaload, 1) := by decide +kernel
theorem dX1_bridges_127 : decode cX1_bridges 127 = .ok (.dup2, 1) := by decide +kernel
theorem dX1_bridges_128 : decode cX1_bridges 128 = .ok (.iaload, 1) := by decide +kernel
theorem dX1_bridges_129 : decode cX1_bridges 129 = .ok (.iconst 1, 1) := by decide +kernel
theorem dX1_bridges_130 : decode cX1_bridges 130 = .ok (.aload_n 0, 1) := by decide +kernel
theorem dX1_bridges_131 : decode cX1_bridges 131 = .ok (.getfield 18, 3) := by decide +kernel
theorem dX1_bridges_134 : decode cX1_bridges 134 = .ok (.iload_n 2, 1) := by decide +kernel
theorem dX1_bridges_135 : decode cX1_bridges 135 = .ok (.iaload, 1) := by decide +kernel
theorem dX1_bridges_136 : decode cX1_bridges 136 = .ok (.ishl, 1) := by decide +kernel
theorem dX1_bridges_137 : decode cX1_bridges 137 = .ok (.ior, 1) := by decide +kernel
theorem dX1_bridges_138 : decode cX1_bridges 138 = .ok (.iastore, 1) := by decide +kernel
theorem dX1_bridges_139 : decode cX1_bridges 139 = .ok (.aload_n 0, 1) := by decide +kernel
theorem dX1_bridges_140 : decode cX1_bridges 140 = .ok (.getfield 9, 3) := by decide +kernel
theorem dX1_bridges_143 : decode cX1_bridges 143 = .ok (.aload_n 0, 1) := by decide +kernel
theorem dX1_bridges_144 : decode cX1_bridges 144 = .ok (.getfield 18, 3) := by decide +kernel
theorem dX1_bridges_147 : decode cX1_bridges 147 = .ok (.iload_n 2, 1) := by decide +kernel
theorem dX1_bridges_148 : decode cX1_bridges 148 = .ok (.iaload, 1) := by decide +kernel
theorem dX1_bridges_149 : decode cX1_bridges 149 = .ok (.dup2, 1) := by decide +kernel
theorem dX1_bridges_150 : decode cX1_bridges 150 = .ok (.iaload, 1) := by decide +kernel
theorem dX1_bridges_151 : decode cX1_bridges 151 = .ok (.iconst 1, 1) := by decide +kernel
theorem dX1_bridges_152 : decode cX1_bridges 152 = .ok (.aload_n 0, 1) := by decide +kernel
theorem dX1_bridges_153 : decode cX1_bridges 153 = .ok (.getfield 15, 3) := by decide +kernel
theorem dX1_bridges_156 : decode cX1_bridges 156 = .ok (.iload_n 2, 1) := by decide +kernel
theorem dX1_bridges_157 : decode cX1_bridges 157 = .ok (.iaload, 1) := by decide +kernel
theorem dX1_bridges_158 : decode cX1_bridges 158 = .ok (.ishl, 1) := by decide +kernel
theorem dX1_bridges_159 : decode cX1_bridges 159 = .ok (.ior, 1) := by decide +kernel
theorem dX1_bridges_160 : decode cX1_bridges 160 = .ok (.iastore, 1) := by decide +kernel
theorem dX1_bridges_161 : decode cX1_bridges 161 = .ok (.iload_n 1, 1) := by decide +kernel
theorem dX1_bridges_162 : decode cX1_bridges 162 = .ok (.iload_n 3, 1) := by decide +kernel
theorem dX1_bridges_163 : decode cX1_bridges 163 = .ok (.ifCond .eq 7, 3) := by decide +kernel
theorem dX1_bridges_166 : decode cX1_bridges 166 = .ok (.iconst 1, 1) := by decide +kernel
theorem dX1_bridges_167 : decode cX1_bridges 167 = .ok (.goto 4, 3) := by decide +kernel
theorem dX1_bridges_170 : decode cX1_bridges 170 = .ok (.iconst 0, 1) := by decide +kernel
theorem dX1_bridges_171 : decode cX1_bridges 171 = .ok (.iadd, 1) := by decide +kernel
theorem dX1_bridges_172 : decode cX1_bridges 172 = .ok (.istore_n 1, 1) := by decide +kernel
theorem dX1_bridges_173 : decode cX1_bridges 173 = .ok (.iinc 2 1, 3) := by decide +kernel
theorem dX1_bridges_176 : decode cX1_bridges 176 = .ok (.goto (-172), 3) := by decide +kernel
theorem dX1_bridges_179 : decode cX1_bridges 179 = .ok (.iload_n 1, 1) := by decide +kernel
theorem dX1_bridges_180 : decode cX1_bridges 180 = .ok (.ireturn, 1) := by decide +kernel
theorem dX1_hasTwin_0 : decode cX1_hasTwin 0 = .ok (.iconst 0, 1) := by decide +kernel
theorem dX1_hasTwin_1 : decode cX1_hasTwin 1 = .ok (.istore_n 2, 1) := by decide +kernel
theorem dX1_hasTwin_2 : decode cX1_hasTwin 2 = .ok (.iload_n 2, 1) := by decide +kernel
theorem dX1_hasTwin_3 : decode cX1_hasTwin 3 = .ok (.aload_n 0, 1) := by decide +kernel
theorem dX1_hasTwin_4 : decode cX1_hasTwin 4 = .ok (.getfield 25, 3) := by decide +kernel
theorem dX1_hasTwin_7 : decode cX1_hasTwin 7 = .ok (.if_icmp .ge 98, 3) := by decide +kernel
theorem dX1_hasTwin_10 : decode cX1_hasTwin 10 = .ok (.aload_n 0, 1) := by decide +kernel
theorem dX1_hasTwin_11 : decode cX1_hasTwin 11 = .ok (.getfield 15, 3) := by decide +kernel
theorem dX1_hasTwin_14 : decode cX1_hasTwin 14 = .ok (.iload_n 2, 1) := by decide +kernel
theorem dX1_hasTwin_15 : decode cX1_hasTwin 15 = .ok (.iaload, 1) := by decide +kernel
theorem dX1_hasTwin_16 : decode cX1_hasTwin 16 = .ok (.aload_n 0, 1) := by decide +kernel
theorem dX1_hasTwin_17 : decode cX1_hasTwin 17 = .ok (.getfield 15, 3) := by decide +kernel
theorem dX1_hasTwin_20 : decode cX1_hasTwin 20 = .ok (.iload_n 1, 1) := by decide +kernel
theorem dX1_hasTwin_21 : decode cX1_hasTwin 21 = .ok (.iaload, 1) := by decide +kernel
theorem dX1_hasTwin_22 : decode cX1_hasTwin 22 = .ok (.if_icmp .ne 22, 3) := by decide +kernel
theorem dX1_hasTwin_25 : decode cX1_hasTwin 25 = .ok (.aload_n 0, 1) := by decide +kernel
theorem dX1_hasTwin_26 : decode cX1_hasTwin 26 = .ok (.getfield 18, 3) := by decide +kernel
theorem dX1_hasTwin_29 : decode cX1_hasTwin 29 = .ok (.iload_n 2, 1) := by decide +kernel
theorem dX1_hasTwin_30 : decode cX1_hasTwin 30 = .ok (.iaload, 1) := by decide +kernel
theorem dX1_hasTwin_31 : decode cX1_hasTwin 31 = .ok (.aload_n 0, 1) := by decide +kernel
theorem dX1_hasTwin_32 : decode cX1_hasTwin 32 = .ok (.getfield 18, 3) := by decide +kernel
theorem dX1_hasTwin_35 : decode cX1_hasTwin 35 = .ok (.iload_n 1, 1) := by decide +kernel
theorem dX1_hasTwin_36 : decode cX1_hasTwin 36 = .ok (.iaload, 1) := by decide +kernel
theorem dX1_hasTwin_37 : decode cX1_hasTwin 37 = .ok (.if_icmp .ne 7, 3) := by decide +kernel
theorem dX1_hasTwin_40 : decode cX1_hasTwin 40 = .ok (.iconst 1, 1) := by decide +kernel
theorem dX1_hasTwin_41 : decode cX1_hasTwin 41 = .ok (.goto 4, 3) := by decide +kernel
theorem dX1_hasTwin_44 : decode cX1_hasTwin 44 = .ok (.iconst 0, 1) := by decide +kernel
theorem dX1_hasTwin_45 : decode cX1_hasTwin 45 = .ok (.istore_n 3, 1) := by decide +kernel
theorem dX1_hasTwin_46 : decode cX1_hasTwin 46 = .ok (.aload_n 0, 1) := by decide +kernel
theorem dX1_hasTwin_47 : decode cX1_hasTwin 47 = .ok (.getfield 15, 3) := by decide +kernel
theorem dX1_hasTwin_50 : decode cX1_hasTwin 50 = .ok (.iload_n 2, 1) := by decide +kernel
theorem dX1_hasTwin_51 : decode cX1_hasTwin 51 = .ok (.iaload, 1) := by decide +kernel
theorem dX1_hasTwin_52 : decode cX1_hasTwin 52 = .ok (.aload_n 0, 1) := by decide +kernel
theorem dX1_hasTwin_53 : decode cX1_hasTwin 53 = .ok (.getfield 18, 3) := by decide +kernel
theorem dX1_hasTwin_56 : decode cX1_hasTwin 56 = .ok (.iload_n 1, 1) := by decide +kernel
theorem dX1_hasTwin_57 : decode cX1_hasTwin 57 = .ok (.iaload, 1) := by decide +kernel
theorem dX1_hasTwin_58 : decode cX1_hasTwin 58 = .ok (.if_icmp .ne 22, 3) := by decide +kernel
theorem dX1_hasTwin_61 : decode cX1_hasTwin 61 = .ok (.aload_n 0, 1) := by decide +kernel
theorem dX1_hasTwin_62 : decode cX1_hasTwin 62 = .ok (.getfield 18, 3) := by decide +kernel
theorem dX1_hasTwin_65 : decode cX1_hasTwin 65 = .ok (.iload_n 2, 1) := by decide +kernel
theorem dX1_hasTwin_66 : decode cX1_hasTwin 66 = .ok (.iaload, 1) := by decide +kernel
theorem dX1_hasTwin_67 : decode cX1_hasTwin 67 = .ok (.aload_n 0, 1) := by decide +kernel
theorem dX1_hasTwin_68 : decode cX1_hasTwin 68 = .ok (.getfield 15, 3) := by decide +kernel
theorem dX1_hasTwin_71 : decode cX1_hasTwin 71 = .ok (.iload_n 1, 1) := by decide +kernel
theorem dX1_hasTwin_72 : decode cX1_hasTwin 72 = .ok (.iaload, 1) := by decide +kernel
theorem dX1_hasTwin_73 : decode cX1_hasTwin 73 = .ok (.if_icmp .ne 7, 3) := by decide +kernel
theorem dX1_hasTwin_76 : decode cX1_hasTwin 76 = .ok (.iconst 1, 1) := by decide +kernel
theorem dX1_hasTwin_77 : decode cX1_hasTwin 77 = .ok (.goto 4, 3) := by decide +kernel
theorem dX1_hasTwin_80 : decode cX1_hasTwin 80 = .ok (.iconst 0, 1) := by decide +kernel
theorem dX1_hasTwin_81 : decode cX1_hasTwin 81 = .ok (.istore 4, 2) := by decide +kernel
theorem dX1_hasTwin_83 : decode cX1_hasTwin 83 = .ok (.iload_n 2, 1) := by decide +kernel
theorem dX1_hasTwin_84 : decode cX1_hasTwin 84 = .ok (.iload_n 1, 1) := by decide +kernel
theorem dX1_hasTwin_85 : decode cX1_hasTwin 85 = .ok (.if_icmp .eq 14, 3) := by decide +kernel
theorem dX1_hasTwin_88 : decode cX1_hasTwin 88 = .ok (.iload_n 3, 1) := by decide +kernel
theorem dX1_hasTwin_89 : decode cX1_hasTwin 89 = .ok (.ifCond .ne 8, 3) := by decide +kernel
theorem dX1_hasTwin_92 : decode cX1_hasTwin 92 = .ok (.iload 4, 2) := by decide +kernel
theorem dX1_hasTwin_94 : decode cX1_hasTwin 94 = .ok (.ifCond .eq 5, 3) := by decide +kernel
theorem dX1_hasTwin_97 : decode cX1_hasTwin 97 = .ok (.iconst 1, 1) := by decide +kernel
theorem dX1_hasTwin_98 : decode cX1_hasTwin 98 = .ok (.ireturn, 1) := by decide +kernel
theorem dX1_hasTwin_99 : decode cX1_hasTwin 99 = .ok (.iinc 2 1, 3) := by decide +kernel
theorem dX1_hasTwin_102 : decode cX1_hasTwin 102 = .ok (.goto (-100), 3) := by decide +kernel
theorem dX1_hasTwin_105 : decode cX1_hasTwin 105 = .ok (.iconst 0, 1) := by decide +kernel
theorem dX1_hasTwin_106 : decode cX1_hasTwin 106 = .ok (.ireturn, 1) := by decide +kernel
theorem dX1_cutPoints_0 : decode cX1_cutPoints 0 = .ok (.iconst 0, 1) := by decide +kernel
theorem dX1_cutPoints_1 : decode cX1_cutPoints 1 = .ok (.istore_n 1, 1) := by decide +kernel
theorem dX1_cutPoints_2 : decode cX1_cutPoints 2 = .ok (.iconst 0, 1) := by decide +kernel
theorem dX1_cutPoints_3 : decode cX1_cutPoints 3 = .ok (.istore_n 2, 1) := by decide +kernel
theorem dX1_cutPoints_4 : decode cX1_cutPoints 4 = .ok (.iload_n 2, 1) := by decide +kernel
theorem dX1_cutPoints_5 : decode cX1_cutPoints 5 = .ok (.bipush 8, 2) := by decide +kernel
theorem dX1_cutPoints_7 : decode cX1_cutPoints 7 = .ok (.if_icmp .ge 34, 3) := by decide +kernel
theorem dX1_cutPoints_10 : decode cX1_cutPoints 10 = .ok (.aload_n 0, 1) := by decide +kernel
theorem dX1_cutPoints_11 : decode cX1_cutPoints 11 = .ok (.getfield 21, 3) := by decide +kernel
theorem dX1_cutPoints_14 : decode cX1_cutPoints 14 = .ok (.iload_n 2, 1) := by decide +kernel
theorem dX1_cutPoints_15 : decode cX1_cutPoints 15 = .ok (.ishr, 1) := by decide +kernel
theorem dX1_cutPoints_16 : decode cX1_cutPoints 16 = .ok (.iconst 1, 1) := by decide +kernel
theorem dX1_cutPoints_17 : decode cX1_cutPoints 17 = .ok (.iand, 1) := by decide +kernel
theorem dX1_cutPoints_18 : decode cX1_cutPoints 18 = .ok (.ifCond .eq 17, 3) := by decide +kernel
theorem dX1_cutPoints_21 : decode cX1_cutPoints 21 = .ok (.aload_n 0, 1) := by decide +kernel
theorem dX1_cutPoints_22 : decode cX1_cutPoints 22 = .ok (.iload_n 2, 1) := by decide +kernel
theorem dX1_cutPoints_23 : decode cX1_cutPoints 23 = .ok (.invokevirtual 53, 3) := by decide +kernel
theorem dX1_cutPoints_26 : decode cX1_cutPoints 26 = .ok (.ifCond .eq 9, 3) := by decide +kernel
theorem dX1_cutPoints_29 : decode cX1_cutPoints 29 = .ok (.iload_n 1, 1) := by decide +kernel
theorem dX1_cutPoints_30 : decode cX1_cutPoints 30 = .ok (.iconst 1, 1) := by decide +kernel
theorem dX1_cutPoints_31 : decode cX1_cutPoints 31 = .ok (.iload_n 2, 1) := by decide +kernel
theorem dX1_cutPoints_32 : decode cX1_cutPoints 32 = .ok (.ishl, 1) := by decide +kernel
theorem dX1_cutPoints_33 : decode cX1_cutPoints 33 = .ok (.ior, 1) := by decide +kernel
theorem dX1_cutPoints_34 : decode cX1_cutPoints 34 = .ok (.istore_n 1, 1) := by decide +kernel
theorem dX1_cutPoints_35 : decode cX1_cutPoints 35 = .ok (.iinc 2 1, 3) := by decide +kernel
theorem dX1_cutPoints_38 : decode cX1_cutPoints 38 = .ok (.goto (-34), 3) := by decide +kernel
theorem dX1_cutPoints_41 : decode cX1_cutPoints 41 = .ok (.iload_n 1, 1) := by decide +kernel
theorem dX1_cutPoints_42 : decode cX1_cutPoints 42 = .ok (.ireturn, 1) := by decide +kernel
theorem dX1_isCut_0 : decode cX1_isCut 0 = .ok (.aload_n 0, 1) := by decide +kernel
theorem dX1_isCut_1 : decode cX1_isCut 1 = .ok (.iconst 1, 1) := by decide +kernel
theorem dX1_isCut_2 : decode cX1_isCut 2 = .ok (.iload_n 1, 1) := by decide +kernel
theorem dX1_isCut_3 : decode cX1_isCut 3 = .ok (.ishl, 1) := by decide +kernel
theorem dX1_isCut_4 : decode cX1_isCut 4 = .ok (.aload_n 0, 1) := by decide +kernel
theorem dX1_isCut_5 : decode cX1_isCut 5 = .ok (.getfield 21, 3) := by decide +kernel
theorem dX1_isCut_8 : decode cX1_isCut 8 = .ok (.invokevirtual 45, 3) := by decide +kernel
theorem dX1_isCut_11 : decode cX1_isCut 11 = .ok (.iconst 1, 1) := by decide +kernel
theorem dX1_isCut_12 : decode cX1_isCut 12 = .ok (.iload_n 1, 1) := by decide +kernel
theorem dX1_isCut_13 : decode cX1_isCut 13 = .ok (.ishl, 1) := by decide +kernel
theorem dX1_isCut_14 : decode cX1_isCut 14 = .ok (.iconst (-1), 1) := by decide +kernel
theorem dX1_isCut_15 : decode cX1_isCut 15 = .ok (.ixor, 1) := by decide +kernel
theorem dX1_isCut_16 : decode cX1_isCut 16 = .ok (.iand, 1) := by decide +kernel
theorem dX1_isCut_17 : decode cX1_isCut 17 = .ok (.istore_n 2, 1) := by decide +kernel
theorem dX1_isCut_18 : decode cX1_isCut 18 = .ok (.iload_n 2, 1) := by decide +kernel
theorem dX1_isCut_19 : decode cX1_isCut 19 = .ok (.ifCond .ne 5, 3) := by decide +kernel
theorem dX1_isCut_22 : decode cX1_isCut 22 = .ok (.iconst 0, 1) := by decide +kernel
theorem dX1_isCut_23 : decode cX1_isCut 23 = .ok (.ireturn, 1) := by decide +kernel
theorem dX1_isCut_24 : decode cX1_isCut 24 = .ok (.aload_n 0, 1) := by decide +kernel
theorem dX1_isCut_25 : decode cX1_isCut 25 = .ok (.iload_n 2, 1) := by decide +kernel
theorem dX1_isCut_26 : decode cX1_isCut 26 = .ok (.iload_n 2, 1) := by decide +kernel
theorem dX1_isCut_27 : decode cX1_isCut 27 = .ok (.ineg, 1) := by decide +kernel
theorem dX1_isCut_28 : decode cX1_isCut 28 = .ok (.iand, 1) := by decide +kernel
theorem dX1_isCut_29 : decode cX1_isCut 29 = .ok (.aload_n 0, 1) := by decide +kernel
theorem dX1_isCut_30 : decode cX1_isCut 30 = .ok (.getfield 21, 3) := by decide +kernel
theorem dX1_isCut_33 : decode cX1_isCut 33 = .ok (.iconst 1, 1) := by decide +kernel
theorem dX1_isCut_34 : decode cX1_isCut 34 = .ok (.iload_n 1, 1) := by decide +kernel
theorem dX1_isCut_35 : decode cX1_isCut 35 = .ok (.ishl, 1) := by decide +kernel
theorem dX1_isCut_36 : decode cX1_isCut 36 = .ok (.iconst (-1), 1) := by decide +kernel
theorem dX1_isCut_37 : decode cX1_isCut 37 = .ok (.ixor, 1) := by decide +kernel
theorem dX1_isCut_38 : decode cX1_isCut 38 = .ok (.iand, 1) := by decide +kernel
theorem dX1_isCut_39 : decode cX1_isCut 39 = .ok (.invokevirtual 45, 3) := by decide +kernel
theorem dX1_isCut_42 : decode cX1_isCut 42 = .ok (.istore_n 3, 1) := by decide +kernel
theorem dX1_isCut_43 : decode cX1_isCut 43 = .ok (.iload_n 3, 1) := by decide +kernel
theorem dX1_isCut_44 : decode cX1_isCut 44 = .ok (.iload_n 2, 1) := by decide +kernel
theorem dX1_isCut_45 : decode cX1_isCut 45 = .ok (.if_icmp .eq 7, 3) := by decide +kernel
theorem dX1_isCut_48 : decode cX1_isCut 48 = .ok (.iconst 1, 1) := by decide +kernel
theorem dX1_isCut_49 : decode cX1_isCut 49 = .ok (.goto 4, 3) := by decide +kernel
theorem dX1_isCut_52 : decode cX1_isCut 52 = .ok (.iconst 0, 1) := by decide +kernel
theorem dX1_isCut_53 : decode cX1_isCut 53 = .ok (.ireturn, 1) := by decide +kernel
theorem dX1_linesWithin_0 : decode cX1_linesWithin 0 = .ok (.iconst 0, 1) := by decide +kernel
theorem dX1_linesWithin_1 : decode cX1_linesWithin 1 = .ok (.istore_n 2, 1) := by decide +kernel
theorem dX1_linesWithin_2 : decode cX1_linesWithin 2 = .ok (.iconst 0, 1) := by decide +kernel
theorem dX1_linesWithin_3 : decode cX1_linesWithin 3 = .ok (.istore_n 3, 1) := by decide +kernel
theorem dX1_linesWithin_4 : decode cX1_linesWithin 4 = .ok (.iload_n 3, 1) := by decide +kernel
theorem dX1_linesWithin_5 : decode cX1_linesWithin 5 = .ok (.aload_n 0, 1) := by decide +kernel
theorem dX1_linesWithin_6 : decode cX1_linesWithin 6 = .ok (.getfield 25, 3) := by decide +kernel
theorem dX1_linesWithin_9 : decode cX1_linesWithin 9 = .ok (.if_icmp .ge 31, 3) := by decide +kernel
theorem dX1_linesWithin_12 : decode cX1_linesWithin 12 = .ok (.iload_n 2, 1) := by decide +kernel
theorem dX1_linesWithin_13 : decode cX1_linesWithin 13 = .ok (.iload_n 1, 1) := by decide +kernel
theorem dX1_linesWithin_14 : decode cX1_linesWithin 14 = .ok (.aload_n 0, 1) := by decide +kernel
theorem dX1_linesWithin_15 : decode cX1_linesWithin 15 = .ok (.getfield 15, 3) := by decide +kernel
theorem dX1_linesWithin_18 : decode cX1_linesWithin 18 = .ok (.iload_n 3, 1) := by decide +kernel
theorem dX1_linesWithin_19 : decode cX1_linesWithin 19 = .ok (.iaload, 1) := by decide +kernel
theorem dX1_linesWithin_20 : decode cX1_linesWithin 20 = .ok (.ishr, 1) := by decide +kernel
theorem dX1_linesWithin_21 : decode cX1_linesWithin 21 = .ok (.iload_n 1, 1) := by decide +kernel
theorem dX1_linesWithin_22 : decode cX1_linesWithin 22 = .ok (.aload_n 0, 1) := by decide +kernel
theorem dX1_linesWithin_23 : decode cX1_linesWithin 23 = .ok (.getfield 18, 3) := by decide +kernel
theorem dX1_linesWithin_26 : decode cX1_linesWithin 26 = .ok (.iload_n 3, 1) := by decide +kernel
theorem dX1_linesWithin_27 : decode cX1_linesWithin 27 = .ok (.iaload, 1) := by decide +kernel
theorem dX1_linesWithin_28 : decode cX1_linesWithin 28 = .ok (.ishr, 1) := by decide +kernel
theorem dX1_linesWithin_29 : decode cX1_linesWithin 29 = .ok (.iand, 1) := by decide +kernel
theorem dX1_linesWithin_30 : decode cX1_linesWithin 30 = .ok (.iconst 1, 1) := by decide +kernel
theorem dX1_linesWithin_31 : decode cX1_linesWithin 31 = .ok (.iand, 1) := by decide +kernel
theorem dX1_linesWithin_32 : decode cX1_linesWithin 32 = .ok (.iadd, 1) := by decide +kernel
theorem dX1_linesWithin_33 : decode cX1_linesWithin 33 = .ok (.istore_n 2, 1) := by decide +kernel
theorem dX1_linesWithin_34 : decode cX1_linesWithin 34 = .ok (.iinc 3 1, 3) := by decide +kernel
theorem dX1_linesWithin_37 : decode cX1_linesWithin 37 = .ok (.goto (-33), 3) := by decide +kernel
theorem dX1_linesWithin_40 : decode cX1_linesWithin 40 = .ok (.iload_n 2, 1) := by decide +kernel
theorem dX1_linesWithin_41 : decode cX1_linesWithin 41 = .ok (.ireturn, 1) := by decide +kernel
