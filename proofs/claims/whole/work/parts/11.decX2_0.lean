theorem dX2_init_0 : decode cX2_init 0 = .ok (.aload_n 0, 1) := by decide +kernel
theorem dX2_init_1 : decode cX2_init 1 = .ok (.invokespecial 3, 3) := by decide +kernel
theorem dX2_init_4 : decode cX2_init 4 = .ok (.aload_n 0, 1) := by decide +kernel
theorem dX2_init_5 : decode cX2_init 5 = .ok (.bipush 32, 2) := by decide +kernel
theorem dX2_init_7 : decode cX2_init 7 = .ok (.newarray .long, 2) := by decide +kernel
theorem dX2_init_9 : decode cX2_init 9 = .ok (.putfield 9, 3) := by decide +kernel
theorem dX2_init_12 : decode cX2_init 12 = .ok (.aload_n 0, 1) := by decide +kernel
theorem dX2_init_13 : decode cX2_init 13 = .ok (.bipush 32, 2) := by decide +kernel
theorem dX2_init_15 : decode cX2_init 15 = .ok (.newarray .int, 2) := by decide +kernel
theorem dX2_init_17 : decode cX2_init 17 = .ok (.putfield 15, 3) := by decide +kernel
theorem dX2_init_20 : decode cX2_init 20 = .ok (.aload_n 0, 1) := by decide +kernel
theorem dX2_init_21 : decode cX2_init 21 = .ok (.bipush 32, 2) := by decide +kernel
theorem dX2_init_23 : decode cX2_init 23 = .ok (.putfield 19, 3) := by decide +kernel
theorem dX2_init_26 : decode cX2_init 26 = .ok (.return_, 1) := by decide +kernel
theorem dX2_clear_0 : decode cX2_clear 0 = .ok (.aload_n 0, 1) := by decide +kernel
theorem dX2_clear_1 : decode cX2_clear 1 = .ok (.bipush 32, 2) := by decide +kernel
theorem dX2_clear_3 : decode cX2_clear 3 = .ok (.putfield 19, 3) := by decide +kernel
theorem dX2_clear_6 : decode cX2_clear 6 = .ok (.iconst 0, 1) := by decide +kernel
theorem dX2_clear_7 : decode cX2_clear 7 = .ok (.istore_n 2, 1) := by decide +kernel
theorem dX2_clear_8 : decode cX2_clear 8 = .ok (.iload_n 2, 1) := by decide +kernel
theorem dX2_clear_9 : decode cX2_clear 9 = .ok (.bipush 10, 2) := by decide +kernel
theorem dX2_clear_11 : decode cX2_clear 11 = .ok (.if_icmp .ge 31, 3) := by decide +kernel
theorem dX2_clear_14 : decode cX2_clear 14 = .ok (.aload_n 0, 1) := by decide +kernel
theorem dX2_clear_15 : decode cX2_clear 15 = .ok (.getfield 19, 3) := by decide +kernel
theorem dX2_clear_18 : decode cX2_clear 18 = .ok (.iload_n 1, 1) := by decide +kernel
theorem dX2_clear_19 : decode cX2_clear 19 = .ok (.iload_n 1, 1) := by decide +kernel
theorem dX2_clear_20 : decode cX2_clear 20 = .ok (.iconst 2, 1) := by decide +kernel
theorem dX2_clear_21 : decode cX2_clear 21 = .ok (.idiv, 1) := by decide +kernel
theorem dX2_clear_22 : decode cX2_clear 22 = .ok (.iadd, 1) := by decide +kernel
theorem dX2_clear_23 : decode cX2_clear 23 = .ok (.if_icmp .ge 19, 3) := by decide +kernel
theorem dX2_clear_26 : decode cX2_clear 26 = .ok (.aload_n 0, 1) := by decide +kernel
theorem dX2_clear_27 : decode cX2_clear 27 = .ok (.dup, 1) := by decide +kernel
theorem dX2_clear_28 : decode cX2_clear 28 = .ok (.getfield 19, 3) := by decide +kernel
theorem dX2_clear_31 : decode cX2_clear 31 = .ok (.iconst 2, 1) := by decide +kernel
theorem dX2_clear_32 : decode cX2_clear 32 = .ok (.imul, 1) := by decide +kernel
theorem dX2_clear_33 : decode cX2_clear 33 = .ok (.putfield 19, 3) := by decide +kernel
theorem dX2_clear_36 : decode cX2_clear 36 = .ok (.iinc 2 1, 3) := by decide +kernel
theorem dX2_clear_39 : decode cX2_clear 39 = .ok (.goto (-31), 3) := by decide +kernel
theorem dX2_clear_42 : decode cX2_clear 42 = .ok (.aload_n 0, 1) := by decide +kernel
theorem dX2_clear_43 : decode cX2_clear 43 = .ok (.getfield 19, 3) := by decide +kernel
theorem dX2_clear_46 : decode cX2_clear 46 = .ok (.aload_n 0, 1) := by decide +kernel
theorem dX2_clear_47 : decode cX2_clear 47 = .ok (.getfield 9, 3) := by decide +kernel
theorem dX2_clear_50 : decode cX2_clear 50 = .ok (.arraylength, 1) := by decide +kernel
theorem dX2_clear_51 : decode cX2_clear 51 = .ok (.if_icmp .le 38, 3) := by decide +kernel
theorem dX2_clear_54 : decode cX2_clear 54 = .ok (.aload_n 0, 1) := by decide +kernel
theorem dX2_clear_55 : decode cX2_clear 55 = .ok (.getfield 19, 3) := by decide +kernel
theorem dX2_clear_58 : decode cX2_clear 58 = .ok (.iconst 4, 1) := by decide +kernel
theorem dX2_clear_59 : decode cX2_clear 59 = .ok (.aload_n 0, 1) := by decide +kernel
theorem dX2_clear_60 : decode cX2_clear 60 = .ok (.getfield 9, 3) := by decide +kernel
theorem dX2_clear_63 : decode cX2_clear 63 = .ok (.arraylength, 1) := by decide +kernel
theorem dX2_clear_64 : decode cX2_clear 64 = .ok (.imul, 1) := by decide +kernel
theorem dX2_clear_65 : decode cX2_clear 65 = .ok (.sipush 16384, 3) := by decide +kernel
theorem dX2_clear_68 : decode cX2_clear 68 = .ok (.invokestatic 23, 3) := by decide +kernel
theorem dX2_clear_71 : decode cX2_clear 71 = .ok (.invokestatic 29, 3) := by decide +kernel
theorem dX2_clear_74 : decode cX2_clear 74 = .ok (.istore_n 2, 1) := by decide +kernel
theorem dX2_clear_75 : decode cX2_clear 75 = .ok (.aload_n 0, 1) := by decide +kernel
theorem dX2_clear_76 : decode cX2_clear 76 = .ok (.iload_n 2, 1) := by decide +kernel
theorem dX2_clear_77 : decode cX2_clear 77 = .ok (.newarray .long, 2) := by decide +kernel
theorem dX2_clear_79 : decode cX2_clear 79 = .ok (.putfield 9, 3) := by decide +kernel
theorem dX2_clear_82 : decode cX2_clear 82 = .ok (.aload_n 0, 1) := by decide +kernel
theorem dX2_clear_83 : decode cX2_clear 83 = .ok (.iload_n 2, 1) := by decide +kernel
theorem dX2_clear_84 : decode cX2_clear 84 = .ok (.newarray .int, 2) := by decide +kernel
theorem dX2_clear_86 : decode cX2_clear 86 = .ok (.putfield 15, 3) := by decide +kernel
theorem dX2_clear_89 : decode cX2_clear 89 = .ok (.aload_n 0, 1) := by decide +kernel
theorem dX2_clear_90 : decode cX2_clear 90 = .ok (.getfield 15, 3) := by decide +kernel
theorem dX2_clear_93 : decode cX2_clear 93 = .ok (.iconst 0, 1) := by decide +kernel
theorem dX2_clear_94 : decode cX2_clear 94 = .ok (.invokestatic 32, 3) := by decide +kernel
theorem dX2_clear_97 : decode cX2_clear 97 = .ok (.return_, 1) := by decide +kernel
theorem dX2_slotOf_0 : decode cX2_slotOf 0 = .ok (.lload_n 1, 1) := by decide +kernel
theorem dX2_slotOf_1 : decode cX2_slotOf 1 = .ok (.ldc2_w 38, 3) := by decide +kernel
theorem dX2_slotOf_4 : decode cX2_slotOf 4 = .ok (.lmul, 1) := by decide +kernel
theorem dX2_slotOf_5 : decode cX2_slotOf 5 = .ok (.bipush 40, 2) := by decide +kernel
theorem dX2_slotOf_7 : decode cX2_slotOf 7 = .ok (.lushr, 1) := by decide +kernel
theorem dX2_slotOf_8 : decode cX2_slotOf 8 = .ok (.l2i, 1) := by decide +kernel
theorem dX2_slotOf_9 : decode cX2_slotOf 9 = .ok (.aload_n 0, 1) := by decide +kernel
theorem dX2_slotOf_10 : decode cX2_slotOf 10 = .ok (.getfield 19, 3) := by decide +kernel
theorem dX2_slotOf_13 : decode cX2_slotOf 13 = .ok (.iconst 1, 1) := by decide +kernel
theorem dX2_slotOf_14 : decode cX2_slotOf 14 = .ok (.isub, 1) := by decide +kernel
theorem dX2_slotOf_15 : decode cX2_slotOf 15 = .ok (.iand, 1) := by decide +kernel
theorem dX2_slotOf_16 : decode cX2_slotOf 16 = .ok (.istore_n 3, 1) := by decide +kernel
theorem dX2_slotOf_17 : decode cX2_slotOf 17 = .ok (.iconst 0, 1) := by decide +kernel
theorem dX2_slotOf_18 : decode cX2_slotOf 18 = .ok (.istore 4, 2) := by decide +kernel
theorem dX2_slotOf_20 : decode cX2_slotOf 20 = .ok (.iload 4, 2) := by decide +kernel
theorem dX2_slotOf_22 : decode cX2_slotOf 22 = .ok (.aload_n 0, 1) := by decide +kernel
theorem dX2_slotOf_23 : decode cX2_slotOf 23 = .ok (.getfield 19, 3) := by decide +kernel
theorem dX2_slotOf_26 : decode cX2_slotOf 26 = .ok (.if_icmp .ge 40, 3) := by decide +kernel
theorem dX2_slotOf_29 : decode cX2_slotOf 29 = .ok (.aload_n 0, 1) := by decide +kernel
theorem dX2_slotOf_30 : decode cX2_slotOf 30 = .ok (.getfield 15, 3) := by decide +kernel
theorem dX2_slotOf_33 : decode cX2_slotOf 33 = .ok (.iload_n 3, 1) := by decide +kernel
theorem dX2_slotOf_34 : decode cX2_slotOf 34 = .ok (.iaload, 1) := by decide +kernel
theorem dX2_slotOf_35 : decode cX2_slotOf 35 = .ok (.ifCond .eq 31, 3) := by decide +kernel
theorem dX2_slotOf_38 : decode cX2_slotOf 38 = .ok (.aload_n 0, 1) := by decide +kernel
theorem dX2_slotOf_39 : decode cX2_slotOf 39 = .ok (.getfield 9, 3) := by decide +kernel
theorem dX2_slotOf_42 : decode cX2_slotOf 42 = .ok (.iload_n 3, 1) := by decide +kernel
theorem dX2_slotOf_43 : decode cX2_slotOf 43 = .ok (.laload, 1) := by decide +kernel
theorem dX2_slotOf_44 : decode cX2_slotOf 44 = .ok (.lload_n 1, 1) := by decide +kernel
theorem dX2_slotOf_45 : decode cX2_slotOf 45 = .ok (.lcmp, 1) := by decide +kernel
theorem dX2_slotOf_46 : decode cX2_slotOf 46 = .ok (.ifCond .eq 20, 3) := by decide +kernel
theorem dX2_slotOf_49 : decode cX2_slotOf 49 = .ok (.iload_n 3, 1) := by decide +kernel
theorem dX2_slotOf_50 : decode cX2_slotOf 50 = .ok (.iconst 1, 1) := by decide +kernel
theorem dX2_slotOf_51 : decode cX2_slotOf 51 = .ok (.iadd, 1) := by decide +kernel
theorem dX2_slotOf_52 : decode cX2_slotOf 52 = .ok (.aload_n 0, 1) := by decide +kernel
theorem dX2_slotOf_53 : decode cX2_slotOf 53 = .ok (.getfield 19, 3) := by decide +kernel
theorem dX2_slotOf_56 : decode cX2_slotOf 56 = .ok (.iconst 1, 1) := by decide +kernel
theorem dX2_slotOf_57 : decode cX2_slotOf 57 = .ok (.isub, 1) := by decide +kernel
theorem dX2_slotOf_58 : decode cX2_slotOf 58 = .ok (.iand, 1) := by decide +kernel
theorem dX2_slotOf_59 : decode cX2_slotOf 59 = .ok (.istore_n 3, 1) := by decide +kernel
theorem dX2_slotOf_60 : decode cX2_slotOf 60 = .ok (.iinc 4 1, 3) := by decide +kernel
theorem dX2_slotOf_63 : decode cX2_slotOf 63 = .ok (.goto (-43), 3) := by decide +kernel
theorem dX2_slotOf_66 : decode cX2_slotOf 66 = .ok (.iload_n 3, 1) := by decide +kernel
theorem dX2_slotOf_67 : decode cX2_slotOf 67 = .ok (.ireturn, 1) := by decide +kernel
theorem dX2_find_0 : decode cX2_find 0 = .ok (.aload_n 0, 1) := by decide +kernel
theorem dX2_find_1 : decode cX2_find 1 = .ok (.lload_n 1, 1) := by decide +kernel
theorem dX2_find_2 : decode cX2_find 2 = .ok (.invokevirtual 40, 3) := by decide +kernel
theorem dX2_find_5 : decode cX2_find 5 = .ok (.istore_n 3, 1) := by decide +kernel
theorem dX2_find_6 : decode cX2_find 6 = .ok (.aload_n 0, 1) := by decide +kernel
theorem dX2_find_7 : decode cX2_find 7 = .ok (.getfield 9, 3) := by decide +kernel
theorem dX2_find_10 : decode cX2_find 10 = .ok (.iload_n 3, 1) := by decide +kernel
theorem dX2_find_11 : decode cX2_find 11 = .ok (.laload, 1) := by decide +kernel
theorem dX2_find_12 : decode cX2_find 12 = .ok (.lload_n 1, 1) := by decide +kernel
theorem dX2_find_13 : decode cX2_find 13 = .ok (.lcmp, 1) := by decide +kernel
theorem dX2_find_14 : decode cX2_find 14 = .ok (.ifCond .ne 14, 3) := by decide +kernel
theorem dX2_find_17 : decode cX2_find 17 = .ok (.aload_n 0, 1) := by decide +kernel
theorem dX2_find_18 : decode cX2_find 18 = .ok (.getfield 15, 3) := by decide +kernel
theorem dX2_find_21 : decode cX2_find 21 = .ok (.iload_n 3, 1) := by decide +kernel
theorem dX2_find_22 : decode cX2_find 22 = .ok (.iaload, 1) := by decide +kernel
theorem dX2_find_23 : decode cX2_find 23 = .ok (.iconst 1, 1) := by decide +kernel
theorem dX2_find_24 : decode cX2_find 24 = .ok (.isub, 1) := by decide +kernel
theorem dX2_find_25 : decode cX2_find 25 = .ok (.goto 4, 3) := by decide +kernel
theorem dX2_find_28 : decode cX2_find 28 = .ok (.iconst (-1), 1) := by decide +kernel
theorem dX2_find_29 : decode cX2_find 29 = .ok (.ireturn, 1) := by decide +kernel
theorem dX2_put_0 : decode cX2_put 0 = .ok (.aload_n 0, 1) := by decide +kernel
theorem dX2_put_1 : decode cX2_put 1 = .ok (.lload_n 1, 1) := by decide +kernel
theorem dX2_put_2 : decode cX2_put 2 = .ok (.invokevirtual 40, 3) := by decide +kernel
theorem dX2_put_5 : decode cX2_put 5 = .ok (.istore 4, 2) := by decide +kernel
theorem dX2_put_7 : decode cX2_put 7 = .ok (.aload_n 0, 1) := by decide +kernel
theorem dX2_put_8 : decode cX2_put 8 = .ok (.getfield 15, 3) := by decide +kernel
theorem dX2_put_11 : decode cX2_put 11 = .ok (.iload 4, 2) := by decide +kernel
theorem dX2_put_13 : decode cX2_put 13 = .ok (.iaload, 1) := by decide +kernel
theorem dX2_put_14 : decode cX2_put 14 = .ok (.ifCond .ne 21, 3) := by decide +kernel
theorem dX2_put_17 : decode cX2_put 17 = .ok (.aload_n 0, 1) := by decide +kernel
theorem dX2_put_18 : decode cX2_put 18 = .ok (.getfield 9, 3) := by decide +kernel
theorem dX2_put_21 : decode cX2_put 21 = .ok (.iload 4, 2) := by decide +kernel
theorem dX2_put_23 : decode cX2_put 23 = .ok (.lload_n 1, 1) := by decide +kernel
theorem dX2_put_24 : decode cX2_put 24 = .ok (.lastore, 1) := by decide +kernel
theorem dX2_put_25 : decode cX2_put 25 = .ok (.aload_n 0, 1) := by decide +kernel
theorem dX2_put_26 : decode cX2_put 26 = .ok (.getfield 15, 3) := by decide +kernel
theorem dX2_put_29 : decode cX2_put 29 = .ok (.iload 4, 2) := by decide +kernel
theorem dX2_put_31 : decode cX2_put 31 = .ok (.iload_n 3, 1) := by decide +kernel
theorem dX2_put_32 : decode cX2_put 32 = .ok (.iconst 1, 1) := by decide +kernel
theorem dX2_put_33 : decode cX2_put 33 = .ok (.iadd, 1) := by decide +kernel
theorem dX2_put_34 : decode cX2_put 34 = .ok (.iastore, 1) := by decide +kernel
theorem dX2_put_35 : decode cX2_put 35 = .ok (.return_, 1) := by decide +kernel
