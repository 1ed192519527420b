theorem dX6_init_0 : decode cX6_init 0 = .ok (.aload_n 0, 1) := by decide +kernel
theorem dX6_init_1 : decode cX6_init 1 = .ok (.invokespecial 3, 3) := by decide +kernel
theorem dX6_init_4 : decode cX6_init 4 = .ok (.aload_n 0, 1) := by decide +kernel
theorem dX6_init_5 : decode cX6_init 5 = .ok (.bipush 48, 2) := by decide +kernel
theorem dX6_init_7 : decode cX6_init 7 = .ok (.newarray .int, 2) := by decide +kernel
theorem dX6_init_9 : decode cX6_init 9 = .ok (.putfield 9, 3) := by decide +kernel
theorem dX6_init_12 : decode cX6_init 12 = .ok (.return_, 1) := by decide +kernel
theorem dX6_clear_0 : decode cX6_clear 0 = .ok (.aload_n 0, 1) := by decide +kernel
theorem dX6_clear_1 : decode cX6_clear 1 = .ok (.iconst 0, 1) := by decide +kernel
theorem dX6_clear_2 : decode cX6_clear 2 = .ok (.putfield 15, 3) := by decide +kernel
theorem dX6_clear_5 : decode cX6_clear 5 = .ok (.return_, 1) := by decide +kernel
theorem dX6_put_0 : decode cX6_put 0 = .ok (.aload_n 0, 1) := by decide +kernel
theorem dX6_put_1 : decode cX6_put 1 = .ok (.getfield 15, 3) := by decide +kernel
theorem dX6_put_4 : decode cX6_put 4 = .ok (.aload_n 0, 1) := by decide +kernel
theorem dX6_put_5 : decode cX6_put 5 = .ok (.getfield 9, 3) := by decide +kernel
theorem dX6_put_8 : decode cX6_put 8 = .ok (.arraylength, 1) := by decide +kernel
theorem dX6_put_9 : decode cX6_put 9 = .ok (.if_icmp .ge 23, 3) := by decide +kernel
theorem dX6_put_12 : decode cX6_put 12 = .ok (.aload_n 0, 1) := by decide +kernel
theorem dX6_put_13 : decode cX6_put 13 = .ok (.getfield 9, 3) := by decide +kernel
theorem dX6_put_16 : decode cX6_put 16 = .ok (.aload_n 0, 1) := by decide +kernel
theorem dX6_put_17 : decode cX6_put 17 = .ok (.getfield 15, 3) := by decide +kernel
theorem dX6_put_20 : decode cX6_put 20 = .ok (.iload_n 1, 1) := by decide +kernel
theorem dX6_put_21 : decode cX6_put 21 = .ok (.iastore, 1) := by decide +kernel
theorem dX6_put_22 : decode cX6_put 22 = .ok (.aload_n 0, 1) := by decide +kernel
theorem dX6_put_23 : decode cX6_put 23 = .ok (.dup, 1) := by decide +kernel
theorem dX6_put_24 : decode cX6_put 24 = .ok (.getfield 15, 3) := by decide +kernel
theorem dX6_put_27 : decode cX6_put 27 = .ok (.iconst 1, 1) := by decide +kernel
theorem dX6_put_28 : decode cX6_put 28 = .ok (.iadd, 1) := by decide +kernel
theorem dX6_put_29 : decode cX6_put 29 = .ok (.putfield 15, 3) := by decide +kernel
theorem dX6_put_32 : decode cX6_put 32 = .ok (.return_, 1) := by decide +kernel
theorem dX6_putNumber_0 : decode cX6_putNumber 0 = .ok (.iload_n 1, 1) := by decide +kernel
theorem dX6_putNumber_1 : decode cX6_putNumber 1 = .ok (.bipush 10, 2) := by decide +kernel
theorem dX6_putNumber_3 : decode cX6_putNumber 3 = .ok (.if_icmp .lt 14, 3) := by decide +kernel
theorem dX6_putNumber_6 : decode cX6_putNumber 6 = .ok (.aload_n 0, 1) := by decide +kernel
theorem dX6_putNumber_7 : decode cX6_putNumber 7 = .ok (.bipush 48, 2) := by decide +kernel
theorem dX6_putNumber_9 : decode cX6_putNumber 9 = .ok (.iload_n 1, 1) := by decide +kernel
theorem dX6_putNumber_10 : decode cX6_putNumber 10 = .ok (.bipush 10, 2) := by decide +kernel
theorem dX6_putNumber_12 : decode cX6_putNumber 12 = .ok (.idiv, 1) := by decide +kernel
theorem dX6_putNumber_13 : decode cX6_putNumber 13 = .ok (.iadd, 1) := by decide +kernel
theorem dX6_putNumber_14 : decode cX6_putNumber 14 = .ok (.invokevirtual 19, 3) := by decide +kernel
theorem dX6_putNumber_17 : decode cX6_putNumber 17 = .ok (.aload_n 0, 1) := by decide +kernel
theorem dX6_putNumber_18 : decode cX6_putNumber 18 = .ok (.bipush 48, 2) := by decide +kernel
theorem dX6_putNumber_20 : decode cX6_putNumber 20 = .ok (.iload_n 1, 1) := by decide +kernel
theorem dX6_putNumber_21 : decode cX6_putNumber 21 = .ok (.bipush 10, 2) := by decide +kernel
theorem dX6_putNumber_23 : decode cX6_putNumber 23 = .ok (.irem, 1) := by decide +kernel
theorem dX6_putNumber_24 : decode cX6_putNumber 24 = .ok (.iadd, 1) := by decide +kernel
theorem dX6_putNumber_25 : decode cX6_putNumber 25 = .ok (.invokevirtual 19, 3) := by decide +kernel
theorem dX6_putNumber_28 : decode cX6_putNumber 28 = .ok (.return_, 1) := by decide +kernel
theorem dX6_putPair_0 : decode cX6_putPair 0 = .ok (.aload_n 0, 1) := by decide +kernel
theorem dX6_putPair_1 : decode cX6_putPair 1 = .ok (.iload_n 1, 1) := by decide +kernel
theorem dX6_putPair_2 : decode cX6_putPair 2 = .ok (.invokevirtual 23, 3) := by decide +kernel
theorem dX6_putPair_5 : decode cX6_putPair 5 = .ok (.aload_n 0, 1) := by decide +kernel
theorem dX6_putPair_6 : decode cX6_putPair 6 = .ok (.bipush 45, 2) := by decide +kernel
theorem dX6_putPair_8 : decode cX6_putPair 8 = .ok (.invokevirtual 19, 3) := by decide +kernel
theorem dX6_putPair_11 : decode cX6_putPair 11 = .ok (.aload_n 0, 1) := by decide +kernel
theorem dX6_putPair_12 : decode cX6_putPair 12 = .ok (.iload_n 2, 1) := by decide +kernel
theorem dX6_putPair_13 : decode cX6_putPair 13 = .ok (.invokevirtual 23, 3) := by decide +kernel
theorem dX6_putPair_16 : decode cX6_putPair 16 = .ok (.aload_n 0, 1) := by decide +kernel
theorem dX6_putPair_17 : decode cX6_putPair 17 = .ok (.bipush 59, 2) := by decide +kernel
theorem dX6_putPair_19 : decode cX6_putPair 19 = .ok (.invokevirtual 19, 3) := by decide +kernel
theorem dX6_putPair_22 : decode cX6_putPair 22 = .ok (.return_, 1) := by decide +kernel
theorem dX6_putLine_0 : decode cX6_putLine 0 = .ok (.iload_n 1, 1) := by decide +kernel
theorem dX6_putLine_1 : decode cX6_putLine 1 = .ok (.bipush 10, 2) := by decide +kernel
theorem dX6_putLine_3 : decode cX6_putLine 3 = .ok (.irem, 1) := by decide +kernel
theorem dX6_putLine_4 : decode cX6_putLine 4 = .ok (.istore_n 3, 1) := by decide +kernel
theorem dX6_putLine_5 : decode cX6_putLine 5 = .ok (.aload_n 0, 1) := by decide +kernel
theorem dX6_putLine_6 : decode cX6_putLine 6 = .ok (.iload_n 1, 1) := by decide +kernel
theorem dX6_putLine_7 : decode cX6_putLine 7 = .ok (.bipush 100, 2) := by decide +kernel
theorem dX6_putLine_9 : decode cX6_putLine 9 = .ok (.idiv, 1) := by decide +kernel
theorem dX6_putLine_10 : decode cX6_putLine 10 = .ok (.invokevirtual 23, 3) := by decide +kernel
theorem dX6_putLine_13 : decode cX6_putLine 13 = .ok (.aload_n 0, 1) := by decide +kernel
theorem dX6_putLine_14 : decode cX6_putLine 14 = .ok (.aload_n 2, 1) := by decide +kernel
theorem dX6_putLine_15 : decode cX6_putLine 15 = .ok (.iload_n 3, 1) := by decide +kernel
theorem dX6_putLine_16 : decode cX6_putLine 16 = .ok (.invokevirtual 26, 3) := by decide +kernel
theorem dX6_putLine_19 : decode cX6_putLine 19 = .ok (.ifCond .eq 8, 3) := by decide +kernel
theorem dX6_putLine_22 : decode cX6_putLine 22 = .ok (.bipush 62, 2) := by decide +kernel
theorem dX6_putLine_24 : decode cX6_putLine 24 = .ok (.goto 5, 3) := by decide +kernel
theorem dX6_putLine_27 : decode cX6_putLine 27 = .ok (.bipush 45, 2) := by decide +kernel
theorem dX6_putLine_29 : decode cX6_putLine 29 = .ok (.invokevirtual 19, 3) := by decide +kernel
theorem dX6_putLine_32 : decode cX6_putLine 32 = .ok (.aload_n 0, 1) := by decide +kernel
theorem dX6_putLine_33 : decode cX6_putLine 33 = .ok (.iload_n 1, 1) := by decide +kernel
theorem dX6_putLine_34 : decode cX6_putLine 34 = .ok (.bipush 10, 2) := by decide +kernel
theorem dX6_putLine_36 : decode cX6_putLine 36 = .ok (.idiv, 1) := by decide +kernel
theorem dX6_putLine_37 : decode cX6_putLine 37 = .ok (.bipush 10, 2) := by decide +kernel
theorem dX6_putLine_39 : decode cX6_putLine 39 = .ok (.irem, 1) := by decide +kernel
theorem dX6_putLine_40 : decode cX6_putLine 40 = .ok (.invokevirtual 23, 3) := by decide +kernel
theorem dX6_putLine_43 : decode cX6_putLine 43 = .ok (.iload_n 3, 1) := by decide +kernel
theorem dX6_putLine_44 : decode cX6_putLine 44 = .ok (.bipush 6, 2) := by decide +kernel
theorem dX6_putLine_46 : decode cX6_putLine 46 = .ok (.if_icmp .ge 12, 3) := by decide +kernel
theorem dX6_putLine_49 : decode cX6_putLine 49 = .ok (.aload_n 0, 1) := by decide +kernel
theorem dX6_putLine_50 : decode cX6_putLine 50 = .ok (.aload_n 2, 1) := by decide +kernel
theorem dX6_putLine_51 : decode cX6_putLine 51 = .ok (.iload_n 3, 1) := by decide +kernel
theorem dX6_putLine_52 : decode cX6_putLine 52 = .ok (.invokevirtual 32, 3) := by decide +kernel
theorem dX6_putLine_55 : decode cX6_putLine 55 = .ok (.goto 39, 3) := by decide +kernel
theorem dX6_putLine_58 : decode cX6_putLine 58 = .ok (.iload_n 3, 1) := by decide +kernel
theorem dX6_putLine_59 : decode cX6_putLine 59 = .ok (.bipush 6, 2) := by decide +kernel
theorem dX6_putLine_61 : decode cX6_putLine 61 = .ok (.isub, 1) := by decide +kernel
theorem dX6_putLine_62 : decode cX6_putLine 62 = .ok (.iconst 4, 1) := by decide +kernel
theorem dX6_putLine_63 : decode cX6_putLine 63 = .ok (.if_icmp .ge 31, 3) := by decide +kernel
theorem dX6_putLine_66 : decode cX6_putLine 66 = .ok (.aload_n 0, 1) := by decide +kernel
theorem dX6_putLine_67 : decode cX6_putLine 67 = .ok (.aload_n 2, 1) := by decide +kernel
theorem dX6_putLine_68 : decode cX6_putLine 68 = .ok (.aload_n 2, 1) := by decide +kernel
theorem dX6_putLine_69 : decode cX6_putLine 69 = .ok (.getfield 36, 3) := by decide +kernel
theorem dX6_putLine_72 : decode cX6_putLine 72 = .ok (.iload_n 3, 1) := by decide +kernel
theorem dX6_putLine_73 : decode cX6_putLine 73 = .ok (.bipush 6, 2) := by decide +kernel
theorem dX6_putLine_75 : decode cX6_putLine 75 = .ok (.isub, 1) := by decide +kernel
theorem dX6_putLine_76 : decode cX6_putLine 76 = .ok (.iaload, 1) := by decide +kernel
theorem dX6_putLine_77 : decode cX6_putLine 77 = .ok (.invokevirtual 32, 3) := by decide +kernel
theorem dX6_putLine_80 : decode cX6_putLine 80 = .ok (.aload_n 0, 1) := by decide +kernel
theorem dX6_putLine_81 : decode cX6_putLine 81 = .ok (.aload_n 2, 1) := by decide +kernel
theorem dX6_putLine_82 : decode cX6_putLine 82 = .ok (.aload_n 2, 1) := by decide +kernel
theorem dX6_putLine_83 : decode cX6_putLine 83 = .ok (.getfield 39, 3) := by decide +kernel
theorem dX6_putLine_86 : decode cX6_putLine 86 = .ok (.iload_n 3, 1) := by decide +kernel
theorem dX6_putLine_87 : decode cX6_putLine 87 = .ok (.bipush 6, 2) := by decide +kernel
theorem dX6_putLine_89 : decode cX6_putLine 89 = .ok (.isub, 1) := by decide +kernel
theorem dX6_putLine_90 : decode cX6_putLine 90 = .ok (.iaload, 1) := by decide +kernel
theorem dX6_putLine_91 : decode cX6_putLine 91 = .ok (.invokevirtual 32, 3) := by decide +kernel
theorem dX6_putLine_94 : decode cX6_putLine 94 = .ok (.aload_n 0, 1) := by decide +kernel
theorem dX6_putLine_95 : decode cX6_putLine 95 = .ok (.bipush 59, 2) := by decide +kernel
theorem dX6_putLine_97 : decode cX6_putLine 97 = .ok (.invokevirtual 19, 3) := by decide +kernel
theorem dX6_putLine_100 : decode cX6_putLine 100 = .ok (.return_, 1) := by decide +kernel
theorem dX6_putSymbol_0 : decode cX6_putSymbol 0 = .ok (.aload_n 0, 1) := by decide +kernel
theorem dX6_putSymbol_1 : decode cX6_putSymbol 1 = .ok (.bipush 96, 2) := by decide +kernel
theorem dX6_putSymbol_3 : decode cX6_putSymbol 3 = .ok (.aload_n 1, 1) := by decide +kernel
theorem dX6_putSymbol_4 : decode cX6_putSymbol 4 = .ok (.getfield 42, 3) := by decide +kernel
theorem dX6_putSymbol_7 : decode cX6_putSymbol 7 = .ok (.iload_n 2, 1) := by decide +kernel
theorem dX6_putSymbol_8 : decode cX6_putSymbol 8 = .ok (.iaload, 1) := by decide +kernel
theorem dX6_putSymbol_9 : decode cX6_putSymbol 9 = .ok (.iadd, 1) := by decide +kernel
theorem dX6_putSymbol_10 : decode cX6_putSymbol 10 = .ok (.invokevirtual 19, 3) := by decide +kernel
theorem dX6_putSymbol_13 : decode cX6_putSymbol 13 = .ok (.return_, 1) := by decide +kernel
