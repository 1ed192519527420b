theorem dX12_summed_10 : decode cX12_summed 10 = .ok (.iload_n 2, 1) := by decide +kernel
theorem dX12_summed_11 : decode cX12_summed 11 = .ok (.ifCond .lt 7, 3) := by decide +kernel
theorem dX12_summed_14 : decode cX12_summed 14 = .ok (.iconst 0, 1) := by decide +kernel
theorem dX12_summed_15 : decode cX12_summed 15 = .ok (.goto 4, 3) := by decide +kernel
theorem dX12_summed_18 : decode cX12_summed 18 = .ok (.iconst 1, 1) := by decide +kernel
theorem dX12_summed_19 : decode cX12_summed 19 = .ok (.invokevirtual 310, 3) := by decide +kernel
theorem dX12_summed_22 : decode cX12_summed 22 = .ok (.ifCond .ne 5, 3) := by decide +kernel
theorem dX12_summed_25 : decode cX12_summed 25 = .ok (.iconst (-1), 1) := by decide +kernel
theorem dX12_summed_26 : decode cX12_summed 26 = .ok (.ireturn, 1) := by decide +kernel
theorem dX12_summed_27 : decode cX12_summed 27 = .ok (.aload_n 0, 1) := by decide +kernel
theorem dX12_summed_28 : decode cX12_summed 28 = .ok (.invokevirtual 194, 3) := by decide +kernel
theorem dX12_summed_31 : decode cX12_summed 31 = .ok (.iconst 0, 1) := by decide +kernel
theorem dX12_summed_32 : decode cX12_summed 32 = .ok (.istore 4, 2) := by decide +kernel
theorem dX12_summed_34 : decode cX12_summed 34 = .ok (.iconst 0, 1) := by decide +kernel
theorem dX12_summed_35 : decode cX12_summed 35 = .ok (.istore 5, 2) := by decide +kernel
theorem dX12_summed_37 : decode cX12_summed 37 = .ok (.iload 5, 2) := by decide +kernel
theorem dX12_summed_39 : decode cX12_summed 39 = .ok (.aload_n 0, 1) := by decide +kernel
theorem dX12_summed_40 : decode cX12_summed 40 = .ok (.getfield 172, 3) := by decide +kernel
theorem dX12_summed_43 : decode cX12_summed 43 = .ok (.if_icmp .ge 40, 3) := by decide +kernel
theorem dX12_summed_46 : decode cX12_summed 46 = .ok (.aload_n 0, 1) := by decide +kernel
theorem dX12_summed_47 : decode cX12_summed 47 = .ok (.iload 5, 2) := by decide +kernel
theorem dX12_summed_49 : decode cX12_summed 49 = .ok (.iload_n 1, 1) := by decide +kernel
theorem dX12_summed_50 : decode cX12_summed 50 = .ok (.iload_n 2, 1) := by decide +kernel
theorem dX12_summed_51 : decode cX12_summed 51 = .ok (.invokevirtual 370, 3) := by decide +kernel
theorem dX12_summed_54 : decode cX12_summed 54 = .ok (.ifCond .eq 23, 3) := by decide +kernel
theorem dX12_summed_57 : decode cX12_summed 57 = .ok (.iload 4, 2) := by decide +kernel
theorem dX12_summed_59 : decode cX12_summed 59 = .ok (.iload_n 3, 1) := by decide +kernel
theorem dX12_summed_60 : decode cX12_summed 60 = .ok (.ifCond .eq 13, 3) := by decide +kernel
theorem dX12_summed_63 : decode cX12_summed 63 = .ok (.aload_n 0, 1) := by decide +kernel
theorem dX12_summed_64 : decode cX12_summed 64 = .ok (.getfield 29, 3) := by decide +kernel
theorem dX12_summed_67 : decode cX12_summed 67 = .ok (.iload 5, 2) := by decide +kernel
theorem dX12_summed_69 : decode cX12_summed 69 = .ok (.iaload, 1) := by decide +kernel
theorem dX12_summed_70 : decode cX12_summed 70 = .ok (.goto 4, 3) := by decide +kernel
theorem dX12_summed_73 : decode cX12_summed 73 = .ok (.iconst 1, 1) := by decide +kernel
theorem dX12_summed_74 : decode cX12_summed 74 = .ok (.iadd, 1) := by decide +kernel
theorem dX12_summed_75 : decode cX12_summed 75 = .ok (.istore 4, 2) := by decide +kernel
theorem dX12_summed_77 : decode cX12_summed 77 = .ok (.iinc 5 1, 3) := by decide +kernel
theorem dX12_summed_80 : decode cX12_summed 80 = .ok (.goto (-43), 3) := by decide +kernel
theorem dX12_summed_83 : decode cX12_summed 83 = .ok (.iload 4, 2) := by decide +kernel
theorem dX12_summed_85 : decode cX12_summed 85 = .ok (.ireturn, 1) := by decide +kernel
theorem dX12_by_0 : decode cX12_by 0 = .ok (.aload_n 0, 1) := by decide +kernel
theorem dX12_by_1 : decode cX12_by 1 = .ok (.iload_n 1, 1) := by decide +kernel
theorem dX12_by_2 : decode cX12_by 2 = .ok (.iload_n 2, 1) := by decide +kernel
theorem dX12_by_3 : decode cX12_by 3 = .ok (.iconst 0, 1) := by decide +kernel
theorem dX12_by_4 : decode cX12_by 4 = .ok (.invokevirtual 373, 3) := by decide +kernel
theorem dX12_by_7 : decode cX12_by 7 = .ok (.ireturn, 1) := by decide +kernel
theorem dX12_signedBy_0 : decode cX12_signedBy 0 = .ok (.aload_n 0, 1) := by decide +kernel
theorem dX12_signedBy_1 : decode cX12_signedBy 1 = .ok (.iload_n 1, 1) := by decide +kernel
theorem dX12_signedBy_2 : decode cX12_signedBy 2 = .ok (.iload_n 2, 1) := by decide +kernel
theorem dX12_signedBy_3 : decode cX12_signedBy 3 = .ok (.iconst 1, 1) := by decide +kernel
theorem dX12_signedBy_4 : decode cX12_signedBy 4 = .ok (.invokevirtual 373, 3) := by decide +kernel
theorem dX12_signedBy_7 : decode cX12_signedBy 7 = .ok (.ireturn, 1) := by decide +kernel
theorem dX12_partials_0 : decode cX12_partials 0 = .ok (.iload_n 3, 1) := by decide +kernel
theorem dX12_partials_1 : decode cX12_partials 1 = .ok (.ifCond .ne 5, 3) := by decide +kernel
theorem dX12_partials_4 : decode cX12_partials 4 = .ok (.iconst 1, 1) := by decide +kernel
theorem dX12_partials_5 : decode cX12_partials 5 = .ok (.ireturn, 1) := by decide +kernel
theorem dX12_partials_6 : decode cX12_partials 6 = .ok (.iconst 0, 1) := by decide +kernel
theorem dX12_partials_7 : decode cX12_partials 7 = .ok (.istore 4, 2) := by decide +kernel
theorem dX12_partials_9 : decode cX12_partials 9 = .ok (.iload_n 1, 1) := by decide +kernel
theorem dX12_partials_10 : decode cX12_partials 10 = .ok (.istore 5, 2) := by decide +kernel
theorem dX12_partials_12 : decode cX12_partials 12 = .ok (.iload 5, 2) := by decide +kernel
theorem dX12_partials_14 : decode cX12_partials 14 = .ok (.aload_n 0, 1) := by decide +kernel
theorem dX12_partials_15 : decode cX12_partials 15 = .ok (.getfield 124, 3) := by decide +kernel
theorem dX12_partials_18 : decode cX12_partials 18 = .ok (.if_icmp .ge 89, 3) := by decide +kernel
theorem dX12_partials_21 : decode cX12_partials 21 = .ok (.iload_n 2, 1) := by decide +kernel
theorem dX12_partials_22 : decode cX12_partials 22 = .ok (.iload 5, 2) := by decide +kernel
theorem dX12_partials_24 : decode cX12_partials 24 = .ok (.invokestatic 158, 3) := by decide +kernel
theorem dX12_partials_27 : decode cX12_partials 27 = .ok (.ifCond .eq 6, 3) := by decide +kernel
theorem dX12_partials_30 : decode cX12_partials 30 = .ok (.goto 71, 3) := by decide +kernel
theorem dX12_partials_33 : decode cX12_partials 33 = .ok (.iload 5, 2) := by decide +kernel
theorem dX12_partials_35 : decode cX12_partials 35 = .ok (.iconst 1, 1) := by decide +kernel
theorem dX12_partials_36 : decode cX12_partials 36 = .ok (.iadd, 1) := by decide +kernel
theorem dX12_partials_37 : decode cX12_partials 37 = .ok (.istore 6, 2) := by decide +kernel
theorem dX12_partials_39 : decode cX12_partials 39 = .ok (.iload 6, 2) := by decide +kernel
theorem dX12_partials_41 : decode cX12_partials 41 = .ok (.aload_n 0, 1) := by decide +kernel
theorem dX12_partials_42 : decode cX12_partials 42 = .ok (.getfield 124, 3) := by decide +kernel
theorem dX12_partials_45 : decode cX12_partials 45 = .ok (.if_icmp .ge 56, 3) := by decide +kernel
theorem dX12_partials_48 : decode cX12_partials 48 = .ok (.iload_n 2, 1) := by decide +kernel
theorem dX12_partials_49 : decode cX12_partials 49 = .ok (.iload 6, 2) := by decide +kernel
theorem dX12_partials_51 : decode cX12_partials 51 = .ok (.invokestatic 158, 3) := by decide +kernel
theorem dX12_partials_54 : decode cX12_partials 54 = .ok (.ifCond .ne 41, 3) := by decide +kernel
theorem dX12_partials_57 : decode cX12_partials 57 = .ok (.aload_n 0, 1) := by decide +kernel
theorem dX12_partials_58 : decode cX12_partials 58 = .ok (.iload 5, 2) := by decide +kernel
theorem dX12_partials_60 : decode cX12_partials 60 = .ok (.iload 6, 2) := by decide +kernel
theorem dX12_partials_62 : decode cX12_partials 62 = .ok (.invokevirtual 184, 3) := by decide +kernel
theorem dX12_partials_65 : decode cX12_partials 65 = .ok (.ifCond .eq 30, 3) := by decide +kernel
theorem dX12_partials_68 : decode cX12_partials 68 = .ok (.iload 4, 2) := by decide +kernel
theorem dX12_partials_70 : decode cX12_partials 70 = .ok (.aload_n 0, 1) := by decide +kernel
theorem dX12_partials_71 : decode cX12_partials 71 = .ok (.iload 5, 2) := by decide +kernel
theorem dX12_partials_73 : decode cX12_partials 73 = .ok (.iconst 1, 1) := by decide +kernel
theorem dX12_partials_74 : decode cX12_partials 74 = .ok (.iadd, 1) := by decide +kernel
theorem dX12_partials_75 : decode cX12_partials 75 = .ok (.iload_n 2, 1) := by decide +kernel
theorem dX12_partials_76 : decode cX12_partials 76 = .ok (.iconst 1, 1) := by decide +kernel
theorem dX12_partials_77 : decode cX12_partials 77 = .ok (.iload 5, 2) := by decide +kernel
theorem dX12_partials_79 : decode cX12_partials 79 = .ok (.ishl, 1) := by decide +kernel
theorem dX12_partials_80 : decode cX12_partials 80 = .ok (.ior, 1) := by decide +kernel
theorem dX12_partials_81 : decode cX12_partials 81 = .ok (.iconst 1, 1) := by decide +kernel
theorem dX12_partials_82 : decode cX12_partials 82 = .ok (.iload 6, 2) := by decide +kernel
theorem dX12_partials_84 : decode cX12_partials 84 = .ok (.ishl, 1) := by decide +kernel
theorem dX12_partials_85 : decode cX12_partials 85 = .ok (.ior, 1) := by decide +kernel
theorem dX12_partials_86 : decode cX12_partials 86 = .ok (.iload_n 3, 1) := by decide +kernel
theorem dX12_partials_87 : decode cX12_partials 87 = .ok (.iconst 1, 1) := by decide +kernel
theorem dX12_partials_88 : decode cX12_partials 88 = .ok (.isub, 1) := by decide +kernel
theorem dX12_partials_89 : decode cX12_partials 89 = .ok (.invokevirtual 377, 3) := by decide +kernel
theorem dX12_partials_92 : decode cX12_partials 92 = .ok (.iadd, 1) := by decide +kernel
theorem dX12_partials_93 : decode cX12_partials 93 = .ok (.istore 4, 2) := by decide +kernel
theorem dX12_partials_95 : decode cX12_partials 95 = .ok (.iinc 6 1, 3) := by decide +kernel
theorem dX12_partials_98 : decode cX12_partials 98 = .ok (.goto (-59), 3) := by decide +kernel
theorem dX12_partials_101 : decode cX12_partials 101 = .ok (.iinc 5 1, 3) := by decide +kernel
theorem dX12_partials_104 : decode cX12_partials 104 = .ok (.goto (-92), 3) := by decide +kernel
theorem dX12_partials_107 : decode cX12_partials 107 = .ok (.iload 4, 2) := by decide +kernel
theorem dX12_partials_109 : decode cX12_partials 109 = .ok (.ireturn, 1) := by decide +kernel
theorem dX12_partial_0 : decode cX12_partial 0 = .ok (.aload_n 0, 1) := by decide +kernel
theorem dX12_partial_1 : decode cX12_partial 1 = .ok (.iload_n 1, 1) := by decide +kernel
theorem dX12_partial_2 : decode cX12_partial 2 = .ok (.ifCond .ge 7, 3) := by decide +kernel
theorem dX12_partial_5 : decode cX12_partial 5 = .ok (.iconst 1, 1) := by decide +kernel
theorem dX12_partial_6 : decode cX12_partial 6 = .ok (.goto 4, 3) := by decide +kernel
theorem dX12_partial_9 : decode cX12_partial 9 = .ok (.iconst 0, 1) := by decide +kernel
theorem dX12_partial_10 : decode cX12_partial 10 = .ok (.invokevirtual 310, 3) := by decide +kernel
theorem dX12_partial_13 : decode cX12_partial 13 = .ok (.ifCond .eq 27, 3) := by decide +kernel
theorem dX12_partial_16 : decode cX12_partial 16 = .ok (.iconst 2, 1) := by decide +kernel
theorem dX12_partial_17 : decode cX12_partial 17 = .ok (.iload_n 1, 1) := by decide +kernel
theorem dX12_partial_18 : decode cX12_partial 18 = .ok (.imul, 1) := by decide +kernel
theorem dX12_partial_19 : decode cX12_partial 19 = .ok (.aload_n 0, 1) := by decide +kernel
theorem dX12_partial_20 : decode cX12_partial 20 = .ok (.getfield 124, 3) := by decide +kernel
theorem dX12_partial_23 : decode cX12_partial 23 = .ok (.if_icmp .le 7, 3) := by decide +kernel
theorem dX12_partial_26 : decode cX12_partial 26 = .ok (.iconst 0, 1) := by decide +kernel
theorem dX12_partial_27 : decode cX12_partial 27 = .ok (.goto 14, 3) := by decide +kernel
theorem dX12_partial_30 : decode cX12_partial 30 = .ok (.aload_n 0, 1) := by decide +kernel
theorem dX12_partial_31 : decode cX12_partial 31 = .ok (.iconst 0, 1) := by decide +kernel
theorem dX12_partial_32 : decode cX12_partial 32 = .ok (.iconst 0, 1) := by decide +kernel
theorem dX12_partial_33 : decode cX12_partial 33 = .ok (.iload_n 1, 1) := by decide +kernel
theorem dX12_partial_34 : decode cX12_partial 34 = .ok (.invokevirtual 377, 3) := by decide +kernel
theorem dX12_partial_37 : decode cX12_partial 37 = .ok (.goto 4, 3) := by decide +kernel
theorem dX12_partial_40 : decode cX12_partial 40 = .ok (.iconst (-1), 1) := by decide +kernel
theorem dX12_partial_41 : decode cX12_partial 41 = .ok (.ireturn, 1) := by decide +kernel
theorem dX12_countsSub_0 : decode cX12_countsSub 0 = .ok (.aload_n 0, 1) := by decide +kernel
theorem dX12_countsSub_1 : decode cX12_countsSub 1 = .ok (.iconst 0, 1) := by decide +kernel
theorem dX12_countsSub_2 : decode cX12_countsSub 2 = .ok (.putfield 197, 3) := by decide +kernel
theorem dX12_countsSub_5 : decode cX12_countsSub 5 = .ok (.iconst 0, 1) := by decide +kernel
theorem dX12_countsSub_6 : decode cX12_countsSub 6 = .ok (.istore_n 1, 1) := by decide +kernel
theorem dX12_countsSub_7 : decode cX12_countsSub 7 = .ok (.iload_n 1, 1) := by decide +kernel
theorem dX12_countsSub_8 : decode cX12_countsSub 8 = .ok (.aload_n 0, 1) := by decide +kernel
theorem dX12_countsSub_9 : decode cX12_countsSub 9 = .ok (.getfield 124, 3) := by decide +kernel
theorem dX12_countsSub_12 : decode cX12_countsSub 12 = .ok (.if_icmp .ge 52, 3) := by decide +kernel
theorem dX12_countsSub_15 : decode cX12_countsSub 15 = .ok (.aload_n 0, 1) := by decide +kernel
theorem dX12_countsSub_16 : decode cX12_countsSub 16 = .ok (.getfield 41, 3) := by decide +kernel
theorem dX12_countsSub_19 : decode cX12_countsSub 19 = .ok (.iload_n 1, 1) := by decide +kernel
theorem dX12_countsSub_20 : decode cX12_countsSub 20 = .ok (.iaload, 1) := by decide +kernel
theorem dX12_countsSub_21 : decode cX12_countsSub 21 = .ok (.iload_n 1, 1) := by decide +kernel
theorem dX12_countsSub_22 : decode cX12_countsSub 22 = .ok (.if_icmp .ge 6, 3) := by decide +kernel
theorem dX12_countsSub_25 : decode cX12_countsSub 25 = .ok (.goto 33, 3) := by decide +kernel
theorem dX12_countsSub_28 : decode cX12_countsSub 28 = .ok (.aload_n 0, 1) := by decide +kernel
theorem dX12_countsSub_29 : decode cX12_countsSub 29 = .ok (.getfield 44, 3) := by decide +kernel
theorem dX12_countsSub_32 : decode cX12_countsSub 32 = .ok (.aload_n 0, 1) := by decide +kernel
theorem dX12_countsSub_33 : decode cX12_countsSub 33 = .ok (.getfield 197, 3) := by decide +kernel
theorem dX12_countsSub_36 : decode cX12_countsSub 36 = .ok (.aload_n 0, 1) := by decide +kernel
theorem dX12_countsSub_37 : decode cX12_countsSub 37 = .ok (.iload_n 1, 1) := by decide +kernel
theorem dX12_countsSub_38 : decode cX12_countsSub 38 = .ok (.aload_n 0, 1) := by decide +kernel
theorem dX12_countsSub_39 : decode cX12_countsSub 39 = .ok (.getfield 41, 3) := by decide +kernel
theorem dX12_countsSub_42 : decode cX12_countsSub 42 = .ok (.iload_n 1, 1) := by decide +kernel
theorem dX12_countsSub_43 : decode cX12_countsSub 43 = .ok (.iaload, 1) := by decide +kernel
theorem dX12_countsSub_44 : decode cX12_countsSub 44 = .ok (.invokevirtual 203, 3) := by decide +kernel
theorem dX12_countsSub_47 : decode cX12_countsSub 47 = .ok (.iastore, 1) := by decide +kernel
theorem dX12_countsSub_48 : decode cX12_countsSub 48 = .ok (.aload_n 0, 1) := by decide +kernel
theorem dX12_countsSub_49 : decode cX12_countsSub 49 = .ok (.dup, 1) := by decide +kernel
theorem dX12_countsSub_50 : decode cX12_countsSub 50 = .ok (.getfield 197, 3) := by decide +kernel
theorem dX12_countsSub_53 : decode cX12_countsSub 53 = .ok (.iconst 1, 1) := by decide +kernel
theorem dX12_countsSub_54 : decode cX12_countsSub 54 = .ok (.iadd, 1) := by decide +kernel
theorem dX12_countsSub_55 : decode cX12_countsSub 55 = .ok (.putfield 197, 3) := by decide +kernel
theorem dX12_countsSub_58 : decode cX12_countsSub 58 = .ok (.iinc 1 1, 3) := by decide +kernel
theorem dX12_countsSub_61 : decode cX12_countsSub 61 = .ok (.goto (-54), 3) := by decide +kernel
theorem dX12_countsSub_64 : decode cX12_countsSub 64 = .ok (.aload_n 0, 1) := by decide +kernel
theorem dX12_countsSub_65 : decode cX12_countsSub 65 = .ok (.getfield 69, 3) := by decide +kernel
theorem dX12_countsSub_68 : decode cX12_countsSub 68 = .ok (.iconst 0, 1) := by decide +kernel
theorem dX12_countsSub_69 : decode cX12_countsSub 69 = .ok (.dup2, 1) := by decide +kernel
theorem dX12_countsSub_70 : decode cX12_countsSub 70 = .ok (.iaload, 1) := by decide +kernel
theorem dX12_countsSub_71 : decode cX12_countsSub 71 = .ok (.iconst 1, 1) := by decide +kernel
theorem dX12_countsSub_72 : decode cX12_countsSub 72 = .ok (.iadd, 1) := by decide +kernel
theorem dX12_countsSub_73 : decode cX12_countsSub 73 = .ok (.iastore, 1) := by decide +kernel
theorem dX12_countsSub_74 : decode cX12_countsSub 74 = .ok (.aload_n 0, 1) := by decide +kernel
theorem dX12_countsSub_75 : decode cX12_countsSub 75 = .ok (.getfield 69, 3) := by decide +kernel
theorem dX12_countsSub_78 : decode cX12_countsSub 78 = .ok (.iconst 1, 1) := by decide +kernel
theorem dX12_countsSub_79 : decode cX12_countsSub 79 = .ok (.dup2, 1) := by decide +kernel
theorem dX12_countsSub_80 : decode cX12_countsSub 80 = .ok (.iaload, 1) := by decide +kernel
theorem dX12_countsSub_81 : decode cX12_countsSub 81 = .ok (.aload_n 0, 1) := by decide +kernel
theorem dX12_countsSub_82 : decode cX12_countsSub 82 = .ok (.invokevirtual 175, 3) := by decide +kernel
theorem dX12_countsSub_85 : decode cX12_countsSub 85 = .ok (.iadd, 1) := by decide +kernel
theorem dX12_countsSub_86 : decode cX12_countsSub 86 = .ok (.iastore, 1) := by decide +kernel
theorem dX12_countsSub_87 : decode cX12_countsSub 87 = .ok (.aload_n 0, 1) := by decide +kernel
theorem dX12_countsSub_88 : decode cX12_countsSub 88 = .ok (.getfield 69, 3) := by decide +kernel
theorem dX12_countsSub_91 : decode cX12_countsSub 91 = .ok (.iconst 2, 1) := by decide +kernel
theorem dX12_countsSub_92 : decode cX12_countsSub 92 = .ok (.dup2, 1) := by decide +kernel
theorem dX12_countsSub_93 : decode cX12_countsSub 93 = .ok (.iaload, 1) := by decide +kernel
theorem dX12_countsSub_94 : decode cX12_countsSub 94 = .ok (.aload_n 0, 1) := by decide +kernel
theorem dX12_countsSub_95 : decode cX12_countsSub 95 = .ok (.aload_n 0, 1) := by decide +kernel
theorem dX12_countsSub_96 : decode cX12_countsSub 96 = .ok (.getfield 380, 3) := by decide +kernel
theorem dX12_countsSub_99 : decode cX12_countsSub 99 = .ok (.invokevirtual 295, 3) := by decide +kernel
theorem dX12_countsSub_102 : decode cX12_countsSub 102 = .ok (.ifCond .ne 7, 3) := by decide +kernel
theorem dX12_countsSub_105 : decode cX12_countsSub 105 = .ok (.iconst 1, 1) := by decide +kernel
theorem dX12_countsSub_106 : decode cX12_countsSub 106 = .ok (.goto 4, 3) := by decide +kernel
theorem dX12_countsSub_109 : decode cX12_countsSub 109 = .ok (.iconst 0, 1) := by decide +kernel
theorem dX12_countsSub_110 : decode cX12_countsSub 110 = .ok (.iadd, 1) := by decide +kernel
theorem dX12_countsSub_111 : decode cX12_countsSub 111 = .ok (.iastore, 1) := by decide +kernel
theorem dX12_countsSub_112 : decode cX12_countsSub 112 = .ok (.aload_n 0, 1) := by decide +kernel
theorem dX12_countsSub_113 : decode cX12_countsSub 113 = .ok (.getfield 69, 3) := by decide +kernel
theorem dX12_countsSub_116 : decode cX12_countsSub 116 = .ok (.iconst 3, 1) := by decide +kernel
theorem dX12_countsSub_117 : decode cX12_countsSub 117 = .ok (.dup2, 1) := by decide +kernel
theorem dX12_countsSub_118 : decode cX12_countsSub 118 = .ok (.iaload, 1) := by decide +kernel
theorem dX12_countsSub_119 : decode cX12_countsSub 119 = .ok (.aload_n 0, 1) := by decide +kernel
theorem dX12_countsSub_120 : decode cX12_countsSub 120 = .ok (.aload_n 0, 1) := by decide +kernel
theorem dX12_countsSub_121 : decode cX12_countsSub 121 = .ok (.getfield 380, 3) := by decide +kernel
theorem dX12_countsSub_124 : decode cX12_countsSub 124 = .ok (.iconst (-1), 1) := by decide +kernel
theorem dX12_countsSub_125 : decode cX12_countsSub 125 = .ok (.invokevirtual 298, 3) := by decide +kernel
theorem dX12_countsSub_128 : decode cX12_countsSub 128 = .ok (.iconst 1, 1) := by decide +kernel
theorem dX12_countsSub_129 : decode cX12_countsSub 129 = .ok (.if_icmp .ne 7, 3) := by decide +kernel
theorem dX12_countsSub_132 : decode cX12_countsSub 132 = .ok (.iconst 1, 1) := by decide +kernel
theorem dX12_countsSub_133 : decode cX12_countsSub 133 = .ok (.goto 4, 3) := by decide +kernel
theorem dX12_countsSub_136 : decode cX12_countsSub 136 = .ok (.iconst 0, 1) := by decide +kernel
theorem dX12_countsSub_137 : decode cX12_countsSub 137 = .ok (.iadd, 1) := by decide +kernel
theorem dX12_countsSub_138 : decode cX12_countsSub 138 = .ok (.iastore, 1) := by decide +kernel
theorem dX12_countsSub_139 : decode cX12_countsSub 139 = .ok (.return_, 1) := by decide +kernel
theorem dX12_laysSub_0 : decode cX12_laysSub 0 = .ok (.aload_n 0, 1) := by decide +kernel
theorem dX12_laysSub_1 : decode cX12_laysSub 1 = .ok (.invokevirtual 168, 3) := by decide +kernel
theorem dX12_laysSub_4 : decode cX12_laysSub 4 = .ok (.istore_n 1, 1) := by decide +kernel
theorem dX12_laysSub_5 : decode cX12_laysSub 5 = .ok (.iload_n 1, 1) := by decide +kernel
theorem dX12_laysSub_6 : decode cX12_laysSub 6 = .ok (.ifCond .ge 8, 3) := by decide +kernel
theorem dX12_laysSub_9 : decode cX12_laysSub 9 = .ok (.aload_n 0, 1) := by decide +kernel
theorem dX12_laysSub_10 : decode cX12_laysSub 10 = .ok (.invokevirtual 383, 3) := by decide +kernel
theorem dX12_laysSub_13 : decode cX12_laysSub 13 = .ok (.return_, 1) := by decide +kernel
theorem dX12_laysSub_14 : decode cX12_laysSub 14 = .ok (.iload_n 1, 1) := by decide +kernel
theorem dX12_laysSub_15 : decode cX12_laysSub 15 = .ok (.iconst 1, 1) := by decide +kernel
theorem dX12_laysSub_16 : decode cX12_laysSub 16 = .ok (.iadd, 1) := by decide +kernel
theorem dX12_laysSub_17 : decode cX12_laysSub 17 = .ok (.istore_n 2, 1) := by decide +kernel
theorem dX12_laysSub_18 : decode cX12_laysSub 18 = .ok (.iload_n 2, 1) := by decide +kernel
theorem dX12_laysSub_19 : decode cX12_laysSub 19 = .ok (.aload_n 0, 1) := by decide +kernel
theorem dX12_laysSub_20 : decode cX12_laysSub 20 = .ok (.getfield 124, 3) := by decide +kernel
theorem dX12_laysSub_23 : decode cX12_laysSub 23 = .ok (.if_icmp .ge 73, 3) := by decide +kernel
theorem dX12_laysSub_26 : decode cX12_laysSub 26 = .ok (.aload_n 0, 1) := by decide +kernel
theorem dX12_laysSub_27 : decode cX12_laysSub 27 = .ok (.getfield 155, 3) := by decide +kernel
theorem dX12_laysSub_30 : decode cX12_laysSub 30 = .ok (.iload_n 2, 1) := by decide +kernel
theorem dX12_laysSub_31 : decode cX12_laysSub 31 = .ok (.invokestatic 158, 3) := by decide +kernel
theorem dX12_laysSub_34 : decode cX12_laysSub 34 = .ok (.ifCond .eq 56, 3) := by decide +kernel
theorem dX12_laysSub_37 : decode cX12_laysSub 37 = .ok (.aload_n 0, 1) := by decide +kernel
theorem dX12_laysSub_38 : decode cX12_laysSub 38 = .ok (.getfield 41, 3) := by decide +kernel
theorem dX12_laysSub_41 : decode cX12_laysSub 41 = .ok (.iload_n 2, 1) := by decide +kernel
theorem dX12_laysSub_42 : decode cX12_laysSub 42 = .ok (.iaload, 1) := by decide +kernel
theorem dX12_laysSub_43 : decode cX12_laysSub 43 = .ok (.ifCond .ge 47, 3) := by decide +kernel
theorem dX12_laysSub_46 : decode cX12_laysSub 46 = .ok (.aload_n 0, 1) := by decide +kernel
theorem dX12_laysSub_47 : decode cX12_laysSub 47 = .ok (.iload_n 1, 1) := by decide +kernel
theorem dX12_laysSub_48 : decode cX12_laysSub 48 = .ok (.iload_n 2, 1) := by decide +kernel
theorem dX12_laysSub_49 : decode cX12_laysSub 49 = .ok (.invokevirtual 184, 3) := by decide +kernel
theorem dX12_laysSub_52 : decode cX12_laysSub 52 = .ok (.ifCond .ne 6, 3) := by decide +kernel
theorem dX12_laysSub_55 : decode cX12_laysSub 55 = .ok (.goto 35, 3) := by decide +kernel
theorem dX12_laysSub_58 : decode cX12_laysSub 58 = .ok (.aload_n 0, 1) := by decide +kernel
theorem dX12_laysSub_59 : decode cX12_laysSub 59 = .ok (.getfield 41, 3) := by decide +kernel
theorem dX12_laysSub_62 : decode cX12_laysSub 62 = .ok (.iload_n 1, 1) := by decide +kernel
theorem dX12_laysSub_63 : decode cX12_laysSub 63 = .ok (.iload_n 2, 1) := by decide +kernel
theorem dX12_laysSub_64 : decode cX12_laysSub 64 = .ok (.iastore, 1) := by decide +kernel
theorem dX12_laysSub_65 : decode cX12_laysSub 65 = .ok (.aload_n 0, 1) := by decide +kernel
theorem dX12_laysSub_66 : decode cX12_laysSub 66 = .ok (.getfield 41, 3) := by decide +kernel
theorem dX12_laysSub_69 : decode cX12_laysSub 69 = .ok (.iload_n 2, 1) := by decide +kernel
theorem dX12_laysSub_70 : decode cX12_laysSub 70 = .ok (.iload_n 1, 1) := by decide +kernel
theorem dX12_laysSub_71 : decode cX12_laysSub 71 = .ok (.iastore, 1) := by decide +kernel
theorem dX12_laysSub_72 : decode cX12_laysSub 72 = .ok (.aload_n 0, 1) := by decide +kernel
theorem dX12_laysSub_73 : decode cX12_laysSub 73 = .ok (.invokevirtual 386, 3) := by decide +kernel
theorem dX12_laysSub_76 : decode cX12_laysSub 76 = .ok (.aload_n 0, 1) := by decide +kernel
theorem dX12_laysSub_77 : decode cX12_laysSub 77 = .ok (.getfield 41, 3) := by decide +kernel
theorem dX12_laysSub_80 : decode cX12_laysSub 80 = .ok (.iload_n 1, 1) := by decide +kernel
theorem dX12_laysSub_81 : decode cX12_laysSub 81 = .ok (.iconst (-1), 1) := by decide +kernel
theorem dX12_laysSub_82 : decode cX12_laysSub 82 = .ok (.iastore, 1) := by decide +kernel
theorem dX12_laysSub_83 : decode cX12_laysSub 83 = .ok (.aload_n 0, 1) := by decide +kernel
theorem dX12_laysSub_84 : decode cX12_laysSub 84 = .ok (.getfield 41, 3) := by decide +kernel
theorem dX12_laysSub_87 : decode cX12_laysSub 87 = .ok (.iload_n 2, 1) := by decide +kernel
theorem dX12_laysSub_88 : decode cX12_laysSub 88 = .ok (.iconst (-1), 1) := by decide +kernel
theorem dX12_laysSub_89 : decode cX12_laysSub 89 = .ok (.iastore, 1) := by decide +kernel
theorem dX12_laysSub_90 : decode cX12_laysSub 90 = .ok (.iinc 2 1, 3) := by decide +kernel
theorem dX12_laysSub_93 : decode cX12_laysSub 93 = .ok (.goto (-75), 3) := by decide +kernel
theorem dX12_laysSub_96 : decode cX12_laysSub 96 = .ok (.return_, 1) := by decide +kernel
theorem dX12_sub_0 : decode cX12_sub 0 = .ok (.aload_n 0, 1) := by decide +kernel
theorem dX12_sub_1 : decode cX12_sub 1 = .ok (.iload_n 1, 1) := by decide +kernel
theorem dX12_sub_2 : decode cX12_sub 2 = .ok (.iconst 0, 1) := by decide +kernel
theorem dX12_sub_3 : decode cX12_sub 3 = .ok (.aload_n 0, 1) := by decide +kernel
theorem dX12_sub_4 : decode cX12_sub 4 = .ok (.invokevirtual 292, 3) := by decide +kernel
theorem dX12_sub_7 : decode cX12_sub 7 = .ok (.invokestatic 140, 3) := by decide +kernel
theorem dX12_sub_10 : decode cX12_sub 10 = .ok (.ifCond .eq 16, 3) := by decide +kernel
theorem dX12_sub_13 : decode cX12_sub 13 = .ok (.iload_n 2, 1) := by decide +kernel
theorem dX12_sub_14 : decode cX12_sub 14 = .ok (.iconst 0, 1) := by decide +kernel
theorem dX12_sub_15 : decode cX12_sub 15 = .ok (.iconst 3, 1) := by decide +kernel
theorem dX12_sub_16 : decode cX12_sub 16 = .ok (.invokestatic 140, 3) := by decide +kernel
theorem dX12_sub_19 : decode cX12_sub 19 = .ok (.ifCond .eq 7, 3) := by decide +kernel
theorem dX12_sub_22 : decode cX12_sub 22 = .ok (.iconst 0, 1) := by decide +kernel
theorem dX12_sub_23 : decode cX12_sub 23 = .ok (.goto 4, 3) := by decide +kernel
theorem dX12_sub_26 : decode cX12_sub 26 = .ok (.iconst 1, 1) := by decide +kernel
theorem dX12_sub_27 : decode cX12_sub 27 = .ok (.invokevirtual 310, 3) := by decide +kernel
theorem dX12_sub_30 : decode cX12_sub 30 = .ok (.ifCond .ne 5, 3) := by decide +kernel
theorem dX12_sub_33 : decode cX12_sub 33 = .ok (.iconst (-1), 1) := by decide +kernel
theorem dX12_sub_34 : decode cX12_sub 34 = .ok (.ireturn, 1) := by decide +kernel
theorem dX12_sub_35 : decode cX12_sub 35 = .ok (.iconst 0, 1) := by decide +kernel
theorem dX12_sub_36 : decode cX12_sub 36 = .ok (.istore_n 3, 1) := by decide +kernel
theorem dX12_sub_37 : decode cX12_sub 37 = .ok (.iload_n 3, 1) := by decide +kernel
theorem dX12_sub_38 : decode cX12_sub 38 = .ok (.iconst 4, 1) := by decide +kernel
theorem dX12_sub_39 : decode cX12_sub 39 = .ok (.if_icmp .ge 16, 3) := by decide +kernel
theorem dX12_sub_42 : decode cX12_sub 42 = .ok (.aload_n 0, 1) := by decide +kernel
theorem dX12_sub_43 : decode cX12_sub 43 = .ok (.getfield 69, 3) := by decide +kernel
theorem dX12_sub_46 : decode cX12_sub 46 = .ok (.iload_n 3, 1) := by decide +kernel
theorem dX12_sub_47 : decode cX12_sub 47 = .ok (.iconst 0, 1) := by decide +kernel
theorem dX12_sub_48 : decode cX12_sub 48 = .ok (.iastore, 1) := by decide +kernel
theorem dX12_sub_49 : decode cX12_sub 49 = .ok (.iinc 3 1, 3) := by decide +kernel
theorem dX12_sub_52 : decode cX12_sub 52 = .ok (.goto (-15), 3) := by decide +kernel
theorem dX12_sub_55 : decode cX12_sub 55 = .ok (.aload_n 0, 1) := by decide +kernel
theorem dX12_sub_56 : decode cX12_sub 56 = .ok (.iload_n 1, 1) := by decide +kernel
theorem dX12_sub_57 : decode cX12_sub 57 = .ok (.putfield 380, 3) := by decide +kernel
theorem dX12_sub_60 : decode cX12_sub 60 = .ok (.iconst 0, 1) := by decide +kernel
theorem dX12_sub_61 : decode cX12_sub 61 = .ok (.istore_n 3, 1) := by decide +kernel
theorem dX12_sub_62 : decode cX12_sub 62 = .ok (.iconst 0, 1) := by decide +kernel
theorem dX12_sub_63 : decode cX12_sub 63 = .ok (.istore 4, 2) := by decide +kernel
theorem dX12_sub_65 : decode cX12_sub 65 = .ok (.iload 4, 2) := by decide +kernel
theorem dX12_sub_67 : decode cX12_sub 67 = .ok (.aload_n 0, 1) := by decide +kernel
theorem dX12_sub_68 : decode cX12_sub 68 = .ok (.getfield 124, 3) := by decide +kernel
theorem dX12_sub_71 : decode cX12_sub 71 = .ok (.if_icmp .ge 34, 3) := by decide +kernel
theorem dX12_sub_74 : decode cX12_sub 74 = .ok (.iload_n 3, 1) := by decide +kernel
theorem dX12_sub_75 : decode cX12_sub 75 = .ok (.iload_n 1, 1) := by decide +kernel
theorem dX12_sub_76 : decode cX12_sub 76 = .ok (.aload_n 0, 1) := by decide +kernel
theorem dX12_sub_77 : decode cX12_sub 77 = .ok (.getfield 22, 3) := by decide +kernel
theorem dX12_sub_80 : decode cX12_sub 80 = .ok (.iload 4, 2) := by decide +kernel
theorem dX12_sub_82 : decode cX12_sub 82 = .ok (.iaload, 1) := by decide +kernel
theorem dX12_sub_83 : decode cX12_sub 83 = .ok (.invokestatic 158, 3) := by decide +kernel
theorem dX12_sub_86 : decode cX12_sub 86 = .ok (.ifCond .eq 10, 3) := by decide +kernel
theorem dX12_sub_89 : decode cX12_sub 89 = .ok (.iconst 1, 1) := by decide +kernel
theorem dX12_sub_90 : decode cX12_sub 90 = .ok (.iload 4, 2) := by decide +kernel
theorem dX12_sub_92 : decode cX12_sub 92 = .ok (.ishl, 1) := by decide +kernel
theorem dX12_sub_93 : decode cX12_sub 93 = .ok (.goto 4, 3) := by decide +kernel
theorem dX12_sub_96 : decode cX12_sub 96 = .ok (.iconst 0, 1) := by decide +kernel
theorem dX12_sub_97 : decode cX12_sub 97 = .ok (.ior, 1) := by decide +kernel
theorem dX12_sub_98 : decode cX12_sub 98 = .ok (.istore_n 3, 1) := by decide +kernel
theorem dX12_sub_99 : decode cX12_sub 99 = .ok (.iinc 4 1, 3) := by decide +kernel
theorem dX12_sub_102 : decode cX12_sub 102 = .ok (.goto (-37), 3) := by decide +kernel
theorem dX12_sub_105 : decode cX12_sub 105 = .ok (.aload_n 0, 1) := by decide +kernel
theorem dX12_sub_106 : decode cX12_sub 106 = .ok (.iload_n 3, 1) := by decide +kernel
theorem dX12_sub_107 : decode cX12_sub 107 = .ok (.invokevirtual 190, 3) := by decide +kernel
theorem dX12_sub_110 : decode cX12_sub 110 = .ok (.aload_n 0, 1) := by decide +kernel
theorem dX12_sub_111 : decode cX12_sub 111 = .ok (.invokevirtual 386, 3) := by decide +kernel
theorem dX12_sub_114 : decode cX12_sub 114 = .ok (.aload_n 0, 1) := by decide +kernel
theorem dX12_sub_115 : decode cX12_sub 115 = .ok (.getfield 69, 3) := by decide +kernel
theorem dX12_sub_118 : decode cX12_sub 118 = .ok (.iload_n 2, 1) := by decide +kernel
theorem dX12_sub_119 : decode cX12_sub 119 = .ok (.iaload, 1) := by decide +kernel
theorem dX12_sub_120 : decode cX12_sub 120 = .ok (.ireturn, 1) := by decide +kernel
theorem dX12_worthOf_0 : decode cX12_worthOf 0 = .ok (.aload_n 0, 1) := by decide +kernel
theorem dX12_worthOf_1 : decode cX12_worthOf 1 = .ok (.getfield 29, 3) := by decide +kernel
theorem dX12_worthOf_4 : decode cX12_worthOf 4 = .ok (.iload_n 1, 1) := by decide +kernel
theorem dX12_worthOf_5 : decode cX12_worthOf 5 = .ok (.iaload, 1) := by decide +kernel
theorem dX12_worthOf_6 : decode cX12_worthOf 6 = .ok (.i2l, 1) := by decide +kernel
theorem dX12_worthOf_7 : decode cX12_worthOf 7 = .ok (.lstore_n 2, 1) := by decide +kernel
theorem dX12_worthOf_8 : decode cX12_worthOf 8 = .ok (.iconst 0, 1) := by decide +kernel
theorem dX12_worthOf_9 : decode cX12_worthOf 9 = .ok (.istore 4, 2) := by decide +kernel
theorem dX12_worthOf_11 : decode cX12_worthOf 11 = .ok (.iload 4, 2) := by decide +kernel
theorem dX12_worthOf_13 : decode cX12_worthOf 13 = .ok (.aload_n 0, 1) := by decide +kernel
theorem dX12_worthOf_14 : decode cX12_worthOf 14 = .ok (.getfield 124, 3) := by decide +kernel
theorem dX12_worthOf_17 : decode cX12_worthOf 17 = .ok (.if_icmp .ge 43, 3) := by decide +kernel
theorem dX12_worthOf_20 : decode cX12_worthOf 20 = .ok (.aload_n 0, 1) := by decide +kernel
theorem dX12_worthOf_21 : decode cX12_worthOf 21 = .ok (.iload_n 1, 1) := by decide +kernel
theorem dX12_worthOf_22 : decode cX12_worthOf 22 = .ok (.iload 4, 2) := by decide +kernel
theorem dX12_worthOf_24 : decode cX12_worthOf 24 = .ok (.invokevirtual 200, 3) := by decide +kernel
theorem dX12_worthOf_27 : decode cX12_worthOf 27 = .ok (.iload 4, 2) := by decide +kernel
theorem dX12_worthOf_29 : decode cX12_worthOf 29 = .ok (.if_icmp .le 25, 3) := by decide +kernel
theorem dX12_worthOf_32 : decode cX12_worthOf 32 = .ok (.lload_n 2, 1) := by decide +kernel
theorem dX12_worthOf_33 : decode cX12_worthOf 33 = .ok (.aload_n 0, 1) := by decide +kernel
theorem dX12_worthOf_34 : decode cX12_worthOf 34 = .ok (.getfield 16, 3) := by decide +kernel
theorem dX12_worthOf_37 : decode cX12_worthOf 37 = .ok (.aload_n 0, 1) := by decide +kernel
theorem dX12_worthOf_38 : decode cX12_worthOf 38 = .ok (.iload 4, 2) := by decide +kernel
theorem dX12_worthOf_40 : decode cX12_worthOf 40 = .ok (.aload_n 0, 1) := by decide +kernel
theorem dX12_worthOf_41 : decode cX12_worthOf 41 = .ok (.iload_n 1, 1) := by decide +kernel
theorem dX12_worthOf_42 : decode cX12_worthOf 42 = .ok (.iload 4, 2) := by decide +kernel
theorem dX12_worthOf_44 : decode cX12_worthOf 44 = .ok (.invokevirtual 200, 3) := by decide +kernel
theorem dX12_worthOf_47 : decode cX12_worthOf 47 = .ok (.invokevirtual 203, 3) := by decide +kernel
theorem dX12_worthOf_50 : decode cX12_worthOf 50 = .ok (.iaload, 1) := by decide +kernel
theorem dX12_worthOf_51 : decode cX12_worthOf 51 = .ok (.i2l, 1) := by decide +kernel
theorem dX12_worthOf_52 : decode cX12_worthOf 52 = .ok (.lmul, 1) := by decide +kernel
theorem dX12_worthOf_53 : decode cX12_worthOf 53 = .ok (.lstore_n 2, 1) := by decide +kernel
theorem dX12_worthOf_54 : decode cX12_worthOf 54 = .ok (.iinc 4 1, 3) := by decide +kernel
theorem dX12_worthOf_57 : decode cX12_worthOf 57 = .ok (.goto (-46), 3) := by decide +kernel
theorem dX12_worthOf_60 : decode cX12_worthOf 60 = .ok (.lload_n 2, 1) := by decide +kernel
theorem dX12_worthOf_61 : decode cX12_worthOf 61 = .ok (.lreturn, 1) := by decide +kernel
theorem dX12_sum_0 : decode cX12_sum 0 = .ok (.aload_n 0, 1) := by decide +kernel
theorem dX12_sum_1 : decode cX12_sum 1 = .ok (.iconst 0, 1) := by decide +kernel
theorem dX12_sum_2 : decode cX12_sum 2 = .ok (.invokevirtual 310, 3) := by decide +kernel
theorem dX12_sum_5 : decode cX12_sum 5 = .ok (.pop, 1) := by decide +kernel
theorem dX12_sum_6 : decode cX12_sum 6 = .ok (.aload_n 0, 1) := by decide +kernel
theorem dX12_sum_7 : decode cX12_sum 7 = .ok (.invokevirtual 194, 3) := by decide +kernel
theorem dX12_sum_10 : decode cX12_sum 10 = .ok (.lconst 0, 1) := by decide +kernel
theorem dX12_sum_11 : decode cX12_sum 11 = .ok (.lstore_n 1, 1) := by decide +kernel
theorem dX12_sum_12 : decode cX12_sum 12 = .ok (.iconst 0, 1) := by decide +kernel
theorem dX12_sum_13 : decode cX12_sum 13 = .ok (.istore_n 3, 1) := by decide +kernel
theorem dX12_sum_14 : decode cX12_sum 14 = .ok (.iload_n 3, 1) := by decide +kernel
theorem dX12_sum_15 : decode cX12_sum 15 = .ok (.aload_n 0, 1) := by decide +kernel
theorem dX12_sum_16 : decode cX12_sum 16 = .ok (.getfield 172, 3) := by decide +kernel
theorem dX12_sum_19 : decode cX12_sum 19 = .ok (.if_icmp .ge 17, 3) := by decide +kernel
theorem dX12_sum_22 : decode cX12_sum 22 = .ok (.lload_n 1, 1) := by decide +kernel
theorem dX12_sum_23 : decode cX12_sum 23 = .ok (.aload_n 0, 1) := by decide +kernel
theorem dX12_sum_24 : decode cX12_sum 24 = .ok (.iload_n 3, 1) := by decide +kernel
theorem dX12_sum_25 : decode cX12_sum 25 = .ok (.invokevirtual 389, 3) := by decide +kernel
theorem dX12_sum_28 : decode cX12_sum 28 = .ok (.ladd, 1) := by decide +kernel
theorem dX12_sum_29 : decode cX12_sum 29 = .ok (.lstore_n 1, 1) := by decide +kernel
theorem dX12_sum_30 : decode cX12_sum 30 = .ok (.iinc 3 1, 3) := by decide +kernel
theorem dX12_sum_33 : decode cX12_sum 33 = .ok (.goto (-19), 3) := by decide +kernel
theorem dX12_sum_36 : decode cX12_sum 36 = .ok (.lload_n 1, 1) := by decide +kernel
theorem dX12_sum_37 : decode cX12_sum 37 = .ok (.lreturn, 1) := by decide +kernel
theorem dX12_signedOf_0 : decode cX12_signedOf 0 = .ok (.iconst 0, 1) := by decide +kernel
theorem dX12_signedOf_1 : decode cX12_signedOf 1 = .ok (.istore_n 2, 1) := by decide +kernel
theorem dX12_signedOf_2 : decode cX12_signedOf 2 = .ok (.iconst 0, 1) := by decide +kernel
theorem dX12_signedOf_3 : decode cX12_signedOf 3 = .ok (.istore_n 3, 1) := by decide +kernel
theorem dX12_signedOf_4 : decode cX12_signedOf 4 = .ok (.iload_n 3, 1) := by decide +kernel
theorem dX12_signedOf_5 : decode cX12_signedOf 5 = .ok (.aload_n 0, 1) := by decide +kernel
theorem dX12_signedOf_6 : decode cX12_signedOf 6 = .ok (.getfield 172, 3) := by decide +kernel
theorem dX12_signedOf_9 : decode cX12_signedOf 9 = .ok (.if_icmp .ge 32, 3) := by decide +kernel
theorem dX12_signedOf_12 : decode cX12_signedOf 12 = .ok (.iload_n 2, 1) := by decide +kernel
theorem dX12_signedOf_13 : decode cX12_signedOf 13 = .ok (.aload_n 0, 1) := by decide +kernel
theorem dX12_signedOf_14 : decode cX12_signedOf 14 = .ok (.getfield 38, 3) := by decide +kernel
theorem dX12_signedOf_17 : decode cX12_signedOf 17 = .ok (.iload_n 3, 1) := by decide +kernel
theorem dX12_signedOf_18 : decode cX12_signedOf 18 = .ok (.iaload, 1) := by decide +kernel
theorem dX12_signedOf_19 : decode cX12_signedOf 19 = .ok (.iload_n 1, 1) := by decide +kernel
theorem dX12_signedOf_20 : decode cX12_signedOf 20 = .ok (.if_icmp .ne 12, 3) := by decide +kernel
theorem dX12_signedOf_23 : decode cX12_signedOf 23 = .ok (.aload_n 0, 1) := by decide +kernel
theorem dX12_signedOf_24 : decode cX12_signedOf 24 = .ok (.getfield 29, 3) := by decide +kernel
theorem dX12_signedOf_27 : decode cX12_signedOf 27 = .ok (.iload_n 3, 1) := by decide +kernel
theorem dX12_signedOf_28 : decode cX12_signedOf 28 = .ok (.iaload, 1) := by decide +kernel
theorem dX12_signedOf_29 : decode cX12_signedOf 29 = .ok (.goto 4, 3) := by decide +kernel
theorem dX12_signedOf_32 : decode cX12_signedOf 32 = .ok (.iconst 0, 1) := by decide +kernel
theorem dX12_signedOf_33 : decode cX12_signedOf 33 = .ok (.iadd, 1) := by decide +kernel
theorem dX12_signedOf_34 : decode cX12_signedOf 34 = .ok (.istore_n 2, 1) := by decide +kernel
theorem dX12_signedOf_35 : decode cX12_signedOf 35 = .ok (.iinc 3 1, 3) := by decide +kernel
theorem dX12_signedOf_38 : decode cX12_signedOf 38 = .ok (.goto (-34), 3) := by decide +kernel
theorem dX12_signedOf_41 : decode cX12_signedOf 41 = .ok (.iload_n 2, 1) := by decide +kernel
theorem dX12_signedOf_42 : decode cX12_signedOf 42 = .ok (.ireturn, 1) := by decide +kernel
theorem dX12_orders_0 : decode cX12_orders 0 = .ok (.lconst 1, 1) := by decide +kernel
theorem dX12_orders_1 : decode cX12_orders 1 = .ok (.lstore_n 1, 1) := by decide +kernel
theorem dX12_orders_2 : decode cX12_orders 2 = .ok (.iconst 2, 1) := by decide +kernel
theorem dX12_orders_3 : decode cX12_orders 3 = .ok (.istore_n 3, 1) := by decide +kernel
theorem dX12_orders_4 : decode cX12_orders 4 = .ok (.iload_n 3, 1) := by decide +kernel
theorem dX12_orders_5 : decode cX12_orders 5 = .ok (.iload_n 0, 1) := by decide +kernel
theorem dX12_orders_6 : decode cX12_orders 6 = .ok (.if_icmp .gt 14, 3) := by decide +kernel
theorem dX12_orders_9 : decode cX12_orders 9 = .ok (.lload_n 1, 1) := by decide +kernel
theorem dX12_orders_10 : decode cX12_orders 10 = .ok (.iload_n 3, 1) := by decide +kernel
theorem dX12_orders_11 : decode cX12_orders 11 = .ok (.i2l, 1) := by decide +kernel
theorem dX12_orders_12 : decode cX12_orders 12 = .ok (.lmul, 1) := by decide +kernel
theorem dX12_orders_13 : decode cX12_orders 13 = .ok (.lstore_n 1, 1) := by decide +kernel
theorem dX12_orders_14 : decode cX12_orders 14 = .ok (.iinc 3 1, 3) := by decide +kernel
theorem dX12_orders_17 : decode cX12_orders 17 = .ok (.goto (-13), 3) := by decide +kernel
theorem dX12_orders_20 : decode cX12_orders 20 = .ok (.lload_n 1, 1) := by decide +kernel
theorem dX12_orders_21 : decode cX12_orders 21 = .ok (.lreturn, 1) := by decide +kernel
theorem dX12_symmetryOf_0 : decode cX12_symmetryOf 0 = .ok (.lconst 1, 1) := by decide +kernel
theorem dX12_symmetryOf_1 : decode cX12_symmetryOf 1 = .ok (.lstore_n 2, 1) := by decide +kernel
theorem dX12_symmetryOf_2 : decode cX12_symmetryOf 2 = .ok (.iconst 0, 1) := by decide +kernel
theorem dX12_symmetryOf_3 : decode cX12_symmetryOf 3 = .ok (.istore 4, 2) := by decide +kernel
theorem dX12_symmetryOf_5 : decode cX12_symmetryOf 5 = .ok (.iconst 0, 1) := by decide +kernel
theorem dX12_symmetryOf_6 : decode cX12_symmetryOf 6 = .ok (.istore 5, 2) := by decide +kernel
theorem dX12_symmetryOf_8 : decode cX12_symmetryOf 8 = .ok (.iload 5, 2) := by decide +kernel
theorem dX12_symmetryOf_10 : decode cX12_symmetryOf 10 = .ok (.aload_n 0, 1) := by decide +kernel
theorem dX12_symmetryOf_11 : decode cX12_symmetryOf 11 = .ok (.getfield 7, 3) := by decide +kernel
theorem dX12_symmetryOf_14 : decode cX12_symmetryOf 14 = .ok (.iconst 2, 1) := by decide +kernel
theorem dX12_symmetryOf_15 : decode cX12_symmetryOf 15 = .ok (.iaload, 1) := by decide +kernel
theorem dX12_symmetryOf_16 : decode cX12_symmetryOf 16 = .ok (.if_icmp .ge 166, 3) := by decide +kernel
theorem dX12_symmetryOf_19 : decode cX12_symmetryOf 19 = .ok (.iconst 0, 1) := by decide +kernel
theorem dX12_symmetryOf_20 : decode cX12_symmetryOf 20 = .ok (.istore 6, 2) := by decide +kernel
theorem dX12_symmetryOf_22 : decode cX12_symmetryOf 22 = .ok (.iload 6, 2) := by decide +kernel
theorem dX12_symmetryOf_24 : decode cX12_symmetryOf 24 = .ok (.bipush 12, 2) := by decide +kernel
theorem dX12_symmetryOf_26 : decode cX12_symmetryOf 26 = .ok (.if_icmp .ge 71, 3) := by decide +kernel
theorem dX12_symmetryOf_29 : decode cX12_symmetryOf 29 = .ok (.iconst 0, 1) := by decide +kernel
theorem dX12_symmetryOf_30 : decode cX12_symmetryOf 30 = .ok (.istore 7, 2) := by decide +kernel
theorem dX12_symmetryOf_32 : decode cX12_symmetryOf 32 = .ok (.iconst 0, 1) := by decide +kernel
theorem dX12_symmetryOf_33 : decode cX12_symmetryOf 33 = .ok (.istore 8, 2) := by decide +kernel
theorem dX12_symmetryOf_35 : decode cX12_symmetryOf 35 = .ok (.iload 8, 2) := by decide +kernel
theorem dX12_symmetryOf_37 : decode cX12_symmetryOf 37 = .ok (.aload_n 0, 1) := by decide +kernel
theorem dX12_symmetryOf_38 : decode cX12_symmetryOf 38 = .ok (.iload 5, 2) := by decide +kernel
theorem dX12_symmetryOf_40 : decode cX12_symmetryOf 40 = .ok (.invokevirtual 127, 3) := by decide +kernel
theorem dX12_symmetryOf_43 : decode cX12_symmetryOf 43 = .ok (.if_icmp .ge 40, 3) := by decide +kernel
theorem dX12_symmetryOf_46 : decode cX12_symmetryOf 46 = .ok (.iload 7, 2) := by decide +kernel
theorem dX12_symmetryOf_48 : decode cX12_symmetryOf 48 = .ok (.aload_n 0, 1) := by decide +kernel
theorem dX12_symmetryOf_49 : decode cX12_symmetryOf 49 = .ok (.getfield 7, 3) := by decide +kernel
theorem dX12_symmetryOf_52 : decode cX12_symmetryOf 52 = .ok (.aload_n 0, 1) := by decide +kernel
theorem dX12_symmetryOf_53 : decode cX12_symmetryOf 53 = .ok (.iload 5, 2) := by decide +kernel
theorem dX12_symmetryOf_55 : decode cX12_symmetryOf 55 = .ok (.invokevirtual 120, 3) := by decide +kernel
theorem dX12_symmetryOf_58 : decode cX12_symmetryOf 58 = .ok (.iconst 3, 1) := by decide +kernel
theorem dX12_symmetryOf_59 : decode cX12_symmetryOf 59 = .ok (.iadd, 1) := by decide +kernel
theorem dX12_symmetryOf_60 : decode cX12_symmetryOf 60 = .ok (.iload 8, 2) := by decide +kernel
theorem dX12_symmetryOf_62 : decode cX12_symmetryOf 62 = .ok (.iadd, 1) := by decide +kernel
theorem dX12_symmetryOf_63 : decode cX12_symmetryOf 63 = .ok (.iaload, 1) := by decide +kernel
theorem dX12_symmetryOf_64 : decode cX12_symmetryOf 64 = .ok (.iload 6, 2) := by decide +kernel
theorem dX12_symmetryOf_66 : decode cX12_symmetryOf 66 = .ok (.if_icmp .ne 7, 3) := by decide +kernel
theorem dX12_symmetryOf_69 : decode cX12_symmetryOf 69 = .ok (.iconst 1, 1) := by decide +kernel
theorem dX12_symmetryOf_70 : decode cX12_symmetryOf 70 = .ok (.goto 4, 3) := by decide +kernel
theorem dX12_symmetryOf_73 : decode cX12_symmetryOf 73 = .ok (.iconst 0, 1) := by decide +kernel
theorem dX12_symmetryOf_74 : decode cX12_symmetryOf 74 = .ok (.iadd, 1) := by decide +kernel
theorem dX12_symmetryOf_75 : decode cX12_symmetryOf 75 = .ok (.istore 7, 2) := by decide +kernel
theorem dX12_symmetryOf_77 : decode cX12_symmetryOf 77 = .ok (.iinc 8 1, 3) := by decide +kernel
theorem dX12_symmetryOf_80 : decode cX12_symmetryOf 80 = .ok (.goto (-45), 3) := by decide +kernel
theorem dX12_symmetryOf_83 : decode cX12_symmetryOf 83 = .ok (.lload_n 2, 1) := by decide +kernel
theorem dX12_symmetryOf_84 : decode cX12_symmetryOf 84 = .ok (.iload 7, 2) := by decide +kernel
theorem dX12_symmetryOf_86 : decode cX12_symmetryOf 86 = .ok (.invokestatic 393, 3) := by decide +kernel
theorem dX12_symmetryOf_89 : decode cX12_symmetryOf 89 = .ok (.lmul, 1) := by decide +kernel
theorem dX12_symmetryOf_90 : decode cX12_symmetryOf 90 = .ok (.lstore_n 2, 1) := by decide +kernel
theorem dX12_symmetryOf_91 : decode cX12_symmetryOf 91 = .ok (.iinc 6 1, 3) := by decide +kernel
theorem dX12_symmetryOf_94 : decode cX12_symmetryOf 94 = .ok (.goto (-72), 3) := by decide +kernel
theorem dX12_symmetryOf_97 : decode cX12_symmetryOf 97 = .ok (.iload 4, 2) := by decide +kernel
theorem dX12_symmetryOf_99 : decode cX12_symmetryOf 99 = .ok (.iload 5, 2) := by decide +kernel
theorem dX12_symmetryOf_101 : decode cX12_symmetryOf 101 = .ok (.invokestatic 158, 3) := by decide +kernel
theorem dX12_symmetryOf_104 : decode cX12_symmetryOf 104 = .ok (.ifCond .ne 72, 3) := by decide +kernel
theorem dX12_symmetryOf_107 : decode cX12_symmetryOf 107 = .ok (.aload_n 0, 1) := by decide +kernel
theorem dX12_symmetryOf_108 : decode cX12_symmetryOf 108 = .ok (.iload 5, 2) := by decide +kernel
theorem dX12_symmetryOf_110 : decode cX12_symmetryOf 110 = .ok (.invokevirtual 217, 3) := by decide +kernel
theorem dX12_symmetryOf_113 : decode cX12_symmetryOf 113 = .ok (.ifCond .ne 6, 3) := by decide +kernel
theorem dX12_symmetryOf_116 : decode cX12_symmetryOf 116 = .ok (.goto 60, 3) := by decide +kernel
theorem dX12_symmetryOf_119 : decode cX12_symmetryOf 119 = .ok (.iload 5, 2) := by decide +kernel
theorem dX12_symmetryOf_121 : decode cX12_symmetryOf 121 = .ok (.istore 6, 2) := by decide +kernel
theorem dX12_symmetryOf_123 : decode cX12_symmetryOf 123 = .ok (.iload 6, 2) := by decide +kernel
theorem dX12_symmetryOf_125 : decode cX12_symmetryOf 125 = .ok (.aload_n 0, 1) := by decide +kernel
theorem dX12_symmetryOf_126 : decode cX12_symmetryOf 126 = .ok (.getfield 7, 3) := by decide +kernel
theorem dX12_symmetryOf_129 : decode cX12_symmetryOf 129 = .ok (.iconst 2, 1) := by decide +kernel
theorem dX12_symmetryOf_130 : decode cX12_symmetryOf 130 = .ok (.iaload, 1) := by decide +kernel
theorem dX12_symmetryOf_131 : decode cX12_symmetryOf 131 = .ok (.if_icmp .ge 33, 3) := by decide +kernel
theorem dX12_symmetryOf_134 : decode cX12_symmetryOf 134 = .ok (.iload 4, 2) := by decide +kernel
theorem dX12_symmetryOf_136 : decode cX12_symmetryOf 136 = .ok (.aload_n 0, 1) := by decide +kernel
theorem dX12_symmetryOf_137 : decode cX12_symmetryOf 137 = .ok (.iload 5, 2) := by decide +kernel
theorem dX12_symmetryOf_139 : decode cX12_symmetryOf 139 = .ok (.iload 6, 2) := by decide +kernel
theorem dX12_symmetryOf_141 : decode cX12_symmetryOf 141 = .ok (.invokevirtual 234, 3) := by decide +kernel
theorem dX12_symmetryOf_144 : decode cX12_symmetryOf 144 = .ok (.ifCond .eq 10, 3) := by decide +kernel
theorem dX12_symmetryOf_147 : decode cX12_symmetryOf 147 = .ok (.iconst 1, 1) := by decide +kernel
theorem dX12_symmetryOf_148 : decode cX12_symmetryOf 148 = .ok (.iload 6, 2) := by decide +kernel
theorem dX12_symmetryOf_150 : decode cX12_symmetryOf 150 = .ok (.ishl, 1) := by decide +kernel
theorem dX12_symmetryOf_151 : decode cX12_symmetryOf 151 = .ok (.goto 4, 3) := by decide +kernel
theorem dX12_symmetryOf_154 : decode cX12_symmetryOf 154 = .ok (.iconst 0, 1) := by decide +kernel
theorem dX12_symmetryOf_155 : decode cX12_symmetryOf 155 = .ok (.ior, 1) := by decide +kernel
theorem dX12_symmetryOf_156 : decode cX12_symmetryOf 156 = .ok (.istore 4, 2) := by decide +kernel
theorem dX12_symmetryOf_158 : decode cX12_symmetryOf 158 = .ok (.iinc 6 1, 3) := by decide +kernel
theorem dX12_symmetryOf_161 : decode cX12_symmetryOf 161 = .ok (.goto (-38), 3) := by decide +kernel
theorem dX12_symmetryOf_164 : decode cX12_symmetryOf 164 = .ok (.lload_n 2, 1) := by decide +kernel
theorem dX12_symmetryOf_165 : decode cX12_symmetryOf 165 = .ok (.aload_n 0, 1) := by decide +kernel
theorem dX12_symmetryOf_166 : decode cX12_symmetryOf 166 = .ok (.iload 5, 2) := by decide +kernel
theorem dX12_symmetryOf_168 : decode cX12_symmetryOf 168 = .ok (.invokevirtual 338, 3) := by decide +kernel
theorem dX12_symmetryOf_171 : decode cX12_symmetryOf 171 = .ok (.invokestatic 393, 3) := by decide +kernel
theorem dX12_symmetryOf_174 : decode cX12_symmetryOf 174 = .ok (.lmul, 1) := by decide +kernel
theorem dX12_symmetryOf_175 : decode cX12_symmetryOf 175 = .ok (.lstore_n 2, 1) := by decide +kernel
theorem dX12_symmetryOf_176 : decode cX12_symmetryOf 176 = .ok (.iinc 5 1, 3) := by decide +kernel
theorem dX12_symmetryOf_179 : decode cX12_symmetryOf 179 = .ok (.goto (-171), 3) := by decide +kernel
theorem dX12_symmetryOf_182 : decode cX12_symmetryOf 182 = .ok (.lload_n 2, 1) := by decide +kernel
theorem dX12_symmetryOf_183 : decode cX12_symmetryOf 183 = .ok (.aload_n 0, 1) := by decide +kernel
theorem dX12_symmetryOf_184 : decode cX12_symmetryOf 184 = .ok (.iload_n 1, 1) := by decide +kernel
theorem dX12_symmetryOf_185 : decode cX12_symmetryOf 185 = .ok (.invokevirtual 307, 3) := by decide +kernel
theorem dX12_symmetryOf_188 : decode cX12_symmetryOf 188 = .ok (.i2l, 1) := by decide +kernel
theorem dX12_symmetryOf_189 : decode cX12_symmetryOf 189 = .ok (.ldiv, 1) := by decide +kernel
theorem dX12_symmetryOf_190 : decode cX12_symmetryOf 190 = .ok (.l2i, 1) := by decide +kernel
theorem dX12_symmetryOf_191 : decode cX12_symmetryOf 191 = .ok (.ireturn, 1) := by decide +kernel
theorem dX12_bridges_0 : decode cX12_bridges 0 = .ok (.iconst 0, 1) := by decide +kernel
theorem dX12_bridges_1 : decode cX12_bridges 1 = .ok (.istore_n 1, 1) := by decide +kernel
theorem dX12_bridges_2 : decode cX12_bridges 2 = .ok (.iconst 0, 1) := by decide +kernel
theorem dX12_bridges_3 : decode cX12_bridges 3 = .ok (.istore_n 2, 1) := by decide +kernel
theorem dX12_bridges_4 : decode cX12_bridges 4 = .ok (.iload_n 2, 1) := by decide +kernel
theorem dX12_bridges_5 : decode cX12_bridges 5 = .ok (.aload_n 0, 1) := by decide +kernel
theorem dX12_bridges_6 : decode cX12_bridges 6 = .ok (.getfield 197, 3) := by decide +kernel
theorem dX12_bridges_9 : decode cX12_bridges 9 = .ok (.if_icmp .ge 38, 3) := by decide +kernel
theorem dX12_bridges_12 : decode cX12_bridges 12 = .ok (.iload_n 1, 1) := by decide +kernel
theorem dX12_bridges_13 : decode cX12_bridges 13 = .ok (.aload_n 0, 1) := by decide +kernel
theorem dX12_bridges_14 : decode cX12_bridges 14 = .ok (.aload_n 0, 1) := by decide +kernel
theorem dX12_bridges_15 : decode cX12_bridges 15 = .ok (.invokevirtual 292, 3) := by decide +kernel
theorem dX12_bridges_18 : decode cX12_bridges 18 = .ok (.iload_n 2, 1) := by decide +kernel
theorem dX12_bridges_19 : decode cX12_bridges 19 = .ok (.invokevirtual 298, 3) := by decide +kernel
theorem dX12_bridges_22 : decode cX12_bridges 22 = .ok (.aload_n 0, 1) := by decide +kernel
theorem dX12_bridges_23 : decode cX12_bridges 23 = .ok (.aload_n 0, 1) := by decide +kernel
theorem dX12_bridges_24 : decode cX12_bridges 24 = .ok (.invokevirtual 292, 3) := by decide +kernel
theorem dX12_bridges_27 : decode cX12_bridges 27 = .ok (.iconst (-1), 1) := by decide +kernel
theorem dX12_bridges_28 : decode cX12_bridges 28 = .ok (.invokevirtual 298, 3) := by decide +kernel
theorem dX12_bridges_31 : decode cX12_bridges 31 = .ok (.if_icmp .le 7, 3) := by decide +kernel
theorem dX12_bridges_34 : decode cX12_bridges 34 = .ok (.iconst 1, 1) := by decide +kernel
theorem dX12_bridges_35 : decode cX12_bridges 35 = .ok (.goto 4, 3) := by decide +kernel
theorem dX12_bridges_38 : decode cX12_bridges 38 = .ok (.iconst 0, 1) := by decide +kernel
theorem dX12_bridges_39 : decode cX12_bridges 39 = .ok (.iadd, 1) := by decide +kernel
theorem dX12_bridges_40 : decode cX12_bridges 40 = .ok (.istore_n 1, 1) := by decide +kernel
theorem dX12_bridges_41 : decode cX12_bridges 41 = .ok (.iinc 2 1, 3) := by decide +kernel
theorem dX12_bridges_44 : decode cX12_bridges 44 = .ok (.goto (-40), 3) := by decide +kernel
theorem dX12_bridges_47 : decode cX12_bridges 47 = .ok (.iload_n 1, 1) := by decide +kernel
theorem dX12_bridges_48 : decode cX12_bridges 48 = .ok (.ireturn, 1) := by decide +kernel
theorem dX12_rings_0 : decode cX12_rings 0 = .ok (.iconst 0, 1) := by decide +kernel
theorem dX12_rings_1 : decode cX12_rings 1 = .ok (.istore_n 1, 1) := by decide +kernel
theorem dX12_rings_2 : decode cX12_rings 2 = .ok (.iconst 0, 1) := by decide +kernel
theorem dX12_rings_3 : decode cX12_rings 3 = .ok (.istore_n 2, 1) := by decide +kernel
theorem dX12_rings_4 : decode cX12_rings 4 = .ok (.iload_n 2, 1) := by decide +kernel
theorem dX12_rings_5 : decode cX12_rings 5 = .ok (.aload_n 0, 1) := by decide +kernel
theorem dX12_rings_6 : decode cX12_rings 6 = .ok (.getfield 197, 3) := by decide +kernel
theorem dX12_rings_9 : decode cX12_rings 9 = .ok (.if_icmp .ge 30, 3) := by decide +kernel
theorem dX12_rings_12 : decode cX12_rings 12 = .ok (.iload_n 1, 1) := by decide +kernel
theorem dX12_rings_13 : decode cX12_rings 13 = .ok (.aload_n 0, 1) := by decide +kernel
theorem dX12_rings_14 : decode cX12_rings 14 = .ok (.iload_n 2, 1) := by decide +kernel
theorem dX12_rings_15 : decode cX12_rings 15 = .ok (.invokevirtual 276, 3) := by decide +kernel
theorem dX12_rings_18 : decode cX12_rings 18 = .ok (.aload_n 0, 1) := by decide +kernel
theorem dX12_rings_19 : decode cX12_rings 19 = .ok (.iload_n 2, 1) := by decide +kernel
theorem dX12_rings_20 : decode cX12_rings 20 = .ok (.invokevirtual 279, 3) := by decide +kernel
theorem dX12_rings_23 : decode cX12_rings 23 = .ok (.if_icmp .ne 7, 3) := by decide +kernel
theorem dX12_rings_26 : decode cX12_rings 26 = .ok (.iconst 1, 1) := by decide +kernel
theorem dX12_rings_27 : decode cX12_rings 27 = .ok (.goto 4, 3) := by decide +kernel
theorem dX12_rings_30 : decode cX12_rings 30 = .ok (.iconst 0, 1) := by decide +kernel
theorem dX12_rings_31 : decode cX12_rings 31 = .ok (.iadd, 1) := by decide +kernel
theorem dX12_rings_32 : decode cX12_rings 32 = .ok (.istore_n 1, 1) := by decide +kernel
theorem dX12_rings_33 : decode cX12_rings 33 = .ok (.iinc 2 1, 3) := by decide +kernel
theorem dX12_rings_36 : decode cX12_rings 36 = .ok (.goto (-32), 3) := by decide +kernel
theorem dX12_rings_39 : decode cX12_rings 39 = .ok (.iload_n 1, 1) := by decide +kernel
theorem dX12_rings_40 : decode cX12_rings 40 = .ok (.ireturn, 1) := by decide +kernel
theorem dX12_firstPairing_0 : decode cX12_firstPairing 0 = .ok (.iconst 0, 1) := by decide +kernel
theorem dX12_firstPairing_1 : decode cX12_firstPairing 1 = .ok (.istore_n 2, 1) := by decide +kernel
theorem dX12_firstPairing_2 : decode cX12_firstPairing 2 = .ok (.aload_n 0, 1) := by decide +kernel
theorem dX12_firstPairing_3 : decode cX12_firstPairing 3 = .ok (.getfield 38, 3) := by decide +kernel
theorem dX12_firstPairing_6 : decode cX12_firstPairing 6 = .ok (.iload_n 2, 1) := by decide +kernel
theorem dX12_firstPairing_7 : decode cX12_firstPairing 7 = .ok (.iaload, 1) := by decide +kernel
theorem dX12_firstPairing_8 : decode cX12_firstPairing 8 = .ok (.iload_n 1, 1) := by decide +kernel
theorem dX12_firstPairing_9 : decode cX12_firstPairing 9 = .ok (.if_icmp .eq 9, 3) := by decide +kernel
theorem dX12_firstPairing_12 : decode cX12_firstPairing 12 = .ok (.iinc 2 1, 3) := by decide +kernel
theorem dX12_firstPairing_15 : decode cX12_firstPairing 15 = .ok (.goto (-13), 3) := by decide +kernel
theorem dX12_firstPairing_18 : decode cX12_firstPairing 18 = .ok (.iload_n 2, 1) := by decide +kernel
theorem dX12_firstPairing_19 : decode cX12_firstPairing 19 = .ok (.ireturn, 1) := by decide +kernel
theorem dX12_mostOfOne_0 : decode cX12_mostOfOne 0 = .ok (.iconst 0, 1) := by decide +kernel
theorem dX12_mostOfOne_1 : decode cX12_mostOfOne 1 = .ok (.istore_n 1, 1) := by decide +kernel
theorem dX12_mostOfOne_2 : decode cX12_mostOfOne 2 = .ok (.iconst 0, 1) := by decide +kernel
theorem dX12_mostOfOne_3 : decode cX12_mostOfOne 3 = .ok (.istore_n 2, 1) := by decide +kernel
theorem dX12_mostOfOne_4 : decode cX12_mostOfOne 4 = .ok (.iload_n 2, 1) := by decide +kernel
theorem dX12_mostOfOne_5 : decode cX12_mostOfOne 5 = .ok (.aload_n 0, 1) := by decide +kernel
theorem dX12_mostOfOne_6 : decode cX12_mostOfOne 6 = .ok (.getfield 197, 3) := by decide +kernel
theorem dX12_mostOfOne_9 : decode cX12_mostOfOne 9 = .ok (.if_icmp .ge 64, 3) := by decide +kernel
theorem dX12_mostOfOne_12 : decode cX12_mostOfOne 12 = .ok (.iconst 0, 1) := by decide +kernel
theorem dX12_mostOfOne_13 : decode cX12_mostOfOne 13 = .ok (.istore_n 3, 1) := by decide +kernel
theorem dX12_mostOfOne_14 : decode cX12_mostOfOne 14 = .ok (.iconst 0, 1) := by decide +kernel
theorem dX12_mostOfOne_15 : decode cX12_mostOfOne 15 = .ok (.istore 4, 2) := by decide +kernel
theorem dX12_mostOfOne_17 : decode cX12_mostOfOne 17 = .ok (.iload 4, 2) := by decide +kernel
theorem dX12_mostOfOne_19 : decode cX12_mostOfOne 19 = .ok (.aload_n 0, 1) := by decide +kernel
theorem dX12_mostOfOne_20 : decode cX12_mostOfOne 20 = .ok (.getfield 197, 3) := by decide +kernel
theorem dX12_mostOfOne_23 : decode cX12_mostOfOne 23 = .ok (.if_icmp .ge 33, 3) := by decide +kernel
theorem dX12_mostOfOne_26 : decode cX12_mostOfOne 26 = .ok (.iload_n 3, 1) := by decide +kernel
theorem dX12_mostOfOne_27 : decode cX12_mostOfOne 27 = .ok (.aload_n 0, 1) := by decide +kernel
theorem dX12_mostOfOne_28 : decode cX12_mostOfOne 28 = .ok (.getfield 44, 3) := by decide +kernel
theorem dX12_mostOfOne_31 : decode cX12_mostOfOne 31 = .ok (.iload 4, 2) := by decide +kernel
theorem dX12_mostOfOne_33 : decode cX12_mostOfOne 33 = .ok (.iaload, 1) := by decide +kernel
theorem dX12_mostOfOne_34 : decode cX12_mostOfOne 34 = .ok (.aload_n 0, 1) := by decide +kernel
theorem dX12_mostOfOne_35 : decode cX12_mostOfOne 35 = .ok (.getfield 44, 3) := by decide +kernel
theorem dX12_mostOfOne_38 : decode cX12_mostOfOne 38 = .ok (.iload_n 2, 1) := by decide +kernel
theorem dX12_mostOfOne_39 : decode cX12_mostOfOne 39 = .ok (.iaload, 1) := by decide +kernel
theorem dX12_mostOfOne_40 : decode cX12_mostOfOne 40 = .ok (.if_icmp .ne 7, 3) := by decide +kernel
theorem dX12_mostOfOne_43 : decode cX12_mostOfOne 43 = .ok (.iconst 1, 1) := by decide +kernel
theorem dX12_mostOfOne_44 : decode cX12_mostOfOne 44 = .ok (.goto 4, 3) := by decide +kernel
theorem dX12_mostOfOne_47 : decode cX12_mostOfOne 47 = .ok (.iconst 0, 1) := by decide +kernel
theorem dX12_mostOfOne_48 : decode cX12_mostOfOne 48 = .ok (.iadd, 1) := by decide +kernel
theorem dX12_mostOfOne_49 : decode cX12_mostOfOne 49 = .ok (.istore_n 3, 1) := by decide +kernel
theorem dX12_mostOfOne_50 : decode cX12_mostOfOne 50 = .ok (.iinc 4 1, 3) := by decide +kernel
theorem dX12_mostOfOne_53 : decode cX12_mostOfOne 53 = .ok (.goto (-36), 3) := by decide +kernel
theorem dX12_mostOfOne_56 : decode cX12_mostOfOne 56 = .ok (.iload_n 3, 1) := by decide +kernel
theorem dX12_mostOfOne_57 : decode cX12_mostOfOne 57 = .ok (.iload_n 1, 1) := by decide +kernel
theorem dX12_mostOfOne_58 : decode cX12_mostOfOne 58 = .ok (.if_icmp .le 7, 3) := by decide +kernel
theorem dX12_mostOfOne_61 : decode cX12_mostOfOne 61 = .ok (.iload_n 3, 1) := by decide +kernel
theorem dX12_mostOfOne_62 : decode cX12_mostOfOne 62 = .ok (.goto 4, 3) := by decide +kernel
theorem dX12_mostOfOne_65 : decode cX12_mostOfOne 65 = .ok (.iload_n 1, 1) := by decide +kernel
theorem dX12_mostOfOne_66 : decode cX12_mostOfOne 66 = .ok (.istore_n 1, 1) := by decide +kernel
theorem dX12_mostOfOne_67 : decode cX12_mostOfOne 67 = .ok (.iinc 2 1, 3) := by decide +kernel
theorem dX12_mostOfOne_70 : decode cX12_mostOfOne 70 = .ok (.goto (-66), 3) := by decide +kernel
theorem dX12_mostOfOne_73 : decode cX12_mostOfOne 73 = .ok (.iload_n 1, 1) := by decide +kernel
theorem dX12_mostOfOne_74 : decode cX12_mostOfOne 74 = .ok (.ireturn, 1) := by decide +kernel
theorem dX12_leaving_0 : decode cX12_leaving 0 = .ok (.aload_n 0, 1) := by decide +kernel
theorem dX12_leaving_1 : decode cX12_leaving 1 = .ok (.aload_n 0, 1) := by decide +kernel
theorem dX12_leaving_2 : decode cX12_leaving 2 = .ok (.getfield 63, 3) := by decide +kernel
theorem dX12_leaving_5 : decode cX12_leaving 5 = .ok (.iload_n 1, 1) := by decide +kernel
theorem dX12_leaving_6 : decode cX12_leaving 6 = .ok (.laload, 1) := by decide +kernel
theorem dX12_leaving_7 : decode cX12_leaving 7 = .ok (.invokevirtual 262, 3) := by decide +kernel
theorem dX12_leaving_10 : decode cX12_leaving 10 = .ok (.pop2, 1) := by decide +kernel
theorem dX12_leaving_11 : decode cX12_leaving 11 = .ok (.aload_n 0, 1) := by decide +kernel
theorem dX12_leaving_12 : decode cX12_leaving 12 = .ok (.getfield 228, 3) := by decide +kernel
theorem dX12_leaving_15 : decode cX12_leaving 15 = .ok (.ireturn, 1) := by decide +kernel
theorem dX12_loops_0 : decode cX12_loops 0 = .ok (.aload_n 0, 1) := by decide +kernel
theorem dX12_loops_1 : decode cX12_loops 1 = .ok (.getfield 197, 3) := by decide +kernel
theorem dX12_loops_4 : decode cX12_loops 4 = .ok (.aload_n 0, 1) := by decide +kernel
theorem dX12_loops_5 : decode cX12_loops 5 = .ok (.aload_n 0, 1) := by decide +kernel
theorem dX12_loops_6 : decode cX12_loops 6 = .ok (.invokevirtual 292, 3) := by decide +kernel
theorem dX12_loops_9 : decode cX12_loops 9 = .ok (.iconst (-1), 1) := by decide +kernel
theorem dX12_loops_10 : decode cX12_loops 10 = .ok (.invokevirtual 298, 3) := by decide +kernel
theorem dX12_loops_13 : decode cX12_loops 13 = .ok (.iadd, 1) := by decide +kernel
theorem dX12_loops_14 : decode cX12_loops 14 = .ok (.aload_n 0, 1) := by decide +kernel
theorem dX12_loops_15 : decode cX12_loops 15 = .ok (.getfield 7, 3) := by decide +kernel
theorem dX12_loops_18 : decode cX12_loops 18 = .ok (.iconst 2, 1) := by decide +kernel
theorem dX12_loops_19 : decode cX12_loops 19 = .ok (.iaload, 1) := by decide +kernel
theorem dX12_loops_20 : decode cX12_loops 20 = .ok (.isub, 1) := by decide +kernel
theorem dX12_loops_21 : decode cX12_loops 21 = .ok (.ireturn, 1) := by decide +kernel
theorem dX12_ofDiagram0_0 : decode cX12_ofDiagram0 0 = .ok (.aload_n 0, 1) := by decide +kernel
theorem dX12_ofDiagram0_1 : decode cX12_ofDiagram0 1 = .ok (.iload_n 1, 1) := by decide +kernel
theorem dX12_ofDiagram0_2 : decode cX12_ofDiagram0 2 = .ok (.invokevirtual 289, 3) := by decide +kernel
theorem dX12_ofDiagram0_5 : decode cX12_ofDiagram0 5 = .ok (.iload_n 2, 1) := by decide +kernel
theorem dX12_ofDiagram0_6 : decode cX12_ofDiagram0 6 = .ok (.tableswitch 122 0 9 #[54, 60, 66, 72, 82, 96, 101, 106, 111, 117], 54) := by decide +kernel
theorem dX12_ofDiagram0_60 : decode cX12_ofDiagram0 60 = .ok (.aload_n 0, 1) := by decide +kernel
theorem dX12_ofDiagram0_61 : decode cX12_ofDiagram0 61 = .ok (.iload_n 1, 1) := by decide +kernel
theorem dX12_ofDiagram0_62 : decode cX12_ofDiagram0 62 = .ok (.invokevirtual 307, 3) := by decide +kernel
theorem dX12_ofDiagram0_65 : decode cX12_ofDiagram0 65 = .ok (.ireturn, 1) := by decide +kernel
theorem dX12_ofDiagram0_66 : decode cX12_ofDiagram0 66 = .ok (.aload_n 0, 1) := by decide +kernel
theorem dX12_ofDiagram0_67 : decode cX12_ofDiagram0 67 = .ok (.iload_n 1, 1) := by decide +kernel
theorem dX12_ofDiagram0_68 : decode cX12_ofDiagram0 68 = .ok (.invokevirtual 396, 3) := by decide +kernel
theorem dX12_ofDiagram0_71 : decode cX12_ofDiagram0 71 = .ok (.ireturn, 1) := by decide +kernel
theorem dX12_ofDiagram0_72 : decode cX12_ofDiagram0 72 = .ok (.aload_n 0, 1) := by decide +kernel
theorem dX12_ofDiagram0_73 : decode cX12_ofDiagram0 73 = .ok (.iload_n 1, 1) := by decide +kernel
theorem dX12_ofDiagram0_74 : decode cX12_ofDiagram0 74 = .ok (.invokevirtual 399, 3) := by decide +kernel
theorem dX12_ofDiagram0_77 : decode cX12_ofDiagram0 77 = .ok (.ireturn, 1) := by decide +kernel
theorem dX12_ofDiagram0_78 : decode cX12_ofDiagram0 78 = .ok (.aload_n 0, 1) := by decide +kernel
theorem dX12_ofDiagram0_79 : decode cX12_ofDiagram0 79 = .ok (.aload_n 0, 1) := by decide +kernel
theorem dX12_ofDiagram0_80 : decode cX12_ofDiagram0 80 = .ok (.invokevirtual 292, 3) := by decide +kernel
theorem dX12_ofDiagram0_83 : decode cX12_ofDiagram0 83 = .ok (.iconst (-1), 1) := by decide +kernel
theorem dX12_ofDiagram0_84 : decode cX12_ofDiagram0 84 = .ok (.invokevirtual 298, 3) := by decide +kernel
theorem dX12_ofDiagram0_87 : decode cX12_ofDiagram0 87 = .ok (.ireturn, 1) := by decide +kernel
theorem dX12_ofDiagram0_88 : decode cX12_ofDiagram0 88 = .ok (.aload_n 0, 1) := by decide +kernel
theorem dX12_ofDiagram0_89 : decode cX12_ofDiagram0 89 = .ok (.iload_n 1, 1) := by decide +kernel
theorem dX12_ofDiagram0_90 : decode cX12_ofDiagram0 90 = .ok (.invokevirtual 304, 3) := by decide +kernel
theorem dX12_ofDiagram0_93 : decode cX12_ofDiagram0 93 = .ok (.ifCond .eq 7, 3) := by decide +kernel
theorem dX12_ofDiagram0_96 : decode cX12_ofDiagram0 96 = .ok (.iconst 1, 1) := by decide +kernel
theorem dX12_ofDiagram0_97 : decode cX12_ofDiagram0 97 = .ok (.goto 4, 3) := by decide +kernel
theorem dX12_ofDiagram0_100 : decode cX12_ofDiagram0 100 = .ok (.iconst 0, 1) := by decide +kernel
theorem dX12_ofDiagram0_101 : decode cX12_ofDiagram0 101 = .ok (.ireturn, 1) := by decide +kernel
theorem dX12_ofDiagram0_102 : decode cX12_ofDiagram0 102 = .ok (.aload_n 0, 1) := by decide +kernel
theorem dX12_ofDiagram0_103 : decode cX12_ofDiagram0 103 = .ok (.invokevirtual 402, 3) := by decide +kernel
theorem dX12_ofDiagram0_106 : decode cX12_ofDiagram0 106 = .ok (.ireturn, 1) := by decide +kernel
theorem dX12_ofDiagram0_107 : decode cX12_ofDiagram0 107 = .ok (.aload_n 0, 1) := by decide +kernel
theorem dX12_ofDiagram0_108 : decode cX12_ofDiagram0 108 = .ok (.invokevirtual 405, 3) := by decide +kernel
theorem dX12_ofDiagram0_111 : decode cX12_ofDiagram0 111 = .ok (.ireturn, 1) := by decide +kernel
theorem dX12_ofDiagram0_112 : decode cX12_ofDiagram0 112 = .ok (.aload_n 0, 1) := by decide +kernel
theorem dX12_ofDiagram0_113 : decode cX12_ofDiagram0 113 = .ok (.invokevirtual 408, 3) := by decide +kernel
theorem dX12_ofDiagram0_116 : decode cX12_ofDiagram0 116 = .ok (.ireturn, 1) := by decide +kernel
theorem dX12_ofDiagram0_117 : decode cX12_ofDiagram0 117 = .ok (.aload_n 0, 1) := by decide +kernel
theorem dX12_ofDiagram0_118 : decode cX12_ofDiagram0 118 = .ok (.iload_n 1, 1) := by decide +kernel
theorem dX12_ofDiagram0_119 : decode cX12_ofDiagram0 119 = .ok (.invokevirtual 411, 3) := by decide +kernel
theorem dX12_ofDiagram0_122 : decode cX12_ofDiagram0 122 = .ok (.ireturn, 1) := by decide +kernel
theorem dX12_ofDiagram0_123 : decode cX12_ofDiagram0 123 = .ok (.aload_n 0, 1) := by decide +kernel
theorem dX12_ofDiagram0_124 : decode cX12_ofDiagram0 124 = .ok (.invokevirtual 414, 3) := by decide +kernel
theorem dX12_ofDiagram0_127 : decode cX12_ofDiagram0 127 = .ok (.ireturn, 1) := by decide +kernel
theorem dX12_ofDiagram0_128 : decode cX12_ofDiagram0 128 = .ok (.aload_n 0, 1) := by decide +kernel
theorem dX12_ofDiagram0_129 : decode cX12_ofDiagram0 129 = .ok (.iload_n 1, 1) := by decide +kernel
theorem dX12_ofDiagram0_130 : decode cX12_ofDiagram0 130 = .ok (.invokevirtual 417, 3) := by decide +kernel
theorem dX12_ofDiagram0_133 : decode cX12_ofDiagram0 133 = .ok (.ireturn, 1) := by decide +kernel
theorem dX12_diagram_0 : decode cX12_diagram 0 = .ok (.aload_n 0, 1) := by decide +kernel
theorem dX12_diagram_1 : decode cX12_diagram 1 = .ok (.iload_n 2, 1) := by decide +kernel
theorem dX12_diagram_2 : decode cX12_diagram 2 = .ok (.iconst 0, 1) := by decide +kernel
theorem dX12_diagram_3 : decode cX12_diagram 3 = .ok (.bipush 10, 2) := by decide +kernel
theorem dX12_diagram_5 : decode cX12_diagram 5 = .ok (.invokestatic 140, 3) := by decide +kernel
theorem dX12_diagram_8 : decode cX12_diagram 8 = .ok (.ifCond .ne 7, 3) := by decide +kernel
theorem dX12_diagram_11 : decode cX12_diagram 11 = .ok (.iconst 1, 1) := by decide +kernel
theorem dX12_diagram_12 : decode cX12_diagram 12 = .ok (.goto 16, 3) := by decide +kernel
theorem dX12_diagram_15 : decode cX12_diagram 15 = .ok (.aload_n 0, 1) := by decide +kernel
theorem dX12_diagram_16 : decode cX12_diagram 16 = .ok (.iload_n 1, 1) := by decide +kernel
theorem dX12_diagram_17 : decode cX12_diagram 17 = .ok (.invokevirtual 420, 3) := by decide +kernel
theorem dX12_diagram_20 : decode cX12_diagram 20 = .ok (.ifCond .eq 7, 3) := by decide +kernel
theorem dX12_diagram_23 : decode cX12_diagram 23 = .ok (.iconst 0, 1) := by decide +kernel
theorem dX12_diagram_24 : decode cX12_diagram 24 = .ok (.goto 4, 3) := by decide +kernel
theorem dX12_diagram_27 : decode cX12_diagram 27 = .ok (.iconst 2, 1) := by decide +kernel
theorem dX12_diagram_28 : decode cX12_diagram 28 = .ok (.invokevirtual 310, 3) := by decide +kernel
theorem dX12_diagram_31 : decode cX12_diagram 31 = .ok (.ifCond .eq 12, 3) := by decide +kernel
theorem dX12_diagram_34 : decode cX12_diagram 34 = .ok (.aload_n 0, 1) := by decide +kernel
theorem dX12_diagram_35 : decode cX12_diagram 35 = .ok (.iload_n 1, 1) := by decide +kernel
theorem dX12_diagram_36 : decode cX12_diagram 36 = .ok (.iload_n 2, 1) := by decide +kernel
theorem dX12_diagram_37 : decode cX12_diagram 37 = .ok (.invokevirtual 423, 3) := by decide +kernel
theorem dX12_diagram_40 : decode cX12_diagram 40 = .ok (.goto 4, 3) := by decide +kernel
theorem dX12_diagram_43 : decode cX12_diagram 43 = .ok (.iconst (-1), 1) := by decide +kernel
theorem dX12_diagram_44 : decode cX12_diagram 44 = .ok (.ireturn, 1) := by decide +kernel
theorem dX12_name_0 : decode cX12_name 0 = .ok (.aload_n 0, 1) := by decide +kernel
theorem dX12_name_1 : decode cX12_name 1 = .ok (.iload_n 2, 1) := by decide +kernel
theorem dX12_name_2 : decode cX12_name 2 = .ok (.ifCond .ge 7, 3) := by decide +kernel
theorem dX12_name_5 : decode cX12_name 5 = .ok (.iconst 1, 1) := by decide +kernel
theorem dX12_name_6 : decode cX12_name 6 = .ok (.goto 30, 3) := by decide +kernel
theorem dX12_name_9 : decode cX12_name 9 = .ok (.aload_n 0, 1) := by decide +kernel
theorem dX12_name_10 : decode cX12_name 10 = .ok (.iload_n 1, 1) := by decide +kernel
theorem dX12_name_11 : decode cX12_name 11 = .ok (.invokevirtual 420, 3) := by decide +kernel
theorem dX12_name_14 : decode cX12_name 14 = .ok (.ifCond .ne 7, 3) := by decide +kernel
theorem dX12_name_17 : decode cX12_name 17 = .ok (.iconst 2, 1) := by decide +kernel
theorem dX12_name_18 : decode cX12_name 18 = .ok (.goto 18, 3) := by decide +kernel
theorem dX12_name_21 : decode cX12_name 21 = .ok (.iload_n 2, 1) := by decide +kernel
theorem dX12_name_22 : decode cX12_name 22 = .ok (.aload_n 0, 1) := by decide +kernel
theorem dX12_name_23 : decode cX12_name 23 = .ok (.getfield 124, 3) := by decide +kernel
theorem dX12_name_26 : decode cX12_name 26 = .ok (.iconst 2, 1) := by decide +kernel
theorem dX12_name_27 : decode cX12_name 27 = .ok (.idiv, 1) := by decide +kernel
theorem dX12_name_28 : decode cX12_name 28 = .ok (.if_icmp .lt 7, 3) := by decide +kernel
theorem dX12_name_31 : decode cX12_name 31 = .ok (.iconst 5, 1) := by decide +kernel
theorem dX12_name_32 : decode cX12_name 32 = .ok (.goto 4, 3) := by decide +kernel
theorem dX12_name_35 : decode cX12_name 35 = .ok (.iconst 0, 1) := by decide +kernel
theorem dX12_name_36 : decode cX12_name 36 = .ok (.invokevirtual 310, 3) := by decide +kernel
theorem dX12_name_39 : decode cX12_name 39 = .ok (.ifCond .ne 5, 3) := by decide +kernel
theorem dX12_name_42 : decode cX12_name 42 = .ok (.iconst (-1), 1) := by decide +kernel
theorem dX12_name_43 : decode cX12_name 43 = .ok (.ireturn, 1) := by decide +kernel
theorem dX12_name_44 : decode cX12_name 44 = .ok (.aload_n 0, 1) := by decide +kernel
theorem dX12_name_45 : decode cX12_name 45 = .ok (.iload_n 1, 1) := by decide +kernel
theorem dX12_name_46 : decode cX12_name 46 = .ok (.invokevirtual 289, 3) := by decide +kernel
theorem dX12_name_49 : decode cX12_name 49 = .ok (.aload_n 0, 1) := by decide +kernel
theorem dX12_name_50 : decode cX12_name 50 = .ok (.getfield 44, 3) := by decide +kernel
theorem dX12_name_53 : decode cX12_name 53 = .ok (.iload_n 2, 1) := by decide +kernel
theorem dX12_name_54 : decode cX12_name 54 = .ok (.iaload, 1) := by decide +kernel
theorem dX12_name_55 : decode cX12_name 55 = .ok (.ireturn, 1) := by decide +kernel
theorem dX12_part_0 : decode cX12_part 0 = .ok (.aload_n 0, 1) := by decide +kernel
theorem dX12_part_1 : decode cX12_part 1 = .ok (.aload_n 0, 1) := by decide +kernel
theorem dX12_part_2 : decode cX12_part 2 = .ok (.iload_n 1, 1) := by decide +kernel
theorem dX12_part_3 : decode cX12_part 3 = .ok (.invokevirtual 420, 3) := by decide +kernel
theorem dX12_part_6 : decode cX12_part 6 = .ok (.ifCond .eq 15, 3) := by decide +kernel
theorem dX12_part_9 : decode cX12_part 9 = .ok (.aload_n 0, 1) := by decide +kernel
theorem dX12_part_10 : decode cX12_part 10 = .ok (.iload_n 2, 1) := by decide +kernel
theorem dX12_part_11 : decode cX12_part 11 = .ok (.invokevirtual 332, 3) := by decide +kernel
theorem dX12_part_14 : decode cX12_part 14 = .ok (.ifCond .eq 7, 3) := by decide +kernel
theorem dX12_part_17 : decode cX12_part 17 = .ok (.iconst 0, 1) := by decide +kernel
theorem dX12_part_18 : decode cX12_part 18 = .ok (.goto 4, 3) := by decide +kernel
theorem dX12_part_21 : decode cX12_part 21 = .ok (.iconst 2, 1) := by decide +kernel
theorem dX12_part_22 : decode cX12_part 22 = .ok (.invokevirtual 310, 3) := by decide +kernel
theorem dX12_part_25 : decode cX12_part 25 = .ok (.ifCond .ne 5, 3) := by decide +kernel
theorem dX12_part_28 : decode cX12_part 28 = .ok (.iconst (-1), 1) := by decide +kernel
theorem dX12_part_29 : decode cX12_part 29 = .ok (.ireturn, 1) := by decide +kernel
theorem dX12_part_30 : decode cX12_part 30 = .ok (.aload_n 0, 1) := by decide +kernel
theorem dX12_part_31 : decode cX12_part 31 = .ok (.iload_n 1, 1) := by decide +kernel
theorem dX12_part_32 : decode cX12_part 32 = .ok (.invokevirtual 289, 3) := by decide +kernel
theorem dX12_part_35 : decode cX12_part 35 = .ok (.aload_n 0, 1) := by decide +kernel
theorem dX12_part_36 : decode cX12_part 36 = .ok (.iload_n 2, 1) := by decide +kernel
theorem dX12_part_37 : decode cX12_part 37 = .ok (.iconst (-1), 1) := by decide +kernel
theorem dX12_part_38 : decode cX12_part 38 = .ok (.iconst (-1), 1) := by decide +kernel
theorem dX12_part_39 : decode cX12_part 39 = .ok (.invokevirtual 282, 3) := by decide +kernel
theorem dX12_part_42 : decode cX12_part 42 = .ok (.ireturn, 1) := by decide +kernel
theorem dX12_far_0 : decode cX12_far 0 = .ok (.aload_n 0, 1) := by decide +kernel
theorem dX12_far_1 : decode cX12_far 1 = .ok (.aload_n 0, 1) := by decide +kernel
theorem dX12_far_2 : decode cX12_far 2 = .ok (.iload_n 1, 1) := by decide +kernel
theorem dX12_far_3 : decode cX12_far 3 = .ok (.invokevirtual 420, 3) := by decide +kernel
theorem dX12_far_6 : decode cX12_far 6 = .ok (.ifCond .eq 23, 3) := by decide +kernel
theorem dX12_far_9 : decode cX12_far 9 = .ok (.aload_n 0, 1) := by decide +kernel
theorem dX12_far_10 : decode cX12_far 10 = .ok (.iload_n 2, 1) := by decide +kernel
theorem dX12_far_11 : decode cX12_far 11 = .ok (.invokevirtual 332, 3) := by decide +kernel
theorem dX12_far_14 : decode cX12_far 14 = .ok (.ifCond .eq 15, 3) := by decide +kernel
theorem dX12_far_17 : decode cX12_far 17 = .ok (.aload_n 0, 1) := by decide +kernel
theorem dX12_far_18 : decode cX12_far 18 = .ok (.iload_n 3, 1) := by decide +kernel
theorem dX12_far_19 : decode cX12_far 19 = .ok (.invokevirtual 332, 3) := by decide +kernel
theorem dX12_far_22 : decode cX12_far 22 = .ok (.ifCond .eq 7, 3) := by decide +kernel
theorem dX12_far_25 : decode cX12_far 25 = .ok (.iconst 0, 1) := by decide +kernel
theorem dX12_far_26 : decode cX12_far 26 = .ok (.goto 4, 3) := by decide +kernel
theorem dX12_far_29 : decode cX12_far 29 = .ok (.iconst 2, 1) := by decide +kernel
theorem dX12_far_30 : decode cX12_far 30 = .ok (.invokevirtual 310, 3) := by decide +kernel
theorem dX12_far_33 : decode cX12_far 33 = .ok (.ifCond .ne 5, 3) := by decide +kernel
theorem dX12_far_36 : decode cX12_far 36 = .ok (.iconst (-1), 1) := by decide +kernel
theorem dX12_far_37 : decode cX12_far 37 = .ok (.ireturn, 1) := by decide +kernel
theorem dX12_far_38 : decode cX12_far 38 = .ok (.aload_n 0, 1) := by decide +kernel
theorem dX12_far_39 : decode cX12_far 39 = .ok (.iload_n 1, 1) := by decide +kernel
theorem dX12_far_40 : decode cX12_far 40 = .ok (.invokevirtual 289, 3) := by decide +kernel
theorem dX12_far_43 : decode cX12_far 43 = .ok (.iconst 1, 1) := by decide +kernel
theorem dX12_far_44 : decode cX12_far 44 = .ok (.iload_n 2, 1) := by decide +kernel
theorem dX12_far_45 : decode cX12_far 45 = .ok (.ishl, 1) := by decide +kernel
theorem dX12_far_46 : decode cX12_far 46 = .ok (.istore 4, 2) := by decide +kernel
theorem dX12_far_48 : decode cX12_far 48 = .ok (.iconst 0, 1) := by decide +kernel
theorem dX12_far_49 : decode cX12_far 49 = .ok (.istore 5, 2) := by decide +kernel
theorem dX12_far_51 : decode cX12_far 51 = .ok (.iconst 0, 1) := by decide +kernel
theorem dX12_far_52 : decode cX12_far 52 = .ok (.istore 6, 2) := by decide +kernel
theorem dX12_far_54 : decode cX12_far 54 = .ok (.iload 4, 2) := by decide +kernel
theorem dX12_far_56 : decode cX12_far 56 = .ok (.iload_n 3, 1) := by decide +kernel
theorem dX12_far_57 : decode cX12_far 57 = .ok (.invokestatic 158, 3) := by decide +kernel
theorem dX12_far_60 : decode cX12_far 60 = .ok (.ifCond .ne 88, 3) := by decide +kernel
theorem dX12_far_63 : decode cX12_far 63 = .ok (.iload 5, 2) := by decide +kernel
theorem dX12_far_65 : decode cX12_far 65 = .ok (.iload 4, 2) := by decide +kernel
theorem dX12_far_67 : decode cX12_far 67 = .ok (.if_icmp .eq 81, 3) := by decide +kernel
theorem dX12_far_70 : decode cX12_far 70 = .ok (.iload 4, 2) := by decide +kernel
theorem dX12_far_72 : decode cX12_far 72 = .ok (.istore 5, 2) := by decide +kernel
theorem dX12_far_74 : decode cX12_far 74 = .ok (.iconst 0, 1) := by decide +kernel
theorem dX12_far_75 : decode cX12_far 75 = .ok (.istore 7, 2) := by decide +kernel
theorem dX12_far_77 : decode cX12_far 77 = .ok (.iload 7, 2) := by decide +kernel
theorem dX12_far_79 : decode cX12_far 79 = .ok (.aload_n 0, 1) := by decide +kernel
theorem dX12_far_80 : decode cX12_far 80 = .ok (.getfield 197, 3) := by decide +kernel
theorem dX12_far_83 : decode cX12_far 83 = .ok (.if_icmp .ge 59, 3) := by decide +kernel
theorem dX12_far_86 : decode cX12_far 86 = .ok (.iload 5, 2) := by decide +kernel
theorem dX12_far_88 : decode cX12_far 88 = .ok (.aload_n 0, 1) := by decide +kernel
theorem dX12_far_89 : decode cX12_far 89 = .ok (.iload 7, 2) := by decide +kernel
theorem dX12_far_91 : decode cX12_far 91 = .ok (.invokevirtual 276, 3) := by decide +kernel
theorem dX12_far_94 : decode cX12_far 94 = .ok (.invokestatic 158, 3) := by decide +kernel
theorem dX12_far_97 : decode cX12_far 97 = .ok (.ifCond .ne 17, 3) := by decide +kernel
theorem dX12_far_100 : decode cX12_far 100 = .ok (.iload 5, 2) := by decide +kernel
theorem dX12_far_102 : decode cX12_far 102 = .ok (.aload_n 0, 1) := by decide +kernel
theorem dX12_far_103 : decode cX12_far 103 = .ok (.iload 7, 2) := by decide +kernel
theorem dX12_far_105 : decode cX12_far 105 = .ok (.invokevirtual 279, 3) := by decide +kernel
theorem dX12_far_108 : decode cX12_far 108 = .ok (.invokestatic 158, 3) := by decide +kernel
theorem dX12_far_111 : decode cX12_far 111 = .ok (.ifCond .eq 25, 3) := by decide +kernel
theorem dX12_far_114 : decode cX12_far 114 = .ok (.iload 4, 2) := by decide +kernel
theorem dX12_far_116 : decode cX12_far 116 = .ok (.iconst 1, 1) := by decide +kernel
theorem dX12_far_117 : decode cX12_far 117 = .ok (.aload_n 0, 1) := by decide +kernel
theorem dX12_far_118 : decode cX12_far 118 = .ok (.iload 7, 2) := by decide +kernel
theorem dX12_far_120 : decode cX12_far 120 = .ok (.invokevirtual 276, 3) := by decide +kernel
theorem dX12_far_123 : decode cX12_far 123 = .ok (.ishl, 1) := by decide +kernel
theorem dX12_far_124 : decode cX12_far 124 = .ok (.iconst 1, 1) := by decide +kernel
theorem dX12_far_125 : decode cX12_far 125 = .ok (.aload_n 0, 1) := by decide +kernel
theorem dX12_far_126 : decode cX12_far 126 = .ok (.iload 7, 2) := by decide +kernel
theorem dX12_far_128 : decode cX12_far 128 = .ok (.invokevirtual 279, 3) := by decide +kernel
theorem dX12_far_131 : decode cX12_far 131 = .ok (.ishl, 1) := by decide +kernel
theorem dX12_far_132 : decode cX12_far 132 = .ok (.ior, 1) := by decide +kernel
theorem dX12_far_133 : decode cX12_far 133 = .ok (.ior, 1) := by decide +kernel
theorem dX12_far_134 : decode cX12_far 134 = .ok (.istore 4, 2) := by decide +kernel
theorem dX12_far_136 : decode cX12_far 136 = .ok (.iinc 7 1, 3) := by decide +kernel
theorem dX12_far_139 : decode cX12_far 139 = .ok (.goto (-62), 3) := by decide +kernel
theorem dX12_far_142 : decode cX12_far 142 = .ok (.iinc 6 1, 3) := by decide +kernel
theorem dX12_far_145 : decode cX12_far 145 = .ok (.goto (-91), 3) := by decide +kernel
theorem dX12_far_148 : decode cX12_far 148 = .ok (.iload 4, 2) := by decide +kernel
theorem dX12_far_150 : decode cX12_far 150 = .ok (.iload_n 3, 1) := by decide +kernel
theorem dX12_far_151 : decode cX12_far 151 = .ok (.invokestatic 158, 3) := by decide +kernel
theorem dX12_far_154 : decode cX12_far 154 = .ok (.ifCond .eq 8, 3) := by decide +kernel
theorem dX12_far_157 : decode cX12_far 157 = .ok (.iload 6, 2) := by decide +kernel
theorem dX12_far_159 : decode cX12_far 159 = .ok (.goto 8, 3) := by decide +kernel
theorem dX12_far_162 : decode cX12_far 162 = .ok (.aload_n 0, 1) := by decide +kernel
theorem dX12_far_163 : decode cX12_far 163 = .ok (.iconst 5, 1) := by decide +kernel
theorem dX12_far_164 : decode cX12_far 164 = .ok (.invokevirtual 426, 3) := by decide +kernel
theorem dX12_far_167 : decode cX12_far 167 = .ok (.ireturn, 1) := by decide +kernel
theorem dX12_holds_0 : decode cX12_holds 0 = .ok (.aload_n 0, 1) := by decide +kernel
theorem dX12_holds_1 : decode cX12_holds 1 = .ok (.aload_n 0, 1) := by decide +kernel
theorem dX12_holds_2 : decode cX12_holds 2 = .ok (.iload_n 1, 1) := by decide +kernel
theorem dX12_holds_3 : decode cX12_holds 3 = .ok (.invokevirtual 420, 3) := by decide +kernel
theorem dX12_holds_6 : decode cX12_holds 6 = .ok (.ifCond .eq 7, 3) := by decide +kernel
theorem dX12_holds_9 : decode cX12_holds 9 = .ok (.iconst 0, 1) := by decide +kernel
theorem dX12_holds_10 : decode cX12_holds 10 = .ok (.goto 4, 3) := by decide +kernel
theorem dX12_holds_13 : decode cX12_holds 13 = .ok (.iconst 2, 1) := by decide +kernel
theorem dX12_holds_14 : decode cX12_holds 14 = .ok (.invokevirtual 310, 3) := by decide +kernel
theorem dX12_holds_17 : decode cX12_holds 17 = .ok (.ifCond .ne 5, 3) := by decide +kernel
theorem dX12_holds_20 : decode cX12_holds 20 = .ok (.iconst (-1), 1) := by decide +kernel
theorem dX12_holds_21 : decode cX12_holds 21 = .ok (.ireturn, 1) := by decide +kernel
theorem dX12_holds_22 : decode cX12_holds 22 = .ok (.aload_n 0, 1) := by decide +kernel
theorem dX12_holds_23 : decode cX12_holds 23 = .ok (.iload_n 1, 1) := by decide +kernel
theorem dX12_holds_24 : decode cX12_holds 24 = .ok (.invokevirtual 289, 3) := by decide +kernel
theorem dX12_holds_27 : decode cX12_holds 27 = .ok (.iconst 0, 1) := by decide +kernel
theorem dX12_holds_28 : decode cX12_holds 28 = .ok (.istore_n 2, 1) := by decide +kernel
theorem dX12_holds_29 : decode cX12_holds 29 = .ok (.iconst 0, 1) := by decide +kernel
theorem dX12_holds_30 : decode cX12_holds 30 = .ok (.istore_n 3, 1) := by decide +kernel
theorem dX12_holds_31 : decode cX12_holds 31 = .ok (.iload_n 3, 1) := by decide +kernel
theorem dX12_holds_32 : decode cX12_holds 32 = .ok (.aload_n 0, 1) := by decide +kernel
theorem dX12_holds_33 : decode cX12_holds 33 = .ok (.getfield 7, 3) := by decide +kernel
theorem dX12_holds_36 : decode cX12_holds 36 = .ok (.iconst 2, 1) := by decide +kernel
theorem dX12_holds_37 : decode cX12_holds 37 = .ok (.iaload, 1) := by decide +kernel
theorem dX12_holds_38 : decode cX12_holds 38 = .ok (.if_icmp .ge 74, 3) := by decide +kernel
theorem dX12_holds_41 : decode cX12_holds 41 = .ok (.aload_n 0, 1) := by decide +kernel
theorem dX12_holds_42 : decode cX12_holds 42 = .ok (.iload_n 3, 1) := by decide +kernel
theorem dX12_holds_43 : decode cX12_holds 43 = .ok (.iconst (-1), 1) := by decide +kernel
theorem dX12_holds_44 : decode cX12_holds 44 = .ok (.iconst (-1), 1) := by decide +kernel
theorem dX12_holds_45 : decode cX12_holds 45 = .ok (.invokevirtual 282, 3) := by decide +kernel
theorem dX12_holds_48 : decode cX12_holds 48 = .ok (.iconst 1, 1) := by decide +kernel
theorem dX12_holds_49 : decode cX12_holds 49 = .ok (.iload_n 3, 1) := by decide +kernel
theorem dX12_holds_50 : decode cX12_holds 50 = .ok (.ishl, 1) := by decide +kernel
theorem dX12_holds_51 : decode cX12_holds 51 = .ok (.iconst (-1), 1) := by decide +kernel
theorem dX12_holds_52 : decode cX12_holds 52 = .ok (.ixor, 1) := by decide +kernel
theorem dX12_holds_53 : decode cX12_holds 53 = .ok (.iand, 1) := by decide +kernel
theorem dX12_holds_54 : decode cX12_holds 54 = .ok (.istore 4, 2) := by decide +kernel
theorem dX12_holds_56 : decode cX12_holds 56 = .ok (.iload 4, 2) := by decide +kernel
theorem dX12_holds_58 : decode cX12_holds 58 = .ok (.ifCond .ne 6, 3) := by decide +kernel
theorem dX12_holds_61 : decode cX12_holds 61 = .ok (.goto 45, 3) := by decide +kernel
theorem dX12_holds_64 : decode cX12_holds 64 = .ok (.iconst 0, 1) := by decide +kernel
theorem dX12_holds_65 : decode cX12_holds 65 = .ok (.istore 5, 2) := by decide +kernel
theorem dX12_holds_67 : decode cX12_holds 67 = .ok (.iload 4, 2) := by decide +kernel
theorem dX12_holds_69 : decode cX12_holds 69 = .ok (.iload 5, 2) := by decide +kernel
theorem dX12_holds_71 : decode cX12_holds 71 = .ok (.invokestatic 158, 3) := by decide +kernel
theorem dX12_holds_74 : decode cX12_holds 74 = .ok (.ifCond .ne 9, 3) := by decide +kernel
theorem dX12_holds_77 : decode cX12_holds 77 = .ok (.iinc 5 1, 3) := by decide +kernel
theorem dX12_holds_80 : decode cX12_holds 80 = .ok (.goto (-13), 3) := by decide +kernel
theorem dX12_holds_83 : decode cX12_holds 83 = .ok (.iload_n 2, 1) := by decide +kernel
theorem dX12_holds_84 : decode cX12_holds 84 = .ok (.aload_n 0, 1) := by decide +kernel
theorem dX12_holds_85 : decode cX12_holds 85 = .ok (.iload 5, 2) := by decide +kernel
theorem dX12_holds_87 : decode cX12_holds 87 = .ok (.iconst (-1), 1) := by decide +kernel
theorem dX12_holds_88 : decode cX12_holds 88 = .ok (.iload_n 3, 1) := by decide +kernel
theorem dX12_holds_89 : decode cX12_holds 89 = .ok (.invokevirtual 282, 3) := by decide +kernel
theorem dX12_holds_92 : decode cX12_holds 92 = .ok (.iload 4, 2) := by decide +kernel
theorem dX12_holds_94 : decode cX12_holds 94 = .ok (.if_icmp .eq 9, 3) := by decide +kernel
theorem dX12_holds_97 : decode cX12_holds 97 = .ok (.iconst 1, 1) := by decide +kernel
theorem dX12_holds_98 : decode cX12_holds 98 = .ok (.iload_n 3, 1) := by decide +kernel
theorem dX12_holds_99 : decode cX12_holds 99 = .ok (.ishl, 1) := by decide +kernel
theorem dX12_holds_100 : decode cX12_holds 100 = .ok (.goto 4, 3) := by decide +kernel
theorem dX12_holds_103 : decode cX12_holds 103 = .ok (.iconst 0, 1) := by decide +kernel
theorem dX12_holds_104 : decode cX12_holds 104 = .ok (.ior, 1) := by decide +kernel
theorem dX12_holds_105 : decode cX12_holds 105 = .ok (.istore_n 2, 1) := by decide +kernel
theorem dX12_holds_106 : decode cX12_holds 106 = .ok (.iinc 3 1, 3) := by decide +kernel
theorem dX12_holds_109 : decode cX12_holds 109 = .ok (.goto (-78), 3) := by decide +kernel
theorem dX12_holds_112 : decode cX12_holds 112 = .ok (.iload_n 2, 1) := by decide +kernel
theorem dX12_holds_113 : decode cX12_holds 113 = .ok (.ireturn, 1) := by decide +kernel
theorem dX12_ofDiagram_0 : decode cX12_ofDiagram 0 = .ok (.aload_n 0, 1) := by decide +kernel
theorem dX12_ofDiagram_1 : decode cX12_ofDiagram 1 = .ok (.iload_n 2, 1) := by decide +kernel
theorem dX12_ofDiagram_2 : decode cX12_ofDiagram 2 = .ok (.iconst 0, 1) := by decide +kernel
theorem dX12_ofDiagram_3 : decode cX12_ofDiagram 3 = .ok (.iconst 1, 1) := by decide +kernel
theorem dX12_ofDiagram_4 : decode cX12_ofDiagram 4 = .ok (.invokestatic 140, 3) := by decide +kernel
theorem dX12_ofDiagram_7 : decode cX12_ofDiagram 7 = .ok (.ifCond .eq 7, 3) := by decide +kernel
theorem dX12_ofDiagram_10 : decode cX12_ofDiagram 10 = .ok (.iload_n 3, 1) := by decide +kernel
theorem dX12_ofDiagram_11 : decode cX12_ofDiagram 11 = .ok (.ifCond .ge 7, 3) := by decide +kernel
theorem dX12_ofDiagram_14 : decode cX12_ofDiagram 14 = .ok (.iconst 1, 1) := by decide +kernel
theorem dX12_ofDiagram_15 : decode cX12_ofDiagram 15 = .ok (.goto 16, 3) := by decide +kernel
theorem dX12_ofDiagram_18 : decode cX12_ofDiagram 18 = .ok (.aload_n 0, 1) := by decide +kernel
theorem dX12_ofDiagram_19 : decode cX12_ofDiagram 19 = .ok (.iload_n 1, 1) := by decide +kernel
theorem dX12_ofDiagram_20 : decode cX12_ofDiagram 20 = .ok (.invokevirtual 420, 3) := by decide +kernel
theorem dX12_ofDiagram_23 : decode cX12_ofDiagram 23 = .ok (.ifCond .eq 7, 3) := by decide +kernel
theorem dX12_ofDiagram_26 : decode cX12_ofDiagram 26 = .ok (.iconst 0, 1) := by decide +kernel
theorem dX12_ofDiagram_27 : decode cX12_ofDiagram 27 = .ok (.goto 4, 3) := by decide +kernel
theorem dX12_ofDiagram_30 : decode cX12_ofDiagram 30 = .ok (.iconst 2, 1) := by decide +kernel
theorem dX12_ofDiagram_31 : decode cX12_ofDiagram 31 = .ok (.invokevirtual 310, 3) := by decide +kernel
theorem dX12_ofDiagram_34 : decode cX12_ofDiagram 34 = .ok (.ifCond .ne 5, 3) := by decide +kernel
theorem dX12_ofDiagram_37 : decode cX12_ofDiagram 37 = .ok (.iconst (-1), 1) := by decide +kernel
theorem dX12_ofDiagram_38 : decode cX12_ofDiagram 38 = .ok (.ireturn, 1) := by decide +kernel
theorem dX12_ofDiagram_39 : decode cX12_ofDiagram 39 = .ok (.iconst 0, 1) := by decide +kernel
theorem dX12_ofDiagram_40 : decode cX12_ofDiagram 40 = .ok (.istore 4, 2) := by decide +kernel
theorem dX12_ofDiagram_42 : decode cX12_ofDiagram 42 = .ok (.iconst 0, 1) := by decide +kernel
theorem dX12_ofDiagram_43 : decode cX12_ofDiagram 43 = .ok (.istore 5, 2) := by decide +kernel
theorem dX12_ofDiagram_45 : decode cX12_ofDiagram 45 = .ok (.iload 5, 2) := by decide +kernel
theorem dX12_ofDiagram_47 : decode cX12_ofDiagram 47 = .ok (.aload_n 0, 1) := by decide +kernel
theorem dX12_ofDiagram_48 : decode cX12_ofDiagram 48 = .ok (.getfield 172, 3) := by decide +kernel
theorem dX12_ofDiagram_51 : decode cX12_ofDiagram 51 = .ok (.if_icmp .ge 41, 3) := by decide +kernel
theorem dX12_ofDiagram_54 : decode cX12_ofDiagram 54 = .ok (.iload 4, 2) := by decide +kernel
theorem dX12_ofDiagram_56 : decode cX12_ofDiagram 56 = .ok (.aload_n 0, 1) := by decide +kernel
theorem dX12_ofDiagram_57 : decode cX12_ofDiagram 57 = .ok (.getfield 38, 3) := by decide +kernel
theorem dX12_ofDiagram_60 : decode cX12_ofDiagram 60 = .ok (.iload 5, 2) := by decide +kernel
theorem dX12_ofDiagram_62 : decode cX12_ofDiagram 62 = .ok (.iaload, 1) := by decide +kernel
theorem dX12_ofDiagram_63 : decode cX12_ofDiagram 63 = .ok (.iload_n 1, 1) := by decide +kernel
theorem dX12_ofDiagram_64 : decode cX12_ofDiagram 64 = .ok (.if_icmp .ne 18, 3) := by decide +kernel
theorem dX12_ofDiagram_67 : decode cX12_ofDiagram 67 = .ok (.aload_n 0, 1) := by decide +kernel
theorem dX12_ofDiagram_68 : decode cX12_ofDiagram 68 = .ok (.iload 5, 2) := by decide +kernel
theorem dX12_ofDiagram_70 : decode cX12_ofDiagram 70 = .ok (.iload_n 2, 1) := by decide +kernel
theorem dX12_ofDiagram_71 : decode cX12_ofDiagram 71 = .ok (.iload_n 3, 1) := by decide +kernel
theorem dX12_ofDiagram_72 : decode cX12_ofDiagram 72 = .ok (.invokevirtual 370, 3) := by decide +kernel
theorem dX12_ofDiagram_75 : decode cX12_ofDiagram 75 = .ok (.ifCond .eq 7, 3) := by decide +kernel
theorem dX12_ofDiagram_78 : decode cX12_ofDiagram 78 = .ok (.iconst 1, 1) := by decide +kernel
theorem dX12_ofDiagram_79 : decode cX12_ofDiagram 79 = .ok (.goto 4, 3) := by decide +kernel
theorem dX12_ofDiagram_82 : decode cX12_ofDiagram 82 = .ok (.iconst 0, 1) := by decide +kernel
theorem dX12_ofDiagram_83 : decode cX12_ofDiagram 83 = .ok (.iadd, 1) := by decide +kernel
theorem dX12_ofDiagram_84 : decode cX12_ofDiagram 84 = .ok (.istore 4, 2) := by decide +kernel
theorem dX12_ofDiagram_86 : decode cX12_ofDiagram 86 = .ok (.iinc 5 1, 3) := by decide +kernel
theorem dX12_ofDiagram_89 : decode cX12_ofDiagram 89 = .ok (.goto (-44), 3) := by decide +kernel
theorem dX12_ofDiagram_92 : decode cX12_ofDiagram 92 = .ok (.iload 4, 2) := by decide +kernel
theorem dX12_ofDiagram_94 : decode cX12_ofDiagram 94 = .ok (.ireturn, 1) := by decide +kernel
theorem dX12_sumOf_0 : decode cX12_sumOf 0 = .ok (.aload_n 0, 1) := by decide +kernel
theorem dX12_sumOf_1 : decode cX12_sumOf 1 = .ok (.aload_n 0, 1) := by decide +kernel
theorem dX12_sumOf_2 : decode cX12_sumOf 2 = .ok (.iload_n 1, 1) := by decide +kernel
theorem dX12_sumOf_3 : decode cX12_sumOf 3 = .ok (.invokevirtual 420, 3) := by decide +kernel
theorem dX12_sumOf_6 : decode cX12_sumOf 6 = .ok (.ifCond .eq 7, 3) := by decide +kernel
theorem dX12_sumOf_9 : decode cX12_sumOf 9 = .ok (.iconst 0, 1) := by decide +kernel
theorem dX12_sumOf_10 : decode cX12_sumOf 10 = .ok (.goto 4, 3) := by decide +kernel
theorem dX12_sumOf_13 : decode cX12_sumOf 13 = .ok (.iconst 2, 1) := by decide +kernel
theorem dX12_sumOf_14 : decode cX12_sumOf 14 = .ok (.invokevirtual 310, 3) := by decide +kernel
theorem dX12_sumOf_17 : decode cX12_sumOf 17 = .ok (.ifCond .ne 7, 3) := by decide +kernel
theorem dX12_sumOf_20 : decode cX12_sumOf 20 = .ok (.ldc2_w 241, 3) := by decide +kernel
theorem dX12_sumOf_23 : decode cX12_sumOf 23 = .ok (.lreturn, 1) := by decide +kernel
theorem dX12_sumOf_24 : decode cX12_sumOf 24 = .ok (.lconst 0, 1) := by decide +kernel
theorem dX12_sumOf_25 : decode cX12_sumOf 25 = .ok (.lstore_n 2, 1) := by decide +kernel
theorem dX12_sumOf_26 : decode cX12_sumOf 26 = .ok (.iconst 0, 1) := by decide +kernel
theorem dX12_sumOf_27 : decode cX12_sumOf 27 = .ok (.istore 4, 2) := by decide +kernel
theorem dX12_sumOf_29 : decode cX12_sumOf 29 = .ok (.iload 4, 2) := by decide +kernel
theorem dX12_sumOf_31 : decode cX12_sumOf 31 = .ok (.aload_n 0, 1) := by decide +kernel
theorem dX12_sumOf_32 : decode cX12_sumOf 32 = .ok (.getfield 172, 3) := by decide +kernel
theorem dX12_sumOf_35 : decode cX12_sumOf 35 = .ok (.if_icmp .ge 33, 3) := by decide +kernel
theorem dX12_sumOf_38 : decode cX12_sumOf 38 = .ok (.lload_n 2, 1) := by decide +kernel
theorem dX12_sumOf_39 : decode cX12_sumOf 39 = .ok (.aload_n 0, 1) := by decide +kernel
theorem dX12_sumOf_40 : decode cX12_sumOf 40 = .ok (.getfield 38, 3) := by decide +kernel
theorem dX12_sumOf_43 : decode cX12_sumOf 43 = .ok (.iload 4, 2) := by decide +kernel
theorem dX12_sumOf_45 : decode cX12_sumOf 45 = .ok (.iaload, 1) := by decide +kernel
theorem dX12_sumOf_46 : decode cX12_sumOf 46 = .ok (.iload_n 1, 1) := by decide +kernel
theorem dX12_sumOf_47 : decode cX12_sumOf 47 = .ok (.if_icmp .ne 12, 3) := by decide +kernel
theorem dX12_sumOf_50 : decode cX12_sumOf 50 = .ok (.aload_n 0, 1) := by decide +kernel
theorem dX12_sumOf_51 : decode cX12_sumOf 51 = .ok (.iload 4, 2) := by decide +kernel
theorem dX12_sumOf_53 : decode cX12_sumOf 53 = .ok (.invokevirtual 389, 3) := by decide +kernel
theorem dX12_sumOf_56 : decode cX12_sumOf 56 = .ok (.goto 4, 3) := by decide +kernel
theorem dX12_sumOf_59 : decode cX12_sumOf 59 = .ok (.lconst 0, 1) := by decide +kernel
theorem dX12_sumOf_60 : decode cX12_sumOf 60 = .ok (.ladd, 1) := by decide +kernel
theorem dX12_sumOf_61 : decode cX12_sumOf 61 = .ok (.lstore_n 2, 1) := by decide +kernel
theorem dX12_sumOf_62 : decode cX12_sumOf 62 = .ok (.iinc 4 1, 3) := by decide +kernel
theorem dX12_sumOf_65 : decode cX12_sumOf 65 = .ok (.goto (-36), 3) := by decide +kernel
theorem dX12_sumOf_68 : decode cX12_sumOf 68 = .ok (.lload_n 2, 1) := by decide +kernel
theorem dX12_sumOf_69 : decode cX12_sumOf 69 = .ok (.lreturn, 1) := by decide +kernel
theorem dX12_asDiagram_0 : decode cX12_asDiagram 0 = .ok (.iload_n 0, 1) := by decide +kernel
theorem dX12_asDiagram_1 : decode cX12_asDiagram 1 = .ok (.ifCond .ne 7, 3) := by decide +kernel
theorem dX12_asDiagram_4 : decode cX12_asDiagram 4 = .ok (.iconst 3, 1) := by decide +kernel
theorem dX12_asDiagram_5 : decode cX12_asDiagram 5 = .ok (.goto 33, 3) := by decide +kernel
theorem dX12_asDiagram_8 : decode cX12_asDiagram 8 = .ok (.iload_n 0, 1) := by decide +kernel
theorem dX12_asDiagram_9 : decode cX12_asDiagram 9 = .ok (.iconst 1, 1) := by decide +kernel
theorem dX12_asDiagram_10 : decode cX12_asDiagram 10 = .ok (.if_icmp .ne 7, 3) := by decide +kernel
theorem dX12_asDiagram_13 : decode cX12_asDiagram 13 = .ok (.iconst 5, 1) := by decide +kernel
theorem dX12_asDiagram_14 : decode cX12_asDiagram 14 = .ok (.goto 24, 3) := by decide +kernel
theorem dX12_asDiagram_17 : decode cX12_asDiagram 17 = .ok (.iload_n 0, 1) := by decide +kernel
theorem dX12_asDiagram_18 : decode cX12_asDiagram 18 = .ok (.iconst 2, 1) := by decide +kernel
theorem dX12_asDiagram_19 : decode cX12_asDiagram 19 = .ok (.if_icmp .ne 8, 3) := by decide +kernel
theorem dX12_asDiagram_22 : decode cX12_asDiagram 22 = .ok (.bipush 6, 2) := by decide +kernel
theorem dX12_asDiagram_24 : decode cX12_asDiagram 24 = .ok (.goto 14, 3) := by decide +kernel
theorem dX12_asDiagram_27 : decode cX12_asDiagram 27 = .ok (.iload_n 0, 1) := by decide +kernel
theorem dX12_asDiagram_28 : decode cX12_asDiagram 28 = .ok (.iconst 3, 1) := by decide +kernel
theorem dX12_asDiagram_29 : decode cX12_asDiagram 29 = .ok (.if_icmp .ne 8, 3) := by decide +kernel
theorem dX12_asDiagram_32 : decode cX12_asDiagram 32 = .ok (.bipush 7, 2) := by decide +kernel
theorem dX12_asDiagram_34 : decode cX12_asDiagram 34 = .ok (.goto 4, 3) := by decide +kernel
theorem dX12_asDiagram_37 : decode cX12_asDiagram 37 = .ok (.iconst 2, 1) := by decide +kernel
theorem dX12_asDiagram_38 : decode cX12_asDiagram 38 = .ok (.ireturn, 1) := by decide +kernel
theorem dX12_diagrams_0 : decode cX12_diagrams 0 = .ok (.aload_n 0, 1) := by decide +kernel
theorem dX12_diagrams_1 : decode cX12_diagrams 1 = .ok (.iload_n 1, 1) := by decide +kernel
theorem dX12_diagrams_2 : decode cX12_diagrams 2 = .ok (.iconst 0, 1) := by decide +kernel
theorem dX12_diagrams_3 : decode cX12_diagrams 3 = .ok (.iconst 4, 1) := by decide +kernel
theorem dX12_diagrams_4 : decode cX12_diagrams 4 = .ok (.invokestatic 140, 3) := by decide +kernel
theorem dX12_diagrams_7 : decode cX12_diagrams 7 = .ok (.ifCond .eq 11, 3) := by decide +kernel
theorem dX12_diagrams_10 : decode cX12_diagrams 10 = .ok (.iload_n 2, 1) := by decide +kernel
theorem dX12_diagrams_11 : decode cX12_diagrams 11 = .ok (.ifCond .lt 7, 3) := by decide +kernel
theorem dX12_diagrams_14 : decode cX12_diagrams 14 = .ok (.iconst 0, 1) := by decide +kernel
theorem dX12_diagrams_15 : decode cX12_diagrams 15 = .ok (.goto 4, 3) := by decide +kernel
theorem dX12_diagrams_18 : decode cX12_diagrams 18 = .ok (.iconst 1, 1) := by decide +kernel
theorem dX12_diagrams_19 : decode cX12_diagrams 19 = .ok (.invokevirtual 310, 3) := by decide +kernel
theorem dX12_diagrams_22 : decode cX12_diagrams 22 = .ok (.ifCond .ne 5, 3) := by decide +kernel
theorem dX12_diagrams_25 : decode cX12_diagrams 25 = .ok (.iconst (-1), 1) := by decide +kernel
theorem dX12_diagrams_26 : decode cX12_diagrams 26 = .ok (.ireturn, 1) := by decide +kernel
theorem dX12_diagrams_27 : decode cX12_diagrams 27 = .ok (.aload_n 0, 1) := by decide +kernel
theorem dX12_diagrams_28 : decode cX12_diagrams 28 = .ok (.invokevirtual 273, 3) := by decide +kernel
theorem dX12_diagrams_31 : decode cX12_diagrams 31 = .ok (.iconst 0, 1) := by decide +kernel
theorem dX12_diagrams_32 : decode cX12_diagrams 32 = .ok (.istore_n 3, 1) := by decide +kernel
theorem dX12_diagrams_33 : decode cX12_diagrams 33 = .ok (.iconst 0, 1) := by decide +kernel
theorem dX12_diagrams_34 : decode cX12_diagrams 34 = .ok (.istore 4, 2) := by decide +kernel
theorem dX12_diagrams_36 : decode cX12_diagrams 36 = .ok (.iload 4, 2) := by decide +kernel
theorem dX12_diagrams_38 : decode cX12_diagrams 38 = .ok (.aload_n 0, 1) := by decide +kernel
theorem dX12_diagrams_39 : decode cX12_diagrams 39 = .ok (.getfield 266, 3) := by decide +kernel
theorem dX12_diagrams_42 : decode cX12_diagrams 42 = .ok (.if_icmp .ge 31, 3) := by decide +kernel
theorem dX12_diagrams_45 : decode cX12_diagrams 45 = .ok (.iload_n 3, 1) := by decide +kernel
theorem dX12_diagrams_46 : decode cX12_diagrams 46 = .ok (.aload_n 0, 1) := by decide +kernel
theorem dX12_diagrams_47 : decode cX12_diagrams 47 = .ok (.iload 4, 2) := by decide +kernel
theorem dX12_diagrams_49 : decode cX12_diagrams 49 = .ok (.iload_n 1, 1) := by decide +kernel
theorem dX12_diagrams_50 : decode cX12_diagrams 50 = .ok (.invokestatic 429, 3) := by decide +kernel
theorem dX12_diagrams_53 : decode cX12_diagrams 53 = .ok (.invokevirtual 423, 3) := by decide +kernel
theorem dX12_diagrams_56 : decode cX12_diagrams 56 = .ok (.iload_n 2, 1) := by decide +kernel
theorem dX12_diagrams_57 : decode cX12_diagrams 57 = .ok (.if_icmp .ne 7, 3) := by decide +kernel
theorem dX12_diagrams_60 : decode cX12_diagrams 60 = .ok (.iconst 1, 1) := by decide +kernel
theorem dX12_diagrams_61 : decode cX12_diagrams 61 = .ok (.goto 4, 3) := by decide +kernel
theorem dX12_diagrams_64 : decode cX12_diagrams 64 = .ok (.iconst 0, 1) := by decide +kernel
theorem dX12_diagrams_65 : decode cX12_diagrams 65 = .ok (.iadd, 1) := by decide +kernel
theorem dX12_diagrams_66 : decode cX12_diagrams 66 = .ok (.istore_n 3, 1) := by decide +kernel
theorem dX12_diagrams_67 : decode cX12_diagrams 67 = .ok (.iinc 4 1, 3) := by decide +kernel
theorem dX12_diagrams_70 : decode cX12_diagrams 70 = .ok (.goto (-34), 3) := by decide +kernel
theorem dX12_diagrams_73 : decode cX12_diagrams 73 = .ok (.iload_n 3, 1) := by decide +kernel
theorem dX12_diagrams_74 : decode cX12_diagrams 74 = .ok (.ireturn, 1) := by decide +kernel
theorem dX12_core_0 : decode cX12_core 0 = .ok (.aload_n 0, 1) := by decide +kernel
theorem dX12_core_1 : decode cX12_core 1 = .ok (.iload_n 2, 1) := by decide +kernel
theorem dX12_core_2 : decode cX12_core 2 = .ok (.iconst 0, 1) := by decide +kernel
theorem dX12_core_3 : decode cX12_core 3 = .ok (.iconst 2, 1) := by decide +kernel
theorem dX12_core_4 : decode cX12_core 4 = .ok (.invokestatic 140, 3) := by decide +kernel
theorem dX12_core_7 : decode cX12_core 7 = .ok (.ifCond .ne 7, 3) := by decide +kernel
theorem dX12_core_10 : decode cX12_core 10 = .ok (.iconst 1, 1) := by decide +kernel
theorem dX12_core_11 : decode cX12_core 11 = .ok (.goto 16, 3) := by decide +kernel
theorem dX12_core_14 : decode cX12_core 14 = .ok (.aload_n 0, 1) := by decide +kernel
theorem dX12_core_15 : decode cX12_core 15 = .ok (.iload_n 1, 1) := by decide +kernel
theorem dX12_core_16 : decode cX12_core 16 = .ok (.invokevirtual 420, 3) := by decide +kernel
theorem dX12_core_19 : decode cX12_core 19 = .ok (.ifCond .eq 7, 3) := by decide +kernel
theorem dX12_core_22 : decode cX12_core 22 = .ok (.iconst 0, 1) := by decide +kernel
theorem dX12_core_23 : decode cX12_core 23 = .ok (.goto 4, 3) := by decide +kernel
theorem dX12_core_26 : decode cX12_core 26 = .ok (.iconst 2, 1) := by decide +kernel
theorem dX12_core_27 : decode cX12_core 27 = .ok (.invokevirtual 310, 3) := by decide +kernel
theorem dX12_core_30 : decode cX12_core 30 = .ok (.ifCond .ne 5, 3) := by decide +kernel
theorem dX12_core_33 : decode cX12_core 33 = .ok (.iconst (-1), 1) := by decide +kernel
theorem dX12_core_34 : decode cX12_core 34 = .ok (.ireturn, 1) := by decide +kernel
theorem dX12_core_35 : decode cX12_core 35 = .ok (.aload_n 0, 1) := by decide +kernel
theorem dX12_core_36 : decode cX12_core 36 = .ok (.iload_n 1, 1) := by decide +kernel
theorem dX12_core_37 : decode cX12_core 37 = .ok (.invokevirtual 289, 3) := by decide +kernel
theorem dX12_core_40 : decode cX12_core 40 = .ok (.aload_n 0, 1) := by decide +kernel
theorem dX12_core_41 : decode cX12_core 41 = .ok (.invokevirtual 292, 3) := by decide +kernel
theorem dX12_core_44 : decode cX12_core 44 = .ok (.aload_n 0, 1) := by decide +kernel
theorem dX12_core_45 : decode cX12_core 45 = .ok (.aload_n 0, 1) := by decide +kernel
theorem dX12_core_46 : decode cX12_core 46 = .ok (.invokevirtual 292, 3) := by decide +kernel
theorem dX12_core_49 : decode cX12_core 49 = .ok (.invokevirtual 295, 3) := by decide +kernel
theorem dX12_core_52 : decode cX12_core 52 = .ok (.iconst (-1), 1) := by decide +kernel
theorem dX12_core_53 : decode cX12_core 53 = .ok (.ixor, 1) := by decide +kernel
theorem dX12_core_54 : decode cX12_core 54 = .ok (.iand, 1) := by decide +kernel
theorem dX12_core_55 : decode cX12_core 55 = .ok (.istore_n 3, 1) := by decide +kernel
theorem dX12_core_56 : decode cX12_core 56 = .ok (.iload_n 2, 1) := by decide +kernel
theorem dX12_core_57 : decode cX12_core 57 = .ok (.iconst 1, 1) := by decide +kernel
theorem dX12_core_58 : decode cX12_core 58 = .ok (.if_icmp .eq 16, 3) := by decide +kernel
theorem dX12_core_61 : decode cX12_core 61 = .ok (.iload_n 2, 1) := by decide +kernel
theorem dX12_core_62 : decode cX12_core 62 = .ok (.ifCond .ne 10, 3) := by decide +kernel
theorem dX12_core_65 : decode cX12_core 65 = .ok (.iload_n 3, 1) := by decide +kernel
theorem dX12_core_66 : decode cX12_core 66 = .ok (.invokestatic 432, 3) := by decide +kernel
theorem dX12_core_69 : decode cX12_core 69 = .ok (.goto 4, 3) := by decide +kernel
theorem dX12_core_72 : decode cX12_core 72 = .ok (.iload_n 3, 1) := by decide +kernel
theorem dX12_core_73 : decode cX12_core 73 = .ok (.ireturn, 1) := by decide +kernel
theorem dX12_core_74 : decode cX12_core 74 = .ok (.iconst 0, 1) := by decide +kernel
theorem dX12_core_75 : decode cX12_core 75 = .ok (.istore 4, 2) := by decide +kernel
theorem dX12_core_77 : decode cX12_core 77 = .ok (.iconst 0, 1) := by decide +kernel
theorem dX12_core_78 : decode cX12_core 78 = .ok (.istore 5, 2) := by decide +kernel
theorem dX12_core_80 : decode cX12_core 80 = .ok (.iload 5, 2) := by decide +kernel
theorem dX12_core_82 : decode cX12_core 82 = .ok (.aload_n 0, 1) := by decide +kernel
theorem dX12_core_83 : decode cX12_core 83 = .ok (.getfield 197, 3) := by decide +kernel
theorem dX12_core_86 : decode cX12_core 86 = .ok (.if_icmp .ge 32, 3) := by decide +kernel
theorem dX12_core_89 : decode cX12_core 89 = .ok (.iload 4, 2) := by decide +kernel
theorem dX12_core_91 : decode cX12_core 91 = .ok (.iload_n 3, 1) := by decide +kernel
theorem dX12_core_92 : decode cX12_core 92 = .ok (.aload_n 0, 1) := by decide +kernel
theorem dX12_core_93 : decode cX12_core 93 = .ok (.iload 5, 2) := by decide +kernel
theorem dX12_core_95 : decode cX12_core 95 = .ok (.invokevirtual 276, 3) := by decide +kernel
theorem dX12_core_98 : decode cX12_core 98 = .ok (.invokestatic 158, 3) := by decide +kernel
theorem dX12_core_101 : decode cX12_core 101 = .ok (.ifCond .eq 7, 3) := by decide +kernel
theorem dX12_core_104 : decode cX12_core 104 = .ok (.iconst 1, 1) := by decide +kernel
theorem dX12_core_105 : decode cX12_core 105 = .ok (.goto 4, 3) := by decide +kernel
theorem dX12_core_108 : decode cX12_core 108 = .ok (.iconst 0, 1) := by decide +kernel
theorem dX12_core_109 : decode cX12_core 109 = .ok (.iadd, 1) := by decide +kernel
theorem dX12_core_110 : decode cX12_core 110 = .ok (.istore 4, 2) := by decide +kernel
theorem dX12_core_112 : decode cX12_core 112 = .ok (.iinc 5 1, 3) := by decide +kernel
theorem dX12_core_115 : decode cX12_core 115 = .ok (.goto (-35), 3) := by decide +kernel
theorem dX12_core_118 : decode cX12_core 118 = .ok (.iload 4, 2) := by decide +kernel
theorem dX12_core_120 : decode cX12_core 120 = .ok (.ireturn, 1) := by decide +kernel
theorem dX12_says_0 : decode cX12_says 0 = .ok (.aload_n 0, 1) := by decide +kernel
theorem dX12_says_1 : decode cX12_says 1 = .ok (.getfield 72, 3) := by decide +kernel
theorem dX12_says_4 : decode cX12_says 4 = .ok (.aload_n 0, 1) := by decide +kernel
theorem dX12_says_5 : decode cX12_says 5 = .ok (.getfield 435, 3) := by decide +kernel
theorem dX12_says_8 : decode cX12_says 8 = .ok (.iload_n 1, 1) := by decide +kernel
theorem dX12_says_9 : decode cX12_says 9 = .ok (.iastore, 1) := by decide +kernel
theorem dX12_says_10 : decode cX12_says 10 = .ok (.aload_n 0, 1) := by decide +kernel
theorem dX12_says_11 : decode cX12_says 11 = .ok (.dup, 1) := by decide +kernel
theorem dX12_says_12 : decode cX12_says 12 = .ok (.getfield 435, 3) := by decide +kernel
theorem dX12_says_15 : decode cX12_says 15 = .ok (.iconst 1, 1) := by decide +kernel
theorem dX12_says_16 : decode cX12_says 16 = .ok (.iadd, 1) := by decide +kernel
theorem dX12_says_17 : decode cX12_says 17 = .ok (.putfield 435, 3) := by decide +kernel
theorem dX12_says_20 : decode cX12_says 20 = .ok (.return_, 1) := by decide +kernel
theorem dX12_saysNumber_0 : decode cX12_saysNumber 0 = .ok (.iload_n 1, 1) := by decide +kernel
theorem dX12_saysNumber_1 : decode cX12_saysNumber 1 = .ok (.bipush 9, 2) := by decide +kernel
theorem dX12_saysNumber_3 : decode cX12_saysNumber 3 = .ok (.if_icmp .le 14, 3) := by decide +kernel
theorem dX12_saysNumber_6 : decode cX12_saysNumber 6 = .ok (.aload_n 0, 1) := by decide +kernel
theorem dX12_saysNumber_7 : decode cX12_saysNumber 7 = .ok (.bipush 48, 2) := by decide +kernel
theorem dX12_saysNumber_9 : decode cX12_saysNumber 9 = .ok (.iload_n 1, 1) := by decide +kernel
theorem dX12_saysNumber_10 : decode cX12_saysNumber 10 = .ok (.bipush 10, 2) := by decide +kernel
theorem dX12_saysNumber_12 : decode cX12_saysNumber 12 = .ok (.idiv, 1) := by decide +kernel
theorem dX12_saysNumber_13 : decode cX12_saysNumber 13 = .ok (.iadd, 1) := by decide +kernel
theorem dX12_saysNumber_14 : decode cX12_saysNumber 14 = .ok (.invokevirtual 438, 3) := by decide +kernel
theorem dX12_saysNumber_17 : decode cX12_saysNumber 17 = .ok (.aload_n 0, 1) := by decide +kernel
theorem dX12_saysNumber_18 : decode cX12_saysNumber 18 = .ok (.bipush 48, 2) := by decide +kernel
theorem dX12_saysNumber_20 : decode cX12_saysNumber 20 = .ok (.iload_n 1, 1) := by decide +kernel
theorem dX12_saysNumber_21 : decode cX12_saysNumber 21 = .ok (.bipush 10, 2) := by decide +kernel
theorem dX12_saysNumber_23 : decode cX12_saysNumber 23 = .ok (.irem, 1) := by decide +kernel
theorem dX12_saysNumber_24 : decode cX12_saysNumber 24 = .ok (.iadd, 1) := by decide +kernel
theorem dX12_saysNumber_25 : decode cX12_saysNumber 25 = .ok (.invokevirtual 438, 3) := by decide +kernel
theorem dX12_saysNumber_28 : decode cX12_saysNumber 28 = .ok (.return_, 1) := by decide +kernel
theorem dX12_saysField_0 : decode cX12_saysField 0 = .ok (.aload_n 0, 1) := by decide +kernel
theorem dX12_saysField_1 : decode cX12_saysField 1 = .ok (.aload_n 0, 1) := by decide +kernel
theorem dX12_saysField_2 : decode cX12_saysField 2 = .ok (.getfield 7, 3) := by decide +kernel
theorem dX12_saysField_5 : decode cX12_saysField 5 = .ok (.iconst 4, 1) := by decide +kernel
theorem dX12_saysField_6 : decode cX12_saysField 6 = .ok (.iconst 3, 1) := by decide +kernel
theorem dX12_saysField_7 : decode cX12_saysField 7 = .ok (.iload_n 1, 1) := by decide +kernel
theorem dX12_saysField_8 : decode cX12_saysField 8 = .ok (.imul, 1) := by decide +kernel
theorem dX12_saysField_9 : decode cX12_saysField 9 = .ok (.iadd, 1) := by decide +kernel
theorem dX12_saysField_10 : decode cX12_saysField 10 = .ok (.iaload, 1) := by decide +kernel
theorem dX12_saysField_11 : decode cX12_saysField 11 = .ok (.bipush 97, 2) := by decide +kernel
theorem dX12_saysField_13 : decode cX12_saysField 13 = .ok (.iadd, 1) := by decide +kernel
theorem dX12_saysField_14 : decode cX12_saysField 14 = .ok (.iconst 1, 1) := by decide +kernel
theorem dX12_saysField_15 : decode cX12_saysField 15 = .ok (.isub, 1) := by decide +kernel
theorem dX12_saysField_16 : decode cX12_saysField 16 = .ok (.invokevirtual 438, 3) := by decide +kernel
theorem dX12_saysField_19 : decode cX12_saysField 19 = .ok (.return_, 1) := by decide +kernel
theorem dX12_print_0 : decode cX12_print 0 = .ok (.aload_n 0, 1) := by decide +kernel
theorem dX12_print_1 : decode cX12_print 1 = .ok (.aload_n 0, 1) := by decide +kernel
theorem dX12_print_2 : decode cX12_print 2 = .ok (.iload_n 1, 1) := by decide +kernel
theorem dX12_print_3 : decode cX12_print 3 = .ok (.invokevirtual 420, 3) := by decide +kernel
theorem dX12_print_6 : decode cX12_print 6 = .ok (.ifCond .eq 7, 3) := by decide +kernel
theorem dX12_print_9 : decode cX12_print 9 = .ok (.iconst 0, 1) := by decide +kernel
theorem dX12_print_10 : decode cX12_print 10 = .ok (.goto 4, 3) := by decide +kernel
theorem dX12_print_13 : decode cX12_print 13 = .ok (.iconst 2, 1) := by decide +kernel
theorem dX12_print_14 : decode cX12_print 14 = .ok (.invokevirtual 310, 3) := by decide +kernel
theorem dX12_print_17 : decode cX12_print 17 = .ok (.ifCond .ne 5, 3) := by decide +kernel
theorem dX12_print_20 : decode cX12_print 20 = .ok (.iconst (-1), 1) := by decide +kernel
theorem dX12_print_21 : decode cX12_print 21 = .ok (.ireturn, 1) := by decide +kernel
theorem dX12_print_22 : decode cX12_print 22 = .ok (.aload_n 0, 1) := by decide +kernel
theorem dX12_print_23 : decode cX12_print 23 = .ok (.iload_n 1, 1) := by decide +kernel
theorem dX12_print_24 : decode cX12_print 24 = .ok (.invokevirtual 289, 3) := by decide +kernel
theorem dX12_print_27 : decode cX12_print 27 = .ok (.aload_n 0, 1) := by decide +kernel
theorem dX12_print_28 : decode cX12_print 28 = .ok (.iconst 0, 1) := by decide +kernel
theorem dX12_print_29 : decode cX12_print 29 = .ok (.putfield 435, 3) := by decide +kernel
theorem dX12_print_32 : decode cX12_print 32 = .ok (.iconst 0, 1) := by decide +kernel
theorem dX12_print_33 : decode cX12_print 33 = .ok (.istore_n 2, 1) := by decide +kernel
theorem dX12_print_34 : decode cX12_print 34 = .ok (.iload_n 2, 1) := by decide +kernel
theorem dX12_print_35 : decode cX12_print 35 = .ok (.aload_n 0, 1) := by decide +kernel
theorem dX12_print_36 : decode cX12_print 36 = .ok (.getfield 197, 3) := by decide +kernel
theorem dX12_print_39 : decode cX12_print 39 = .ok (.if_icmp .ge 132, 3) := by decide +kernel
theorem dX12_print_42 : decode cX12_print 42 = .ok (.aload_n 0, 1) := by decide +kernel
theorem dX12_print_43 : decode cX12_print 43 = .ok (.getfield 44, 3) := by decide +kernel
theorem dX12_print_46 : decode cX12_print 46 = .ok (.iload_n 2, 1) := by decide +kernel
theorem dX12_print_47 : decode cX12_print 47 = .ok (.iaload, 1) := by decide +kernel
theorem dX12_print_48 : decode cX12_print 48 = .ok (.bipush 10, 2) := by decide +kernel
theorem dX12_print_50 : decode cX12_print 50 = .ok (.irem, 1) := by decide +kernel
theorem dX12_print_51 : decode cX12_print 51 = .ok (.istore_n 3, 1) := by decide +kernel
theorem dX12_print_52 : decode cX12_print 52 = .ok (.iload_n 3, 1) := by decide +kernel
theorem dX12_print_53 : decode cX12_print 53 = .ok (.bipush 6, 2) := by decide +kernel
theorem dX12_print_55 : decode cX12_print 55 = .ok (.if_icmp .lt 7, 3) := by decide +kernel
theorem dX12_print_58 : decode cX12_print 58 = .ok (.iconst 1, 1) := by decide +kernel
theorem dX12_print_59 : decode cX12_print 59 = .ok (.goto 4, 3) := by decide +kernel
theorem dX12_print_62 : decode cX12_print 62 = .ok (.iconst 0, 1) := by decide +kernel
theorem dX12_print_63 : decode cX12_print 63 = .ok (.istore 4, 2) := by decide +kernel
theorem dX12_print_65 : decode cX12_print 65 = .ok (.aload_n 0, 1) := by decide +kernel
theorem dX12_print_66 : decode cX12_print 66 = .ok (.aload_n 0, 1) := by decide +kernel
theorem dX12_print_67 : decode cX12_print 67 = .ok (.iload_n 2, 1) := by decide +kernel
theorem dX12_print_68 : decode cX12_print 68 = .ok (.invokevirtual 276, 3) := by decide +kernel
theorem dX12_print_71 : decode cX12_print 71 = .ok (.invokevirtual 441, 3) := by decide +kernel
theorem dX12_print_74 : decode cX12_print 74 = .ok (.aload_n 0, 1) := by decide +kernel
theorem dX12_print_75 : decode cX12_print 75 = .ok (.iload 4, 2) := by decide +kernel
theorem dX12_print_77 : decode cX12_print 77 = .ok (.ifCond .ne 16, 3) := by decide +kernel
theorem dX12_print_80 : decode cX12_print 80 = .ok (.aload_n 0, 1) := by decide +kernel
theorem dX12_print_81 : decode cX12_print 81 = .ok (.iload_n 3, 1) := by decide +kernel
theorem dX12_print_82 : decode cX12_print 82 = .ok (.invokevirtual 148, 3) := by decide +kernel
theorem dX12_print_85 : decode cX12_print 85 = .ok (.ifCond .eq 8, 3) := by decide +kernel
theorem dX12_print_88 : decode cX12_print 88 = .ok (.bipush 62, 2) := by decide +kernel
theorem dX12_print_90 : decode cX12_print 90 = .ok (.goto 5, 3) := by decide +kernel
theorem dX12_print_93 : decode cX12_print 93 = .ok (.bipush 45, 2) := by decide +kernel
theorem dX12_print_95 : decode cX12_print 95 = .ok (.invokevirtual 438, 3) := by decide +kernel
theorem dX12_print_98 : decode cX12_print 98 = .ok (.aload_n 0, 1) := by decide +kernel
theorem dX12_print_99 : decode cX12_print 99 = .ok (.aload_n 0, 1) := by decide +kernel
theorem dX12_print_100 : decode cX12_print 100 = .ok (.iload_n 2, 1) := by decide +kernel
theorem dX12_print_101 : decode cX12_print 101 = .ok (.invokevirtual 279, 3) := by decide +kernel
theorem dX12_print_104 : decode cX12_print 104 = .ok (.invokevirtual 441, 3) := by decide +kernel
theorem dX12_print_107 : decode cX12_print 107 = .ok (.aload_n 0, 1) := by decide +kernel
theorem dX12_print_108 : decode cX12_print 108 = .ok (.iload 4, 2) := by decide +kernel
theorem dX12_print_110 : decode cX12_print 110 = .ok (.ifCond .eq 20, 3) := by decide +kernel
theorem dX12_print_113 : decode cX12_print 113 = .ok (.aload_n 0, 1) := by decide +kernel
theorem dX12_print_114 : decode cX12_print 114 = .ok (.getfield 7, 3) := by decide +kernel
theorem dX12_print_117 : decode cX12_print 117 = .ok (.bipush 24, 2) := by decide +kernel
theorem dX12_print_119 : decode cX12_print 119 = .ok (.iconst 2, 1) := by decide +kernel
theorem dX12_print_120 : decode cX12_print 120 = .ok (.iload_n 3, 1) := by decide +kernel
theorem dX12_print_121 : decode cX12_print 121 = .ok (.bipush 6, 2) := by decide +kernel
theorem dX12_print_123 : decode cX12_print 123 = .ok (.isub, 1) := by decide +kernel
theorem dX12_print_124 : decode cX12_print 124 = .ok (.imul, 1) := by decide +kernel
theorem dX12_print_125 : decode cX12_print 125 = .ok (.iadd, 1) := by decide +kernel
theorem dX12_print_126 : decode cX12_print 126 = .ok (.iaload, 1) := by decide +kernel
theorem dX12_print_127 : decode cX12_print 127 = .ok (.goto 4, 3) := by decide +kernel
theorem dX12_print_130 : decode cX12_print 130 = .ok (.iload_n 3, 1) := by decide +kernel
theorem dX12_print_131 : decode cX12_print 131 = .ok (.invokevirtual 444, 3) := by decide +kernel
theorem dX12_print_134 : decode cX12_print 134 = .ok (.iload 4, 2) := by decide +kernel
theorem dX12_print_136 : decode cX12_print 136 = .ok (.ifCond .eq 23, 3) := by decide +kernel
theorem dX12_print_139 : decode cX12_print 139 = .ok (.aload_n 0, 1) := by decide +kernel
theorem dX12_print_140 : decode cX12_print 140 = .ok (.aload_n 0, 1) := by decide +kernel
theorem dX12_print_141 : decode cX12_print 141 = .ok (.getfield 7, 3) := by decide +kernel
theorem dX12_print_144 : decode cX12_print 144 = .ok (.bipush 24, 2) := by decide +kernel
theorem dX12_print_146 : decode cX12_print 146 = .ok (.iconst 2, 1) := by decide +kernel
theorem dX12_print_147 : decode cX12_print 147 = .ok (.iload_n 3, 1) := by decide +kernel
theorem dX12_print_148 : decode cX12_print 148 = .ok (.bipush 6, 2) := by decide +kernel
theorem dX12_print_150 : decode cX12_print 150 = .ok (.isub, 1) := by decide +kernel
theorem dX12_print_151 : decode cX12_print 151 = .ok (.imul, 1) := by decide +kernel
theorem dX12_print_152 : decode cX12_print 152 = .ok (.iadd, 1) := by decide +kernel
theorem dX12_print_153 : decode cX12_print 153 = .ok (.iconst 1, 1) := by decide +kernel
theorem dX12_print_154 : decode cX12_print 154 = .ok (.iadd, 1) := by decide +kernel
theorem dX12_print_155 : decode cX12_print 155 = .ok (.iaload, 1) := by decide +kernel
theorem dX12_print_156 : decode cX12_print 156 = .ok (.invokevirtual 444, 3) := by decide +kernel
theorem dX12_print_159 : decode cX12_print 159 = .ok (.aload_n 0, 1) := by decide +kernel
theorem dX12_print_160 : decode cX12_print 160 = .ok (.bipush 59, 2) := by decide +kernel
theorem dX12_print_162 : decode cX12_print 162 = .ok (.invokevirtual 438, 3) := by decide +kernel
theorem dX12_print_165 : decode cX12_print 165 = .ok (.iinc 2 1, 3) := by decide +kernel
theorem dX12_print_168 : decode cX12_print 168 = .ok (.goto (-134), 3) := by decide +kernel
theorem dX12_print_171 : decode cX12_print 171 = .ok (.aload_n 0, 1) := by decide +kernel
theorem dX12_print_172 : decode cX12_print 172 = .ok (.getfield 435, 3) := by decide +kernel
theorem dX12_print_175 : decode cX12_print 175 = .ok (.ireturn, 1) := by decide +kernel
theorem dX12_printPairs_0 : decode cX12_printPairs 0 = .ok (.aload_n 0, 1) := by decide +kernel
theorem dX12_printPairs_1 : decode cX12_printPairs 1 = .ok (.aload_n 0, 1) := by decide +kernel
theorem dX12_printPairs_2 : decode cX12_printPairs 2 = .ok (.iload_n 1, 1) := by decide +kernel
theorem dX12_printPairs_3 : decode cX12_printPairs 3 = .ok (.invokevirtual 359, 3) := by decide +kernel
theorem dX12_printPairs_6 : decode cX12_printPairs 6 = .ok (.ifCond .eq 7, 3) := by decide +kernel
theorem dX12_printPairs_9 : decode cX12_printPairs 9 = .ok (.iconst 0, 1) := by decide +kernel
theorem dX12_printPairs_10 : decode cX12_printPairs 10 = .ok (.goto 4, 3) := by decide +kernel
theorem dX12_printPairs_13 : decode cX12_printPairs 13 = .ok (.iconst 2, 1) := by decide +kernel
theorem dX12_printPairs_14 : decode cX12_printPairs 14 = .ok (.invokevirtual 310, 3) := by decide +kernel
theorem dX12_printPairs_17 : decode cX12_printPairs 17 = .ok (.ifCond .ne 5, 3) := by decide +kernel
theorem dX12_printPairs_20 : decode cX12_printPairs 20 = .ok (.iconst (-1), 1) := by decide +kernel
theorem dX12_printPairs_21 : decode cX12_printPairs 21 = .ok (.ireturn, 1) := by decide +kernel
theorem dX12_printPairs_22 : decode cX12_printPairs 22 = .ok (.aload_n 0, 1) := by decide +kernel
theorem dX12_printPairs_23 : decode cX12_printPairs 23 = .ok (.iconst 0, 1) := by decide +kernel
theorem dX12_printPairs_24 : decode cX12_printPairs 24 = .ok (.putfield 435, 3) := by decide +kernel
theorem dX12_printPairs_27 : decode cX12_printPairs 27 = .ok (.iconst 0, 1) := by decide +kernel
theorem dX12_printPairs_28 : decode cX12_printPairs 28 = .ok (.istore_n 2, 1) := by decide +kernel
theorem dX12_printPairs_29 : decode cX12_printPairs 29 = .ok (.iload_n 2, 1) := by decide +kernel
theorem dX12_printPairs_30 : decode cX12_printPairs 30 = .ok (.aload_n 0, 1) := by decide +kernel
theorem dX12_printPairs_31 : decode cX12_printPairs 31 = .ok (.getfield 124, 3) := by decide +kernel
theorem dX12_printPairs_34 : decode cX12_printPairs 34 = .ok (.if_icmp .ge 49, 3) := by decide +kernel
theorem dX12_printPairs_37 : decode cX12_printPairs 37 = .ok (.aload_n 0, 1) := by decide +kernel
theorem dX12_printPairs_38 : decode cX12_printPairs 38 = .ok (.iload_n 1, 1) := by decide +kernel
theorem dX12_printPairs_39 : decode cX12_printPairs 39 = .ok (.iload_n 2, 1) := by decide +kernel
theorem dX12_printPairs_40 : decode cX12_printPairs 40 = .ok (.invokevirtual 200, 3) := by decide +kernel
theorem dX12_printPairs_43 : decode cX12_printPairs 43 = .ok (.iload_n 2, 1) := by decide +kernel
theorem dX12_printPairs_44 : decode cX12_printPairs 44 = .ok (.if_icmp .ge 6, 3) := by decide +kernel
theorem dX12_printPairs_47 : decode cX12_printPairs 47 = .ok (.goto 30, 3) := by decide +kernel
theorem dX12_printPairs_50 : decode cX12_printPairs 50 = .ok (.aload_n 0, 1) := by decide +kernel
theorem dX12_printPairs_51 : decode cX12_printPairs 51 = .ok (.iload_n 2, 1) := by decide +kernel
theorem dX12_printPairs_52 : decode cX12_printPairs 52 = .ok (.invokevirtual 441, 3) := by decide +kernel
theorem dX12_printPairs_55 : decode cX12_printPairs 55 = .ok (.aload_n 0, 1) := by decide +kernel
theorem dX12_printPairs_56 : decode cX12_printPairs 56 = .ok (.bipush 45, 2) := by decide +kernel
theorem dX12_printPairs_58 : decode cX12_printPairs 58 = .ok (.invokevirtual 438, 3) := by decide +kernel
theorem dX12_printPairs_61 : decode cX12_printPairs 61 = .ok (.aload_n 0, 1) := by decide +kernel
theorem dX12_printPairs_62 : decode cX12_printPairs 62 = .ok (.aload_n 0, 1) := by decide +kernel
theorem dX12_printPairs_63 : decode cX12_printPairs 63 = .ok (.iload_n 1, 1) := by decide +kernel
theorem dX12_printPairs_64 : decode cX12_printPairs 64 = .ok (.iload_n 2, 1) := by decide +kernel
theorem dX12_printPairs_65 : decode cX12_printPairs 65 = .ok (.invokevirtual 200, 3) := by decide +kernel
theorem dX12_printPairs_68 : decode cX12_printPairs 68 = .ok (.invokevirtual 441, 3) := by decide +kernel
theorem dX12_printPairs_71 : decode cX12_printPairs 71 = .ok (.aload_n 0, 1) := by decide +kernel
theorem dX12_printPairs_72 : decode cX12_printPairs 72 = .ok (.bipush 59, 2) := by decide +kernel
theorem dX12_printPairs_74 : decode cX12_printPairs 74 = .ok (.invokevirtual 438, 3) := by decide +kernel
theorem dX12_printPairs_77 : decode cX12_printPairs 77 = .ok (.iinc 2 1, 3) := by decide +kernel
theorem dX12_printPairs_80 : decode cX12_printPairs 80 = .ok (.goto (-51), 3) := by decide +kernel
theorem dX12_printPairs_83 : decode cX12_printPairs 83 = .ok (.aload_n 0, 1) := by decide +kernel
theorem dX12_printPairs_84 : decode cX12_printPairs 84 = .ok (.getfield 435, 3) := by decide +kernel
theorem dX12_printPairs_87 : decode cX12_printPairs 87 = .ok (.ireturn, 1) := by decide +kernel
theorem dX12_out_0 : decode cX12_out 0 = .ok (.aload_n 0, 1) := by decide +kernel
theorem dX12_out_1 : decode cX12_out 1 = .ok (.iload_n 1, 1) := by decide +kernel
theorem dX12_out_2 : decode cX12_out 2 = .ok (.ifCond .ge 7, 3) := by decide +kernel
theorem dX12_out_5 : decode cX12_out 5 = .ok (.iconst 1, 1) := by decide +kernel
theorem dX12_out_6 : decode cX12_out 6 = .ok (.goto 16, 3) := by decide +kernel
theorem dX12_out_9 : decode cX12_out 9 = .ok (.iload_n 1, 1) := by decide +kernel
theorem dX12_out_10 : decode cX12_out 10 = .ok (.aload_n 0, 1) := by decide +kernel
theorem dX12_out_11 : decode cX12_out 11 = .ok (.getfield 435, 3) := by decide +kernel
theorem dX12_out_14 : decode cX12_out 14 = .ok (.if_icmp .lt 7, 3) := by decide +kernel
theorem dX12_out_17 : decode cX12_out 17 = .ok (.iconst 5, 1) := by decide +kernel
theorem dX12_out_18 : decode cX12_out 18 = .ok (.goto 4, 3) := by decide +kernel
theorem dX12_out_21 : decode cX12_out 21 = .ok (.iconst 0, 1) := by decide +kernel
theorem dX12_out_22 : decode cX12_out 22 = .ok (.invokevirtual 310, 3) := by decide +kernel
theorem dX12_out_25 : decode cX12_out 25 = .ok (.ifCond .eq 12, 3) := by decide +kernel
theorem dX12_out_28 : decode cX12_out 28 = .ok (.aload_n 0, 1) := by decide +kernel
theorem dX12_out_29 : decode cX12_out 29 = .ok (.getfield 72, 3) := by decide +kernel
theorem dX12_out_32 : decode cX12_out 32 = .ok (.iload_n 1, 1) := by decide +kernel
theorem dX12_out_33 : decode cX12_out 33 = .ok (.iaload, 1) := by decide +kernel
theorem dX12_out_34 : decode cX12_out 34 = .ok (.goto 4, 3) := by decide +kernel
theorem dX12_out_37 : decode cX12_out 37 = .ok (.iconst (-1), 1) := by decide +kernel
theorem dX12_out_38 : decode cX12_out 38 = .ok (.ireturn, 1) := by decide +kernel
theorem dX12_puts_0 : decode cX12_puts 0 = .ok (.bipush 24, 2) := by decide +kernel
theorem dX12_puts_2 : decode cX12_puts 2 = .ok (.istore_n 2, 1) := by decide +kernel
theorem dX12_puts_3 : decode cX12_puts 3 = .ok (.iload_n 2, 1) := by decide +kernel
theorem dX12_puts_4 : decode cX12_puts 4 = .ok (.ifCond .lt 32, 3) := by decide +kernel
theorem dX12_puts_7 : decode cX12_puts 7 = .ok (.aload_n 0, 1) := by decide +kernel
theorem dX12_puts_8 : decode cX12_puts 8 = .ok (.getfield 75, 3) := by decide +kernel
theorem dX12_puts_11 : decode cX12_puts 11 = .ok (.aload_n 0, 1) := by decide +kernel
theorem dX12_puts_12 : decode cX12_puts 12 = .ok (.getfield 447, 3) := by decide +kernel
theorem dX12_puts_15 : decode cX12_puts 15 = .ok (.iload_n 1, 1) := by decide +kernel
theorem dX12_puts_16 : decode cX12_puts 16 = .ok (.iload_n 2, 1) := by decide +kernel
theorem dX12_puts_17 : decode cX12_puts 17 = .ok (.ishr, 1) := by decide +kernel
theorem dX12_puts_18 : decode cX12_puts 18 = .ok (.i2b, 1) := by decide +kernel
theorem dX12_puts_19 : decode cX12_puts 19 = .ok (.bastore, 1) := by decide +kernel
theorem dX12_puts_20 : decode cX12_puts 20 = .ok (.aload_n 0, 1) := by decide +kernel
theorem dX12_puts_21 : decode cX12_puts 21 = .ok (.dup, 1) := by decide +kernel
theorem dX12_puts_22 : decode cX12_puts 22 = .ok (.getfield 447, 3) := by decide +kernel
theorem dX12_puts_25 : decode cX12_puts 25 = .ok (.iconst 1, 1) := by decide +kernel
theorem dX12_puts_26 : decode cX12_puts 26 = .ok (.iadd, 1) := by decide +kernel
theorem dX12_puts_27 : decode cX12_puts 27 = .ok (.putfield 447, 3) := by decide +kernel
theorem dX12_puts_30 : decode cX12_puts 30 = .ok (.iinc 2 (-8), 3) := by decide +kernel
theorem dX12_puts_33 : decode cX12_puts 33 = .ok (.goto (-30), 3) := by decide +kernel
theorem dX12_puts_36 : decode cX12_puts 36 = .ok (.return_, 1) := by decide +kernel
theorem dX12_feed_0 : decode cX12_feed 0 = .ok (.aload_n 0, 1) := by decide +kernel
theorem dX12_feed_1 : decode cX12_feed 1 = .ok (.iconst 0, 1) := by decide +kernel
theorem dX12_feed_2 : decode cX12_feed 2 = .ok (.putfield 114, 3) := by decide +kernel
theorem dX12_feed_5 : decode cX12_feed 5 = .ok (.aload_n 0, 1) := by decide +kernel
theorem dX12_feed_6 : decode cX12_feed 6 = .ok (.getfield 447, 3) := by decide +kernel
theorem dX12_feed_9 : decode cX12_feed 9 = .ok (.bipush 20, 2) := by decide +kernel
theorem dX12_feed_11 : decode cX12_feed 11 = .ok (.iadd, 1) := by decide +kernel
theorem dX12_feed_12 : decode cX12_feed 12 = .ok (.sipush 400, 3) := by decide +kernel
theorem dX12_feed_15 : decode cX12_feed 15 = .ok (.if_icmp .le 5, 3) := by decide +kernel
theorem dX12_feed_18 : decode cX12_feed 18 = .ok (.iconst (-1), 1) := by decide +kernel
theorem dX12_feed_19 : decode cX12_feed 19 = .ok (.ireturn, 1) := by decide +kernel
theorem dX12_feed_20 : decode cX12_feed 20 = .ok (.aload_n 0, 1) := by decide +kernel
theorem dX12_feed_21 : decode cX12_feed 21 = .ok (.iload_n 1, 1) := by decide +kernel
theorem dX12_feed_22 : decode cX12_feed 22 = .ok (.invokevirtual 450, 3) := by decide +kernel
theorem dX12_feed_25 : decode cX12_feed 25 = .ok (.aload_n 0, 1) := by decide +kernel
theorem dX12_feed_26 : decode cX12_feed 26 = .ok (.iload_n 2, 1) := by decide +kernel
theorem dX12_feed_27 : decode cX12_feed 27 = .ok (.invokevirtual 450, 3) := by decide +kernel
theorem dX12_feed_30 : decode cX12_feed 30 = .ok (.aload_n 0, 1) := by decide +kernel
theorem dX12_feed_31 : decode cX12_feed 31 = .ok (.iload_n 3, 1) := by decide +kernel
theorem dX12_feed_32 : decode cX12_feed 32 = .ok (.invokevirtual 450, 3) := by decide +kernel
theorem dX12_feed_35 : decode cX12_feed 35 = .ok (.aload_n 0, 1) := by decide +kernel
theorem dX12_feed_36 : decode cX12_feed 36 = .ok (.iload 4, 2) := by decide +kernel
theorem dX12_feed_38 : decode cX12_feed 38 = .ok (.invokevirtual 450, 3) := by decide +kernel
theorem dX12_feed_41 : decode cX12_feed 41 = .ok (.aload_n 0, 1) := by decide +kernel
theorem dX12_feed_42 : decode cX12_feed 42 = .ok (.iload 5, 2) := by decide +kernel
theorem dX12_feed_44 : decode cX12_feed 44 = .ok (.invokevirtual 450, 3) := by decide +kernel
theorem dX12_feed_47 : decode cX12_feed 47 = .ok (.aload_n 0, 1) := by decide +kernel
theorem dX12_feed_48 : decode cX12_feed 48 = .ok (.getfield 447, 3) := by decide +kernel
theorem dX12_feed_51 : decode cX12_feed 51 = .ok (.ireturn, 1) := by decide +kernel
theorem dX12_isOf_0 : decode cX12_isOf 0 = .ok (.iload_n 1, 1) := by decide +kernel
theorem dX12_isOf_1 : decode cX12_isOf 1 = .ok (.aload_n 0, 1) := by decide +kernel
theorem dX12_isOf_2 : decode cX12_isOf 2 = .ok (.getfield 453, 3) := by decide +kernel
theorem dX12_isOf_5 : decode cX12_isOf 5 = .ok (.if_icmp .ge 21, 3) := by decide +kernel
theorem dX12_isOf_8 : decode cX12_isOf 8 = .ok (.aload_n 0, 1) := by decide +kernel
theorem dX12_isOf_9 : decode cX12_isOf 9 = .ok (.getfield 75, 3) := by decide +kernel
theorem dX12_isOf_12 : decode cX12_isOf 12 = .ok (.iload_n 1, 1) := by decide +kernel
theorem dX12_isOf_13 : decode cX12_isOf 13 = .ok (.baload, 1) := by decide +kernel
theorem dX12_isOf_14 : decode cX12_isOf 14 = .ok (.iload_n 2, 1) := by decide +kernel
theorem dX12_isOf_15 : decode cX12_isOf 15 = .ok (.iload_n 3, 1) := by decide +kernel
theorem dX12_isOf_16 : decode cX12_isOf 16 = .ok (.invokestatic 140, 3) := by decide +kernel
theorem dX12_isOf_19 : decode cX12_isOf 19 = .ok (.ifCond .eq 7, 3) := by decide +kernel
theorem dX12_isOf_22 : decode cX12_isOf 22 = .ok (.iconst 1, 1) := by decide +kernel
theorem dX12_isOf_23 : decode cX12_isOf 23 = .ok (.goto 4, 3) := by decide +kernel
theorem dX12_isOf_26 : decode cX12_isOf 26 = .ok (.iconst 0, 1) := by decide +kernel
theorem dX12_isOf_27 : decode cX12_isOf 27 = .ok (.ireturn, 1) := by decide +kernel
theorem dX12_isSignByte_0 : decode cX12_isSignByte 0 = .ok (.aload_n 0, 1) := by decide +kernel
theorem dX12_isSignByte_1 : decode cX12_isSignByte 1 = .ok (.getfield 456, 3) := by decide +kernel
theorem dX12_isSignByte_4 : decode cX12_isSignByte 4 = .ok (.ifCond .eq 29, 3) := by decide +kernel
theorem dX12_isSignByte_7 : decode cX12_isSignByte 7 = .ok (.iload_n 1, 1) := by decide +kernel
theorem dX12_isSignByte_8 : decode cX12_isSignByte 8 = .ok (.bipush 45, 2) := by decide +kernel
theorem dX12_isSignByte_10 : decode cX12_isSignByte 10 = .ok (.if_icmp .eq 15, 3) := by decide +kernel
theorem dX12_isSignByte_13 : decode cX12_isSignByte 13 = .ok (.iload_n 1, 1) := by decide +kernel
theorem dX12_isSignByte_14 : decode cX12_isSignByte 14 = .ok (.bipush 62, 2) := by decide +kernel
theorem dX12_isSignByte_16 : decode cX12_isSignByte 16 = .ok (.if_icmp .eq 9, 3) := by decide +kernel
theorem dX12_isSignByte_19 : decode cX12_isSignByte 19 = .ok (.iload_n 1, 1) := by decide +kernel
theorem dX12_isSignByte_20 : decode cX12_isSignByte 20 = .ok (.bipush 59, 2) := by decide +kernel
theorem dX12_isSignByte_22 : decode cX12_isSignByte 22 = .ok (.if_icmp .ne 7, 3) := by decide +kernel
theorem dX12_isSignByte_25 : decode cX12_isSignByte 25 = .ok (.iconst 1, 1) := by decide +kernel
theorem dX12_isSignByte_26 : decode cX12_isSignByte 26 = .ok (.goto 24, 3) := by decide +kernel
theorem dX12_isSignByte_29 : decode cX12_isSignByte 29 = .ok (.iconst 0, 1) := by decide +kernel
theorem dX12_isSignByte_30 : decode cX12_isSignByte 30 = .ok (.goto 20, 3) := by decide +kernel
theorem dX12_isSignByte_33 : decode cX12_isSignByte 33 = .ok (.iload_n 1, 1) := by decide +kernel
theorem dX12_isSignByte_34 : decode cX12_isSignByte 34 = .ok (.bipush 39, 2) := by decide +kernel
theorem dX12_isSignByte_36 : decode cX12_isSignByte 36 = .ok (.if_icmp .eq 9, 3) := by decide +kernel
theorem dX12_isSignByte_39 : decode cX12_isSignByte 39 = .ok (.iload_n 1, 1) := by decide +kernel
theorem dX12_isSignByte_40 : decode cX12_isSignByte 40 = .ok (.bipush 59, 2) := by decide +kernel
theorem dX12_isSignByte_42 : decode cX12_isSignByte 42 = .ok (.if_icmp .ne 7, 3) := by decide +kernel
theorem dX12_isSignByte_45 : decode cX12_isSignByte 45 = .ok (.iconst 1, 1) := by decide +kernel
theorem dX12_isSignByte_46 : decode cX12_isSignByte 46 = .ok (.goto 4, 3) := by decide +kernel
theorem dX12_isSignByte_49 : decode cX12_isSignByte 49 = .ok (.iconst 0, 1) := by decide +kernel
theorem dX12_isSignByte_50 : decode cX12_isSignByte 50 = .ok (.ireturn, 1) := by decide +kernel
theorem dX12_reads_0 : decode cX12_reads 0 = .ok (.aload_n 0, 1) := by decide +kernel
theorem dX12_reads_1 : decode cX12_reads 1 = .ok (.aload_n 0, 1) := by decide +kernel
theorem dX12_reads_2 : decode cX12_reads 2 = .ok (.getfield 459, 3) := by decide +kernel
