theorem dX11_knownPairings_29 : decode cX11_knownPairings 29 = .ok (.invokevirtual 386, 3) := by decide +kernel
theorem dX11_knownPairings_32 : decode cX11_knownPairings 32 = .ok (.aload_n 0, 1) := by decide +kernel
theorem dX11_knownPairings_33 : decode cX11_knownPairings 33 = .ok (.getfield 40, 3) := by decide +kernel
theorem dX11_knownPairings_36 : decode cX11_knownPairings 36 = .ok (.areturn, 1) := by decide +kernel
theorem dX11_knownRounds_0 : decode cX11_knownRounds 0 = .ok (.aload_n 0, 1) := by decide +kernel
theorem dX11_knownRounds_1 : decode cX11_knownRounds 1 = .ok (.invokevirtual 124, 3) := by decide +kernel
theorem dX11_knownRounds_4 : decode cX11_knownRounds 4 = .ok (.astore_n 1, 1) := by decide +kernel
theorem dX11_knownRounds_5 : decode cX11_knownRounds 5 = .ok (.aload_n 1, 1) := by decide +kernel
theorem dX11_knownRounds_6 : decode cX11_knownRounds 6 = .ok (.getfield 378, 3) := by decide +kernel
theorem dX11_knownRounds_9 : decode cX11_knownRounds 9 = .ok (.ifCond .ne 7, 3) := by decide +kernel
theorem dX11_knownRounds_12 : decode cX11_knownRounds 12 = .ok (.aload_n 1, 1) := by decide +kernel
theorem dX11_knownRounds_13 : decode cX11_knownRounds 13 = .ok (.invokevirtual 389, 3) := by decide +kernel
theorem dX11_knownRounds_16 : decode cX11_knownRounds 16 = .ok (.aload_n 1, 1) := by decide +kernel
theorem dX11_knownRounds_17 : decode cX11_knownRounds 17 = .ok (.areturn, 1) := by decide +kernel
theorem dX11_knownDiagrams_0 : decode cX11_knownDiagrams 0 = .ok (.aload_n 0, 1) := by decide +kernel
theorem dX11_knownDiagrams_1 : decode cX11_knownDiagrams 1 = .ok (.getfield 50, 3) := by decide +kernel
theorem dX11_knownDiagrams_4 : decode cX11_knownDiagrams 4 = .ok (.getfield 381, 3) := by decide +kernel
theorem dX11_knownDiagrams_7 : decode cX11_knownDiagrams 7 = .ok (.ifCond .ne 18, 3) := by decide +kernel
theorem dX11_knownDiagrams_10 : decode cX11_knownDiagrams 10 = .ok (.aload_n 0, 1) := by decide +kernel
theorem dX11_knownDiagrams_11 : decode cX11_knownDiagrams 11 = .ok (.getfield 50, 3) := by decide +kernel
theorem dX11_knownDiagrams_14 : decode cX11_knownDiagrams 14 = .ok (.aload_n 0, 1) := by decide +kernel
theorem dX11_knownDiagrams_15 : decode cX11_knownDiagrams 15 = .ok (.getfield 71, 3) := by decide +kernel
theorem dX11_knownDiagrams_18 : decode cX11_knownDiagrams 18 = .ok (.aload_n 0, 1) := by decide +kernel
theorem dX11_knownDiagrams_19 : decode cX11_knownDiagrams 19 = .ok (.invokevirtual 124, 3) := by decide +kernel
theorem dX11_knownDiagrams_22 : decode cX11_knownDiagrams 22 = .ok (.invokevirtual 392, 3) := by decide +kernel
theorem dX11_knownDiagrams_25 : decode cX11_knownDiagrams 25 = .ok (.aload_n 0, 1) := by decide +kernel
theorem dX11_knownDiagrams_26 : decode cX11_knownDiagrams 26 = .ok (.getfield 50, 3) := by decide +kernel
theorem dX11_knownDiagrams_29 : decode cX11_knownDiagrams 29 = .ok (.areturn, 1) := by decide +kernel
theorem dX11_hasPairing_0 : decode cX11_hasPairing 0 = .ok (.iload_n 1, 1) := by decide +kernel
theorem dX11_hasPairing_1 : decode cX11_hasPairing 1 = .ok (.ifCond .lt 15, 3) := by decide +kernel
theorem dX11_hasPairing_4 : decode cX11_hasPairing 4 = .ok (.iload_n 1, 1) := by decide +kernel
theorem dX11_hasPairing_5 : decode cX11_hasPairing 5 = .ok (.aload_n 0, 1) := by decide +kernel
theorem dX11_hasPairing_6 : decode cX11_hasPairing 6 = .ok (.invokevirtual 169, 3) := by decide +kernel
theorem dX11_hasPairing_9 : decode cX11_hasPairing 9 = .ok (.if_icmp .ge 7, 3) := by decide +kernel
theorem dX11_hasPairing_12 : decode cX11_hasPairing 12 = .ok (.iconst 1, 1) := by decide +kernel
theorem dX11_hasPairing_13 : decode cX11_hasPairing 13 = .ok (.goto 4, 3) := by decide +kernel
theorem dX11_hasPairing_16 : decode cX11_hasPairing 16 = .ok (.iconst 0, 1) := by decide +kernel
theorem dX11_hasPairing_17 : decode cX11_hasPairing 17 = .ok (.ireturn, 1) := by decide +kernel
theorem dX11_hasDiagram_0 : decode cX11_hasDiagram 0 = .ok (.iload_n 1, 1) := by decide +kernel
theorem dX11_hasDiagram_1 : decode cX11_hasDiagram 1 = .ok (.ifCond .lt 18, 3) := by decide +kernel
theorem dX11_hasDiagram_4 : decode cX11_hasDiagram 4 = .ok (.iload_n 1, 1) := by decide +kernel
theorem dX11_hasDiagram_5 : decode cX11_hasDiagram 5 = .ok (.aload_n 0, 1) := by decide +kernel
theorem dX11_hasDiagram_6 : decode cX11_hasDiagram 6 = .ok (.invokevirtual 142, 3) := by decide +kernel
theorem dX11_hasDiagram_9 : decode cX11_hasDiagram 9 = .ok (.getfield 172, 3) := by decide +kernel
theorem dX11_hasDiagram_12 : decode cX11_hasDiagram 12 = .ok (.if_icmp .ge 7, 3) := by decide +kernel
theorem dX11_hasDiagram_15 : decode cX11_hasDiagram 15 = .ok (.iconst 1, 1) := by decide +kernel
theorem dX11_hasDiagram_16 : decode cX11_hasDiagram 16 = .ok (.goto 4, 3) := by decide +kernel
theorem dX11_hasDiagram_19 : decode cX11_hasDiagram 19 = .ok (.iconst 0, 1) := by decide +kernel
theorem dX11_hasDiagram_20 : decode cX11_hasDiagram 20 = .ok (.ireturn, 1) := by decide +kernel
theorem dX11_graphOf_0 : decode cX11_graphOf 0 = .ok (.aload_n 0, 1) := by decide +kernel
theorem dX11_graphOf_1 : decode cX11_graphOf 1 = .ok (.getfield 57, 3) := by decide +kernel
theorem dX11_graphOf_4 : decode cX11_graphOf 4 = .ok (.aload_n 0, 1) := by decide +kernel
theorem dX11_graphOf_5 : decode cX11_graphOf 5 = .ok (.invokevirtual 142, 3) := by decide +kernel
theorem dX11_graphOf_8 : decode cX11_graphOf 8 = .ok (.iload_n 1, 1) := by decide +kernel
theorem dX11_graphOf_9 : decode cX11_graphOf 9 = .ok (.invokevirtual 396, 3) := by decide +kernel
theorem dX11_graphOf_12 : decode cX11_graphOf 12 = .ok (.aload_n 0, 1) := by decide +kernel
theorem dX11_graphOf_13 : decode cX11_graphOf 13 = .ok (.getfield 71, 3) := by decide +kernel
theorem dX11_graphOf_16 : decode cX11_graphOf 16 = .ok (.getfield 108, 3) := by decide +kernel
theorem dX11_graphOf_19 : decode cX11_graphOf 19 = .ok (.iconst 2, 1) := by decide +kernel
theorem dX11_graphOf_20 : decode cX11_graphOf 20 = .ok (.idiv, 1) := by decide +kernel
theorem dX11_graphOf_21 : decode cX11_graphOf 21 = .ok (.aload_n 0, 1) := by decide +kernel
theorem dX11_graphOf_22 : decode cX11_graphOf 22 = .ok (.getfield 71, 3) := by decide +kernel
theorem dX11_graphOf_25 : decode cX11_graphOf 25 = .ok (.invokevirtual 303, 3) := by decide +kernel
theorem dX11_graphOf_28 : decode cX11_graphOf 28 = .ok (.invokevirtual 400, 3) := by decide +kernel
theorem dX11_graphOf_31 : decode cX11_graphOf 31 = .ok (.aload_n 0, 1) := by decide +kernel
theorem dX11_graphOf_32 : decode cX11_graphOf 32 = .ok (.getfield 57, 3) := by decide +kernel
theorem dX11_graphOf_35 : decode cX11_graphOf 35 = .ok (.areturn, 1) := by decide +kernel
theorem dX11_pairingsOf_0 : decode cX11_pairingsOf 0 = .ok (.iload_n 1, 1) := by decide +kernel
theorem dX11_pairingsOf_1 : decode cX11_pairingsOf 1 = .ok (.aload_n 0, 1) := by decide +kernel
theorem dX11_pairingsOf_2 : decode cX11_pairingsOf 2 = .ok (.getfield 71, 3) := by decide +kernel
theorem dX11_pairingsOf_5 : decode cX11_pairingsOf 5 = .ok (.invokevirtual 303, 3) := by decide +kernel
theorem dX11_pairingsOf_8 : decode cX11_pairingsOf 8 = .ok (.if_icmp .ne 8, 3) := by decide +kernel
theorem dX11_pairingsOf_11 : decode cX11_pairingsOf 11 = .ok (.aload_n 0, 1) := by decide +kernel
theorem dX11_pairingsOf_12 : decode cX11_pairingsOf 12 = .ok (.invokevirtual 124, 3) := by decide +kernel
theorem dX11_pairingsOf_15 : decode cX11_pairingsOf 15 = .ok (.areturn, 1) := by decide +kernel
theorem dX11_pairingsOf_16 : decode cX11_pairingsOf 16 = .ok (.aload_n 0, 1) := by decide +kernel
theorem dX11_pairingsOf_17 : decode cX11_pairingsOf 17 = .ok (.getfield 44, 3) := by decide +kernel
theorem dX11_pairingsOf_20 : decode cX11_pairingsOf 20 = .ok (.aload_n 0, 1) := by decide +kernel
theorem dX11_pairingsOf_21 : decode cX11_pairingsOf 21 = .ok (.getfield 71, 3) := by decide +kernel
theorem dX11_pairingsOf_24 : decode cX11_pairingsOf 24 = .ok (.aload_n 0, 1) := by decide +kernel
theorem dX11_pairingsOf_25 : decode cX11_pairingsOf 25 = .ok (.invokevirtual 296, 3) := by decide +kernel
theorem dX11_pairingsOf_28 : decode cX11_pairingsOf 28 = .ok (.aload_n 0, 1) := by decide +kernel
theorem dX11_pairingsOf_29 : decode cX11_pairingsOf 29 = .ok (.getfield 71, 3) := by decide +kernel
theorem dX11_pairingsOf_32 : decode cX11_pairingsOf 32 = .ok (.iload_n 1, 1) := by decide +kernel
theorem dX11_pairingsOf_33 : decode cX11_pairingsOf 33 = .ok (.invokevirtual 306, 3) := by decide +kernel
theorem dX11_pairingsOf_36 : decode cX11_pairingsOf 36 = .ok (.invokevirtual 386, 3) := by decide +kernel
theorem dX11_pairingsOf_39 : decode cX11_pairingsOf 39 = .ok (.aload_n 0, 1) := by decide +kernel
theorem dX11_pairingsOf_40 : decode cX11_pairingsOf 40 = .ok (.getfield 44, 3) := by decide +kernel
theorem dX11_pairingsOf_43 : decode cX11_pairingsOf 43 = .ok (.areturn, 1) := by decide +kernel
theorem dX11_countHanging_0 : decode cX11_countHanging 0 = .ok (.aload_n 0, 1) := by decide +kernel
theorem dX11_countHanging_1 : decode cX11_countHanging 1 = .ok (.getfield 71, 3) := by decide +kernel
theorem dX11_countHanging_4 : decode cX11_countHanging 4 = .ok (.invokevirtual 363, 3) := by decide +kernel
theorem dX11_countHanging_7 : decode cX11_countHanging 7 = .ok (.iload_n 2, 1) := by decide +kernel
theorem dX11_countHanging_8 : decode cX11_countHanging 8 = .ok (.iand, 1) := by decide +kernel
theorem dX11_countHanging_9 : decode cX11_countHanging 9 = .ok (.istore 4, 2) := by decide +kernel
theorem dX11_countHanging_11 : decode cX11_countHanging 11 = .ok (.iconst 0, 1) := by decide +kernel
theorem dX11_countHanging_12 : decode cX11_countHanging 12 = .ok (.istore 5, 2) := by decide +kernel
theorem dX11_countHanging_14 : decode cX11_countHanging 14 = .ok (.iconst 0, 1) := by decide +kernel
theorem dX11_countHanging_15 : decode cX11_countHanging 15 = .ok (.istore 6, 2) := by decide +kernel
theorem dX11_countHanging_17 : decode cX11_countHanging 17 = .ok (.iload 6, 2) := by decide +kernel
theorem dX11_countHanging_19 : decode cX11_countHanging 19 = .ok (.aload_n 1, 1) := by decide +kernel
theorem dX11_countHanging_20 : decode cX11_countHanging 20 = .ok (.getfield 320, 3) := by decide +kernel
theorem dX11_countHanging_23 : decode cX11_countHanging 23 = .ok (.if_icmp .ge 52, 3) := by decide +kernel
theorem dX11_countHanging_26 : decode cX11_countHanging 26 = .ok (.aload_n 0, 1) := by decide +kernel
theorem dX11_countHanging_27 : decode cX11_countHanging 27 = .ok (.aload_n 1, 1) := by decide +kernel
theorem dX11_countHanging_28 : decode cX11_countHanging 28 = .ok (.iload 6, 2) := by decide +kernel
theorem dX11_countHanging_30 : decode cX11_countHanging 30 = .ok (.iload_n 2, 1) := by decide +kernel
theorem dX11_countHanging_31 : decode cX11_countHanging 31 = .ok (.invokevirtual 404, 3) := by decide +kernel
theorem dX11_countHanging_34 : decode cX11_countHanging 34 = .ok (.iload_n 3, 1) := by decide +kernel
theorem dX11_countHanging_35 : decode cX11_countHanging 35 = .ok (.ifCond .eq 20, 3) := by decide +kernel
theorem dX11_countHanging_38 : decode cX11_countHanging 38 = .ok (.aload_n 0, 1) := by decide +kernel
theorem dX11_countHanging_39 : decode cX11_countHanging 39 = .ok (.getfield 57, 3) := by decide +kernel
theorem dX11_countHanging_42 : decode cX11_countHanging 42 = .ok (.iload 4, 2) := by decide +kernel
theorem dX11_countHanging_44 : decode cX11_countHanging 44 = .ok (.iload_n 2, 1) := by decide +kernel
theorem dX11_countHanging_45 : decode cX11_countHanging 45 = .ok (.invokevirtual 338, 3) := by decide +kernel
theorem dX11_countHanging_48 : decode cX11_countHanging 48 = .ok (.iload_n 2, 1) := by decide +kernel
theorem dX11_countHanging_49 : decode cX11_countHanging 49 = .ok (.if_icmp .ne 20, 3) := by decide +kernel
theorem dX11_countHanging_52 : decode cX11_countHanging 52 = .ok (.goto 14, 3) := by decide +kernel
theorem dX11_countHanging_55 : decode cX11_countHanging 55 = .ok (.aload_n 0, 1) := by decide +kernel
theorem dX11_countHanging_56 : decode cX11_countHanging 56 = .ok (.getfield 57, 3) := by decide +kernel
theorem dX11_countHanging_59 : decode cX11_countHanging 59 = .ok (.invokevirtual 408, 3) := by decide +kernel
theorem dX11_countHanging_62 : decode cX11_countHanging 62 = .ok (.iconst 1, 1) := by decide +kernel
theorem dX11_countHanging_63 : decode cX11_countHanging 63 = .ok (.if_icmp .ne 6, 3) := by decide +kernel
theorem dX11_countHanging_66 : decode cX11_countHanging 66 = .ok (.iinc 5 1, 3) := by decide +kernel
theorem dX11_countHanging_69 : decode cX11_countHanging 69 = .ok (.iinc 6 1, 3) := by decide +kernel
theorem dX11_countHanging_72 : decode cX11_countHanging 72 = .ok (.goto (-55), 3) := by decide +kernel
theorem dX11_countHanging_75 : decode cX11_countHanging 75 = .ok (.iload 5, 2) := by decide +kernel
theorem dX11_countHanging_77 : decode cX11_countHanging 77 = .ok (.ireturn, 1) := by decide +kernel
theorem dX11_drawPairing_0 : decode cX11_drawPairing 0 = .ok (.aload_n 0, 1) := by decide +kernel
theorem dX11_drawPairing_1 : decode cX11_drawPairing 1 = .ok (.getfield 57, 3) := by decide +kernel
theorem dX11_drawPairing_4 : decode cX11_drawPairing 4 = .ok (.iload_n 3, 1) := by decide +kernel
theorem dX11_drawPairing_5 : decode cX11_drawPairing 5 = .ok (.invokevirtual 411, 3) := by decide +kernel
theorem dX11_drawPairing_8 : decode cX11_drawPairing 8 = .ok (.iconst 0, 1) := by decide +kernel
theorem dX11_drawPairing_9 : decode cX11_drawPairing 9 = .ok (.istore 4, 2) := by decide +kernel
theorem dX11_drawPairing_11 : decode cX11_drawPairing 11 = .ok (.iload 4, 2) := by decide +kernel
theorem dX11_drawPairing_13 : decode cX11_drawPairing 13 = .ok (.aload_n 0, 1) := by decide +kernel
theorem dX11_drawPairing_14 : decode cX11_drawPairing 14 = .ok (.getfield 71, 3) := by decide +kernel
theorem dX11_drawPairing_17 : decode cX11_drawPairing 17 = .ok (.getfield 108, 3) := by decide +kernel
theorem dX11_drawPairing_20 : decode cX11_drawPairing 20 = .ok (.if_icmp .ge 55, 3) := by decide +kernel
theorem dX11_drawPairing_23 : decode cX11_drawPairing 23 = .ok (.aload_n 1, 1) := by decide +kernel
theorem dX11_drawPairing_24 : decode cX11_drawPairing 24 = .ok (.getfield 413, 3) := by decide +kernel
theorem dX11_drawPairing_27 : decode cX11_drawPairing 27 = .ok (.iload 4, 2) := by decide +kernel
theorem dX11_drawPairing_29 : decode cX11_drawPairing 29 = .ok (.ishr, 1) := by decide +kernel
theorem dX11_drawPairing_30 : decode cX11_drawPairing 30 = .ok (.iconst 1, 1) := by decide +kernel
theorem dX11_drawPairing_31 : decode cX11_drawPairing 31 = .ok (.iand, 1) := by decide +kernel
theorem dX11_drawPairing_32 : decode cX11_drawPairing 32 = .ok (.ifCond .eq 37, 3) := by decide +kernel
theorem dX11_drawPairing_35 : decode cX11_drawPairing 35 = .ok (.aload_n 1, 1) := by decide +kernel
theorem dX11_drawPairing_36 : decode cX11_drawPairing 36 = .ok (.iload_n 2, 1) := by decide +kernel
theorem dX11_drawPairing_37 : decode cX11_drawPairing 37 = .ok (.iload 4, 2) := by decide +kernel
theorem dX11_drawPairing_39 : decode cX11_drawPairing 39 = .ok (.invokevirtual 265, 3) := by decide +kernel
theorem dX11_drawPairing_42 : decode cX11_drawPairing 42 = .ok (.istore 5, 2) := by decide +kernel
theorem dX11_drawPairing_44 : decode cX11_drawPairing 44 = .ok (.iload 4, 2) := by decide +kernel
theorem dX11_drawPairing_46 : decode cX11_drawPairing 46 = .ok (.iload 5, 2) := by decide +kernel
theorem dX11_drawPairing_48 : decode cX11_drawPairing 48 = .ok (.if_icmp .ge 21, 3) := by decide +kernel
theorem dX11_drawPairing_51 : decode cX11_drawPairing 51 = .ok (.aload_n 0, 1) := by decide +kernel
theorem dX11_drawPairing_52 : decode cX11_drawPairing 52 = .ok (.getfield 57, 3) := by decide +kernel
theorem dX11_drawPairing_55 : decode cX11_drawPairing 55 = .ok (.aload_n 0, 1) := by decide +kernel
theorem dX11_drawPairing_56 : decode cX11_drawPairing 56 = .ok (.getfield 71, 3) := by decide +kernel
theorem dX11_drawPairing_59 : decode cX11_drawPairing 59 = .ok (.iload 4, 2) := by decide +kernel
theorem dX11_drawPairing_61 : decode cX11_drawPairing 61 = .ok (.iload 5, 2) := by decide +kernel
theorem dX11_drawPairing_63 : decode cX11_drawPairing 63 = .ok (.invokevirtual 214, 3) := by decide +kernel
theorem dX11_drawPairing_66 : decode cX11_drawPairing 66 = .ok (.invokevirtual 416, 3) := by decide +kernel
theorem dX11_drawPairing_69 : decode cX11_drawPairing 69 = .ok (.iinc 4 1, 3) := by decide +kernel
theorem dX11_drawPairing_72 : decode cX11_drawPairing 72 = .ok (.goto (-61), 3) := by decide +kernel
theorem dX11_drawPairing_75 : decode cX11_drawPairing 75 = .ok (.return_, 1) := by decide +kernel
theorem dX11_worthOf_0 : decode cX11_worthOf 0 = .ok (.aload_n 1, 1) := by decide +kernel
theorem dX11_worthOf_1 : decode cX11_worthOf 1 = .ok (.iload_n 2, 1) := by decide +kernel
theorem dX11_worthOf_2 : decode cX11_worthOf 2 = .ok (.invokevirtual 268, 3) := by decide +kernel
theorem dX11_worthOf_5 : decode cX11_worthOf 5 = .ok (.i2l, 1) := by decide +kernel
theorem dX11_worthOf_6 : decode cX11_worthOf 6 = .ok (.lstore_n 3, 1) := by decide +kernel
theorem dX11_worthOf_7 : decode cX11_worthOf 7 = .ok (.iconst 0, 1) := by decide +kernel
theorem dX11_worthOf_8 : decode cX11_worthOf 8 = .ok (.istore 5, 2) := by decide +kernel
theorem dX11_worthOf_10 : decode cX11_worthOf 10 = .ok (.iload 5, 2) := by decide +kernel
theorem dX11_worthOf_12 : decode cX11_worthOf 12 = .ok (.aload_n 0, 1) := by decide +kernel
theorem dX11_worthOf_13 : decode cX11_worthOf 13 = .ok (.getfield 71, 3) := by decide +kernel
theorem dX11_worthOf_16 : decode cX11_worthOf 16 = .ok (.getfield 108, 3) := by decide +kernel
theorem dX11_worthOf_19 : decode cX11_worthOf 19 = .ok (.if_icmp .ge 48, 3) := by decide +kernel
theorem dX11_worthOf_22 : decode cX11_worthOf 22 = .ok (.aload_n 1, 1) := by decide +kernel
theorem dX11_worthOf_23 : decode cX11_worthOf 23 = .ok (.iload_n 2, 1) := by decide +kernel
theorem dX11_worthOf_24 : decode cX11_worthOf 24 = .ok (.iload 5, 2) := by decide +kernel
theorem dX11_worthOf_26 : decode cX11_worthOf 26 = .ok (.invokevirtual 265, 3) := by decide +kernel
theorem dX11_worthOf_29 : decode cX11_worthOf 29 = .ok (.istore 6, 2) := by decide +kernel
theorem dX11_worthOf_31 : decode cX11_worthOf 31 = .ok (.iload 5, 2) := by decide +kernel
theorem dX11_worthOf_33 : decode cX11_worthOf 33 = .ok (.iload 6, 2) := by decide +kernel
theorem dX11_worthOf_35 : decode cX11_worthOf 35 = .ok (.if_icmp .ge 26, 3) := by decide +kernel
theorem dX11_worthOf_38 : decode cX11_worthOf 38 = .ok (.lload_n 3, 1) := by decide +kernel
theorem dX11_worthOf_39 : decode cX11_worthOf 39 = .ok (.aload_n 0, 1) := by decide +kernel
theorem dX11_worthOf_40 : decode cX11_worthOf 40 = .ok (.getfield 71, 3) := by decide +kernel
theorem dX11_worthOf_43 : decode cX11_worthOf 43 = .ok (.getfield 259, 3) := by decide +kernel
theorem dX11_worthOf_46 : decode cX11_worthOf 46 = .ok (.aload_n 0, 1) := by decide +kernel
theorem dX11_worthOf_47 : decode cX11_worthOf 47 = .ok (.getfield 71, 3) := by decide +kernel
theorem dX11_worthOf_50 : decode cX11_worthOf 50 = .ok (.iload 5, 2) := by decide +kernel
theorem dX11_worthOf_52 : decode cX11_worthOf 52 = .ok (.iload 6, 2) := by decide +kernel
theorem dX11_worthOf_54 : decode cX11_worthOf 54 = .ok (.invokevirtual 214, 3) := by decide +kernel
theorem dX11_worthOf_57 : decode cX11_worthOf 57 = .ok (.iaload, 1) := by decide +kernel
theorem dX11_worthOf_58 : decode cX11_worthOf 58 = .ok (.i2l, 1) := by decide +kernel
theorem dX11_worthOf_59 : decode cX11_worthOf 59 = .ok (.lmul, 1) := by decide +kernel
theorem dX11_worthOf_60 : decode cX11_worthOf 60 = .ok (.lstore_n 3, 1) := by decide +kernel
theorem dX11_worthOf_61 : decode cX11_worthOf 61 = .ok (.iinc 5 1, 3) := by decide +kernel
theorem dX11_worthOf_64 : decode cX11_worthOf 64 = .ok (.goto (-54), 3) := by decide +kernel
theorem dX11_worthOf_67 : decode cX11_worthOf 67 = .ok (.lload_n 3, 1) := by decide +kernel
theorem dX11_worthOf_68 : decode cX11_worthOf 68 = .ok (.lreturn, 1) := by decide +kernel
theorem dX11_leastOf_0 : decode cX11_leastOf 0 = .ok (.iload_n 0, 1) := by decide +kernel
theorem dX11_leastOf_1 : decode cX11_leastOf 1 = .ok (.iload_n 0, 1) := by decide +kernel
theorem dX11_leastOf_2 : decode cX11_leastOf 2 = .ok (.ineg, 1) := by decide +kernel
theorem dX11_leastOf_3 : decode cX11_leastOf 3 = .ok (.iand, 1) := by decide +kernel
theorem dX11_leastOf_4 : decode cX11_leastOf 4 = .ok (.iconst 1, 1) := by decide +kernel
theorem dX11_leastOf_5 : decode cX11_leastOf 5 = .ok (.isub, 1) := by decide +kernel
theorem dX11_leastOf_6 : decode cX11_leastOf 6 = .ok (.invokestatic 366, 3) := by decide +kernel
theorem dX11_leastOf_9 : decode cX11_leastOf 9 = .ok (.ireturn, 1) := by decide +kernel
theorem dX11_roomFor_0 : decode cX11_roomFor 0 = .ok (.bipush 16, 2) := by decide +kernel
theorem dX11_roomFor_2 : decode cX11_roomFor 2 = .ok (.istore_n 1, 1) := by decide +kernel
theorem dX11_roomFor_3 : decode cX11_roomFor 3 = .ok (.iconst 0, 1) := by decide +kernel
theorem dX11_roomFor_4 : decode cX11_roomFor 4 = .ok (.istore_n 2, 1) := by decide +kernel
theorem dX11_roomFor_5 : decode cX11_roomFor 5 = .ok (.iload_n 2, 1) := by decide +kernel
theorem dX11_roomFor_6 : decode cX11_roomFor 6 = .ok (.bipush 8, 2) := by decide +kernel
theorem dX11_roomFor_8 : decode cX11_roomFor 8 = .ok (.if_icmp .ge 18, 3) := by decide +kernel
theorem dX11_roomFor_11 : decode cX11_roomFor 11 = .ok (.iload_n 1, 1) := by decide +kernel
theorem dX11_roomFor_12 : decode cX11_roomFor 12 = .ok (.iload_n 0, 1) := by decide +kernel
theorem dX11_roomFor_13 : decode cX11_roomFor 13 = .ok (.if_icmp .ge 13, 3) := by decide +kernel
theorem dX11_roomFor_16 : decode cX11_roomFor 16 = .ok (.iload_n 1, 1) := by decide +kernel
theorem dX11_roomFor_17 : decode cX11_roomFor 17 = .ok (.iconst 4, 1) := by decide +kernel
theorem dX11_roomFor_18 : decode cX11_roomFor 18 = .ok (.imul, 1) := by decide +kernel
theorem dX11_roomFor_19 : decode cX11_roomFor 19 = .ok (.istore_n 1, 1) := by decide +kernel
theorem dX11_roomFor_20 : decode cX11_roomFor 20 = .ok (.iinc 2 1, 3) := by decide +kernel
theorem dX11_roomFor_23 : decode cX11_roomFor 23 = .ok (.goto (-18), 3) := by decide +kernel
theorem dX11_roomFor_26 : decode cX11_roomFor 26 = .ok (.iload_n 1, 1) := by decide +kernel
theorem dX11_roomFor_27 : decode cX11_roomFor 27 = .ok (.sipush 10395, 3) := by decide +kernel
theorem dX11_roomFor_30 : decode cX11_roomFor 30 = .ok (.invokestatic 419, 3) := by decide +kernel
theorem dX11_roomFor_33 : decode cX11_roomFor 33 = .ok (.ireturn, 1) := by decide +kernel
