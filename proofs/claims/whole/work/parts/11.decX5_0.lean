theorem dX5_init_0 : decode cX5_init 0 = .ok (.aload_n 0, 1) := by decide +kernel
theorem dX5_init_1 : decode cX5_init 1 = .ok (.invokespecial 3, 3) := by decide +kernel
theorem dX5_init_4 : decode cX5_init 4 = .ok (.aload_n 0, 1) := by decide +kernel
theorem dX5_init_5 : decode cX5_init 5 = .ok (.bipush 6, 2) := by decide +kernel
theorem dX5_init_7 : decode cX5_init 7 = .ok (.newarray .int, 2) := by decide +kernel
theorem dX5_init_9 : decode cX5_init 9 = .ok (.putfield 9, 3) := by decide +kernel
theorem dX5_init_12 : decode cX5_init 12 = .ok (.return_, 1) := by decide +kernel
theorem dX5_begin_0 : decode cX5_begin 0 = .ok (.aload_n 0, 1) := by decide +kernel
theorem dX5_begin_1 : decode cX5_begin 1 = .ok (.iconst 0, 1) := by decide +kernel
theorem dX5_begin_2 : decode cX5_begin 2 = .ok (.putfield 15, 3) := by decide +kernel
theorem dX5_begin_5 : decode cX5_begin 5 = .ok (.aload_n 0, 1) := by decide +kernel
theorem dX5_begin_6 : decode cX5_begin 6 = .ok (.iload_n 1, 1) := by decide +kernel
theorem dX5_begin_7 : decode cX5_begin 7 = .ok (.putfield 19, 3) := by decide +kernel
theorem dX5_begin_10 : decode cX5_begin 10 = .ok (.aload_n 0, 1) := by decide +kernel
theorem dX5_begin_11 : decode cX5_begin 11 = .ok (.iload_n 2, 1) := by decide +kernel
theorem dX5_begin_12 : decode cX5_begin 12 = .ok (.putfield 23, 3) := by decide +kernel
theorem dX5_begin_15 : decode cX5_begin 15 = .ok (.return_, 1) := by decide +kernel
theorem dX5_addKind_0 : decode cX5_addKind 0 = .ok (.aload_n 0, 1) := by decide +kernel
theorem dX5_addKind_1 : decode cX5_addKind 1 = .ok (.getfield 15, 3) := by decide +kernel
theorem dX5_addKind_4 : decode cX5_addKind 4 = .ok (.bipush 6, 2) := by decide +kernel
theorem dX5_addKind_6 : decode cX5_addKind 6 = .ok (.if_icmp .ge 23, 3) := by decide +kernel
theorem dX5_addKind_9 : decode cX5_addKind 9 = .ok (.aload_n 0, 1) := by decide +kernel
theorem dX5_addKind_10 : decode cX5_addKind 10 = .ok (.getfield 9, 3) := by decide +kernel
theorem dX5_addKind_13 : decode cX5_addKind 13 = .ok (.aload_n 0, 1) := by decide +kernel
theorem dX5_addKind_14 : decode cX5_addKind 14 = .ok (.getfield 15, 3) := by decide +kernel
theorem dX5_addKind_17 : decode cX5_addKind 17 = .ok (.iload_n 1, 1) := by decide +kernel
theorem dX5_addKind_18 : decode cX5_addKind 18 = .ok (.iastore, 1) := by decide +kernel
theorem dX5_addKind_19 : decode cX5_addKind 19 = .ok (.aload_n 0, 1) := by decide +kernel
theorem dX5_addKind_20 : decode cX5_addKind 20 = .ok (.dup, 1) := by decide +kernel
theorem dX5_addKind_21 : decode cX5_addKind 21 = .ok (.getfield 15, 3) := by decide +kernel
theorem dX5_addKind_24 : decode cX5_addKind 24 = .ok (.iconst 1, 1) := by decide +kernel
theorem dX5_addKind_25 : decode cX5_addKind 25 = .ok (.iadd, 1) := by decide +kernel
theorem dX5_addKind_26 : decode cX5_addKind 26 = .ok (.putfield 15, 3) := by decide +kernel
theorem dX5_addKind_29 : decode cX5_addKind 29 = .ok (.return_, 1) := by decide +kernel
theorem dX5_become_0 : decode cX5_become 0 = .ok (.aload_n 0, 1) := by decide +kernel
theorem dX5_become_1 : decode cX5_become 1 = .ok (.aload_n 1, 1) := by decide +kernel
theorem dX5_become_2 : decode cX5_become 2 = .ok (.getfield 19, 3) := by decide +kernel
theorem dX5_become_5 : decode cX5_become 5 = .ok (.aload_n 1, 1) := by decide +kernel
theorem dX5_become_6 : decode cX5_become 6 = .ok (.getfield 23, 3) := by decide +kernel
theorem dX5_become_9 : decode cX5_become 9 = .ok (.invokevirtual 26, 3) := by decide +kernel
theorem dX5_become_12 : decode cX5_become 12 = .ok (.iconst 0, 1) := by decide +kernel
theorem dX5_become_13 : decode cX5_become 13 = .ok (.istore_n 2, 1) := by decide +kernel
theorem dX5_become_14 : decode cX5_become 14 = .ok (.iload_n 2, 1) := by decide +kernel
theorem dX5_become_15 : decode cX5_become 15 = .ok (.aload_n 1, 1) := by decide +kernel
theorem dX5_become_16 : decode cX5_become 16 = .ok (.getfield 15, 3) := by decide +kernel
theorem dX5_become_19 : decode cX5_become 19 = .ok (.if_icmp .ge 19, 3) := by decide +kernel
theorem dX5_become_22 : decode cX5_become 22 = .ok (.aload_n 0, 1) := by decide +kernel
theorem dX5_become_23 : decode cX5_become 23 = .ok (.aload_n 1, 1) := by decide +kernel
theorem dX5_become_24 : decode cX5_become 24 = .ok (.getfield 9, 3) := by decide +kernel
theorem dX5_become_27 : decode cX5_become 27 = .ok (.iload_n 2, 1) := by decide +kernel
theorem dX5_become_28 : decode cX5_become 28 = .ok (.iaload, 1) := by decide +kernel
theorem dX5_become_29 : decode cX5_become 29 = .ok (.invokevirtual 30, 3) := by decide +kernel
theorem dX5_become_32 : decode cX5_become 32 = .ok (.iinc 2 1, 3) := by decide +kernel
theorem dX5_become_35 : decode cX5_become 35 = .ok (.goto (-21), 3) := by decide +kernel
theorem dX5_become_38 : decode cX5_become 38 = .ok (.return_, 1) := by decide +kernel
theorem dX5_isAlike_0 : decode cX5_isAlike 0 = .ok (.aload_n 0, 1) := by decide +kernel
theorem dX5_isAlike_1 : decode cX5_isAlike 1 = .ok (.getfield 19, 3) := by decide +kernel
theorem dX5_isAlike_4 : decode cX5_isAlike 4 = .ok (.ifCond .eq 32, 3) := by decide +kernel
theorem dX5_isAlike_7 : decode cX5_isAlike 7 = .ok (.aload_n 1, 1) := by decide +kernel
theorem dX5_isAlike_8 : decode cX5_isAlike 8 = .ok (.getfield 19, 3) := by decide +kernel
theorem dX5_isAlike_11 : decode cX5_isAlike 11 = .ok (.ifCond .eq 25, 3) := by decide +kernel
theorem dX5_isAlike_14 : decode cX5_isAlike 14 = .ok (.aload_n 0, 1) := by decide +kernel
theorem dX5_isAlike_15 : decode cX5_isAlike 15 = .ok (.getfield 23, 3) := by decide +kernel
theorem dX5_isAlike_18 : decode cX5_isAlike 18 = .ok (.aload_n 1, 1) := by decide +kernel
theorem dX5_isAlike_19 : decode cX5_isAlike 19 = .ok (.getfield 23, 3) := by decide +kernel
theorem dX5_isAlike_22 : decode cX5_isAlike 22 = .ok (.if_icmp .ne 14, 3) := by decide +kernel
theorem dX5_isAlike_25 : decode cX5_isAlike 25 = .ok (.aload_n 0, 1) := by decide +kernel
theorem dX5_isAlike_26 : decode cX5_isAlike 26 = .ok (.getfield 15, 3) := by decide +kernel
theorem dX5_isAlike_29 : decode cX5_isAlike 29 = .ok (.aload_n 1, 1) := by decide +kernel
theorem dX5_isAlike_30 : decode cX5_isAlike 30 = .ok (.getfield 15, 3) := by decide +kernel
theorem dX5_isAlike_33 : decode cX5_isAlike 33 = .ok (.if_icmp .eq 5, 3) := by decide +kernel
theorem dX5_isAlike_36 : decode cX5_isAlike 36 = .ok (.iconst 0, 1) := by decide +kernel
theorem dX5_isAlike_37 : decode cX5_isAlike 37 = .ok (.ireturn, 1) := by decide +kernel
theorem dX5_isAlike_38 : decode cX5_isAlike 38 = .ok (.iconst 0, 1) := by decide +kernel
theorem dX5_isAlike_39 : decode cX5_isAlike 39 = .ok (.istore_n 2, 1) := by decide +kernel
theorem dX5_isAlike_40 : decode cX5_isAlike 40 = .ok (.iload_n 2, 1) := by decide +kernel
theorem dX5_isAlike_41 : decode cX5_isAlike 41 = .ok (.aload_n 0, 1) := by decide +kernel
theorem dX5_isAlike_42 : decode cX5_isAlike 42 = .ok (.getfield 15, 3) := by decide +kernel
theorem dX5_isAlike_45 : decode cX5_isAlike 45 = .ok (.if_icmp .ge 26, 3) := by decide +kernel
theorem dX5_isAlike_48 : decode cX5_isAlike 48 = .ok (.aload_n 0, 1) := by decide +kernel
theorem dX5_isAlike_49 : decode cX5_isAlike 49 = .ok (.getfield 9, 3) := by decide +kernel
theorem dX5_isAlike_52 : decode cX5_isAlike 52 = .ok (.iload_n 2, 1) := by decide +kernel
theorem dX5_isAlike_53 : decode cX5_isAlike 53 = .ok (.iaload, 1) := by decide +kernel
theorem dX5_isAlike_54 : decode cX5_isAlike 54 = .ok (.aload_n 1, 1) := by decide +kernel
theorem dX5_isAlike_55 : decode cX5_isAlike 55 = .ok (.getfield 9, 3) := by decide +kernel
theorem dX5_isAlike_58 : decode cX5_isAlike 58 = .ok (.iload_n 2, 1) := by decide +kernel
theorem dX5_isAlike_59 : decode cX5_isAlike 59 = .ok (.iaload, 1) := by decide +kernel
theorem dX5_isAlike_60 : decode cX5_isAlike 60 = .ok (.if_icmp .eq 5, 3) := by decide +kernel
theorem dX5_isAlike_63 : decode cX5_isAlike 63 = .ok (.iconst 0, 1) := by decide +kernel
theorem dX5_isAlike_64 : decode cX5_isAlike 64 = .ok (.ireturn, 1) := by decide +kernel
theorem dX5_isAlike_65 : decode cX5_isAlike 65 = .ok (.iinc 2 1, 3) := by decide +kernel
theorem dX5_isAlike_68 : decode cX5_isAlike 68 = .ok (.goto (-28), 3) := by decide +kernel
theorem dX5_isAlike_71 : decode cX5_isAlike 71 = .ok (.iconst 1, 1) := by decide +kernel
theorem dX5_isAlike_72 : decode cX5_isAlike 72 = .ok (.ireturn, 1) := by decide +kernel
theorem dX5_orders_0 : decode cX5_orders 0 = .ok (.iconst 1, 1) := by decide +kernel
theorem dX5_orders_1 : decode cX5_orders 1 = .ok (.istore_n 1, 1) := by decide +kernel
theorem dX5_orders_2 : decode cX5_orders 2 = .ok (.iconst 0, 1) := by decide +kernel
theorem dX5_orders_3 : decode cX5_orders 3 = .ok (.istore_n 2, 1) := by decide +kernel
theorem dX5_orders_4 : decode cX5_orders 4 = .ok (.iload_n 2, 1) := by decide +kernel
theorem dX5_orders_5 : decode cX5_orders 5 = .ok (.aload_n 0, 1) := by decide +kernel
theorem dX5_orders_6 : decode cX5_orders 6 = .ok (.getfield 15, 3) := by decide +kernel
theorem dX5_orders_9 : decode cX5_orders 9 = .ok (.if_icmp .ge 49, 3) := by decide +kernel
theorem dX5_orders_12 : decode cX5_orders 12 = .ok (.iconst 1, 1) := by decide +kernel
theorem dX5_orders_13 : decode cX5_orders 13 = .ok (.istore_n 3, 1) := by decide +kernel
theorem dX5_orders_14 : decode cX5_orders 14 = .ok (.iconst 0, 1) := by decide +kernel
theorem dX5_orders_15 : decode cX5_orders 15 = .ok (.istore 4, 2) := by decide +kernel
theorem dX5_orders_17 : decode cX5_orders 17 = .ok (.iload 4, 2) := by decide +kernel
theorem dX5_orders_19 : decode cX5_orders 19 = .ok (.iload_n 2, 1) := by decide +kernel
theorem dX5_orders_20 : decode cX5_orders 20 = .ok (.if_icmp .ge 28, 3) := by decide +kernel
theorem dX5_orders_23 : decode cX5_orders 23 = .ok (.aload_n 0, 1) := by decide +kernel
theorem dX5_orders_24 : decode cX5_orders 24 = .ok (.getfield 9, 3) := by decide +kernel
theorem dX5_orders_27 : decode cX5_orders 27 = .ok (.iload 4, 2) := by decide +kernel
theorem dX5_orders_29 : decode cX5_orders 29 = .ok (.iaload, 1) := by decide +kernel
theorem dX5_orders_30 : decode cX5_orders 30 = .ok (.aload_n 0, 1) := by decide +kernel
theorem dX5_orders_31 : decode cX5_orders 31 = .ok (.getfield 9, 3) := by decide +kernel
theorem dX5_orders_34 : decode cX5_orders 34 = .ok (.iload_n 2, 1) := by decide +kernel
theorem dX5_orders_35 : decode cX5_orders 35 = .ok (.iaload, 1) := by decide +kernel
theorem dX5_orders_36 : decode cX5_orders 36 = .ok (.if_icmp .ne 6, 3) := by decide +kernel
theorem dX5_orders_39 : decode cX5_orders 39 = .ok (.iinc 3 1, 3) := by decide +kernel
theorem dX5_orders_42 : decode cX5_orders 42 = .ok (.iinc 4 1, 3) := by decide +kernel
theorem dX5_orders_45 : decode cX5_orders 45 = .ok (.goto (-28), 3) := by decide +kernel
theorem dX5_orders_48 : decode cX5_orders 48 = .ok (.iload_n 1, 1) := by decide +kernel
theorem dX5_orders_49 : decode cX5_orders 49 = .ok (.iload_n 3, 1) := by decide +kernel
theorem dX5_orders_50 : decode cX5_orders 50 = .ok (.imul, 1) := by decide +kernel
theorem dX5_orders_51 : decode cX5_orders 51 = .ok (.istore_n 1, 1) := by decide +kernel
theorem dX5_orders_52 : decode cX5_orders 52 = .ok (.iinc 2 1, 3) := by decide +kernel
theorem dX5_orders_55 : decode cX5_orders 55 = .ok (.goto (-51), 3) := by decide +kernel
theorem dX5_orders_58 : decode cX5_orders 58 = .ok (.iload_n 1, 1) := by decide +kernel
theorem dX5_orders_59 : decode cX5_orders 59 = .ok (.ireturn, 1) := by decide +kernel
