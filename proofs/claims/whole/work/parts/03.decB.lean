theorem dX5_init_0 : decode cX5_init 0 = .ok (.aload_n 0, 1) := by decide +kernel
theorem dX5_init_1 : decode cX5_init 1 = .ok (.invokespecial 3, 3) := by decide +kernel
theorem dX5_init_4 : decode cX5_init 4 = .ok (.aload_n 0, 1) := by decide +kernel
theorem dX5_init_5 : decode cX5_init 5 = .ok (.new 9, 3) := by decide +kernel
theorem dX5_init_8 : decode cX5_init 8 = .ok (.dup, 1) := by decide +kernel
theorem dX5_init_9 : decode cX5_init 9 = .ok (.invokespecial 11, 3) := by decide +kernel
theorem dX5_init_12 : decode cX5_init 12 = .ok (.putfield 12, 3) := by decide +kernel
theorem dX5_init_15 : decode cX5_init 15 = .ok (.aload_n 0, 1) := by decide +kernel
theorem dX5_init_16 : decode cX5_init 16 = .ok (.sipush 150, 3) := by decide +kernel
theorem dX5_init_19 : decode cX5_init 19 = .ok (.newarray .boolean, 2) := by decide +kernel
theorem dX5_init_21 : decode cX5_init 21 = .ok (.putfield 18, 3) := by decide +kernel
theorem dX5_init_24 : decode cX5_init 24 = .ok (.aload_n 0, 1) := by decide +kernel
theorem dX5_init_25 : decode cX5_init 25 = .ok (.sipush 150, 3) := by decide +kernel
theorem dX5_init_28 : decode cX5_init 28 = .ok (.newarray .int, 2) := by decide +kernel
theorem dX5_init_30 : decode cX5_init 30 = .ok (.putfield 22, 3) := by decide +kernel
theorem dX5_init_33 : decode cX5_init 33 = .ok (.aload_n 0, 1) := by decide +kernel
theorem dX5_init_34 : decode cX5_init 34 = .ok (.bipush 30, 2) := by decide +kernel
theorem dX5_init_36 : decode cX5_init 36 = .ok (.newarray .boolean, 2) := by decide +kernel
theorem dX5_init_38 : decode cX5_init 38 = .ok (.putfield 26, 3) := by decide +kernel
theorem dX5_init_41 : decode cX5_init 41 = .ok (.return_, 1) := by decide +kernel
theorem dX5_freeCellsBeside_0 : decode cX5_freeCellsBeside 0 = .ok (.iconst 0, 1) := by decide +kernel
theorem dX5_freeCellsBeside_1 : decode cX5_freeCellsBeside 1 = .ok (.istore_n 2, 1) := by decide +kernel
theorem dX5_freeCellsBeside_2 : decode cX5_freeCellsBeside 2 = .ok (.iconst 0, 1) := by decide +kernel
theorem dX5_freeCellsBeside_3 : decode cX5_freeCellsBeside 3 = .ok (.istore_n 3, 1) := by decide +kernel
theorem dX5_freeCellsBeside_4 : decode cX5_freeCellsBeside 4 = .ok (.iload_n 3, 1) := by decide +kernel
theorem dX5_freeCellsBeside_5 : decode cX5_freeCellsBeside 5 = .ok (.iconst 4, 1) := by decide +kernel
theorem dX5_freeCellsBeside_6 : decode cX5_freeCellsBeside 6 = .ok (.if_icmp .ge 27, 3) := by decide +kernel
theorem dX5_freeCellsBeside_9 : decode cX5_freeCellsBeside 9 = .ok (.aload_n 0, 1) := by decide +kernel
theorem dX5_freeCellsBeside_10 : decode cX5_freeCellsBeside 10 = .ok (.getfield 12, 3) := by decide +kernel
theorem dX5_freeCellsBeside_13 : decode cX5_freeCellsBeside 13 = .ok (.iload_n 1, 1) := by decide +kernel
theorem dX5_freeCellsBeside_14 : decode cX5_freeCellsBeside 14 = .ok (.iload_n 3, 1) := by decide +kernel
theorem dX5_freeCellsBeside_15 : decode cX5_freeCellsBeside 15 = .ok (.invokestatic 29, 3) := by decide +kernel
theorem dX5_freeCellsBeside_18 : decode cX5_freeCellsBeside 18 = .ok (.invokevirtual 35, 3) := by decide +kernel
theorem dX5_freeCellsBeside_21 : decode cX5_freeCellsBeside 21 = .ok (.ifCond .eq 6, 3) := by decide +kernel
theorem dX5_freeCellsBeside_24 : decode cX5_freeCellsBeside 24 = .ok (.iinc 2 1, 3) := by decide +kernel
theorem dX5_freeCellsBeside_27 : decode cX5_freeCellsBeside 27 = .ok (.iinc 3 1, 3) := by decide +kernel
theorem dX5_freeCellsBeside_30 : decode cX5_freeCellsBeside 30 = .ok (.goto (-26), 3) := by decide +kernel
theorem dX5_freeCellsBeside_33 : decode cX5_freeCellsBeside 33 = .ok (.iload_n 2, 1) := by decide +kernel
theorem dX5_freeCellsBeside_34 : decode cX5_freeCellsBeside 34 = .ok (.ireturn, 1) := by decide +kernel
theorem dX5_touchesAt_0 : decode cX5_touchesAt 0 = .ok (.iconst 0, 1) := by decide +kernel
theorem dX5_touchesAt_1 : decode cX5_touchesAt 1 = .ok (.istore_n 3, 1) := by decide +kernel
theorem dX5_touchesAt_2 : decode cX5_touchesAt 2 = .ok (.iconst 0, 1) := by decide +kernel
theorem dX5_touchesAt_3 : decode cX5_touchesAt 3 = .ok (.istore 4, 2) := by decide +kernel
theorem dX5_touchesAt_5 : decode cX5_touchesAt 5 = .ok (.iload 4, 2) := by decide +kernel
theorem dX5_touchesAt_7 : decode cX5_touchesAt 7 = .ok (.iconst 4, 1) := by decide +kernel
theorem dX5_touchesAt_8 : decode cX5_touchesAt 8 = .ok (.if_icmp .ge 23, 3) := by decide +kernel
theorem dX5_touchesAt_11 : decode cX5_touchesAt 11 = .ok (.iload_n 3, 1) := by decide +kernel
theorem dX5_touchesAt_12 : decode cX5_touchesAt 12 = .ok (.aload_n 0, 1) := by decide +kernel
theorem dX5_touchesAt_13 : decode cX5_touchesAt 13 = .ok (.iload_n 1, 1) := by decide +kernel
theorem dX5_touchesAt_14 : decode cX5_touchesAt 14 = .ok (.iload 4, 2) := by decide +kernel
theorem dX5_touchesAt_16 : decode cX5_touchesAt 16 = .ok (.invokestatic 29, 3) := by decide +kernel
theorem dX5_touchesAt_19 : decode cX5_touchesAt 19 = .ok (.iload_n 2, 1) := by decide +kernel
theorem dX5_touchesAt_20 : decode cX5_touchesAt 20 = .ok (.invokevirtual 39, 3) := by decide +kernel
theorem dX5_touchesAt_23 : decode cX5_touchesAt 23 = .ok (.iadd, 1) := by decide +kernel
theorem dX5_touchesAt_24 : decode cX5_touchesAt 24 = .ok (.istore_n 3, 1) := by decide +kernel
theorem dX5_touchesAt_25 : decode cX5_touchesAt 25 = .ok (.iinc 4 1, 3) := by decide +kernel
theorem dX5_touchesAt_28 : decode cX5_touchesAt 28 = .ok (.goto (-23), 3) := by decide +kernel
theorem dX5_touchesAt_31 : decode cX5_touchesAt 31 = .ok (.iload_n 3, 1) := by decide +kernel
theorem dX5_touchesAt_32 : decode cX5_touchesAt 32 = .ok (.ireturn, 1) := by decide +kernel
theorem dX5_neighboursOf_0 : decode cX5_neighboursOf 0 = .ok (.iconst 0, 1) := by decide +kernel
theorem dX5_neighboursOf_1 : decode cX5_neighboursOf 1 = .ok (.istore_n 2, 1) := by decide +kernel
theorem dX5_neighboursOf_2 : decode cX5_neighboursOf 2 = .ok (.iload_n 2, 1) := by decide +kernel
theorem dX5_neighboursOf_3 : decode cX5_neighboursOf 3 = .ok (.bipush 30, 2) := by decide +kernel
theorem dX5_neighboursOf_5 : decode cX5_neighboursOf 5 = .ok (.if_icmp .ge 16, 3) := by decide +kernel
theorem dX5_neighboursOf_8 : decode cX5_neighboursOf 8 = .ok (.aload_n 0, 1) := by decide +kernel
theorem dX5_neighboursOf_9 : decode cX5_neighboursOf 9 = .ok (.getfield 26, 3) := by decide +kernel
theorem dX5_neighboursOf_12 : decode cX5_neighboursOf 12 = .ok (.iload_n 2, 1) := by decide +kernel
theorem dX5_neighboursOf_13 : decode cX5_neighboursOf 13 = .ok (.iconst 0, 1) := by decide +kernel
theorem dX5_neighboursOf_14 : decode cX5_neighboursOf 14 = .ok (.bastore, 1) := by decide +kernel
theorem dX5_neighboursOf_15 : decode cX5_neighboursOf 15 = .ok (.iinc 2 1, 3) := by decide +kernel
theorem dX5_neighboursOf_18 : decode cX5_neighboursOf 18 = .ok (.goto (-16), 3) := by decide +kernel
theorem dX5_neighboursOf_21 : decode cX5_neighboursOf 21 = .ok (.iconst 0, 1) := by decide +kernel
theorem dX5_neighboursOf_22 : decode cX5_neighboursOf 22 = .ok (.istore_n 2, 1) := by decide +kernel
theorem dX5_neighboursOf_23 : decode cX5_neighboursOf 23 = .ok (.iconst 0, 1) := by decide +kernel
theorem dX5_neighboursOf_24 : decode cX5_neighboursOf 24 = .ok (.istore_n 3, 1) := by decide +kernel
theorem dX5_neighboursOf_25 : decode cX5_neighboursOf 25 = .ok (.iload_n 3, 1) := by decide +kernel
theorem dX5_neighboursOf_26 : decode cX5_neighboursOf 26 = .ok (.iconst 4, 1) := by decide +kernel
theorem dX5_neighboursOf_27 : decode cX5_neighboursOf 27 = .ok (.if_icmp .ge 99, 3) := by decide +kernel
theorem dX5_neighboursOf_30 : decode cX5_neighboursOf 30 = .ok (.aload_n 0, 1) := by decide +kernel
theorem dX5_neighboursOf_31 : decode cX5_neighboursOf 31 = .ok (.getfield 12, 3) := by decide +kernel
theorem dX5_neighboursOf_34 : decode cX5_neighboursOf 34 = .ok (.getfield 42, 3) := by decide +kernel
theorem dX5_neighboursOf_37 : decode cX5_neighboursOf 37 = .ok (.getfield 46, 3) := by decide +kernel
theorem dX5_neighboursOf_40 : decode cX5_neighboursOf 40 = .ok (.iload_n 1, 1) := by decide +kernel
theorem dX5_neighboursOf_41 : decode cX5_neighboursOf 41 = .ok (.iaload, 1) := by decide +kernel
theorem dX5_neighboursOf_42 : decode cX5_neighboursOf 42 = .ok (.iload_n 3, 1) := by decide +kernel
theorem dX5_neighboursOf_43 : decode cX5_neighboursOf 43 = .ok (.invokestatic 29, 3) := by decide +kernel
theorem dX5_neighboursOf_46 : decode cX5_neighboursOf 46 = .ok (.istore 4, 2) := by decide +kernel
theorem dX5_neighboursOf_48 : decode cX5_neighboursOf 48 = .ok (.iconst 0, 1) := by decide +kernel
theorem dX5_neighboursOf_49 : decode cX5_neighboursOf 49 = .ok (.istore 5, 2) := by decide +kernel
theorem dX5_neighboursOf_51 : decode cX5_neighboursOf 51 = .ok (.iload 5, 2) := by decide +kernel
theorem dX5_neighboursOf_53 : decode cX5_neighboursOf 53 = .ok (.iconst 4, 1) := by decide +kernel
theorem dX5_neighboursOf_54 : decode cX5_neighboursOf 54 = .ok (.if_icmp .ge 66, 3) := by decide +kernel
theorem dX5_neighboursOf_57 : decode cX5_neighboursOf 57 = .ok (.iload 4, 2) := by decide +kernel
theorem dX5_neighboursOf_59 : decode cX5_neighboursOf 59 = .ok (.iload 5, 2) := by decide +kernel
theorem dX5_neighboursOf_61 : decode cX5_neighboursOf 61 = .ok (.invokestatic 29, 3) := by decide +kernel
theorem dX5_neighboursOf_64 : decode cX5_neighboursOf 64 = .ok (.istore 6, 2) := by decide +kernel
theorem dX5_neighboursOf_66 : decode cX5_neighboursOf 66 = .ok (.aload_n 0, 1) := by decide +kernel
theorem dX5_neighboursOf_67 : decode cX5_neighboursOf 67 = .ok (.getfield 12, 3) := by decide +kernel
theorem dX5_neighboursOf_70 : decode cX5_neighboursOf 70 = .ok (.iload 6, 2) := by decide +kernel
theorem dX5_neighboursOf_72 : decode cX5_neighboursOf 72 = .ok (.iload_n 1, 1) := by decide +kernel
theorem dX5_neighboursOf_73 : decode cX5_neighboursOf 73 = .ok (.invokevirtual 51, 3) := by decide +kernel
theorem dX5_neighboursOf_76 : decode cX5_neighboursOf 76 = .ok (.ifCond .eq 38, 3) := by decide +kernel
theorem dX5_neighboursOf_79 : decode cX5_neighboursOf 79 = .ok (.aload_n 0, 1) := by decide +kernel
theorem dX5_neighboursOf_80 : decode cX5_neighboursOf 80 = .ok (.getfield 26, 3) := by decide +kernel
theorem dX5_neighboursOf_83 : decode cX5_neighboursOf 83 = .ok (.aload_n 0, 1) := by decide +kernel
theorem dX5_neighboursOf_84 : decode cX5_neighboursOf 84 = .ok (.getfield 12, 3) := by decide +kernel
theorem dX5_neighboursOf_87 : decode cX5_neighboursOf 87 = .ok (.iload 6, 2) := by decide +kernel
theorem dX5_neighboursOf_89 : decode cX5_neighboursOf 89 = .ok (.invokevirtual 55, 3) := by decide +kernel
theorem dX5_neighboursOf_92 : decode cX5_neighboursOf 92 = .ok (.baload, 1) := by decide +kernel
theorem dX5_neighboursOf_93 : decode cX5_neighboursOf 93 = .ok (.ifCond .ne 21, 3) := by decide +kernel
theorem dX5_neighboursOf_96 : decode cX5_neighboursOf 96 = .ok (.aload_n 0, 1) := by decide +kernel
theorem dX5_neighboursOf_97 : decode cX5_neighboursOf 97 = .ok (.getfield 26, 3) := by decide +kernel
theorem dX5_neighboursOf_100 : decode cX5_neighboursOf 100 = .ok (.aload_n 0, 1) := by decide +kernel
theorem dX5_neighboursOf_101 : decode cX5_neighboursOf 101 = .ok (.getfield 12, 3) := by decide +kernel
theorem dX5_neighboursOf_104 : decode cX5_neighboursOf 104 = .ok (.iload 6, 2) := by decide +kernel
theorem dX5_neighboursOf_106 : decode cX5_neighboursOf 106 = .ok (.invokevirtual 55, 3) := by decide +kernel
theorem dX5_neighboursOf_109 : decode cX5_neighboursOf 109 = .ok (.iconst 1, 1) := by decide +kernel
theorem dX5_neighboursOf_110 : decode cX5_neighboursOf 110 = .ok (.bastore, 1) := by decide +kernel
theorem dX5_neighboursOf_111 : decode cX5_neighboursOf 111 = .ok (.iinc 2 1, 3) := by decide +kernel
theorem dX5_neighboursOf_114 : decode cX5_neighboursOf 114 = .ok (.iinc 5 1, 3) := by decide +kernel
theorem dX5_neighboursOf_117 : decode cX5_neighboursOf 117 = .ok (.goto (-66), 3) := by decide +kernel
theorem dX5_neighboursOf_120 : decode cX5_neighboursOf 120 = .ok (.iinc 3 1, 3) := by decide +kernel
theorem dX5_neighboursOf_123 : decode cX5_neighboursOf 123 = .ok (.goto (-98), 3) := by decide +kernel
theorem dX5_neighboursOf_126 : decode cX5_neighboursOf 126 = .ok (.iload_n 2, 1) := by decide +kernel
theorem dX5_neighboursOf_127 : decode cX5_neighboursOf 127 = .ok (.ireturn, 1) := by decide +kernel
theorem dX5_armsThatTouchNone_0 : decode cX5_armsThatTouchNone 0 = .ok (.iconst 0, 1) := by decide +kernel
theorem dX5_armsThatTouchNone_1 : decode cX5_armsThatTouchNone 1 = .ok (.istore_n 2, 1) := by decide +kernel
theorem dX5_armsThatTouchNone_2 : decode cX5_armsThatTouchNone 2 = .ok (.iconst 0, 1) := by decide +kernel
theorem dX5_armsThatTouchNone_3 : decode cX5_armsThatTouchNone 3 = .ok (.istore_n 3, 1) := by decide +kernel
theorem dX5_armsThatTouchNone_4 : decode cX5_armsThatTouchNone 4 = .ok (.iload_n 3, 1) := by decide +kernel
theorem dX5_armsThatTouchNone_5 : decode cX5_armsThatTouchNone 5 = .ok (.iconst 4, 1) := by decide +kernel
theorem dX5_armsThatTouchNone_6 : decode cX5_armsThatTouchNone 6 = .ok (.if_icmp .ge 40, 3) := by decide +kernel
theorem dX5_armsThatTouchNone_9 : decode cX5_armsThatTouchNone 9 = .ok (.aload_n 0, 1) := by decide +kernel
theorem dX5_armsThatTouchNone_10 : decode cX5_armsThatTouchNone 10 = .ok (.getfield 12, 3) := by decide +kernel
theorem dX5_armsThatTouchNone_13 : decode cX5_armsThatTouchNone 13 = .ok (.getfield 42, 3) := by decide +kernel
theorem dX5_armsThatTouchNone_16 : decode cX5_armsThatTouchNone 16 = .ok (.getfield 46, 3) := by decide +kernel
theorem dX5_armsThatTouchNone_19 : decode cX5_armsThatTouchNone 19 = .ok (.iload_n 1, 1) := by decide +kernel
theorem dX5_armsThatTouchNone_20 : decode cX5_armsThatTouchNone 20 = .ok (.iaload, 1) := by decide +kernel
theorem dX5_armsThatTouchNone_21 : decode cX5_armsThatTouchNone 21 = .ok (.iload_n 3, 1) := by decide +kernel
theorem dX5_armsThatTouchNone_22 : decode cX5_armsThatTouchNone 22 = .ok (.invokestatic 29, 3) := by decide +kernel
theorem dX5_armsThatTouchNone_25 : decode cX5_armsThatTouchNone 25 = .ok (.istore 4, 2) := by decide +kernel
theorem dX5_armsThatTouchNone_27 : decode cX5_armsThatTouchNone 27 = .ok (.aload_n 0, 1) := by decide +kernel
theorem dX5_armsThatTouchNone_28 : decode cX5_armsThatTouchNone 28 = .ok (.iload 4, 2) := by decide +kernel
theorem dX5_armsThatTouchNone_30 : decode cX5_armsThatTouchNone 30 = .ok (.iload_n 1, 1) := by decide +kernel
theorem dX5_armsThatTouchNone_31 : decode cX5_armsThatTouchNone 31 = .ok (.invokevirtual 39, 3) := by decide +kernel
theorem dX5_armsThatTouchNone_34 : decode cX5_armsThatTouchNone 34 = .ok (.ifCond .ne 6, 3) := by decide +kernel
theorem dX5_armsThatTouchNone_37 : decode cX5_armsThatTouchNone 37 = .ok (.iinc 2 1, 3) := by decide +kernel
theorem dX5_armsThatTouchNone_40 : decode cX5_armsThatTouchNone 40 = .ok (.iinc 3 1, 3) := by decide +kernel
theorem dX5_armsThatTouchNone_43 : decode cX5_armsThatTouchNone 43 = .ok (.goto (-39), 3) := by decide +kernel
theorem dX5_armsThatTouchNone_46 : decode cX5_armsThatTouchNone 46 = .ok (.iload_n 2, 1) := by decide +kernel
theorem dX5_armsThatTouchNone_47 : decode cX5_armsThatTouchNone 47 = .ok (.ireturn, 1) := by decide +kernel
theorem dX5_waysToTurn_0 : decode cX5_waysToTurn 0 = .ok (.aload_n 0, 1) := by decide +kernel
theorem dX5_waysToTurn_1 : decode cX5_waysToTurn 1 = .ok (.getfield 12, 3) := by decide +kernel
theorem dX5_waysToTurn_4 : decode cX5_waysToTurn 4 = .ok (.getfield 42, 3) := by decide +kernel
theorem dX5_waysToTurn_7 : decode cX5_waysToTurn 7 = .ok (.astore_n 2, 1) := by decide +kernel
theorem dX5_waysToTurn_8 : decode cX5_waysToTurn 8 = .ok (.iconst 0, 1) := by decide +kernel
theorem dX5_waysToTurn_9 : decode cX5_waysToTurn 9 = .ok (.istore_n 3, 1) := by decide +kernel
theorem dX5_waysToTurn_10 : decode cX5_waysToTurn 10 = .ok (.iconst 0, 1) := by decide +kernel
theorem dX5_waysToTurn_11 : decode cX5_waysToTurn 11 = .ok (.istore 4, 2) := by decide +kernel
theorem dX5_waysToTurn_13 : decode cX5_waysToTurn 13 = .ok (.iload 4, 2) := by decide +kernel
theorem dX5_waysToTurn_15 : decode cX5_waysToTurn 15 = .ok (.iconst 4, 1) := by decide +kernel
theorem dX5_waysToTurn_16 : decode cX5_waysToTurn 16 = .ok (.if_icmp .ge 37, 3) := by decide +kernel
theorem dX5_waysToTurn_19 : decode cX5_waysToTurn 19 = .ok (.aload_n 0, 1) := by decide +kernel
theorem dX5_waysToTurn_20 : decode cX5_waysToTurn 20 = .ok (.getfield 12, 3) := by decide +kernel
theorem dX5_waysToTurn_23 : decode cX5_waysToTurn 23 = .ok (.aload_n 2, 1) := by decide +kernel
theorem dX5_waysToTurn_24 : decode cX5_waysToTurn 24 = .ok (.getfield 59, 3) := by decide +kernel
theorem dX5_waysToTurn_27 : decode cX5_waysToTurn 27 = .ok (.iload_n 1, 1) := by decide +kernel
theorem dX5_waysToTurn_28 : decode cX5_waysToTurn 28 = .ok (.iaload, 1) := by decide +kernel
theorem dX5_waysToTurn_29 : decode cX5_waysToTurn 29 = .ok (.iload 4, 2) := by decide +kernel
theorem dX5_waysToTurn_31 : decode cX5_waysToTurn 31 = .ok (.aload_n 2, 1) := by decide +kernel
theorem dX5_waysToTurn_32 : decode cX5_waysToTurn 32 = .ok (.getfield 46, 3) := by decide +kernel
theorem dX5_waysToTurn_35 : decode cX5_waysToTurn 35 = .ok (.iload_n 1, 1) := by decide +kernel
theorem dX5_waysToTurn_36 : decode cX5_waysToTurn 36 = .ok (.iaload, 1) := by decide +kernel
theorem dX5_waysToTurn_37 : decode cX5_waysToTurn 37 = .ok (.iload_n 1, 1) := by decide +kernel
theorem dX5_waysToTurn_38 : decode cX5_waysToTurn 38 = .ok (.invokevirtual 62, 3) := by decide +kernel
theorem dX5_waysToTurn_41 : decode cX5_waysToTurn 41 = .ok (.ifCond .ne 6, 3) := by decide +kernel
theorem dX5_waysToTurn_44 : decode cX5_waysToTurn 44 = .ok (.iinc 3 1, 3) := by decide +kernel
theorem dX5_waysToTurn_47 : decode cX5_waysToTurn 47 = .ok (.iinc 4 1, 3) := by decide +kernel
theorem dX5_waysToTurn_50 : decode cX5_waysToTurn 50 = .ok (.goto (-37), 3) := by decide +kernel
theorem dX5_waysToTurn_53 : decode cX5_waysToTurn 53 = .ok (.iload_n 3, 1) := by decide +kernel
theorem dX5_waysToTurn_54 : decode cX5_waysToTurn 54 = .ok (.ireturn, 1) := by decide +kernel
theorem dX5_touches_0 : decode cX5_touches 0 = .ok (.iconst 0, 1) := by decide +kernel
theorem dX5_touches_1 : decode cX5_touches 1 = .ok (.istore_n 1, 1) := by decide +kernel
theorem dX5_touches_2 : decode cX5_touches 2 = .ok (.iconst 0, 1) := by decide +kernel
theorem dX5_touches_3 : decode cX5_touches 3 = .ok (.istore_n 2, 1) := by decide +kernel
theorem dX5_touches_4 : decode cX5_touches 4 = .ok (.iload_n 2, 1) := by decide +kernel
theorem dX5_touches_5 : decode cX5_touches 5 = .ok (.aload_n 0, 1) := by decide +kernel
theorem dX5_touches_6 : decode cX5_touches 6 = .ok (.getfield 12, 3) := by decide +kernel
theorem dX5_touches_9 : decode cX5_touches 9 = .ok (.getfield 42, 3) := by decide +kernel
theorem dX5_touches_12 : decode cX5_touches 12 = .ok (.getfield 66, 3) := by decide +kernel
theorem dX5_touches_15 : decode cX5_touches 15 = .ok (.if_icmp .ge 29, 3) := by decide +kernel
theorem dX5_touches_18 : decode cX5_touches 18 = .ok (.iload_n 1, 1) := by decide +kernel
theorem dX5_touches_19 : decode cX5_touches 19 = .ok (.aload_n 0, 1) := by decide +kernel
theorem dX5_touches_20 : decode cX5_touches 20 = .ok (.aload_n 0, 1) := by decide +kernel
theorem dX5_touches_21 : decode cX5_touches 21 = .ok (.getfield 12, 3) := by decide +kernel
theorem dX5_touches_24 : decode cX5_touches 24 = .ok (.getfield 42, 3) := by decide +kernel
theorem dX5_touches_27 : decode cX5_touches 27 = .ok (.getfield 46, 3) := by decide +kernel
theorem dX5_touches_30 : decode cX5_touches 30 = .ok (.iload_n 2, 1) := by decide +kernel
theorem dX5_touches_31 : decode cX5_touches 31 = .ok (.iaload, 1) := by decide +kernel
theorem dX5_touches_32 : decode cX5_touches 32 = .ok (.iload_n 2, 1) := by decide +kernel
theorem dX5_touches_33 : decode cX5_touches 33 = .ok (.invokevirtual 70, 3) := by decide +kernel
theorem dX5_touches_36 : decode cX5_touches 36 = .ok (.iadd, 1) := by decide +kernel
theorem dX5_touches_37 : decode cX5_touches 37 = .ok (.istore_n 1, 1) := by decide +kernel
theorem dX5_touches_38 : decode cX5_touches 38 = .ok (.iinc 2 1, 3) := by decide +kernel
theorem dX5_touches_41 : decode cX5_touches 41 = .ok (.goto (-37), 3) := by decide +kernel
theorem dX5_touches_44 : decode cX5_touches 44 = .ok (.iload_n 1, 1) := by decide +kernel
theorem dX5_touches_45 : decode cX5_touches 45 = .ok (.iconst 2, 1) := by decide +kernel
theorem dX5_touches_46 : decode cX5_touches 46 = .ok (.idiv, 1) := by decide +kernel
theorem dX5_touches_47 : decode cX5_touches 47 = .ok (.ireturn, 1) := by decide +kernel
theorem dX5_touchesOfLikeColours_0 : decode cX5_touchesOfLikeColours 0 = .ok (.iconst 0, 1) := by decide +kernel
theorem dX5_touchesOfLikeColours_1 : decode cX5_touchesOfLikeColours 1 = .ok (.istore_n 1, 1) := by decide +kernel
theorem dX5_touchesOfLikeColours_2 : decode cX5_touchesOfLikeColours 2 = .ok (.iconst 0, 1) := by decide +kernel
theorem dX5_touchesOfLikeColours_3 : decode cX5_touchesOfLikeColours 3 = .ok (.istore_n 2, 1) := by decide +kernel
theorem dX5_touchesOfLikeColours_4 : decode cX5_touchesOfLikeColours 4 = .ok (.iload_n 2, 1) := by decide +kernel
theorem dX5_touchesOfLikeColours_5 : decode cX5_touchesOfLikeColours 5 = .ok (.aload_n 0, 1) := by decide +kernel
theorem dX5_touchesOfLikeColours_6 : decode cX5_touchesOfLikeColours 6 = .ok (.getfield 12, 3) := by decide +kernel
theorem dX5_touchesOfLikeColours_9 : decode cX5_touchesOfLikeColours 9 = .ok (.getfield 42, 3) := by decide +kernel
theorem dX5_touchesOfLikeColours_12 : decode cX5_touchesOfLikeColours 12 = .ok (.getfield 66, 3) := by decide +kernel
theorem dX5_touchesOfLikeColours_15 : decode cX5_touchesOfLikeColours 15 = .ok (.if_icmp .ge 31, 3) := by decide +kernel
theorem dX5_touchesOfLikeColours_18 : decode cX5_touchesOfLikeColours 18 = .ok (.iconst 0, 1) := by decide +kernel
theorem dX5_touchesOfLikeColours_19 : decode cX5_touchesOfLikeColours 19 = .ok (.istore_n 3, 1) := by decide +kernel
theorem dX5_touchesOfLikeColours_20 : decode cX5_touchesOfLikeColours 20 = .ok (.iload_n 3, 1) := by decide +kernel
theorem dX5_touchesOfLikeColours_21 : decode cX5_touchesOfLikeColours 21 = .ok (.iconst 4, 1) := by decide +kernel
theorem dX5_touchesOfLikeColours_22 : decode cX5_touchesOfLikeColours 22 = .ok (.if_icmp .ge 18, 3) := by decide +kernel
theorem dX5_touchesOfLikeColours_25 : decode cX5_touchesOfLikeColours 25 = .ok (.iload_n 1, 1) := by decide +kernel
theorem dX5_touchesOfLikeColours_26 : decode cX5_touchesOfLikeColours 26 = .ok (.aload_n 0, 1) := by decide +kernel
theorem dX5_touchesOfLikeColours_27 : decode cX5_touchesOfLikeColours 27 = .ok (.iload_n 2, 1) := by decide +kernel
theorem dX5_touchesOfLikeColours_28 : decode cX5_touchesOfLikeColours 28 = .ok (.iload_n 3, 1) := by decide +kernel
theorem dX5_touchesOfLikeColours_29 : decode cX5_touchesOfLikeColours 29 = .ok (.invokevirtual 73, 3) := by decide +kernel
theorem dX5_touchesOfLikeColours_32 : decode cX5_touchesOfLikeColours 32 = .ok (.iadd, 1) := by decide +kernel
theorem dX5_touchesOfLikeColours_33 : decode cX5_touchesOfLikeColours 33 = .ok (.istore_n 1, 1) := by decide +kernel
theorem dX5_touchesOfLikeColours_34 : decode cX5_touchesOfLikeColours 34 = .ok (.iinc 3 1, 3) := by decide +kernel
theorem dX5_touchesOfLikeColours_37 : decode cX5_touchesOfLikeColours 37 = .ok (.goto (-17), 3) := by decide +kernel
theorem dX5_touchesOfLikeColours_40 : decode cX5_touchesOfLikeColours 40 = .ok (.iinc 2 1, 3) := by decide +kernel
theorem dX5_touchesOfLikeColours_43 : decode cX5_touchesOfLikeColours 43 = .ok (.goto (-39), 3) := by decide +kernel
theorem dX5_touchesOfLikeColours_46 : decode cX5_touchesOfLikeColours 46 = .ok (.iload_n 1, 1) := by decide +kernel
theorem dX5_touchesOfLikeColours_47 : decode cX5_touchesOfLikeColours 47 = .ok (.iconst 2, 1) := by decide +kernel
theorem dX5_touchesOfLikeColours_48 : decode cX5_touchesOfLikeColours 48 = .ok (.idiv, 1) := by decide +kernel
theorem dX5_touchesOfLikeColours_49 : decode cX5_touchesOfLikeColours 49 = .ok (.ireturn, 1) := by decide +kernel
theorem dX5_crossesThatTouchNone_0 : decode cX5_crossesThatTouchNone 0 = .ok (.iconst 0, 1) := by decide +kernel
theorem dX5_crossesThatTouchNone_1 : decode cX5_crossesThatTouchNone 1 = .ok (.istore_n 1, 1) := by decide +kernel
theorem dX5_crossesThatTouchNone_2 : decode cX5_crossesThatTouchNone 2 = .ok (.iconst 0, 1) := by decide +kernel
theorem dX5_crossesThatTouchNone_3 : decode cX5_crossesThatTouchNone 3 = .ok (.istore_n 2, 1) := by decide +kernel
theorem dX5_crossesThatTouchNone_4 : decode cX5_crossesThatTouchNone 4 = .ok (.iload_n 2, 1) := by decide +kernel
theorem dX5_crossesThatTouchNone_5 : decode cX5_crossesThatTouchNone 5 = .ok (.aload_n 0, 1) := by decide +kernel
theorem dX5_crossesThatTouchNone_6 : decode cX5_crossesThatTouchNone 6 = .ok (.getfield 12, 3) := by decide +kernel
theorem dX5_crossesThatTouchNone_9 : decode cX5_crossesThatTouchNone 9 = .ok (.getfield 42, 3) := by decide +kernel
theorem dX5_crossesThatTouchNone_12 : decode cX5_crossesThatTouchNone 12 = .ok (.getfield 66, 3) := by decide +kernel
theorem dX5_crossesThatTouchNone_15 : decode cX5_crossesThatTouchNone 15 = .ok (.if_icmp .ge 32, 3) := by decide +kernel
theorem dX5_crossesThatTouchNone_18 : decode cX5_crossesThatTouchNone 18 = .ok (.aload_n 0, 1) := by decide +kernel
theorem dX5_crossesThatTouchNone_19 : decode cX5_crossesThatTouchNone 19 = .ok (.aload_n 0, 1) := by decide +kernel
theorem dX5_crossesThatTouchNone_20 : decode cX5_crossesThatTouchNone 20 = .ok (.getfield 12, 3) := by decide +kernel
theorem dX5_crossesThatTouchNone_23 : decode cX5_crossesThatTouchNone 23 = .ok (.getfield 42, 3) := by decide +kernel
theorem dX5_crossesThatTouchNone_26 : decode cX5_crossesThatTouchNone 26 = .ok (.getfield 46, 3) := by decide +kernel
theorem dX5_crossesThatTouchNone_29 : decode cX5_crossesThatTouchNone 29 = .ok (.iload_n 2, 1) := by decide +kernel
theorem dX5_crossesThatTouchNone_30 : decode cX5_crossesThatTouchNone 30 = .ok (.iaload, 1) := by decide +kernel
theorem dX5_crossesThatTouchNone_31 : decode cX5_crossesThatTouchNone 31 = .ok (.iload_n 2, 1) := by decide +kernel
theorem dX5_crossesThatTouchNone_32 : decode cX5_crossesThatTouchNone 32 = .ok (.invokevirtual 70, 3) := by decide +kernel
theorem dX5_crossesThatTouchNone_35 : decode cX5_crossesThatTouchNone 35 = .ok (.ifCond .ne 6, 3) := by decide +kernel
theorem dX5_crossesThatTouchNone_38 : decode cX5_crossesThatTouchNone 38 = .ok (.iinc 1 1, 3) := by decide +kernel
theorem dX5_crossesThatTouchNone_41 : decode cX5_crossesThatTouchNone 41 = .ok (.iinc 2 1, 3) := by decide +kernel
theorem dX5_crossesThatTouchNone_44 : decode cX5_crossesThatTouchNone 44 = .ok (.goto (-40), 3) := by decide +kernel
theorem dX5_crossesThatTouchNone_47 : decode cX5_crossesThatTouchNone 47 = .ok (.iload_n 1, 1) := by decide +kernel
theorem dX5_crossesThatTouchNone_48 : decode cX5_crossesThatTouchNone 48 = .ok (.ireturn, 1) := by decide +kernel
theorem dX5_countRegions_0 : decode cX5_countRegions 0 = .ok (.aload_n 0, 1) := by decide +kernel
theorem dX5_countRegions_1 : decode cX5_countRegions 1 = .ok (.invokevirtual 76, 3) := by decide +kernel
theorem dX5_countRegions_4 : decode cX5_countRegions 4 = .ok (.iconst 0, 1) := by decide +kernel
theorem dX5_countRegions_5 : decode cX5_countRegions 5 = .ok (.istore_n 2, 1) := by decide +kernel
theorem dX5_countRegions_6 : decode cX5_countRegions 6 = .ok (.iconst 0, 1) := by decide +kernel
theorem dX5_countRegions_7 : decode cX5_countRegions 7 = .ok (.istore_n 3, 1) := by decide +kernel
theorem dX5_countRegions_8 : decode cX5_countRegions 8 = .ok (.iload_n 3, 1) := by decide +kernel
theorem dX5_countRegions_9 : decode cX5_countRegions 9 = .ok (.sipush 150, 3) := by decide +kernel
theorem dX5_countRegions_12 : decode cX5_countRegions 12 = .ok (.if_icmp .ge 40, 3) := by decide +kernel
theorem dX5_countRegions_15 : decode cX5_countRegions 15 = .ok (.aload_n 0, 1) := by decide +kernel
theorem dX5_countRegions_16 : decode cX5_countRegions 16 = .ok (.getfield 18, 3) := by decide +kernel
theorem dX5_countRegions_19 : decode cX5_countRegions 19 = .ok (.iload_n 3, 1) := by decide +kernel
theorem dX5_countRegions_20 : decode cX5_countRegions 20 = .ok (.baload, 1) := by decide +kernel
theorem dX5_countRegions_21 : decode cX5_countRegions 21 = .ok (.ifCond .ne 25, 3) := by decide +kernel
theorem dX5_countRegions_24 : decode cX5_countRegions 24 = .ok (.aload_n 0, 1) := by decide +kernel
theorem dX5_countRegions_25 : decode cX5_countRegions 25 = .ok (.getfield 12, 3) := by decide +kernel
theorem dX5_countRegions_28 : decode cX5_countRegions 28 = .ok (.iload_n 3, 1) := by decide +kernel
theorem dX5_countRegions_29 : decode cX5_countRegions 29 = .ok (.invokevirtual 35, 3) := by decide +kernel
theorem dX5_countRegions_32 : decode cX5_countRegions 32 = .ok (.iload_n 1, 1) := by decide +kernel
theorem dX5_countRegions_33 : decode cX5_countRegions 33 = .ok (.if_icmp .ne 13, 3) := by decide +kernel
theorem dX5_countRegions_36 : decode cX5_countRegions 36 = .ok (.aload_n 0, 1) := by decide +kernel
theorem dX5_countRegions_37 : decode cX5_countRegions 37 = .ok (.iload_n 3, 1) := by decide +kernel
theorem dX5_countRegions_38 : decode cX5_countRegions 38 = .ok (.iload_n 1, 1) := by decide +kernel
theorem dX5_countRegions_39 : decode cX5_countRegions 39 = .ok (.invokevirtual 79, 3) := by decide +kernel
theorem dX5_countRegions_42 : decode cX5_countRegions 42 = .ok (.pop, 1) := by decide +kernel
theorem dX5_countRegions_43 : decode cX5_countRegions 43 = .ok (.iinc 2 1, 3) := by decide +kernel
theorem dX5_countRegions_46 : decode cX5_countRegions 46 = .ok (.iinc 3 1, 3) := by decide +kernel
theorem dX5_countRegions_49 : decode cX5_countRegions 49 = .ok (.goto (-41), 3) := by decide +kernel
theorem dX5_countRegions_52 : decode cX5_countRegions 52 = .ok (.iload_n 2, 1) := by decide +kernel
theorem dX5_countRegions_53 : decode cX5_countRegions 53 = .ok (.ireturn, 1) := by decide +kernel
theorem dX5_greatestFreeRegion_0 : decode cX5_greatestFreeRegion 0 = .ok (.aload_n 0, 1) := by decide +kernel
theorem dX5_greatestFreeRegion_1 : decode cX5_greatestFreeRegion 1 = .ok (.invokevirtual 76, 3) := by decide +kernel
theorem dX5_greatestFreeRegion_4 : decode cX5_greatestFreeRegion 4 = .ok (.iconst 0, 1) := by decide +kernel
theorem dX5_greatestFreeRegion_5 : decode cX5_greatestFreeRegion 5 = .ok (.istore_n 1, 1) := by decide +kernel
theorem dX5_greatestFreeRegion_6 : decode cX5_greatestFreeRegion 6 = .ok (.iconst 0, 1) := by decide +kernel
theorem dX5_greatestFreeRegion_7 : decode cX5_greatestFreeRegion 7 = .ok (.istore_n 2, 1) := by decide +kernel
theorem dX5_greatestFreeRegion_8 : decode cX5_greatestFreeRegion 8 = .ok (.iload_n 2, 1) := by decide +kernel
theorem dX5_greatestFreeRegion_9 : decode cX5_greatestFreeRegion 9 = .ok (.sipush 150, 3) := by decide +kernel
theorem dX5_greatestFreeRegion_12 : decode cX5_greatestFreeRegion 12 = .ok (.if_icmp .ge 40, 3) := by decide +kernel
theorem dX5_greatestFreeRegion_15 : decode cX5_greatestFreeRegion 15 = .ok (.aload_n 0, 1) := by decide +kernel
theorem dX5_greatestFreeRegion_16 : decode cX5_greatestFreeRegion 16 = .ok (.getfield 18, 3) := by decide +kernel
theorem dX5_greatestFreeRegion_19 : decode cX5_greatestFreeRegion 19 = .ok (.iload_n 2, 1) := by decide +kernel
theorem dX5_greatestFreeRegion_20 : decode cX5_greatestFreeRegion 20 = .ok (.baload, 1) := by decide +kernel
theorem dX5_greatestFreeRegion_21 : decode cX5_greatestFreeRegion 21 = .ok (.ifCond .ne 25, 3) := by decide +kernel
theorem dX5_greatestFreeRegion_24 : decode cX5_greatestFreeRegion 24 = .ok (.aload_n 0, 1) := by decide +kernel
theorem dX5_greatestFreeRegion_25 : decode cX5_greatestFreeRegion 25 = .ok (.getfield 12, 3) := by decide +kernel
theorem dX5_greatestFreeRegion_28 : decode cX5_greatestFreeRegion 28 = .ok (.iload_n 2, 1) := by decide +kernel
theorem dX5_greatestFreeRegion_29 : decode cX5_greatestFreeRegion 29 = .ok (.invokevirtual 35, 3) := by decide +kernel
theorem dX5_greatestFreeRegion_32 : decode cX5_greatestFreeRegion 32 = .ok (.ifCond .eq 14, 3) := by decide +kernel
theorem dX5_greatestFreeRegion_35 : decode cX5_greatestFreeRegion 35 = .ok (.iload_n 1, 1) := by decide +kernel
theorem dX5_greatestFreeRegion_36 : decode cX5_greatestFreeRegion 36 = .ok (.aload_n 0, 1) := by decide +kernel
theorem dX5_greatestFreeRegion_37 : decode cX5_greatestFreeRegion 37 = .ok (.iload_n 2, 1) := by decide +kernel
theorem dX5_greatestFreeRegion_38 : decode cX5_greatestFreeRegion 38 = .ok (.iconst 1, 1) := by decide +kernel
theorem dX5_greatestFreeRegion_39 : decode cX5_greatestFreeRegion 39 = .ok (.invokevirtual 79, 3) := by decide +kernel
theorem dX5_greatestFreeRegion_42 : decode cX5_greatestFreeRegion 42 = .ok (.invokestatic 83, 3) := by decide +kernel
theorem dX5_greatestFreeRegion_45 : decode cX5_greatestFreeRegion 45 = .ok (.istore_n 1, 1) := by decide +kernel
theorem dX5_greatestFreeRegion_46 : decode cX5_greatestFreeRegion 46 = .ok (.iinc 2 1, 3) := by decide +kernel
theorem dX5_greatestFreeRegion_49 : decode cX5_greatestFreeRegion 49 = .ok (.goto (-41), 3) := by decide +kernel
theorem dX5_greatestFreeRegion_52 : decode cX5_greatestFreeRegion 52 = .ok (.iload_n 1, 1) := by decide +kernel
theorem dX5_greatestFreeRegion_53 : decode cX5_greatestFreeRegion 53 = .ok (.ireturn, 1) := by decide +kernel
theorem dX5_countPlaces_0 : decode cX5_countPlaces 0 = .ok (.iconst 0, 1) := by decide +kernel
theorem dX5_countPlaces_1 : decode cX5_countPlaces 1 = .ok (.istore_n 2, 1) := by decide +kernel
theorem dX5_countPlaces_2 : decode cX5_countPlaces 2 = .ok (.iconst 0, 1) := by decide +kernel
theorem dX5_countPlaces_3 : decode cX5_countPlaces 3 = .ok (.istore_n 3, 1) := by decide +kernel
theorem dX5_countPlaces_4 : decode cX5_countPlaces 4 = .ok (.iload_n 3, 1) := by decide +kernel
theorem dX5_countPlaces_5 : decode cX5_countPlaces 5 = .ok (.sipush 150, 3) := by decide +kernel
theorem dX5_countPlaces_8 : decode cX5_countPlaces 8 = .ok (.if_icmp .ge 42, 3) := by decide +kernel
theorem dX5_countPlaces_11 : decode cX5_countPlaces 11 = .ok (.iconst 0, 1) := by decide +kernel
theorem dX5_countPlaces_12 : decode cX5_countPlaces 12 = .ok (.istore 4, 2) := by decide +kernel
theorem dX5_countPlaces_14 : decode cX5_countPlaces 14 = .ok (.iload 4, 2) := by decide +kernel
theorem dX5_countPlaces_16 : decode cX5_countPlaces 16 = .ok (.iconst 4, 1) := by decide +kernel
theorem dX5_countPlaces_17 : decode cX5_countPlaces 17 = .ok (.if_icmp .ge 27, 3) := by decide +kernel
theorem dX5_countPlaces_20 : decode cX5_countPlaces 20 = .ok (.aload_n 0, 1) := by decide +kernel
theorem dX5_countPlaces_21 : decode cX5_countPlaces 21 = .ok (.getfield 12, 3) := by decide +kernel
theorem dX5_countPlaces_24 : decode cX5_countPlaces 24 = .ok (.iload_n 1, 1) := by decide +kernel
theorem dX5_countPlaces_25 : decode cX5_countPlaces 25 = .ok (.iload 4, 2) := by decide +kernel
theorem dX5_countPlaces_27 : decode cX5_countPlaces 27 = .ok (.iload_n 3, 1) := by decide +kernel
theorem dX5_countPlaces_28 : decode cX5_countPlaces 28 = .ok (.iconst (-1), 1) := by decide +kernel
theorem dX5_countPlaces_29 : decode cX5_countPlaces 29 = .ok (.invokevirtual 88, 3) := by decide +kernel
theorem dX5_countPlaces_32 : decode cX5_countPlaces 32 = .ok (.ifCond .ne 6, 3) := by decide +kernel
theorem dX5_countPlaces_35 : decode cX5_countPlaces 35 = .ok (.iinc 2 1, 3) := by decide +kernel
theorem dX5_countPlaces_38 : decode cX5_countPlaces 38 = .ok (.iinc 4 1, 3) := by decide +kernel
theorem dX5_countPlaces_41 : decode cX5_countPlaces 41 = .ok (.goto (-27), 3) := by decide +kernel
theorem dX5_countPlaces_44 : decode cX5_countPlaces 44 = .ok (.iinc 3 1, 3) := by decide +kernel
theorem dX5_countPlaces_47 : decode cX5_countPlaces 47 = .ok (.goto (-43), 3) := by decide +kernel
theorem dX5_countPlaces_50 : decode cX5_countPlaces 50 = .ok (.iload_n 2, 1) := by decide +kernel
theorem dX5_countPlaces_51 : decode cX5_countPlaces 51 = .ok (.ireturn, 1) := by decide +kernel
theorem dX5_placeOfMostTouches_0 : decode cX5_placeOfMostTouches 0 = .ok (.bipush (-5), 2) := by decide +kernel
theorem dX5_placeOfMostTouches_2 : decode cX5_placeOfMostTouches 2 = .ok (.istore_n 2, 1) := by decide +kernel
theorem dX5_placeOfMostTouches_3 : decode cX5_placeOfMostTouches 3 = .ok (.iconst (-1), 1) := by decide +kernel
theorem dX5_placeOfMostTouches_4 : decode cX5_placeOfMostTouches 4 = .ok (.istore_n 3, 1) := by decide +kernel
theorem dX5_placeOfMostTouches_5 : decode cX5_placeOfMostTouches 5 = .ok (.iconst 0, 1) := by decide +kernel
theorem dX5_placeOfMostTouches_6 : decode cX5_placeOfMostTouches 6 = .ok (.istore 4, 2) := by decide +kernel
theorem dX5_placeOfMostTouches_8 : decode cX5_placeOfMostTouches 8 = .ok (.iload 4, 2) := by decide +kernel
theorem dX5_placeOfMostTouches_10 : decode cX5_placeOfMostTouches 10 = .ok (.sipush 600, 3) := by decide +kernel
theorem dX5_placeOfMostTouches_13 : decode cX5_placeOfMostTouches 13 = .ok (.if_icmp .ge 54, 3) := by decide +kernel
theorem dX5_placeOfMostTouches_16 : decode cX5_placeOfMostTouches 16 = .ok (.iload 4, 2) := by decide +kernel
theorem dX5_placeOfMostTouches_18 : decode cX5_placeOfMostTouches 18 = .ok (.iconst 4, 1) := by decide +kernel
theorem dX5_placeOfMostTouches_19 : decode cX5_placeOfMostTouches 19 = .ok (.idiv, 1) := by decide +kernel
theorem dX5_placeOfMostTouches_20 : decode cX5_placeOfMostTouches 20 = .ok (.istore 5, 2) := by decide +kernel
theorem dX5_placeOfMostTouches_22 : decode cX5_placeOfMostTouches 22 = .ok (.aload_n 0, 1) := by decide +kernel
theorem dX5_placeOfMostTouches_23 : decode cX5_placeOfMostTouches 23 = .ok (.getfield 12, 3) := by decide +kernel
theorem dX5_placeOfMostTouches_26 : decode cX5_placeOfMostTouches 26 = .ok (.iload_n 1, 1) := by decide +kernel
theorem dX5_placeOfMostTouches_27 : decode cX5_placeOfMostTouches 27 = .ok (.iload 4, 2) := by decide +kernel
theorem dX5_placeOfMostTouches_29 : decode cX5_placeOfMostTouches 29 = .ok (.iconst 4, 1) := by decide +kernel
theorem dX5_placeOfMostTouches_30 : decode cX5_placeOfMostTouches 30 = .ok (.irem, 1) := by decide +kernel
theorem dX5_placeOfMostTouches_31 : decode cX5_placeOfMostTouches 31 = .ok (.iload 5, 2) := by decide +kernel
theorem dX5_placeOfMostTouches_33 : decode cX5_placeOfMostTouches 33 = .ok (.iconst (-1), 1) := by decide +kernel
theorem dX5_placeOfMostTouches_34 : decode cX5_placeOfMostTouches 34 = .ok (.invokevirtual 88, 3) := by decide +kernel
theorem dX5_placeOfMostTouches_37 : decode cX5_placeOfMostTouches 37 = .ok (.ifCond .ne 24, 3) := by decide +kernel
theorem dX5_placeOfMostTouches_40 : decode cX5_placeOfMostTouches 40 = .ok (.aload_n 0, 1) := by decide +kernel
theorem dX5_placeOfMostTouches_41 : decode cX5_placeOfMostTouches 41 = .ok (.iload 5, 2) := by decide +kernel
theorem dX5_placeOfMostTouches_43 : decode cX5_placeOfMostTouches 43 = .ok (.iconst (-1), 1) := by decide +kernel
theorem dX5_placeOfMostTouches_44 : decode cX5_placeOfMostTouches 44 = .ok (.invokevirtual 70, 3) := by decide +kernel
theorem dX5_placeOfMostTouches_47 : decode cX5_placeOfMostTouches 47 = .ok (.istore 6, 2) := by decide +kernel
theorem dX5_placeOfMostTouches_49 : decode cX5_placeOfMostTouches 49 = .ok (.iload 6, 2) := by decide +kernel
theorem dX5_placeOfMostTouches_51 : decode cX5_placeOfMostTouches 51 = .ok (.iload_n 3, 1) := by decide +kernel
theorem dX5_placeOfMostTouches_52 : decode cX5_placeOfMostTouches 52 = .ok (.if_icmp .le 9, 3) := by decide +kernel
theorem dX5_placeOfMostTouches_55 : decode cX5_placeOfMostTouches 55 = .ok (.iload 6, 2) := by decide +kernel
theorem dX5_placeOfMostTouches_57 : decode cX5_placeOfMostTouches 57 = .ok (.istore_n 3, 1) := by decide +kernel
theorem dX5_placeOfMostTouches_58 : decode cX5_placeOfMostTouches 58 = .ok (.iload 4, 2) := by decide +kernel
theorem dX5_placeOfMostTouches_60 : decode cX5_placeOfMostTouches 60 = .ok (.istore_n 2, 1) := by decide +kernel
theorem dX5_placeOfMostTouches_61 : decode cX5_placeOfMostTouches 61 = .ok (.iinc 4 1, 3) := by decide +kernel
theorem dX5_placeOfMostTouches_64 : decode cX5_placeOfMostTouches 64 = .ok (.goto (-56), 3) := by decide +kernel
theorem dX5_placeOfMostTouches_67 : decode cX5_placeOfMostTouches 67 = .ok (.iload_n 2, 1) := by decide +kernel
theorem dX5_placeOfMostTouches_68 : decode cX5_placeOfMostTouches 68 = .ok (.ireturn, 1) := by decide +kernel
theorem dX5_countShifts_0 : decode cX5_countShifts 0 = .ok (.iconst 0, 1) := by decide +kernel
theorem dX5_countShifts_1 : decode cX5_countShifts 1 = .ok (.istore_n 1, 1) := by decide +kernel
theorem dX5_countShifts_2 : decode cX5_countShifts 2 = .ok (.iconst 0, 1) := by decide +kernel
theorem dX5_countShifts_3 : decode cX5_countShifts 3 = .ok (.istore_n 2, 1) := by decide +kernel
theorem dX5_countShifts_4 : decode cX5_countShifts 4 = .ok (.iload_n 2, 1) := by decide +kernel
theorem dX5_countShifts_5 : decode cX5_countShifts 5 = .ok (.sipush 150, 3) := by decide +kernel
theorem dX5_countShifts_8 : decode cX5_countShifts 8 = .ok (.if_icmp .ge 21, 3) := by decide +kernel
theorem dX5_countShifts_11 : decode cX5_countShifts 11 = .ok (.aload_n 0, 1) := by decide +kernel
theorem dX5_countShifts_12 : decode cX5_countShifts 12 = .ok (.iload_n 2, 1) := by decide +kernel
theorem dX5_countShifts_13 : decode cX5_countShifts 13 = .ok (.iconst 0, 1) := by decide +kernel
theorem dX5_countShifts_14 : decode cX5_countShifts 14 = .ok (.invokevirtual 92, 3) := by decide +kernel
theorem dX5_countShifts_17 : decode cX5_countShifts 17 = .ok (.ifCond .eq 6, 3) := by decide +kernel
theorem dX5_countShifts_20 : decode cX5_countShifts 20 = .ok (.iinc 1 1, 3) := by decide +kernel
theorem dX5_countShifts_23 : decode cX5_countShifts 23 = .ok (.iinc 2 1, 3) := by decide +kernel
theorem dX5_countShifts_26 : decode cX5_countShifts 26 = .ok (.goto (-22), 3) := by decide +kernel
theorem dX5_countShifts_29 : decode cX5_countShifts 29 = .ok (.iload_n 1, 1) := by decide +kernel
theorem dX5_countShifts_30 : decode cX5_countShifts 30 = .ok (.ireturn, 1) := by decide +kernel
theorem dX5_firstShift_0 : decode cX5_firstShift 0 = .ok (.iload_n 1, 1) := by decide +kernel
theorem dX5_firstShift_1 : decode cX5_firstShift 1 = .ok (.istore_n 3, 1) := by decide +kernel
theorem dX5_firstShift_2 : decode cX5_firstShift 2 = .ok (.iload_n 3, 1) := by decide +kernel
theorem dX5_firstShift_3 : decode cX5_firstShift 3 = .ok (.sipush 150, 3) := by decide +kernel
theorem dX5_firstShift_6 : decode cX5_firstShift 6 = .ok (.if_icmp .ge 20, 3) := by decide +kernel
theorem dX5_firstShift_9 : decode cX5_firstShift 9 = .ok (.aload_n 0, 1) := by decide +kernel
theorem dX5_firstShift_10 : decode cX5_firstShift 10 = .ok (.iload_n 3, 1) := by decide +kernel
theorem dX5_firstShift_11 : decode cX5_firstShift 11 = .ok (.iload_n 2, 1) := by decide +kernel
theorem dX5_firstShift_12 : decode cX5_firstShift 12 = .ok (.invokevirtual 92, 3) := by decide +kernel
theorem dX5_firstShift_15 : decode cX5_firstShift 15 = .ok (.ifCond .eq 5, 3) := by decide +kernel
theorem dX5_firstShift_18 : decode cX5_firstShift 18 = .ok (.iload_n 3, 1) := by decide +kernel
theorem dX5_firstShift_19 : decode cX5_firstShift 19 = .ok (.ireturn, 1) := by decide +kernel
theorem dX5_firstShift_20 : decode cX5_firstShift 20 = .ok (.iinc 3 1, 3) := by decide +kernel
theorem dX5_firstShift_23 : decode cX5_firstShift 23 = .ok (.goto (-21), 3) := by decide +kernel
theorem dX5_firstShift_26 : decode cX5_firstShift 26 = .ok (.bipush (-5), 2) := by decide +kernel
theorem dX5_firstShift_28 : decode cX5_firstShift 28 = .ok (.ireturn, 1) := by decide +kernel
theorem dX5_comesUponItself_0 : decode cX5_comesUponItself 0 = .ok (.iconst 0, 1) := by decide +kernel
theorem dX5_comesUponItself_1 : decode cX5_comesUponItself 1 = .ok (.istore_n 3, 1) := by decide +kernel
theorem dX5_comesUponItself_2 : decode cX5_comesUponItself 2 = .ok (.iload_n 3, 1) := by decide +kernel
theorem dX5_comesUponItself_3 : decode cX5_comesUponItself 3 = .ok (.aload_n 0, 1) := by decide +kernel
theorem dX5_comesUponItself_4 : decode cX5_comesUponItself 4 = .ok (.getfield 12, 3) := by decide +kernel
theorem dX5_comesUponItself_7 : decode cX5_comesUponItself 7 = .ok (.getfield 42, 3) := by decide +kernel
theorem dX5_comesUponItself_10 : decode cX5_comesUponItself 10 = .ok (.getfield 66, 3) := by decide +kernel
theorem dX5_comesUponItself_13 : decode cX5_comesUponItself 13 = .ok (.if_icmp .ge 99, 3) := by decide +kernel
theorem dX5_comesUponItself_16 : decode cX5_comesUponItself 16 = .ok (.aload_n 0, 1) := by decide +kernel
theorem dX5_comesUponItself_17 : decode cX5_comesUponItself 17 = .ok (.getfield 12, 3) := by decide +kernel
theorem dX5_comesUponItself_20 : decode cX5_comesUponItself 20 = .ok (.getfield 42, 3) := by decide +kernel
theorem dX5_comesUponItself_23 : decode cX5_comesUponItself 23 = .ok (.getfield 46, 3) := by decide +kernel
theorem dX5_comesUponItself_26 : decode cX5_comesUponItself 26 = .ok (.iload_n 3, 1) := by decide +kernel
theorem dX5_comesUponItself_27 : decode cX5_comesUponItself 27 = .ok (.iaload, 1) := by decide +kernel
theorem dX5_comesUponItself_28 : decode cX5_comesUponItself 28 = .ok (.istore 4, 2) := by decide +kernel
theorem dX5_comesUponItself_30 : decode cX5_comesUponItself 30 = .ok (.iload_n 2, 1) := by decide +kernel
theorem dX5_comesUponItself_31 : decode cX5_comesUponItself 31 = .ok (.ifCond .eq 11, 3) := by decide +kernel
theorem dX5_comesUponItself_34 : decode cX5_comesUponItself 34 = .ok (.iload 4, 2) := by decide +kernel
theorem dX5_comesUponItself_36 : decode cX5_comesUponItself 36 = .ok (.invokestatic 96, 3) := by decide +kernel
theorem dX5_comesUponItself_39 : decode cX5_comesUponItself 39 = .ok (.goto 5, 3) := by decide +kernel
theorem dX5_comesUponItself_42 : decode cX5_comesUponItself 42 = .ok (.iload 4, 2) := by decide +kernel
theorem dX5_comesUponItself_44 : decode cX5_comesUponItself 44 = .ok (.istore 5, 2) := by decide +kernel
theorem dX5_comesUponItself_46 : decode cX5_comesUponItself 46 = .ok (.iload 5, 2) := by decide +kernel
theorem dX5_comesUponItself_48 : decode cX5_comesUponItself 48 = .ok (.iload_n 1, 1) := by decide +kernel
theorem dX5_comesUponItself_49 : decode cX5_comesUponItself 49 = .ok (.bipush 15, 2) := by decide +kernel
theorem dX5_comesUponItself_51 : decode cX5_comesUponItself 51 = .ok (.irem, 1) := by decide +kernel
theorem dX5_comesUponItself_52 : decode cX5_comesUponItself 52 = .ok (.iload_n 1, 1) := by decide +kernel
theorem dX5_comesUponItself_53 : decode cX5_comesUponItself 53 = .ok (.bipush 15, 2) := by decide +kernel
theorem dX5_comesUponItself_55 : decode cX5_comesUponItself 55 = .ok (.idiv, 1) := by decide +kernel
theorem dX5_comesUponItself_56 : decode cX5_comesUponItself 56 = .ok (.invokestatic 99, 3) := by decide +kernel
theorem dX5_comesUponItself_59 : decode cX5_comesUponItself 59 = .ok (.istore 6, 2) := by decide +kernel
theorem dX5_comesUponItself_61 : decode cX5_comesUponItself 61 = .ok (.aload_n 0, 1) := by decide +kernel
theorem dX5_comesUponItself_62 : decode cX5_comesUponItself 62 = .ok (.getfield 12, 3) := by decide +kernel
theorem dX5_comesUponItself_65 : decode cX5_comesUponItself 65 = .ok (.iload 6, 2) := by decide +kernel
theorem dX5_comesUponItself_67 : decode cX5_comesUponItself 67 = .ok (.invokevirtual 35, 3) := by decide +kernel
theorem dX5_comesUponItself_70 : decode cX5_comesUponItself 70 = .ok (.ifCond .ne 34, 3) := by decide +kernel
theorem dX5_comesUponItself_73 : decode cX5_comesUponItself 73 = .ok (.aload_n 0, 1) := by decide +kernel
theorem dX5_comesUponItself_74 : decode cX5_comesUponItself 74 = .ok (.getfield 12, 3) := by decide +kernel
theorem dX5_comesUponItself_77 : decode cX5_comesUponItself 77 = .ok (.iload 6, 2) := by decide +kernel
theorem dX5_comesUponItself_79 : decode cX5_comesUponItself 79 = .ok (.invokevirtual 103, 3) := by decide +kernel
theorem dX5_comesUponItself_82 : decode cX5_comesUponItself 82 = .ok (.iconst 4, 1) := by decide +kernel
theorem dX5_comesUponItself_83 : decode cX5_comesUponItself 83 = .ok (.if_icmp .ne 21, 3) := by decide +kernel
theorem dX5_comesUponItself_86 : decode cX5_comesUponItself 86 = .ok (.aload_n 0, 1) := by decide +kernel
theorem dX5_comesUponItself_87 : decode cX5_comesUponItself 87 = .ok (.iload_n 3, 1) := by decide +kernel
theorem dX5_comesUponItself_88 : decode cX5_comesUponItself 88 = .ok (.aload_n 0, 1) := by decide +kernel
theorem dX5_comesUponItself_89 : decode cX5_comesUponItself 89 = .ok (.getfield 12, 3) := by decide +kernel
theorem dX5_comesUponItself_92 : decode cX5_comesUponItself 92 = .ok (.iload 6, 2) := by decide +kernel
theorem dX5_comesUponItself_94 : decode cX5_comesUponItself 94 = .ok (.invokevirtual 55, 3) := by decide +kernel
theorem dX5_comesUponItself_97 : decode cX5_comesUponItself 97 = .ok (.iload_n 2, 1) := by decide +kernel
theorem dX5_comesUponItself_98 : decode cX5_comesUponItself 98 = .ok (.invokevirtual 106, 3) := by decide +kernel
theorem dX5_comesUponItself_101 : decode cX5_comesUponItself 101 = .ok (.ifCond .ne 5, 3) := by decide +kernel
theorem dX5_comesUponItself_104 : decode cX5_comesUponItself 104 = .ok (.iconst 0, 1) := by decide +kernel
theorem dX5_comesUponItself_105 : decode cX5_comesUponItself 105 = .ok (.ireturn, 1) := by decide +kernel
theorem dX5_comesUponItself_106 : decode cX5_comesUponItself 106 = .ok (.iinc 3 1, 3) := by decide +kernel
theorem dX5_comesUponItself_109 : decode cX5_comesUponItself 109 = .ok (.goto (-107), 3) := by decide +kernel
theorem dX5_comesUponItself_112 : decode cX5_comesUponItself 112 = .ok (.iconst 1, 1) := by decide +kernel
theorem dX5_comesUponItself_113 : decode cX5_comesUponItself 113 = .ok (.ireturn, 1) := by decide +kernel
theorem dX5_looksLike_0 : decode cX5_looksLike 0 = .ok (.iconst 0, 1) := by decide +kernel
theorem dX5_looksLike_1 : decode cX5_looksLike 1 = .ok (.istore 4, 2) := by decide +kernel
theorem dX5_looksLike_3 : decode cX5_looksLike 3 = .ok (.iload 4, 2) := by decide +kernel
theorem dX5_looksLike_5 : decode cX5_looksLike 5 = .ok (.iconst 4, 1) := by decide +kernel
theorem dX5_looksLike_6 : decode cX5_looksLike 6 = .ok (.if_icmp .ge 50, 3) := by decide +kernel
theorem dX5_looksLike_9 : decode cX5_looksLike 9 = .ok (.iload_n 3, 1) := by decide +kernel
theorem dX5_looksLike_10 : decode cX5_looksLike 10 = .ok (.ifCond .eq 11, 3) := by decide +kernel
theorem dX5_looksLike_13 : decode cX5_looksLike 13 = .ok (.iload 4, 2) := by decide +kernel
theorem dX5_looksLike_15 : decode cX5_looksLike 15 = .ok (.invokestatic 110, 3) := by decide +kernel
theorem dX5_looksLike_18 : decode cX5_looksLike 18 = .ok (.goto 5, 3) := by decide +kernel
theorem dX5_looksLike_21 : decode cX5_looksLike 21 = .ok (.iload 4, 2) := by decide +kernel
theorem dX5_looksLike_23 : decode cX5_looksLike 23 = .ok (.istore 5, 2) := by decide +kernel
theorem dX5_looksLike_25 : decode cX5_looksLike 25 = .ok (.aload_n 0, 1) := by decide +kernel
theorem dX5_looksLike_26 : decode cX5_looksLike 26 = .ok (.getfield 12, 3) := by decide +kernel
theorem dX5_looksLike_29 : decode cX5_looksLike 29 = .ok (.iload_n 1, 1) := by decide +kernel
theorem dX5_looksLike_30 : decode cX5_looksLike 30 = .ok (.iload 5, 2) := by decide +kernel
theorem dX5_looksLike_32 : decode cX5_looksLike 32 = .ok (.invokevirtual 113, 3) := by decide +kernel
theorem dX5_looksLike_35 : decode cX5_looksLike 35 = .ok (.aload_n 0, 1) := by decide +kernel
theorem dX5_looksLike_36 : decode cX5_looksLike 36 = .ok (.getfield 12, 3) := by decide +kernel
theorem dX5_looksLike_39 : decode cX5_looksLike 39 = .ok (.iload_n 2, 1) := by decide +kernel
theorem dX5_looksLike_40 : decode cX5_looksLike 40 = .ok (.iload 4, 2) := by decide +kernel
theorem dX5_looksLike_42 : decode cX5_looksLike 42 = .ok (.invokevirtual 113, 3) := by decide +kernel
theorem dX5_looksLike_45 : decode cX5_looksLike 45 = .ok (.if_icmp .eq 5, 3) := by decide +kernel
theorem dX5_looksLike_48 : decode cX5_looksLike 48 = .ok (.iconst 0, 1) := by decide +kernel
theorem dX5_looksLike_49 : decode cX5_looksLike 49 = .ok (.ireturn, 1) := by decide +kernel
theorem dX5_looksLike_50 : decode cX5_looksLike 50 = .ok (.iinc 4 1, 3) := by decide +kernel
theorem dX5_looksLike_53 : decode cX5_looksLike 53 = .ok (.goto (-50), 3) := by decide +kernel
theorem dX5_looksLike_56 : decode cX5_looksLike 56 = .ok (.iconst 1, 1) := by decide +kernel
theorem dX5_looksLike_57 : decode cX5_looksLike 57 = .ok (.ireturn, 1) := by decide +kernel
theorem dX5_touchesOfArm_0 : decode cX5_touchesOfArm 0 = .ok (.iconst 0, 1) := by decide +kernel
theorem dX5_touchesOfArm_1 : decode cX5_touchesOfArm 1 = .ok (.istore_n 3, 1) := by decide +kernel
theorem dX5_touchesOfArm_2 : decode cX5_touchesOfArm 2 = .ok (.iconst 0, 1) := by decide +kernel
theorem dX5_touchesOfArm_3 : decode cX5_touchesOfArm 3 = .ok (.istore 4, 2) := by decide +kernel
theorem dX5_touchesOfArm_5 : decode cX5_touchesOfArm 5 = .ok (.iload 4, 2) := by decide +kernel
theorem dX5_touchesOfArm_7 : decode cX5_touchesOfArm 7 = .ok (.iconst 4, 1) := by decide +kernel
theorem dX5_touchesOfArm_8 : decode cX5_touchesOfArm 8 = .ok (.if_icmp .ge 29, 3) := by decide +kernel
theorem dX5_touchesOfArm_11 : decode cX5_touchesOfArm 11 = .ok (.aload_n 0, 1) := by decide +kernel
theorem dX5_touchesOfArm_12 : decode cX5_touchesOfArm 12 = .ok (.getfield 12, 3) := by decide +kernel
theorem dX5_touchesOfArm_15 : decode cX5_touchesOfArm 15 = .ok (.iload_n 1, 1) := by decide +kernel
theorem dX5_touchesOfArm_16 : decode cX5_touchesOfArm 16 = .ok (.iload 4, 2) := by decide +kernel
theorem dX5_touchesOfArm_18 : decode cX5_touchesOfArm 18 = .ok (.invokestatic 29, 3) := by decide +kernel
theorem dX5_touchesOfArm_21 : decode cX5_touchesOfArm 21 = .ok (.iload_n 2, 1) := by decide +kernel
theorem dX5_touchesOfArm_22 : decode cX5_touchesOfArm 22 = .ok (.invokevirtual 51, 3) := by decide +kernel
theorem dX5_touchesOfArm_25 : decode cX5_touchesOfArm 25 = .ok (.ifCond .eq 6, 3) := by decide +kernel
theorem dX5_touchesOfArm_28 : decode cX5_touchesOfArm 28 = .ok (.iinc 3 1, 3) := by decide +kernel
theorem dX5_touchesOfArm_31 : decode cX5_touchesOfArm 31 = .ok (.iinc 4 1, 3) := by decide +kernel
theorem dX5_touchesOfArm_34 : decode cX5_touchesOfArm 34 = .ok (.goto (-29), 3) := by decide +kernel
theorem dX5_touchesOfArm_37 : decode cX5_touchesOfArm 37 = .ok (.iload_n 3, 1) := by decide +kernel
theorem dX5_touchesOfArm_38 : decode cX5_touchesOfArm 38 = .ok (.ireturn, 1) := by decide +kernel
theorem dX5_likeTouchesOfArm_0 : decode cX5_likeTouchesOfArm 0 = .ok (.aload_n 0, 1) := by decide +kernel
theorem dX5_likeTouchesOfArm_1 : decode cX5_likeTouchesOfArm 1 = .ok (.getfield 12, 3) := by decide +kernel
theorem dX5_likeTouchesOfArm_4 : decode cX5_likeTouchesOfArm 4 = .ok (.getfield 42, 3) := by decide +kernel
theorem dX5_likeTouchesOfArm_7 : decode cX5_likeTouchesOfArm 7 = .ok (.getfield 46, 3) := by decide +kernel
theorem dX5_likeTouchesOfArm_10 : decode cX5_likeTouchesOfArm 10 = .ok (.iload_n 1, 1) := by decide +kernel
theorem dX5_likeTouchesOfArm_11 : decode cX5_likeTouchesOfArm 11 = .ok (.iaload, 1) := by decide +kernel
theorem dX5_likeTouchesOfArm_12 : decode cX5_likeTouchesOfArm 12 = .ok (.iload_n 2, 1) := by decide +kernel
theorem dX5_likeTouchesOfArm_13 : decode cX5_likeTouchesOfArm 13 = .ok (.invokestatic 29, 3) := by decide +kernel
theorem dX5_likeTouchesOfArm_16 : decode cX5_likeTouchesOfArm 16 = .ok (.istore_n 3, 1) := by decide +kernel
theorem dX5_likeTouchesOfArm_17 : decode cX5_likeTouchesOfArm 17 = .ok (.aload_n 0, 1) := by decide +kernel
theorem dX5_likeTouchesOfArm_18 : decode cX5_likeTouchesOfArm 18 = .ok (.getfield 12, 3) := by decide +kernel
theorem dX5_likeTouchesOfArm_21 : decode cX5_likeTouchesOfArm 21 = .ok (.iload_n 1, 1) := by decide +kernel
theorem dX5_likeTouchesOfArm_22 : decode cX5_likeTouchesOfArm 22 = .ok (.iload_n 2, 1) := by decide +kernel
theorem dX5_likeTouchesOfArm_23 : decode cX5_likeTouchesOfArm 23 = .ok (.invokevirtual 113, 3) := by decide +kernel
theorem dX5_likeTouchesOfArm_26 : decode cX5_likeTouchesOfArm 26 = .ok (.istore 4, 2) := by decide +kernel
theorem dX5_likeTouchesOfArm_28 : decode cX5_likeTouchesOfArm 28 = .ok (.iconst 0, 1) := by decide +kernel
theorem dX5_likeTouchesOfArm_29 : decode cX5_likeTouchesOfArm 29 = .ok (.istore 5, 2) := by decide +kernel
theorem dX5_likeTouchesOfArm_31 : decode cX5_likeTouchesOfArm 31 = .ok (.iconst 0, 1) := by decide +kernel
theorem dX5_likeTouchesOfArm_32 : decode cX5_likeTouchesOfArm 32 = .ok (.istore 6, 2) := by decide +kernel
theorem dX5_likeTouchesOfArm_34 : decode cX5_likeTouchesOfArm 34 = .ok (.iload 6, 2) := by decide +kernel
theorem dX5_likeTouchesOfArm_36 : decode cX5_likeTouchesOfArm 36 = .ok (.iconst 4, 1) := by decide +kernel
theorem dX5_likeTouchesOfArm_37 : decode cX5_likeTouchesOfArm 37 = .ok (.if_icmp .ge 63, 3) := by decide +kernel
theorem dX5_likeTouchesOfArm_40 : decode cX5_likeTouchesOfArm 40 = .ok (.iload_n 3, 1) := by decide +kernel
theorem dX5_likeTouchesOfArm_41 : decode cX5_likeTouchesOfArm 41 = .ok (.iload 6, 2) := by decide +kernel
theorem dX5_likeTouchesOfArm_43 : decode cX5_likeTouchesOfArm 43 = .ok (.invokestatic 29, 3) := by decide +kernel
theorem dX5_likeTouchesOfArm_46 : decode cX5_likeTouchesOfArm 46 = .ok (.istore 7, 2) := by decide +kernel
theorem dX5_likeTouchesOfArm_48 : decode cX5_likeTouchesOfArm 48 = .ok (.aload_n 0, 1) := by decide +kernel
theorem dX5_likeTouchesOfArm_49 : decode cX5_likeTouchesOfArm 49 = .ok (.getfield 12, 3) := by decide +kernel
theorem dX5_likeTouchesOfArm_52 : decode cX5_likeTouchesOfArm 52 = .ok (.iload 7, 2) := by decide +kernel
theorem dX5_likeTouchesOfArm_54 : decode cX5_likeTouchesOfArm 54 = .ok (.iload_n 1, 1) := by decide +kernel
theorem dX5_likeTouchesOfArm_55 : decode cX5_likeTouchesOfArm 55 = .ok (.invokevirtual 51, 3) := by decide +kernel
theorem dX5_likeTouchesOfArm_58 : decode cX5_likeTouchesOfArm 58 = .ok (.ifCond .eq 36, 3) := by decide +kernel
theorem dX5_likeTouchesOfArm_61 : decode cX5_likeTouchesOfArm 61 = .ok (.aload_n 0, 1) := by decide +kernel
theorem dX5_likeTouchesOfArm_62 : decode cX5_likeTouchesOfArm 62 = .ok (.getfield 12, 3) := by decide +kernel
theorem dX5_likeTouchesOfArm_65 : decode cX5_likeTouchesOfArm 65 = .ok (.aload_n 0, 1) := by decide +kernel
theorem dX5_likeTouchesOfArm_66 : decode cX5_likeTouchesOfArm 66 = .ok (.getfield 12, 3) := by decide +kernel
theorem dX5_likeTouchesOfArm_69 : decode cX5_likeTouchesOfArm 69 = .ok (.iload 7, 2) := by decide +kernel
theorem dX5_likeTouchesOfArm_71 : decode cX5_likeTouchesOfArm 71 = .ok (.invokevirtual 55, 3) := by decide +kernel
theorem dX5_likeTouchesOfArm_74 : decode cX5_likeTouchesOfArm 74 = .ok (.aload_n 0, 1) := by decide +kernel
theorem dX5_likeTouchesOfArm_75 : decode cX5_likeTouchesOfArm 75 = .ok (.getfield 12, 3) := by decide +kernel
theorem dX5_likeTouchesOfArm_78 : decode cX5_likeTouchesOfArm 78 = .ok (.iload 7, 2) := by decide +kernel
theorem dX5_likeTouchesOfArm_80 : decode cX5_likeTouchesOfArm 80 = .ok (.invokevirtual 103, 3) := by decide +kernel
theorem dX5_likeTouchesOfArm_83 : decode cX5_likeTouchesOfArm 83 = .ok (.invokevirtual 113, 3) := by decide +kernel
theorem dX5_likeTouchesOfArm_86 : decode cX5_likeTouchesOfArm 86 = .ok (.iload 4, 2) := by decide +kernel
theorem dX5_likeTouchesOfArm_88 : decode cX5_likeTouchesOfArm 88 = .ok (.if_icmp .ne 6, 3) := by decide +kernel
theorem dX5_likeTouchesOfArm_91 : decode cX5_likeTouchesOfArm 91 = .ok (.iinc 5 1, 3) := by decide +kernel
theorem dX5_likeTouchesOfArm_94 : decode cX5_likeTouchesOfArm 94 = .ok (.iinc 6 1, 3) := by decide +kernel
theorem dX5_likeTouchesOfArm_97 : decode cX5_likeTouchesOfArm 97 = .ok (.goto (-63), 3) := by decide +kernel
theorem dX5_likeTouchesOfArm_100 : decode cX5_likeTouchesOfArm 100 = .ok (.iload 5, 2) := by decide +kernel
theorem dX5_likeTouchesOfArm_102 : decode cX5_likeTouchesOfArm 102 = .ok (.ireturn, 1) := by decide +kernel
theorem dX5_forgetReached_0 : decode cX5_forgetReached 0 = .ok (.iconst 0, 1) := by decide +kernel
theorem dX5_forgetReached_1 : decode cX5_forgetReached 1 = .ok (.istore_n 1, 1) := by decide +kernel
theorem dX5_forgetReached_2 : decode cX5_forgetReached 2 = .ok (.iload_n 1, 1) := by decide +kernel
theorem dX5_forgetReached_3 : decode cX5_forgetReached 3 = .ok (.sipush 150, 3) := by decide +kernel
theorem dX5_forgetReached_6 : decode cX5_forgetReached 6 = .ok (.if_icmp .ge 16, 3) := by decide +kernel
theorem dX5_forgetReached_9 : decode cX5_forgetReached 9 = .ok (.aload_n 0, 1) := by decide +kernel
theorem dX5_forgetReached_10 : decode cX5_forgetReached 10 = .ok (.getfield 18, 3) := by decide +kernel
theorem dX5_forgetReached_13 : decode cX5_forgetReached 13 = .ok (.iload_n 1, 1) := by decide +kernel
theorem dX5_forgetReached_14 : decode cX5_forgetReached 14 = .ok (.iconst 0, 1) := by decide +kernel
theorem dX5_forgetReached_15 : decode cX5_forgetReached 15 = .ok (.bastore, 1) := by decide +kernel
theorem dX5_forgetReached_16 : decode cX5_forgetReached 16 = .ok (.iinc 1 1, 3) := by decide +kernel
theorem dX5_forgetReached_19 : decode cX5_forgetReached 19 = .ok (.goto (-17), 3) := by decide +kernel
theorem dX5_forgetReached_22 : decode cX5_forgetReached 22 = .ok (.return_, 1) := by decide +kernel
theorem dX5_reachRegion_0 : decode cX5_reachRegion 0 = .ok (.aload_n 0, 1) := by decide +kernel
theorem dX5_reachRegion_1 : decode cX5_reachRegion 1 = .ok (.getfield 18, 3) := by decide +kernel
theorem dX5_reachRegion_4 : decode cX5_reachRegion 4 = .ok (.iload_n 1, 1) := by decide +kernel
theorem dX5_reachRegion_5 : decode cX5_reachRegion 5 = .ok (.iconst 1, 1) := by decide +kernel
theorem dX5_reachRegion_6 : decode cX5_reachRegion 6 = .ok (.bastore, 1) := by decide +kernel
theorem dX5_reachRegion_7 : decode cX5_reachRegion 7 = .ok (.aload_n 0, 1) := by decide +kernel
theorem dX5_reachRegion_8 : decode cX5_reachRegion 8 = .ok (.getfield 22, 3) := by decide +kernel
theorem dX5_reachRegion_11 : decode cX5_reachRegion 11 = .ok (.iconst 0, 1) := by decide +kernel
theorem dX5_reachRegion_12 : decode cX5_reachRegion 12 = .ok (.iload_n 1, 1) := by decide +kernel
theorem dX5_reachRegion_13 : decode cX5_reachRegion 13 = .ok (.iastore, 1) := by decide +kernel
theorem dX5_reachRegion_14 : decode cX5_reachRegion 14 = .ok (.iconst 1, 1) := by decide +kernel
theorem dX5_reachRegion_15 : decode cX5_reachRegion 15 = .ok (.istore_n 3, 1) := by decide +kernel
theorem dX5_reachRegion_16 : decode cX5_reachRegion 16 = .ok (.iconst 0, 1) := by decide +kernel
theorem dX5_reachRegion_17 : decode cX5_reachRegion 17 = .ok (.istore 4, 2) := by decide +kernel
theorem dX5_reachRegion_19 : decode cX5_reachRegion 19 = .ok (.iload 4, 2) := by decide +kernel
theorem dX5_reachRegion_21 : decode cX5_reachRegion 21 = .ok (.iload_n 3, 1) := by decide +kernel
theorem dX5_reachRegion_22 : decode cX5_reachRegion 22 = .ok (.if_icmp .ge 95, 3) := by decide +kernel
theorem dX5_reachRegion_25 : decode cX5_reachRegion 25 = .ok (.iload 4, 2) := by decide +kernel
theorem dX5_reachRegion_27 : decode cX5_reachRegion 27 = .ok (.sipush 150, 3) := by decide +kernel
theorem dX5_reachRegion_30 : decode cX5_reachRegion 30 = .ok (.if_icmp .ge 87, 3) := by decide +kernel
theorem dX5_reachRegion_33 : decode cX5_reachRegion 33 = .ok (.iconst 0, 1) := by decide +kernel
theorem dX5_reachRegion_34 : decode cX5_reachRegion 34 = .ok (.istore 5, 2) := by decide +kernel
theorem dX5_reachRegion_36 : decode cX5_reachRegion 36 = .ok (.iload 5, 2) := by decide +kernel
theorem dX5_reachRegion_38 : decode cX5_reachRegion 38 = .ok (.iconst 4, 1) := by decide +kernel
theorem dX5_reachRegion_39 : decode cX5_reachRegion 39 = .ok (.if_icmp .ge 72, 3) := by decide +kernel
theorem dX5_reachRegion_42 : decode cX5_reachRegion 42 = .ok (.aload_n 0, 1) := by decide +kernel
theorem dX5_reachRegion_43 : decode cX5_reachRegion 43 = .ok (.getfield 22, 3) := by decide +kernel
theorem dX5_reachRegion_46 : decode cX5_reachRegion 46 = .ok (.iload 4, 2) := by decide +kernel
theorem dX5_reachRegion_48 : decode cX5_reachRegion 48 = .ok (.iaload, 1) := by decide +kernel
theorem dX5_reachRegion_49 : decode cX5_reachRegion 49 = .ok (.iload 5, 2) := by decide +kernel
theorem dX5_reachRegion_51 : decode cX5_reachRegion 51 = .ok (.invokestatic 29, 3) := by decide +kernel
theorem dX5_reachRegion_54 : decode cX5_reachRegion 54 = .ok (.istore 6, 2) := by decide +kernel
theorem dX5_reachRegion_56 : decode cX5_reachRegion 56 = .ok (.aload_n 0, 1) := by decide +kernel
theorem dX5_reachRegion_57 : decode cX5_reachRegion 57 = .ok (.getfield 18, 3) := by decide +kernel
theorem dX5_reachRegion_60 : decode cX5_reachRegion 60 = .ok (.iload 6, 2) := by decide +kernel
theorem dX5_reachRegion_62 : decode cX5_reachRegion 62 = .ok (.baload, 1) := by decide +kernel
theorem dX5_reachRegion_63 : decode cX5_reachRegion 63 = .ok (.ifCond .ne 42, 3) := by decide +kernel
theorem dX5_reachRegion_66 : decode cX5_reachRegion 66 = .ok (.aload_n 0, 1) := by decide +kernel
theorem dX5_reachRegion_67 : decode cX5_reachRegion 67 = .ok (.getfield 12, 3) := by decide +kernel
theorem dX5_reachRegion_70 : decode cX5_reachRegion 70 = .ok (.iload 6, 2) := by decide +kernel
theorem dX5_reachRegion_72 : decode cX5_reachRegion 72 = .ok (.invokevirtual 35, 3) := by decide +kernel
theorem dX5_reachRegion_75 : decode cX5_reachRegion 75 = .ok (.iload_n 2, 1) := by decide +kernel
theorem dX5_reachRegion_76 : decode cX5_reachRegion 76 = .ok (.if_icmp .ne 29, 3) := by decide +kernel
theorem dX5_reachRegion_79 : decode cX5_reachRegion 79 = .ok (.iload_n 3, 1) := by decide +kernel
theorem dX5_reachRegion_80 : decode cX5_reachRegion 80 = .ok (.sipush 150, 3) := by decide +kernel
theorem dX5_reachRegion_83 : decode cX5_reachRegion 83 = .ok (.if_icmp .ge 22, 3) := by decide +kernel
theorem dX5_reachRegion_86 : decode cX5_reachRegion 86 = .ok (.aload_n 0, 1) := by decide +kernel
theorem dX5_reachRegion_87 : decode cX5_reachRegion 87 = .ok (.getfield 18, 3) := by decide +kernel
theorem dX5_reachRegion_90 : decode cX5_reachRegion 90 = .ok (.iload 6, 2) := by decide +kernel
theorem dX5_reachRegion_92 : decode cX5_reachRegion 92 = .ok (.iconst 1, 1) := by decide +kernel
theorem dX5_reachRegion_93 : decode cX5_reachRegion 93 = .ok (.bastore, 1) := by decide +kernel
theorem dX5_reachRegion_94 : decode cX5_reachRegion 94 = .ok (.aload_n 0, 1) := by decide +kernel
theorem dX5_reachRegion_95 : decode cX5_reachRegion 95 = .ok (.getfield 22, 3) := by decide +kernel
theorem dX5_reachRegion_98 : decode cX5_reachRegion 98 = .ok (.iload_n 3, 1) := by decide +kernel
theorem dX5_reachRegion_99 : decode cX5_reachRegion 99 = .ok (.iload 6, 2) := by decide +kernel
theorem dX5_reachRegion_101 : decode cX5_reachRegion 101 = .ok (.iastore, 1) := by decide +kernel
theorem dX5_reachRegion_102 : decode cX5_reachRegion 102 = .ok (.iinc 3 1, 3) := by decide +kernel
theorem dX5_reachRegion_105 : decode cX5_reachRegion 105 = .ok (.iinc 5 1, 3) := by decide +kernel
theorem dX5_reachRegion_108 : decode cX5_reachRegion 108 = .ok (.goto (-72), 3) := by decide +kernel
theorem dX5_reachRegion_111 : decode cX5_reachRegion 111 = .ok (.iinc 4 1, 3) := by decide +kernel
theorem dX5_reachRegion_114 : decode cX5_reachRegion 114 = .ok (.goto (-95), 3) := by decide +kernel
theorem dX5_reachRegion_117 : decode cX5_reachRegion 117 = .ok (.iload_n 3, 1) := by decide +kernel
theorem dX5_reachRegion_118 : decode cX5_reachRegion 118 = .ok (.ireturn, 1) := by decide +kernel
theorem dX6_init_0 : decode cX6_init 0 = .ok (.aload_n 0, 1) := by decide +kernel
theorem dX6_init_1 : decode cX6_init 1 = .ok (.invokespecial 1, 3) := by decide +kernel
theorem dX6_init_4 : decode cX6_init 4 = .ok (.aload_n 0, 1) := by decide +kernel
theorem dX6_init_5 : decode cX6_init 5 = .ok (.new 7, 3) := by decide +kernel
theorem dX6_init_8 : decode cX6_init 8 = .ok (.dup, 1) := by decide +kernel
theorem dX6_init_9 : decode cX6_init 9 = .ok (.invokespecial 9, 3) := by decide +kernel
theorem dX6_init_12 : decode cX6_init 12 = .ok (.putfield 10, 3) := by decide +kernel
theorem dX6_init_15 : decode cX6_init 15 = .ok (.aload_n 0, 1) := by decide +kernel
theorem dX6_init_16 : decode cX6_init 16 = .ok (.aload_n 0, 1) := by decide +kernel
theorem dX6_init_17 : decode cX6_init 17 = .ok (.getfield 10, 3) := by decide +kernel
theorem dX6_init_20 : decode cX6_init 20 = .ok (.getfield 16, 3) := by decide +kernel
theorem dX6_init_23 : decode cX6_init 23 = .ok (.putfield 20, 3) := by decide +kernel
theorem dX6_init_26 : decode cX6_init 26 = .ok (.aload_n 0, 1) := by decide +kernel
theorem dX6_init_27 : decode cX6_init 27 = .ok (.new 21, 3) := by decide +kernel
theorem dX6_init_30 : decode cX6_init 30 = .ok (.dup, 1) := by decide +kernel
theorem dX6_init_31 : decode cX6_init 31 = .ok (.invokespecial 23, 3) := by decide +kernel
theorem dX6_init_34 : decode cX6_init 34 = .ok (.putfield 24, 3) := by decide +kernel
theorem dX6_init_37 : decode cX6_init 37 = .ok (.aload_n 0, 1) := by decide +kernel
theorem dX6_init_38 : decode cX6_init 38 = .ok (.new 28, 3) := by decide +kernel
theorem dX6_init_41 : decode cX6_init 41 = .ok (.dup, 1) := by decide +kernel
theorem dX6_init_42 : decode cX6_init 42 = .ok (.invokespecial 30, 3) := by decide +kernel
theorem dX6_init_45 : decode cX6_init 45 = .ok (.putfield 31, 3) := by decide +kernel
theorem dX6_init_48 : decode cX6_init 48 = .ok (.aload_n 0, 1) := by decide +kernel
theorem dX6_init_49 : decode cX6_init 49 = .ok (.new 35, 3) := by decide +kernel
theorem dX6_init_52 : decode cX6_init 52 = .ok (.dup, 1) := by decide +kernel
theorem dX6_init_53 : decode cX6_init 53 = .ok (.invokespecial 37, 3) := by decide +kernel
theorem dX6_init_56 : decode cX6_init 56 = .ok (.putfield 38, 3) := by decide +kernel
theorem dX6_init_59 : decode cX6_init 59 = .ok (.aload_n 0, 1) := by decide +kernel
theorem dX6_init_60 : decode cX6_init 60 = .ok (.new 35, 3) := by decide +kernel
theorem dX6_init_63 : decode cX6_init 63 = .ok (.dup, 1) := by decide +kernel
theorem dX6_init_64 : decode cX6_init 64 = .ok (.invokespecial 37, 3) := by decide +kernel
theorem dX6_init_67 : decode cX6_init 67 = .ok (.putfield 42, 3) := by decide +kernel
theorem dX6_init_70 : decode cX6_init 70 = .ok (.aload_n 0, 1) := by decide +kernel
theorem dX6_init_71 : decode cX6_init 71 = .ok (.iconst 0, 1) := by decide +kernel
theorem dX6_init_72 : decode cX6_init 72 = .ok (.putfield 45, 3) := by decide +kernel
theorem dX6_init_75 : decode cX6_init 75 = .ok (.return_, 1) := by decide +kernel
theorem dX6_paint_0 : decode cX6_paint 0 = .ok (.aload_n 0, 1) := by decide +kernel
theorem dX6_paint_1 : decode cX6_paint 1 = .ok (.iload_n 1, 1) := by decide +kernel
theorem dX6_paint_2 : decode cX6_paint 2 = .ok (.invokevirtual 49, 3) := by decide +kernel
theorem dX6_paint_5 : decode cX6_paint 5 = .ok (.ifCond .ne 5, 3) := by decide +kernel
theorem dX6_paint_8 : decode cX6_paint 8 = .ok (.iconst (-1), 1) := by decide +kernel
theorem dX6_paint_9 : decode cX6_paint 9 = .ok (.ireturn, 1) := by decide +kernel
theorem dX6_paint_10 : decode cX6_paint 10 = .ok (.aload_n 0, 1) := by decide +kernel
theorem dX6_paint_11 : decode cX6_paint 11 = .ok (.iload_n 2, 1) := by decide +kernel
theorem dX6_paint_12 : decode cX6_paint 12 = .ok (.invokevirtual 53, 3) := by decide +kernel
theorem dX6_paint_15 : decode cX6_paint 15 = .ok (.ifCond .eq 13, 3) := by decide +kernel
theorem dX6_paint_18 : decode cX6_paint 18 = .ok (.iload_n 3, 1) := by decide +kernel
theorem dX6_paint_19 : decode cX6_paint 19 = .ok (.ifCond .lt 9, 3) := by decide +kernel
theorem dX6_paint_22 : decode cX6_paint 22 = .ok (.iload_n 3, 1) := by decide +kernel
theorem dX6_paint_23 : decode cX6_paint 23 = .ok (.bipush 6, 2) := by decide +kernel
theorem dX6_paint_25 : decode cX6_paint 25 = .ok (.if_icmp .lt 6, 3) := by decide +kernel
theorem dX6_paint_28 : decode cX6_paint 28 = .ok (.bipush (-2), 2) := by decide +kernel
theorem dX6_paint_30 : decode cX6_paint 30 = .ok (.ireturn, 1) := by decide +kernel
theorem dX6_paint_31 : decode cX6_paint 31 = .ok (.aload_n 0, 1) := by decide +kernel
theorem dX6_paint_32 : decode cX6_paint 32 = .ok (.getfield 20, 3) := by decide +kernel
theorem dX6_paint_35 : decode cX6_paint 35 = .ok (.getfield 56, 3) := by decide +kernel
theorem dX6_paint_38 : decode cX6_paint 38 = .ok (.iload_n 1, 1) := by decide +kernel
theorem dX6_paint_39 : decode cX6_paint 39 = .ok (.iload_n 2, 1) := by decide +kernel
theorem dX6_paint_40 : decode cX6_paint 40 = .ok (.invokevirtual 61, 3) := by decide +kernel
theorem dX6_paint_43 : decode cX6_paint 43 = .ok (.istore 4, 2) := by decide +kernel
theorem dX6_paint_45 : decode cX6_paint 45 = .ok (.iload_n 3, 1) := by decide +kernel
theorem dX6_paint_46 : decode cX6_paint 46 = .ok (.iload 4, 2) := by decide +kernel
theorem dX6_paint_48 : decode cX6_paint 48 = .ok (.if_icmp .ne 6, 3) := by decide +kernel
theorem dX6_paint_51 : decode cX6_paint 51 = .ok (.bipush (-5), 2) := by decide +kernel
theorem dX6_paint_53 : decode cX6_paint 53 = .ok (.ireturn, 1) := by decide +kernel
theorem dX6_paint_54 : decode cX6_paint 54 = .ok (.aload_n 0, 1) := by decide +kernel
theorem dX6_paint_55 : decode cX6_paint 55 = .ok (.invokevirtual 65, 3) := by decide +kernel
theorem dX6_paint_58 : decode cX6_paint 58 = .ok (.aload_n 0, 1) := by decide +kernel
theorem dX6_paint_59 : decode cX6_paint 59 = .ok (.getfield 20, 3) := by decide +kernel
theorem dX6_paint_62 : decode cX6_paint 62 = .ok (.getfield 56, 3) := by decide +kernel
theorem dX6_paint_65 : decode cX6_paint 65 = .ok (.iload_n 1, 1) := by decide +kernel
theorem dX6_paint_66 : decode cX6_paint 66 = .ok (.iload_n 2, 1) := by decide +kernel
theorem dX6_paint_67 : decode cX6_paint 67 = .ok (.iload_n 3, 1) := by decide +kernel
theorem dX6_paint_68 : decode cX6_paint 68 = .ok (.invokevirtual 68, 3) := by decide +kernel
theorem dX6_paint_71 : decode cX6_paint 71 = .ok (.aload_n 0, 1) := by decide +kernel
theorem dX6_paint_72 : decode cX6_paint 72 = .ok (.aload_n 0, 1) := by decide +kernel
theorem dX6_paint_73 : decode cX6_paint 73 = .ok (.getfield 20, 3) := by decide +kernel
theorem dX6_paint_76 : decode cX6_paint 76 = .ok (.invokevirtual 72, 3) := by decide +kernel
theorem dX6_paint_79 : decode cX6_paint 79 = .ok (.ifCond .eq 8, 3) := by decide +kernel
theorem dX6_paint_82 : decode cX6_paint 82 = .ok (.bipush (-4), 2) := by decide +kernel
theorem dX6_paint_84 : decode cX6_paint 84 = .ok (.goto 5, 3) := by decide +kernel
theorem dX6_paint_87 : decode cX6_paint 87 = .ok (.iload 4, 2) := by decide +kernel
theorem dX6_paint_89 : decode cX6_paint 89 = .ok (.invokevirtual 76, 3) := by decide +kernel
theorem dX6_paint_92 : decode cX6_paint 92 = .ok (.ireturn, 1) := by decide +kernel
theorem dX6_setRule_0 : decode cX6_setRule 0 = .ok (.iload_n 1, 1) := by decide +kernel
theorem dX6_setRule_1 : decode cX6_setRule 1 = .ok (.ifCond .lt 8, 3) := by decide +kernel
theorem dX6_setRule_4 : decode cX6_setRule 4 = .ok (.iload_n 1, 1) := by decide +kernel
theorem dX6_setRule_5 : decode cX6_setRule 5 = .ok (.iconst 3, 1) := by decide +kernel
theorem dX6_setRule_6 : decode cX6_setRule 6 = .ok (.if_icmp .lt 6, 3) := by decide +kernel
theorem dX6_setRule_9 : decode cX6_setRule 9 = .ok (.bipush (-2), 2) := by decide +kernel
theorem dX6_setRule_11 : decode cX6_setRule 11 = .ok (.ireturn, 1) := by decide +kernel
theorem dX6_setRule_12 : decode cX6_setRule 12 = .ok (.aload_n 0, 1) := by decide +kernel
theorem dX6_setRule_13 : decode cX6_setRule 13 = .ok (.getfield 20, 3) := by decide +kernel
theorem dX6_setRule_16 : decode cX6_setRule 16 = .ok (.getfield 56, 3) := by decide +kernel
theorem dX6_setRule_19 : decode cX6_setRule 19 = .ok (.getfield 80, 3) := by decide +kernel
theorem dX6_setRule_22 : decode cX6_setRule 22 = .ok (.istore_n 2, 1) := by decide +kernel
theorem dX6_setRule_23 : decode cX6_setRule 23 = .ok (.iload_n 1, 1) := by decide +kernel
theorem dX6_setRule_24 : decode cX6_setRule 24 = .ok (.iload_n 2, 1) := by decide +kernel
theorem dX6_setRule_25 : decode cX6_setRule 25 = .ok (.if_icmp .ne 6, 3) := by decide +kernel
theorem dX6_setRule_28 : decode cX6_setRule 28 = .ok (.bipush (-5), 2) := by decide +kernel
theorem dX6_setRule_30 : decode cX6_setRule 30 = .ok (.ireturn, 1) := by decide +kernel
theorem dX6_setRule_31 : decode cX6_setRule 31 = .ok (.aload_n 0, 1) := by decide +kernel
theorem dX6_setRule_32 : decode cX6_setRule 32 = .ok (.invokevirtual 65, 3) := by decide +kernel
theorem dX6_setRule_35 : decode cX6_setRule 35 = .ok (.aload_n 0, 1) := by decide +kernel
theorem dX6_setRule_36 : decode cX6_setRule 36 = .ok (.getfield 20, 3) := by decide +kernel
theorem dX6_setRule_39 : decode cX6_setRule 39 = .ok (.getfield 56, 3) := by decide +kernel
theorem dX6_setRule_42 : decode cX6_setRule 42 = .ok (.iload_n 1, 1) := by decide +kernel
theorem dX6_setRule_43 : decode cX6_setRule 43 = .ok (.putfield 80, 3) := by decide +kernel
theorem dX6_setRule_46 : decode cX6_setRule 46 = .ok (.aload_n 0, 1) := by decide +kernel
theorem dX6_setRule_47 : decode cX6_setRule 47 = .ok (.aload_n 0, 1) := by decide +kernel
theorem dX6_setRule_48 : decode cX6_setRule 48 = .ok (.getfield 20, 3) := by decide +kernel
theorem dX6_setRule_51 : decode cX6_setRule 51 = .ok (.invokevirtual 72, 3) := by decide +kernel
theorem dX6_setRule_54 : decode cX6_setRule 54 = .ok (.ifCond .eq 8, 3) := by decide +kernel
theorem dX6_setRule_57 : decode cX6_setRule 57 = .ok (.bipush (-4), 2) := by decide +kernel
theorem dX6_setRule_59 : decode cX6_setRule 59 = .ok (.goto 4, 3) := by decide +kernel
theorem dX6_setRule_62 : decode cX6_setRule 62 = .ok (.iload_n 2, 1) := by decide +kernel
theorem dX6_setRule_63 : decode cX6_setRule 63 = .ok (.invokevirtual 76, 3) := by decide +kernel
theorem dX6_setRule_66 : decode cX6_setRule 66 = .ok (.ireturn, 1) := by decide +kernel
theorem dX6_lay_0 : decode cX6_lay 0 = .ok (.aload_n 0, 1) := by decide +kernel
theorem dX6_lay_1 : decode cX6_lay 1 = .ok (.iload_n 1, 1) := by decide +kernel
theorem dX6_lay_2 : decode cX6_lay 2 = .ok (.invokevirtual 49, 3) := by decide +kernel
theorem dX6_lay_5 : decode cX6_lay 5 = .ok (.ifCond .eq 11, 3) := by decide +kernel
theorem dX6_lay_8 : decode cX6_lay 8 = .ok (.aload_n 0, 1) := by decide +kernel
theorem dX6_lay_9 : decode cX6_lay 9 = .ok (.iload_n 3, 1) := by decide +kernel
theorem dX6_lay_10 : decode cX6_lay 10 = .ok (.invokevirtual 84, 3) := by decide +kernel
theorem dX6_lay_13 : decode cX6_lay 13 = .ok (.ifCond .ne 5, 3) := by decide +kernel
theorem dX6_lay_16 : decode cX6_lay 16 = .ok (.iconst (-1), 1) := by decide +kernel
theorem dX6_lay_17 : decode cX6_lay 17 = .ok (.ireturn, 1) := by decide +kernel
theorem dX6_lay_18 : decode cX6_lay 18 = .ok (.aload_n 0, 1) := by decide +kernel
theorem dX6_lay_19 : decode cX6_lay 19 = .ok (.iload_n 2, 1) := by decide +kernel
theorem dX6_lay_20 : decode cX6_lay 20 = .ok (.invokevirtual 53, 3) := by decide +kernel
theorem dX6_lay_23 : decode cX6_lay 23 = .ok (.ifCond .ne 6, 3) := by decide +kernel
theorem dX6_lay_26 : decode cX6_lay 26 = .ok (.bipush (-2), 2) := by decide +kernel
theorem dX6_lay_28 : decode cX6_lay 28 = .ok (.ireturn, 1) := by decide +kernel
theorem dX6_lay_29 : decode cX6_lay 29 = .ok (.aload_n 0, 1) := by decide +kernel
theorem dX6_lay_30 : decode cX6_lay 30 = .ok (.invokevirtual 65, 3) := by decide +kernel
theorem dX6_lay_33 : decode cX6_lay 33 = .ok (.aload_n 0, 1) := by decide +kernel
theorem dX6_lay_34 : decode cX6_lay 34 = .ok (.aload_n 0, 1) := by decide +kernel
theorem dX6_lay_35 : decode cX6_lay 35 = .ok (.getfield 20, 3) := by decide +kernel
theorem dX6_lay_38 : decode cX6_lay 38 = .ok (.iload_n 1, 1) := by decide +kernel
theorem dX6_lay_39 : decode cX6_lay 39 = .ok (.iload_n 2, 1) := by decide +kernel
theorem dX6_lay_40 : decode cX6_lay 40 = .ok (.iload_n 3, 1) := by decide +kernel
theorem dX6_lay_41 : decode cX6_lay 41 = .ok (.invokevirtual 87, 3) := by decide +kernel
theorem dX6_lay_44 : decode cX6_lay 44 = .ok (.invokevirtual 76, 3) := by decide +kernel
theorem dX6_lay_47 : decode cX6_lay 47 = .ok (.ireturn, 1) := by decide +kernel
theorem dX6_take_0 : decode cX6_take 0 = .ok (.aload_n 0, 1) := by decide +kernel
theorem dX6_take_1 : decode cX6_take 1 = .ok (.iload_n 1, 1) := by decide +kernel
theorem dX6_take_2 : decode cX6_take 2 = .ok (.invokevirtual 91, 3) := by decide +kernel
theorem dX6_take_5 : decode cX6_take 5 = .ok (.ifCond .ne 5, 3) := by decide +kernel
theorem dX6_take_8 : decode cX6_take 8 = .ok (.iconst (-1), 1) := by decide +kernel
theorem dX6_take_9 : decode cX6_take 9 = .ok (.ireturn, 1) := by decide +kernel
theorem dX6_take_10 : decode cX6_take 10 = .ok (.aload_n 0, 1) := by decide +kernel
theorem dX6_take_11 : decode cX6_take 11 = .ok (.invokevirtual 65, 3) := by decide +kernel
theorem dX6_take_14 : decode cX6_take 14 = .ok (.aload_n 0, 1) := by decide +kernel
theorem dX6_take_15 : decode cX6_take 15 = .ok (.aload_n 0, 1) := by decide +kernel
theorem dX6_take_16 : decode cX6_take 16 = .ok (.getfield 20, 3) := by decide +kernel
theorem dX6_take_19 : decode cX6_take 19 = .ok (.iload_n 1, 1) := by decide +kernel
theorem dX6_take_20 : decode cX6_take 20 = .ok (.invokevirtual 94, 3) := by decide +kernel
theorem dX6_take_23 : decode cX6_take 23 = .ok (.invokevirtual 76, 3) := by decide +kernel
theorem dX6_take_26 : decode cX6_take 26 = .ok (.ireturn, 1) := by decide +kernel
theorem dX6_turn_0 : decode cX6_turn 0 = .ok (.aload_n 0, 1) := by decide +kernel
theorem dX6_turn_1 : decode cX6_turn 1 = .ok (.iload_n 1, 1) := by decide +kernel
theorem dX6_turn_2 : decode cX6_turn 2 = .ok (.invokevirtual 91, 3) := by decide +kernel
theorem dX6_turn_5 : decode cX6_turn 5 = .ok (.ifCond .ne 5, 3) := by decide +kernel
theorem dX6_turn_8 : decode cX6_turn 8 = .ok (.iconst (-1), 1) := by decide +kernel
theorem dX6_turn_9 : decode cX6_turn 9 = .ok (.ireturn, 1) := by decide +kernel
theorem dX6_turn_10 : decode cX6_turn 10 = .ok (.iload_n 2, 1) := by decide +kernel
theorem dX6_turn_11 : decode cX6_turn 11 = .ok (.iconst 1, 1) := by decide +kernel
theorem dX6_turn_12 : decode cX6_turn 12 = .ok (.if_icmp .lt 8, 3) := by decide +kernel
theorem dX6_turn_15 : decode cX6_turn 15 = .ok (.iload_n 2, 1) := by decide +kernel
theorem dX6_turn_16 : decode cX6_turn 16 = .ok (.iconst 4, 1) := by decide +kernel
theorem dX6_turn_17 : decode cX6_turn 17 = .ok (.if_icmp .lt 6, 3) := by decide +kernel
theorem dX6_turn_20 : decode cX6_turn 20 = .ok (.bipush (-2), 2) := by decide +kernel
theorem dX6_turn_22 : decode cX6_turn 22 = .ok (.ireturn, 1) := by decide +kernel
theorem dX6_turn_23 : decode cX6_turn 23 = .ok (.aload_n 0, 1) := by decide +kernel
theorem dX6_turn_24 : decode cX6_turn 24 = .ok (.invokevirtual 65, 3) := by decide +kernel
theorem dX6_turn_27 : decode cX6_turn 27 = .ok (.aload_n 0, 1) := by decide +kernel
theorem dX6_turn_28 : decode cX6_turn 28 = .ok (.aload_n 0, 1) := by decide +kernel
theorem dX6_turn_29 : decode cX6_turn 29 = .ok (.getfield 20, 3) := by decide +kernel
theorem dX6_turn_32 : decode cX6_turn 32 = .ok (.iload_n 1, 1) := by decide +kernel
theorem dX6_turn_33 : decode cX6_turn 33 = .ok (.iload_n 2, 1) := by decide +kernel
theorem dX6_turn_34 : decode cX6_turn 34 = .ok (.invokevirtual 97, 3) := by decide +kernel
theorem dX6_turn_37 : decode cX6_turn 37 = .ok (.invokevirtual 76, 3) := by decide +kernel
theorem dX6_turn_40 : decode cX6_turn 40 = .ok (.ireturn, 1) := by decide +kernel
theorem dX6_move_0 : decode cX6_move 0 = .ok (.aload_n 0, 1) := by decide +kernel
theorem dX6_move_1 : decode cX6_move 1 = .ok (.iload_n 1, 1) := by decide +kernel
theorem dX6_move_2 : decode cX6_move 2 = .ok (.invokevirtual 91, 3) := by decide +kernel
theorem dX6_move_5 : decode cX6_move 5 = .ok (.ifCond .eq 11, 3) := by decide +kernel
theorem dX6_move_8 : decode cX6_move 8 = .ok (.aload_n 0, 1) := by decide +kernel
theorem dX6_move_9 : decode cX6_move 9 = .ok (.iload_n 2, 1) := by decide +kernel
theorem dX6_move_10 : decode cX6_move 10 = .ok (.invokevirtual 84, 3) := by decide +kernel
theorem dX6_move_13 : decode cX6_move 13 = .ok (.ifCond .ne 5, 3) := by decide +kernel
theorem dX6_move_16 : decode cX6_move 16 = .ok (.iconst (-1), 1) := by decide +kernel
theorem dX6_move_17 : decode cX6_move 17 = .ok (.ireturn, 1) := by decide +kernel
theorem dX6_move_18 : decode cX6_move 18 = .ok (.aload_n 0, 1) := by decide +kernel
theorem dX6_move_19 : decode cX6_move 19 = .ok (.getfield 20, 3) := by decide +kernel
theorem dX6_move_22 : decode cX6_move 22 = .ok (.getfield 56, 3) := by decide +kernel
theorem dX6_move_25 : decode cX6_move 25 = .ok (.getfield 100, 3) := by decide +kernel
theorem dX6_move_28 : decode cX6_move 28 = .ok (.iload_n 1, 1) := by decide +kernel
theorem dX6_move_29 : decode cX6_move 29 = .ok (.iaload, 1) := by decide +kernel
theorem dX6_move_30 : decode cX6_move 30 = .ok (.iload_n 2, 1) := by decide +kernel
theorem dX6_move_31 : decode cX6_move 31 = .ok (.if_icmp .ne 6, 3) := by decide +kernel
theorem dX6_move_34 : decode cX6_move 34 = .ok (.bipush (-5), 2) := by decide +kernel
theorem dX6_move_36 : decode cX6_move 36 = .ok (.ireturn, 1) := by decide +kernel
theorem dX6_move_37 : decode cX6_move 37 = .ok (.aload_n 0, 1) := by decide +kernel
theorem dX6_move_38 : decode cX6_move 38 = .ok (.invokevirtual 65, 3) := by decide +kernel
theorem dX6_move_41 : decode cX6_move 41 = .ok (.aload_n 0, 1) := by decide +kernel
theorem dX6_move_42 : decode cX6_move 42 = .ok (.aload_n 0, 1) := by decide +kernel
theorem dX6_move_43 : decode cX6_move 43 = .ok (.getfield 20, 3) := by decide +kernel
theorem dX6_move_46 : decode cX6_move 46 = .ok (.iload_n 1, 1) := by decide +kernel
theorem dX6_move_47 : decode cX6_move 47 = .ok (.iload_n 2, 1) := by decide +kernel
theorem dX6_move_48 : decode cX6_move 48 = .ok (.invokevirtual 104, 3) := by decide +kernel
theorem dX6_move_51 : decode cX6_move 51 = .ok (.invokevirtual 76, 3) := by decide +kernel
theorem dX6_move_54 : decode cX6_move 54 = .ok (.ireturn, 1) := by decide +kernel
theorem dX6_shift_0 : decode cX6_shift 0 = .ok (.iload_n 1, 1) := by decide +kernel
theorem dX6_shift_1 : decode cX6_shift 1 = .ok (.ifCond .lt 19, 3) := by decide +kernel
theorem dX6_shift_4 : decode cX6_shift 4 = .ok (.iload_n 1, 1) := by decide +kernel
theorem dX6_shift_5 : decode cX6_shift 5 = .ok (.bipush 15, 2) := by decide +kernel
theorem dX6_shift_7 : decode cX6_shift 7 = .ok (.if_icmp .ge 13, 3) := by decide +kernel
theorem dX6_shift_10 : decode cX6_shift 10 = .ok (.iload_n 2, 1) := by decide +kernel
theorem dX6_shift_11 : decode cX6_shift 11 = .ok (.ifCond .lt 9, 3) := by decide +kernel
theorem dX6_shift_14 : decode cX6_shift 14 = .ok (.iload_n 2, 1) := by decide +kernel
theorem dX6_shift_15 : decode cX6_shift 15 = .ok (.bipush 10, 2) := by decide +kernel
theorem dX6_shift_17 : decode cX6_shift 17 = .ok (.if_icmp .lt 6, 3) := by decide +kernel
theorem dX6_shift_20 : decode cX6_shift 20 = .ok (.bipush (-2), 2) := by decide +kernel
theorem dX6_shift_22 : decode cX6_shift 22 = .ok (.ireturn, 1) := by decide +kernel
theorem dX6_shift_23 : decode cX6_shift 23 = .ok (.aload_n 0, 1) := by decide +kernel
theorem dX6_shift_24 : decode cX6_shift 24 = .ok (.invokevirtual 65, 3) := by decide +kernel
theorem dX6_shift_27 : decode cX6_shift 27 = .ok (.aload_n 0, 1) := by decide +kernel
theorem dX6_shift_28 : decode cX6_shift 28 = .ok (.getfield 20, 3) := by decide +kernel
theorem dX6_shift_31 : decode cX6_shift 31 = .ok (.iload_n 1, 1) := by decide +kernel
theorem dX6_shift_32 : decode cX6_shift 32 = .ok (.iload_n 2, 1) := by decide +kernel
theorem dX6_shift_33 : decode cX6_shift 33 = .ok (.invokevirtual 107, 3) := by decide +kernel
theorem dX6_shift_36 : decode cX6_shift 36 = .ok (.aload_n 0, 1) := by decide +kernel
theorem dX6_shift_37 : decode cX6_shift 37 = .ok (.aload_n 0, 1) := by decide +kernel
theorem dX6_shift_38 : decode cX6_shift 38 = .ok (.getfield 20, 3) := by decide +kernel
theorem dX6_shift_41 : decode cX6_shift 41 = .ok (.getfield 56, 3) := by decide +kernel
theorem dX6_shift_44 : decode cX6_shift 44 = .ok (.getfield 111, 3) := by decide +kernel
theorem dX6_shift_47 : decode cX6_shift 47 = .ok (.invokevirtual 76, 3) := by decide +kernel
theorem dX6_shift_50 : decode cX6_shift 50 = .ok (.ireturn, 1) := by decide +kernel
theorem dX6_fill_0 : decode cX6_fill 0 = .ok (.aload_n 0, 1) := by decide +kernel
theorem dX6_fill_1 : decode cX6_fill 1 = .ok (.iload_n 1, 1) := by decide +kernel
theorem dX6_fill_2 : decode cX6_fill 2 = .ok (.invokevirtual 49, 3) := by decide +kernel
theorem dX6_fill_5 : decode cX6_fill 5 = .ok (.ifCond .ne 5, 3) := by decide +kernel
theorem dX6_fill_8 : decode cX6_fill 8 = .ok (.iconst (-1), 1) := by decide +kernel
theorem dX6_fill_9 : decode cX6_fill 9 = .ok (.ireturn, 1) := by decide +kernel
theorem dX6_fill_10 : decode cX6_fill 10 = .ok (.aload_n 0, 1) := by decide +kernel
theorem dX6_fill_11 : decode cX6_fill 11 = .ok (.invokevirtual 65, 3) := by decide +kernel
theorem dX6_fill_14 : decode cX6_fill 14 = .ok (.iconst 0, 1) := by decide +kernel
theorem dX6_fill_15 : decode cX6_fill 15 = .ok (.istore_n 2, 1) := by decide +kernel
theorem dX6_fill_16 : decode cX6_fill 16 = .ok (.iconst 0, 1) := by decide +kernel
theorem dX6_fill_17 : decode cX6_fill 17 = .ok (.istore_n 3, 1) := by decide +kernel
theorem dX6_fill_18 : decode cX6_fill 18 = .ok (.iload_n 3, 1) := by decide +kernel
theorem dX6_fill_19 : decode cX6_fill 19 = .ok (.sipush 150, 3) := by decide +kernel
theorem dX6_fill_22 : decode cX6_fill 22 = .ok (.if_icmp .ge 21, 3) := by decide +kernel
theorem dX6_fill_25 : decode cX6_fill 25 = .ok (.aload_n 0, 1) := by decide +kernel
theorem dX6_fill_26 : decode cX6_fill 26 = .ok (.iload_n 1, 1) := by decide +kernel
theorem dX6_fill_27 : decode cX6_fill 27 = .ok (.iload_n 3, 1) := by decide +kernel
theorem dX6_fill_28 : decode cX6_fill 28 = .ok (.invokevirtual 114, 3) := by decide +kernel
theorem dX6_fill_31 : decode cX6_fill 31 = .ok (.ifCond .eq 6, 3) := by decide +kernel
theorem dX6_fill_34 : decode cX6_fill 34 = .ok (.iinc 2 1, 3) := by decide +kernel
theorem dX6_fill_37 : decode cX6_fill 37 = .ok (.iinc 3 1, 3) := by decide +kernel
theorem dX6_fill_40 : decode cX6_fill 40 = .ok (.goto (-22), 3) := by decide +kernel
theorem dX6_fill_43 : decode cX6_fill 43 = .ok (.aload_n 0, 1) := by decide +kernel
theorem dX6_fill_44 : decode cX6_fill 44 = .ok (.iload_n 2, 1) := by decide +kernel
theorem dX6_fill_45 : decode cX6_fill 45 = .ok (.ifCond .ne 8, 3) := by decide +kernel
theorem dX6_fill_48 : decode cX6_fill 48 = .ok (.bipush (-5), 2) := by decide +kernel
theorem dX6_fill_50 : decode cX6_fill 50 = .ok (.goto 4, 3) := by decide +kernel
theorem dX6_fill_53 : decode cX6_fill 53 = .ok (.iload_n 2, 1) := by decide +kernel
theorem dX6_fill_54 : decode cX6_fill 54 = .ok (.invokevirtual 76, 3) := by decide +kernel
theorem dX6_fill_57 : decode cX6_fill 57 = .ok (.ireturn, 1) := by decide +kernel
theorem dX6_type_0 : decode cX6_type 0 = .ok (.aload_n 0, 1) := by decide +kernel
theorem dX6_type_1 : decode cX6_type 1 = .ok (.getfield 24, 3) := by decide +kernel
theorem dX6_type_4 : decode cX6_type 4 = .ok (.iload_n 1, 1) := by decide +kernel
theorem dX6_type_5 : decode cX6_type 5 = .ok (.invokevirtual 118, 3) := by decide +kernel
theorem dX6_type_8 : decode cX6_type 8 = .ok (.ifCond .eq 13, 3) := by decide +kernel
theorem dX6_type_11 : decode cX6_type 11 = .ok (.aload_n 0, 1) := by decide +kernel
theorem dX6_type_12 : decode cX6_type 12 = .ok (.getfield 24, 3) := by decide +kernel
theorem dX6_type_15 : decode cX6_type 15 = .ok (.invokevirtual 122, 3) := by decide +kernel
theorem dX6_type_18 : decode cX6_type 18 = .ok (.goto 5, 3) := by decide +kernel
theorem dX6_type_21 : decode cX6_type 21 = .ok (.bipush (-3), 2) := by decide +kernel
theorem dX6_type_23 : decode cX6_type 23 = .ok (.ireturn, 1) := by decide +kernel
theorem dX6_clearText_0 : decode cX6_clearText 0 = .ok (.aload_n 0, 1) := by decide +kernel
theorem dX6_clearText_1 : decode cX6_clearText 1 = .ok (.getfield 24, 3) := by decide +kernel
theorem dX6_clearText_4 : decode cX6_clearText 4 = .ok (.invokevirtual 122, 3) := by decide +kernel
theorem dX6_clearText_7 : decode cX6_clearText 7 = .ok (.istore_n 1, 1) := by decide +kernel
theorem dX6_clearText_8 : decode cX6_clearText 8 = .ok (.aload_n 0, 1) := by decide +kernel
theorem dX6_clearText_9 : decode cX6_clearText 9 = .ok (.getfield 24, 3) := by decide +kernel
theorem dX6_clearText_12 : decode cX6_clearText 12 = .ok (.invokevirtual 126, 3) := by decide +kernel
theorem dX6_clearText_15 : decode cX6_clearText 15 = .ok (.iload_n 1, 1) := by decide +kernel
theorem dX6_clearText_16 : decode cX6_clearText 16 = .ok (.ireturn, 1) := by decide +kernel
theorem dX6_perform_0 : decode cX6_perform 0 = .ok (.aload_n 0, 1) := by decide +kernel
theorem dX6_perform_1 : decode cX6_perform 1 = .ok (.getfield 24, 3) := by decide +kernel
theorem dX6_perform_4 : decode cX6_perform 4 = .ok (.invokevirtual 129, 3) := by decide +kernel
theorem dX6_perform_7 : decode cX6_perform 7 = .ok (.istore_n 1, 1) := by decide +kernel
theorem dX6_perform_8 : decode cX6_perform 8 = .ok (.aload_n 0, 1) := by decide +kernel
theorem dX6_perform_9 : decode cX6_perform 9 = .ok (.getfield 24, 3) := by decide +kernel
theorem dX6_perform_12 : decode cX6_perform 12 = .ok (.invokevirtual 132, 3) := by decide +kernel
theorem dX6_perform_15 : decode cX6_perform 15 = .ok (.ifCond .eq 14, 3) := by decide +kernel
theorem dX6_perform_18 : decode cX6_perform 18 = .ok (.bipush (-100), 2) := by decide +kernel
theorem dX6_perform_20 : decode cX6_perform 20 = .ok (.aload_n 0, 1) := by decide +kernel
theorem dX6_perform_21 : decode cX6_perform 21 = .ok (.getfield 24, 3) := by decide +kernel
theorem dX6_perform_24 : decode cX6_perform 24 = .ok (.invokevirtual 135, 3) := by decide +kernel
theorem dX6_perform_27 : decode cX6_perform 27 = .ok (.isub, 1) := by decide +kernel
theorem dX6_perform_28 : decode cX6_perform 28 = .ok (.ireturn, 1) := by decide +kernel
theorem dX6_perform_29 : decode cX6_perform 29 = .ok (.aload_n 0, 1) := by decide +kernel
theorem dX6_perform_30 : decode cX6_perform 30 = .ok (.invokevirtual 65, 3) := by decide +kernel
theorem dX6_perform_33 : decode cX6_perform 33 = .ok (.aload_n 0, 1) := by decide +kernel
theorem dX6_perform_34 : decode cX6_perform 34 = .ok (.getfield 24, 3) := by decide +kernel
theorem dX6_perform_37 : decode cX6_perform 37 = .ok (.invokevirtual 138, 3) := by decide +kernel
theorem dX6_perform_40 : decode cX6_perform 40 = .ok (.iconst 0, 1) := by decide +kernel
theorem dX6_perform_41 : decode cX6_perform 41 = .ok (.istore_n 2, 1) := by decide +kernel
theorem dX6_perform_42 : decode cX6_perform 42 = .ok (.iload_n 2, 1) := by decide +kernel
theorem dX6_perform_43 : decode cX6_perform 43 = .ok (.iload_n 1, 1) := by decide +kernel
theorem dX6_perform_44 : decode cX6_perform 44 = .ok (.if_icmp .ge 38, 3) := by decide +kernel
theorem dX6_perform_47 : decode cX6_perform 47 = .ok (.aload_n 0, 1) := by decide +kernel
theorem dX6_perform_48 : decode cX6_perform 48 = .ok (.getfield 24, 3) := by decide +kernel
theorem dX6_perform_51 : decode cX6_perform 51 = .ok (.invokevirtual 141, 3) := by decide +kernel
theorem dX6_perform_54 : decode cX6_perform 54 = .ok (.aload_n 0, 1) := by decide +kernel
theorem dX6_perform_55 : decode cX6_perform 55 = .ok (.invokevirtual 144, 3) := by decide +kernel
theorem dX6_perform_58 : decode cX6_perform 58 = .ok (.istore_n 3, 1) := by decide +kernel
theorem dX6_perform_59 : decode cX6_perform 59 = .ok (.iload_n 3, 1) := by decide +kernel
theorem dX6_perform_60 : decode cX6_perform 60 = .ok (.ifCond .ge 9, 3) := by decide +kernel
theorem dX6_perform_63 : decode cX6_perform 63 = .ok (.aload_n 0, 1) := by decide +kernel
theorem dX6_perform_64 : decode cX6_perform 64 = .ok (.iload_n 3, 1) := by decide +kernel
theorem dX6_perform_65 : decode cX6_perform 65 = .ok (.invokevirtual 76, 3) := by decide +kernel
theorem dX6_perform_68 : decode cX6_perform 68 = .ok (.ireturn, 1) := by decide +kernel
theorem dX6_perform_69 : decode cX6_perform 69 = .ok (.aload_n 0, 1) := by decide +kernel
theorem dX6_perform_70 : decode cX6_perform 70 = .ok (.getfield 24, 3) := by decide +kernel
theorem dX6_perform_73 : decode cX6_perform 73 = .ok (.invokevirtual 147, 3) := by decide +kernel
theorem dX6_perform_76 : decode cX6_perform 76 = .ok (.iinc 2 1, 3) := by decide +kernel
theorem dX6_perform_79 : decode cX6_perform 79 = .ok (.goto (-37), 3) := by decide +kernel
theorem dX6_perform_82 : decode cX6_perform 82 = .ok (.aload_n 0, 1) := by decide +kernel
theorem dX6_perform_83 : decode cX6_perform 83 = .ok (.iload_n 1, 1) := by decide +kernel
theorem dX6_perform_84 : decode cX6_perform 84 = .ok (.invokevirtual 76, 3) := by decide +kernel
theorem dX6_perform_87 : decode cX6_perform 87 = .ok (.ireturn, 1) := by decide +kernel
theorem dX6_undo_0 : decode cX6_undo 0 = .ok (.aload_n 0, 1) := by decide +kernel
theorem dX6_undo_1 : decode cX6_undo 1 = .ok (.getfield 31, 3) := by decide +kernel
theorem dX6_undo_4 : decode cX6_undo 4 = .ok (.invokevirtual 150, 3) := by decide +kernel
theorem dX6_undo_7 : decode cX6_undo 7 = .ok (.ifCond .ne 6, 3) := by decide +kernel
theorem dX6_undo_10 : decode cX6_undo 10 = .ok (.bipush (-5), 2) := by decide +kernel
theorem dX6_undo_12 : decode cX6_undo 12 = .ok (.ireturn, 1) := by decide +kernel
theorem dX6_undo_13 : decode cX6_undo 13 = .ok (.aload_n 0, 1) := by decide +kernel
theorem dX6_undo_14 : decode cX6_undo 14 = .ok (.getfield 31, 3) := by decide +kernel
theorem dX6_undo_17 : decode cX6_undo 17 = .ok (.aload_n 0, 1) := by decide +kernel
theorem dX6_undo_18 : decode cX6_undo 18 = .ok (.getfield 20, 3) := by decide +kernel
theorem dX6_undo_21 : decode cX6_undo 21 = .ok (.getfield 56, 3) := by decide +kernel
theorem dX6_undo_24 : decode cX6_undo 24 = .ok (.invokevirtual 152, 3) := by decide +kernel
theorem dX6_undo_27 : decode cX6_undo 27 = .ok (.aload_n 0, 1) := by decide +kernel
theorem dX6_undo_28 : decode cX6_undo 28 = .ok (.getfield 20, 3) := by decide +kernel
theorem dX6_undo_31 : decode cX6_undo 31 = .ok (.invokevirtual 156, 3) := by decide +kernel
theorem dX6_undo_34 : decode cX6_undo 34 = .ok (.aload_n 0, 1) := by decide +kernel
theorem dX6_undo_35 : decode cX6_undo 35 = .ok (.getfield 31, 3) := by decide +kernel
theorem dX6_undo_38 : decode cX6_undo 38 = .ok (.invokevirtual 150, 3) := by decide +kernel
theorem dX6_undo_41 : decode cX6_undo 41 = .ok (.ireturn, 1) := by decide +kernel
theorem dX6_keep_0 : decode cX6_keep 0 = .ok (.aload_n 0, 1) := by decide +kernel
theorem dX6_keep_1 : decode cX6_keep 1 = .ok (.getfield 42, 3) := by decide +kernel
theorem dX6_keep_4 : decode cX6_keep 4 = .ok (.aload_n 0, 1) := by decide +kernel
theorem dX6_keep_5 : decode cX6_keep 5 = .ok (.getfield 20, 3) := by decide +kernel
theorem dX6_keep_8 : decode cX6_keep 8 = .ok (.getfield 56, 3) := by decide +kernel
theorem dX6_keep_11 : decode cX6_keep 11 = .ok (.invokevirtual 159, 3) := by decide +kernel
theorem dX6_keep_14 : decode cX6_keep 14 = .ok (.aload_n 0, 1) := by decide +kernel
theorem dX6_keep_15 : decode cX6_keep 15 = .ok (.iconst 1, 1) := by decide +kernel
theorem dX6_keep_16 : decode cX6_keep 16 = .ok (.putfield 45, 3) := by decide +kernel
theorem dX6_keep_19 : decode cX6_keep 19 = .ok (.aload_n 0, 1) := by decide +kernel
theorem dX6_keep_20 : decode cX6_keep 20 = .ok (.getfield 20, 3) := by decide +kernel
theorem dX6_keep_23 : decode cX6_keep 23 = .ok (.getfield 56, 3) := by decide +kernel
theorem dX6_keep_26 : decode cX6_keep 26 = .ok (.getfield 111, 3) := by decide +kernel
theorem dX6_keep_29 : decode cX6_keep 29 = .ok (.ireturn, 1) := by decide +kernel
theorem dX6_restore_0 : decode cX6_restore 0 = .ok (.aload_n 0, 1) := by decide +kernel
theorem dX6_restore_1 : decode cX6_restore 1 = .ok (.getfield 45, 3) := by decide +kernel
theorem dX6_restore_4 : decode cX6_restore 4 = .ok (.ifCond .ne 6, 3) := by decide +kernel
theorem dX6_restore_7 : decode cX6_restore 7 = .ok (.bipush (-5), 2) := by decide +kernel
theorem dX6_restore_9 : decode cX6_restore 9 = .ok (.ireturn, 1) := by decide +kernel
theorem dX6_restore_10 : decode cX6_restore 10 = .ok (.aload_n 0, 1) := by decide +kernel
theorem dX6_restore_11 : decode cX6_restore 11 = .ok (.invokevirtual 65, 3) := by decide +kernel
theorem dX6_restore_14 : decode cX6_restore 14 = .ok (.aload_n 0, 1) := by decide +kernel
theorem dX6_restore_15 : decode cX6_restore 15 = .ok (.getfield 20, 3) := by decide +kernel
theorem dX6_restore_18 : decode cX6_restore 18 = .ok (.getfield 56, 3) := by decide +kernel
theorem dX6_restore_21 : decode cX6_restore 21 = .ok (.aload_n 0, 1) := by decide +kernel
theorem dX6_restore_22 : decode cX6_restore 22 = .ok (.getfield 42, 3) := by decide +kernel
theorem dX6_restore_25 : decode cX6_restore 25 = .ok (.invokevirtual 159, 3) := by decide +kernel
theorem dX6_restore_28 : decode cX6_restore 28 = .ok (.aload_n 0, 1) := by decide +kernel
theorem dX6_restore_29 : decode cX6_restore 29 = .ok (.getfield 20, 3) := by decide +kernel
theorem dX6_restore_32 : decode cX6_restore 32 = .ok (.invokevirtual 156, 3) := by decide +kernel
theorem dX6_restore_35 : decode cX6_restore 35 = .ok (.aload_n 0, 1) := by decide +kernel
theorem dX6_restore_36 : decode cX6_restore 36 = .ok (.aload_n 0, 1) := by decide +kernel
theorem dX6_restore_37 : decode cX6_restore 37 = .ok (.getfield 20, 3) := by decide +kernel
theorem dX6_restore_40 : decode cX6_restore 40 = .ok (.getfield 56, 3) := by decide +kernel
theorem dX6_restore_43 : decode cX6_restore 43 = .ok (.getfield 111, 3) := by decide +kernel
theorem dX6_restore_46 : decode cX6_restore 46 = .ok (.invokevirtual 76, 3) := by decide +kernel
theorem dX6_restore_49 : decode cX6_restore 49 = .ok (.ireturn, 1) := by decide +kernel
theorem dX6_colour_0 : decode cX6_colour 0 = .ok (.aload_n 0, 1) := by decide +kernel
theorem dX6_colour_1 : decode cX6_colour 1 = .ok (.iload_n 1, 1) := by decide +kernel
theorem dX6_colour_2 : decode cX6_colour 2 = .ok (.invokevirtual 49, 3) := by decide +kernel
theorem dX6_colour_5 : decode cX6_colour 5 = .ok (.ifCond .ne 5, 3) := by decide +kernel
theorem dX6_colour_8 : decode cX6_colour 8 = .ok (.iconst (-1), 1) := by decide +kernel
theorem dX6_colour_9 : decode cX6_colour 9 = .ok (.ireturn, 1) := by decide +kernel
theorem dX6_colour_10 : decode cX6_colour 10 = .ok (.aload_n 0, 1) := by decide +kernel
theorem dX6_colour_11 : decode cX6_colour 11 = .ok (.iload_n 2, 1) := by decide +kernel
theorem dX6_colour_12 : decode cX6_colour 12 = .ok (.invokevirtual 53, 3) := by decide +kernel
theorem dX6_colour_15 : decode cX6_colour 15 = .ok (.ifCond .eq 18, 3) := by decide +kernel
theorem dX6_colour_18 : decode cX6_colour 18 = .ok (.aload_n 0, 1) := by decide +kernel
theorem dX6_colour_19 : decode cX6_colour 19 = .ok (.getfield 20, 3) := by decide +kernel
theorem dX6_colour_22 : decode cX6_colour 22 = .ok (.getfield 56, 3) := by decide +kernel
theorem dX6_colour_25 : decode cX6_colour 25 = .ok (.iload_n 1, 1) := by decide +kernel
theorem dX6_colour_26 : decode cX6_colour 26 = .ok (.iload_n 2, 1) := by decide +kernel
theorem dX6_colour_27 : decode cX6_colour 27 = .ok (.invokevirtual 61, 3) := by decide +kernel
theorem dX6_colour_30 : decode cX6_colour 30 = .ok (.goto 5, 3) := by decide +kernel
theorem dX6_colour_33 : decode cX6_colour 33 = .ok (.bipush (-2), 2) := by decide +kernel
theorem dX6_colour_35 : decode cX6_colour 35 = .ok (.ireturn, 1) := by decide +kernel
theorem dX6_cell_0 : decode cX6_cell 0 = .ok (.aload_n 0, 1) := by decide +kernel
theorem dX6_cell_1 : decode cX6_cell 1 = .ok (.iload_n 1, 1) := by decide +kernel
theorem dX6_cell_2 : decode cX6_cell 2 = .ok (.invokevirtual 84, 3) := by decide +kernel
theorem dX6_cell_5 : decode cX6_cell 5 = .ok (.ifCond .ne 5, 3) := by decide +kernel
theorem dX6_cell_8 : decode cX6_cell 8 = .ok (.iconst (-1), 1) := by decide +kernel
theorem dX6_cell_9 : decode cX6_cell 9 = .ok (.ireturn, 1) := by decide +kernel
theorem dX6_cell_10 : decode cX6_cell 10 = .ok (.aload_n 0, 1) := by decide +kernel
theorem dX6_cell_11 : decode cX6_cell 11 = .ok (.getfield 20, 3) := by decide +kernel
theorem dX6_cell_14 : decode cX6_cell 14 = .ok (.iload_n 1, 1) := by decide +kernel
theorem dX6_cell_15 : decode cX6_cell 15 = .ok (.invokevirtual 162, 3) := by decide +kernel
theorem dX6_cell_18 : decode cX6_cell 18 = .ok (.istore_n 3, 1) := by decide +kernel
theorem dX6_cell_19 : decode cX6_cell 19 = .ok (.aload_n 0, 1) := by decide +kernel
theorem dX6_cell_20 : decode cX6_cell 20 = .ok (.getfield 20, 3) := by decide +kernel
theorem dX6_cell_23 : decode cX6_cell 23 = .ok (.iload_n 1, 1) := by decide +kernel
theorem dX6_cell_24 : decode cX6_cell 24 = .ok (.invokevirtual 165, 3) := by decide +kernel
theorem dX6_cell_27 : decode cX6_cell 27 = .ok (.istore 4, 2) := by decide +kernel
theorem dX6_cell_29 : decode cX6_cell 29 = .ok (.iload_n 2, 1) := by decide +kernel
theorem dX6_cell_30 : decode cX6_cell 30 = .ok (.tableswitch 91 0 3 #[30, 42, 55, 82], 30) := by decide +kernel
theorem dX6_cell_60 : decode cX6_cell 60 = .ok (.iload_n 3, 1) := by decide +kernel
theorem dX6_cell_61 : decode cX6_cell 61 = .ok (.iconst (-1), 1) := by decide +kernel
theorem dX6_cell_62 : decode cX6_cell 62 = .ok (.if_icmp .ne 8, 3) := by decide +kernel
theorem dX6_cell_65 : decode cX6_cell 65 = .ok (.bipush (-5), 2) := by decide +kernel
theorem dX6_cell_67 : decode cX6_cell 67 = .ok (.goto 4, 3) := by decide +kernel
theorem dX6_cell_70 : decode cX6_cell 70 = .ok (.iload_n 3, 1) := by decide +kernel
theorem dX6_cell_71 : decode cX6_cell 71 = .ok (.ireturn, 1) := by decide +kernel
theorem dX6_cell_72 : decode cX6_cell 72 = .ok (.iload_n 3, 1) := by decide +kernel
theorem dX6_cell_73 : decode cX6_cell 73 = .ok (.iconst (-1), 1) := by decide +kernel
theorem dX6_cell_74 : decode cX6_cell 74 = .ok (.if_icmp .ne 8, 3) := by decide +kernel
theorem dX6_cell_77 : decode cX6_cell 77 = .ok (.bipush (-5), 2) := by decide +kernel
theorem dX6_cell_79 : decode cX6_cell 79 = .ok (.goto 5, 3) := by decide +kernel
theorem dX6_cell_82 : decode cX6_cell 82 = .ok (.iload 4, 2) := by decide +kernel
theorem dX6_cell_84 : decode cX6_cell 84 = .ok (.ireturn, 1) := by decide +kernel
theorem dX6_cell_85 : decode cX6_cell 85 = .ok (.iload_n 3, 1) := by decide +kernel
theorem dX6_cell_86 : decode cX6_cell 86 = .ok (.iconst (-1), 1) := by decide +kernel
theorem dX6_cell_87 : decode cX6_cell 87 = .ok (.if_icmp .eq 9, 3) := by decide +kernel
theorem dX6_cell_90 : decode cX6_cell 90 = .ok (.iload 4, 2) := by decide +kernel
theorem dX6_cell_92 : decode cX6_cell 92 = .ok (.iconst 4, 1) := by decide +kernel
theorem dX6_cell_93 : decode cX6_cell 93 = .ok (.if_icmp .ne 8, 3) := by decide +kernel
theorem dX6_cell_96 : decode cX6_cell 96 = .ok (.bipush (-5), 2) := by decide +kernel
theorem dX6_cell_98 : decode cX6_cell 98 = .ok (.goto 13, 3) := by decide +kernel
theorem dX6_cell_101 : decode cX6_cell 101 = .ok (.aload_n 0, 1) := by decide +kernel
theorem dX6_cell_102 : decode cX6_cell 102 = .ok (.getfield 20, 3) := by decide +kernel
theorem dX6_cell_105 : decode cX6_cell 105 = .ok (.iload_n 3, 1) := by decide +kernel
theorem dX6_cell_106 : decode cX6_cell 106 = .ok (.iload 4, 2) := by decide +kernel
theorem dX6_cell_108 : decode cX6_cell 108 = .ok (.invokevirtual 168, 3) := by decide +kernel
theorem dX6_cell_111 : decode cX6_cell 111 = .ok (.ireturn, 1) := by decide +kernel
theorem dX6_cell_112 : decode cX6_cell 112 = .ok (.aload_n 0, 1) := by decide +kernel
theorem dX6_cell_113 : decode cX6_cell 113 = .ok (.getfield 10, 3) := by decide +kernel
theorem dX6_cell_116 : decode cX6_cell 116 = .ok (.iload_n 1, 1) := by decide +kernel
theorem dX6_cell_117 : decode cX6_cell 117 = .ok (.invokevirtual 171, 3) := by decide +kernel
theorem dX6_cell_120 : decode cX6_cell 120 = .ok (.ireturn, 1) := by decide +kernel
theorem dX6_cell_121 : decode cX6_cell 121 = .ok (.bipush (-2), 2) := by decide +kernel
theorem dX6_cell_123 : decode cX6_cell 123 = .ok (.ireturn, 1) := by decide +kernel
theorem dX6_cross_0 : decode cX6_cross 0 = .ok (.aload_n 0, 1) := by decide +kernel
theorem dX6_cross_1 : decode cX6_cross 1 = .ok (.iload_n 1, 1) := by decide +kernel
theorem dX6_cross_2 : decode cX6_cross 2 = .ok (.invokevirtual 91, 3) := by decide +kernel
theorem dX6_cross_5 : decode cX6_cross 5 = .ok (.ifCond .ne 5, 3) := by decide +kernel
theorem dX6_cross_8 : decode cX6_cross 8 = .ok (.iconst (-1), 1) := by decide +kernel
theorem dX6_cross_9 : decode cX6_cross 9 = .ok (.ireturn, 1) := by decide +kernel
theorem dX6_cross_10 : decode cX6_cross 10 = .ok (.iload_n 2, 1) := by decide +kernel
theorem dX6_cross_11 : decode cX6_cross 11 = .ok (.tableswitch 128 0 6 #[41, 54, 67, 80, 101, 110, 119], 41) := by decide +kernel
theorem dX6_cross_52 : decode cX6_cross 52 = .ok (.aload_n 0, 1) := by decide +kernel
theorem dX6_cross_53 : decode cX6_cross 53 = .ok (.getfield 20, 3) := by decide +kernel
theorem dX6_cross_56 : decode cX6_cross 56 = .ok (.getfield 56, 3) := by decide +kernel
theorem dX6_cross_59 : decode cX6_cross 59 = .ok (.getfield 174, 3) := by decide +kernel
theorem dX6_cross_62 : decode cX6_cross 62 = .ok (.iload_n 1, 1) := by decide +kernel
theorem dX6_cross_63 : decode cX6_cross 63 = .ok (.iaload, 1) := by decide +kernel
theorem dX6_cross_64 : decode cX6_cross 64 = .ok (.ireturn, 1) := by decide +kernel
theorem dX6_cross_65 : decode cX6_cross 65 = .ok (.aload_n 0, 1) := by decide +kernel
theorem dX6_cross_66 : decode cX6_cross 66 = .ok (.getfield 20, 3) := by decide +kernel
theorem dX6_cross_69 : decode cX6_cross 69 = .ok (.getfield 56, 3) := by decide +kernel
theorem dX6_cross_72 : decode cX6_cross 72 = .ok (.getfield 177, 3) := by decide +kernel
theorem dX6_cross_75 : decode cX6_cross 75 = .ok (.iload_n 1, 1) := by decide +kernel
theorem dX6_cross_76 : decode cX6_cross 76 = .ok (.iaload, 1) := by decide +kernel
theorem dX6_cross_77 : decode cX6_cross 77 = .ok (.ireturn, 1) := by decide +kernel
theorem dX6_cross_78 : decode cX6_cross 78 = .ok (.aload_n 0, 1) := by decide +kernel
theorem dX6_cross_79 : decode cX6_cross 79 = .ok (.getfield 20, 3) := by decide +kernel
theorem dX6_cross_82 : decode cX6_cross 82 = .ok (.getfield 56, 3) := by decide +kernel
theorem dX6_cross_85 : decode cX6_cross 85 = .ok (.getfield 100, 3) := by decide +kernel
theorem dX6_cross_88 : decode cX6_cross 88 = .ok (.iload_n 1, 1) := by decide +kernel
theorem dX6_cross_89 : decode cX6_cross 89 = .ok (.iaload, 1) := by decide +kernel
theorem dX6_cross_90 : decode cX6_cross 90 = .ok (.ireturn, 1) := by decide +kernel
theorem dX6_cross_91 : decode cX6_cross 91 = .ok (.aload_n 0, 1) := by decide +kernel
theorem dX6_cross_92 : decode cX6_cross 92 = .ok (.getfield 10, 3) := by decide +kernel
theorem dX6_cross_95 : decode cX6_cross 95 = .ok (.aload_n 0, 1) := by decide +kernel
theorem dX6_cross_96 : decode cX6_cross 96 = .ok (.getfield 20, 3) := by decide +kernel
theorem dX6_cross_99 : decode cX6_cross 99 = .ok (.getfield 56, 3) := by decide +kernel
theorem dX6_cross_102 : decode cX6_cross 102 = .ok (.getfield 100, 3) := by decide +kernel
theorem dX6_cross_105 : decode cX6_cross 105 = .ok (.iload_n 1, 1) := by decide +kernel
theorem dX6_cross_106 : decode cX6_cross 106 = .ok (.iaload, 1) := by decide +kernel
theorem dX6_cross_107 : decode cX6_cross 107 = .ok (.iload_n 1, 1) := by decide +kernel
theorem dX6_cross_108 : decode cX6_cross 108 = .ok (.invokevirtual 180, 3) := by decide +kernel
theorem dX6_cross_111 : decode cX6_cross 111 = .ok (.ireturn, 1) := by decide +kernel
theorem dX6_cross_112 : decode cX6_cross 112 = .ok (.aload_n 0, 1) := by decide +kernel
theorem dX6_cross_113 : decode cX6_cross 113 = .ok (.getfield 10, 3) := by decide +kernel
theorem dX6_cross_116 : decode cX6_cross 116 = .ok (.iload_n 1, 1) := by decide +kernel
theorem dX6_cross_117 : decode cX6_cross 117 = .ok (.invokevirtual 183, 3) := by decide +kernel
theorem dX6_cross_120 : decode cX6_cross 120 = .ok (.ireturn, 1) := by decide +kernel
theorem dX6_cross_121 : decode cX6_cross 121 = .ok (.aload_n 0, 1) := by decide +kernel
theorem dX6_cross_122 : decode cX6_cross 122 = .ok (.getfield 10, 3) := by decide +kernel
theorem dX6_cross_125 : decode cX6_cross 125 = .ok (.iload_n 1, 1) := by decide +kernel
theorem dX6_cross_126 : decode cX6_cross 126 = .ok (.invokevirtual 186, 3) := by decide +kernel
theorem dX6_cross_129 : decode cX6_cross 129 = .ok (.ireturn, 1) := by decide +kernel
theorem dX6_cross_130 : decode cX6_cross 130 = .ok (.aload_n 0, 1) := by decide +kernel
theorem dX6_cross_131 : decode cX6_cross 131 = .ok (.getfield 10, 3) := by decide +kernel
theorem dX6_cross_134 : decode cX6_cross 134 = .ok (.iload_n 1, 1) := by decide +kernel
theorem dX6_cross_135 : decode cX6_cross 135 = .ok (.invokevirtual 189, 3) := by decide +kernel
theorem dX6_cross_138 : decode cX6_cross 138 = .ok (.ireturn, 1) := by decide +kernel
theorem dX6_cross_139 : decode cX6_cross 139 = .ok (.bipush (-2), 2) := by decide +kernel
theorem dX6_cross_141 : decode cX6_cross 141 = .ok (.ireturn, 1) := by decide +kernel
theorem dX6_total_0 : decode cX6_total 0 = .ok (.iload_n 1, 1) := by decide +kernel
theorem dX6_total_1 : decode cX6_total 1 = .ok (.tableswitch 164 0 10 #[59, 70, 81, 98, 106, 114, 123, 131, 140, 148, 156], 59) := by decide +kernel
theorem dX6_total_60 : decode cX6_total 60 = .ok (.aload_n 0, 1) := by decide +kernel
theorem dX6_total_61 : decode cX6_total 61 = .ok (.getfield 20, 3) := by decide +kernel
theorem dX6_total_64 : decode cX6_total 64 = .ok (.getfield 56, 3) := by decide +kernel
theorem dX6_total_67 : decode cX6_total 67 = .ok (.getfield 111, 3) := by decide +kernel
theorem dX6_total_70 : decode cX6_total 70 = .ok (.ireturn, 1) := by decide +kernel
theorem dX6_total_71 : decode cX6_total 71 = .ok (.aload_n 0, 1) := by decide +kernel
theorem dX6_total_72 : decode cX6_total 72 = .ok (.getfield 20, 3) := by decide +kernel
theorem dX6_total_75 : decode cX6_total 75 = .ok (.getfield 56, 3) := by decide +kernel
theorem dX6_total_78 : decode cX6_total 78 = .ok (.getfield 80, 3) := by decide +kernel
theorem dX6_total_81 : decode cX6_total 81 = .ok (.ireturn, 1) := by decide +kernel
theorem dX6_total_82 : decode cX6_total 82 = .ok (.sipush 150, 3) := by decide +kernel
theorem dX6_total_85 : decode cX6_total 85 = .ok (.iconst 5, 1) := by decide +kernel
theorem dX6_total_86 : decode cX6_total 86 = .ok (.aload_n 0, 1) := by decide +kernel
theorem dX6_total_87 : decode cX6_total 87 = .ok (.getfield 20, 3) := by decide +kernel
theorem dX6_total_90 : decode cX6_total 90 = .ok (.getfield 56, 3) := by decide +kernel
theorem dX6_total_93 : decode cX6_total 93 = .ok (.getfield 111, 3) := by decide +kernel
theorem dX6_total_96 : decode cX6_total 96 = .ok (.imul, 1) := by decide +kernel
theorem dX6_total_97 : decode cX6_total 97 = .ok (.isub, 1) := by decide +kernel
theorem dX6_total_98 : decode cX6_total 98 = .ok (.ireturn, 1) := by decide +kernel
theorem dX6_total_99 : decode cX6_total 99 = .ok (.aload_n 0, 1) := by decide +kernel
theorem dX6_total_100 : decode cX6_total 100 = .ok (.getfield 10, 3) := by decide +kernel
theorem dX6_total_103 : decode cX6_total 103 = .ok (.invokevirtual 192, 3) := by decide +kernel
theorem dX6_total_106 : decode cX6_total 106 = .ok (.ireturn, 1) := by decide +kernel
theorem dX6_total_107 : decode cX6_total 107 = .ok (.aload_n 0, 1) := by decide +kernel
theorem dX6_total_108 : decode cX6_total 108 = .ok (.getfield 10, 3) := by decide +kernel
theorem dX6_total_111 : decode cX6_total 111 = .ok (.invokevirtual 195, 3) := by decide +kernel
theorem dX6_total_114 : decode cX6_total 114 = .ok (.ireturn, 1) := by decide +kernel
theorem dX6_total_115 : decode cX6_total 115 = .ok (.aload_n 0, 1) := by decide +kernel
theorem dX6_total_116 : decode cX6_total 116 = .ok (.getfield 10, 3) := by decide +kernel
theorem dX6_total_119 : decode cX6_total 119 = .ok (.iconst 1, 1) := by decide +kernel
theorem dX6_total_120 : decode cX6_total 120 = .ok (.invokevirtual 198, 3) := by decide +kernel
theorem dX6_total_123 : decode cX6_total 123 = .ok (.ireturn, 1) := by decide +kernel
theorem dX6_total_124 : decode cX6_total 124 = .ok (.aload_n 0, 1) := by decide +kernel
theorem dX6_total_125 : decode cX6_total 125 = .ok (.getfield 10, 3) := by decide +kernel
theorem dX6_total_128 : decode cX6_total 128 = .ok (.invokevirtual 202, 3) := by decide +kernel
theorem dX6_total_131 : decode cX6_total 131 = .ok (.ireturn, 1) := by decide +kernel
theorem dX6_total_132 : decode cX6_total 132 = .ok (.aload_n 0, 1) := by decide +kernel
theorem dX6_total_133 : decode cX6_total 133 = .ok (.getfield 10, 3) := by decide +kernel
theorem dX6_total_136 : decode cX6_total 136 = .ok (.iconst 0, 1) := by decide +kernel
theorem dX6_total_137 : decode cX6_total 137 = .ok (.invokevirtual 198, 3) := by decide +kernel
theorem dX6_total_140 : decode cX6_total 140 = .ok (.ireturn, 1) := by decide +kernel
theorem dX6_total_141 : decode cX6_total 141 = .ok (.aload_n 0, 1) := by decide +kernel
theorem dX6_total_142 : decode cX6_total 142 = .ok (.getfield 10, 3) := by decide +kernel
theorem dX6_total_145 : decode cX6_total 145 = .ok (.invokevirtual 205, 3) := by decide +kernel
theorem dX6_total_148 : decode cX6_total 148 = .ok (.ireturn, 1) := by decide +kernel
theorem dX6_total_149 : decode cX6_total 149 = .ok (.aload_n 0, 1) := by decide +kernel
theorem dX6_total_150 : decode cX6_total 150 = .ok (.getfield 31, 3) := by decide +kernel
theorem dX6_total_153 : decode cX6_total 153 = .ok (.invokevirtual 150, 3) := by decide +kernel
theorem dX6_total_156 : decode cX6_total 156 = .ok (.ireturn, 1) := by decide +kernel
theorem dX6_total_157 : decode cX6_total 157 = .ok (.aload_n 0, 1) := by decide +kernel
theorem dX6_total_158 : decode cX6_total 158 = .ok (.getfield 24, 3) := by decide +kernel
theorem dX6_total_161 : decode cX6_total 161 = .ok (.invokevirtual 122, 3) := by decide +kernel
theorem dX6_total_164 : decode cX6_total 164 = .ok (.ireturn, 1) := by decide +kernel
theorem dX6_total_165 : decode cX6_total 165 = .ok (.bipush (-2), 2) := by decide +kernel
theorem dX6_total_167 : decode cX6_total 167 = .ok (.ireturn, 1) := by decide +kernel
theorem dX6_reason_0 : decode cX6_reason 0 = .ok (.aload_n 0, 1) := by decide +kernel
theorem dX6_reason_1 : decode cX6_reason 1 = .ok (.iload_n 1, 1) := by decide +kernel
theorem dX6_reason_2 : decode cX6_reason 2 = .ok (.invokevirtual 49, 3) := by decide +kernel
theorem dX6_reason_5 : decode cX6_reason 5 = .ok (.ifCond .eq 11, 3) := by decide +kernel
theorem dX6_reason_8 : decode cX6_reason 8 = .ok (.aload_n 0, 1) := by decide +kernel
theorem dX6_reason_9 : decode cX6_reason 9 = .ok (.iload_n 3, 1) := by decide +kernel
theorem dX6_reason_10 : decode cX6_reason 10 = .ok (.invokevirtual 84, 3) := by decide +kernel
theorem dX6_reason_13 : decode cX6_reason 13 = .ok (.ifCond .ne 5, 3) := by decide +kernel
theorem dX6_reason_16 : decode cX6_reason 16 = .ok (.iconst (-1), 1) := by decide +kernel
theorem dX6_reason_17 : decode cX6_reason 17 = .ok (.ireturn, 1) := by decide +kernel
theorem dX6_reason_18 : decode cX6_reason 18 = .ok (.aload_n 0, 1) := by decide +kernel
theorem dX6_reason_19 : decode cX6_reason 19 = .ok (.iload_n 2, 1) := by decide +kernel
theorem dX6_reason_20 : decode cX6_reason 20 = .ok (.invokevirtual 53, 3) := by decide +kernel
theorem dX6_reason_23 : decode cX6_reason 23 = .ok (.ifCond .eq 17, 3) := by decide +kernel
theorem dX6_reason_26 : decode cX6_reason 26 = .ok (.aload_n 0, 1) := by decide +kernel
theorem dX6_reason_27 : decode cX6_reason 27 = .ok (.getfield 20, 3) := by decide +kernel
theorem dX6_reason_30 : decode cX6_reason 30 = .ok (.iload_n 1, 1) := by decide +kernel
theorem dX6_reason_31 : decode cX6_reason 31 = .ok (.iload_n 2, 1) := by decide +kernel
theorem dX6_reason_32 : decode cX6_reason 32 = .ok (.iload_n 3, 1) := by decide +kernel
theorem dX6_reason_33 : decode cX6_reason 33 = .ok (.iconst (-1), 1) := by decide +kernel
theorem dX6_reason_34 : decode cX6_reason 34 = .ok (.invokevirtual 208, 3) := by decide +kernel
theorem dX6_reason_37 : decode cX6_reason 37 = .ok (.goto 5, 3) := by decide +kernel
theorem dX6_reason_40 : decode cX6_reason 40 = .ok (.bipush (-2), 2) := by decide +kernel
theorem dX6_reason_42 : decode cX6_reason 42 = .ok (.ireturn, 1) := by decide +kernel
theorem dX6_places_0 : decode cX6_places 0 = .ok (.aload_n 0, 1) := by decide +kernel
theorem dX6_places_1 : decode cX6_places 1 = .ok (.iload_n 1, 1) := by decide +kernel
theorem dX6_places_2 : decode cX6_places 2 = .ok (.invokevirtual 49, 3) := by decide +kernel
theorem dX6_places_5 : decode cX6_places 5 = .ok (.ifCond .eq 14, 3) := by decide +kernel
theorem dX6_places_8 : decode cX6_places 8 = .ok (.aload_n 0, 1) := by decide +kernel
theorem dX6_places_9 : decode cX6_places 9 = .ok (.getfield 10, 3) := by decide +kernel
theorem dX6_places_12 : decode cX6_places 12 = .ok (.iload_n 1, 1) := by decide +kernel
theorem dX6_places_13 : decode cX6_places 13 = .ok (.invokevirtual 212, 3) := by decide +kernel
theorem dX6_places_16 : decode cX6_places 16 = .ok (.goto 4, 3) := by decide +kernel
theorem dX6_places_19 : decode cX6_places 19 = .ok (.iconst (-1), 1) := by decide +kernel
theorem dX6_places_20 : decode cX6_places 20 = .ok (.ireturn, 1) := by decide +kernel
theorem dX6_bestPlace_0 : decode cX6_bestPlace 0 = .ok (.aload_n 0, 1) := by decide +kernel
theorem dX6_bestPlace_1 : decode cX6_bestPlace 1 = .ok (.iload_n 1, 1) := by decide +kernel
theorem dX6_bestPlace_2 : decode cX6_bestPlace 2 = .ok (.invokevirtual 49, 3) := by decide +kernel
theorem dX6_bestPlace_5 : decode cX6_bestPlace 5 = .ok (.ifCond .ne 5, 3) := by decide +kernel
theorem dX6_bestPlace_8 : decode cX6_bestPlace 8 = .ok (.iconst (-1), 1) := by decide +kernel
theorem dX6_bestPlace_9 : decode cX6_bestPlace 9 = .ok (.ireturn, 1) := by decide +kernel
theorem dX6_bestPlace_10 : decode cX6_bestPlace 10 = .ok (.iload_n 2, 1) := by decide +kernel
theorem dX6_bestPlace_11 : decode cX6_bestPlace 11 = .ok (.ifCond .lt 8, 3) := by decide +kernel
theorem dX6_bestPlace_14 : decode cX6_bestPlace 14 = .ok (.iload_n 2, 1) := by decide +kernel
theorem dX6_bestPlace_15 : decode cX6_bestPlace 15 = .ok (.iconst 1, 1) := by decide +kernel
theorem dX6_bestPlace_16 : decode cX6_bestPlace 16 = .ok (.if_icmp .le 6, 3) := by decide +kernel
theorem dX6_bestPlace_19 : decode cX6_bestPlace 19 = .ok (.bipush (-2), 2) := by decide +kernel
theorem dX6_bestPlace_21 : decode cX6_bestPlace 21 = .ok (.ireturn, 1) := by decide +kernel
theorem dX6_bestPlace_22 : decode cX6_bestPlace 22 = .ok (.aload_n 0, 1) := by decide +kernel
theorem dX6_bestPlace_23 : decode cX6_bestPlace 23 = .ok (.getfield 10, 3) := by decide +kernel
theorem dX6_bestPlace_26 : decode cX6_bestPlace 26 = .ok (.iload_n 1, 1) := by decide +kernel
theorem dX6_bestPlace_27 : decode cX6_bestPlace 27 = .ok (.invokevirtual 215, 3) := by decide +kernel
theorem dX6_bestPlace_30 : decode cX6_bestPlace 30 = .ok (.istore_n 3, 1) := by decide +kernel
theorem dX6_bestPlace_31 : decode cX6_bestPlace 31 = .ok (.iload_n 3, 1) := by decide +kernel
theorem dX6_bestPlace_32 : decode cX6_bestPlace 32 = .ok (.ifCond .lt 7, 3) := by decide +kernel
theorem dX6_bestPlace_35 : decode cX6_bestPlace 35 = .ok (.iload_n 2, 1) := by decide +kernel
theorem dX6_bestPlace_36 : decode cX6_bestPlace 36 = .ok (.ifCond .ne 5, 3) := by decide +kernel
theorem dX6_bestPlace_39 : decode cX6_bestPlace 39 = .ok (.iload_n 3, 1) := by decide +kernel
theorem dX6_bestPlace_40 : decode cX6_bestPlace 40 = .ok (.ireturn, 1) := by decide +kernel
theorem dX6_bestPlace_41 : decode cX6_bestPlace 41 = .ok (.aload_n 0, 1) := by decide +kernel
theorem dX6_bestPlace_42 : decode cX6_bestPlace 42 = .ok (.getfield 10, 3) := by decide +kernel
theorem dX6_bestPlace_45 : decode cX6_bestPlace 45 = .ok (.iload_n 3, 1) := by decide +kernel
theorem dX6_bestPlace_46 : decode cX6_bestPlace 46 = .ok (.iconst 4, 1) := by decide +kernel
theorem dX6_bestPlace_47 : decode cX6_bestPlace 47 = .ok (.idiv, 1) := by decide +kernel
theorem dX6_bestPlace_48 : decode cX6_bestPlace 48 = .ok (.iconst (-1), 1) := by decide +kernel
theorem dX6_bestPlace_49 : decode cX6_bestPlace 49 = .ok (.invokevirtual 180, 3) := by decide +kernel
theorem dX6_bestPlace_52 : decode cX6_bestPlace 52 = .ok (.ireturn, 1) := by decide +kernel
theorem dX6_shifts_0 : decode cX6_shifts 0 = .ok (.iload_n 1, 1) := by decide +kernel
theorem dX6_shifts_1 : decode cX6_shifts 1 = .ok (.lookupswitch 45 #[(0, 27), (1, 35)], 27) := by decide +kernel
theorem dX6_shifts_28 : decode cX6_shifts 28 = .ok (.aload_n 0, 1) := by decide +kernel
theorem dX6_shifts_29 : decode cX6_shifts 29 = .ok (.getfield 10, 3) := by decide +kernel
theorem dX6_shifts_32 : decode cX6_shifts 32 = .ok (.invokevirtual 218, 3) := by decide +kernel
theorem dX6_shifts_35 : decode cX6_shifts 35 = .ok (.ireturn, 1) := by decide +kernel
theorem dX6_shifts_36 : decode cX6_shifts 36 = .ok (.aload_n 0, 1) := by decide +kernel
theorem dX6_shifts_37 : decode cX6_shifts 37 = .ok (.getfield 10, 3) := by decide +kernel
theorem dX6_shifts_40 : decode cX6_shifts 40 = .ok (.iconst 1, 1) := by decide +kernel
theorem dX6_shifts_41 : decode cX6_shifts 41 = .ok (.iconst 0, 1) := by decide +kernel
theorem dX6_shifts_42 : decode cX6_shifts 42 = .ok (.invokevirtual 221, 3) := by decide +kernel
theorem dX6_shifts_45 : decode cX6_shifts 45 = .ok (.ireturn, 1) := by decide +kernel
theorem dX6_shifts_46 : decode cX6_shifts 46 = .ok (.bipush (-2), 2) := by decide +kernel
theorem dX6_shifts_48 : decode cX6_shifts 48 = .ok (.ireturn, 1) := by decide +kernel
theorem dX6_halfTurn_0 : decode cX6_halfTurn 0 = .ok (.aload_n 0, 1) := by decide +kernel
theorem dX6_halfTurn_1 : decode cX6_halfTurn 1 = .ok (.getfield 10, 3) := by decide +kernel
theorem dX6_halfTurn_4 : decode cX6_halfTurn 4 = .ok (.iconst 0, 1) := by decide +kernel
theorem dX6_halfTurn_5 : decode cX6_halfTurn 5 = .ok (.iconst 1, 1) := by decide +kernel
theorem dX6_halfTurn_6 : decode cX6_halfTurn 6 = .ok (.invokevirtual 221, 3) := by decide +kernel
theorem dX6_halfTurn_9 : decode cX6_halfTurn 9 = .ok (.ireturn, 1) := by decide +kernel
theorem dX6_isKind_0 : decode cX6_isKind 0 = .ok (.iload_n 1, 1) := by decide +kernel
theorem dX6_isKind_1 : decode cX6_isKind 1 = .ok (.ifCond .lt 13, 3) := by decide +kernel
theorem dX6_isKind_4 : decode cX6_isKind 4 = .ok (.iload_n 1, 1) := by decide +kernel
theorem dX6_isKind_5 : decode cX6_isKind 5 = .ok (.bipush 6, 2) := by decide +kernel
theorem dX6_isKind_7 : decode cX6_isKind 7 = .ok (.if_icmp .ge 7, 3) := by decide +kernel
theorem dX6_isKind_10 : decode cX6_isKind 10 = .ok (.iconst 1, 1) := by decide +kernel
theorem dX6_isKind_11 : decode cX6_isKind 11 = .ok (.goto 4, 3) := by decide +kernel
theorem dX6_isKind_14 : decode cX6_isKind 14 = .ok (.iconst 0, 1) := by decide +kernel
theorem dX6_isKind_15 : decode cX6_isKind 15 = .ok (.ireturn, 1) := by decide +kernel
theorem dX6_isCell_0 : decode cX6_isCell 0 = .ok (.iload_n 1, 1) := by decide +kernel
theorem dX6_isCell_1 : decode cX6_isCell 1 = .ok (.ifCond .lt 14, 3) := by decide +kernel
theorem dX6_isCell_4 : decode cX6_isCell 4 = .ok (.iload_n 1, 1) := by decide +kernel
theorem dX6_isCell_5 : decode cX6_isCell 5 = .ok (.sipush 150, 3) := by decide +kernel
theorem dX6_isCell_8 : decode cX6_isCell 8 = .ok (.if_icmp .ge 7, 3) := by decide +kernel
theorem dX6_isCell_11 : decode cX6_isCell 11 = .ok (.iconst 1, 1) := by decide +kernel
theorem dX6_isCell_12 : decode cX6_isCell 12 = .ok (.goto 4, 3) := by decide +kernel
theorem dX6_isCell_15 : decode cX6_isCell 15 = .ok (.iconst 0, 1) := by decide +kernel
theorem dX6_isCell_16 : decode cX6_isCell 16 = .ok (.ireturn, 1) := by decide +kernel
theorem dX6_isCross_0 : decode cX6_isCross 0 = .ok (.iload_n 1, 1) := by decide +kernel
theorem dX6_isCross_1 : decode cX6_isCross 1 = .ok (.ifCond .lt 21, 3) := by decide +kernel
theorem dX6_isCross_4 : decode cX6_isCross 4 = .ok (.iload_n 1, 1) := by decide +kernel
theorem dX6_isCross_5 : decode cX6_isCross 5 = .ok (.aload_n 0, 1) := by decide +kernel
theorem dX6_isCross_6 : decode cX6_isCross 6 = .ok (.getfield 20, 3) := by decide +kernel
theorem dX6_isCross_9 : decode cX6_isCross 9 = .ok (.getfield 56, 3) := by decide +kernel
theorem dX6_isCross_12 : decode cX6_isCross 12 = .ok (.getfield 111, 3) := by decide +kernel
theorem dX6_isCross_15 : decode cX6_isCross 15 = .ok (.if_icmp .ge 7, 3) := by decide +kernel
theorem dX6_isCross_18 : decode cX6_isCross 18 = .ok (.iconst 1, 1) := by decide +kernel
theorem dX6_isCross_19 : decode cX6_isCross 19 = .ok (.goto 4, 3) := by decide +kernel
theorem dX6_isCross_22 : decode cX6_isCross 22 = .ok (.iconst 0, 1) := by decide +kernel
theorem dX6_isCross_23 : decode cX6_isCross 23 = .ok (.ireturn, 1) := by decide +kernel
theorem dX6_isDirection_0 : decode cX6_isDirection 0 = .ok (.iload_n 1, 1) := by decide +kernel
theorem dX6_isDirection_1 : decode cX6_isDirection 1 = .ok (.ifCond .lt 12, 3) := by decide +kernel
theorem dX6_isDirection_4 : decode cX6_isDirection 4 = .ok (.iload_n 1, 1) := by decide +kernel
theorem dX6_isDirection_5 : decode cX6_isDirection 5 = .ok (.iconst 4, 1) := by decide +kernel
theorem dX6_isDirection_6 : decode cX6_isDirection 6 = .ok (.if_icmp .ge 7, 3) := by decide +kernel
theorem dX6_isDirection_9 : decode cX6_isDirection 9 = .ok (.iconst 1, 1) := by decide +kernel
theorem dX6_isDirection_10 : decode cX6_isDirection 10 = .ok (.goto 4, 3) := by decide +kernel
theorem dX6_isDirection_13 : decode cX6_isDirection 13 = .ok (.iconst 0, 1) := by decide +kernel
theorem dX6_isDirection_14 : decode cX6_isDirection 14 = .ok (.ireturn, 1) := by decide +kernel
theorem dX6_beginChange_0 : decode cX6_beginChange 0 = .ok (.aload_n 0, 1) := by decide +kernel
theorem dX6_beginChange_1 : decode cX6_beginChange 1 = .ok (.getfield 38, 3) := by decide +kernel
theorem dX6_beginChange_4 : decode cX6_beginChange 4 = .ok (.aload_n 0, 1) := by decide +kernel
theorem dX6_beginChange_5 : decode cX6_beginChange 5 = .ok (.getfield 20, 3) := by decide +kernel
theorem dX6_beginChange_8 : decode cX6_beginChange 8 = .ok (.getfield 56, 3) := by decide +kernel
theorem dX6_beginChange_11 : decode cX6_beginChange 11 = .ok (.invokevirtual 159, 3) := by decide +kernel
theorem dX6_beginChange_14 : decode cX6_beginChange 14 = .ok (.return_, 1) := by decide +kernel
theorem dX6_endChange_0 : decode cX6_endChange 0 = .ok (.iload_n 1, 1) := by decide +kernel
theorem dX6_endChange_1 : decode cX6_endChange 1 = .ok (.ifCond .ge 27, 3) := by decide +kernel
theorem dX6_endChange_4 : decode cX6_endChange 4 = .ok (.aload_n 0, 1) := by decide +kernel
theorem dX6_endChange_5 : decode cX6_endChange 5 = .ok (.getfield 20, 3) := by decide +kernel
theorem dX6_endChange_8 : decode cX6_endChange 8 = .ok (.getfield 56, 3) := by decide +kernel
theorem dX6_endChange_11 : decode cX6_endChange 11 = .ok (.aload_n 0, 1) := by decide +kernel
theorem dX6_endChange_12 : decode cX6_endChange 12 = .ok (.getfield 38, 3) := by decide +kernel
theorem dX6_endChange_15 : decode cX6_endChange 15 = .ok (.invokevirtual 159, 3) := by decide +kernel
theorem dX6_endChange_18 : decode cX6_endChange 18 = .ok (.aload_n 0, 1) := by decide +kernel
theorem dX6_endChange_19 : decode cX6_endChange 19 = .ok (.getfield 20, 3) := by decide +kernel
theorem dX6_endChange_22 : decode cX6_endChange 22 = .ok (.invokevirtual 156, 3) := by decide +kernel
theorem dX6_endChange_25 : decode cX6_endChange 25 = .ok (.goto 14, 3) := by decide +kernel
theorem dX6_endChange_28 : decode cX6_endChange 28 = .ok (.aload_n 0, 1) := by decide +kernel
theorem dX6_endChange_29 : decode cX6_endChange 29 = .ok (.getfield 31, 3) := by decide +kernel
theorem dX6_endChange_32 : decode cX6_endChange 32 = .ok (.aload_n 0, 1) := by decide +kernel
theorem dX6_endChange_33 : decode cX6_endChange 33 = .ok (.getfield 38, 3) := by decide +kernel
theorem dX6_endChange_36 : decode cX6_endChange 36 = .ok (.invokevirtual 225, 3) := by decide +kernel
theorem dX6_endChange_39 : decode cX6_endChange 39 = .ok (.iload_n 1, 1) := by decide +kernel
theorem dX6_endChange_40 : decode cX6_endChange 40 = .ok (.ireturn, 1) := by decide +kernel
theorem dX6_layWithFewestTurns_0 : decode cX6_layWithFewestTurns 0 = .ok (.iconst 0, 1) := by decide +kernel
theorem dX6_layWithFewestTurns_1 : decode cX6_layWithFewestTurns 1 = .ok (.istore_n 3, 1) := by decide +kernel
theorem dX6_layWithFewestTurns_2 : decode cX6_layWithFewestTurns 2 = .ok (.iload_n 3, 1) := by decide +kernel
theorem dX6_layWithFewestTurns_3 : decode cX6_layWithFewestTurns 3 = .ok (.iconst 4, 1) := by decide +kernel
theorem dX6_layWithFewestTurns_4 : decode cX6_layWithFewestTurns 4 = .ok (.if_icmp .ge 24, 3) := by decide +kernel
theorem dX6_layWithFewestTurns_7 : decode cX6_layWithFewestTurns 7 = .ok (.aload_n 0, 1) := by decide +kernel
theorem dX6_layWithFewestTurns_8 : decode cX6_layWithFewestTurns 8 = .ok (.getfield 20, 3) := by decide +kernel
theorem dX6_layWithFewestTurns_11 : decode cX6_layWithFewestTurns 11 = .ok (.iload_n 1, 1) := by decide +kernel
theorem dX6_layWithFewestTurns_12 : decode cX6_layWithFewestTurns 12 = .ok (.iload_n 3, 1) := by decide +kernel
theorem dX6_layWithFewestTurns_13 : decode cX6_layWithFewestTurns 13 = .ok (.iload_n 2, 1) := by decide +kernel
theorem dX6_layWithFewestTurns_14 : decode cX6_layWithFewestTurns 14 = .ok (.invokevirtual 87, 3) := by decide +kernel
theorem dX6_layWithFewestTurns_17 : decode cX6_layWithFewestTurns 17 = .ok (.ifCond .lt 5, 3) := by decide +kernel
theorem dX6_layWithFewestTurns_20 : decode cX6_layWithFewestTurns 20 = .ok (.iconst 1, 1) := by decide +kernel
theorem dX6_layWithFewestTurns_21 : decode cX6_layWithFewestTurns 21 = .ok (.ireturn, 1) := by decide +kernel
theorem dX6_layWithFewestTurns_22 : decode cX6_layWithFewestTurns 22 = .ok (.iinc 3 1, 3) := by decide +kernel
theorem dX6_layWithFewestTurns_25 : decode cX6_layWithFewestTurns 25 = .ok (.goto (-23), 3) := by decide +kernel
theorem dX6_layWithFewestTurns_28 : decode cX6_layWithFewestTurns 28 = .ok (.iconst 0, 1) := by decide +kernel
theorem dX6_layWithFewestTurns_29 : decode cX6_layWithFewestTurns 29 = .ok (.ireturn, 1) := by decide +kernel
theorem dX6_carryOut_0 : decode cX6_carryOut 0 = .ok (.aload_n 0, 1) := by decide +kernel
theorem dX6_carryOut_1 : decode cX6_carryOut 1 = .ok (.getfield 24, 3) := by decide +kernel
theorem dX6_carryOut_4 : decode cX6_carryOut 4 = .ok (.invokevirtual 228, 3) := by decide +kernel
theorem dX6_carryOut_7 : decode cX6_carryOut 7 = .ok (.lookupswitch 76 #[(43, 47), (107, 25)], 25) := by decide +kernel
theorem dX6_carryOut_32 : decode cX6_carryOut 32 = .ok (.aload_n 0, 1) := by decide +kernel
theorem dX6_carryOut_33 : decode cX6_carryOut 33 = .ok (.getfield 20, 3) := by decide +kernel
theorem dX6_carryOut_36 : decode cX6_carryOut 36 = .ok (.aload_n 0, 1) := by decide +kernel
theorem dX6_carryOut_37 : decode cX6_carryOut 37 = .ok (.getfield 24, 3) := by decide +kernel
theorem dX6_carryOut_40 : decode cX6_carryOut 40 = .ok (.invokevirtual 232, 3) := by decide +kernel
theorem dX6_carryOut_43 : decode cX6_carryOut 43 = .ok (.aload_n 0, 1) := by decide +kernel
theorem dX6_carryOut_44 : decode cX6_carryOut 44 = .ok (.getfield 24, 3) := by decide +kernel
theorem dX6_carryOut_47 : decode cX6_carryOut 47 = .ok (.invokevirtual 235, 3) := by decide +kernel
theorem dX6_carryOut_50 : decode cX6_carryOut 50 = .ok (.invokevirtual 239, 3) := by decide +kernel
theorem dX6_carryOut_53 : decode cX6_carryOut 53 = .ok (.ireturn, 1) := by decide +kernel
theorem dX6_carryOut_54 : decode cX6_carryOut 54 = .ok (.aload_n 0, 1) := by decide +kernel
theorem dX6_carryOut_55 : decode cX6_carryOut 55 = .ok (.getfield 20, 3) := by decide +kernel
theorem dX6_carryOut_58 : decode cX6_carryOut 58 = .ok (.aload_n 0, 1) := by decide +kernel
theorem dX6_carryOut_59 : decode cX6_carryOut 59 = .ok (.getfield 24, 3) := by decide +kernel
theorem dX6_carryOut_62 : decode cX6_carryOut 62 = .ok (.invokevirtual 232, 3) := by decide +kernel
theorem dX6_carryOut_65 : decode cX6_carryOut 65 = .ok (.aload_n 0, 1) := by decide +kernel
theorem dX6_carryOut_66 : decode cX6_carryOut 66 = .ok (.getfield 24, 3) := by decide +kernel
theorem dX6_carryOut_69 : decode cX6_carryOut 69 = .ok (.invokevirtual 243, 3) := by decide +kernel
theorem dX6_carryOut_72 : decode cX6_carryOut 72 = .ok (.aload_n 0, 1) := by decide +kernel
theorem dX6_carryOut_73 : decode cX6_carryOut 73 = .ok (.getfield 24, 3) := by decide +kernel
theorem dX6_carryOut_76 : decode cX6_carryOut 76 = .ok (.invokevirtual 245, 3) := by decide +kernel
theorem dX6_carryOut_79 : decode cX6_carryOut 79 = .ok (.invokevirtual 87, 3) := by decide +kernel
theorem dX6_carryOut_82 : decode cX6_carryOut 82 = .ok (.ireturn, 1) := by decide +kernel
theorem dX6_carryOut_83 : decode cX6_carryOut 83 = .ok (.aload_n 0, 1) := by decide +kernel
theorem dX6_carryOut_84 : decode cX6_carryOut 84 = .ok (.getfield 20, 3) := by decide +kernel
theorem dX6_carryOut_87 : decode cX6_carryOut 87 = .ok (.aload_n 0, 1) := by decide +kernel
theorem dX6_carryOut_88 : decode cX6_carryOut 88 = .ok (.getfield 24, 3) := by decide +kernel
theorem dX6_carryOut_91 : decode cX6_carryOut 91 = .ok (.invokevirtual 245, 3) := by decide +kernel
theorem dX6_carryOut_94 : decode cX6_carryOut 94 = .ok (.invokevirtual 162, 3) := by decide +kernel
theorem dX6_carryOut_97 : decode cX6_carryOut 97 = .ok (.istore_n 1, 1) := by decide +kernel
theorem dX6_carryOut_98 : decode cX6_carryOut 98 = .ok (.iload_n 1, 1) := by decide +kernel
theorem dX6_carryOut_99 : decode cX6_carryOut 99 = .ok (.iconst (-1), 1) := by decide +kernel
theorem dX6_carryOut_100 : decode cX6_carryOut 100 = .ok (.if_icmp .ne 5, 3) := by decide +kernel
theorem dX6_carryOut_103 : decode cX6_carryOut 103 = .ok (.iconst (-1), 1) := by decide +kernel
theorem dX6_carryOut_104 : decode cX6_carryOut 104 = .ok (.ireturn, 1) := by decide +kernel
theorem dX6_carryOut_105 : decode cX6_carryOut 105 = .ok (.aload_n 0, 1) := by decide +kernel
theorem dX6_carryOut_106 : decode cX6_carryOut 106 = .ok (.getfield 24, 3) := by decide +kernel
theorem dX6_carryOut_109 : decode cX6_carryOut 109 = .ok (.invokevirtual 228, 3) := by decide +kernel
theorem dX6_carryOut_112 : decode cX6_carryOut 112 = .ok (.bipush 45, 2) := by decide +kernel
theorem dX6_carryOut_114 : decode cX6_carryOut 114 = .ok (.if_icmp .ne 14, 3) := by decide +kernel
theorem dX6_carryOut_117 : decode cX6_carryOut 117 = .ok (.aload_n 0, 1) := by decide +kernel
theorem dX6_carryOut_118 : decode cX6_carryOut 118 = .ok (.getfield 20, 3) := by decide +kernel
theorem dX6_carryOut_121 : decode cX6_carryOut 121 = .ok (.iload_n 1, 1) := by decide +kernel
theorem dX6_carryOut_122 : decode cX6_carryOut 122 = .ok (.invokevirtual 94, 3) := by decide +kernel
theorem dX6_carryOut_125 : decode cX6_carryOut 125 = .ok (.goto 12, 3) := by decide +kernel
theorem dX6_carryOut_128 : decode cX6_carryOut 128 = .ok (.aload_n 0, 1) := by decide +kernel
theorem dX6_carryOut_129 : decode cX6_carryOut 129 = .ok (.getfield 20, 3) := by decide +kernel
theorem dX6_carryOut_132 : decode cX6_carryOut 132 = .ok (.iload_n 1, 1) := by decide +kernel
theorem dX6_carryOut_133 : decode cX6_carryOut 133 = .ok (.iconst 1, 1) := by decide +kernel
theorem dX6_carryOut_134 : decode cX6_carryOut 134 = .ok (.invokevirtual 97, 3) := by decide +kernel
theorem dX6_carryOut_137 : decode cX6_carryOut 137 = .ok (.ireturn, 1) := by decide +kernel
