theorem dX7_takeCell_36 : decode cX7_takeCell 36 = .ok (.aload_n 0, 1) := by decide +kernel
theorem dX7_takeCell_37 : decode cX7_takeCell 37 = .ok (.invokevirtual 148, 3) := by decide +kernel
theorem dX7_takeCell_40 : decode cX7_takeCell 40 = .ok (.iadd, 1) := by decide +kernel
theorem dX7_takeCell_41 : decode cX7_takeCell 41 = .ok (.bipush 48, 2) := by decide +kernel
theorem dX7_takeCell_43 : decode cX7_takeCell 43 = .ok (.isub, 1) := by decide +kernel
theorem dX7_takeCell_44 : decode cX7_takeCell 44 = .ok (.sipush 150, 3) := by decide +kernel
theorem dX7_takeCell_47 : decode cX7_takeCell 47 = .ok (.if_icmp .ge 29, 3) := by decide +kernel
theorem dX7_takeCell_50 : decode cX7_takeCell 50 = .ok (.bipush 10, 2) := by decide +kernel
theorem dX7_takeCell_52 : decode cX7_takeCell 52 = .ok (.iload_n 1, 1) := by decide +kernel
theorem dX7_takeCell_53 : decode cX7_takeCell 53 = .ok (.imul, 1) := by decide +kernel
theorem dX7_takeCell_54 : decode cX7_takeCell 54 = .ok (.aload_n 0, 1) := by decide +kernel
theorem dX7_takeCell_55 : decode cX7_takeCell 55 = .ok (.invokevirtual 148, 3) := by decide +kernel
theorem dX7_takeCell_58 : decode cX7_takeCell 58 = .ok (.iadd, 1) := by decide +kernel
theorem dX7_takeCell_59 : decode cX7_takeCell 59 = .ok (.bipush 48, 2) := by decide +kernel
theorem dX7_takeCell_61 : decode cX7_takeCell 61 = .ok (.isub, 1) := by decide +kernel
theorem dX7_takeCell_62 : decode cX7_takeCell 62 = .ok (.istore_n 1, 1) := by decide +kernel
theorem dX7_takeCell_63 : decode cX7_takeCell 63 = .ok (.aload_n 0, 1) := by decide +kernel
theorem dX7_takeCell_64 : decode cX7_takeCell 64 = .ok (.dup, 1) := by decide +kernel
theorem dX7_takeCell_65 : decode cX7_takeCell 65 = .ok (.getfield 142, 3) := by decide +kernel
theorem dX7_takeCell_68 : decode cX7_takeCell 68 = .ok (.iconst 1, 1) := by decide +kernel
theorem dX7_takeCell_69 : decode cX7_takeCell 69 = .ok (.iadd, 1) := by decide +kernel
theorem dX7_takeCell_70 : decode cX7_takeCell 70 = .ok (.putfield 142, 3) := by decide +kernel
theorem dX7_takeCell_73 : decode cX7_takeCell 73 = .ok (.goto (-66), 3) := by decide +kernel
theorem dX7_takeCell_76 : decode cX7_takeCell 76 = .ok (.iload_n 1, 1) := by decide +kernel
theorem dX7_takeCell_77 : decode cX7_takeCell 77 = .ok (.ireturn, 1) := by decide +kernel
theorem dX7_takeOrder_0 : decode cX7_takeOrder 0 = .ok (.aload_n 0, 1) := by decide +kernel
theorem dX7_takeOrder_1 : decode cX7_takeOrder 1 = .ok (.aload_n 0, 1) := by decide +kernel
theorem dX7_takeOrder_2 : decode cX7_takeOrder 2 = .ok (.invokevirtual 148, 3) := by decide +kernel
theorem dX7_takeOrder_5 : decode cX7_takeOrder 5 = .ok (.putfield 159, 3) := by decide +kernel
theorem dX7_takeOrder_8 : decode cX7_takeOrder 8 = .ok (.aload_n 0, 1) := by decide +kernel
theorem dX7_takeOrder_9 : decode cX7_takeOrder 9 = .ok (.aload_n 0, 1) := by decide +kernel
theorem dX7_takeOrder_10 : decode cX7_takeOrder 10 = .ok (.getfield 159, 3) := by decide +kernel
theorem dX7_takeOrder_13 : decode cX7_takeOrder 13 = .ok (.bipush 107, 2) := by decide +kernel
theorem dX7_takeOrder_15 : decode cX7_takeOrder 15 = .ok (.if_icmp .eq 30, 3) := by decide +kernel
theorem dX7_takeOrder_18 : decode cX7_takeOrder 18 = .ok (.aload_n 0, 1) := by decide +kernel
theorem dX7_takeOrder_19 : decode cX7_takeOrder 19 = .ok (.getfield 159, 3) := by decide +kernel
theorem dX7_takeOrder_22 : decode cX7_takeOrder 22 = .ok (.bipush 43, 2) := by decide +kernel
theorem dX7_takeOrder_24 : decode cX7_takeOrder 24 = .ok (.if_icmp .eq 21, 3) := by decide +kernel
theorem dX7_takeOrder_27 : decode cX7_takeOrder 27 = .ok (.aload_n 0, 1) := by decide +kernel
theorem dX7_takeOrder_28 : decode cX7_takeOrder 28 = .ok (.getfield 159, 3) := by decide +kernel
theorem dX7_takeOrder_31 : decode cX7_takeOrder 31 = .ok (.bipush 45, 2) := by decide +kernel
theorem dX7_takeOrder_33 : decode cX7_takeOrder 33 = .ok (.if_icmp .eq 12, 3) := by decide +kernel
theorem dX7_takeOrder_36 : decode cX7_takeOrder 36 = .ok (.aload_n 0, 1) := by decide +kernel
theorem dX7_takeOrder_37 : decode cX7_takeOrder 37 = .ok (.getfield 159, 3) := by decide +kernel
theorem dX7_takeOrder_40 : decode cX7_takeOrder 40 = .ok (.bipush 116, 2) := by decide +kernel
theorem dX7_takeOrder_42 : decode cX7_takeOrder 42 = .ok (.if_icmp .ne 7, 3) := by decide +kernel
theorem dX7_takeOrder_45 : decode cX7_takeOrder 45 = .ok (.iconst 1, 1) := by decide +kernel
theorem dX7_takeOrder_46 : decode cX7_takeOrder 46 = .ok (.goto 4, 3) := by decide +kernel
theorem dX7_takeOrder_49 : decode cX7_takeOrder 49 = .ok (.iconst 0, 1) := by decide +kernel
theorem dX7_takeOrder_50 : decode cX7_takeOrder 50 = .ok (.invokevirtual 152, 3) := by decide +kernel
theorem dX7_takeOrder_53 : decode cX7_takeOrder 53 = .ok (.aload_n 0, 1) := by decide +kernel
theorem dX7_takeOrder_54 : decode cX7_takeOrder 54 = .ok (.getfield 145, 3) := by decide +kernel
theorem dX7_takeOrder_57 : decode cX7_takeOrder 57 = .ok (.ifCond .eq 4, 3) := by decide +kernel
theorem dX7_takeOrder_60 : decode cX7_takeOrder 60 = .ok (.return_, 1) := by decide +kernel
theorem dX7_takeOrder_61 : decode cX7_takeOrder 61 = .ok (.aload_n 0, 1) := by decide +kernel
theorem dX7_takeOrder_62 : decode cX7_takeOrder 62 = .ok (.getfield 159, 3) := by decide +kernel
theorem dX7_takeOrder_65 : decode cX7_takeOrder 65 = .ok (.bipush 107, 2) := by decide +kernel
theorem dX7_takeOrder_67 : decode cX7_takeOrder 67 = .ok (.if_icmp .ne 28, 3) := by decide +kernel
theorem dX7_takeOrder_70 : decode cX7_takeOrder 70 = .ok (.iconst 0, 1) := by decide +kernel
theorem dX7_takeOrder_71 : decode cX7_takeOrder 71 = .ok (.istore_n 1, 1) := by decide +kernel
theorem dX7_takeOrder_72 : decode cX7_takeOrder 72 = .ok (.iload_n 1, 1) := by decide +kernel
theorem dX7_takeOrder_73 : decode cX7_takeOrder 73 = .ok (.iconst 5, 1) := by decide +kernel
theorem dX7_takeOrder_74 : decode cX7_takeOrder 74 = .ok (.if_icmp .ge 20, 3) := by decide +kernel
theorem dX7_takeOrder_77 : decode cX7_takeOrder 77 = .ok (.aload_n 0, 1) := by decide +kernel
theorem dX7_takeOrder_78 : decode cX7_takeOrder 78 = .ok (.getfield 37, 3) := by decide +kernel
theorem dX7_takeOrder_81 : decode cX7_takeOrder 81 = .ok (.iload_n 1, 1) := by decide +kernel
theorem dX7_takeOrder_82 : decode cX7_takeOrder 82 = .ok (.aload_n 0, 1) := by decide +kernel
theorem dX7_takeOrder_83 : decode cX7_takeOrder 83 = .ok (.iconst 5, 1) := by decide +kernel
theorem dX7_takeOrder_84 : decode cX7_takeOrder 84 = .ok (.invokevirtual 156, 3) := by decide +kernel
theorem dX7_takeOrder_87 : decode cX7_takeOrder 87 = .ok (.iastore, 1) := by decide +kernel
theorem dX7_takeOrder_88 : decode cX7_takeOrder 88 = .ok (.iinc 1 1, 3) := by decide +kernel
theorem dX7_takeOrder_91 : decode cX7_takeOrder 91 = .ok (.goto (-19), 3) := by decide +kernel
theorem dX7_takeOrder_94 : decode cX7_takeOrder 94 = .ok (.return_, 1) := by decide +kernel
theorem dX7_takeOrder_95 : decode cX7_takeOrder 95 = .ok (.aload_n 0, 1) := by decide +kernel
theorem dX7_takeOrder_96 : decode cX7_takeOrder 96 = .ok (.getfield 159, 3) := by decide +kernel
theorem dX7_takeOrder_99 : decode cX7_takeOrder 99 = .ok (.bipush 43, 2) := by decide +kernel
theorem dX7_takeOrder_101 : decode cX7_takeOrder 101 = .ok (.if_icmp .ne 43, 3) := by decide +kernel
theorem dX7_takeOrder_104 : decode cX7_takeOrder 104 = .ok (.aload_n 0, 1) := by decide +kernel
theorem dX7_takeOrder_105 : decode cX7_takeOrder 105 = .ok (.getfield 37, 3) := by decide +kernel
theorem dX7_takeOrder_108 : decode cX7_takeOrder 108 = .ok (.iconst 1, 1) := by decide +kernel
theorem dX7_takeOrder_109 : decode cX7_takeOrder 109 = .ok (.aload_n 0, 1) := by decide +kernel
theorem dX7_takeOrder_110 : decode cX7_takeOrder 110 = .ok (.iconst 5, 1) := by decide +kernel
theorem dX7_takeOrder_111 : decode cX7_takeOrder 111 = .ok (.invokevirtual 156, 3) := by decide +kernel
theorem dX7_takeOrder_114 : decode cX7_takeOrder 114 = .ok (.iastore, 1) := by decide +kernel
theorem dX7_takeOrder_115 : decode cX7_takeOrder 115 = .ok (.aload_n 0, 1) := by decide +kernel
theorem dX7_takeOrder_116 : decode cX7_takeOrder 116 = .ok (.getfield 37, 3) := by decide +kernel
theorem dX7_takeOrder_119 : decode cX7_takeOrder 119 = .ok (.iconst 2, 1) := by decide +kernel
theorem dX7_takeOrder_120 : decode cX7_takeOrder 120 = .ok (.aload_n 0, 1) := by decide +kernel
theorem dX7_takeOrder_121 : decode cX7_takeOrder 121 = .ok (.iconst 3, 1) := by decide +kernel
theorem dX7_takeOrder_122 : decode cX7_takeOrder 122 = .ok (.invokevirtual 156, 3) := by decide +kernel
theorem dX7_takeOrder_125 : decode cX7_takeOrder 125 = .ok (.iastore, 1) := by decide +kernel
theorem dX7_takeOrder_126 : decode cX7_takeOrder 126 = .ok (.aload_n 0, 1) := by decide +kernel
theorem dX7_takeOrder_127 : decode cX7_takeOrder 127 = .ok (.aload_n 0, 1) := by decide +kernel
theorem dX7_takeOrder_128 : decode cX7_takeOrder 128 = .ok (.invokevirtual 148, 3) := by decide +kernel
theorem dX7_takeOrder_131 : decode cX7_takeOrder 131 = .ok (.bipush 64, 2) := by decide +kernel
theorem dX7_takeOrder_133 : decode cX7_takeOrder 133 = .ok (.if_icmp .ne 7, 3) := by decide +kernel
theorem dX7_takeOrder_136 : decode cX7_takeOrder 136 = .ok (.iconst 1, 1) := by decide +kernel
theorem dX7_takeOrder_137 : decode cX7_takeOrder 137 = .ok (.goto 4, 3) := by decide +kernel
theorem dX7_takeOrder_140 : decode cX7_takeOrder 140 = .ok (.iconst 0, 1) := by decide +kernel
theorem dX7_takeOrder_141 : decode cX7_takeOrder 141 = .ok (.invokevirtual 152, 3) := by decide +kernel
theorem dX7_takeOrder_144 : decode cX7_takeOrder 144 = .ok (.aload_n 0, 1) := by decide +kernel
theorem dX7_takeOrder_145 : decode cX7_takeOrder 145 = .ok (.getfield 37, 3) := by decide +kernel
theorem dX7_takeOrder_148 : decode cX7_takeOrder 148 = .ok (.iconst 0, 1) := by decide +kernel
theorem dX7_takeOrder_149 : decode cX7_takeOrder 149 = .ok (.aload_n 0, 1) := by decide +kernel
theorem dX7_takeOrder_150 : decode cX7_takeOrder 150 = .ok (.invokevirtual 162, 3) := by decide +kernel
theorem dX7_takeOrder_153 : decode cX7_takeOrder 153 = .ok (.iastore, 1) := by decide +kernel
theorem dX7_takeOrder_154 : decode cX7_takeOrder 154 = .ok (.return_, 1) := by decide +kernel
theorem dX7_findFault_0 : decode cX7_findFault 0 = .ok (.aload_n 0, 1) := by decide +kernel
theorem dX7_findFault_1 : decode cX7_findFault 1 = .ok (.iconst 0, 1) := by decide +kernel
theorem dX7_findFault_2 : decode cX7_findFault 2 = .ok (.putfield 142, 3) := by decide +kernel
theorem dX7_findFault_5 : decode cX7_findFault 5 = .ok (.aload_n 0, 1) := by decide +kernel
theorem dX7_findFault_6 : decode cX7_findFault 6 = .ok (.iconst 0, 1) := by decide +kernel
theorem dX7_findFault_7 : decode cX7_findFault 7 = .ok (.putfield 145, 3) := by decide +kernel
theorem dX7_findFault_10 : decode cX7_findFault 10 = .ok (.aload_n 0, 1) := by decide +kernel
theorem dX7_findFault_11 : decode cX7_findFault 11 = .ok (.invokevirtual 165, 3) := by decide +kernel
theorem dX7_findFault_14 : decode cX7_findFault 14 = .ok (.aload_n 0, 1) := by decide +kernel
theorem dX7_findFault_15 : decode cX7_findFault 15 = .ok (.getfield 145, 3) := by decide +kernel
theorem dX7_findFault_18 : decode cX7_findFault 18 = .ok (.ifCond .eq 8, 3) := by decide +kernel
theorem dX7_findFault_21 : decode cX7_findFault 21 = .ok (.aload_n 0, 1) := by decide +kernel
theorem dX7_findFault_22 : decode cX7_findFault 22 = .ok (.getfield 142, 3) := by decide +kernel
theorem dX7_findFault_25 : decode cX7_findFault 25 = .ok (.ireturn, 1) := by decide +kernel
theorem dX7_findFault_26 : decode cX7_findFault 26 = .ok (.aload_n 0, 1) := by decide +kernel
theorem dX7_findFault_27 : decode cX7_findFault 27 = .ok (.getfield 142, 3) := by decide +kernel
theorem dX7_findFault_30 : decode cX7_findFault 30 = .ok (.aload_n 0, 1) := by decide +kernel
theorem dX7_findFault_31 : decode cX7_findFault 31 = .ok (.getfield 139, 3) := by decide +kernel
theorem dX7_findFault_34 : decode cX7_findFault 34 = .ok (.if_icmp .ne 6, 3) := by decide +kernel
theorem dX7_findFault_37 : decode cX7_findFault 37 = .ok (.bipush (-5), 2) := by decide +kernel
theorem dX7_findFault_39 : decode cX7_findFault 39 = .ok (.ireturn, 1) := by decide +kernel
theorem dX7_findFault_40 : decode cX7_findFault 40 = .ok (.aload_n 0, 1) := by decide +kernel
theorem dX7_findFault_41 : decode cX7_findFault 41 = .ok (.aload_n 0, 1) := by decide +kernel
theorem dX7_findFault_42 : decode cX7_findFault 42 = .ok (.invokevirtual 148, 3) := by decide +kernel
theorem dX7_findFault_45 : decode cX7_findFault 45 = .ok (.bipush 59, 2) := by decide +kernel
theorem dX7_findFault_47 : decode cX7_findFault 47 = .ok (.if_icmp .ne 7, 3) := by decide +kernel
theorem dX7_findFault_50 : decode cX7_findFault 50 = .ok (.iconst 1, 1) := by decide +kernel
theorem dX7_findFault_51 : decode cX7_findFault 51 = .ok (.goto 4, 3) := by decide +kernel
theorem dX7_findFault_54 : decode cX7_findFault 54 = .ok (.iconst 0, 1) := by decide +kernel
theorem dX7_findFault_55 : decode cX7_findFault 55 = .ok (.invokevirtual 152, 3) := by decide +kernel
theorem dX7_findFault_58 : decode cX7_findFault 58 = .ok (.goto (-48), 3) := by decide +kernel
theorem dX7_doOrder_0 : decode cX7_doOrder 0 = .ok (.aload_n 0, 1) := by decide +kernel
theorem dX7_doOrder_1 : decode cX7_doOrder 1 = .ok (.getfield 159, 3) := by decide +kernel
theorem dX7_doOrder_4 : decode cX7_doOrder 4 = .ok (.bipush 43, 2) := by decide +kernel
theorem dX7_doOrder_6 : decode cX7_doOrder 6 = .ok (.if_icmp .ne 54, 3) := by decide +kernel
theorem dX7_doOrder_9 : decode cX7_doOrder 9 = .ok (.aload_n 0, 1) := by decide +kernel
theorem dX7_doOrder_10 : decode cX7_doOrder 10 = .ok (.aload_n 0, 1) := by decide +kernel
theorem dX7_doOrder_11 : decode cX7_doOrder 11 = .ok (.getfield 37, 3) := by decide +kernel
theorem dX7_doOrder_14 : decode cX7_doOrder 14 = .ok (.iconst 1, 1) := by decide +kernel
theorem dX7_doOrder_15 : decode cX7_doOrder 15 = .ok (.iaload, 1) := by decide +kernel
theorem dX7_doOrder_16 : decode cX7_doOrder 16 = .ok (.aload_n 0, 1) := by decide +kernel
theorem dX7_doOrder_17 : decode cX7_doOrder 17 = .ok (.getfield 37, 3) := by decide +kernel
theorem dX7_doOrder_20 : decode cX7_doOrder 20 = .ok (.iconst 2, 1) := by decide +kernel
theorem dX7_doOrder_21 : decode cX7_doOrder 21 = .ok (.iaload, 1) := by decide +kernel
theorem dX7_doOrder_22 : decode cX7_doOrder 22 = .ok (.aload_n 0, 1) := by decide +kernel
theorem dX7_doOrder_23 : decode cX7_doOrder 23 = .ok (.getfield 37, 3) := by decide +kernel
theorem dX7_doOrder_26 : decode cX7_doOrder 26 = .ok (.iconst 0, 1) := by decide +kernel
theorem dX7_doOrder_27 : decode cX7_doOrder 27 = .ok (.iaload, 1) := by decide +kernel
theorem dX7_doOrder_28 : decode cX7_doOrder 28 = .ok (.invokevirtual 119, 3) := by decide +kernel
theorem dX7_doOrder_31 : decode cX7_doOrder 31 = .ok (.istore_n 1, 1) := by decide +kernel
theorem dX7_doOrder_32 : decode cX7_doOrder 32 = .ok (.iload_n 1, 1) := by decide +kernel
theorem dX7_doOrder_33 : decode cX7_doOrder 33 = .ok (.ifCond .ne 25, 3) := by decide +kernel
theorem dX7_doOrder_36 : decode cX7_doOrder 36 = .ok (.aload_n 0, 1) := by decide +kernel
theorem dX7_doOrder_37 : decode cX7_doOrder 37 = .ok (.aload_n 0, 1) := by decide +kernel
theorem dX7_doOrder_38 : decode cX7_doOrder 38 = .ok (.getfield 37, 3) := by decide +kernel
theorem dX7_doOrder_41 : decode cX7_doOrder 41 = .ok (.iconst 1, 1) := by decide +kernel
theorem dX7_doOrder_42 : decode cX7_doOrder 42 = .ok (.iaload, 1) := by decide +kernel
theorem dX7_doOrder_43 : decode cX7_doOrder 43 = .ok (.aload_n 0, 1) := by decide +kernel
theorem dX7_doOrder_44 : decode cX7_doOrder 44 = .ok (.getfield 37, 3) := by decide +kernel
theorem dX7_doOrder_47 : decode cX7_doOrder 47 = .ok (.iconst 2, 1) := by decide +kernel
theorem dX7_doOrder_48 : decode cX7_doOrder 48 = .ok (.iaload, 1) := by decide +kernel
theorem dX7_doOrder_49 : decode cX7_doOrder 49 = .ok (.aload_n 0, 1) := by decide +kernel
theorem dX7_doOrder_50 : decode cX7_doOrder 50 = .ok (.getfield 37, 3) := by decide +kernel
theorem dX7_doOrder_53 : decode cX7_doOrder 53 = .ok (.iconst 0, 1) := by decide +kernel
theorem dX7_doOrder_54 : decode cX7_doOrder 54 = .ok (.iaload, 1) := by decide +kernel
theorem dX7_doOrder_55 : decode cX7_doOrder 55 = .ok (.invokevirtual 122, 3) := by decide +kernel
theorem dX7_doOrder_58 : decode cX7_doOrder 58 = .ok (.iload_n 1, 1) := by decide +kernel
theorem dX7_doOrder_59 : decode cX7_doOrder 59 = .ok (.ireturn, 1) := by decide +kernel
theorem dX7_doOrder_60 : decode cX7_doOrder 60 = .ok (.aload_n 0, 1) := by decide +kernel
theorem dX7_doOrder_61 : decode cX7_doOrder 61 = .ok (.getfield 159, 3) := by decide +kernel
theorem dX7_doOrder_64 : decode cX7_doOrder 64 = .ok (.bipush 107, 2) := by decide +kernel
theorem dX7_doOrder_66 : decode cX7_doOrder 66 = .ok (.if_icmp .ne 53, 3) := by decide +kernel
theorem dX7_doOrder_69 : decode cX7_doOrder 69 = .ok (.iconst 0, 1) := by decide +kernel
theorem dX7_doOrder_70 : decode cX7_doOrder 70 = .ok (.istore_n 1, 1) := by decide +kernel
theorem dX7_doOrder_71 : decode cX7_doOrder 71 = .ok (.iload_n 1, 1) := by decide +kernel
theorem dX7_doOrder_72 : decode cX7_doOrder 72 = .ok (.iconst 4, 1) := by decide +kernel
theorem dX7_doOrder_73 : decode cX7_doOrder 73 = .ok (.if_icmp .ge 32, 3) := by decide +kernel
theorem dX7_doOrder_76 : decode cX7_doOrder 76 = .ok (.aload_n 0, 1) := by decide +kernel
theorem dX7_doOrder_77 : decode cX7_doOrder 77 = .ok (.getfield 7, 3) := by decide +kernel
theorem dX7_doOrder_80 : decode cX7_doOrder 80 = .ok (.iconst 4, 1) := by decide +kernel
theorem dX7_doOrder_81 : decode cX7_doOrder 81 = .ok (.aload_n 0, 1) := by decide +kernel
theorem dX7_doOrder_82 : decode cX7_doOrder 82 = .ok (.getfield 37, 3) := by decide +kernel
theorem dX7_doOrder_85 : decode cX7_doOrder 85 = .ok (.iconst 0, 1) := by decide +kernel
theorem dX7_doOrder_86 : decode cX7_doOrder 86 = .ok (.iaload, 1) := by decide +kernel
theorem dX7_doOrder_87 : decode cX7_doOrder 87 = .ok (.imul, 1) := by decide +kernel
theorem dX7_doOrder_88 : decode cX7_doOrder 88 = .ok (.iload_n 1, 1) := by decide +kernel
theorem dX7_doOrder_89 : decode cX7_doOrder 89 = .ok (.iadd, 1) := by decide +kernel
theorem dX7_doOrder_90 : decode cX7_doOrder 90 = .ok (.aload_n 0, 1) := by decide +kernel
theorem dX7_doOrder_91 : decode cX7_doOrder 91 = .ok (.getfield 37, 3) := by decide +kernel
theorem dX7_doOrder_94 : decode cX7_doOrder 94 = .ok (.iconst 1, 1) := by decide +kernel
theorem dX7_doOrder_95 : decode cX7_doOrder 95 = .ok (.iload_n 1, 1) := by decide +kernel
theorem dX7_doOrder_96 : decode cX7_doOrder 96 = .ok (.iadd, 1) := by decide +kernel
theorem dX7_doOrder_97 : decode cX7_doOrder 97 = .ok (.iaload, 1) := by decide +kernel
theorem dX7_doOrder_98 : decode cX7_doOrder 98 = .ok (.iastore, 1) := by decide +kernel
theorem dX7_doOrder_99 : decode cX7_doOrder 99 = .ok (.iinc 1 1, 3) := by decide +kernel
theorem dX7_doOrder_102 : decode cX7_doOrder 102 = .ok (.goto (-31), 3) := by decide +kernel
theorem dX7_doOrder_105 : decode cX7_doOrder 105 = .ok (.aload_n 0, 1) := by decide +kernel
theorem dX7_doOrder_106 : decode cX7_doOrder 106 = .ok (.invokevirtual 94, 3) := by decide +kernel
theorem dX7_doOrder_109 : decode cX7_doOrder 109 = .ok (.ifCond .eq 8, 3) := by decide +kernel
theorem dX7_doOrder_112 : decode cX7_doOrder 112 = .ok (.bipush (-4), 2) := by decide +kernel
theorem dX7_doOrder_114 : decode cX7_doOrder 114 = .ok (.goto 4, 3) := by decide +kernel
theorem dX7_doOrder_117 : decode cX7_doOrder 117 = .ok (.iconst 0, 1) := by decide +kernel
theorem dX7_doOrder_118 : decode cX7_doOrder 118 = .ok (.ireturn, 1) := by decide +kernel
theorem dX7_doOrder_119 : decode cX7_doOrder 119 = .ok (.aload_n 0, 1) := by decide +kernel
theorem dX7_doOrder_120 : decode cX7_doOrder 120 = .ok (.getfield 25, 3) := by decide +kernel
theorem dX7_doOrder_123 : decode cX7_doOrder 123 = .ok (.aload_n 0, 1) := by decide +kernel
theorem dX7_doOrder_124 : decode cX7_doOrder 124 = .ok (.getfield 37, 3) := by decide +kernel
theorem dX7_doOrder_127 : decode cX7_doOrder 127 = .ok (.iconst 0, 1) := by decide +kernel
theorem dX7_doOrder_128 : decode cX7_doOrder 128 = .ok (.iaload, 1) := by decide +kernel
theorem dX7_doOrder_129 : decode cX7_doOrder 129 = .ok (.iaload, 1) := by decide +kernel
theorem dX7_doOrder_130 : decode cX7_doOrder 130 = .ok (.istore_n 1, 1) := by decide +kernel
theorem dX7_doOrder_131 : decode cX7_doOrder 131 = .ok (.iload_n 1, 1) := by decide +kernel
theorem dX7_doOrder_132 : decode cX7_doOrder 132 = .ok (.ifCond .ge 5, 3) := by decide +kernel
theorem dX7_doOrder_135 : decode cX7_doOrder 135 = .ok (.iconst (-1), 1) := by decide +kernel
theorem dX7_doOrder_136 : decode cX7_doOrder 136 = .ok (.ireturn, 1) := by decide +kernel
theorem dX7_doOrder_137 : decode cX7_doOrder 137 = .ok (.aload_n 0, 1) := by decide +kernel
theorem dX7_doOrder_138 : decode cX7_doOrder 138 = .ok (.getfield 159, 3) := by decide +kernel
theorem dX7_doOrder_141 : decode cX7_doOrder 141 = .ok (.bipush 45, 2) := by decide +kernel
theorem dX7_doOrder_143 : decode cX7_doOrder 143 = .ok (.if_icmp .ne 10, 3) := by decide +kernel
theorem dX7_doOrder_146 : decode cX7_doOrder 146 = .ok (.aload_n 0, 1) := by decide +kernel
theorem dX7_doOrder_147 : decode cX7_doOrder 147 = .ok (.iload_n 1, 1) := by decide +kernel
theorem dX7_doOrder_148 : decode cX7_doOrder 148 = .ok (.invokevirtual 129, 3) := by decide +kernel
theorem dX7_doOrder_151 : decode cX7_doOrder 151 = .ok (.iconst 0, 1) := by decide +kernel
theorem dX7_doOrder_152 : decode cX7_doOrder 152 = .ok (.ireturn, 1) := by decide +kernel
theorem dX7_doOrder_153 : decode cX7_doOrder 153 = .ok (.aload_n 0, 1) := by decide +kernel
theorem dX7_doOrder_154 : decode cX7_doOrder 154 = .ok (.getfield 7, 3) := by decide +kernel
theorem dX7_doOrder_157 : decode cX7_doOrder 157 = .ok (.bipush 26, 2) := by decide +kernel
theorem dX7_doOrder_159 : decode cX7_doOrder 159 = .ok (.iconst 3, 1) := by decide +kernel
theorem dX7_doOrder_160 : decode cX7_doOrder 160 = .ok (.iload_n 1, 1) := by decide +kernel
theorem dX7_doOrder_161 : decode cX7_doOrder 161 = .ok (.imul, 1) := by decide +kernel
theorem dX7_doOrder_162 : decode cX7_doOrder 162 = .ok (.iadd, 1) := by decide +kernel
theorem dX7_doOrder_163 : decode cX7_doOrder 163 = .ok (.iconst 1, 1) := by decide +kernel
theorem dX7_doOrder_164 : decode cX7_doOrder 164 = .ok (.iadd, 1) := by decide +kernel
theorem dX7_doOrder_165 : decode cX7_doOrder 165 = .ok (.aload_n 0, 1) := by decide +kernel
theorem dX7_doOrder_166 : decode cX7_doOrder 166 = .ok (.iload_n 1, 1) := by decide +kernel
theorem dX7_doOrder_167 : decode cX7_doOrder 167 = .ok (.invokevirtual 51, 3) := by decide +kernel
theorem dX7_doOrder_170 : decode cX7_doOrder 170 = .ok (.iconst 1, 1) := by decide +kernel
theorem dX7_doOrder_171 : decode cX7_doOrder 171 = .ok (.iadd, 1) := by decide +kernel
theorem dX7_doOrder_172 : decode cX7_doOrder 172 = .ok (.iconst 4, 1) := by decide +kernel
theorem dX7_doOrder_173 : decode cX7_doOrder 173 = .ok (.irem, 1) := by decide +kernel
theorem dX7_doOrder_174 : decode cX7_doOrder 174 = .ok (.iastore, 1) := by decide +kernel
theorem dX7_doOrder_175 : decode cX7_doOrder 175 = .ok (.aload_n 0, 1) := by decide +kernel
theorem dX7_doOrder_176 : decode cX7_doOrder 176 = .ok (.invokevirtual 94, 3) := by decide +kernel
theorem dX7_doOrder_179 : decode cX7_doOrder 179 = .ok (.ifCond .eq 8, 3) := by decide +kernel
theorem dX7_doOrder_182 : decode cX7_doOrder 182 = .ok (.bipush (-4), 2) := by decide +kernel
theorem dX7_doOrder_184 : decode cX7_doOrder 184 = .ok (.goto 4, 3) := by decide +kernel
theorem dX7_doOrder_187 : decode cX7_doOrder 187 = .ok (.iconst 0, 1) := by decide +kernel
theorem dX7_doOrder_188 : decode cX7_doOrder 188 = .ok (.ireturn, 1) := by decide +kernel
theorem dX7_perform_0 : decode cX7_perform 0 = .ok (.aload_n 0, 1) := by decide +kernel
theorem dX7_perform_1 : decode cX7_perform 1 = .ok (.invokevirtual 168, 3) := by decide +kernel
theorem dX7_perform_4 : decode cX7_perform 4 = .ok (.istore_n 1, 1) := by decide +kernel
theorem dX7_perform_5 : decode cX7_perform 5 = .ok (.iload_n 1, 1) := by decide +kernel
theorem dX7_perform_6 : decode cX7_perform 6 = .ok (.ifCond .lt 8, 3) := by decide +kernel
theorem dX7_perform_9 : decode cX7_perform 9 = .ok (.bipush (-100), 2) := by decide +kernel
theorem dX7_perform_11 : decode cX7_perform 11 = .ok (.iload_n 1, 1) := by decide +kernel
theorem dX7_perform_12 : decode cX7_perform 12 = .ok (.isub, 1) := by decide +kernel
theorem dX7_perform_13 : decode cX7_perform 13 = .ok (.ireturn, 1) := by decide +kernel
theorem dX7_perform_14 : decode cX7_perform 14 = .ok (.aload_n 0, 1) := by decide +kernel
theorem dX7_perform_15 : decode cX7_perform 15 = .ok (.invokevirtual 104, 3) := by decide +kernel
theorem dX7_perform_18 : decode cX7_perform 18 = .ok (.aload_n 0, 1) := by decide +kernel
theorem dX7_perform_19 : decode cX7_perform 19 = .ok (.iconst 0, 1) := by decide +kernel
theorem dX7_perform_20 : decode cX7_perform 20 = .ok (.putfield 142, 3) := by decide +kernel
theorem dX7_perform_23 : decode cX7_perform 23 = .ok (.iconst 0, 1) := by decide +kernel
theorem dX7_perform_24 : decode cX7_perform 24 = .ok (.istore_n 2, 1) := by decide +kernel
theorem dX7_perform_25 : decode cX7_perform 25 = .ok (.iconst 0, 1) := by decide +kernel
theorem dX7_perform_26 : decode cX7_perform 26 = .ok (.istore_n 3, 1) := by decide +kernel
theorem dX7_perform_27 : decode cX7_perform 27 = .ok (.iload_n 2, 1) := by decide +kernel
theorem dX7_perform_28 : decode cX7_perform 28 = .ok (.ifCond .ne 39, 3) := by decide +kernel
theorem dX7_perform_31 : decode cX7_perform 31 = .ok (.aload_n 0, 1) := by decide +kernel
theorem dX7_perform_32 : decode cX7_perform 32 = .ok (.getfield 142, 3) := by decide +kernel
theorem dX7_perform_35 : decode cX7_perform 35 = .ok (.aload_n 0, 1) := by decide +kernel
theorem dX7_perform_36 : decode cX7_perform 36 = .ok (.getfield 139, 3) := by decide +kernel
theorem dX7_perform_39 : decode cX7_perform 39 = .ok (.if_icmp .ge 28, 3) := by decide +kernel
theorem dX7_perform_42 : decode cX7_perform 42 = .ok (.aload_n 0, 1) := by decide +kernel
theorem dX7_perform_43 : decode cX7_perform 43 = .ok (.invokevirtual 165, 3) := by decide +kernel
theorem dX7_perform_46 : decode cX7_perform 46 = .ok (.aload_n 0, 1) := by decide +kernel
theorem dX7_perform_47 : decode cX7_perform 47 = .ok (.dup, 1) := by decide +kernel
theorem dX7_perform_48 : decode cX7_perform 48 = .ok (.getfield 142, 3) := by decide +kernel
theorem dX7_perform_51 : decode cX7_perform 51 = .ok (.iconst 1, 1) := by decide +kernel
theorem dX7_perform_52 : decode cX7_perform 52 = .ok (.iadd, 1) := by decide +kernel
theorem dX7_perform_53 : decode cX7_perform 53 = .ok (.putfield 142, 3) := by decide +kernel
theorem dX7_perform_56 : decode cX7_perform 56 = .ok (.aload_n 0, 1) := by decide +kernel
theorem dX7_perform_57 : decode cX7_perform 57 = .ok (.invokevirtual 171, 3) := by decide +kernel
theorem dX7_perform_60 : decode cX7_perform 60 = .ok (.istore_n 2, 1) := by decide +kernel
theorem dX7_perform_61 : decode cX7_perform 61 = .ok (.iinc 3 1, 3) := by decide +kernel
theorem dX7_perform_64 : decode cX7_perform 64 = .ok (.goto (-37), 3) := by decide +kernel
theorem dX7_perform_67 : decode cX7_perform 67 = .ok (.iload_n 2, 1) := by decide +kernel
theorem dX7_perform_68 : decode cX7_perform 68 = .ok (.ifCond .ge 9, 3) := by decide +kernel
theorem dX7_perform_71 : decode cX7_perform 71 = .ok (.aload_n 0, 1) := by decide +kernel
theorem dX7_perform_72 : decode cX7_perform 72 = .ok (.invokevirtual 98, 3) := by decide +kernel
theorem dX7_perform_75 : decode cX7_perform 75 = .ok (.iload_n 2, 1) := by decide +kernel
theorem dX7_perform_76 : decode cX7_perform 76 = .ok (.ireturn, 1) := by decide +kernel
theorem dX7_perform_77 : decode cX7_perform 77 = .ok (.aload_n 0, 1) := by decide +kernel
theorem dX7_perform_78 : decode cX7_perform 78 = .ok (.aload_n 0, 1) := by decide +kernel
theorem dX7_perform_79 : decode cX7_perform 79 = .ok (.getfield 13, 3) := by decide +kernel
theorem dX7_perform_82 : decode cX7_perform 82 = .ok (.invokevirtual 90, 3) := by decide +kernel
theorem dX7_perform_85 : decode cX7_perform 85 = .ok (.iload_n 3, 1) := by decide +kernel
theorem dX7_perform_86 : decode cX7_perform 86 = .ok (.ireturn, 1) := by decide +kernel
theorem dX7_colour_0 : decode cX7_colour 0 = .ok (.iload_n 1, 1) := by decide +kernel
theorem dX7_colour_1 : decode cX7_colour 1 = .ok (.invokestatic 101, 3) := by decide +kernel
theorem dX7_colour_4 : decode cX7_colour 4 = .ok (.ifCond .ne 7, 3) := by decide +kernel
theorem dX7_colour_7 : decode cX7_colour 7 = .ok (.iconst (-1), 1) := by decide +kernel
theorem dX7_colour_8 : decode cX7_colour 8 = .ok (.goto 27, 3) := by decide +kernel
theorem dX7_colour_11 : decode cX7_colour 11 = .ok (.iload_n 2, 1) := by decide +kernel
theorem dX7_colour_12 : decode cX7_colour 12 = .ok (.iconst 0, 1) := by decide +kernel
theorem dX7_colour_13 : decode cX7_colour 13 = .ok (.iconst 3, 1) := by decide +kernel
theorem dX7_colour_14 : decode cX7_colour 14 = .ok (.invokestatic 43, 3) := by decide +kernel
theorem dX7_colour_17 : decode cX7_colour 17 = .ok (.ifCond .eq 16, 3) := by decide +kernel
theorem dX7_colour_20 : decode cX7_colour 20 = .ok (.aload_n 0, 1) := by decide +kernel
theorem dX7_colour_21 : decode cX7_colour 21 = .ok (.getfield 7, 3) := by decide +kernel
theorem dX7_colour_24 : decode cX7_colour 24 = .ok (.iconst 4, 1) := by decide +kernel
theorem dX7_colour_25 : decode cX7_colour 25 = .ok (.iload_n 1, 1) := by decide +kernel
theorem dX7_colour_26 : decode cX7_colour 26 = .ok (.imul, 1) := by decide +kernel
theorem dX7_colour_27 : decode cX7_colour 27 = .ok (.iload_n 2, 1) := by decide +kernel
theorem dX7_colour_28 : decode cX7_colour 28 = .ok (.iadd, 1) := by decide +kernel
theorem dX7_colour_29 : decode cX7_colour 29 = .ok (.iaload, 1) := by decide +kernel
theorem dX7_colour_30 : decode cX7_colour 30 = .ok (.goto 5, 3) := by decide +kernel
theorem dX7_colour_33 : decode cX7_colour 33 = .ok (.bipush (-2), 2) := by decide +kernel
theorem dX7_colour_35 : decode cX7_colour 35 = .ok (.ireturn, 1) := by decide +kernel
theorem dX7_freeBeside_0 : decode cX7_freeBeside 0 = .ok (.iconst 0, 1) := by decide +kernel
theorem dX7_freeBeside_1 : decode cX7_freeBeside 1 = .ok (.istore_n 2, 1) := by decide +kernel
theorem dX7_freeBeside_2 : decode cX7_freeBeside 2 = .ok (.iconst 0, 1) := by decide +kernel
theorem dX7_freeBeside_3 : decode cX7_freeBeside 3 = .ok (.istore_n 3, 1) := by decide +kernel
theorem dX7_freeBeside_4 : decode cX7_freeBeside 4 = .ok (.iload_n 3, 1) := by decide +kernel
theorem dX7_freeBeside_5 : decode cX7_freeBeside 5 = .ok (.iconst 4, 1) := by decide +kernel
theorem dX7_freeBeside_6 : decode cX7_freeBeside 6 = .ok (.if_icmp .ge 30, 3) := by decide +kernel
theorem dX7_freeBeside_9 : decode cX7_freeBeside 9 = .ok (.iload_n 2, 1) := by decide +kernel
theorem dX7_freeBeside_10 : decode cX7_freeBeside 10 = .ok (.aload_n 0, 1) := by decide +kernel
theorem dX7_freeBeside_11 : decode cX7_freeBeside 11 = .ok (.getfield 25, 3) := by decide +kernel
theorem dX7_freeBeside_14 : decode cX7_freeBeside 14 = .ok (.iload_n 1, 1) := by decide +kernel
theorem dX7_freeBeside_15 : decode cX7_freeBeside 15 = .ok (.iload_n 3, 1) := by decide +kernel
theorem dX7_freeBeside_16 : decode cX7_freeBeside 16 = .ok (.invokestatic 61, 3) := by decide +kernel
theorem dX7_freeBeside_19 : decode cX7_freeBeside 19 = .ok (.iaload, 1) := by decide +kernel
theorem dX7_freeBeside_20 : decode cX7_freeBeside 20 = .ok (.ifCond .ge 7, 3) := by decide +kernel
theorem dX7_freeBeside_23 : decode cX7_freeBeside 23 = .ok (.iconst 1, 1) := by decide +kernel
theorem dX7_freeBeside_24 : decode cX7_freeBeside 24 = .ok (.goto 4, 3) := by decide +kernel
theorem dX7_freeBeside_27 : decode cX7_freeBeside 27 = .ok (.iconst 0, 1) := by decide +kernel
theorem dX7_freeBeside_28 : decode cX7_freeBeside 28 = .ok (.iadd, 1) := by decide +kernel
theorem dX7_freeBeside_29 : decode cX7_freeBeside 29 = .ok (.istore_n 2, 1) := by decide +kernel
theorem dX7_freeBeside_30 : decode cX7_freeBeside 30 = .ok (.iinc 3 1, 3) := by decide +kernel
theorem dX7_freeBeside_33 : decode cX7_freeBeside 33 = .ok (.goto (-29), 3) := by decide +kernel
theorem dX7_freeBeside_36 : decode cX7_freeBeside 36 = .ok (.iload_n 2, 1) := by decide +kernel
theorem dX7_freeBeside_37 : decode cX7_freeBeside 37 = .ok (.ireturn, 1) := by decide +kernel
theorem dX7_cell_0 : decode cX7_cell 0 = .ok (.iload_n 1, 1) := by decide +kernel
theorem dX7_cell_1 : decode cX7_cell 1 = .ok (.invokestatic 113, 3) := by decide +kernel
theorem dX7_cell_4 : decode cX7_cell 4 = .ok (.ifCond .ne 5, 3) := by decide +kernel
theorem dX7_cell_7 : decode cX7_cell 7 = .ok (.iconst (-1), 1) := by decide +kernel
theorem dX7_cell_8 : decode cX7_cell 8 = .ok (.ireturn, 1) := by decide +kernel
theorem dX7_cell_9 : decode cX7_cell 9 = .ok (.iload_n 2, 1) := by decide +kernel
theorem dX7_cell_10 : decode cX7_cell 10 = .ok (.tableswitch 69 0 3 #[30, 37, 44, 63], 30) := by decide +kernel
theorem dX7_cell_40 : decode cX7_cell 40 = .ok (.aload_n 0, 1) := by decide +kernel
theorem dX7_cell_41 : decode cX7_cell 41 = .ok (.getfield 25, 3) := by decide +kernel
theorem dX7_cell_44 : decode cX7_cell 44 = .ok (.iload_n 1, 1) := by decide +kernel
theorem dX7_cell_45 : decode cX7_cell 45 = .ok (.iaload, 1) := by decide +kernel
theorem dX7_cell_46 : decode cX7_cell 46 = .ok (.ireturn, 1) := by decide +kernel
theorem dX7_cell_47 : decode cX7_cell 47 = .ok (.aload_n 0, 1) := by decide +kernel
theorem dX7_cell_48 : decode cX7_cell 48 = .ok (.getfield 28, 3) := by decide +kernel
theorem dX7_cell_51 : decode cX7_cell 51 = .ok (.iload_n 1, 1) := by decide +kernel
theorem dX7_cell_52 : decode cX7_cell 52 = .ok (.iaload, 1) := by decide +kernel
theorem dX7_cell_53 : decode cX7_cell 53 = .ok (.ireturn, 1) := by decide +kernel
theorem dX7_cell_54 : decode cX7_cell 54 = .ok (.aload_n 0, 1) := by decide +kernel
theorem dX7_cell_55 : decode cX7_cell 55 = .ok (.iload_n 1, 1) := by decide +kernel
theorem dX7_cell_56 : decode cX7_cell 56 = .ok (.invokevirtual 68, 3) := by decide +kernel
theorem dX7_cell_59 : decode cX7_cell 59 = .ok (.ifCond .eq 11, 3) := by decide +kernel
theorem dX7_cell_62 : decode cX7_cell 62 = .ok (.aload_n 0, 1) := by decide +kernel
theorem dX7_cell_63 : decode cX7_cell 63 = .ok (.iload_n 1, 1) := by decide +kernel
theorem dX7_cell_64 : decode cX7_cell 64 = .ok (.invokevirtual 76, 3) := by decide +kernel
theorem dX7_cell_67 : decode cX7_cell 67 = .ok (.goto 5, 3) := by decide +kernel
theorem dX7_cell_70 : decode cX7_cell 70 = .ok (.bipush (-5), 2) := by decide +kernel
theorem dX7_cell_72 : decode cX7_cell 72 = .ok (.ireturn, 1) := by decide +kernel
theorem dX7_cell_73 : decode cX7_cell 73 = .ok (.aload_n 0, 1) := by decide +kernel
theorem dX7_cell_74 : decode cX7_cell 74 = .ok (.iload_n 1, 1) := by decide +kernel
theorem dX7_cell_75 : decode cX7_cell 75 = .ok (.invokevirtual 174, 3) := by decide +kernel
theorem dX7_cell_78 : decode cX7_cell 78 = .ok (.ireturn, 1) := by decide +kernel
theorem dX7_cell_79 : decode cX7_cell 79 = .ok (.bipush (-2), 2) := by decide +kernel
theorem dX7_cell_81 : decode cX7_cell 81 = .ok (.ireturn, 1) := by decide +kernel
theorem dX7_touchesAt_0 : decode cX7_touchesAt 0 = .ok (.iconst 0, 1) := by decide +kernel
theorem dX7_touchesAt_1 : decode cX7_touchesAt 1 = .ok (.istore_n 2, 1) := by decide +kernel
theorem dX7_touchesAt_2 : decode cX7_touchesAt 2 = .ok (.iconst 0, 1) := by decide +kernel
theorem dX7_touchesAt_3 : decode cX7_touchesAt 3 = .ok (.istore_n 3, 1) := by decide +kernel
theorem dX7_touchesAt_4 : decode cX7_touchesAt 4 = .ok (.iload_n 3, 1) := by decide +kernel
theorem dX7_touchesAt_5 : decode cX7_touchesAt 5 = .ok (.iconst 4, 1) := by decide +kernel
theorem dX7_touchesAt_6 : decode cX7_touchesAt 6 = .ok (.if_icmp .ge 30, 3) := by decide +kernel
theorem dX7_touchesAt_9 : decode cX7_touchesAt 9 = .ok (.iload_n 2, 1) := by decide +kernel
theorem dX7_touchesAt_10 : decode cX7_touchesAt 10 = .ok (.aload_n 0, 1) := by decide +kernel
theorem dX7_touchesAt_11 : decode cX7_touchesAt 11 = .ok (.iload_n 1, 1) := by decide +kernel
theorem dX7_touchesAt_12 : decode cX7_touchesAt 12 = .ok (.iload_n 1, 1) := by decide +kernel
theorem dX7_touchesAt_13 : decode cX7_touchesAt 13 = .ok (.iload_n 3, 1) := by decide +kernel
theorem dX7_touchesAt_14 : decode cX7_touchesAt 14 = .ok (.invokestatic 61, 3) := by decide +kernel
theorem dX7_touchesAt_17 : decode cX7_touchesAt 17 = .ok (.invokevirtual 72, 3) := by decide +kernel
theorem dX7_touchesAt_20 : decode cX7_touchesAt 20 = .ok (.ifCond .eq 7, 3) := by decide +kernel
theorem dX7_touchesAt_23 : decode cX7_touchesAt 23 = .ok (.iconst 1, 1) := by decide +kernel
theorem dX7_touchesAt_24 : decode cX7_touchesAt 24 = .ok (.goto 4, 3) := by decide +kernel
theorem dX7_touchesAt_27 : decode cX7_touchesAt 27 = .ok (.iconst 0, 1) := by decide +kernel
theorem dX7_touchesAt_28 : decode cX7_touchesAt 28 = .ok (.iadd, 1) := by decide +kernel
theorem dX7_touchesAt_29 : decode cX7_touchesAt 29 = .ok (.istore_n 2, 1) := by decide +kernel
theorem dX7_touchesAt_30 : decode cX7_touchesAt 30 = .ok (.iinc 3 1, 3) := by decide +kernel
theorem dX7_touchesAt_33 : decode cX7_touchesAt 33 = .ok (.goto (-29), 3) := by decide +kernel
theorem dX7_touchesAt_36 : decode cX7_touchesAt 36 = .ok (.iload_n 2, 1) := by decide +kernel
theorem dX7_touchesAt_37 : decode cX7_touchesAt 37 = .ok (.ireturn, 1) := by decide +kernel
theorem dX7_areTouching_0 : decode cX7_areTouching 0 = .ok (.iconst 0, 1) := by decide +kernel
theorem dX7_areTouching_1 : decode cX7_areTouching 1 = .ok (.istore_n 3, 1) := by decide +kernel
theorem dX7_areTouching_2 : decode cX7_areTouching 2 = .ok (.iconst 0, 1) := by decide +kernel
theorem dX7_areTouching_3 : decode cX7_areTouching 3 = .ok (.istore 4, 2) := by decide +kernel
theorem dX7_areTouching_5 : decode cX7_areTouching 5 = .ok (.iload 4, 2) := by decide +kernel
theorem dX7_areTouching_7 : decode cX7_areTouching 7 = .ok (.iconst 4, 1) := by decide +kernel
theorem dX7_areTouching_8 : decode cX7_areTouching 8 = .ok (.if_icmp .ge 78, 3) := by decide +kernel
theorem dX7_areTouching_11 : decode cX7_areTouching 11 = .ok (.aload_n 0, 1) := by decide +kernel
theorem dX7_areTouching_12 : decode cX7_areTouching 12 = .ok (.iload_n 1, 1) := by decide +kernel
theorem dX7_areTouching_13 : decode cX7_areTouching 13 = .ok (.invokevirtual 58, 3) := by decide +kernel
theorem dX7_areTouching_16 : decode cX7_areTouching 16 = .ok (.iload 4, 2) := by decide +kernel
theorem dX7_areTouching_18 : decode cX7_areTouching 18 = .ok (.invokestatic 61, 3) := by decide +kernel
theorem dX7_areTouching_21 : decode cX7_areTouching 21 = .ok (.istore 5, 2) := by decide +kernel
theorem dX7_areTouching_23 : decode cX7_areTouching 23 = .ok (.iconst 0, 1) := by decide +kernel
theorem dX7_areTouching_24 : decode cX7_areTouching 24 = .ok (.istore 6, 2) := by decide +kernel
theorem dX7_areTouching_26 : decode cX7_areTouching 26 = .ok (.iload 6, 2) := by decide +kernel
theorem dX7_areTouching_28 : decode cX7_areTouching 28 = .ok (.iconst 4, 1) := by decide +kernel
theorem dX7_areTouching_29 : decode cX7_areTouching 29 = .ok (.if_icmp .ge 51, 3) := by decide +kernel
theorem dX7_areTouching_32 : decode cX7_areTouching 32 = .ok (.iload_n 3, 1) := by decide +kernel
theorem dX7_areTouching_33 : decode cX7_areTouching 33 = .ok (.ifCond .ne 35, 3) := by decide +kernel
theorem dX7_areTouching_36 : decode cX7_areTouching 36 = .ok (.aload_n 0, 1) := by decide +kernel
theorem dX7_areTouching_37 : decode cX7_areTouching 37 = .ok (.iload 5, 2) := by decide +kernel
theorem dX7_areTouching_39 : decode cX7_areTouching 39 = .ok (.iload 5, 2) := by decide +kernel
theorem dX7_areTouching_41 : decode cX7_areTouching 41 = .ok (.iload 6, 2) := by decide +kernel
theorem dX7_areTouching_43 : decode cX7_areTouching 43 = .ok (.invokestatic 61, 3) := by decide +kernel
theorem dX7_areTouching_46 : decode cX7_areTouching 46 = .ok (.invokevirtual 72, 3) := by decide +kernel
theorem dX7_areTouching_49 : decode cX7_areTouching 49 = .ok (.ifCond .eq 23, 3) := by decide +kernel
theorem dX7_areTouching_52 : decode cX7_areTouching 52 = .ok (.aload_n 0, 1) := by decide +kernel
theorem dX7_areTouching_53 : decode cX7_areTouching 53 = .ok (.getfield 25, 3) := by decide +kernel
theorem dX7_areTouching_56 : decode cX7_areTouching 56 = .ok (.iload 5, 2) := by decide +kernel
theorem dX7_areTouching_58 : decode cX7_areTouching 58 = .ok (.iload 6, 2) := by decide +kernel
theorem dX7_areTouching_60 : decode cX7_areTouching 60 = .ok (.invokestatic 61, 3) := by decide +kernel
theorem dX7_areTouching_63 : decode cX7_areTouching 63 = .ok (.iaload, 1) := by decide +kernel
theorem dX7_areTouching_64 : decode cX7_areTouching 64 = .ok (.iload_n 2, 1) := by decide +kernel
theorem dX7_areTouching_65 : decode cX7_areTouching 65 = .ok (.if_icmp .ne 7, 3) := by decide +kernel
theorem dX7_areTouching_68 : decode cX7_areTouching 68 = .ok (.iconst 1, 1) := by decide +kernel
theorem dX7_areTouching_69 : decode cX7_areTouching 69 = .ok (.goto 4, 3) := by decide +kernel
theorem dX7_areTouching_72 : decode cX7_areTouching 72 = .ok (.iconst 0, 1) := by decide +kernel
theorem dX7_areTouching_73 : decode cX7_areTouching 73 = .ok (.istore_n 3, 1) := by decide +kernel
theorem dX7_areTouching_74 : decode cX7_areTouching 74 = .ok (.iinc 6 1, 3) := by decide +kernel
theorem dX7_areTouching_77 : decode cX7_areTouching 77 = .ok (.goto (-51), 3) := by decide +kernel
theorem dX7_areTouching_80 : decode cX7_areTouching 80 = .ok (.iinc 4 1, 3) := by decide +kernel
theorem dX7_areTouching_83 : decode cX7_areTouching 83 = .ok (.goto (-78), 3) := by decide +kernel
theorem dX7_areTouching_86 : decode cX7_areTouching 86 = .ok (.iload_n 3, 1) := by decide +kernel
theorem dX7_areTouching_87 : decode cX7_areTouching 87 = .ok (.ireturn, 1) := by decide +kernel
theorem dX7_touchesOf_0 : decode cX7_touchesOf 0 = .ok (.iconst 0, 1) := by decide +kernel
theorem dX7_touchesOf_1 : decode cX7_touchesOf 1 = .ok (.istore_n 2, 1) := by decide +kernel
theorem dX7_touchesOf_2 : decode cX7_touchesOf 2 = .ok (.iconst 0, 1) := by decide +kernel
theorem dX7_touchesOf_3 : decode cX7_touchesOf 3 = .ok (.istore_n 3, 1) := by decide +kernel
theorem dX7_touchesOf_4 : decode cX7_touchesOf 4 = .ok (.iload_n 3, 1) := by decide +kernel
theorem dX7_touchesOf_5 : decode cX7_touchesOf 5 = .ok (.iconst 4, 1) := by decide +kernel
theorem dX7_touchesOf_6 : decode cX7_touchesOf 6 = .ok (.if_icmp .ge 25, 3) := by decide +kernel
theorem dX7_touchesOf_9 : decode cX7_touchesOf 9 = .ok (.iload_n 2, 1) := by decide +kernel
theorem dX7_touchesOf_10 : decode cX7_touchesOf 10 = .ok (.aload_n 0, 1) := by decide +kernel
theorem dX7_touchesOf_11 : decode cX7_touchesOf 11 = .ok (.aload_n 0, 1) := by decide +kernel
theorem dX7_touchesOf_12 : decode cX7_touchesOf 12 = .ok (.iload_n 1, 1) := by decide +kernel
theorem dX7_touchesOf_13 : decode cX7_touchesOf 13 = .ok (.invokevirtual 58, 3) := by decide +kernel
theorem dX7_touchesOf_16 : decode cX7_touchesOf 16 = .ok (.iload_n 3, 1) := by decide +kernel
theorem dX7_touchesOf_17 : decode cX7_touchesOf 17 = .ok (.invokestatic 61, 3) := by decide +kernel
theorem dX7_touchesOf_20 : decode cX7_touchesOf 20 = .ok (.invokevirtual 177, 3) := by decide +kernel
theorem dX7_touchesOf_23 : decode cX7_touchesOf 23 = .ok (.iadd, 1) := by decide +kernel
theorem dX7_touchesOf_24 : decode cX7_touchesOf 24 = .ok (.istore_n 2, 1) := by decide +kernel
theorem dX7_touchesOf_25 : decode cX7_touchesOf 25 = .ok (.iinc 3 1, 3) := by decide +kernel
theorem dX7_touchesOf_28 : decode cX7_touchesOf 28 = .ok (.goto (-24), 3) := by decide +kernel
theorem dX7_touchesOf_31 : decode cX7_touchesOf 31 = .ok (.iload_n 2, 1) := by decide +kernel
theorem dX7_touchesOf_32 : decode cX7_touchesOf 32 = .ok (.ireturn, 1) := by decide +kernel
theorem dX7_others_0 : decode cX7_others 0 = .ok (.iconst 0, 1) := by decide +kernel
theorem dX7_others_1 : decode cX7_others 1 = .ok (.istore_n 2, 1) := by decide +kernel
theorem dX7_others_2 : decode cX7_others 2 = .ok (.iconst 0, 1) := by decide +kernel
theorem dX7_others_3 : decode cX7_others 3 = .ok (.istore_n 3, 1) := by decide +kernel
theorem dX7_others_4 : decode cX7_others 4 = .ok (.iload_n 3, 1) := by decide +kernel
theorem dX7_others_5 : decode cX7_others 5 = .ok (.aload_n 0, 1) := by decide +kernel
theorem dX7_others_6 : decode cX7_others 6 = .ok (.getfield 7, 3) := by decide +kernel
theorem dX7_others_9 : decode cX7_others 9 = .ok (.bipush 25, 2) := by decide +kernel
theorem dX7_others_11 : decode cX7_others 11 = .ok (.iaload, 1) := by decide +kernel
theorem dX7_others_12 : decode cX7_others 12 = .ok (.if_icmp .ge 31, 3) := by decide +kernel
theorem dX7_others_15 : decode cX7_others 15 = .ok (.iload_n 2, 1) := by decide +kernel
theorem dX7_others_16 : decode cX7_others 16 = .ok (.iload_n 3, 1) := by decide +kernel
theorem dX7_others_17 : decode cX7_others 17 = .ok (.iload_n 1, 1) := by decide +kernel
theorem dX7_others_18 : decode cX7_others 18 = .ok (.if_icmp .eq 16, 3) := by decide +kernel
theorem dX7_others_21 : decode cX7_others 21 = .ok (.aload_n 0, 1) := by decide +kernel
theorem dX7_others_22 : decode cX7_others 22 = .ok (.iload_n 1, 1) := by decide +kernel
theorem dX7_others_23 : decode cX7_others 23 = .ok (.iload_n 3, 1) := by decide +kernel
theorem dX7_others_24 : decode cX7_others 24 = .ok (.invokevirtual 180, 3) := by decide +kernel
theorem dX7_others_27 : decode cX7_others 27 = .ok (.ifCond .eq 7, 3) := by decide +kernel
theorem dX7_others_30 : decode cX7_others 30 = .ok (.iconst 1, 1) := by decide +kernel
theorem dX7_others_31 : decode cX7_others 31 = .ok (.goto 4, 3) := by decide +kernel
theorem dX7_others_34 : decode cX7_others 34 = .ok (.iconst 0, 1) := by decide +kernel
theorem dX7_others_35 : decode cX7_others 35 = .ok (.iadd, 1) := by decide +kernel
theorem dX7_others_36 : decode cX7_others 36 = .ok (.istore_n 2, 1) := by decide +kernel
theorem dX7_others_37 : decode cX7_others 37 = .ok (.iinc 3 1, 3) := by decide +kernel
theorem dX7_others_40 : decode cX7_others 40 = .ok (.goto (-36), 3) := by decide +kernel
theorem dX7_others_43 : decode cX7_others 43 = .ok (.iload_n 2, 1) := by decide +kernel
theorem dX7_others_44 : decode cX7_others 44 = .ok (.ireturn, 1) := by decide +kernel
theorem dX7_freeArms_0 : decode cX7_freeArms 0 = .ok (.iconst 0, 1) := by decide +kernel
theorem dX7_freeArms_1 : decode cX7_freeArms 1 = .ok (.istore_n 2, 1) := by decide +kernel
theorem dX7_freeArms_2 : decode cX7_freeArms 2 = .ok (.iconst 0, 1) := by decide +kernel
theorem dX7_freeArms_3 : decode cX7_freeArms 3 = .ok (.istore_n 3, 1) := by decide +kernel
theorem dX7_freeArms_4 : decode cX7_freeArms 4 = .ok (.iload_n 3, 1) := by decide +kernel
theorem dX7_freeArms_5 : decode cX7_freeArms 5 = .ok (.iconst 4, 1) := by decide +kernel
theorem dX7_freeArms_6 : decode cX7_freeArms 6 = .ok (.if_icmp .ge 33, 3) := by decide +kernel
theorem dX7_freeArms_9 : decode cX7_freeArms 9 = .ok (.iload_n 2, 1) := by decide +kernel
theorem dX7_freeArms_10 : decode cX7_freeArms 10 = .ok (.aload_n 0, 1) := by decide +kernel
theorem dX7_freeArms_11 : decode cX7_freeArms 11 = .ok (.aload_n 0, 1) := by decide +kernel
theorem dX7_freeArms_12 : decode cX7_freeArms 12 = .ok (.iload_n 1, 1) := by decide +kernel
theorem dX7_freeArms_13 : decode cX7_freeArms 13 = .ok (.invokevirtual 58, 3) := by decide +kernel
theorem dX7_freeArms_16 : decode cX7_freeArms 16 = .ok (.iload_n 3, 1) := by decide +kernel
theorem dX7_freeArms_17 : decode cX7_freeArms 17 = .ok (.invokestatic 61, 3) := by decide +kernel
theorem dX7_freeArms_20 : decode cX7_freeArms 20 = .ok (.invokevirtual 177, 3) := by decide +kernel
theorem dX7_freeArms_23 : decode cX7_freeArms 23 = .ok (.ifCond .ne 7, 3) := by decide +kernel
theorem dX7_freeArms_26 : decode cX7_freeArms 26 = .ok (.iconst 1, 1) := by decide +kernel
theorem dX7_freeArms_27 : decode cX7_freeArms 27 = .ok (.goto 4, 3) := by decide +kernel
theorem dX7_freeArms_30 : decode cX7_freeArms 30 = .ok (.iconst 0, 1) := by decide +kernel
theorem dX7_freeArms_31 : decode cX7_freeArms 31 = .ok (.iadd, 1) := by decide +kernel
theorem dX7_freeArms_32 : decode cX7_freeArms 32 = .ok (.istore_n 2, 1) := by decide +kernel
theorem dX7_freeArms_33 : decode cX7_freeArms 33 = .ok (.iinc 3 1, 3) := by decide +kernel
theorem dX7_freeArms_36 : decode cX7_freeArms 36 = .ok (.goto (-32), 3) := by decide +kernel
theorem dX7_freeArms_39 : decode cX7_freeArms 39 = .ok (.iload_n 2, 1) := by decide +kernel
theorem dX7_freeArms_40 : decode cX7_freeArms 40 = .ok (.ireturn, 1) := by decide +kernel
theorem dX7_waysToTurn_0 : decode cX7_waysToTurn 0 = .ok (.aload_n 0, 1) := by decide +kernel
theorem dX7_waysToTurn_1 : decode cX7_waysToTurn 1 = .ok (.iload_n 1, 1) := by decide +kernel
theorem dX7_waysToTurn_2 : decode cX7_waysToTurn 2 = .ok (.invokevirtual 51, 3) := by decide +kernel
theorem dX7_waysToTurn_5 : decode cX7_waysToTurn 5 = .ok (.istore_n 2, 1) := by decide +kernel
theorem dX7_waysToTurn_6 : decode cX7_waysToTurn 6 = .ok (.iconst 0, 1) := by decide +kernel
theorem dX7_waysToTurn_7 : decode cX7_waysToTurn 7 = .ok (.istore_n 3, 1) := by decide +kernel
theorem dX7_waysToTurn_8 : decode cX7_waysToTurn 8 = .ok (.iconst 0, 1) := by decide +kernel
theorem dX7_waysToTurn_9 : decode cX7_waysToTurn 9 = .ok (.istore 4, 2) := by decide +kernel
theorem dX7_waysToTurn_11 : decode cX7_waysToTurn 11 = .ok (.iload 4, 2) := by decide +kernel
theorem dX7_waysToTurn_13 : decode cX7_waysToTurn 13 = .ok (.iconst 4, 1) := by decide +kernel
theorem dX7_waysToTurn_14 : decode cX7_waysToTurn 14 = .ok (.if_icmp .ge 39, 3) := by decide +kernel
theorem dX7_waysToTurn_17 : decode cX7_waysToTurn 17 = .ok (.aload_n 0, 1) := by decide +kernel
theorem dX7_waysToTurn_18 : decode cX7_waysToTurn 18 = .ok (.getfield 7, 3) := by decide +kernel
theorem dX7_waysToTurn_21 : decode cX7_waysToTurn 21 = .ok (.bipush 26, 2) := by decide +kernel
theorem dX7_waysToTurn_23 : decode cX7_waysToTurn 23 = .ok (.iconst 3, 1) := by decide +kernel
theorem dX7_waysToTurn_24 : decode cX7_waysToTurn 24 = .ok (.iload_n 1, 1) := by decide +kernel
theorem dX7_waysToTurn_25 : decode cX7_waysToTurn 25 = .ok (.imul, 1) := by decide +kernel
theorem dX7_waysToTurn_26 : decode cX7_waysToTurn 26 = .ok (.iadd, 1) := by decide +kernel
theorem dX7_waysToTurn_27 : decode cX7_waysToTurn 27 = .ok (.iconst 1, 1) := by decide +kernel
theorem dX7_waysToTurn_28 : decode cX7_waysToTurn 28 = .ok (.iadd, 1) := by decide +kernel
theorem dX7_waysToTurn_29 : decode cX7_waysToTurn 29 = .ok (.iload 4, 2) := by decide +kernel
theorem dX7_waysToTurn_31 : decode cX7_waysToTurn 31 = .ok (.iastore, 1) := by decide +kernel
theorem dX7_waysToTurn_32 : decode cX7_waysToTurn 32 = .ok (.iload_n 3, 1) := by decide +kernel
theorem dX7_waysToTurn_33 : decode cX7_waysToTurn 33 = .ok (.aload_n 0, 1) := by decide +kernel
theorem dX7_waysToTurn_34 : decode cX7_waysToTurn 34 = .ok (.invokevirtual 94, 3) := by decide +kernel
theorem dX7_waysToTurn_37 : decode cX7_waysToTurn 37 = .ok (.ifCond .eq 7, 3) := by decide +kernel
theorem dX7_waysToTurn_40 : decode cX7_waysToTurn 40 = .ok (.iconst 0, 1) := by decide +kernel
theorem dX7_waysToTurn_41 : decode cX7_waysToTurn 41 = .ok (.goto 4, 3) := by decide +kernel
theorem dX7_waysToTurn_44 : decode cX7_waysToTurn 44 = .ok (.iconst 1, 1) := by decide +kernel
theorem dX7_waysToTurn_45 : decode cX7_waysToTurn 45 = .ok (.iadd, 1) := by decide +kernel
theorem dX7_waysToTurn_46 : decode cX7_waysToTurn 46 = .ok (.istore_n 3, 1) := by decide +kernel
theorem dX7_waysToTurn_47 : decode cX7_waysToTurn 47 = .ok (.iinc 4 1, 3) := by decide +kernel
theorem dX7_waysToTurn_50 : decode cX7_waysToTurn 50 = .ok (.goto (-39), 3) := by decide +kernel
theorem dX7_waysToTurn_53 : decode cX7_waysToTurn 53 = .ok (.aload_n 0, 1) := by decide +kernel
theorem dX7_waysToTurn_54 : decode cX7_waysToTurn 54 = .ok (.getfield 7, 3) := by decide +kernel
theorem dX7_waysToTurn_57 : decode cX7_waysToTurn 57 = .ok (.bipush 26, 2) := by decide +kernel
theorem dX7_waysToTurn_59 : decode cX7_waysToTurn 59 = .ok (.iconst 3, 1) := by decide +kernel
theorem dX7_waysToTurn_60 : decode cX7_waysToTurn 60 = .ok (.iload_n 1, 1) := by decide +kernel
theorem dX7_waysToTurn_61 : decode cX7_waysToTurn 61 = .ok (.imul, 1) := by decide +kernel
theorem dX7_waysToTurn_62 : decode cX7_waysToTurn 62 = .ok (.iadd, 1) := by decide +kernel
theorem dX7_waysToTurn_63 : decode cX7_waysToTurn 63 = .ok (.iconst 1, 1) := by decide +kernel
theorem dX7_waysToTurn_64 : decode cX7_waysToTurn 64 = .ok (.iadd, 1) := by decide +kernel
theorem dX7_waysToTurn_65 : decode cX7_waysToTurn 65 = .ok (.iload_n 2, 1) := by decide +kernel
theorem dX7_waysToTurn_66 : decode cX7_waysToTurn 66 = .ok (.iastore, 1) := by decide +kernel
theorem dX7_waysToTurn_67 : decode cX7_waysToTurn 67 = .ok (.iload_n 3, 1) := by decide +kernel
theorem dX7_waysToTurn_68 : decode cX7_waysToTurn 68 = .ok (.ireturn, 1) := by decide +kernel
theorem dX7_cross_0 : decode cX7_cross 0 = .ok (.aload_n 0, 1) := by decide +kernel
theorem dX7_cross_1 : decode cX7_cross 1 = .ok (.iload_n 1, 1) := by decide +kernel
theorem dX7_cross_2 : decode cX7_cross 2 = .ok (.invokevirtual 126, 3) := by decide +kernel
theorem dX7_cross_5 : decode cX7_cross 5 = .ok (.ifCond .ne 5, 3) := by decide +kernel
theorem dX7_cross_8 : decode cX7_cross 8 = .ok (.iconst (-1), 1) := by decide +kernel
theorem dX7_cross_9 : decode cX7_cross 9 = .ok (.ireturn, 1) := by decide +kernel
theorem dX7_cross_10 : decode cX7_cross 10 = .ok (.iload_n 2, 1) := by decide +kernel
theorem dX7_cross_11 : decode cX7_cross 11 = .ok (.tableswitch 83 0 6 #[41, 47, 53, 59, 65, 71, 77], 41) := by decide +kernel
theorem dX7_cross_52 : decode cX7_cross 52 = .ok (.aload_n 0, 1) := by decide +kernel
theorem dX7_cross_53 : decode cX7_cross 53 = .ok (.iload_n 1, 1) := by decide +kernel
theorem dX7_cross_54 : decode cX7_cross 54 = .ok (.invokevirtual 47, 3) := by decide +kernel
theorem dX7_cross_57 : decode cX7_cross 57 = .ok (.ireturn, 1) := by decide +kernel
theorem dX7_cross_58 : decode cX7_cross 58 = .ok (.aload_n 0, 1) := by decide +kernel
theorem dX7_cross_59 : decode cX7_cross 59 = .ok (.iload_n 1, 1) := by decide +kernel
theorem dX7_cross_60 : decode cX7_cross 60 = .ok (.invokevirtual 51, 3) := by decide +kernel
theorem dX7_cross_63 : decode cX7_cross 63 = .ok (.ireturn, 1) := by decide +kernel
theorem dX7_cross_64 : decode cX7_cross 64 = .ok (.aload_n 0, 1) := by decide +kernel
theorem dX7_cross_65 : decode cX7_cross 65 = .ok (.iload_n 1, 1) := by decide +kernel
theorem dX7_cross_66 : decode cX7_cross 66 = .ok (.invokevirtual 58, 3) := by decide +kernel
theorem dX7_cross_69 : decode cX7_cross 69 = .ok (.ireturn, 1) := by decide +kernel
theorem dX7_cross_70 : decode cX7_cross 70 = .ok (.aload_n 0, 1) := by decide +kernel
theorem dX7_cross_71 : decode cX7_cross 71 = .ok (.iload_n 1, 1) := by decide +kernel
theorem dX7_cross_72 : decode cX7_cross 72 = .ok (.invokevirtual 183, 3) := by decide +kernel
theorem dX7_cross_75 : decode cX7_cross 75 = .ok (.ireturn, 1) := by decide +kernel
theorem dX7_cross_76 : decode cX7_cross 76 = .ok (.aload_n 0, 1) := by decide +kernel
theorem dX7_cross_77 : decode cX7_cross 77 = .ok (.iload_n 1, 1) := by decide +kernel
theorem dX7_cross_78 : decode cX7_cross 78 = .ok (.invokevirtual 186, 3) := by decide +kernel
theorem dX7_cross_81 : decode cX7_cross 81 = .ok (.ireturn, 1) := by decide +kernel
theorem dX7_cross_82 : decode cX7_cross 82 = .ok (.aload_n 0, 1) := by decide +kernel
theorem dX7_cross_83 : decode cX7_cross 83 = .ok (.iload_n 1, 1) := by decide +kernel
theorem dX7_cross_84 : decode cX7_cross 84 = .ok (.invokevirtual 189, 3) := by decide +kernel
theorem dX7_cross_87 : decode cX7_cross 87 = .ok (.ireturn, 1) := by decide +kernel
theorem dX7_cross_88 : decode cX7_cross 88 = .ok (.aload_n 0, 1) := by decide +kernel
theorem dX7_cross_89 : decode cX7_cross 89 = .ok (.iload_n 1, 1) := by decide +kernel
theorem dX7_cross_90 : decode cX7_cross 90 = .ok (.invokevirtual 192, 3) := by decide +kernel
theorem dX7_cross_93 : decode cX7_cross 93 = .ok (.ireturn, 1) := by decide +kernel
theorem dX7_cross_94 : decode cX7_cross 94 = .ok (.bipush (-2), 2) := by decide +kernel
theorem dX7_cross_96 : decode cX7_cross 96 = .ok (.ireturn, 1) := by decide +kernel
theorem dX7_allTouches_0 : decode cX7_allTouches 0 = .ok (.iconst 0, 1) := by decide +kernel
theorem dX7_allTouches_1 : decode cX7_allTouches 1 = .ok (.istore_n 2, 1) := by decide +kernel
theorem dX7_allTouches_2 : decode cX7_allTouches 2 = .ok (.iconst 0, 1) := by decide +kernel
theorem dX7_allTouches_3 : decode cX7_allTouches 3 = .ok (.istore_n 3, 1) := by decide +kernel
theorem dX7_allTouches_4 : decode cX7_allTouches 4 = .ok (.iload_n 3, 1) := by decide +kernel
theorem dX7_allTouches_5 : decode cX7_allTouches 5 = .ok (.sipush 150, 3) := by decide +kernel
theorem dX7_allTouches_8 : decode cX7_allTouches 8 = .ok (.if_icmp .ge 68, 3) := by decide +kernel
theorem dX7_allTouches_11 : decode cX7_allTouches 11 = .ok (.iconst 1, 1) := by decide +kernel
theorem dX7_allTouches_12 : decode cX7_allTouches 12 = .ok (.istore 4, 2) := by decide +kernel
theorem dX7_allTouches_14 : decode cX7_allTouches 14 = .ok (.iload 4, 2) := by decide +kernel
theorem dX7_allTouches_16 : decode cX7_allTouches 16 = .ok (.iconst 3, 1) := by decide +kernel
theorem dX7_allTouches_17 : decode cX7_allTouches 17 = .ok (.if_icmp .ge 53, 3) := by decide +kernel
theorem dX7_allTouches_20 : decode cX7_allTouches 20 = .ok (.iload_n 3, 1) := by decide +kernel
theorem dX7_allTouches_21 : decode cX7_allTouches 21 = .ok (.iload 4, 2) := by decide +kernel
theorem dX7_allTouches_23 : decode cX7_allTouches 23 = .ok (.invokestatic 61, 3) := by decide +kernel
theorem dX7_allTouches_26 : decode cX7_allTouches 26 = .ok (.istore 5, 2) := by decide +kernel
theorem dX7_allTouches_28 : decode cX7_allTouches 28 = .ok (.iload_n 2, 1) := by decide +kernel
theorem dX7_allTouches_29 : decode cX7_allTouches 29 = .ok (.aload_n 0, 1) := by decide +kernel
theorem dX7_allTouches_30 : decode cX7_allTouches 30 = .ok (.iload_n 3, 1) := by decide +kernel
theorem dX7_allTouches_31 : decode cX7_allTouches 31 = .ok (.iload 5, 2) := by decide +kernel
theorem dX7_allTouches_33 : decode cX7_allTouches 33 = .ok (.invokevirtual 72, 3) := by decide +kernel
theorem dX7_allTouches_36 : decode cX7_allTouches 36 = .ok (.ifCond .eq 25, 3) := by decide +kernel
theorem dX7_allTouches_39 : decode cX7_allTouches 39 = .ok (.iload_n 1, 1) := by decide +kernel
theorem dX7_allTouches_40 : decode cX7_allTouches 40 = .ok (.ifCond .eq 17, 3) := by decide +kernel
theorem dX7_allTouches_43 : decode cX7_allTouches 43 = .ok (.aload_n 0, 1) := by decide +kernel
theorem dX7_allTouches_44 : decode cX7_allTouches 44 = .ok (.iload_n 3, 1) := by decide +kernel
theorem dX7_allTouches_45 : decode cX7_allTouches 45 = .ok (.invokevirtual 76, 3) := by decide +kernel
theorem dX7_allTouches_48 : decode cX7_allTouches 48 = .ok (.aload_n 0, 1) := by decide +kernel
theorem dX7_allTouches_49 : decode cX7_allTouches 49 = .ok (.iload 5, 2) := by decide +kernel
theorem dX7_allTouches_51 : decode cX7_allTouches 51 = .ok (.invokevirtual 76, 3) := by decide +kernel
theorem dX7_allTouches_54 : decode cX7_allTouches 54 = .ok (.if_icmp .ne 7, 3) := by decide +kernel
theorem dX7_allTouches_57 : decode cX7_allTouches 57 = .ok (.iconst 1, 1) := by decide +kernel
theorem dX7_allTouches_58 : decode cX7_allTouches 58 = .ok (.goto 4, 3) := by decide +kernel
theorem dX7_allTouches_61 : decode cX7_allTouches 61 = .ok (.iconst 0, 1) := by decide +kernel
theorem dX7_allTouches_62 : decode cX7_allTouches 62 = .ok (.iadd, 1) := by decide +kernel
theorem dX7_allTouches_63 : decode cX7_allTouches 63 = .ok (.istore_n 2, 1) := by decide +kernel
theorem dX7_allTouches_64 : decode cX7_allTouches 64 = .ok (.iinc 4 1, 3) := by decide +kernel
theorem dX7_allTouches_67 : decode cX7_allTouches 67 = .ok (.goto (-53), 3) := by decide +kernel
theorem dX7_allTouches_70 : decode cX7_allTouches 70 = .ok (.iinc 3 1, 3) := by decide +kernel
theorem dX7_allTouches_73 : decode cX7_allTouches 73 = .ok (.goto (-69), 3) := by decide +kernel
theorem dX7_allTouches_76 : decode cX7_allTouches 76 = .ok (.iload_n 2, 1) := by decide +kernel
theorem dX7_allTouches_77 : decode cX7_allTouches 77 = .ok (.ireturn, 1) := by decide +kernel
theorem dX7_markRegion_0 : decode cX7_markRegion 0 = .ok (.iconst 0, 1) := by decide +kernel
theorem dX7_markRegion_1 : decode cX7_markRegion 1 = .ok (.istore_n 2, 1) := by decide +kernel
theorem dX7_markRegion_2 : decode cX7_markRegion 2 = .ok (.iconst 1, 1) := by decide +kernel
theorem dX7_markRegion_3 : decode cX7_markRegion 3 = .ok (.istore_n 3, 1) := by decide +kernel
theorem dX7_markRegion_4 : decode cX7_markRegion 4 = .ok (.aload_n 0, 1) := by decide +kernel
theorem dX7_markRegion_5 : decode cX7_markRegion 5 = .ok (.getfield 34, 3) := by decide +kernel
theorem dX7_markRegion_8 : decode cX7_markRegion 8 = .ok (.iconst 0, 1) := by decide +kernel
theorem dX7_markRegion_9 : decode cX7_markRegion 9 = .ok (.iload_n 1, 1) := by decide +kernel
theorem dX7_markRegion_10 : decode cX7_markRegion 10 = .ok (.iastore, 1) := by decide +kernel
theorem dX7_markRegion_11 : decode cX7_markRegion 11 = .ok (.aload_n 0, 1) := by decide +kernel
theorem dX7_markRegion_12 : decode cX7_markRegion 12 = .ok (.getfield 31, 3) := by decide +kernel
theorem dX7_markRegion_15 : decode cX7_markRegion 15 = .ok (.iload_n 1, 1) := by decide +kernel
theorem dX7_markRegion_16 : decode cX7_markRegion 16 = .ok (.iconst 1, 1) := by decide +kernel
theorem dX7_markRegion_17 : decode cX7_markRegion 17 = .ok (.iastore, 1) := by decide +kernel
theorem dX7_markRegion_18 : decode cX7_markRegion 18 = .ok (.iload_n 2, 1) := by decide +kernel
theorem dX7_markRegion_19 : decode cX7_markRegion 19 = .ok (.iload_n 3, 1) := by decide +kernel
theorem dX7_markRegion_20 : decode cX7_markRegion 20 = .ok (.if_icmp .ge 76, 3) := by decide +kernel
theorem dX7_markRegion_23 : decode cX7_markRegion 23 = .ok (.iconst 0, 1) := by decide +kernel
theorem dX7_markRegion_24 : decode cX7_markRegion 24 = .ok (.istore 4, 2) := by decide +kernel
theorem dX7_markRegion_26 : decode cX7_markRegion 26 = .ok (.iload 4, 2) := by decide +kernel
theorem dX7_markRegion_28 : decode cX7_markRegion 28 = .ok (.iconst 4, 1) := by decide +kernel
theorem dX7_markRegion_29 : decode cX7_markRegion 29 = .ok (.if_icmp .ge 61, 3) := by decide +kernel
theorem dX7_markRegion_32 : decode cX7_markRegion 32 = .ok (.aload_n 0, 1) := by decide +kernel
theorem dX7_markRegion_33 : decode cX7_markRegion 33 = .ok (.getfield 34, 3) := by decide +kernel
theorem dX7_markRegion_36 : decode cX7_markRegion 36 = .ok (.iload_n 2, 1) := by decide +kernel
theorem dX7_markRegion_37 : decode cX7_markRegion 37 = .ok (.iaload, 1) := by decide +kernel
theorem dX7_markRegion_38 : decode cX7_markRegion 38 = .ok (.iload 4, 2) := by decide +kernel
theorem dX7_markRegion_40 : decode cX7_markRegion 40 = .ok (.invokestatic 61, 3) := by decide +kernel
theorem dX7_markRegion_43 : decode cX7_markRegion 43 = .ok (.istore 5, 2) := by decide +kernel
theorem dX7_markRegion_45 : decode cX7_markRegion 45 = .ok (.aload_n 0, 1) := by decide +kernel
theorem dX7_markRegion_46 : decode cX7_markRegion 46 = .ok (.getfield 25, 3) := by decide +kernel
theorem dX7_markRegion_49 : decode cX7_markRegion 49 = .ok (.iload 5, 2) := by decide +kernel
theorem dX7_markRegion_51 : decode cX7_markRegion 51 = .ok (.iaload, 1) := by decide +kernel
theorem dX7_markRegion_52 : decode cX7_markRegion 52 = .ok (.ifCond .ge 32, 3) := by decide +kernel
theorem dX7_markRegion_55 : decode cX7_markRegion 55 = .ok (.aload_n 0, 1) := by decide +kernel
theorem dX7_markRegion_56 : decode cX7_markRegion 56 = .ok (.getfield 31, 3) := by decide +kernel
theorem dX7_markRegion_59 : decode cX7_markRegion 59 = .ok (.iload 5, 2) := by decide +kernel
theorem dX7_markRegion_61 : decode cX7_markRegion 61 = .ok (.iaload, 1) := by decide +kernel
theorem dX7_markRegion_62 : decode cX7_markRegion 62 = .ok (.ifCond .ne 22, 3) := by decide +kernel
theorem dX7_markRegion_65 : decode cX7_markRegion 65 = .ok (.aload_n 0, 1) := by decide +kernel
theorem dX7_markRegion_66 : decode cX7_markRegion 66 = .ok (.getfield 31, 3) := by decide +kernel
theorem dX7_markRegion_69 : decode cX7_markRegion 69 = .ok (.iload 5, 2) := by decide +kernel
theorem dX7_markRegion_71 : decode cX7_markRegion 71 = .ok (.iconst 1, 1) := by decide +kernel
theorem dX7_markRegion_72 : decode cX7_markRegion 72 = .ok (.iastore, 1) := by decide +kernel
theorem dX7_markRegion_73 : decode cX7_markRegion 73 = .ok (.aload_n 0, 1) := by decide +kernel
theorem dX7_markRegion_74 : decode cX7_markRegion 74 = .ok (.getfield 34, 3) := by decide +kernel
theorem dX7_markRegion_77 : decode cX7_markRegion 77 = .ok (.iload_n 3, 1) := by decide +kernel
theorem dX7_markRegion_78 : decode cX7_markRegion 78 = .ok (.iload 5, 2) := by decide +kernel
theorem dX7_markRegion_80 : decode cX7_markRegion 80 = .ok (.iastore, 1) := by decide +kernel
theorem dX7_markRegion_81 : decode cX7_markRegion 81 = .ok (.iinc 3 1, 3) := by decide +kernel
theorem dX7_markRegion_84 : decode cX7_markRegion 84 = .ok (.iinc 4 1, 3) := by decide +kernel
theorem dX7_markRegion_87 : decode cX7_markRegion 87 = .ok (.goto (-61), 3) := by decide +kernel
theorem dX7_markRegion_90 : decode cX7_markRegion 90 = .ok (.iinc 2 1, 3) := by decide +kernel
theorem dX7_markRegion_93 : decode cX7_markRegion 93 = .ok (.goto (-75), 3) := by decide +kernel
theorem dX7_markRegion_96 : decode cX7_markRegion 96 = .ok (.iload_n 3, 1) := by decide +kernel
theorem dX7_markRegion_97 : decode cX7_markRegion 97 = .ok (.ireturn, 1) := by decide +kernel
theorem dX7_regions_0 : decode cX7_regions 0 = .ok (.iconst 0, 1) := by decide +kernel
theorem dX7_regions_1 : decode cX7_regions 1 = .ok (.istore_n 2, 1) := by decide +kernel
theorem dX7_regions_2 : decode cX7_regions 2 = .ok (.iload_n 2, 1) := by decide +kernel
theorem dX7_regions_3 : decode cX7_regions 3 = .ok (.sipush 150, 3) := by decide +kernel
theorem dX7_regions_6 : decode cX7_regions 6 = .ok (.if_icmp .ge 16, 3) := by decide +kernel
theorem dX7_regions_9 : decode cX7_regions 9 = .ok (.aload_n 0, 1) := by decide +kernel
theorem dX7_regions_10 : decode cX7_regions 10 = .ok (.getfield 31, 3) := by decide +kernel
theorem dX7_regions_13 : decode cX7_regions 13 = .ok (.iload_n 2, 1) := by decide +kernel
theorem dX7_regions_14 : decode cX7_regions 14 = .ok (.iconst 0, 1) := by decide +kernel
theorem dX7_regions_15 : decode cX7_regions 15 = .ok (.iastore, 1) := by decide +kernel
theorem dX7_regions_16 : decode cX7_regions 16 = .ok (.iinc 2 1, 3) := by decide +kernel
theorem dX7_regions_19 : decode cX7_regions 19 = .ok (.goto (-17), 3) := by decide +kernel
theorem dX7_regions_22 : decode cX7_regions 22 = .ok (.iconst 0, 1) := by decide +kernel
theorem dX7_regions_23 : decode cX7_regions 23 = .ok (.istore_n 2, 1) := by decide +kernel
theorem dX7_regions_24 : decode cX7_regions 24 = .ok (.iconst 0, 1) := by decide +kernel
theorem dX7_regions_25 : decode cX7_regions 25 = .ok (.istore_n 3, 1) := by decide +kernel
theorem dX7_regions_26 : decode cX7_regions 26 = .ok (.iconst 0, 1) := by decide +kernel
theorem dX7_regions_27 : decode cX7_regions 27 = .ok (.istore 4, 2) := by decide +kernel
theorem dX7_regions_29 : decode cX7_regions 29 = .ok (.iload 4, 2) := by decide +kernel
theorem dX7_regions_31 : decode cX7_regions 31 = .ok (.sipush 150, 3) := by decide +kernel
theorem dX7_regions_34 : decode cX7_regions 34 = .ok (.if_icmp .ge 53, 3) := by decide +kernel
theorem dX7_regions_37 : decode cX7_regions 37 = .ok (.aload_n 0, 1) := by decide +kernel
theorem dX7_regions_38 : decode cX7_regions 38 = .ok (.getfield 25, 3) := by decide +kernel
theorem dX7_regions_41 : decode cX7_regions 41 = .ok (.iload 4, 2) := by decide +kernel
theorem dX7_regions_43 : decode cX7_regions 43 = .ok (.iaload, 1) := by decide +kernel
theorem dX7_regions_44 : decode cX7_regions 44 = .ok (.ifCond .ge 37, 3) := by decide +kernel
theorem dX7_regions_47 : decode cX7_regions 47 = .ok (.aload_n 0, 1) := by decide +kernel
theorem dX7_regions_48 : decode cX7_regions 48 = .ok (.getfield 31, 3) := by decide +kernel
theorem dX7_regions_51 : decode cX7_regions 51 = .ok (.iload 4, 2) := by decide +kernel
theorem dX7_regions_53 : decode cX7_regions 53 = .ok (.iaload, 1) := by decide +kernel
theorem dX7_regions_54 : decode cX7_regions 54 = .ok (.ifCond .ne 27, 3) := by decide +kernel
theorem dX7_regions_57 : decode cX7_regions 57 = .ok (.aload_n 0, 1) := by decide +kernel
theorem dX7_regions_58 : decode cX7_regions 58 = .ok (.iload 4, 2) := by decide +kernel
theorem dX7_regions_60 : decode cX7_regions 60 = .ok (.invokevirtual 195, 3) := by decide +kernel
theorem dX7_regions_63 : decode cX7_regions 63 = .ok (.istore 5, 2) := by decide +kernel
theorem dX7_regions_65 : decode cX7_regions 65 = .ok (.iinc 2 1, 3) := by decide +kernel
theorem dX7_regions_68 : decode cX7_regions 68 = .ok (.iload 5, 2) := by decide +kernel
theorem dX7_regions_70 : decode cX7_regions 70 = .ok (.iload_n 3, 1) := by decide +kernel
theorem dX7_regions_71 : decode cX7_regions 71 = .ok (.if_icmp .le 8, 3) := by decide +kernel
theorem dX7_regions_74 : decode cX7_regions 74 = .ok (.iload 5, 2) := by decide +kernel
theorem dX7_regions_76 : decode cX7_regions 76 = .ok (.goto 4, 3) := by decide +kernel
theorem dX7_regions_79 : decode cX7_regions 79 = .ok (.iload_n 3, 1) := by decide +kernel
theorem dX7_regions_80 : decode cX7_regions 80 = .ok (.istore_n 3, 1) := by decide +kernel
theorem dX7_regions_81 : decode cX7_regions 81 = .ok (.iinc 4 1, 3) := by decide +kernel
theorem dX7_regions_84 : decode cX7_regions 84 = .ok (.goto (-55), 3) := by decide +kernel
theorem dX7_regions_87 : decode cX7_regions 87 = .ok (.iload_n 1, 1) := by decide +kernel
theorem dX7_regions_88 : decode cX7_regions 88 = .ok (.ifCond .eq 7, 3) := by decide +kernel
theorem dX7_regions_91 : decode cX7_regions 91 = .ok (.iload_n 3, 1) := by decide +kernel
theorem dX7_regions_92 : decode cX7_regions 92 = .ok (.goto 4, 3) := by decide +kernel
theorem dX7_regions_95 : decode cX7_regions 95 = .ok (.iload_n 2, 1) := by decide +kernel
theorem dX7_regions_96 : decode cX7_regions 96 = .ok (.ireturn, 1) := by decide +kernel
theorem dX7_groups_0 : decode cX7_groups 0 = .ok (.iconst 0, 1) := by decide +kernel
theorem dX7_groups_1 : decode cX7_groups 1 = .ok (.istore_n 1, 1) := by decide +kernel
theorem dX7_groups_2 : decode cX7_groups 2 = .ok (.iload_n 1, 1) := by decide +kernel
theorem dX7_groups_3 : decode cX7_groups 3 = .ok (.aload_n 0, 1) := by decide +kernel
theorem dX7_groups_4 : decode cX7_groups 4 = .ok (.getfield 7, 3) := by decide +kernel
theorem dX7_groups_7 : decode cX7_groups 7 = .ok (.bipush 25, 2) := by decide +kernel
theorem dX7_groups_9 : decode cX7_groups 9 = .ok (.iaload, 1) := by decide +kernel
theorem dX7_groups_10 : decode cX7_groups 10 = .ok (.if_icmp .ge 16, 3) := by decide +kernel
theorem dX7_groups_13 : decode cX7_groups 13 = .ok (.aload_n 0, 1) := by decide +kernel
theorem dX7_groups_14 : decode cX7_groups 14 = .ok (.getfield 31, 3) := by decide +kernel
theorem dX7_groups_17 : decode cX7_groups 17 = .ok (.iload_n 1, 1) := by decide +kernel
theorem dX7_groups_18 : decode cX7_groups 18 = .ok (.iload_n 1, 1) := by decide +kernel
theorem dX7_groups_19 : decode cX7_groups 19 = .ok (.iastore, 1) := by decide +kernel
theorem dX7_groups_20 : decode cX7_groups 20 = .ok (.iinc 1 1, 3) := by decide +kernel
theorem dX7_groups_23 : decode cX7_groups 23 = .ok (.goto (-21), 3) := by decide +kernel
theorem dX7_groups_26 : decode cX7_groups 26 = .ok (.aload_n 0, 1) := by decide +kernel
theorem dX7_groups_27 : decode cX7_groups 27 = .ok (.getfield 7, 3) := by decide +kernel
theorem dX7_groups_30 : decode cX7_groups 30 = .ok (.bipush 25, 2) := by decide +kernel
theorem dX7_groups_32 : decode cX7_groups 32 = .ok (.iaload, 1) := by decide +kernel
theorem dX7_groups_33 : decode cX7_groups 33 = .ok (.istore_n 1, 1) := by decide +kernel
theorem dX7_groups_34 : decode cX7_groups 34 = .ok (.iconst 0, 1) := by decide +kernel
theorem dX7_groups_35 : decode cX7_groups 35 = .ok (.istore_n 2, 1) := by decide +kernel
theorem dX7_groups_36 : decode cX7_groups 36 = .ok (.iload_n 2, 1) := by decide +kernel
theorem dX7_groups_37 : decode cX7_groups 37 = .ok (.aload_n 0, 1) := by decide +kernel
theorem dX7_groups_38 : decode cX7_groups 38 = .ok (.getfield 7, 3) := by decide +kernel
theorem dX7_groups_41 : decode cX7_groups 41 = .ok (.bipush 25, 2) := by decide +kernel
theorem dX7_groups_43 : decode cX7_groups 43 = .ok (.iaload, 1) := by decide +kernel
theorem dX7_groups_44 : decode cX7_groups 44 = .ok (.if_icmp .ge 113, 3) := by decide +kernel
theorem dX7_groups_47 : decode cX7_groups 47 = .ok (.iconst 0, 1) := by decide +kernel
theorem dX7_groups_48 : decode cX7_groups 48 = .ok (.istore_n 3, 1) := by decide +kernel
theorem dX7_groups_49 : decode cX7_groups 49 = .ok (.iload_n 3, 1) := by decide +kernel
theorem dX7_groups_50 : decode cX7_groups 50 = .ok (.iload_n 2, 1) := by decide +kernel
theorem dX7_groups_51 : decode cX7_groups 51 = .ok (.if_icmp .ge 100, 3) := by decide +kernel
theorem dX7_groups_54 : decode cX7_groups 54 = .ok (.aload_n 0, 1) := by decide +kernel
theorem dX7_groups_55 : decode cX7_groups 55 = .ok (.getfield 31, 3) := by decide +kernel
theorem dX7_groups_58 : decode cX7_groups 58 = .ok (.iload_n 2, 1) := by decide +kernel
theorem dX7_groups_59 : decode cX7_groups 59 = .ok (.iaload, 1) := by decide +kernel
theorem dX7_groups_60 : decode cX7_groups 60 = .ok (.aload_n 0, 1) := by decide +kernel
theorem dX7_groups_61 : decode cX7_groups 61 = .ok (.getfield 31, 3) := by decide +kernel
theorem dX7_groups_64 : decode cX7_groups 64 = .ok (.iload_n 3, 1) := by decide +kernel
theorem dX7_groups_65 : decode cX7_groups 65 = .ok (.iaload, 1) := by decide +kernel
theorem dX7_groups_66 : decode cX7_groups 66 = .ok (.if_icmp .eq 79, 3) := by decide +kernel
theorem dX7_groups_69 : decode cX7_groups 69 = .ok (.aload_n 0, 1) := by decide +kernel
theorem dX7_groups_70 : decode cX7_groups 70 = .ok (.iload_n 2, 1) := by decide +kernel
theorem dX7_groups_71 : decode cX7_groups 71 = .ok (.iload_n 3, 1) := by decide +kernel
theorem dX7_groups_72 : decode cX7_groups 72 = .ok (.invokevirtual 180, 3) := by decide +kernel
theorem dX7_groups_75 : decode cX7_groups 75 = .ok (.ifCond .eq 70, 3) := by decide +kernel
theorem dX7_groups_78 : decode cX7_groups 78 = .ok (.iinc 1 (-1), 3) := by decide +kernel
theorem dX7_groups_81 : decode cX7_groups 81 = .ok (.aload_n 0, 1) := by decide +kernel
theorem dX7_groups_82 : decode cX7_groups 82 = .ok (.getfield 31, 3) := by decide +kernel
theorem dX7_groups_85 : decode cX7_groups 85 = .ok (.iload_n 3, 1) := by decide +kernel
theorem dX7_groups_86 : decode cX7_groups 86 = .ok (.iaload, 1) := by decide +kernel
theorem dX7_groups_87 : decode cX7_groups 87 = .ok (.istore 4, 2) := by decide +kernel
theorem dX7_groups_89 : decode cX7_groups 89 = .ok (.iconst 0, 1) := by decide +kernel
theorem dX7_groups_90 : decode cX7_groups 90 = .ok (.istore 5, 2) := by decide +kernel
theorem dX7_groups_92 : decode cX7_groups 92 = .ok (.iload 5, 2) := by decide +kernel
theorem dX7_groups_94 : decode cX7_groups 94 = .ok (.aload_n 0, 1) := by decide +kernel
theorem dX7_groups_95 : decode cX7_groups 95 = .ok (.getfield 7, 3) := by decide +kernel
theorem dX7_groups_98 : decode cX7_groups 98 = .ok (.bipush 25, 2) := by decide +kernel
theorem dX7_groups_100 : decode cX7_groups 100 = .ok (.iaload, 1) := by decide +kernel
theorem dX7_groups_101 : decode cX7_groups 101 = .ok (.if_icmp .ge 44, 3) := by decide +kernel
theorem dX7_groups_104 : decode cX7_groups 104 = .ok (.aload_n 0, 1) := by decide +kernel
theorem dX7_groups_105 : decode cX7_groups 105 = .ok (.getfield 31, 3) := by decide +kernel
theorem dX7_groups_108 : decode cX7_groups 108 = .ok (.iload 5, 2) := by decide +kernel
theorem dX7_groups_110 : decode cX7_groups 110 = .ok (.aload_n 0, 1) := by decide +kernel
theorem dX7_groups_111 : decode cX7_groups 111 = .ok (.getfield 31, 3) := by decide +kernel
theorem dX7_groups_114 : decode cX7_groups 114 = .ok (.iload 5, 2) := by decide +kernel
theorem dX7_groups_116 : decode cX7_groups 116 = .ok (.iaload, 1) := by decide +kernel
theorem dX7_groups_117 : decode cX7_groups 117 = .ok (.iload 4, 2) := by decide +kernel
theorem dX7_groups_119 : decode cX7_groups 119 = .ok (.if_icmp .ne 12, 3) := by decide +kernel
theorem dX7_groups_122 : decode cX7_groups 122 = .ok (.aload_n 0, 1) := by decide +kernel
theorem dX7_groups_123 : decode cX7_groups 123 = .ok (.getfield 31, 3) := by decide +kernel
theorem dX7_groups_126 : decode cX7_groups 126 = .ok (.iload_n 2, 1) := by decide +kernel
theorem dX7_groups_127 : decode cX7_groups 127 = .ok (.iaload, 1) := by decide +kernel
theorem dX7_groups_128 : decode cX7_groups 128 = .ok (.goto 10, 3) := by decide +kernel
theorem dX7_groups_131 : decode cX7_groups 131 = .ok (.aload_n 0, 1) := by decide +kernel
theorem dX7_groups_132 : decode cX7_groups 132 = .ok (.getfield 31, 3) := by decide +kernel
theorem dX7_groups_135 : decode cX7_groups 135 = .ok (.iload 5, 2) := by decide +kernel
theorem dX7_groups_137 : decode cX7_groups 137 = .ok (.iaload, 1) := by decide +kernel
theorem dX7_groups_138 : decode cX7_groups 138 = .ok (.iastore, 1) := by decide +kernel
theorem dX7_groups_139 : decode cX7_groups 139 = .ok (.iinc 5 1, 3) := by decide +kernel
theorem dX7_groups_142 : decode cX7_groups 142 = .ok (.goto (-50), 3) := by decide +kernel
theorem dX7_groups_145 : decode cX7_groups 145 = .ok (.iinc 3 1, 3) := by decide +kernel
theorem dX7_groups_148 : decode cX7_groups 148 = .ok (.goto (-99), 3) := by decide +kernel
theorem dX7_groups_151 : decode cX7_groups 151 = .ok (.iinc 2 1, 3) := by decide +kernel
theorem dX7_groups_154 : decode cX7_groups 154 = .ok (.goto (-118), 3) := by decide +kernel
theorem dX7_groups_157 : decode cX7_groups 157 = .ok (.iload_n 1, 1) := by decide +kernel
theorem dX7_groups_158 : decode cX7_groups 158 = .ok (.ireturn, 1) := by decide +kernel
theorem dX7_alone_0 : decode cX7_alone 0 = .ok (.iconst 0, 1) := by decide +kernel
theorem dX7_alone_1 : decode cX7_alone 1 = .ok (.istore_n 1, 1) := by decide +kernel
theorem dX7_alone_2 : decode cX7_alone 2 = .ok (.iconst 0, 1) := by decide +kernel
theorem dX7_alone_3 : decode cX7_alone 3 = .ok (.istore_n 2, 1) := by decide +kernel
theorem dX7_alone_4 : decode cX7_alone 4 = .ok (.iload_n 2, 1) := by decide +kernel
theorem dX7_alone_5 : decode cX7_alone 5 = .ok (.aload_n 0, 1) := by decide +kernel
theorem dX7_alone_6 : decode cX7_alone 6 = .ok (.getfield 7, 3) := by decide +kernel
theorem dX7_alone_9 : decode cX7_alone 9 = .ok (.bipush 25, 2) := by decide +kernel
theorem dX7_alone_11 : decode cX7_alone 11 = .ok (.iaload, 1) := by decide +kernel
theorem dX7_alone_12 : decode cX7_alone 12 = .ok (.if_icmp .ge 25, 3) := by decide +kernel
theorem dX7_alone_15 : decode cX7_alone 15 = .ok (.iload_n 1, 1) := by decide +kernel
theorem dX7_alone_16 : decode cX7_alone 16 = .ok (.aload_n 0, 1) := by decide +kernel
theorem dX7_alone_17 : decode cX7_alone 17 = .ok (.iload_n 2, 1) := by decide +kernel
theorem dX7_alone_18 : decode cX7_alone 18 = .ok (.invokevirtual 183, 3) := by decide +kernel
theorem dX7_alone_21 : decode cX7_alone 21 = .ok (.ifCond .ne 7, 3) := by decide +kernel
theorem dX7_alone_24 : decode cX7_alone 24 = .ok (.iconst 1, 1) := by decide +kernel
theorem dX7_alone_25 : decode cX7_alone 25 = .ok (.goto 4, 3) := by decide +kernel
theorem dX7_alone_28 : decode cX7_alone 28 = .ok (.iconst 0, 1) := by decide +kernel
theorem dX7_alone_29 : decode cX7_alone 29 = .ok (.iadd, 1) := by decide +kernel
theorem dX7_alone_30 : decode cX7_alone 30 = .ok (.istore_n 1, 1) := by decide +kernel
theorem dX7_alone_31 : decode cX7_alone 31 = .ok (.iinc 2 1, 3) := by decide +kernel
theorem dX7_alone_34 : decode cX7_alone 34 = .ok (.goto (-30), 3) := by decide +kernel
theorem dX7_alone_37 : decode cX7_alone 37 = .ok (.iload_n 1, 1) := by decide +kernel
theorem dX7_alone_38 : decode cX7_alone 38 = .ok (.ireturn, 1) := by decide +kernel
theorem dX7_total_0 : decode cX7_total 0 = .ok (.iload_n 1, 1) := by decide +kernel
theorem dX7_total_1 : decode cX7_total 1 = .ok (.tableswitch 133 0 10 #[59, 67, 75, 89, 95, 101, 107, 113, 118, 123, 128], 59) := by decide +kernel
theorem dX7_total_60 : decode cX7_total 60 = .ok (.aload_n 0, 1) := by decide +kernel
theorem dX7_total_61 : decode cX7_total 61 = .ok (.getfield 7, 3) := by decide +kernel
theorem dX7_total_64 : decode cX7_total 64 = .ok (.bipush 25, 2) := by decide +kernel
theorem dX7_total_66 : decode cX7_total 66 = .ok (.iaload, 1) := by decide +kernel
theorem dX7_total_67 : decode cX7_total 67 = .ok (.ireturn, 1) := by decide +kernel
theorem dX7_total_68 : decode cX7_total 68 = .ok (.aload_n 0, 1) := by decide +kernel
theorem dX7_total_69 : decode cX7_total 69 = .ok (.getfield 7, 3) := by decide +kernel
theorem dX7_total_72 : decode cX7_total 72 = .ok (.bipush 24, 2) := by decide +kernel
theorem dX7_total_74 : decode cX7_total 74 = .ok (.iaload, 1) := by decide +kernel
theorem dX7_total_75 : decode cX7_total 75 = .ok (.ireturn, 1) := by decide +kernel
theorem dX7_total_76 : decode cX7_total 76 = .ok (.sipush 150, 3) := by decide +kernel
theorem dX7_total_79 : decode cX7_total 79 = .ok (.iconst 5, 1) := by decide +kernel
theorem dX7_total_80 : decode cX7_total 80 = .ok (.aload_n 0, 1) := by decide +kernel
theorem dX7_total_81 : decode cX7_total 81 = .ok (.getfield 7, 3) := by decide +kernel
theorem dX7_total_84 : decode cX7_total 84 = .ok (.bipush 25, 2) := by decide +kernel
theorem dX7_total_86 : decode cX7_total 86 = .ok (.iaload, 1) := by decide +kernel
theorem dX7_total_87 : decode cX7_total 87 = .ok (.imul, 1) := by decide +kernel
theorem dX7_total_88 : decode cX7_total 88 = .ok (.isub, 1) := by decide +kernel
theorem dX7_total_89 : decode cX7_total 89 = .ok (.ireturn, 1) := by decide +kernel
theorem dX7_total_90 : decode cX7_total 90 = .ok (.aload_n 0, 1) := by decide +kernel
theorem dX7_total_91 : decode cX7_total 91 = .ok (.iconst 0, 1) := by decide +kernel
theorem dX7_total_92 : decode cX7_total 92 = .ok (.invokevirtual 198, 3) := by decide +kernel
theorem dX7_total_95 : decode cX7_total 95 = .ok (.ireturn, 1) := by decide +kernel
theorem dX7_total_96 : decode cX7_total 96 = .ok (.aload_n 0, 1) := by decide +kernel
theorem dX7_total_97 : decode cX7_total 97 = .ok (.iconst 1, 1) := by decide +kernel
theorem dX7_total_98 : decode cX7_total 98 = .ok (.invokevirtual 198, 3) := by decide +kernel
theorem dX7_total_101 : decode cX7_total 101 = .ok (.ireturn, 1) := by decide +kernel
theorem dX7_total_102 : decode cX7_total 102 = .ok (.aload_n 0, 1) := by decide +kernel
theorem dX7_total_103 : decode cX7_total 103 = .ok (.iconst 0, 1) := by decide +kernel
theorem dX7_total_104 : decode cX7_total 104 = .ok (.invokevirtual 202, 3) := by decide +kernel
theorem dX7_total_107 : decode cX7_total 107 = .ok (.ireturn, 1) := by decide +kernel
theorem dX7_total_108 : decode cX7_total 108 = .ok (.aload_n 0, 1) := by decide +kernel
theorem dX7_total_109 : decode cX7_total 109 = .ok (.iconst 1, 1) := by decide +kernel
theorem dX7_total_110 : decode cX7_total 110 = .ok (.invokevirtual 202, 3) := by decide +kernel
theorem dX7_total_113 : decode cX7_total 113 = .ok (.ireturn, 1) := by decide +kernel
theorem dX7_total_114 : decode cX7_total 114 = .ok (.aload_n 0, 1) := by decide +kernel
theorem dX7_total_115 : decode cX7_total 115 = .ok (.invokevirtual 205, 3) := by decide +kernel
theorem dX7_total_118 : decode cX7_total 118 = .ok (.ireturn, 1) := by decide +kernel
theorem dX7_total_119 : decode cX7_total 119 = .ok (.aload_n 0, 1) := by decide +kernel
theorem dX7_total_120 : decode cX7_total 120 = .ok (.invokevirtual 208, 3) := by decide +kernel
theorem dX7_total_123 : decode cX7_total 123 = .ok (.ireturn, 1) := by decide +kernel
theorem dX7_total_124 : decode cX7_total 124 = .ok (.aload_n 0, 1) := by decide +kernel
theorem dX7_total_125 : decode cX7_total 125 = .ok (.getfield 82, 3) := by decide +kernel
theorem dX7_total_128 : decode cX7_total 128 = .ok (.ireturn, 1) := by decide +kernel
theorem dX7_total_129 : decode cX7_total 129 = .ok (.aload_n 0, 1) := by decide +kernel
theorem dX7_total_130 : decode cX7_total 130 = .ok (.getfield 139, 3) := by decide +kernel
theorem dX7_total_133 : decode cX7_total 133 = .ok (.ireturn, 1) := by decide +kernel
theorem dX7_total_134 : decode cX7_total 134 = .ok (.bipush (-2), 2) := by decide +kernel
theorem dX7_total_136 : decode cX7_total 136 = .ok (.ireturn, 1) := by decide +kernel
theorem dX7_reason_0 : decode cX7_reason 0 = .ok (.iload_n 1, 1) := by decide +kernel
theorem dX7_reason_1 : decode cX7_reason 1 = .ok (.invokestatic 101, 3) := by decide +kernel
theorem dX7_reason_4 : decode cX7_reason 4 = .ok (.ifCond .eq 10, 3) := by decide +kernel
theorem dX7_reason_7 : decode cX7_reason 7 = .ok (.iload_n 3, 1) := by decide +kernel
theorem dX7_reason_8 : decode cX7_reason 8 = .ok (.invokestatic 113, 3) := by decide +kernel
theorem dX7_reason_11 : decode cX7_reason 11 = .ok (.ifCond .ne 5, 3) := by decide +kernel
theorem dX7_reason_14 : decode cX7_reason 14 = .ok (.iconst (-1), 1) := by decide +kernel
theorem dX7_reason_15 : decode cX7_reason 15 = .ok (.ireturn, 1) := by decide +kernel
theorem dX7_reason_16 : decode cX7_reason 16 = .ok (.iload_n 2, 1) := by decide +kernel
theorem dX7_reason_17 : decode cX7_reason 17 = .ok (.iconst 0, 1) := by decide +kernel
theorem dX7_reason_18 : decode cX7_reason 18 = .ok (.iconst 3, 1) := by decide +kernel
theorem dX7_reason_19 : decode cX7_reason 19 = .ok (.invokestatic 43, 3) := by decide +kernel
theorem dX7_reason_22 : decode cX7_reason 22 = .ok (.ifCond .eq 13, 3) := by decide +kernel
theorem dX7_reason_25 : decode cX7_reason 25 = .ok (.aload_n 0, 1) := by decide +kernel
theorem dX7_reason_26 : decode cX7_reason 26 = .ok (.iload_n 1, 1) := by decide +kernel
theorem dX7_reason_27 : decode cX7_reason 27 = .ok (.iload_n 2, 1) := by decide +kernel
theorem dX7_reason_28 : decode cX7_reason 28 = .ok (.iload_n 3, 1) := by decide +kernel
theorem dX7_reason_29 : decode cX7_reason 29 = .ok (.invokevirtual 116, 3) := by decide +kernel
theorem dX7_reason_32 : decode cX7_reason 32 = .ok (.goto 5, 3) := by decide +kernel
theorem dX7_reason_35 : decode cX7_reason 35 = .ok (.bipush (-2), 2) := by decide +kernel
theorem dX7_reason_37 : decode cX7_reason 37 = .ok (.ireturn, 1) := by decide +kernel
theorem dX7_places_0 : decode cX7_places 0 = .ok (.iload_n 1, 1) := by decide +kernel
theorem dX7_places_1 : decode cX7_places 1 = .ok (.invokestatic 101, 3) := by decide +kernel
theorem dX7_places_4 : decode cX7_places 4 = .ok (.ifCond .ne 5, 3) := by decide +kernel
theorem dX7_places_7 : decode cX7_places 7 = .ok (.iconst (-1), 1) := by decide +kernel
theorem dX7_places_8 : decode cX7_places 8 = .ok (.ireturn, 1) := by decide +kernel
theorem dX7_places_9 : decode cX7_places 9 = .ok (.iconst 0, 1) := by decide +kernel
theorem dX7_places_10 : decode cX7_places 10 = .ok (.istore_n 2, 1) := by decide +kernel
theorem dX7_places_11 : decode cX7_places 11 = .ok (.iconst 0, 1) := by decide +kernel
theorem dX7_places_12 : decode cX7_places 12 = .ok (.istore_n 3, 1) := by decide +kernel
theorem dX7_places_13 : decode cX7_places 13 = .ok (.iload_n 3, 1) := by decide +kernel
theorem dX7_places_14 : decode cX7_places 14 = .ok (.sipush 600, 3) := by decide +kernel
theorem dX7_places_17 : decode cX7_places 17 = .ok (.if_icmp .ge 31, 3) := by decide +kernel
theorem dX7_places_20 : decode cX7_places 20 = .ok (.iload_n 2, 1) := by decide +kernel
theorem dX7_places_21 : decode cX7_places 21 = .ok (.aload_n 0, 1) := by decide +kernel
theorem dX7_places_22 : decode cX7_places 22 = .ok (.iload_n 1, 1) := by decide +kernel
theorem dX7_places_23 : decode cX7_places 23 = .ok (.iload_n 3, 1) := by decide +kernel
theorem dX7_places_24 : decode cX7_places 24 = .ok (.iconst 4, 1) := by decide +kernel
theorem dX7_places_25 : decode cX7_places 25 = .ok (.irem, 1) := by decide +kernel
theorem dX7_places_26 : decode cX7_places 26 = .ok (.iload_n 3, 1) := by decide +kernel
theorem dX7_places_27 : decode cX7_places 27 = .ok (.iconst 4, 1) := by decide +kernel
theorem dX7_places_28 : decode cX7_places 28 = .ok (.idiv, 1) := by decide +kernel
theorem dX7_places_29 : decode cX7_places 29 = .ok (.invokevirtual 116, 3) := by decide +kernel
theorem dX7_places_32 : decode cX7_places 32 = .ok (.ifCond .ne 7, 3) := by decide +kernel
theorem dX7_places_35 : decode cX7_places 35 = .ok (.iconst 1, 1) := by decide +kernel
theorem dX7_places_36 : decode cX7_places 36 = .ok (.goto 4, 3) := by decide +kernel
theorem dX7_places_39 : decode cX7_places 39 = .ok (.iconst 0, 1) := by decide +kernel
theorem dX7_places_40 : decode cX7_places 40 = .ok (.iadd, 1) := by decide +kernel
theorem dX7_places_41 : decode cX7_places 41 = .ok (.istore_n 2, 1) := by decide +kernel
theorem dX7_places_42 : decode cX7_places 42 = .ok (.iinc 3 1, 3) := by decide +kernel
theorem dX7_places_45 : decode cX7_places 45 = .ok (.goto (-32), 3) := by decide +kernel
theorem dX7_places_48 : decode cX7_places 48 = .ok (.iload_n 2, 1) := by decide +kernel
theorem dX7_places_49 : decode cX7_places 49 = .ok (.ireturn, 1) := by decide +kernel
theorem dX7_bestPlace_0 : decode cX7_bestPlace 0 = .ok (.iload_n 1, 1) := by decide +kernel
theorem dX7_bestPlace_1 : decode cX7_bestPlace 1 = .ok (.invokestatic 101, 3) := by decide +kernel
theorem dX7_bestPlace_4 : decode cX7_bestPlace 4 = .ok (.ifCond .ne 5, 3) := by decide +kernel
theorem dX7_bestPlace_7 : decode cX7_bestPlace 7 = .ok (.iconst (-1), 1) := by decide +kernel
theorem dX7_bestPlace_8 : decode cX7_bestPlace 8 = .ok (.ireturn, 1) := by decide +kernel
theorem dX7_bestPlace_9 : decode cX7_bestPlace 9 = .ok (.iload_n 2, 1) := by decide +kernel
theorem dX7_bestPlace_10 : decode cX7_bestPlace 10 = .ok (.iconst 0, 1) := by decide +kernel
theorem dX7_bestPlace_11 : decode cX7_bestPlace 11 = .ok (.iconst 1, 1) := by decide +kernel
theorem dX7_bestPlace_12 : decode cX7_bestPlace 12 = .ok (.invokestatic 43, 3) := by decide +kernel
theorem dX7_bestPlace_15 : decode cX7_bestPlace 15 = .ok (.ifCond .ne 6, 3) := by decide +kernel
theorem dX7_bestPlace_18 : decode cX7_bestPlace 18 = .ok (.bipush (-2), 2) := by decide +kernel
theorem dX7_bestPlace_20 : decode cX7_bestPlace 20 = .ok (.ireturn, 1) := by decide +kernel
theorem dX7_bestPlace_21 : decode cX7_bestPlace 21 = .ok (.bipush (-5), 2) := by decide +kernel
theorem dX7_bestPlace_23 : decode cX7_bestPlace 23 = .ok (.istore_n 3, 1) := by decide +kernel
theorem dX7_bestPlace_24 : decode cX7_bestPlace 24 = .ok (.bipush (-5), 2) := by decide +kernel
theorem dX7_bestPlace_26 : decode cX7_bestPlace 26 = .ok (.istore 4, 2) := by decide +kernel
theorem dX7_bestPlace_28 : decode cX7_bestPlace 28 = .ok (.iconst 0, 1) := by decide +kernel
theorem dX7_bestPlace_29 : decode cX7_bestPlace 29 = .ok (.istore 5, 2) := by decide +kernel
theorem dX7_bestPlace_31 : decode cX7_bestPlace 31 = .ok (.iload 5, 2) := by decide +kernel
theorem dX7_bestPlace_33 : decode cX7_bestPlace 33 = .ok (.sipush 600, 3) := by decide +kernel
theorem dX7_bestPlace_36 : decode cX7_bestPlace 36 = .ok (.if_icmp .ge 61, 3) := by decide +kernel
theorem dX7_bestPlace_39 : decode cX7_bestPlace 39 = .ok (.aload_n 0, 1) := by decide +kernel
theorem dX7_bestPlace_40 : decode cX7_bestPlace 40 = .ok (.iload_n 1, 1) := by decide +kernel
theorem dX7_bestPlace_41 : decode cX7_bestPlace 41 = .ok (.iload 5, 2) := by decide +kernel
theorem dX7_bestPlace_43 : decode cX7_bestPlace 43 = .ok (.iconst 4, 1) := by decide +kernel
theorem dX7_bestPlace_44 : decode cX7_bestPlace 44 = .ok (.irem, 1) := by decide +kernel
theorem dX7_bestPlace_45 : decode cX7_bestPlace 45 = .ok (.iload 5, 2) := by decide +kernel
theorem dX7_bestPlace_47 : decode cX7_bestPlace 47 = .ok (.iconst 4, 1) := by decide +kernel
theorem dX7_bestPlace_48 : decode cX7_bestPlace 48 = .ok (.idiv, 1) := by decide +kernel
theorem dX7_bestPlace_49 : decode cX7_bestPlace 49 = .ok (.invokevirtual 116, 3) := by decide +kernel
theorem dX7_bestPlace_52 : decode cX7_bestPlace 52 = .ok (.ifCond .ne 39, 3) := by decide +kernel
theorem dX7_bestPlace_55 : decode cX7_bestPlace 55 = .ok (.aload_n 0, 1) := by decide +kernel
theorem dX7_bestPlace_56 : decode cX7_bestPlace 56 = .ok (.iload_n 1, 1) := by decide +kernel
theorem dX7_bestPlace_57 : decode cX7_bestPlace 57 = .ok (.iload 5, 2) := by decide +kernel
theorem dX7_bestPlace_59 : decode cX7_bestPlace 59 = .ok (.iconst 4, 1) := by decide +kernel
theorem dX7_bestPlace_60 : decode cX7_bestPlace 60 = .ok (.irem, 1) := by decide +kernel
theorem dX7_bestPlace_61 : decode cX7_bestPlace 61 = .ok (.iload 5, 2) := by decide +kernel
theorem dX7_bestPlace_63 : decode cX7_bestPlace 63 = .ok (.iconst 4, 1) := by decide +kernel
theorem dX7_bestPlace_64 : decode cX7_bestPlace 64 = .ok (.idiv, 1) := by decide +kernel
theorem dX7_bestPlace_65 : decode cX7_bestPlace 65 = .ok (.invokevirtual 110, 3) := by decide +kernel
theorem dX7_bestPlace_68 : decode cX7_bestPlace 68 = .ok (.iload 4, 2) := by decide +kernel
theorem dX7_bestPlace_70 : decode cX7_bestPlace 70 = .ok (.if_icmp .le 21, 3) := by decide +kernel
theorem dX7_bestPlace_73 : decode cX7_bestPlace 73 = .ok (.iload 5, 2) := by decide +kernel
theorem dX7_bestPlace_75 : decode cX7_bestPlace 75 = .ok (.istore_n 3, 1) := by decide +kernel
theorem dX7_bestPlace_76 : decode cX7_bestPlace 76 = .ok (.aload_n 0, 1) := by decide +kernel
theorem dX7_bestPlace_77 : decode cX7_bestPlace 77 = .ok (.iload_n 1, 1) := by decide +kernel
theorem dX7_bestPlace_78 : decode cX7_bestPlace 78 = .ok (.iload 5, 2) := by decide +kernel
theorem dX7_bestPlace_80 : decode cX7_bestPlace 80 = .ok (.iconst 4, 1) := by decide +kernel
theorem dX7_bestPlace_81 : decode cX7_bestPlace 81 = .ok (.irem, 1) := by decide +kernel
theorem dX7_bestPlace_82 : decode cX7_bestPlace 82 = .ok (.iload 5, 2) := by decide +kernel
theorem dX7_bestPlace_84 : decode cX7_bestPlace 84 = .ok (.iconst 4, 1) := by decide +kernel
theorem dX7_bestPlace_85 : decode cX7_bestPlace 85 = .ok (.idiv, 1) := by decide +kernel
theorem dX7_bestPlace_86 : decode cX7_bestPlace 86 = .ok (.invokevirtual 110, 3) := by decide +kernel
theorem dX7_bestPlace_89 : decode cX7_bestPlace 89 = .ok (.istore 4, 2) := by decide +kernel
theorem dX7_bestPlace_91 : decode cX7_bestPlace 91 = .ok (.iinc 5 1, 3) := by decide +kernel
theorem dX7_bestPlace_94 : decode cX7_bestPlace 94 = .ok (.goto (-63), 3) := by decide +kernel
theorem dX7_bestPlace_97 : decode cX7_bestPlace 97 = .ok (.iload_n 2, 1) := by decide +kernel
theorem dX7_bestPlace_98 : decode cX7_bestPlace 98 = .ok (.ifCond .ne 7, 3) := by decide +kernel
theorem dX7_bestPlace_101 : decode cX7_bestPlace 101 = .ok (.iload_n 3, 1) := by decide +kernel
theorem dX7_bestPlace_102 : decode cX7_bestPlace 102 = .ok (.goto 5, 3) := by decide +kernel
theorem dX7_bestPlace_105 : decode cX7_bestPlace 105 = .ok (.iload 4, 2) := by decide +kernel
theorem dX7_bestPlace_107 : decode cX7_bestPlace 107 = .ok (.ireturn, 1) := by decide +kernel
theorem dX7_comesUpon_0 : decode cX7_comesUpon 0 = .ok (.iconst 1, 1) := by decide +kernel
theorem dX7_comesUpon_1 : decode cX7_comesUpon 1 = .ok (.istore_n 3, 1) := by decide +kernel
theorem dX7_comesUpon_2 : decode cX7_comesUpon 2 = .ok (.iconst 0, 1) := by decide +kernel
theorem dX7_comesUpon_3 : decode cX7_comesUpon 3 = .ok (.istore 4, 2) := by decide +kernel
theorem dX7_comesUpon_5 : decode cX7_comesUpon 5 = .ok (.iload 4, 2) := by decide +kernel
theorem dX7_comesUpon_7 : decode cX7_comesUpon 7 = .ok (.aload_n 0, 1) := by decide +kernel
theorem dX7_comesUpon_8 : decode cX7_comesUpon 8 = .ok (.getfield 7, 3) := by decide +kernel
theorem dX7_comesUpon_11 : decode cX7_comesUpon 11 = .ok (.bipush 25, 2) := by decide +kernel
theorem dX7_comesUpon_13 : decode cX7_comesUpon 13 = .ok (.iaload, 1) := by decide +kernel
theorem dX7_comesUpon_14 : decode cX7_comesUpon 14 = .ok (.if_icmp .ge 145, 3) := by decide +kernel
theorem dX7_comesUpon_17 : decode cX7_comesUpon 17 = .ok (.iload_n 3, 1) := by decide +kernel
theorem dX7_comesUpon_18 : decode cX7_comesUpon 18 = .ok (.ifCond .eq 141, 3) := by decide +kernel
theorem dX7_comesUpon_21 : decode cX7_comesUpon 21 = .ok (.aload_n 0, 1) := by decide +kernel
theorem dX7_comesUpon_22 : decode cX7_comesUpon 22 = .ok (.iload 4, 2) := by decide +kernel
theorem dX7_comesUpon_24 : decode cX7_comesUpon 24 = .ok (.invokevirtual 58, 3) := by decide +kernel
theorem dX7_comesUpon_27 : decode cX7_comesUpon 27 = .ok (.istore 5, 2) := by decide +kernel
theorem dX7_comesUpon_29 : decode cX7_comesUpon 29 = .ok (.iload_n 1, 1) := by decide +kernel
theorem dX7_comesUpon_30 : decode cX7_comesUpon 30 = .ok (.ifCond .ne 8, 3) := by decide +kernel
theorem dX7_comesUpon_33 : decode cX7_comesUpon 33 = .ok (.iload 5, 2) := by decide +kernel
theorem dX7_comesUpon_35 : decode cX7_comesUpon 35 = .ok (.goto 29, 3) := by decide +kernel
theorem dX7_comesUpon_38 : decode cX7_comesUpon 38 = .ok (.bipush 15, 2) := by decide +kernel
theorem dX7_comesUpon_40 : decode cX7_comesUpon 40 = .ok (.bipush 10, 2) := by decide +kernel
theorem dX7_comesUpon_42 : decode cX7_comesUpon 42 = .ok (.iload 5, 2) := by decide +kernel
theorem dX7_comesUpon_44 : decode cX7_comesUpon 44 = .ok (.bipush 15, 2) := by decide +kernel
theorem dX7_comesUpon_46 : decode cX7_comesUpon 46 = .ok (.idiv, 1) := by decide +kernel
theorem dX7_comesUpon_47 : decode cX7_comesUpon 47 = .ok (.isub, 1) := by decide +kernel
theorem dX7_comesUpon_48 : decode cX7_comesUpon 48 = .ok (.bipush 10, 2) := by decide +kernel
theorem dX7_comesUpon_50 : decode cX7_comesUpon 50 = .ok (.irem, 1) := by decide +kernel
theorem dX7_comesUpon_51 : decode cX7_comesUpon 51 = .ok (.imul, 1) := by decide +kernel
theorem dX7_comesUpon_52 : decode cX7_comesUpon 52 = .ok (.bipush 15, 2) := by decide +kernel
theorem dX7_comesUpon_54 : decode cX7_comesUpon 54 = .ok (.iload 5, 2) := by decide +kernel
theorem dX7_comesUpon_56 : decode cX7_comesUpon 56 = .ok (.bipush 15, 2) := by decide +kernel
theorem dX7_comesUpon_58 : decode cX7_comesUpon 58 = .ok (.irem, 1) := by decide +kernel
theorem dX7_comesUpon_59 : decode cX7_comesUpon 59 = .ok (.isub, 1) := by decide +kernel
theorem dX7_comesUpon_60 : decode cX7_comesUpon 60 = .ok (.bipush 15, 2) := by decide +kernel
theorem dX7_comesUpon_62 : decode cX7_comesUpon 62 = .ok (.irem, 1) := by decide +kernel
theorem dX7_comesUpon_63 : decode cX7_comesUpon 63 = .ok (.iadd, 1) := by decide +kernel
theorem dX7_comesUpon_64 : decode cX7_comesUpon 64 = .ok (.istore 6, 2) := by decide +kernel
theorem dX7_comesUpon_66 : decode cX7_comesUpon 66 = .ok (.iload 6, 2) := by decide +kernel
theorem dX7_comesUpon_68 : decode cX7_comesUpon 68 = .ok (.iload_n 2, 1) := by decide +kernel
theorem dX7_comesUpon_69 : decode cX7_comesUpon 69 = .ok (.bipush 15, 2) := by decide +kernel
theorem dX7_comesUpon_71 : decode cX7_comesUpon 71 = .ok (.irem, 1) := by decide +kernel
theorem dX7_comesUpon_72 : decode cX7_comesUpon 72 = .ok (.iload_n 2, 1) := by decide +kernel
theorem dX7_comesUpon_73 : decode cX7_comesUpon 73 = .ok (.bipush 15, 2) := by decide +kernel
theorem dX7_comesUpon_75 : decode cX7_comesUpon 75 = .ok (.idiv, 1) := by decide +kernel
theorem dX7_comesUpon_76 : decode cX7_comesUpon 76 = .ok (.invokestatic 136, 3) := by decide +kernel
theorem dX7_comesUpon_79 : decode cX7_comesUpon 79 = .ok (.istore 7, 2) := by decide +kernel
theorem dX7_comesUpon_81 : decode cX7_comesUpon 81 = .ok (.aload_n 0, 1) := by decide +kernel
theorem dX7_comesUpon_82 : decode cX7_comesUpon 82 = .ok (.getfield 28, 3) := by decide +kernel
theorem dX7_comesUpon_85 : decode cX7_comesUpon 85 = .ok (.iload 7, 2) := by decide +kernel
theorem dX7_comesUpon_87 : decode cX7_comesUpon 87 = .ok (.iaload, 1) := by decide +kernel
theorem dX7_comesUpon_88 : decode cX7_comesUpon 88 = .ok (.iconst 4, 1) := by decide +kernel
theorem dX7_comesUpon_89 : decode cX7_comesUpon 89 = .ok (.if_icmp .ne 7, 3) := by decide +kernel
theorem dX7_comesUpon_92 : decode cX7_comesUpon 92 = .ok (.iconst 1, 1) := by decide +kernel
theorem dX7_comesUpon_93 : decode cX7_comesUpon 93 = .ok (.goto 4, 3) := by decide +kernel
theorem dX7_comesUpon_96 : decode cX7_comesUpon 96 = .ok (.iconst 0, 1) := by decide +kernel
theorem dX7_comesUpon_97 : decode cX7_comesUpon 97 = .ok (.istore_n 3, 1) := by decide +kernel
theorem dX7_comesUpon_98 : decode cX7_comesUpon 98 = .ok (.iconst 0, 1) := by decide +kernel
theorem dX7_comesUpon_99 : decode cX7_comesUpon 99 = .ok (.istore 8, 2) := by decide +kernel
theorem dX7_comesUpon_101 : decode cX7_comesUpon 101 = .ok (.iload 8, 2) := by decide +kernel
theorem dX7_comesUpon_103 : decode cX7_comesUpon 103 = .ok (.iconst 4, 1) := by decide +kernel
theorem dX7_comesUpon_104 : decode cX7_comesUpon 104 = .ok (.if_icmp .ge 49, 3) := by decide +kernel
theorem dX7_comesUpon_107 : decode cX7_comesUpon 107 = .ok (.iload_n 3, 1) := by decide +kernel
theorem dX7_comesUpon_108 : decode cX7_comesUpon 108 = .ok (.ifCond .eq 45, 3) := by decide +kernel
theorem dX7_comesUpon_111 : decode cX7_comesUpon 111 = .ok (.aload_n 0, 1) := by decide +kernel
theorem dX7_comesUpon_112 : decode cX7_comesUpon 112 = .ok (.aload_n 0, 1) := by decide +kernel
theorem dX7_comesUpon_113 : decode cX7_comesUpon 113 = .ok (.getfield 25, 3) := by decide +kernel
theorem dX7_comesUpon_116 : decode cX7_comesUpon 116 = .ok (.iload 7, 2) := by decide +kernel
theorem dX7_comesUpon_118 : decode cX7_comesUpon 118 = .ok (.iaload, 1) := by decide +kernel
theorem dX7_comesUpon_119 : decode cX7_comesUpon 119 = .ok (.iload 8, 2) := by decide +kernel
theorem dX7_comesUpon_121 : decode cX7_comesUpon 121 = .ok (.invokevirtual 65, 3) := by decide +kernel
theorem dX7_comesUpon_124 : decode cX7_comesUpon 124 = .ok (.aload_n 0, 1) := by decide +kernel
theorem dX7_comesUpon_125 : decode cX7_comesUpon 125 = .ok (.iload 4, 2) := by decide +kernel
theorem dX7_comesUpon_127 : decode cX7_comesUpon 127 = .ok (.iload 8, 2) := by decide +kernel
theorem dX7_comesUpon_129 : decode cX7_comesUpon 129 = .ok (.iconst 2, 1) := by decide +kernel
theorem dX7_comesUpon_130 : decode cX7_comesUpon 130 = .ok (.iload_n 1, 1) := by decide +kernel
theorem dX7_comesUpon_131 : decode cX7_comesUpon 131 = .ok (.imul, 1) := by decide +kernel
theorem dX7_comesUpon_132 : decode cX7_comesUpon 132 = .ok (.iadd, 1) := by decide +kernel
theorem dX7_comesUpon_133 : decode cX7_comesUpon 133 = .ok (.iconst 4, 1) := by decide +kernel
theorem dX7_comesUpon_134 : decode cX7_comesUpon 134 = .ok (.irem, 1) := by decide +kernel
theorem dX7_comesUpon_135 : decode cX7_comesUpon 135 = .ok (.invokevirtual 65, 3) := by decide +kernel
theorem dX7_comesUpon_138 : decode cX7_comesUpon 138 = .ok (.if_icmp .ne 7, 3) := by decide +kernel
theorem dX7_comesUpon_141 : decode cX7_comesUpon 141 = .ok (.iconst 1, 1) := by decide +kernel
theorem dX7_comesUpon_142 : decode cX7_comesUpon 142 = .ok (.goto 4, 3) := by decide +kernel
theorem dX7_comesUpon_145 : decode cX7_comesUpon 145 = .ok (.iconst 0, 1) := by decide +kernel
theorem dX7_comesUpon_146 : decode cX7_comesUpon 146 = .ok (.istore_n 3, 1) := by decide +kernel
theorem dX7_comesUpon_147 : decode cX7_comesUpon 147 = .ok (.iinc 8 1, 3) := by decide +kernel
theorem dX7_comesUpon_150 : decode cX7_comesUpon 150 = .ok (.goto (-49), 3) := by decide +kernel
theorem dX7_comesUpon_153 : decode cX7_comesUpon 153 = .ok (.iinc 4 1, 3) := by decide +kernel
theorem dX7_comesUpon_156 : decode cX7_comesUpon 156 = .ok (.goto (-151), 3) := by decide +kernel
theorem dX7_comesUpon_159 : decode cX7_comesUpon 159 = .ok (.iload_n 3, 1) := by decide +kernel
theorem dX7_comesUpon_160 : decode cX7_comesUpon 160 = .ok (.ireturn, 1) := by decide +kernel
theorem dX7_shifts_0 : decode cX7_shifts 0 = .ok (.iload_n 1, 1) := by decide +kernel
theorem dX7_shifts_1 : decode cX7_shifts 1 = .ok (.iconst 0, 1) := by decide +kernel
theorem dX7_shifts_2 : decode cX7_shifts 2 = .ok (.iconst 1, 1) := by decide +kernel
theorem dX7_shifts_3 : decode cX7_shifts 3 = .ok (.invokestatic 43, 3) := by decide +kernel
theorem dX7_shifts_6 : decode cX7_shifts 6 = .ok (.ifCond .ne 6, 3) := by decide +kernel
theorem dX7_shifts_9 : decode cX7_shifts 9 = .ok (.bipush (-2), 2) := by decide +kernel
theorem dX7_shifts_11 : decode cX7_shifts 11 = .ok (.ireturn, 1) := by decide +kernel
theorem dX7_shifts_12 : decode cX7_shifts 12 = .ok (.iconst 0, 1) := by decide +kernel
theorem dX7_shifts_13 : decode cX7_shifts 13 = .ok (.istore_n 2, 1) := by decide +kernel
theorem dX7_shifts_14 : decode cX7_shifts 14 = .ok (.bipush (-5), 2) := by decide +kernel
theorem dX7_shifts_16 : decode cX7_shifts 16 = .ok (.istore_n 3, 1) := by decide +kernel
theorem dX7_shifts_17 : decode cX7_shifts 17 = .ok (.sipush 149, 3) := by decide +kernel
theorem dX7_shifts_20 : decode cX7_shifts 20 = .ok (.istore 4, 2) := by decide +kernel
theorem dX7_shifts_22 : decode cX7_shifts 22 = .ok (.iload 4, 2) := by decide +kernel
theorem dX7_shifts_24 : decode cX7_shifts 24 = .ok (.ifCond .lt 48, 3) := by decide +kernel
theorem dX7_shifts_27 : decode cX7_shifts 27 = .ok (.aload_n 0, 1) := by decide +kernel
theorem dX7_shifts_28 : decode cX7_shifts 28 = .ok (.iconst 0, 1) := by decide +kernel
theorem dX7_shifts_29 : decode cX7_shifts 29 = .ok (.iload 4, 2) := by decide +kernel
theorem dX7_shifts_31 : decode cX7_shifts 31 = .ok (.invokevirtual 211, 3) := by decide +kernel
theorem dX7_shifts_34 : decode cX7_shifts 34 = .ok (.istore 5, 2) := by decide +kernel
theorem dX7_shifts_36 : decode cX7_shifts 36 = .ok (.iload_n 2, 1) := by decide +kernel
theorem dX7_shifts_37 : decode cX7_shifts 37 = .ok (.iload 5, 2) := by decide +kernel
theorem dX7_shifts_39 : decode cX7_shifts 39 = .ok (.ifCond .eq 7, 3) := by decide +kernel
theorem dX7_shifts_42 : decode cX7_shifts 42 = .ok (.iconst 1, 1) := by decide +kernel
theorem dX7_shifts_43 : decode cX7_shifts 43 = .ok (.goto 4, 3) := by decide +kernel
theorem dX7_shifts_46 : decode cX7_shifts 46 = .ok (.iconst 0, 1) := by decide +kernel
theorem dX7_shifts_47 : decode cX7_shifts 47 = .ok (.iadd, 1) := by decide +kernel
theorem dX7_shifts_48 : decode cX7_shifts 48 = .ok (.istore_n 2, 1) := by decide +kernel
theorem dX7_shifts_49 : decode cX7_shifts 49 = .ok (.iload 5, 2) := by decide +kernel
theorem dX7_shifts_51 : decode cX7_shifts 51 = .ok (.ifCond .eq 13, 3) := by decide +kernel
theorem dX7_shifts_54 : decode cX7_shifts 54 = .ok (.iload 4, 2) := by decide +kernel
theorem dX7_shifts_56 : decode cX7_shifts 56 = .ok (.ifCond .le 8, 3) := by decide +kernel
theorem dX7_shifts_59 : decode cX7_shifts 59 = .ok (.iload 4, 2) := by decide +kernel
theorem dX7_shifts_61 : decode cX7_shifts 61 = .ok (.goto 4, 3) := by decide +kernel
theorem dX7_shifts_64 : decode cX7_shifts 64 = .ok (.iload_n 3, 1) := by decide +kernel
theorem dX7_shifts_65 : decode cX7_shifts 65 = .ok (.istore_n 3, 1) := by decide +kernel
theorem dX7_shifts_66 : decode cX7_shifts 66 = .ok (.iinc 4 (-1), 3) := by decide +kernel
theorem dX7_shifts_69 : decode cX7_shifts 69 = .ok (.goto (-47), 3) := by decide +kernel
theorem dX7_shifts_72 : decode cX7_shifts 72 = .ok (.iload_n 1, 1) := by decide +kernel
theorem dX7_shifts_73 : decode cX7_shifts 73 = .ok (.ifCond .ne 7, 3) := by decide +kernel
theorem dX7_shifts_76 : decode cX7_shifts 76 = .ok (.iload_n 2, 1) := by decide +kernel
theorem dX7_shifts_77 : decode cX7_shifts 77 = .ok (.goto 4, 3) := by decide +kernel
theorem dX7_shifts_80 : decode cX7_shifts 80 = .ok (.iload_n 3, 1) := by decide +kernel
theorem dX7_shifts_81 : decode cX7_shifts 81 = .ok (.ireturn, 1) := by decide +kernel
theorem dX7_halfTurn_0 : decode cX7_halfTurn 0 = .ok (.bipush (-5), 2) := by decide +kernel
theorem dX7_halfTurn_2 : decode cX7_halfTurn 2 = .ok (.istore_n 1, 1) := by decide +kernel
theorem dX7_halfTurn_3 : decode cX7_halfTurn 3 = .ok (.sipush 149, 3) := by decide +kernel
theorem dX7_halfTurn_6 : decode cX7_halfTurn 6 = .ok (.istore_n 2, 1) := by decide +kernel
theorem dX7_halfTurn_7 : decode cX7_halfTurn 7 = .ok (.iload_n 2, 1) := by decide +kernel
theorem dX7_halfTurn_8 : decode cX7_halfTurn 8 = .ok (.ifCond .lt 24, 3) := by decide +kernel
theorem dX7_halfTurn_11 : decode cX7_halfTurn 11 = .ok (.aload_n 0, 1) := by decide +kernel
theorem dX7_halfTurn_12 : decode cX7_halfTurn 12 = .ok (.iconst 1, 1) := by decide +kernel
theorem dX7_halfTurn_13 : decode cX7_halfTurn 13 = .ok (.iload_n 2, 1) := by decide +kernel
theorem dX7_halfTurn_14 : decode cX7_halfTurn 14 = .ok (.invokevirtual 211, 3) := by decide +kernel
theorem dX7_halfTurn_17 : decode cX7_halfTurn 17 = .ok (.ifCond .eq 7, 3) := by decide +kernel
theorem dX7_halfTurn_20 : decode cX7_halfTurn 20 = .ok (.iload_n 2, 1) := by decide +kernel
theorem dX7_halfTurn_21 : decode cX7_halfTurn 21 = .ok (.goto 4, 3) := by decide +kernel
theorem dX7_halfTurn_24 : decode cX7_halfTurn 24 = .ok (.iload_n 1, 1) := by decide +kernel
theorem dX7_halfTurn_25 : decode cX7_halfTurn 25 = .ok (.istore_n 1, 1) := by decide +kernel
theorem dX7_halfTurn_26 : decode cX7_halfTurn 26 = .ok (.iinc 2 (-1), 3) := by decide +kernel
theorem dX7_halfTurn_29 : decode cX7_halfTurn 29 = .ok (.goto (-22), 3) := by decide +kernel
theorem dX7_halfTurn_32 : decode cX7_halfTurn 32 = .ok (.iload_n 1, 1) := by decide +kernel
theorem dX7_halfTurn_33 : decode cX7_halfTurn 33 = .ok (.ireturn, 1) := by decide +kernel
theorem dL_law_0 : decode cL_law 0 = .ok (.new 7, 3) := by decide +kernel
theorem dL_law_3 : decode cL_law 3 = .ok (.dup, 1) := by decide +kernel
theorem dL_law_4 : decode cL_law 4 = .ok (.invokespecial 9, 3) := by decide +kernel
theorem dL_law_7 : decode cL_law 7 = .ok (.astore_n 1, 1) := by decide +kernel
theorem dL_law_8 : decode cL_law 8 = .ok (.new 10, 3) := by decide +kernel
theorem dL_law_11 : decode cL_law 11 = .ok (.dup, 1) := by decide +kernel
theorem dL_law_12 : decode cL_law 12 = .ok (.invokespecial 12, 3) := by decide +kernel
theorem dL_law_15 : decode cL_law 15 = .ok (.astore_n 2, 1) := by decide +kernel
theorem dL_law_16 : decode cL_law 16 = .ok (.iconst 0, 1) := by decide +kernel
theorem dL_law_17 : decode cL_law 17 = .ok (.istore_n 3, 1) := by decide +kernel
theorem dL_law_18 : decode cL_law 18 = .ok (.iload_n 3, 1) := by decide +kernel
theorem dL_law_19 : decode cL_law 19 = .ok (.aload_n 0, 1) := by decide +kernel
theorem dL_law_20 : decode cL_law 20 = .ok (.arraylength, 1) := by decide +kernel
theorem dL_law_21 : decode cL_law 21 = .ok (.iconst 4, 1) := by decide +kernel
theorem dL_law_22 : decode cL_law 22 = .ok (.isub, 1) := by decide +kernel
theorem dL_law_23 : decode cL_law 23 = .ok (.if_icmp .gt 724, 3) := by decide +kernel
theorem dL_law_26 : decode cL_law 26 = .ok (.aload_n 0, 1) := by decide +kernel
theorem dL_law_27 : decode cL_law 27 = .ok (.iload_n 3, 1) := by decide +kernel
theorem dL_law_28 : decode cL_law 28 = .ok (.iaload, 1) := by decide +kernel
theorem dL_law_29 : decode cL_law 29 = .ok (.bipush 31, 2) := by decide +kernel
theorem dL_law_31 : decode cL_law 31 = .ok (.iand, 1) := by decide +kernel
theorem dL_law_32 : decode cL_law 32 = .ok (.tableswitch 709 0 22 #[108, 151, 174, 217, 240, 273, 306, 339, 362, 387, 400, 413, 426, 439, 452, 485, 518, 551, 574, 617, 640, 673, 696], 108) := by decide +kernel
theorem dL_law_140 : decode cL_law 140 = .ok (.aload_n 1, 1) := by decide +kernel
theorem dL_law_141 : decode cL_law 141 = .ok (.aload_n 0, 1) := by decide +kernel
theorem dL_law_142 : decode cL_law 142 = .ok (.iload_n 3, 1) := by decide +kernel
theorem dL_law_143 : decode cL_law 143 = .ok (.iconst 1, 1) := by decide +kernel
theorem dL_law_144 : decode cL_law 144 = .ok (.iadd, 1) := by decide +kernel
theorem dL_law_145 : decode cL_law 145 = .ok (.iaload, 1) := by decide +kernel
theorem dL_law_146 : decode cL_law 146 = .ok (.aload_n 0, 1) := by decide +kernel
theorem dL_law_147 : decode cL_law 147 = .ok (.iload_n 3, 1) := by decide +kernel
theorem dL_law_148 : decode cL_law 148 = .ok (.iconst 2, 1) := by decide +kernel
theorem dL_law_149 : decode cL_law 149 = .ok (.iadd, 1) := by decide +kernel
theorem dL_law_150 : decode cL_law 150 = .ok (.iaload, 1) := by decide +kernel
theorem dL_law_151 : decode cL_law 151 = .ok (.aload_n 0, 1) := by decide +kernel
theorem dL_law_152 : decode cL_law 152 = .ok (.iload_n 3, 1) := by decide +kernel
theorem dL_law_153 : decode cL_law 153 = .ok (.iconst 3, 1) := by decide +kernel
theorem dL_law_154 : decode cL_law 154 = .ok (.iadd, 1) := by decide +kernel
theorem dL_law_155 : decode cL_law 155 = .ok (.iaload, 1) := by decide +kernel
theorem dL_law_156 : decode cL_law 156 = .ok (.invokevirtual 13, 3) := by decide +kernel
theorem dL_law_159 : decode cL_law 159 = .ok (.aload_n 2, 1) := by decide +kernel
theorem dL_law_160 : decode cL_law 160 = .ok (.aload_n 0, 1) := by decide +kernel
theorem dL_law_161 : decode cL_law 161 = .ok (.iload_n 3, 1) := by decide +kernel
theorem dL_law_162 : decode cL_law 162 = .ok (.iconst 1, 1) := by decide +kernel
theorem dL_law_163 : decode cL_law 163 = .ok (.iadd, 1) := by decide +kernel
theorem dL_law_164 : decode cL_law 164 = .ok (.iaload, 1) := by decide +kernel
theorem dL_law_165 : decode cL_law 165 = .ok (.aload_n 0, 1) := by decide +kernel
theorem dL_law_166 : decode cL_law 166 = .ok (.iload_n 3, 1) := by decide +kernel
theorem dL_law_167 : decode cL_law 167 = .ok (.iconst 2, 1) := by decide +kernel
theorem dL_law_168 : decode cL_law 168 = .ok (.iadd, 1) := by decide +kernel
theorem dL_law_169 : decode cL_law 169 = .ok (.iaload, 1) := by decide +kernel
theorem dL_law_170 : decode cL_law 170 = .ok (.aload_n 0, 1) := by decide +kernel
theorem dL_law_171 : decode cL_law 171 = .ok (.iload_n 3, 1) := by decide +kernel
theorem dL_law_172 : decode cL_law 172 = .ok (.iconst 3, 1) := by decide +kernel
theorem dL_law_173 : decode cL_law 173 = .ok (.iadd, 1) := by decide +kernel
theorem dL_law_174 : decode cL_law 174 = .ok (.iaload, 1) := by decide +kernel
theorem dL_law_175 : decode cL_law 175 = .ok (.invokevirtual 17, 3) := by decide +kernel
theorem dL_law_178 : decode cL_law 178 = .ok (.if_icmp .eq 563, 3) := by decide +kernel
theorem dL_law_181 : decode cL_law 181 = .ok (.iconst 0, 1) := by decide +kernel
theorem dL_law_182 : decode cL_law 182 = .ok (.ireturn, 1) := by decide +kernel
theorem dL_law_183 : decode cL_law 183 = .ok (.aload_n 1, 1) := by decide +kernel
theorem dL_law_184 : decode cL_law 184 = .ok (.aload_n 0, 1) := by decide +kernel
theorem dL_law_185 : decode cL_law 185 = .ok (.iload_n 3, 1) := by decide +kernel
theorem dL_law_186 : decode cL_law 186 = .ok (.iconst 1, 1) := by decide +kernel
theorem dL_law_187 : decode cL_law 187 = .ok (.iadd, 1) := by decide +kernel
theorem dL_law_188 : decode cL_law 188 = .ok (.iaload, 1) := by decide +kernel
theorem dL_law_189 : decode cL_law 189 = .ok (.invokevirtual 18, 3) := by decide +kernel
theorem dL_law_192 : decode cL_law 192 = .ok (.aload_n 2, 1) := by decide +kernel
theorem dL_law_193 : decode cL_law 193 = .ok (.aload_n 0, 1) := by decide +kernel
theorem dL_law_194 : decode cL_law 194 = .ok (.iload_n 3, 1) := by decide +kernel
theorem dL_law_195 : decode cL_law 195 = .ok (.iconst 1, 1) := by decide +kernel
theorem dL_law_196 : decode cL_law 196 = .ok (.iadd, 1) := by decide +kernel
theorem dL_law_197 : decode cL_law 197 = .ok (.iaload, 1) := by decide +kernel
theorem dL_law_198 : decode cL_law 198 = .ok (.invokevirtual 22, 3) := by decide +kernel
theorem dL_law_201 : decode cL_law 201 = .ok (.if_icmp .eq 540, 3) := by decide +kernel
theorem dL_law_204 : decode cL_law 204 = .ok (.iconst 0, 1) := by decide +kernel
theorem dL_law_205 : decode cL_law 205 = .ok (.ireturn, 1) := by decide +kernel
theorem dL_law_206 : decode cL_law 206 = .ok (.aload_n 1, 1) := by decide +kernel
theorem dL_law_207 : decode cL_law 207 = .ok (.aload_n 0, 1) := by decide +kernel
theorem dL_law_208 : decode cL_law 208 = .ok (.iload_n 3, 1) := by decide +kernel
theorem dL_law_209 : decode cL_law 209 = .ok (.iconst 1, 1) := by decide +kernel
theorem dL_law_210 : decode cL_law 210 = .ok (.iadd, 1) := by decide +kernel
theorem dL_law_211 : decode cL_law 211 = .ok (.iaload, 1) := by decide +kernel
theorem dL_law_212 : decode cL_law 212 = .ok (.aload_n 0, 1) := by decide +kernel
theorem dL_law_213 : decode cL_law 213 = .ok (.iload_n 3, 1) := by decide +kernel
theorem dL_law_214 : decode cL_law 214 = .ok (.iconst 2, 1) := by decide +kernel
theorem dL_law_215 : decode cL_law 215 = .ok (.iadd, 1) := by decide +kernel
theorem dL_law_216 : decode cL_law 216 = .ok (.iaload, 1) := by decide +kernel
theorem dL_law_217 : decode cL_law 217 = .ok (.aload_n 0, 1) := by decide +kernel
theorem dL_law_218 : decode cL_law 218 = .ok (.iload_n 3, 1) := by decide +kernel
theorem dL_law_219 : decode cL_law 219 = .ok (.iconst 3, 1) := by decide +kernel
theorem dL_law_220 : decode cL_law 220 = .ok (.iadd, 1) := by decide +kernel
theorem dL_law_221 : decode cL_law 221 = .ok (.iaload, 1) := by decide +kernel
theorem dL_law_222 : decode cL_law 222 = .ok (.invokevirtual 23, 3) := by decide +kernel
theorem dL_law_225 : decode cL_law 225 = .ok (.aload_n 2, 1) := by decide +kernel
theorem dL_law_226 : decode cL_law 226 = .ok (.aload_n 0, 1) := by decide +kernel
theorem dL_law_227 : decode cL_law 227 = .ok (.iload_n 3, 1) := by decide +kernel
theorem dL_law_228 : decode cL_law 228 = .ok (.iconst 1, 1) := by decide +kernel
theorem dL_law_229 : decode cL_law 229 = .ok (.iadd, 1) := by decide +kernel
theorem dL_law_230 : decode cL_law 230 = .ok (.iaload, 1) := by decide +kernel
theorem dL_law_231 : decode cL_law 231 = .ok (.aload_n 0, 1) := by decide +kernel
theorem dL_law_232 : decode cL_law 232 = .ok (.iload_n 3, 1) := by decide +kernel
theorem dL_law_233 : decode cL_law 233 = .ok (.iconst 2, 1) := by decide +kernel
theorem dL_law_234 : decode cL_law 234 = .ok (.iadd, 1) := by decide +kernel
theorem dL_law_235 : decode cL_law 235 = .ok (.iaload, 1) := by decide +kernel
theorem dL_law_236 : decode cL_law 236 = .ok (.aload_n 0, 1) := by decide +kernel
theorem dL_law_237 : decode cL_law 237 = .ok (.iload_n 3, 1) := by decide +kernel
theorem dL_law_238 : decode cL_law 238 = .ok (.iconst 3, 1) := by decide +kernel
theorem dL_law_239 : decode cL_law 239 = .ok (.iadd, 1) := by decide +kernel
theorem dL_law_240 : decode cL_law 240 = .ok (.iaload, 1) := by decide +kernel
theorem dL_law_241 : decode cL_law 241 = .ok (.invokevirtual 26, 3) := by decide +kernel
theorem dL_law_244 : decode cL_law 244 = .ok (.if_icmp .eq 497, 3) := by decide +kernel
theorem dL_law_247 : decode cL_law 247 = .ok (.iconst 0, 1) := by decide +kernel
theorem dL_law_248 : decode cL_law 248 = .ok (.ireturn, 1) := by decide +kernel
theorem dL_law_249 : decode cL_law 249 = .ok (.aload_n 1, 1) := by decide +kernel
theorem dL_law_250 : decode cL_law 250 = .ok (.aload_n 0, 1) := by decide +kernel
theorem dL_law_251 : decode cL_law 251 = .ok (.iload_n 3, 1) := by decide +kernel
theorem dL_law_252 : decode cL_law 252 = .ok (.iconst 1, 1) := by decide +kernel
theorem dL_law_253 : decode cL_law 253 = .ok (.iadd, 1) := by decide +kernel
theorem dL_law_254 : decode cL_law 254 = .ok (.iaload, 1) := by decide +kernel
theorem dL_law_255 : decode cL_law 255 = .ok (.invokevirtual 27, 3) := by decide +kernel
theorem dL_law_258 : decode cL_law 258 = .ok (.aload_n 2, 1) := by decide +kernel
theorem dL_law_259 : decode cL_law 259 = .ok (.aload_n 0, 1) := by decide +kernel
theorem dL_law_260 : decode cL_law 260 = .ok (.iload_n 3, 1) := by decide +kernel
theorem dL_law_261 : decode cL_law 261 = .ok (.iconst 1, 1) := by decide +kernel
theorem dL_law_262 : decode cL_law 262 = .ok (.iadd, 1) := by decide +kernel
theorem dL_law_263 : decode cL_law 263 = .ok (.iaload, 1) := by decide +kernel
theorem dL_law_264 : decode cL_law 264 = .ok (.invokevirtual 30, 3) := by decide +kernel
theorem dL_law_267 : decode cL_law 267 = .ok (.if_icmp .eq 474, 3) := by decide +kernel
theorem dL_law_270 : decode cL_law 270 = .ok (.iconst 0, 1) := by decide +kernel
theorem dL_law_271 : decode cL_law 271 = .ok (.ireturn, 1) := by decide +kernel
theorem dL_law_272 : decode cL_law 272 = .ok (.aload_n 1, 1) := by decide +kernel
theorem dL_law_273 : decode cL_law 273 = .ok (.aload_n 0, 1) := by decide +kernel
theorem dL_law_274 : decode cL_law 274 = .ok (.iload_n 3, 1) := by decide +kernel
theorem dL_law_275 : decode cL_law 275 = .ok (.iconst 1, 1) := by decide +kernel
theorem dL_law_276 : decode cL_law 276 = .ok (.iadd, 1) := by decide +kernel
theorem dL_law_277 : decode cL_law 277 = .ok (.iaload, 1) := by decide +kernel
theorem dL_law_278 : decode cL_law 278 = .ok (.aload_n 0, 1) := by decide +kernel
theorem dL_law_279 : decode cL_law 279 = .ok (.iload_n 3, 1) := by decide +kernel
theorem dL_law_280 : decode cL_law 280 = .ok (.iconst 2, 1) := by decide +kernel
theorem dL_law_281 : decode cL_law 281 = .ok (.iadd, 1) := by decide +kernel
theorem dL_law_282 : decode cL_law 282 = .ok (.iaload, 1) := by decide +kernel
theorem dL_law_283 : decode cL_law 283 = .ok (.invokevirtual 31, 3) := by decide +kernel
theorem dL_law_286 : decode cL_law 286 = .ok (.aload_n 2, 1) := by decide +kernel
theorem dL_law_287 : decode cL_law 287 = .ok (.aload_n 0, 1) := by decide +kernel
theorem dL_law_288 : decode cL_law 288 = .ok (.iload_n 3, 1) := by decide +kernel
theorem dL_law_289 : decode cL_law 289 = .ok (.iconst 1, 1) := by decide +kernel
theorem dL_law_290 : decode cL_law 290 = .ok (.iadd, 1) := by decide +kernel
theorem dL_law_291 : decode cL_law 291 = .ok (.iaload, 1) := by decide +kernel
theorem dL_law_292 : decode cL_law 292 = .ok (.aload_n 0, 1) := by decide +kernel
theorem dL_law_293 : decode cL_law 293 = .ok (.iload_n 3, 1) := by decide +kernel
theorem dL_law_294 : decode cL_law 294 = .ok (.iconst 2, 1) := by decide +kernel
theorem dL_law_295 : decode cL_law 295 = .ok (.iadd, 1) := by decide +kernel
theorem dL_law_296 : decode cL_law 296 = .ok (.iaload, 1) := by decide +kernel
theorem dL_law_297 : decode cL_law 297 = .ok (.invokevirtual 35, 3) := by decide +kernel
theorem dL_law_300 : decode cL_law 300 = .ok (.if_icmp .eq 441, 3) := by decide +kernel
theorem dL_law_303 : decode cL_law 303 = .ok (.iconst 0, 1) := by decide +kernel
theorem dL_law_304 : decode cL_law 304 = .ok (.ireturn, 1) := by decide +kernel
theorem dL_law_305 : decode cL_law 305 = .ok (.aload_n 1, 1) := by decide +kernel
theorem dL_law_306 : decode cL_law 306 = .ok (.aload_n 0, 1) := by decide +kernel
theorem dL_law_307 : decode cL_law 307 = .ok (.iload_n 3, 1) := by decide +kernel
theorem dL_law_308 : decode cL_law 308 = .ok (.iconst 1, 1) := by decide +kernel
theorem dL_law_309 : decode cL_law 309 = .ok (.iadd, 1) := by decide +kernel
theorem dL_law_310 : decode cL_law 310 = .ok (.iaload, 1) := by decide +kernel
theorem dL_law_311 : decode cL_law 311 = .ok (.aload_n 0, 1) := by decide +kernel
theorem dL_law_312 : decode cL_law 312 = .ok (.iload_n 3, 1) := by decide +kernel
theorem dL_law_313 : decode cL_law 313 = .ok (.iconst 2, 1) := by decide +kernel
theorem dL_law_314 : decode cL_law 314 = .ok (.iadd, 1) := by decide +kernel
theorem dL_law_315 : decode cL_law 315 = .ok (.iaload, 1) := by decide +kernel
theorem dL_law_316 : decode cL_law 316 = .ok (.invokevirtual 36, 3) := by decide +kernel
theorem dL_law_319 : decode cL_law 319 = .ok (.aload_n 2, 1) := by decide +kernel
theorem dL_law_320 : decode cL_law 320 = .ok (.aload_n 0, 1) := by decide +kernel
theorem dL_law_321 : decode cL_law 321 = .ok (.iload_n 3, 1) := by decide +kernel
theorem dL_law_322 : decode cL_law 322 = .ok (.iconst 1, 1) := by decide +kernel
theorem dL_law_323 : decode cL_law 323 = .ok (.iadd, 1) := by decide +kernel
theorem dL_law_324 : decode cL_law 324 = .ok (.iaload, 1) := by decide +kernel
theorem dL_law_325 : decode cL_law 325 = .ok (.aload_n 0, 1) := by decide +kernel
theorem dL_law_326 : decode cL_law 326 = .ok (.iload_n 3, 1) := by decide +kernel
theorem dL_law_327 : decode cL_law 327 = .ok (.iconst 2, 1) := by decide +kernel
theorem dL_law_328 : decode cL_law 328 = .ok (.iadd, 1) := by decide +kernel
theorem dL_law_329 : decode cL_law 329 = .ok (.iaload, 1) := by decide +kernel
theorem dL_law_330 : decode cL_law 330 = .ok (.invokevirtual 39, 3) := by decide +kernel
theorem dL_law_333 : decode cL_law 333 = .ok (.if_icmp .eq 408, 3) := by decide +kernel
theorem dL_law_336 : decode cL_law 336 = .ok (.iconst 0, 1) := by decide +kernel
theorem dL_law_337 : decode cL_law 337 = .ok (.ireturn, 1) := by decide +kernel
theorem dL_law_338 : decode cL_law 338 = .ok (.aload_n 1, 1) := by decide +kernel
theorem dL_law_339 : decode cL_law 339 = .ok (.aload_n 0, 1) := by decide +kernel
theorem dL_law_340 : decode cL_law 340 = .ok (.iload_n 3, 1) := by decide +kernel
theorem dL_law_341 : decode cL_law 341 = .ok (.iconst 1, 1) := by decide +kernel
theorem dL_law_342 : decode cL_law 342 = .ok (.iadd, 1) := by decide +kernel
theorem dL_law_343 : decode cL_law 343 = .ok (.iaload, 1) := by decide +kernel
theorem dL_law_344 : decode cL_law 344 = .ok (.aload_n 0, 1) := by decide +kernel
theorem dL_law_345 : decode cL_law 345 = .ok (.iload_n 3, 1) := by decide +kernel
theorem dL_law_346 : decode cL_law 346 = .ok (.iconst 2, 1) := by decide +kernel
theorem dL_law_347 : decode cL_law 347 = .ok (.iadd, 1) := by decide +kernel
theorem dL_law_348 : decode cL_law 348 = .ok (.iaload, 1) := by decide +kernel
theorem dL_law_349 : decode cL_law 349 = .ok (.invokevirtual 40, 3) := by decide +kernel
theorem dL_law_352 : decode cL_law 352 = .ok (.aload_n 2, 1) := by decide +kernel
theorem dL_law_353 : decode cL_law 353 = .ok (.aload_n 0, 1) := by decide +kernel
theorem dL_law_354 : decode cL_law 354 = .ok (.iload_n 3, 1) := by decide +kernel
theorem dL_law_355 : decode cL_law 355 = .ok (.iconst 1, 1) := by decide +kernel
theorem dL_law_356 : decode cL_law 356 = .ok (.iadd, 1) := by decide +kernel
theorem dL_law_357 : decode cL_law 357 = .ok (.iaload, 1) := by decide +kernel
theorem dL_law_358 : decode cL_law 358 = .ok (.aload_n 0, 1) := by decide +kernel
theorem dL_law_359 : decode cL_law 359 = .ok (.iload_n 3, 1) := by decide +kernel
theorem dL_law_360 : decode cL_law 360 = .ok (.iconst 2, 1) := by decide +kernel
theorem dL_law_361 : decode cL_law 361 = .ok (.iadd, 1) := by decide +kernel
theorem dL_law_362 : decode cL_law 362 = .ok (.iaload, 1) := by decide +kernel
theorem dL_law_363 : decode cL_law 363 = .ok (.invokevirtual 43, 3) := by decide +kernel
theorem dL_law_366 : decode cL_law 366 = .ok (.if_icmp .eq 375, 3) := by decide +kernel
theorem dL_law_369 : decode cL_law 369 = .ok (.iconst 0, 1) := by decide +kernel
theorem dL_law_370 : decode cL_law 370 = .ok (.ireturn, 1) := by decide +kernel
theorem dL_law_371 : decode cL_law 371 = .ok (.aload_n 1, 1) := by decide +kernel
theorem dL_law_372 : decode cL_law 372 = .ok (.aload_n 0, 1) := by decide +kernel
theorem dL_law_373 : decode cL_law 373 = .ok (.iload_n 3, 1) := by decide +kernel
theorem dL_law_374 : decode cL_law 374 = .ok (.iconst 1, 1) := by decide +kernel
theorem dL_law_375 : decode cL_law 375 = .ok (.iadd, 1) := by decide +kernel
theorem dL_law_376 : decode cL_law 376 = .ok (.iaload, 1) := by decide +kernel
theorem dL_law_377 : decode cL_law 377 = .ok (.invokevirtual 44, 3) := by decide +kernel
theorem dL_law_380 : decode cL_law 380 = .ok (.aload_n 2, 1) := by decide +kernel
theorem dL_law_381 : decode cL_law 381 = .ok (.aload_n 0, 1) := by decide +kernel
theorem dL_law_382 : decode cL_law 382 = .ok (.iload_n 3, 1) := by decide +kernel
theorem dL_law_383 : decode cL_law 383 = .ok (.iconst 1, 1) := by decide +kernel
theorem dL_law_384 : decode cL_law 384 = .ok (.iadd, 1) := by decide +kernel
theorem dL_law_385 : decode cL_law 385 = .ok (.iaload, 1) := by decide +kernel
theorem dL_law_386 : decode cL_law 386 = .ok (.invokevirtual 47, 3) := by decide +kernel
theorem dL_law_389 : decode cL_law 389 = .ok (.if_icmp .eq 352, 3) := by decide +kernel
theorem dL_law_392 : decode cL_law 392 = .ok (.iconst 0, 1) := by decide +kernel
theorem dL_law_393 : decode cL_law 393 = .ok (.ireturn, 1) := by decide +kernel
theorem dL_law_394 : decode cL_law 394 = .ok (.aload_n 1, 1) := by decide +kernel
theorem dL_law_395 : decode cL_law 395 = .ok (.aload_n 0, 1) := by decide +kernel
theorem dL_law_396 : decode cL_law 396 = .ok (.iload_n 3, 1) := by decide +kernel
theorem dL_law_397 : decode cL_law 397 = .ok (.iconst 1, 1) := by decide +kernel
theorem dL_law_398 : decode cL_law 398 = .ok (.iadd, 1) := by decide +kernel
theorem dL_law_399 : decode cL_law 399 = .ok (.iaload, 1) := by decide +kernel
theorem dL_law_400 : decode cL_law 400 = .ok (.i2c, 1) := by decide +kernel
theorem dL_law_401 : decode cL_law 401 = .ok (.invokevirtual 48, 3) := by decide +kernel
theorem dL_law_404 : decode cL_law 404 = .ok (.aload_n 2, 1) := by decide +kernel
theorem dL_law_405 : decode cL_law 405 = .ok (.aload_n 0, 1) := by decide +kernel
theorem dL_law_406 : decode cL_law 406 = .ok (.iload_n 3, 1) := by decide +kernel
theorem dL_law_407 : decode cL_law 407 = .ok (.iconst 1, 1) := by decide +kernel
theorem dL_law_408 : decode cL_law 408 = .ok (.iadd, 1) := by decide +kernel
theorem dL_law_409 : decode cL_law 409 = .ok (.iaload, 1) := by decide +kernel
theorem dL_law_410 : decode cL_law 410 = .ok (.i2c, 1) := by decide +kernel
theorem dL_law_411 : decode cL_law 411 = .ok (.invokevirtual 52, 3) := by decide +kernel
theorem dL_law_414 : decode cL_law 414 = .ok (.if_icmp .eq 327, 3) := by decide +kernel
theorem dL_law_417 : decode cL_law 417 = .ok (.iconst 0, 1) := by decide +kernel
theorem dL_law_418 : decode cL_law 418 = .ok (.ireturn, 1) := by decide +kernel
theorem dL_law_419 : decode cL_law 419 = .ok (.aload_n 1, 1) := by decide +kernel
theorem dL_law_420 : decode cL_law 420 = .ok (.invokevirtual 53, 3) := by decide +kernel
theorem dL_law_423 : decode cL_law 423 = .ok (.aload_n 2, 1) := by decide +kernel
theorem dL_law_424 : decode cL_law 424 = .ok (.invokevirtual 57, 3) := by decide +kernel
theorem dL_law_427 : decode cL_law 427 = .ok (.if_icmp .eq 314, 3) := by decide +kernel
theorem dL_law_430 : decode cL_law 430 = .ok (.iconst 0, 1) := by decide +kernel
theorem dL_law_431 : decode cL_law 431 = .ok (.ireturn, 1) := by decide +kernel
theorem dL_law_432 : decode cL_law 432 = .ok (.aload_n 1, 1) := by decide +kernel
theorem dL_law_433 : decode cL_law 433 = .ok (.invokevirtual 58, 3) := by decide +kernel
theorem dL_law_436 : decode cL_law 436 = .ok (.aload_n 2, 1) := by decide +kernel
theorem dL_law_437 : decode cL_law 437 = .ok (.invokevirtual 61, 3) := by decide +kernel
theorem dL_law_440 : decode cL_law 440 = .ok (.if_icmp .eq 301, 3) := by decide +kernel
theorem dL_law_443 : decode cL_law 443 = .ok (.iconst 0, 1) := by decide +kernel
theorem dL_law_444 : decode cL_law 444 = .ok (.ireturn, 1) := by decide +kernel
theorem dL_law_445 : decode cL_law 445 = .ok (.aload_n 1, 1) := by decide +kernel
theorem dL_law_446 : decode cL_law 446 = .ok (.invokevirtual 62, 3) := by decide +kernel
theorem dL_law_449 : decode cL_law 449 = .ok (.aload_n 2, 1) := by decide +kernel
theorem dL_law_450 : decode cL_law 450 = .ok (.invokevirtual 65, 3) := by decide +kernel
theorem dL_law_453 : decode cL_law 453 = .ok (.if_icmp .eq 288, 3) := by decide +kernel
theorem dL_law_456 : decode cL_law 456 = .ok (.iconst 0, 1) := by decide +kernel
theorem dL_law_457 : decode cL_law 457 = .ok (.ireturn, 1) := by decide +kernel
theorem dL_law_458 : decode cL_law 458 = .ok (.aload_n 1, 1) := by decide +kernel
theorem dL_law_459 : decode cL_law 459 = .ok (.invokevirtual 66, 3) := by decide +kernel
theorem dL_law_462 : decode cL_law 462 = .ok (.aload_n 2, 1) := by decide +kernel
theorem dL_law_463 : decode cL_law 463 = .ok (.invokevirtual 69, 3) := by decide +kernel
theorem dL_law_466 : decode cL_law 466 = .ok (.if_icmp .eq 275, 3) := by decide +kernel
theorem dL_law_469 : decode cL_law 469 = .ok (.iconst 0, 1) := by decide +kernel
theorem dL_law_470 : decode cL_law 470 = .ok (.ireturn, 1) := by decide +kernel
theorem dL_law_471 : decode cL_law 471 = .ok (.aload_n 1, 1) := by decide +kernel
theorem dL_law_472 : decode cL_law 472 = .ok (.invokevirtual 70, 3) := by decide +kernel
theorem dL_law_475 : decode cL_law 475 = .ok (.aload_n 2, 1) := by decide +kernel
theorem dL_law_476 : decode cL_law 476 = .ok (.invokevirtual 73, 3) := by decide +kernel
theorem dL_law_479 : decode cL_law 479 = .ok (.if_icmp .eq 262, 3) := by decide +kernel
theorem dL_law_482 : decode cL_law 482 = .ok (.iconst 0, 1) := by decide +kernel
theorem dL_law_483 : decode cL_law 483 = .ok (.ireturn, 1) := by decide +kernel
theorem dL_law_484 : decode cL_law 484 = .ok (.aload_n 1, 1) := by decide +kernel
theorem dL_law_485 : decode cL_law 485 = .ok (.aload_n 0, 1) := by decide +kernel
theorem dL_law_486 : decode cL_law 486 = .ok (.iload_n 3, 1) := by decide +kernel
theorem dL_law_487 : decode cL_law 487 = .ok (.iconst 1, 1) := by decide +kernel
theorem dL_law_488 : decode cL_law 488 = .ok (.iadd, 1) := by decide +kernel
theorem dL_law_489 : decode cL_law 489 = .ok (.iaload, 1) := by decide +kernel
theorem dL_law_490 : decode cL_law 490 = .ok (.aload_n 0, 1) := by decide +kernel
theorem dL_law_491 : decode cL_law 491 = .ok (.iload_n 3, 1) := by decide +kernel
theorem dL_law_492 : decode cL_law 492 = .ok (.iconst 2, 1) := by decide +kernel
theorem dL_law_493 : decode cL_law 493 = .ok (.iadd, 1) := by decide +kernel
theorem dL_law_494 : decode cL_law 494 = .ok (.iaload, 1) := by decide +kernel
theorem dL_law_495 : decode cL_law 495 = .ok (.invokevirtual 74, 3) := by decide +kernel
theorem dL_law_498 : decode cL_law 498 = .ok (.aload_n 2, 1) := by decide +kernel
theorem dL_law_499 : decode cL_law 499 = .ok (.aload_n 0, 1) := by decide +kernel
theorem dL_law_500 : decode cL_law 500 = .ok (.iload_n 3, 1) := by decide +kernel
theorem dL_law_501 : decode cL_law 501 = .ok (.iconst 1, 1) := by decide +kernel
theorem dL_law_502 : decode cL_law 502 = .ok (.iadd, 1) := by decide +kernel
theorem dL_law_503 : decode cL_law 503 = .ok (.iaload, 1) := by decide +kernel
theorem dL_law_504 : decode cL_law 504 = .ok (.aload_n 0, 1) := by decide +kernel
theorem dL_law_505 : decode cL_law 505 = .ok (.iload_n 3, 1) := by decide +kernel
theorem dL_law_506 : decode cL_law 506 = .ok (.iconst 2, 1) := by decide +kernel
theorem dL_law_507 : decode cL_law 507 = .ok (.iadd, 1) := by decide +kernel
theorem dL_law_508 : decode cL_law 508 = .ok (.iaload, 1) := by decide +kernel
theorem dL_law_509 : decode cL_law 509 = .ok (.invokevirtual 77, 3) := by decide +kernel
theorem dL_law_512 : decode cL_law 512 = .ok (.if_icmp .eq 229, 3) := by decide +kernel
theorem dL_law_515 : decode cL_law 515 = .ok (.iconst 0, 1) := by decide +kernel
theorem dL_law_516 : decode cL_law 516 = .ok (.ireturn, 1) := by decide +kernel
theorem dL_law_517 : decode cL_law 517 = .ok (.aload_n 1, 1) := by decide +kernel
theorem dL_law_518 : decode cL_law 518 = .ok (.aload_n 0, 1) := by decide +kernel
theorem dL_law_519 : decode cL_law 519 = .ok (.iload_n 3, 1) := by decide +kernel
theorem dL_law_520 : decode cL_law 520 = .ok (.iconst 1, 1) := by decide +kernel
theorem dL_law_521 : decode cL_law 521 = .ok (.iadd, 1) := by decide +kernel
theorem dL_law_522 : decode cL_law 522 = .ok (.iaload, 1) := by decide +kernel
theorem dL_law_523 : decode cL_law 523 = .ok (.aload_n 0, 1) := by decide +kernel
theorem dL_law_524 : decode cL_law 524 = .ok (.iload_n 3, 1) := by decide +kernel
theorem dL_law_525 : decode cL_law 525 = .ok (.iconst 2, 1) := by decide +kernel
theorem dL_law_526 : decode cL_law 526 = .ok (.iadd, 1) := by decide +kernel
theorem dL_law_527 : decode cL_law 527 = .ok (.iaload, 1) := by decide +kernel
theorem dL_law_528 : decode cL_law 528 = .ok (.invokevirtual 78, 3) := by decide +kernel
theorem dL_law_531 : decode cL_law 531 = .ok (.aload_n 2, 1) := by decide +kernel
theorem dL_law_532 : decode cL_law 532 = .ok (.aload_n 0, 1) := by decide +kernel
theorem dL_law_533 : decode cL_law 533 = .ok (.iload_n 3, 1) := by decide +kernel
theorem dL_law_534 : decode cL_law 534 = .ok (.iconst 1, 1) := by decide +kernel
theorem dL_law_535 : decode cL_law 535 = .ok (.iadd, 1) := by decide +kernel
theorem dL_law_536 : decode cL_law 536 = .ok (.iaload, 1) := by decide +kernel
theorem dL_law_537 : decode cL_law 537 = .ok (.aload_n 0, 1) := by decide +kernel
theorem dL_law_538 : decode cL_law 538 = .ok (.iload_n 3, 1) := by decide +kernel
theorem dL_law_539 : decode cL_law 539 = .ok (.iconst 2, 1) := by decide +kernel
theorem dL_law_540 : decode cL_law 540 = .ok (.iadd, 1) := by decide +kernel
theorem dL_law_541 : decode cL_law 541 = .ok (.iaload, 1) := by decide +kernel
theorem dL_law_542 : decode cL_law 542 = .ok (.invokevirtual 81, 3) := by decide +kernel
theorem dL_law_545 : decode cL_law 545 = .ok (.if_icmp .eq 196, 3) := by decide +kernel
theorem dL_law_548 : decode cL_law 548 = .ok (.iconst 0, 1) := by decide +kernel
theorem dL_law_549 : decode cL_law 549 = .ok (.ireturn, 1) := by decide +kernel
theorem dL_law_550 : decode cL_law 550 = .ok (.aload_n 1, 1) := by decide +kernel
theorem dL_law_551 : decode cL_law 551 = .ok (.aload_n 0, 1) := by decide +kernel
theorem dL_law_552 : decode cL_law 552 = .ok (.iload_n 3, 1) := by decide +kernel
theorem dL_law_553 : decode cL_law 553 = .ok (.iconst 1, 1) := by decide +kernel
theorem dL_law_554 : decode cL_law 554 = .ok (.iadd, 1) := by decide +kernel
theorem dL_law_555 : decode cL_law 555 = .ok (.iaload, 1) := by decide +kernel
theorem dL_law_556 : decode cL_law 556 = .ok (.aload_n 0, 1) := by decide +kernel
theorem dL_law_557 : decode cL_law 557 = .ok (.iload_n 3, 1) := by decide +kernel
theorem dL_law_558 : decode cL_law 558 = .ok (.iconst 2, 1) := by decide +kernel
theorem dL_law_559 : decode cL_law 559 = .ok (.iadd, 1) := by decide +kernel
theorem dL_law_560 : decode cL_law 560 = .ok (.iaload, 1) := by decide +kernel
theorem dL_law_561 : decode cL_law 561 = .ok (.invokevirtual 82, 3) := by decide +kernel
theorem dL_law_564 : decode cL_law 564 = .ok (.aload_n 2, 1) := by decide +kernel
theorem dL_law_565 : decode cL_law 565 = .ok (.aload_n 0, 1) := by decide +kernel
theorem dL_law_566 : decode cL_law 566 = .ok (.iload_n 3, 1) := by decide +kernel
theorem dL_law_567 : decode cL_law 567 = .ok (.iconst 1, 1) := by decide +kernel
theorem dL_law_568 : decode cL_law 568 = .ok (.iadd, 1) := by decide +kernel
theorem dL_law_569 : decode cL_law 569 = .ok (.iaload, 1) := by decide +kernel
theorem dL_law_570 : decode cL_law 570 = .ok (.aload_n 0, 1) := by decide +kernel
theorem dL_law_571 : decode cL_law 571 = .ok (.iload_n 3, 1) := by decide +kernel
theorem dL_law_572 : decode cL_law 572 = .ok (.iconst 2, 1) := by decide +kernel
theorem dL_law_573 : decode cL_law 573 = .ok (.iadd, 1) := by decide +kernel
theorem dL_law_574 : decode cL_law 574 = .ok (.iaload, 1) := by decide +kernel
theorem dL_law_575 : decode cL_law 575 = .ok (.invokevirtual 85, 3) := by decide +kernel
theorem dL_law_578 : decode cL_law 578 = .ok (.if_icmp .eq 163, 3) := by decide +kernel
theorem dL_law_581 : decode cL_law 581 = .ok (.iconst 0, 1) := by decide +kernel
theorem dL_law_582 : decode cL_law 582 = .ok (.ireturn, 1) := by decide +kernel
theorem dL_law_583 : decode cL_law 583 = .ok (.aload_n 1, 1) := by decide +kernel
theorem dL_law_584 : decode cL_law 584 = .ok (.aload_n 0, 1) := by decide +kernel
theorem dL_law_585 : decode cL_law 585 = .ok (.iload_n 3, 1) := by decide +kernel
theorem dL_law_586 : decode cL_law 586 = .ok (.iconst 1, 1) := by decide +kernel
theorem dL_law_587 : decode cL_law 587 = .ok (.iadd, 1) := by decide +kernel
theorem dL_law_588 : decode cL_law 588 = .ok (.iaload, 1) := by decide +kernel
theorem dL_law_589 : decode cL_law 589 = .ok (.invokevirtual 86, 3) := by decide +kernel
theorem dL_law_592 : decode cL_law 592 = .ok (.aload_n 2, 1) := by decide +kernel
theorem dL_law_593 : decode cL_law 593 = .ok (.aload_n 0, 1) := by decide +kernel
theorem dL_law_594 : decode cL_law 594 = .ok (.iload_n 3, 1) := by decide +kernel
theorem dL_law_595 : decode cL_law 595 = .ok (.iconst 1, 1) := by decide +kernel
theorem dL_law_596 : decode cL_law 596 = .ok (.iadd, 1) := by decide +kernel
theorem dL_law_597 : decode cL_law 597 = .ok (.iaload, 1) := by decide +kernel
theorem dL_law_598 : decode cL_law 598 = .ok (.invokevirtual 89, 3) := by decide +kernel
theorem dL_law_601 : decode cL_law 601 = .ok (.if_icmp .eq 140, 3) := by decide +kernel
theorem dL_law_604 : decode cL_law 604 = .ok (.iconst 0, 1) := by decide +kernel
theorem dL_law_605 : decode cL_law 605 = .ok (.ireturn, 1) := by decide +kernel
theorem dL_law_606 : decode cL_law 606 = .ok (.aload_n 1, 1) := by decide +kernel
theorem dL_law_607 : decode cL_law 607 = .ok (.aload_n 0, 1) := by decide +kernel
theorem dL_law_608 : decode cL_law 608 = .ok (.iload_n 3, 1) := by decide +kernel
theorem dL_law_609 : decode cL_law 609 = .ok (.iconst 1, 1) := by decide +kernel
theorem dL_law_610 : decode cL_law 610 = .ok (.iadd, 1) := by decide +kernel
theorem dL_law_611 : decode cL_law 611 = .ok (.iaload, 1) := by decide +kernel
theorem dL_law_612 : decode cL_law 612 = .ok (.aload_n 0, 1) := by decide +kernel
theorem dL_law_613 : decode cL_law 613 = .ok (.iload_n 3, 1) := by decide +kernel
theorem dL_law_614 : decode cL_law 614 = .ok (.iconst 2, 1) := by decide +kernel
theorem dL_law_615 : decode cL_law 615 = .ok (.iadd, 1) := by decide +kernel
theorem dL_law_616 : decode cL_law 616 = .ok (.iaload, 1) := by decide +kernel
theorem dL_law_617 : decode cL_law 617 = .ok (.aload_n 0, 1) := by decide +kernel
theorem dL_law_618 : decode cL_law 618 = .ok (.iload_n 3, 1) := by decide +kernel
theorem dL_law_619 : decode cL_law 619 = .ok (.iconst 3, 1) := by decide +kernel
theorem dL_law_620 : decode cL_law 620 = .ok (.iadd, 1) := by decide +kernel
theorem dL_law_621 : decode cL_law 621 = .ok (.iaload, 1) := by decide +kernel
theorem dL_law_622 : decode cL_law 622 = .ok (.invokevirtual 90, 3) := by decide +kernel
theorem dL_law_625 : decode cL_law 625 = .ok (.aload_n 2, 1) := by decide +kernel
theorem dL_law_626 : decode cL_law 626 = .ok (.aload_n 0, 1) := by decide +kernel
theorem dL_law_627 : decode cL_law 627 = .ok (.iload_n 3, 1) := by decide +kernel
theorem dL_law_628 : decode cL_law 628 = .ok (.iconst 1, 1) := by decide +kernel
theorem dL_law_629 : decode cL_law 629 = .ok (.iadd, 1) := by decide +kernel
theorem dL_law_630 : decode cL_law 630 = .ok (.iaload, 1) := by decide +kernel
theorem dL_law_631 : decode cL_law 631 = .ok (.aload_n 0, 1) := by decide +kernel
theorem dL_law_632 : decode cL_law 632 = .ok (.iload_n 3, 1) := by decide +kernel
theorem dL_law_633 : decode cL_law 633 = .ok (.iconst 2, 1) := by decide +kernel
theorem dL_law_634 : decode cL_law 634 = .ok (.iadd, 1) := by decide +kernel
theorem dL_law_635 : decode cL_law 635 = .ok (.iaload, 1) := by decide +kernel
theorem dL_law_636 : decode cL_law 636 = .ok (.aload_n 0, 1) := by decide +kernel
theorem dL_law_637 : decode cL_law 637 = .ok (.iload_n 3, 1) := by decide +kernel
theorem dL_law_638 : decode cL_law 638 = .ok (.iconst 3, 1) := by decide +kernel
theorem dL_law_639 : decode cL_law 639 = .ok (.iadd, 1) := by decide +kernel
theorem dL_law_640 : decode cL_law 640 = .ok (.iaload, 1) := by decide +kernel
theorem dL_law_641 : decode cL_law 641 = .ok (.invokevirtual 93, 3) := by decide +kernel
theorem dL_law_644 : decode cL_law 644 = .ok (.if_icmp .eq 97, 3) := by decide +kernel
theorem dL_law_647 : decode cL_law 647 = .ok (.iconst 0, 1) := by decide +kernel
theorem dL_law_648 : decode cL_law 648 = .ok (.ireturn, 1) := by decide +kernel
theorem dL_law_649 : decode cL_law 649 = .ok (.aload_n 1, 1) := by decide +kernel
theorem dL_law_650 : decode cL_law 650 = .ok (.aload_n 0, 1) := by decide +kernel
theorem dL_law_651 : decode cL_law 651 = .ok (.iload_n 3, 1) := by decide +kernel
theorem dL_law_652 : decode cL_law 652 = .ok (.iconst 1, 1) := by decide +kernel
theorem dL_law_653 : decode cL_law 653 = .ok (.iadd, 1) := by decide +kernel
theorem dL_law_654 : decode cL_law 654 = .ok (.iaload, 1) := by decide +kernel
theorem dL_law_655 : decode cL_law 655 = .ok (.invokevirtual 94, 3) := by decide +kernel
theorem dL_law_658 : decode cL_law 658 = .ok (.aload_n 2, 1) := by decide +kernel
theorem dL_law_659 : decode cL_law 659 = .ok (.aload_n 0, 1) := by decide +kernel
theorem dL_law_660 : decode cL_law 660 = .ok (.iload_n 3, 1) := by decide +kernel
theorem dL_law_661 : decode cL_law 661 = .ok (.iconst 1, 1) := by decide +kernel
theorem dL_law_662 : decode cL_law 662 = .ok (.iadd, 1) := by decide +kernel
theorem dL_law_663 : decode cL_law 663 = .ok (.iaload, 1) := by decide +kernel
theorem dL_law_664 : decode cL_law 664 = .ok (.invokevirtual 97, 3) := by decide +kernel
theorem dL_law_667 : decode cL_law 667 = .ok (.if_icmp .eq 74, 3) := by decide +kernel
theorem dL_law_670 : decode cL_law 670 = .ok (.iconst 0, 1) := by decide +kernel
theorem dL_law_671 : decode cL_law 671 = .ok (.ireturn, 1) := by decide +kernel
theorem dL_law_672 : decode cL_law 672 = .ok (.aload_n 1, 1) := by decide +kernel
theorem dL_law_673 : decode cL_law 673 = .ok (.aload_n 0, 1) := by decide +kernel
theorem dL_law_674 : decode cL_law 674 = .ok (.iload_n 3, 1) := by decide +kernel
theorem dL_law_675 : decode cL_law 675 = .ok (.iconst 1, 1) := by decide +kernel
theorem dL_law_676 : decode cL_law 676 = .ok (.iadd, 1) := by decide +kernel
theorem dL_law_677 : decode cL_law 677 = .ok (.iaload, 1) := by decide +kernel
theorem dL_law_678 : decode cL_law 678 = .ok (.aload_n 0, 1) := by decide +kernel
theorem dL_law_679 : decode cL_law 679 = .ok (.iload_n 3, 1) := by decide +kernel
theorem dL_law_680 : decode cL_law 680 = .ok (.iconst 2, 1) := by decide +kernel
theorem dL_law_681 : decode cL_law 681 = .ok (.iadd, 1) := by decide +kernel
theorem dL_law_682 : decode cL_law 682 = .ok (.iaload, 1) := by decide +kernel
theorem dL_law_683 : decode cL_law 683 = .ok (.invokevirtual 98, 3) := by decide +kernel
theorem dL_law_686 : decode cL_law 686 = .ok (.aload_n 2, 1) := by decide +kernel
theorem dL_law_687 : decode cL_law 687 = .ok (.aload_n 0, 1) := by decide +kernel
theorem dL_law_688 : decode cL_law 688 = .ok (.iload_n 3, 1) := by decide +kernel
theorem dL_law_689 : decode cL_law 689 = .ok (.iconst 1, 1) := by decide +kernel
theorem dL_law_690 : decode cL_law 690 = .ok (.iadd, 1) := by decide +kernel
theorem dL_law_691 : decode cL_law 691 = .ok (.iaload, 1) := by decide +kernel
theorem dL_law_692 : decode cL_law 692 = .ok (.aload_n 0, 1) := by decide +kernel
theorem dL_law_693 : decode cL_law 693 = .ok (.iload_n 3, 1) := by decide +kernel
theorem dL_law_694 : decode cL_law 694 = .ok (.iconst 2, 1) := by decide +kernel
theorem dL_law_695 : decode cL_law 695 = .ok (.iadd, 1) := by decide +kernel
theorem dL_law_696 : decode cL_law 696 = .ok (.iaload, 1) := by decide +kernel
theorem dL_law_697 : decode cL_law 697 = .ok (.invokevirtual 101, 3) := by decide +kernel
theorem dL_law_700 : decode cL_law 700 = .ok (.if_icmp .eq 41, 3) := by decide +kernel
theorem dL_law_703 : decode cL_law 703 = .ok (.iconst 0, 1) := by decide +kernel
theorem dL_law_704 : decode cL_law 704 = .ok (.ireturn, 1) := by decide +kernel
theorem dL_law_705 : decode cL_law 705 = .ok (.aload_n 1, 1) := by decide +kernel
theorem dL_law_706 : decode cL_law 706 = .ok (.aload_n 0, 1) := by decide +kernel
theorem dL_law_707 : decode cL_law 707 = .ok (.iload_n 3, 1) := by decide +kernel
theorem dL_law_708 : decode cL_law 708 = .ok (.iconst 1, 1) := by decide +kernel
theorem dL_law_709 : decode cL_law 709 = .ok (.iadd, 1) := by decide +kernel
theorem dL_law_710 : decode cL_law 710 = .ok (.iaload, 1) := by decide +kernel
theorem dL_law_711 : decode cL_law 711 = .ok (.invokevirtual 102, 3) := by decide +kernel
theorem dL_law_714 : decode cL_law 714 = .ok (.aload_n 2, 1) := by decide +kernel
theorem dL_law_715 : decode cL_law 715 = .ok (.aload_n 0, 1) := by decide +kernel
theorem dL_law_716 : decode cL_law 716 = .ok (.iload_n 3, 1) := by decide +kernel
theorem dL_law_717 : decode cL_law 717 = .ok (.iconst 1, 1) := by decide +kernel
theorem dL_law_718 : decode cL_law 718 = .ok (.iadd, 1) := by decide +kernel
theorem dL_law_719 : decode cL_law 719 = .ok (.iaload, 1) := by decide +kernel
theorem dL_law_720 : decode cL_law 720 = .ok (.invokevirtual 105, 3) := by decide +kernel
theorem dL_law_723 : decode cL_law 723 = .ok (.if_icmp .eq 18, 3) := by decide +kernel
theorem dL_law_726 : decode cL_law 726 = .ok (.iconst 0, 1) := by decide +kernel
theorem dL_law_727 : decode cL_law 727 = .ok (.ireturn, 1) := by decide +kernel
theorem dL_law_728 : decode cL_law 728 = .ok (.aload_n 1, 1) := by decide +kernel
theorem dL_law_729 : decode cL_law 729 = .ok (.invokevirtual 106, 3) := by decide +kernel
theorem dL_law_732 : decode cL_law 732 = .ok (.aload_n 2, 1) := by decide +kernel
theorem dL_law_733 : decode cL_law 733 = .ok (.invokevirtual 109, 3) := by decide +kernel
theorem dL_law_736 : decode cL_law 736 = .ok (.if_icmp .eq 5, 3) := by decide +kernel
theorem dL_law_739 : decode cL_law 739 = .ok (.iconst 0, 1) := by decide +kernel
theorem dL_law_740 : decode cL_law 740 = .ok (.ireturn, 1) := by decide +kernel
theorem dL_law_741 : decode cL_law 741 = .ok (.iinc 3 4, 3) := by decide +kernel
theorem dL_law_744 : decode cL_law 744 = .ok (.goto (-726), 3) := by decide +kernel
theorem dL_law_747 : decode cL_law 747 = .ok (.iconst 1, 1) := by decide +kernel
theorem dL_law_748 : decode cL_law 748 = .ok (.ireturn, 1) := by decide +kernel
