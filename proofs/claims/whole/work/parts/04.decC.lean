theorem dX7_init_0 : decode cX7_init 0 = .ok (.aload_n 0, 1) := by decide +kernel
theorem dX7_init_1 : decode cX7_init 1 = .ok (.invokespecial 1, 3) := by decide +kernel
theorem dX7_init_4 : decode cX7_init 4 = .ok (.aload_n 0, 1) := by decide +kernel
theorem dX7_init_5 : decode cX7_init 5 = .ok (.bipush 116, 2) := by decide +kernel
theorem dX7_init_7 : decode cX7_init 7 = .ok (.newarray .int, 2) := by decide +kernel
theorem dX7_init_9 : decode cX7_init 9 = .ok (.putfield 7, 3) := by decide +kernel
theorem dX7_init_12 : decode cX7_init 12 = .ok (.aload_n 0, 1) := by decide +kernel
theorem dX7_init_13 : decode cX7_init 13 = .ok (.bipush 116, 2) := by decide +kernel
theorem dX7_init_15 : decode cX7_init 15 = .ok (.newarray .int, 2) := by decide +kernel
theorem dX7_init_17 : decode cX7_init 17 = .ok (.putfield 13, 3) := by decide +kernel
theorem dX7_init_20 : decode cX7_init 20 = .ok (.aload_n 0, 1) := by decide +kernel
theorem dX7_init_21 : decode cX7_init 21 = .ok (.sipush 464, 3) := by decide +kernel
theorem dX7_init_24 : decode cX7_init 24 = .ok (.newarray .int, 2) := by decide +kernel
theorem dX7_init_26 : decode cX7_init 26 = .ok (.putfield 16, 3) := by decide +kernel
theorem dX7_init_29 : decode cX7_init 29 = .ok (.aload_n 0, 1) := by decide +kernel
theorem dX7_init_30 : decode cX7_init 30 = .ok (.bipush 116, 2) := by decide +kernel
theorem dX7_init_32 : decode cX7_init 32 = .ok (.newarray .int, 2) := by decide +kernel
theorem dX7_init_34 : decode cX7_init 34 = .ok (.putfield 19, 3) := by decide +kernel
theorem dX7_init_37 : decode cX7_init 37 = .ok (.aload_n 0, 1) := by decide +kernel
theorem dX7_init_38 : decode cX7_init 38 = .ok (.bipush 60, 2) := by decide +kernel
theorem dX7_init_40 : decode cX7_init 40 = .ok (.newarray .int, 2) := by decide +kernel
theorem dX7_init_42 : decode cX7_init 42 = .ok (.putfield 22, 3) := by decide +kernel
theorem dX7_init_45 : decode cX7_init 45 = .ok (.aload_n 0, 1) := by decide +kernel
theorem dX7_init_46 : decode cX7_init 46 = .ok (.sipush 150, 3) := by decide +kernel
theorem dX7_init_49 : decode cX7_init 49 = .ok (.newarray .int, 2) := by decide +kernel
theorem dX7_init_51 : decode cX7_init 51 = .ok (.putfield 25, 3) := by decide +kernel
theorem dX7_init_54 : decode cX7_init 54 = .ok (.aload_n 0, 1) := by decide +kernel
theorem dX7_init_55 : decode cX7_init 55 = .ok (.sipush 150, 3) := by decide +kernel
theorem dX7_init_58 : decode cX7_init 58 = .ok (.newarray .int, 2) := by decide +kernel
theorem dX7_init_60 : decode cX7_init 60 = .ok (.putfield 28, 3) := by decide +kernel
theorem dX7_init_63 : decode cX7_init 63 = .ok (.aload_n 0, 1) := by decide +kernel
theorem dX7_init_64 : decode cX7_init 64 = .ok (.sipush 150, 3) := by decide +kernel
theorem dX7_init_67 : decode cX7_init 67 = .ok (.newarray .int, 2) := by decide +kernel
theorem dX7_init_69 : decode cX7_init 69 = .ok (.putfield 31, 3) := by decide +kernel
theorem dX7_init_72 : decode cX7_init 72 = .ok (.aload_n 0, 1) := by decide +kernel
theorem dX7_init_73 : decode cX7_init 73 = .ok (.sipush 150, 3) := by decide +kernel
theorem dX7_init_76 : decode cX7_init 76 = .ok (.newarray .int, 2) := by decide +kernel
theorem dX7_init_78 : decode cX7_init 78 = .ok (.putfield 34, 3) := by decide +kernel
theorem dX7_init_81 : decode cX7_init 81 = .ok (.aload_n 0, 1) := by decide +kernel
theorem dX7_init_82 : decode cX7_init 82 = .ok (.iconst 5, 1) := by decide +kernel
theorem dX7_init_83 : decode cX7_init 83 = .ok (.newarray .int, 2) := by decide +kernel
theorem dX7_init_85 : decode cX7_init 85 = .ok (.putfield 37, 3) := by decide +kernel
theorem dX7_init_88 : decode cX7_init 88 = .ok (.iconst 0, 1) := by decide +kernel
theorem dX7_init_89 : decode cX7_init 89 = .ok (.istore_n 1, 1) := by decide +kernel
theorem dX7_init_90 : decode cX7_init 90 = .ok (.iload_n 1, 1) := by decide +kernel
theorem dX7_init_91 : decode cX7_init 91 = .ok (.bipush 24, 2) := by decide +kernel
theorem dX7_init_93 : decode cX7_init 93 = .ok (.if_icmp .ge 25, 3) := by decide +kernel
theorem dX7_init_96 : decode cX7_init 96 = .ok (.aload_n 0, 1) := by decide +kernel
theorem dX7_init_97 : decode cX7_init 97 = .ok (.getfield 7, 3) := by decide +kernel
theorem dX7_init_100 : decode cX7_init 100 = .ok (.iload_n 1, 1) := by decide +kernel
theorem dX7_init_101 : decode cX7_init 101 = .ok (.iload_n 1, 1) := by decide +kernel
theorem dX7_init_102 : decode cX7_init 102 = .ok (.iconst 4, 1) := by decide +kernel
theorem dX7_init_103 : decode cX7_init 103 = .ok (.idiv, 1) := by decide +kernel
theorem dX7_init_104 : decode cX7_init 104 = .ok (.iload_n 1, 1) := by decide +kernel
theorem dX7_init_105 : decode cX7_init 105 = .ok (.iconst 4, 1) := by decide +kernel
theorem dX7_init_106 : decode cX7_init 106 = .ok (.irem, 1) := by decide +kernel
theorem dX7_init_107 : decode cX7_init 107 = .ok (.iadd, 1) := by decide +kernel
theorem dX7_init_108 : decode cX7_init 108 = .ok (.bipush 6, 2) := by decide +kernel
theorem dX7_init_110 : decode cX7_init 110 = .ok (.irem, 1) := by decide +kernel
theorem dX7_init_111 : decode cX7_init 111 = .ok (.iastore, 1) := by decide +kernel
theorem dX7_init_112 : decode cX7_init 112 = .ok (.iinc 1 1, 3) := by decide +kernel
theorem dX7_init_115 : decode cX7_init 115 = .ok (.goto (-25), 3) := by decide +kernel
theorem dX7_init_118 : decode cX7_init 118 = .ok (.aload_n 0, 1) := by decide +kernel
theorem dX7_init_119 : decode cX7_init 119 = .ok (.invokevirtual 40, 3) := by decide +kernel
theorem dX7_init_122 : decode cX7_init 122 = .ok (.return_, 1) := by decide +kernel
theorem dX7_in_0 : decode cX7_in 0 = .ok (.iload_n 0, 1) := by decide +kernel
theorem dX7_in_1 : decode cX7_in 1 = .ok (.iload_n 1, 1) := by decide +kernel
theorem dX7_in_2 : decode cX7_in 2 = .ok (.if_icmp .lt 12, 3) := by decide +kernel
theorem dX7_in_5 : decode cX7_in 5 = .ok (.iload_n 0, 1) := by decide +kernel
theorem dX7_in_6 : decode cX7_in 6 = .ok (.iload_n 2, 1) := by decide +kernel
theorem dX7_in_7 : decode cX7_in 7 = .ok (.if_icmp .gt 7, 3) := by decide +kernel
theorem dX7_in_10 : decode cX7_in 10 = .ok (.iconst 1, 1) := by decide +kernel
theorem dX7_in_11 : decode cX7_in 11 = .ok (.goto 4, 3) := by decide +kernel
theorem dX7_in_14 : decode cX7_in 14 = .ok (.iconst 0, 1) := by decide +kernel
theorem dX7_in_15 : decode cX7_in 15 = .ok (.ireturn, 1) := by decide +kernel
theorem dX7_isKind_0 : decode cX7_isKind 0 = .ok (.iload_n 0, 1) := by decide +kernel
theorem dX7_isKind_1 : decode cX7_isKind 1 = .ok (.iconst 0, 1) := by decide +kernel
theorem dX7_isKind_2 : decode cX7_isKind 2 = .ok (.iconst 5, 1) := by decide +kernel
theorem dX7_isKind_3 : decode cX7_isKind 3 = .ok (.invokestatic 43, 3) := by decide +kernel
theorem dX7_isKind_6 : decode cX7_isKind 6 = .ok (.ireturn, 1) := by decide +kernel
theorem dX7_isCell_0 : decode cX7_isCell 0 = .ok (.iload_n 0, 1) := by decide +kernel
theorem dX7_isCell_1 : decode cX7_isCell 1 = .ok (.iconst 0, 1) := by decide +kernel
theorem dX7_isCell_2 : decode cX7_isCell 2 = .ok (.sipush 149, 3) := by decide +kernel
theorem dX7_isCell_5 : decode cX7_isCell 5 = .ok (.invokestatic 43, 3) := by decide +kernel
theorem dX7_isCell_8 : decode cX7_isCell 8 = .ok (.ireturn, 1) := by decide +kernel
theorem dX7_isCross_0 : decode cX7_isCross 0 = .ok (.iload_n 1, 1) := by decide +kernel
theorem dX7_isCross_1 : decode cX7_isCross 1 = .ok (.iconst 0, 1) := by decide +kernel
theorem dX7_isCross_2 : decode cX7_isCross 2 = .ok (.aload_n 0, 1) := by decide +kernel
theorem dX7_isCross_3 : decode cX7_isCross 3 = .ok (.getfield 7, 3) := by decide +kernel
theorem dX7_isCross_6 : decode cX7_isCross 6 = .ok (.bipush 25, 2) := by decide +kernel
theorem dX7_isCross_8 : decode cX7_isCross 8 = .ok (.iaload, 1) := by decide +kernel
theorem dX7_isCross_9 : decode cX7_isCross 9 = .ok (.iconst 1, 1) := by decide +kernel
theorem dX7_isCross_10 : decode cX7_isCross 10 = .ok (.isub, 1) := by decide +kernel
theorem dX7_isCross_11 : decode cX7_isCross 11 = .ok (.invokestatic 43, 3) := by decide +kernel
theorem dX7_isCross_14 : decode cX7_isCross 14 = .ok (.ireturn, 1) := by decide +kernel
theorem dX7_kindOf_0 : decode cX7_kindOf 0 = .ok (.aload_n 0, 1) := by decide +kernel
theorem dX7_kindOf_1 : decode cX7_kindOf 1 = .ok (.getfield 7, 3) := by decide +kernel
theorem dX7_kindOf_4 : decode cX7_kindOf 4 = .ok (.bipush 26, 2) := by decide +kernel
theorem dX7_kindOf_6 : decode cX7_kindOf 6 = .ok (.iconst 3, 1) := by decide +kernel
theorem dX7_kindOf_7 : decode cX7_kindOf 7 = .ok (.iload_n 1, 1) := by decide +kernel
theorem dX7_kindOf_8 : decode cX7_kindOf 8 = .ok (.imul, 1) := by decide +kernel
theorem dX7_kindOf_9 : decode cX7_kindOf 9 = .ok (.iadd, 1) := by decide +kernel
theorem dX7_kindOf_10 : decode cX7_kindOf 10 = .ok (.iaload, 1) := by decide +kernel
theorem dX7_kindOf_11 : decode cX7_kindOf 11 = .ok (.ireturn, 1) := by decide +kernel
theorem dX7_turnsOf_0 : decode cX7_turnsOf 0 = .ok (.aload_n 0, 1) := by decide +kernel
theorem dX7_turnsOf_1 : decode cX7_turnsOf 1 = .ok (.getfield 7, 3) := by decide +kernel
theorem dX7_turnsOf_4 : decode cX7_turnsOf 4 = .ok (.bipush 26, 2) := by decide +kernel
theorem dX7_turnsOf_6 : decode cX7_turnsOf 6 = .ok (.iconst 3, 1) := by decide +kernel
theorem dX7_turnsOf_7 : decode cX7_turnsOf 7 = .ok (.iload_n 1, 1) := by decide +kernel
theorem dX7_turnsOf_8 : decode cX7_turnsOf 8 = .ok (.imul, 1) := by decide +kernel
theorem dX7_turnsOf_9 : decode cX7_turnsOf 9 = .ok (.iadd, 1) := by decide +kernel
theorem dX7_turnsOf_10 : decode cX7_turnsOf 10 = .ok (.iconst 1, 1) := by decide +kernel
theorem dX7_turnsOf_11 : decode cX7_turnsOf 11 = .ok (.iadd, 1) := by decide +kernel
theorem dX7_turnsOf_12 : decode cX7_turnsOf 12 = .ok (.iaload, 1) := by decide +kernel
theorem dX7_turnsOf_13 : decode cX7_turnsOf 13 = .ok (.ireturn, 1) := by decide +kernel
theorem dX7_middleOf_0 : decode cX7_middleOf 0 = .ok (.aload_n 0, 1) := by decide +kernel
theorem dX7_middleOf_1 : decode cX7_middleOf 1 = .ok (.getfield 7, 3) := by decide +kernel
theorem dX7_middleOf_4 : decode cX7_middleOf 4 = .ok (.bipush 26, 2) := by decide +kernel
theorem dX7_middleOf_6 : decode cX7_middleOf 6 = .ok (.iconst 3, 1) := by decide +kernel
theorem dX7_middleOf_7 : decode cX7_middleOf 7 = .ok (.iload_n 1, 1) := by decide +kernel
theorem dX7_middleOf_8 : decode cX7_middleOf 8 = .ok (.imul, 1) := by decide +kernel
theorem dX7_middleOf_9 : decode cX7_middleOf 9 = .ok (.iadd, 1) := by decide +kernel
theorem dX7_middleOf_10 : decode cX7_middleOf 10 = .ok (.iconst 2, 1) := by decide +kernel
theorem dX7_middleOf_11 : decode cX7_middleOf 11 = .ok (.iadd, 1) := by decide +kernel
theorem dX7_middleOf_12 : decode cX7_middleOf 12 = .ok (.iaload, 1) := by decide +kernel
theorem dX7_middleOf_13 : decode cX7_middleOf 13 = .ok (.ireturn, 1) := by decide +kernel
theorem dX7_beside_0 : decode cX7_beside 0 = .ok (.iload_n 0, 1) := by decide +kernel
theorem dX7_beside_1 : decode cX7_beside 1 = .ok (.bipush 15, 2) := by decide +kernel
theorem dX7_beside_3 : decode cX7_beside 3 = .ok (.irem, 1) := by decide +kernel
theorem dX7_beside_4 : decode cX7_beside 4 = .ok (.istore_n 2, 1) := by decide +kernel
theorem dX7_beside_5 : decode cX7_beside 5 = .ok (.iload_n 0, 1) := by decide +kernel
theorem dX7_beside_6 : decode cX7_beside 6 = .ok (.bipush 15, 2) := by decide +kernel
theorem dX7_beside_8 : decode cX7_beside 8 = .ok (.idiv, 1) := by decide +kernel
theorem dX7_beside_9 : decode cX7_beside 9 = .ok (.istore_n 3, 1) := by decide +kernel
theorem dX7_beside_10 : decode cX7_beside 10 = .ok (.iload_n 1, 1) := by decide +kernel
theorem dX7_beside_11 : decode cX7_beside 11 = .ok (.tableswitch 64 0 2 #[25, 40, 52], 25) := by decide +kernel
theorem dX7_beside_36 : decode cX7_beside 36 = .ok (.bipush 15, 2) := by decide +kernel
theorem dX7_beside_38 : decode cX7_beside 38 = .ok (.iload_n 3, 1) := by decide +kernel
theorem dX7_beside_39 : decode cX7_beside 39 = .ok (.bipush 10, 2) := by decide +kernel
theorem dX7_beside_41 : decode cX7_beside 41 = .ok (.iadd, 1) := by decide +kernel
theorem dX7_beside_42 : decode cX7_beside 42 = .ok (.iconst 1, 1) := by decide +kernel
theorem dX7_beside_43 : decode cX7_beside 43 = .ok (.isub, 1) := by decide +kernel
theorem dX7_beside_44 : decode cX7_beside 44 = .ok (.bipush 10, 2) := by decide +kernel
theorem dX7_beside_46 : decode cX7_beside 46 = .ok (.irem, 1) := by decide +kernel
theorem dX7_beside_47 : decode cX7_beside 47 = .ok (.imul, 1) := by decide +kernel
theorem dX7_beside_48 : decode cX7_beside 48 = .ok (.iload_n 2, 1) := by decide +kernel
theorem dX7_beside_49 : decode cX7_beside 49 = .ok (.iadd, 1) := by decide +kernel
theorem dX7_beside_50 : decode cX7_beside 50 = .ok (.ireturn, 1) := by decide +kernel
theorem dX7_beside_51 : decode cX7_beside 51 = .ok (.bipush 15, 2) := by decide +kernel
theorem dX7_beside_53 : decode cX7_beside 53 = .ok (.iload_n 3, 1) := by decide +kernel
theorem dX7_beside_54 : decode cX7_beside 54 = .ok (.imul, 1) := by decide +kernel
theorem dX7_beside_55 : decode cX7_beside 55 = .ok (.iload_n 2, 1) := by decide +kernel
theorem dX7_beside_56 : decode cX7_beside 56 = .ok (.iconst 1, 1) := by decide +kernel
theorem dX7_beside_57 : decode cX7_beside 57 = .ok (.iadd, 1) := by decide +kernel
theorem dX7_beside_58 : decode cX7_beside 58 = .ok (.bipush 15, 2) := by decide +kernel
theorem dX7_beside_60 : decode cX7_beside 60 = .ok (.irem, 1) := by decide +kernel
theorem dX7_beside_61 : decode cX7_beside 61 = .ok (.iadd, 1) := by decide +kernel
theorem dX7_beside_62 : decode cX7_beside 62 = .ok (.ireturn, 1) := by decide +kernel
theorem dX7_beside_63 : decode cX7_beside 63 = .ok (.bipush 15, 2) := by decide +kernel
theorem dX7_beside_65 : decode cX7_beside 65 = .ok (.iload_n 3, 1) := by decide +kernel
theorem dX7_beside_66 : decode cX7_beside 66 = .ok (.iconst 1, 1) := by decide +kernel
theorem dX7_beside_67 : decode cX7_beside 67 = .ok (.iadd, 1) := by decide +kernel
theorem dX7_beside_68 : decode cX7_beside 68 = .ok (.bipush 10, 2) := by decide +kernel
theorem dX7_beside_70 : decode cX7_beside 70 = .ok (.irem, 1) := by decide +kernel
theorem dX7_beside_71 : decode cX7_beside 71 = .ok (.imul, 1) := by decide +kernel
theorem dX7_beside_72 : decode cX7_beside 72 = .ok (.iload_n 2, 1) := by decide +kernel
theorem dX7_beside_73 : decode cX7_beside 73 = .ok (.iadd, 1) := by decide +kernel
theorem dX7_beside_74 : decode cX7_beside 74 = .ok (.ireturn, 1) := by decide +kernel
theorem dX7_beside_75 : decode cX7_beside 75 = .ok (.bipush 15, 2) := by decide +kernel
theorem dX7_beside_77 : decode cX7_beside 77 = .ok (.iload_n 3, 1) := by decide +kernel
theorem dX7_beside_78 : decode cX7_beside 78 = .ok (.imul, 1) := by decide +kernel
theorem dX7_beside_79 : decode cX7_beside 79 = .ok (.iload_n 2, 1) := by decide +kernel
theorem dX7_beside_80 : decode cX7_beside 80 = .ok (.bipush 15, 2) := by decide +kernel
theorem dX7_beside_82 : decode cX7_beside 82 = .ok (.iadd, 1) := by decide +kernel
theorem dX7_beside_83 : decode cX7_beside 83 = .ok (.iconst 1, 1) := by decide +kernel
theorem dX7_beside_84 : decode cX7_beside 84 = .ok (.isub, 1) := by decide +kernel
theorem dX7_beside_85 : decode cX7_beside 85 = .ok (.bipush 15, 2) := by decide +kernel
theorem dX7_beside_87 : decode cX7_beside 87 = .ok (.irem, 1) := by decide +kernel
theorem dX7_beside_88 : decode cX7_beside 88 = .ok (.iadd, 1) := by decide +kernel
theorem dX7_beside_89 : decode cX7_beside 89 = .ok (.ireturn, 1) := by decide +kernel
theorem dX7_colourBy_0 : decode cX7_colourBy 0 = .ok (.aload_n 0, 1) := by decide +kernel
theorem dX7_colourBy_1 : decode cX7_colourBy 1 = .ok (.getfield 7, 3) := by decide +kernel
theorem dX7_colourBy_4 : decode cX7_colourBy 4 = .ok (.iconst 4, 1) := by decide +kernel
theorem dX7_colourBy_5 : decode cX7_colourBy 5 = .ok (.iload_n 1, 1) := by decide +kernel
theorem dX7_colourBy_6 : decode cX7_colourBy 6 = .ok (.imul, 1) := by decide +kernel
theorem dX7_colourBy_7 : decode cX7_colourBy 7 = .ok (.iload_n 3, 1) := by decide +kernel
theorem dX7_colourBy_8 : decode cX7_colourBy 8 = .ok (.iload_n 2, 1) := by decide +kernel
theorem dX7_colourBy_9 : decode cX7_colourBy 9 = .ok (.isub, 1) := by decide +kernel
theorem dX7_colourBy_10 : decode cX7_colourBy 10 = .ok (.iconst 4, 1) := by decide +kernel
theorem dX7_colourBy_11 : decode cX7_colourBy 11 = .ok (.iadd, 1) := by decide +kernel
theorem dX7_colourBy_12 : decode cX7_colourBy 12 = .ok (.iconst 4, 1) := by decide +kernel
theorem dX7_colourBy_13 : decode cX7_colourBy 13 = .ok (.irem, 1) := by decide +kernel
theorem dX7_colourBy_14 : decode cX7_colourBy 14 = .ok (.iadd, 1) := by decide +kernel
theorem dX7_colourBy_15 : decode cX7_colourBy 15 = .ok (.iaload, 1) := by decide +kernel
theorem dX7_colourBy_16 : decode cX7_colourBy 16 = .ok (.ireturn, 1) := by decide +kernel
theorem dX7_colourOf_0 : decode cX7_colourOf 0 = .ok (.aload_n 0, 1) := by decide +kernel
theorem dX7_colourOf_1 : decode cX7_colourOf 1 = .ok (.aload_n 0, 1) := by decide +kernel
theorem dX7_colourOf_2 : decode cX7_colourOf 2 = .ok (.iload_n 1, 1) := by decide +kernel
theorem dX7_colourOf_3 : decode cX7_colourOf 3 = .ok (.invokevirtual 47, 3) := by decide +kernel
theorem dX7_colourOf_6 : decode cX7_colourOf 6 = .ok (.aload_n 0, 1) := by decide +kernel
theorem dX7_colourOf_7 : decode cX7_colourOf 7 = .ok (.iload_n 1, 1) := by decide +kernel
theorem dX7_colourOf_8 : decode cX7_colourOf 8 = .ok (.invokevirtual 51, 3) := by decide +kernel
theorem dX7_colourOf_11 : decode cX7_colourOf 11 = .ok (.iload_n 2, 1) := by decide +kernel
theorem dX7_colourOf_12 : decode cX7_colourOf 12 = .ok (.invokevirtual 54, 3) := by decide +kernel
theorem dX7_colourOf_15 : decode cX7_colourOf 15 = .ok (.ireturn, 1) := by decide +kernel
theorem dX7_draw_0 : decode cX7_draw 0 = .ok (.iconst 0, 1) := by decide +kernel
theorem dX7_draw_1 : decode cX7_draw 1 = .ok (.istore_n 1, 1) := by decide +kernel
theorem dX7_draw_2 : decode cX7_draw 2 = .ok (.iload_n 1, 1) := by decide +kernel
theorem dX7_draw_3 : decode cX7_draw 3 = .ok (.sipush 150, 3) := by decide +kernel
theorem dX7_draw_6 : decode cX7_draw 6 = .ok (.if_icmp .ge 25, 3) := by decide +kernel
theorem dX7_draw_9 : decode cX7_draw 9 = .ok (.aload_n 0, 1) := by decide +kernel
theorem dX7_draw_10 : decode cX7_draw 10 = .ok (.getfield 25, 3) := by decide +kernel
theorem dX7_draw_13 : decode cX7_draw 13 = .ok (.iload_n 1, 1) := by decide +kernel
theorem dX7_draw_14 : decode cX7_draw 14 = .ok (.bipush (-5), 2) := by decide +kernel
theorem dX7_draw_16 : decode cX7_draw 16 = .ok (.iastore, 1) := by decide +kernel
theorem dX7_draw_17 : decode cX7_draw 17 = .ok (.aload_n 0, 1) := by decide +kernel
theorem dX7_draw_18 : decode cX7_draw 18 = .ok (.getfield 28, 3) := by decide +kernel
theorem dX7_draw_21 : decode cX7_draw 21 = .ok (.iload_n 1, 1) := by decide +kernel
theorem dX7_draw_22 : decode cX7_draw 22 = .ok (.bipush (-5), 2) := by decide +kernel
theorem dX7_draw_24 : decode cX7_draw 24 = .ok (.iastore, 1) := by decide +kernel
theorem dX7_draw_25 : decode cX7_draw 25 = .ok (.iinc 1 1, 3) := by decide +kernel
theorem dX7_draw_28 : decode cX7_draw 28 = .ok (.goto (-26), 3) := by decide +kernel
theorem dX7_draw_31 : decode cX7_draw 31 = .ok (.iconst 0, 1) := by decide +kernel
theorem dX7_draw_32 : decode cX7_draw 32 = .ok (.istore_n 1, 1) := by decide +kernel
theorem dX7_draw_33 : decode cX7_draw 33 = .ok (.iload_n 1, 1) := by decide +kernel
theorem dX7_draw_34 : decode cX7_draw 34 = .ok (.aload_n 0, 1) := by decide +kernel
theorem dX7_draw_35 : decode cX7_draw 35 = .ok (.getfield 7, 3) := by decide +kernel
theorem dX7_draw_38 : decode cX7_draw 38 = .ok (.bipush 25, 2) := by decide +kernel
theorem dX7_draw_40 : decode cX7_draw 40 = .ok (.iaload, 1) := by decide +kernel
theorem dX7_draw_41 : decode cX7_draw 41 = .ok (.if_icmp .ge 74, 3) := by decide +kernel
theorem dX7_draw_44 : decode cX7_draw 44 = .ok (.aload_n 0, 1) := by decide +kernel
theorem dX7_draw_45 : decode cX7_draw 45 = .ok (.getfield 25, 3) := by decide +kernel
theorem dX7_draw_48 : decode cX7_draw 48 = .ok (.aload_n 0, 1) := by decide +kernel
theorem dX7_draw_49 : decode cX7_draw 49 = .ok (.iload_n 1, 1) := by decide +kernel
theorem dX7_draw_50 : decode cX7_draw 50 = .ok (.invokevirtual 58, 3) := by decide +kernel
theorem dX7_draw_53 : decode cX7_draw 53 = .ok (.iload_n 1, 1) := by decide +kernel
theorem dX7_draw_54 : decode cX7_draw 54 = .ok (.iastore, 1) := by decide +kernel
theorem dX7_draw_55 : decode cX7_draw 55 = .ok (.aload_n 0, 1) := by decide +kernel
theorem dX7_draw_56 : decode cX7_draw 56 = .ok (.getfield 28, 3) := by decide +kernel
theorem dX7_draw_59 : decode cX7_draw 59 = .ok (.aload_n 0, 1) := by decide +kernel
theorem dX7_draw_60 : decode cX7_draw 60 = .ok (.iload_n 1, 1) := by decide +kernel
theorem dX7_draw_61 : decode cX7_draw 61 = .ok (.invokevirtual 58, 3) := by decide +kernel
theorem dX7_draw_64 : decode cX7_draw 64 = .ok (.iconst 4, 1) := by decide +kernel
theorem dX7_draw_65 : decode cX7_draw 65 = .ok (.iastore, 1) := by decide +kernel
theorem dX7_draw_66 : decode cX7_draw 66 = .ok (.iconst 0, 1) := by decide +kernel
theorem dX7_draw_67 : decode cX7_draw 67 = .ok (.istore_n 2, 1) := by decide +kernel
theorem dX7_draw_68 : decode cX7_draw 68 = .ok (.iload_n 2, 1) := by decide +kernel
theorem dX7_draw_69 : decode cX7_draw 69 = .ok (.iconst 4, 1) := by decide +kernel
theorem dX7_draw_70 : decode cX7_draw 70 = .ok (.if_icmp .ge 39, 3) := by decide +kernel
theorem dX7_draw_73 : decode cX7_draw 73 = .ok (.aload_n 0, 1) := by decide +kernel
theorem dX7_draw_74 : decode cX7_draw 74 = .ok (.getfield 25, 3) := by decide +kernel
theorem dX7_draw_77 : decode cX7_draw 77 = .ok (.aload_n 0, 1) := by decide +kernel
theorem dX7_draw_78 : decode cX7_draw 78 = .ok (.iload_n 1, 1) := by decide +kernel
theorem dX7_draw_79 : decode cX7_draw 79 = .ok (.invokevirtual 58, 3) := by decide +kernel
theorem dX7_draw_82 : decode cX7_draw 82 = .ok (.iload_n 2, 1) := by decide +kernel
theorem dX7_draw_83 : decode cX7_draw 83 = .ok (.invokestatic 61, 3) := by decide +kernel
theorem dX7_draw_86 : decode cX7_draw 86 = .ok (.iload_n 1, 1) := by decide +kernel
theorem dX7_draw_87 : decode cX7_draw 87 = .ok (.iastore, 1) := by decide +kernel
theorem dX7_draw_88 : decode cX7_draw 88 = .ok (.aload_n 0, 1) := by decide +kernel
theorem dX7_draw_89 : decode cX7_draw 89 = .ok (.getfield 28, 3) := by decide +kernel
theorem dX7_draw_92 : decode cX7_draw 92 = .ok (.aload_n 0, 1) := by decide +kernel
theorem dX7_draw_93 : decode cX7_draw 93 = .ok (.iload_n 1, 1) := by decide +kernel
theorem dX7_draw_94 : decode cX7_draw 94 = .ok (.invokevirtual 58, 3) := by decide +kernel
theorem dX7_draw_97 : decode cX7_draw 97 = .ok (.iload_n 2, 1) := by decide +kernel
theorem dX7_draw_98 : decode cX7_draw 98 = .ok (.invokestatic 61, 3) := by decide +kernel
theorem dX7_draw_101 : decode cX7_draw 101 = .ok (.iload_n 2, 1) := by decide +kernel
theorem dX7_draw_102 : decode cX7_draw 102 = .ok (.iastore, 1) := by decide +kernel
theorem dX7_draw_103 : decode cX7_draw 103 = .ok (.iinc 2 1, 3) := by decide +kernel
theorem dX7_draw_106 : decode cX7_draw 106 = .ok (.goto (-38), 3) := by decide +kernel
theorem dX7_draw_109 : decode cX7_draw 109 = .ok (.iinc 1 1, 3) := by decide +kernel
theorem dX7_draw_112 : decode cX7_draw 112 = .ok (.goto (-79), 3) := by decide +kernel
theorem dX7_draw_115 : decode cX7_draw 115 = .ok (.return_, 1) := by decide +kernel
theorem dX7_hasArm_0 : decode cX7_hasArm 0 = .ok (.aload_n 0, 1) := by decide +kernel
theorem dX7_hasArm_1 : decode cX7_hasArm 1 = .ok (.getfield 28, 3) := by decide +kernel
theorem dX7_hasArm_4 : decode cX7_hasArm 4 = .ok (.iload_n 1, 1) := by decide +kernel
theorem dX7_hasArm_5 : decode cX7_hasArm 5 = .ok (.iaload, 1) := by decide +kernel
theorem dX7_hasArm_6 : decode cX7_hasArm 6 = .ok (.iconst 0, 1) := by decide +kernel
theorem dX7_hasArm_7 : decode cX7_hasArm 7 = .ok (.iconst 3, 1) := by decide +kernel
theorem dX7_hasArm_8 : decode cX7_hasArm 8 = .ok (.invokestatic 43, 3) := by decide +kernel
theorem dX7_hasArm_11 : decode cX7_hasArm 11 = .ok (.ireturn, 1) := by decide +kernel
theorem dX7_armColour_0 : decode cX7_armColour 0 = .ok (.aload_n 0, 1) := by decide +kernel
theorem dX7_armColour_1 : decode cX7_armColour 1 = .ok (.aload_n 0, 1) := by decide +kernel
theorem dX7_armColour_2 : decode cX7_armColour 2 = .ok (.getfield 25, 3) := by decide +kernel
theorem dX7_armColour_5 : decode cX7_armColour 5 = .ok (.iload_n 1, 1) := by decide +kernel
theorem dX7_armColour_6 : decode cX7_armColour 6 = .ok (.iaload, 1) := by decide +kernel
theorem dX7_armColour_7 : decode cX7_armColour 7 = .ok (.aload_n 0, 1) := by decide +kernel
theorem dX7_armColour_8 : decode cX7_armColour 8 = .ok (.getfield 28, 3) := by decide +kernel
theorem dX7_armColour_11 : decode cX7_armColour 11 = .ok (.iload_n 1, 1) := by decide +kernel
theorem dX7_armColour_12 : decode cX7_armColour 12 = .ok (.iaload, 1) := by decide +kernel
theorem dX7_armColour_13 : decode cX7_armColour 13 = .ok (.invokevirtual 65, 3) := by decide +kernel
theorem dX7_armColour_16 : decode cX7_armColour 16 = .ok (.ireturn, 1) := by decide +kernel
theorem dX7_clash_0 : decode cX7_clash 0 = .ok (.aload_n 0, 1) := by decide +kernel
theorem dX7_clash_1 : decode cX7_clash 1 = .ok (.getfield 7, 3) := by decide +kernel
theorem dX7_clash_4 : decode cX7_clash 4 = .ok (.bipush 24, 2) := by decide +kernel
theorem dX7_clash_6 : decode cX7_clash 6 = .ok (.iaload, 1) := by decide +kernel
theorem dX7_clash_7 : decode cX7_clash 7 = .ok (.ifCond .ne 16, 3) := by decide +kernel
theorem dX7_clash_10 : decode cX7_clash 10 = .ok (.iload_n 1, 1) := by decide +kernel
theorem dX7_clash_11 : decode cX7_clash 11 = .ok (.iload_n 2, 1) := by decide +kernel
theorem dX7_clash_12 : decode cX7_clash 12 = .ok (.if_icmp .eq 7, 3) := by decide +kernel
theorem dX7_clash_15 : decode cX7_clash 15 = .ok (.iconst 1, 1) := by decide +kernel
theorem dX7_clash_16 : decode cX7_clash 16 = .ok (.goto 28, 3) := by decide +kernel
theorem dX7_clash_19 : decode cX7_clash 19 = .ok (.iconst 0, 1) := by decide +kernel
theorem dX7_clash_20 : decode cX7_clash 20 = .ok (.goto 24, 3) := by decide +kernel
theorem dX7_clash_23 : decode cX7_clash 23 = .ok (.aload_n 0, 1) := by decide +kernel
theorem dX7_clash_24 : decode cX7_clash 24 = .ok (.getfield 7, 3) := by decide +kernel
theorem dX7_clash_27 : decode cX7_clash 27 = .ok (.bipush 24, 2) := by decide +kernel
theorem dX7_clash_29 : decode cX7_clash 29 = .ok (.iaload, 1) := by decide +kernel
theorem dX7_clash_30 : decode cX7_clash 30 = .ok (.iconst 1, 1) := by decide +kernel
theorem dX7_clash_31 : decode cX7_clash 31 = .ok (.if_icmp .ne 12, 3) := by decide +kernel
theorem dX7_clash_34 : decode cX7_clash 34 = .ok (.iload_n 1, 1) := by decide +kernel
theorem dX7_clash_35 : decode cX7_clash 35 = .ok (.iload_n 2, 1) := by decide +kernel
theorem dX7_clash_36 : decode cX7_clash 36 = .ok (.if_icmp .ne 7, 3) := by decide +kernel
theorem dX7_clash_39 : decode cX7_clash 39 = .ok (.iconst 1, 1) := by decide +kernel
theorem dX7_clash_40 : decode cX7_clash 40 = .ok (.goto 4, 3) := by decide +kernel
theorem dX7_clash_43 : decode cX7_clash 43 = .ok (.iconst 0, 1) := by decide +kernel
theorem dX7_clash_44 : decode cX7_clash 44 = .ok (.ireturn, 1) := by decide +kernel
theorem dX7_touch_0 : decode cX7_touch 0 = .ok (.aload_n 0, 1) := by decide +kernel
theorem dX7_touch_1 : decode cX7_touch 1 = .ok (.iload_n 1, 1) := by decide +kernel
theorem dX7_touch_2 : decode cX7_touch 2 = .ok (.invokevirtual 68, 3) := by decide +kernel
theorem dX7_touch_5 : decode cX7_touch 5 = .ok (.ifCond .eq 30, 3) := by decide +kernel
theorem dX7_touch_8 : decode cX7_touch 8 = .ok (.aload_n 0, 1) := by decide +kernel
theorem dX7_touch_9 : decode cX7_touch 9 = .ok (.iload_n 2, 1) := by decide +kernel
theorem dX7_touch_10 : decode cX7_touch 10 = .ok (.invokevirtual 68, 3) := by decide +kernel
theorem dX7_touch_13 : decode cX7_touch 13 = .ok (.ifCond .eq 22, 3) := by decide +kernel
theorem dX7_touch_16 : decode cX7_touch 16 = .ok (.aload_n 0, 1) := by decide +kernel
theorem dX7_touch_17 : decode cX7_touch 17 = .ok (.getfield 25, 3) := by decide +kernel
theorem dX7_touch_20 : decode cX7_touch 20 = .ok (.iload_n 1, 1) := by decide +kernel
theorem dX7_touch_21 : decode cX7_touch 21 = .ok (.iaload, 1) := by decide +kernel
theorem dX7_touch_22 : decode cX7_touch 22 = .ok (.aload_n 0, 1) := by decide +kernel
theorem dX7_touch_23 : decode cX7_touch 23 = .ok (.getfield 25, 3) := by decide +kernel
theorem dX7_touch_26 : decode cX7_touch 26 = .ok (.iload_n 2, 1) := by decide +kernel
theorem dX7_touch_27 : decode cX7_touch 27 = .ok (.iaload, 1) := by decide +kernel
theorem dX7_touch_28 : decode cX7_touch 28 = .ok (.if_icmp .eq 7, 3) := by decide +kernel
theorem dX7_touch_31 : decode cX7_touch 31 = .ok (.iconst 1, 1) := by decide +kernel
theorem dX7_touch_32 : decode cX7_touch 32 = .ok (.goto 4, 3) := by decide +kernel
theorem dX7_touch_35 : decode cX7_touch 35 = .ok (.iconst 0, 1) := by decide +kernel
theorem dX7_touch_36 : decode cX7_touch 36 = .ok (.ireturn, 1) := by decide +kernel
theorem dX7_areClashing_0 : decode cX7_areClashing 0 = .ok (.iconst 0, 1) := by decide +kernel
theorem dX7_areClashing_1 : decode cX7_areClashing 1 = .ok (.istore_n 1, 1) := by decide +kernel
theorem dX7_areClashing_2 : decode cX7_areClashing 2 = .ok (.iconst 0, 1) := by decide +kernel
theorem dX7_areClashing_3 : decode cX7_areClashing 3 = .ok (.istore_n 2, 1) := by decide +kernel
theorem dX7_areClashing_4 : decode cX7_areClashing 4 = .ok (.iload_n 2, 1) := by decide +kernel
theorem dX7_areClashing_5 : decode cX7_areClashing 5 = .ok (.sipush 150, 3) := by decide +kernel
theorem dX7_areClashing_8 : decode cX7_areClashing 8 = .ok (.if_icmp .ge 67, 3) := by decide +kernel
theorem dX7_areClashing_11 : decode cX7_areClashing 11 = .ok (.iconst 1, 1) := by decide +kernel
theorem dX7_areClashing_12 : decode cX7_areClashing 12 = .ok (.istore_n 3, 1) := by decide +kernel
theorem dX7_areClashing_13 : decode cX7_areClashing 13 = .ok (.iload_n 3, 1) := by decide +kernel
theorem dX7_areClashing_14 : decode cX7_areClashing 14 = .ok (.iconst 3, 1) := by decide +kernel
theorem dX7_areClashing_15 : decode cX7_areClashing 15 = .ok (.if_icmp .ge 54, 3) := by decide +kernel
theorem dX7_areClashing_18 : decode cX7_areClashing 18 = .ok (.iload_n 2, 1) := by decide +kernel
theorem dX7_areClashing_19 : decode cX7_areClashing 19 = .ok (.iload_n 3, 1) := by decide +kernel
theorem dX7_areClashing_20 : decode cX7_areClashing 20 = .ok (.invokestatic 61, 3) := by decide +kernel
theorem dX7_areClashing_23 : decode cX7_areClashing 23 = .ok (.istore 4, 2) := by decide +kernel
theorem dX7_areClashing_25 : decode cX7_areClashing 25 = .ok (.iload_n 1, 1) := by decide +kernel
theorem dX7_areClashing_26 : decode cX7_areClashing 26 = .ok (.ifCond .ne 31, 3) := by decide +kernel
theorem dX7_areClashing_29 : decode cX7_areClashing 29 = .ok (.aload_n 0, 1) := by decide +kernel
theorem dX7_areClashing_30 : decode cX7_areClashing 30 = .ok (.iload_n 2, 1) := by decide +kernel
theorem dX7_areClashing_31 : decode cX7_areClashing 31 = .ok (.iload 4, 2) := by decide +kernel
theorem dX7_areClashing_33 : decode cX7_areClashing 33 = .ok (.invokevirtual 72, 3) := by decide +kernel
theorem dX7_areClashing_36 : decode cX7_areClashing 36 = .ok (.ifCond .eq 25, 3) := by decide +kernel
theorem dX7_areClashing_39 : decode cX7_areClashing 39 = .ok (.aload_n 0, 1) := by decide +kernel
theorem dX7_areClashing_40 : decode cX7_areClashing 40 = .ok (.aload_n 0, 1) := by decide +kernel
theorem dX7_areClashing_41 : decode cX7_areClashing 41 = .ok (.iload_n 2, 1) := by decide +kernel
theorem dX7_areClashing_42 : decode cX7_areClashing 42 = .ok (.invokevirtual 76, 3) := by decide +kernel
theorem dX7_areClashing_45 : decode cX7_areClashing 45 = .ok (.aload_n 0, 1) := by decide +kernel
theorem dX7_areClashing_46 : decode cX7_areClashing 46 = .ok (.iload 4, 2) := by decide +kernel
theorem dX7_areClashing_48 : decode cX7_areClashing 48 = .ok (.invokevirtual 76, 3) := by decide +kernel
theorem dX7_areClashing_51 : decode cX7_areClashing 51 = .ok (.invokevirtual 79, 3) := by decide +kernel
theorem dX7_areClashing_54 : decode cX7_areClashing 54 = .ok (.ifCond .eq 7, 3) := by decide +kernel
theorem dX7_areClashing_57 : decode cX7_areClashing 57 = .ok (.iconst 1, 1) := by decide +kernel
theorem dX7_areClashing_58 : decode cX7_areClashing 58 = .ok (.goto 4, 3) := by decide +kernel
theorem dX7_areClashing_61 : decode cX7_areClashing 61 = .ok (.iconst 0, 1) := by decide +kernel
theorem dX7_areClashing_62 : decode cX7_areClashing 62 = .ok (.istore_n 1, 1) := by decide +kernel
theorem dX7_areClashing_63 : decode cX7_areClashing 63 = .ok (.iinc 3 1, 3) := by decide +kernel
theorem dX7_areClashing_66 : decode cX7_areClashing 66 = .ok (.goto (-53), 3) := by decide +kernel
theorem dX7_areClashing_69 : decode cX7_areClashing 69 = .ok (.iinc 2 1, 3) := by decide +kernel
theorem dX7_areClashing_72 : decode cX7_areClashing 72 = .ok (.goto (-68), 3) := by decide +kernel
theorem dX7_areClashing_75 : decode cX7_areClashing 75 = .ok (.iload_n 1, 1) := by decide +kernel
theorem dX7_areClashing_76 : decode cX7_areClashing 76 = .ok (.ireturn, 1) := by decide +kernel
theorem dX7_record_0 : decode cX7_record 0 = .ok (.aload_n 0, 1) := by decide +kernel
theorem dX7_record_1 : decode cX7_record 1 = .ok (.getfield 82, 3) := by decide +kernel
theorem dX7_record_4 : decode cX7_record 4 = .ok (.iconst 4, 1) := by decide +kernel
theorem dX7_record_5 : decode cX7_record 5 = .ok (.if_icmp .ne 43, 3) := by decide +kernel
theorem dX7_record_8 : decode cX7_record 8 = .ok (.iconst 0, 1) := by decide +kernel
theorem dX7_record_9 : decode cX7_record 9 = .ok (.istore_n 2, 1) := by decide +kernel
theorem dX7_record_10 : decode cX7_record 10 = .ok (.iload_n 2, 1) := by decide +kernel
theorem dX7_record_11 : decode cX7_record 11 = .ok (.sipush 348, 3) := by decide +kernel
theorem dX7_record_14 : decode cX7_record 14 = .ok (.if_icmp .ge 24, 3) := by decide +kernel
theorem dX7_record_17 : decode cX7_record 17 = .ok (.aload_n 0, 1) := by decide +kernel
theorem dX7_record_18 : decode cX7_record 18 = .ok (.getfield 16, 3) := by decide +kernel
theorem dX7_record_21 : decode cX7_record 21 = .ok (.iload_n 2, 1) := by decide +kernel
theorem dX7_record_22 : decode cX7_record 22 = .ok (.aload_n 0, 1) := by decide +kernel
theorem dX7_record_23 : decode cX7_record 23 = .ok (.getfield 16, 3) := by decide +kernel
theorem dX7_record_26 : decode cX7_record 26 = .ok (.bipush 116, 2) := by decide +kernel
theorem dX7_record_28 : decode cX7_record 28 = .ok (.iload_n 2, 1) := by decide +kernel
theorem dX7_record_29 : decode cX7_record 29 = .ok (.iadd, 1) := by decide +kernel
theorem dX7_record_30 : decode cX7_record 30 = .ok (.iaload, 1) := by decide +kernel
theorem dX7_record_31 : decode cX7_record 31 = .ok (.iastore, 1) := by decide +kernel
theorem dX7_record_32 : decode cX7_record 32 = .ok (.iinc 2 1, 3) := by decide +kernel
theorem dX7_record_35 : decode cX7_record 35 = .ok (.goto (-25), 3) := by decide +kernel
theorem dX7_record_38 : decode cX7_record 38 = .ok (.aload_n 0, 1) := by decide +kernel
theorem dX7_record_39 : decode cX7_record 39 = .ok (.dup, 1) := by decide +kernel
theorem dX7_record_40 : decode cX7_record 40 = .ok (.getfield 82, 3) := by decide +kernel
theorem dX7_record_43 : decode cX7_record 43 = .ok (.iconst 1, 1) := by decide +kernel
theorem dX7_record_44 : decode cX7_record 44 = .ok (.isub, 1) := by decide +kernel
theorem dX7_record_45 : decode cX7_record 45 = .ok (.putfield 82, 3) := by decide +kernel
theorem dX7_record_48 : decode cX7_record 48 = .ok (.iconst 0, 1) := by decide +kernel
theorem dX7_record_49 : decode cX7_record 49 = .ok (.istore_n 2, 1) := by decide +kernel
theorem dX7_record_50 : decode cX7_record 50 = .ok (.iload_n 2, 1) := by decide +kernel
theorem dX7_record_51 : decode cX7_record 51 = .ok (.bipush 116, 2) := by decide +kernel
theorem dX7_record_53 : decode cX7_record 53 = .ok (.if_icmp .ge 26, 3) := by decide +kernel
theorem dX7_record_56 : decode cX7_record 56 = .ok (.aload_n 0, 1) := by decide +kernel
theorem dX7_record_57 : decode cX7_record 57 = .ok (.getfield 16, 3) := by decide +kernel
theorem dX7_record_60 : decode cX7_record 60 = .ok (.bipush 116, 2) := by decide +kernel
theorem dX7_record_62 : decode cX7_record 62 = .ok (.aload_n 0, 1) := by decide +kernel
theorem dX7_record_63 : decode cX7_record 63 = .ok (.getfield 82, 3) := by decide +kernel
theorem dX7_record_66 : decode cX7_record 66 = .ok (.imul, 1) := by decide +kernel
theorem dX7_record_67 : decode cX7_record 67 = .ok (.iload_n 2, 1) := by decide +kernel
theorem dX7_record_68 : decode cX7_record 68 = .ok (.iadd, 1) := by decide +kernel
theorem dX7_record_69 : decode cX7_record 69 = .ok (.aload_n 1, 1) := by decide +kernel
theorem dX7_record_70 : decode cX7_record 70 = .ok (.iload_n 2, 1) := by decide +kernel
theorem dX7_record_71 : decode cX7_record 71 = .ok (.iaload, 1) := by decide +kernel
theorem dX7_record_72 : decode cX7_record 72 = .ok (.iastore, 1) := by decide +kernel
theorem dX7_record_73 : decode cX7_record 73 = .ok (.iinc 2 1, 3) := by decide +kernel
theorem dX7_record_76 : decode cX7_record 76 = .ok (.goto (-26), 3) := by decide +kernel
theorem dX7_record_79 : decode cX7_record 79 = .ok (.aload_n 0, 1) := by decide +kernel
theorem dX7_record_80 : decode cX7_record 80 = .ok (.dup, 1) := by decide +kernel
theorem dX7_record_81 : decode cX7_record 81 = .ok (.getfield 82, 3) := by decide +kernel
theorem dX7_record_84 : decode cX7_record 84 = .ok (.iconst 1, 1) := by decide +kernel
theorem dX7_record_85 : decode cX7_record 85 = .ok (.iadd, 1) := by decide +kernel
theorem dX7_record_86 : decode cX7_record 86 = .ok (.putfield 82, 3) := by decide +kernel
theorem dX7_record_89 : decode cX7_record 89 = .ok (.return_, 1) := by decide +kernel
theorem dX7_putAside_0 : decode cX7_putAside 0 = .ok (.iconst 0, 1) := by decide +kernel
theorem dX7_putAside_1 : decode cX7_putAside 1 = .ok (.istore_n 1, 1) := by decide +kernel
theorem dX7_putAside_2 : decode cX7_putAside 2 = .ok (.iload_n 1, 1) := by decide +kernel
theorem dX7_putAside_3 : decode cX7_putAside 3 = .ok (.bipush 116, 2) := by decide +kernel
theorem dX7_putAside_5 : decode cX7_putAside 5 = .ok (.if_icmp .ge 21, 3) := by decide +kernel
theorem dX7_putAside_8 : decode cX7_putAside 8 = .ok (.aload_n 0, 1) := by decide +kernel
theorem dX7_putAside_9 : decode cX7_putAside 9 = .ok (.getfield 13, 3) := by decide +kernel
theorem dX7_putAside_12 : decode cX7_putAside 12 = .ok (.iload_n 1, 1) := by decide +kernel
theorem dX7_putAside_13 : decode cX7_putAside 13 = .ok (.aload_n 0, 1) := by decide +kernel
theorem dX7_putAside_14 : decode cX7_putAside 14 = .ok (.getfield 7, 3) := by decide +kernel
theorem dX7_putAside_17 : decode cX7_putAside 17 = .ok (.iload_n 1, 1) := by decide +kernel
theorem dX7_putAside_18 : decode cX7_putAside 18 = .ok (.iaload, 1) := by decide +kernel
theorem dX7_putAside_19 : decode cX7_putAside 19 = .ok (.iastore, 1) := by decide +kernel
theorem dX7_putAside_20 : decode cX7_putAside 20 = .ok (.iinc 1 1, 3) := by decide +kernel
theorem dX7_putAside_23 : decode cX7_putAside 23 = .ok (.goto (-21), 3) := by decide +kernel
theorem dX7_putAside_26 : decode cX7_putAside 26 = .ok (.return_, 1) := by decide +kernel
theorem dX7_putBack_0 : decode cX7_putBack 0 = .ok (.iconst 0, 1) := by decide +kernel
theorem dX7_putBack_1 : decode cX7_putBack 1 = .ok (.istore_n 1, 1) := by decide +kernel
theorem dX7_putBack_2 : decode cX7_putBack 2 = .ok (.iload_n 1, 1) := by decide +kernel
theorem dX7_putBack_3 : decode cX7_putBack 3 = .ok (.bipush 116, 2) := by decide +kernel
theorem dX7_putBack_5 : decode cX7_putBack 5 = .ok (.if_icmp .ge 21, 3) := by decide +kernel
theorem dX7_putBack_8 : decode cX7_putBack 8 = .ok (.aload_n 0, 1) := by decide +kernel
theorem dX7_putBack_9 : decode cX7_putBack 9 = .ok (.getfield 7, 3) := by decide +kernel
theorem dX7_putBack_12 : decode cX7_putBack 12 = .ok (.iload_n 1, 1) := by decide +kernel
theorem dX7_putBack_13 : decode cX7_putBack 13 = .ok (.aload_n 0, 1) := by decide +kernel
theorem dX7_putBack_14 : decode cX7_putBack 14 = .ok (.getfield 13, 3) := by decide +kernel
theorem dX7_putBack_17 : decode cX7_putBack 17 = .ok (.iload_n 1, 1) := by decide +kernel
theorem dX7_putBack_18 : decode cX7_putBack 18 = .ok (.iaload, 1) := by decide +kernel
theorem dX7_putBack_19 : decode cX7_putBack 19 = .ok (.iastore, 1) := by decide +kernel
theorem dX7_putBack_20 : decode cX7_putBack 20 = .ok (.iinc 1 1, 3) := by decide +kernel
theorem dX7_putBack_23 : decode cX7_putBack 23 = .ok (.goto (-21), 3) := by decide +kernel
theorem dX7_putBack_26 : decode cX7_putBack 26 = .ok (.aload_n 0, 1) := by decide +kernel
theorem dX7_putBack_27 : decode cX7_putBack 27 = .ok (.invokevirtual 40, 3) := by decide +kernel
theorem dX7_putBack_30 : decode cX7_putBack 30 = .ok (.return_, 1) := by decide +kernel
theorem dX7_undo_0 : decode cX7_undo 0 = .ok (.aload_n 0, 1) := by decide +kernel
theorem dX7_undo_1 : decode cX7_undo 1 = .ok (.getfield 82, 3) := by decide +kernel
theorem dX7_undo_4 : decode cX7_undo 4 = .ok (.ifCond .ne 6, 3) := by decide +kernel
theorem dX7_undo_7 : decode cX7_undo 7 = .ok (.bipush (-5), 2) := by decide +kernel
theorem dX7_undo_9 : decode cX7_undo 9 = .ok (.ireturn, 1) := by decide +kernel
theorem dX7_undo_10 : decode cX7_undo 10 = .ok (.aload_n 0, 1) := by decide +kernel
theorem dX7_undo_11 : decode cX7_undo 11 = .ok (.dup, 1) := by decide +kernel
theorem dX7_undo_12 : decode cX7_undo 12 = .ok (.getfield 82, 3) := by decide +kernel
theorem dX7_undo_15 : decode cX7_undo 15 = .ok (.iconst 1, 1) := by decide +kernel
theorem dX7_undo_16 : decode cX7_undo 16 = .ok (.isub, 1) := by decide +kernel
theorem dX7_undo_17 : decode cX7_undo 17 = .ok (.putfield 82, 3) := by decide +kernel
theorem dX7_undo_20 : decode cX7_undo 20 = .ok (.iconst 0, 1) := by decide +kernel
theorem dX7_undo_21 : decode cX7_undo 21 = .ok (.istore_n 1, 1) := by decide +kernel
theorem dX7_undo_22 : decode cX7_undo 22 = .ok (.iload_n 1, 1) := by decide +kernel
theorem dX7_undo_23 : decode cX7_undo 23 = .ok (.bipush 116, 2) := by decide +kernel
theorem dX7_undo_25 : decode cX7_undo 25 = .ok (.if_icmp .ge 29, 3) := by decide +kernel
theorem dX7_undo_28 : decode cX7_undo 28 = .ok (.aload_n 0, 1) := by decide +kernel
theorem dX7_undo_29 : decode cX7_undo 29 = .ok (.getfield 7, 3) := by decide +kernel
theorem dX7_undo_32 : decode cX7_undo 32 = .ok (.iload_n 1, 1) := by decide +kernel
theorem dX7_undo_33 : decode cX7_undo 33 = .ok (.aload_n 0, 1) := by decide +kernel
theorem dX7_undo_34 : decode cX7_undo 34 = .ok (.getfield 16, 3) := by decide +kernel
theorem dX7_undo_37 : decode cX7_undo 37 = .ok (.bipush 116, 2) := by decide +kernel
theorem dX7_undo_39 : decode cX7_undo 39 = .ok (.aload_n 0, 1) := by decide +kernel
theorem dX7_undo_40 : decode cX7_undo 40 = .ok (.getfield 82, 3) := by decide +kernel
theorem dX7_undo_43 : decode cX7_undo 43 = .ok (.imul, 1) := by decide +kernel
theorem dX7_undo_44 : decode cX7_undo 44 = .ok (.iload_n 1, 1) := by decide +kernel
theorem dX7_undo_45 : decode cX7_undo 45 = .ok (.iadd, 1) := by decide +kernel
theorem dX7_undo_46 : decode cX7_undo 46 = .ok (.iaload, 1) := by decide +kernel
theorem dX7_undo_47 : decode cX7_undo 47 = .ok (.iastore, 1) := by decide +kernel
theorem dX7_undo_48 : decode cX7_undo 48 = .ok (.iinc 1 1, 3) := by decide +kernel
theorem dX7_undo_51 : decode cX7_undo 51 = .ok (.goto (-29), 3) := by decide +kernel
theorem dX7_undo_54 : decode cX7_undo 54 = .ok (.aload_n 0, 1) := by decide +kernel
theorem dX7_undo_55 : decode cX7_undo 55 = .ok (.invokevirtual 40, 3) := by decide +kernel
theorem dX7_undo_58 : decode cX7_undo 58 = .ok (.aload_n 0, 1) := by decide +kernel
theorem dX7_undo_59 : decode cX7_undo 59 = .ok (.getfield 82, 3) := by decide +kernel
theorem dX7_undo_62 : decode cX7_undo 62 = .ok (.ireturn, 1) := by decide +kernel
theorem dX7_keep_0 : decode cX7_keep 0 = .ok (.iconst 0, 1) := by decide +kernel
theorem dX7_keep_1 : decode cX7_keep 1 = .ok (.istore_n 1, 1) := by decide +kernel
theorem dX7_keep_2 : decode cX7_keep 2 = .ok (.iload_n 1, 1) := by decide +kernel
theorem dX7_keep_3 : decode cX7_keep 3 = .ok (.bipush 116, 2) := by decide +kernel
theorem dX7_keep_5 : decode cX7_keep 5 = .ok (.if_icmp .ge 21, 3) := by decide +kernel
theorem dX7_keep_8 : decode cX7_keep 8 = .ok (.aload_n 0, 1) := by decide +kernel
theorem dX7_keep_9 : decode cX7_keep 9 = .ok (.getfield 19, 3) := by decide +kernel
theorem dX7_keep_12 : decode cX7_keep 12 = .ok (.iload_n 1, 1) := by decide +kernel
theorem dX7_keep_13 : decode cX7_keep 13 = .ok (.aload_n 0, 1) := by decide +kernel
theorem dX7_keep_14 : decode cX7_keep 14 = .ok (.getfield 7, 3) := by decide +kernel
theorem dX7_keep_17 : decode cX7_keep 17 = .ok (.iload_n 1, 1) := by decide +kernel
theorem dX7_keep_18 : decode cX7_keep 18 = .ok (.iaload, 1) := by decide +kernel
theorem dX7_keep_19 : decode cX7_keep 19 = .ok (.iastore, 1) := by decide +kernel
theorem dX7_keep_20 : decode cX7_keep 20 = .ok (.iinc 1 1, 3) := by decide +kernel
theorem dX7_keep_23 : decode cX7_keep 23 = .ok (.goto (-21), 3) := by decide +kernel
theorem dX7_keep_26 : decode cX7_keep 26 = .ok (.aload_n 0, 1) := by decide +kernel
theorem dX7_keep_27 : decode cX7_keep 27 = .ok (.iconst 1, 1) := by decide +kernel
theorem dX7_keep_28 : decode cX7_keep 28 = .ok (.putfield 86, 3) := by decide +kernel
theorem dX7_keep_31 : decode cX7_keep 31 = .ok (.aload_n 0, 1) := by decide +kernel
theorem dX7_keep_32 : decode cX7_keep 32 = .ok (.getfield 7, 3) := by decide +kernel
theorem dX7_keep_35 : decode cX7_keep 35 = .ok (.bipush 25, 2) := by decide +kernel
theorem dX7_keep_37 : decode cX7_keep 37 = .ok (.iaload, 1) := by decide +kernel
theorem dX7_keep_38 : decode cX7_keep 38 = .ok (.ireturn, 1) := by decide +kernel
theorem dX7_restore_0 : decode cX7_restore 0 = .ok (.aload_n 0, 1) := by decide +kernel
theorem dX7_restore_1 : decode cX7_restore 1 = .ok (.getfield 86, 3) := by decide +kernel
theorem dX7_restore_4 : decode cX7_restore 4 = .ok (.ifCond .ne 6, 3) := by decide +kernel
theorem dX7_restore_7 : decode cX7_restore 7 = .ok (.bipush (-5), 2) := by decide +kernel
theorem dX7_restore_9 : decode cX7_restore 9 = .ok (.ireturn, 1) := by decide +kernel
theorem dX7_restore_10 : decode cX7_restore 10 = .ok (.aload_n 0, 1) := by decide +kernel
theorem dX7_restore_11 : decode cX7_restore 11 = .ok (.aload_n 0, 1) := by decide +kernel
theorem dX7_restore_12 : decode cX7_restore 12 = .ok (.getfield 7, 3) := by decide +kernel
theorem dX7_restore_15 : decode cX7_restore 15 = .ok (.invokevirtual 90, 3) := by decide +kernel
theorem dX7_restore_18 : decode cX7_restore 18 = .ok (.iconst 0, 1) := by decide +kernel
theorem dX7_restore_19 : decode cX7_restore 19 = .ok (.istore_n 1, 1) := by decide +kernel
theorem dX7_restore_20 : decode cX7_restore 20 = .ok (.iload_n 1, 1) := by decide +kernel
theorem dX7_restore_21 : decode cX7_restore 21 = .ok (.bipush 116, 2) := by decide +kernel
theorem dX7_restore_23 : decode cX7_restore 23 = .ok (.if_icmp .ge 21, 3) := by decide +kernel
theorem dX7_restore_26 : decode cX7_restore 26 = .ok (.aload_n 0, 1) := by decide +kernel
theorem dX7_restore_27 : decode cX7_restore 27 = .ok (.getfield 7, 3) := by decide +kernel
theorem dX7_restore_30 : decode cX7_restore 30 = .ok (.iload_n 1, 1) := by decide +kernel
theorem dX7_restore_31 : decode cX7_restore 31 = .ok (.aload_n 0, 1) := by decide +kernel
theorem dX7_restore_32 : decode cX7_restore 32 = .ok (.getfield 19, 3) := by decide +kernel
theorem dX7_restore_35 : decode cX7_restore 35 = .ok (.iload_n 1, 1) := by decide +kernel
theorem dX7_restore_36 : decode cX7_restore 36 = .ok (.iaload, 1) := by decide +kernel
theorem dX7_restore_37 : decode cX7_restore 37 = .ok (.iastore, 1) := by decide +kernel
theorem dX7_restore_38 : decode cX7_restore 38 = .ok (.iinc 1 1, 3) := by decide +kernel
theorem dX7_restore_41 : decode cX7_restore 41 = .ok (.goto (-21), 3) := by decide +kernel
theorem dX7_restore_44 : decode cX7_restore 44 = .ok (.aload_n 0, 1) := by decide +kernel
theorem dX7_restore_45 : decode cX7_restore 45 = .ok (.invokevirtual 40, 3) := by decide +kernel
theorem dX7_restore_48 : decode cX7_restore 48 = .ok (.aload_n 0, 1) := by decide +kernel
theorem dX7_restore_49 : decode cX7_restore 49 = .ok (.getfield 7, 3) := by decide +kernel
theorem dX7_restore_52 : decode cX7_restore 52 = .ok (.bipush 25, 2) := by decide +kernel
theorem dX7_restore_54 : decode cX7_restore 54 = .ok (.iaload, 1) := by decide +kernel
theorem dX7_restore_55 : decode cX7_restore 55 = .ok (.ireturn, 1) := by decide +kernel
theorem dX7_canStay_0 : decode cX7_canStay 0 = .ok (.aload_n 0, 1) := by decide +kernel
theorem dX7_canStay_1 : decode cX7_canStay 1 = .ok (.invokevirtual 40, 3) := by decide +kernel
theorem dX7_canStay_4 : decode cX7_canStay 4 = .ok (.aload_n 0, 1) := by decide +kernel
theorem dX7_canStay_5 : decode cX7_canStay 5 = .ok (.invokevirtual 94, 3) := by decide +kernel
theorem dX7_canStay_8 : decode cX7_canStay 8 = .ok (.ifCond .eq 9, 3) := by decide +kernel
theorem dX7_canStay_11 : decode cX7_canStay 11 = .ok (.aload_n 0, 1) := by decide +kernel
theorem dX7_canStay_12 : decode cX7_canStay 12 = .ok (.invokevirtual 98, 3) := by decide +kernel
theorem dX7_canStay_15 : decode cX7_canStay 15 = .ok (.iconst 0, 1) := by decide +kernel
theorem dX7_canStay_16 : decode cX7_canStay 16 = .ok (.ireturn, 1) := by decide +kernel
theorem dX7_canStay_17 : decode cX7_canStay 17 = .ok (.aload_n 0, 1) := by decide +kernel
theorem dX7_canStay_18 : decode cX7_canStay 18 = .ok (.aload_n 0, 1) := by decide +kernel
theorem dX7_canStay_19 : decode cX7_canStay 19 = .ok (.getfield 13, 3) := by decide +kernel
theorem dX7_canStay_22 : decode cX7_canStay 22 = .ok (.invokevirtual 90, 3) := by decide +kernel
theorem dX7_canStay_25 : decode cX7_canStay 25 = .ok (.iconst 1, 1) := by decide +kernel
theorem dX7_canStay_26 : decode cX7_canStay 26 = .ok (.ireturn, 1) := by decide +kernel
theorem dX7_paint_0 : decode cX7_paint 0 = .ok (.iload_n 1, 1) := by decide +kernel
theorem dX7_paint_1 : decode cX7_paint 1 = .ok (.invokestatic 101, 3) := by decide +kernel
theorem dX7_paint_4 : decode cX7_paint 4 = .ok (.ifCond .ne 5, 3) := by decide +kernel
theorem dX7_paint_7 : decode cX7_paint 7 = .ok (.iconst (-1), 1) := by decide +kernel
theorem dX7_paint_8 : decode cX7_paint 8 = .ok (.ireturn, 1) := by decide +kernel
theorem dX7_paint_9 : decode cX7_paint 9 = .ok (.iload_n 2, 1) := by decide +kernel
theorem dX7_paint_10 : decode cX7_paint 10 = .ok (.iconst 0, 1) := by decide +kernel
theorem dX7_paint_11 : decode cX7_paint 11 = .ok (.iconst 3, 1) := by decide +kernel
theorem dX7_paint_12 : decode cX7_paint 12 = .ok (.invokestatic 43, 3) := by decide +kernel
theorem dX7_paint_15 : decode cX7_paint 15 = .ok (.ifCond .eq 12, 3) := by decide +kernel
theorem dX7_paint_18 : decode cX7_paint 18 = .ok (.iload_n 3, 1) := by decide +kernel
theorem dX7_paint_19 : decode cX7_paint 19 = .ok (.iconst 0, 1) := by decide +kernel
theorem dX7_paint_20 : decode cX7_paint 20 = .ok (.iconst 5, 1) := by decide +kernel
theorem dX7_paint_21 : decode cX7_paint 21 = .ok (.invokestatic 43, 3) := by decide +kernel
theorem dX7_paint_24 : decode cX7_paint 24 = .ok (.ifCond .ne 6, 3) := by decide +kernel
theorem dX7_paint_27 : decode cX7_paint 27 = .ok (.bipush (-2), 2) := by decide +kernel
theorem dX7_paint_29 : decode cX7_paint 29 = .ok (.ireturn, 1) := by decide +kernel
theorem dX7_paint_30 : decode cX7_paint 30 = .ok (.aload_n 0, 1) := by decide +kernel
theorem dX7_paint_31 : decode cX7_paint 31 = .ok (.getfield 7, 3) := by decide +kernel
theorem dX7_paint_34 : decode cX7_paint 34 = .ok (.iconst 4, 1) := by decide +kernel
theorem dX7_paint_35 : decode cX7_paint 35 = .ok (.iload_n 1, 1) := by decide +kernel
theorem dX7_paint_36 : decode cX7_paint 36 = .ok (.imul, 1) := by decide +kernel
theorem dX7_paint_37 : decode cX7_paint 37 = .ok (.iload_n 2, 1) := by decide +kernel
theorem dX7_paint_38 : decode cX7_paint 38 = .ok (.iadd, 1) := by decide +kernel
theorem dX7_paint_39 : decode cX7_paint 39 = .ok (.iaload, 1) := by decide +kernel
theorem dX7_paint_40 : decode cX7_paint 40 = .ok (.istore 4, 2) := by decide +kernel
theorem dX7_paint_42 : decode cX7_paint 42 = .ok (.iload 4, 2) := by decide +kernel
theorem dX7_paint_44 : decode cX7_paint 44 = .ok (.iload_n 3, 1) := by decide +kernel
theorem dX7_paint_45 : decode cX7_paint 45 = .ok (.if_icmp .ne 6, 3) := by decide +kernel
theorem dX7_paint_48 : decode cX7_paint 48 = .ok (.bipush (-5), 2) := by decide +kernel
theorem dX7_paint_50 : decode cX7_paint 50 = .ok (.ireturn, 1) := by decide +kernel
theorem dX7_paint_51 : decode cX7_paint 51 = .ok (.aload_n 0, 1) := by decide +kernel
theorem dX7_paint_52 : decode cX7_paint 52 = .ok (.invokevirtual 104, 3) := by decide +kernel
theorem dX7_paint_55 : decode cX7_paint 55 = .ok (.aload_n 0, 1) := by decide +kernel
theorem dX7_paint_56 : decode cX7_paint 56 = .ok (.getfield 7, 3) := by decide +kernel
theorem dX7_paint_59 : decode cX7_paint 59 = .ok (.iconst 4, 1) := by decide +kernel
theorem dX7_paint_60 : decode cX7_paint 60 = .ok (.iload_n 1, 1) := by decide +kernel
theorem dX7_paint_61 : decode cX7_paint 61 = .ok (.imul, 1) := by decide +kernel
theorem dX7_paint_62 : decode cX7_paint 62 = .ok (.iload_n 2, 1) := by decide +kernel
theorem dX7_paint_63 : decode cX7_paint 63 = .ok (.iadd, 1) := by decide +kernel
theorem dX7_paint_64 : decode cX7_paint 64 = .ok (.iload_n 3, 1) := by decide +kernel
theorem dX7_paint_65 : decode cX7_paint 65 = .ok (.iastore, 1) := by decide +kernel
theorem dX7_paint_66 : decode cX7_paint 66 = .ok (.aload_n 0, 1) := by decide +kernel
theorem dX7_paint_67 : decode cX7_paint 67 = .ok (.invokevirtual 107, 3) := by decide +kernel
theorem dX7_paint_70 : decode cX7_paint 70 = .ok (.ifCond .eq 8, 3) := by decide +kernel
theorem dX7_paint_73 : decode cX7_paint 73 = .ok (.iload 4, 2) := by decide +kernel
theorem dX7_paint_75 : decode cX7_paint 75 = .ok (.goto 5, 3) := by decide +kernel
theorem dX7_paint_78 : decode cX7_paint 78 = .ok (.bipush (-4), 2) := by decide +kernel
theorem dX7_paint_80 : decode cX7_paint 80 = .ok (.ireturn, 1) := by decide +kernel
theorem dX7_setRule_0 : decode cX7_setRule 0 = .ok (.iload_n 1, 1) := by decide +kernel
theorem dX7_setRule_1 : decode cX7_setRule 1 = .ok (.iconst 0, 1) := by decide +kernel
theorem dX7_setRule_2 : decode cX7_setRule 2 = .ok (.iconst 2, 1) := by decide +kernel
theorem dX7_setRule_3 : decode cX7_setRule 3 = .ok (.invokestatic 43, 3) := by decide +kernel
theorem dX7_setRule_6 : decode cX7_setRule 6 = .ok (.ifCond .ne 6, 3) := by decide +kernel
theorem dX7_setRule_9 : decode cX7_setRule 9 = .ok (.bipush (-2), 2) := by decide +kernel
theorem dX7_setRule_11 : decode cX7_setRule 11 = .ok (.ireturn, 1) := by decide +kernel
theorem dX7_setRule_12 : decode cX7_setRule 12 = .ok (.aload_n 0, 1) := by decide +kernel
theorem dX7_setRule_13 : decode cX7_setRule 13 = .ok (.getfield 7, 3) := by decide +kernel
theorem dX7_setRule_16 : decode cX7_setRule 16 = .ok (.bipush 24, 2) := by decide +kernel
theorem dX7_setRule_18 : decode cX7_setRule 18 = .ok (.iaload, 1) := by decide +kernel
theorem dX7_setRule_19 : decode cX7_setRule 19 = .ok (.istore_n 2, 1) := by decide +kernel
theorem dX7_setRule_20 : decode cX7_setRule 20 = .ok (.iload_n 2, 1) := by decide +kernel
theorem dX7_setRule_21 : decode cX7_setRule 21 = .ok (.iload_n 1, 1) := by decide +kernel
theorem dX7_setRule_22 : decode cX7_setRule 22 = .ok (.if_icmp .ne 6, 3) := by decide +kernel
theorem dX7_setRule_25 : decode cX7_setRule 25 = .ok (.bipush (-5), 2) := by decide +kernel
theorem dX7_setRule_27 : decode cX7_setRule 27 = .ok (.ireturn, 1) := by decide +kernel
theorem dX7_setRule_28 : decode cX7_setRule 28 = .ok (.aload_n 0, 1) := by decide +kernel
theorem dX7_setRule_29 : decode cX7_setRule 29 = .ok (.invokevirtual 104, 3) := by decide +kernel
theorem dX7_setRule_32 : decode cX7_setRule 32 = .ok (.aload_n 0, 1) := by decide +kernel
theorem dX7_setRule_33 : decode cX7_setRule 33 = .ok (.getfield 7, 3) := by decide +kernel
theorem dX7_setRule_36 : decode cX7_setRule 36 = .ok (.bipush 24, 2) := by decide +kernel
theorem dX7_setRule_38 : decode cX7_setRule 38 = .ok (.iload_n 1, 1) := by decide +kernel
theorem dX7_setRule_39 : decode cX7_setRule 39 = .ok (.iastore, 1) := by decide +kernel
theorem dX7_setRule_40 : decode cX7_setRule 40 = .ok (.aload_n 0, 1) := by decide +kernel
theorem dX7_setRule_41 : decode cX7_setRule 41 = .ok (.invokevirtual 107, 3) := by decide +kernel
theorem dX7_setRule_44 : decode cX7_setRule 44 = .ok (.ifCond .eq 7, 3) := by decide +kernel
theorem dX7_setRule_47 : decode cX7_setRule 47 = .ok (.iload_n 2, 1) := by decide +kernel
theorem dX7_setRule_48 : decode cX7_setRule 48 = .ok (.goto 5, 3) := by decide +kernel
theorem dX7_setRule_51 : decode cX7_setRule 51 = .ok (.bipush (-4), 2) := by decide +kernel
theorem dX7_setRule_53 : decode cX7_setRule 53 = .ok (.ireturn, 1) := by decide +kernel
theorem dX7_touches_0 : decode cX7_touches 0 = .ok (.iconst 0, 1) := by decide +kernel
theorem dX7_touches_1 : decode cX7_touches 1 = .ok (.istore 4, 2) := by decide +kernel
theorem dX7_touches_3 : decode cX7_touches 3 = .ok (.iconst 0, 1) := by decide +kernel
theorem dX7_touches_4 : decode cX7_touches 4 = .ok (.istore 5, 2) := by decide +kernel
theorem dX7_touches_6 : decode cX7_touches 6 = .ok (.iconst 0, 1) := by decide +kernel
theorem dX7_touches_7 : decode cX7_touches 7 = .ok (.istore 6, 2) := by decide +kernel
theorem dX7_touches_9 : decode cX7_touches 9 = .ok (.iload 6, 2) := by decide +kernel
theorem dX7_touches_11 : decode cX7_touches 11 = .ok (.iconst 4, 1) := by decide +kernel
theorem dX7_touches_12 : decode cX7_touches 12 = .ok (.if_icmp .ge 86, 3) := by decide +kernel
theorem dX7_touches_15 : decode cX7_touches 15 = .ok (.iload_n 3, 1) := by decide +kernel
theorem dX7_touches_16 : decode cX7_touches 16 = .ok (.iload 6, 2) := by decide +kernel
theorem dX7_touches_18 : decode cX7_touches 18 = .ok (.invokestatic 61, 3) := by decide +kernel
theorem dX7_touches_21 : decode cX7_touches 21 = .ok (.istore 7, 2) := by decide +kernel
theorem dX7_touches_23 : decode cX7_touches 23 = .ok (.iconst 0, 1) := by decide +kernel
theorem dX7_touches_24 : decode cX7_touches 24 = .ok (.istore 8, 2) := by decide +kernel
theorem dX7_touches_26 : decode cX7_touches 26 = .ok (.iload 8, 2) := by decide +kernel
theorem dX7_touches_28 : decode cX7_touches 28 = .ok (.iconst 4, 1) := by decide +kernel
theorem dX7_touches_29 : decode cX7_touches 29 = .ok (.if_icmp .ge 63, 3) := by decide +kernel
theorem dX7_touches_32 : decode cX7_touches 32 = .ok (.iload 7, 2) := by decide +kernel
theorem dX7_touches_34 : decode cX7_touches 34 = .ok (.iload 8, 2) := by decide +kernel
theorem dX7_touches_36 : decode cX7_touches 36 = .ok (.invokestatic 61, 3) := by decide +kernel
theorem dX7_touches_39 : decode cX7_touches 39 = .ok (.istore 9, 2) := by decide +kernel
theorem dX7_touches_41 : decode cX7_touches 41 = .ok (.aload_n 0, 1) := by decide +kernel
theorem dX7_touches_42 : decode cX7_touches 42 = .ok (.iload 9, 2) := by decide +kernel
theorem dX7_touches_44 : decode cX7_touches 44 = .ok (.invokevirtual 68, 3) := by decide +kernel
theorem dX7_touches_47 : decode cX7_touches 47 = .ok (.ifCond .eq 39, 3) := by decide +kernel
theorem dX7_touches_50 : decode cX7_touches 50 = .ok (.iinc 4 1, 3) := by decide +kernel
theorem dX7_touches_53 : decode cX7_touches 53 = .ok (.iload 5, 2) := by decide +kernel
theorem dX7_touches_55 : decode cX7_touches 55 = .ok (.ifCond .ne 24, 3) := by decide +kernel
theorem dX7_touches_58 : decode cX7_touches 58 = .ok (.aload_n 0, 1) := by decide +kernel
theorem dX7_touches_59 : decode cX7_touches 59 = .ok (.aload_n 0, 1) := by decide +kernel
theorem dX7_touches_60 : decode cX7_touches 60 = .ok (.iload_n 1, 1) := by decide +kernel
theorem dX7_touches_61 : decode cX7_touches 61 = .ok (.iload_n 2, 1) := by decide +kernel
theorem dX7_touches_62 : decode cX7_touches 62 = .ok (.iload 6, 2) := by decide +kernel
theorem dX7_touches_64 : decode cX7_touches 64 = .ok (.invokevirtual 54, 3) := by decide +kernel
theorem dX7_touches_67 : decode cX7_touches 67 = .ok (.aload_n 0, 1) := by decide +kernel
theorem dX7_touches_68 : decode cX7_touches 68 = .ok (.iload 9, 2) := by decide +kernel
theorem dX7_touches_70 : decode cX7_touches 70 = .ok (.invokevirtual 76, 3) := by decide +kernel
theorem dX7_touches_73 : decode cX7_touches 73 = .ok (.invokevirtual 79, 3) := by decide +kernel
theorem dX7_touches_76 : decode cX7_touches 76 = .ok (.ifCond .eq 7, 3) := by decide +kernel
theorem dX7_touches_79 : decode cX7_touches 79 = .ok (.iconst 1, 1) := by decide +kernel
theorem dX7_touches_80 : decode cX7_touches 80 = .ok (.goto 4, 3) := by decide +kernel
theorem dX7_touches_83 : decode cX7_touches 83 = .ok (.iconst 0, 1) := by decide +kernel
theorem dX7_touches_84 : decode cX7_touches 84 = .ok (.istore 5, 2) := by decide +kernel
theorem dX7_touches_86 : decode cX7_touches 86 = .ok (.iinc 8 1, 3) := by decide +kernel
theorem dX7_touches_89 : decode cX7_touches 89 = .ok (.goto (-63), 3) := by decide +kernel
theorem dX7_touches_92 : decode cX7_touches 92 = .ok (.iinc 6 1, 3) := by decide +kernel
theorem dX7_touches_95 : decode cX7_touches 95 = .ok (.goto (-86), 3) := by decide +kernel
theorem dX7_touches_98 : decode cX7_touches 98 = .ok (.iload 5, 2) := by decide +kernel
theorem dX7_touches_100 : decode cX7_touches 100 = .ok (.ifCond .eq 7, 3) := by decide +kernel
theorem dX7_touches_103 : decode cX7_touches 103 = .ok (.iconst (-1), 1) := by decide +kernel
theorem dX7_touches_104 : decode cX7_touches 104 = .ok (.goto 5, 3) := by decide +kernel
theorem dX7_touches_107 : decode cX7_touches 107 = .ok (.iload 4, 2) := by decide +kernel
theorem dX7_touches_109 : decode cX7_touches 109 = .ok (.ireturn, 1) := by decide +kernel
theorem dX7_why_0 : decode cX7_why 0 = .ok (.aload_n 0, 1) := by decide +kernel
theorem dX7_why_1 : decode cX7_why 1 = .ok (.getfield 25, 3) := by decide +kernel
theorem dX7_why_4 : decode cX7_why 4 = .ok (.iload_n 3, 1) := by decide +kernel
theorem dX7_why_5 : decode cX7_why 5 = .ok (.iaload, 1) := by decide +kernel
theorem dX7_why_6 : decode cX7_why 6 = .ok (.ifCond .lt 5, 3) := by decide +kernel
theorem dX7_why_9 : decode cX7_why 9 = .ok (.iconst 1, 1) := by decide +kernel
theorem dX7_why_10 : decode cX7_why 10 = .ok (.ireturn, 1) := by decide +kernel
theorem dX7_why_11 : decode cX7_why 11 = .ok (.iconst 0, 1) := by decide +kernel
theorem dX7_why_12 : decode cX7_why 12 = .ok (.istore 4, 2) := by decide +kernel
theorem dX7_why_14 : decode cX7_why 14 = .ok (.iload 4, 2) := by decide +kernel
theorem dX7_why_16 : decode cX7_why 16 = .ok (.iconst 4, 1) := by decide +kernel
theorem dX7_why_17 : decode cX7_why 17 = .ok (.if_icmp .ge 25, 3) := by decide +kernel
theorem dX7_why_20 : decode cX7_why 20 = .ok (.aload_n 0, 1) := by decide +kernel
theorem dX7_why_21 : decode cX7_why 21 = .ok (.getfield 25, 3) := by decide +kernel
theorem dX7_why_24 : decode cX7_why 24 = .ok (.iload_n 3, 1) := by decide +kernel
theorem dX7_why_25 : decode cX7_why 25 = .ok (.iload 4, 2) := by decide +kernel
theorem dX7_why_27 : decode cX7_why 27 = .ok (.invokestatic 61, 3) := by decide +kernel
theorem dX7_why_30 : decode cX7_why 30 = .ok (.iaload, 1) := by decide +kernel
theorem dX7_why_31 : decode cX7_why 31 = .ok (.ifCond .lt 5, 3) := by decide +kernel
theorem dX7_why_34 : decode cX7_why 34 = .ok (.iconst 2, 1) := by decide +kernel
theorem dX7_why_35 : decode cX7_why 35 = .ok (.ireturn, 1) := by decide +kernel
theorem dX7_why_36 : decode cX7_why 36 = .ok (.iinc 4 1, 3) := by decide +kernel
theorem dX7_why_39 : decode cX7_why 39 = .ok (.goto (-25), 3) := by decide +kernel
theorem dX7_why_42 : decode cX7_why 42 = .ok (.aload_n 0, 1) := by decide +kernel
theorem dX7_why_43 : decode cX7_why 43 = .ok (.iload_n 1, 1) := by decide +kernel
theorem dX7_why_44 : decode cX7_why 44 = .ok (.iload_n 2, 1) := by decide +kernel
theorem dX7_why_45 : decode cX7_why 45 = .ok (.iload_n 3, 1) := by decide +kernel
theorem dX7_why_46 : decode cX7_why 46 = .ok (.invokevirtual 110, 3) := by decide +kernel
theorem dX7_why_49 : decode cX7_why 49 = .ok (.ifCond .ge 7, 3) := by decide +kernel
theorem dX7_why_52 : decode cX7_why 52 = .ok (.iconst 3, 1) := by decide +kernel
theorem dX7_why_53 : decode cX7_why 53 = .ok (.goto 20, 3) := by decide +kernel
theorem dX7_why_56 : decode cX7_why 56 = .ok (.aload_n 0, 1) := by decide +kernel
theorem dX7_why_57 : decode cX7_why 57 = .ok (.getfield 7, 3) := by decide +kernel
theorem dX7_why_60 : decode cX7_why 60 = .ok (.bipush 25, 2) := by decide +kernel
theorem dX7_why_62 : decode cX7_why 62 = .ok (.iaload, 1) := by decide +kernel
theorem dX7_why_63 : decode cX7_why 63 = .ok (.bipush 30, 2) := by decide +kernel
theorem dX7_why_65 : decode cX7_why 65 = .ok (.if_icmp .ne 7, 3) := by decide +kernel
theorem dX7_why_68 : decode cX7_why 68 = .ok (.iconst 4, 1) := by decide +kernel
theorem dX7_why_69 : decode cX7_why 69 = .ok (.goto 4, 3) := by decide +kernel
theorem dX7_why_72 : decode cX7_why 72 = .ok (.iconst 0, 1) := by decide +kernel
theorem dX7_why_73 : decode cX7_why 73 = .ok (.ireturn, 1) := by decide +kernel
theorem dX7_add_0 : decode cX7_add 0 = .ok (.aload_n 0, 1) := by decide +kernel
theorem dX7_add_1 : decode cX7_add 1 = .ok (.getfield 7, 3) := by decide +kernel
theorem dX7_add_4 : decode cX7_add 4 = .ok (.bipush 26, 2) := by decide +kernel
theorem dX7_add_6 : decode cX7_add 6 = .ok (.iconst 3, 1) := by decide +kernel
theorem dX7_add_7 : decode cX7_add 7 = .ok (.aload_n 0, 1) := by decide +kernel
theorem dX7_add_8 : decode cX7_add 8 = .ok (.getfield 7, 3) := by decide +kernel
theorem dX7_add_11 : decode cX7_add 11 = .ok (.bipush 25, 2) := by decide +kernel
theorem dX7_add_13 : decode cX7_add 13 = .ok (.iaload, 1) := by decide +kernel
theorem dX7_add_14 : decode cX7_add 14 = .ok (.imul, 1) := by decide +kernel
theorem dX7_add_15 : decode cX7_add 15 = .ok (.iadd, 1) := by decide +kernel
theorem dX7_add_16 : decode cX7_add 16 = .ok (.iload_n 1, 1) := by decide +kernel
theorem dX7_add_17 : decode cX7_add 17 = .ok (.iastore, 1) := by decide +kernel
theorem dX7_add_18 : decode cX7_add 18 = .ok (.aload_n 0, 1) := by decide +kernel
theorem dX7_add_19 : decode cX7_add 19 = .ok (.getfield 7, 3) := by decide +kernel
theorem dX7_add_22 : decode cX7_add 22 = .ok (.bipush 26, 2) := by decide +kernel
theorem dX7_add_24 : decode cX7_add 24 = .ok (.iconst 3, 1) := by decide +kernel
theorem dX7_add_25 : decode cX7_add 25 = .ok (.aload_n 0, 1) := by decide +kernel
theorem dX7_add_26 : decode cX7_add 26 = .ok (.getfield 7, 3) := by decide +kernel
theorem dX7_add_29 : decode cX7_add 29 = .ok (.bipush 25, 2) := by decide +kernel
theorem dX7_add_31 : decode cX7_add 31 = .ok (.iaload, 1) := by decide +kernel
theorem dX7_add_32 : decode cX7_add 32 = .ok (.imul, 1) := by decide +kernel
theorem dX7_add_33 : decode cX7_add 33 = .ok (.iadd, 1) := by decide +kernel
theorem dX7_add_34 : decode cX7_add 34 = .ok (.iconst 1, 1) := by decide +kernel
theorem dX7_add_35 : decode cX7_add 35 = .ok (.iadd, 1) := by decide +kernel
theorem dX7_add_36 : decode cX7_add 36 = .ok (.iload_n 2, 1) := by decide +kernel
theorem dX7_add_37 : decode cX7_add 37 = .ok (.iastore, 1) := by decide +kernel
theorem dX7_add_38 : decode cX7_add 38 = .ok (.aload_n 0, 1) := by decide +kernel
theorem dX7_add_39 : decode cX7_add 39 = .ok (.getfield 7, 3) := by decide +kernel
theorem dX7_add_42 : decode cX7_add 42 = .ok (.bipush 26, 2) := by decide +kernel
theorem dX7_add_44 : decode cX7_add 44 = .ok (.iconst 3, 1) := by decide +kernel
theorem dX7_add_45 : decode cX7_add 45 = .ok (.aload_n 0, 1) := by decide +kernel
theorem dX7_add_46 : decode cX7_add 46 = .ok (.getfield 7, 3) := by decide +kernel
theorem dX7_add_49 : decode cX7_add 49 = .ok (.bipush 25, 2) := by decide +kernel
theorem dX7_add_51 : decode cX7_add 51 = .ok (.iaload, 1) := by decide +kernel
theorem dX7_add_52 : decode cX7_add 52 = .ok (.imul, 1) := by decide +kernel
theorem dX7_add_53 : decode cX7_add 53 = .ok (.iadd, 1) := by decide +kernel
theorem dX7_add_54 : decode cX7_add 54 = .ok (.iconst 2, 1) := by decide +kernel
theorem dX7_add_55 : decode cX7_add 55 = .ok (.iadd, 1) := by decide +kernel
theorem dX7_add_56 : decode cX7_add 56 = .ok (.iload_n 3, 1) := by decide +kernel
theorem dX7_add_57 : decode cX7_add 57 = .ok (.iastore, 1) := by decide +kernel
theorem dX7_add_58 : decode cX7_add 58 = .ok (.aload_n 0, 1) := by decide +kernel
theorem dX7_add_59 : decode cX7_add 59 = .ok (.getfield 7, 3) := by decide +kernel
theorem dX7_add_62 : decode cX7_add 62 = .ok (.bipush 25, 2) := by decide +kernel
theorem dX7_add_64 : decode cX7_add 64 = .ok (.dup2, 1) := by decide +kernel
theorem dX7_add_65 : decode cX7_add 65 = .ok (.iaload, 1) := by decide +kernel
theorem dX7_add_66 : decode cX7_add 66 = .ok (.iconst 1, 1) := by decide +kernel
theorem dX7_add_67 : decode cX7_add 67 = .ok (.iadd, 1) := by decide +kernel
theorem dX7_add_68 : decode cX7_add 68 = .ok (.iastore, 1) := by decide +kernel
theorem dX7_add_69 : decode cX7_add 69 = .ok (.aload_n 0, 1) := by decide +kernel
theorem dX7_add_70 : decode cX7_add 70 = .ok (.invokevirtual 40, 3) := by decide +kernel
theorem dX7_add_73 : decode cX7_add 73 = .ok (.return_, 1) := by decide +kernel
theorem dX7_noLay_0 : decode cX7_noLay 0 = .ok (.iload_n 1, 1) := by decide +kernel
theorem dX7_noLay_1 : decode cX7_noLay 1 = .ok (.invokestatic 101, 3) := by decide +kernel
theorem dX7_noLay_4 : decode cX7_noLay 4 = .ok (.ifCond .eq 10, 3) := by decide +kernel
theorem dX7_noLay_7 : decode cX7_noLay 7 = .ok (.iload_n 3, 1) := by decide +kernel
theorem dX7_noLay_8 : decode cX7_noLay 8 = .ok (.invokestatic 113, 3) := by decide +kernel
theorem dX7_noLay_11 : decode cX7_noLay 11 = .ok (.ifCond .ne 5, 3) := by decide +kernel
theorem dX7_noLay_14 : decode cX7_noLay 14 = .ok (.iconst (-1), 1) := by decide +kernel
theorem dX7_noLay_15 : decode cX7_noLay 15 = .ok (.ireturn, 1) := by decide +kernel
theorem dX7_noLay_16 : decode cX7_noLay 16 = .ok (.iload_n 2, 1) := by decide +kernel
theorem dX7_noLay_17 : decode cX7_noLay 17 = .ok (.iconst 0, 1) := by decide +kernel
theorem dX7_noLay_18 : decode cX7_noLay 18 = .ok (.iconst 3, 1) := by decide +kernel
theorem dX7_noLay_19 : decode cX7_noLay 19 = .ok (.invokestatic 43, 3) := by decide +kernel
theorem dX7_noLay_22 : decode cX7_noLay 22 = .ok (.ifCond .ne 6, 3) := by decide +kernel
theorem dX7_noLay_25 : decode cX7_noLay 25 = .ok (.bipush (-2), 2) := by decide +kernel
theorem dX7_noLay_27 : decode cX7_noLay 27 = .ok (.ireturn, 1) := by decide +kernel
theorem dX7_noLay_28 : decode cX7_noLay 28 = .ok (.aload_n 0, 1) := by decide +kernel
theorem dX7_noLay_29 : decode cX7_noLay 29 = .ok (.iload_n 1, 1) := by decide +kernel
theorem dX7_noLay_30 : decode cX7_noLay 30 = .ok (.iload_n 2, 1) := by decide +kernel
theorem dX7_noLay_31 : decode cX7_noLay 31 = .ok (.iload_n 3, 1) := by decide +kernel
theorem dX7_noLay_32 : decode cX7_noLay 32 = .ok (.invokevirtual 116, 3) := by decide +kernel
theorem dX7_noLay_35 : decode cX7_noLay 35 = .ok (.istore 4, 2) := by decide +kernel
theorem dX7_noLay_37 : decode cX7_noLay 37 = .ok (.iload 4, 2) := by decide +kernel
theorem dX7_noLay_39 : decode cX7_noLay 39 = .ok (.iconst 4, 1) := by decide +kernel
theorem dX7_noLay_40 : decode cX7_noLay 40 = .ok (.if_icmp .ne 8, 3) := by decide +kernel
theorem dX7_noLay_43 : decode cX7_noLay 43 = .ok (.bipush (-3), 2) := by decide +kernel
theorem dX7_noLay_45 : decode cX7_noLay 45 = .ok (.goto 14, 3) := by decide +kernel
theorem dX7_noLay_48 : decode cX7_noLay 48 = .ok (.iload 4, 2) := by decide +kernel
theorem dX7_noLay_50 : decode cX7_noLay 50 = .ok (.ifCond .le 8, 3) := by decide +kernel
theorem dX7_noLay_53 : decode cX7_noLay 53 = .ok (.bipush (-4), 2) := by decide +kernel
theorem dX7_noLay_55 : decode cX7_noLay 55 = .ok (.goto 4, 3) := by decide +kernel
theorem dX7_noLay_58 : decode cX7_noLay 58 = .ok (.iconst 0, 1) := by decide +kernel
theorem dX7_noLay_59 : decode cX7_noLay 59 = .ok (.ireturn, 1) := by decide +kernel
theorem dX7_lay_0 : decode cX7_lay 0 = .ok (.aload_n 0, 1) := by decide +kernel
theorem dX7_lay_1 : decode cX7_lay 1 = .ok (.iload_n 1, 1) := by decide +kernel
theorem dX7_lay_2 : decode cX7_lay 2 = .ok (.iload_n 2, 1) := by decide +kernel
theorem dX7_lay_3 : decode cX7_lay 3 = .ok (.iload_n 3, 1) := by decide +kernel
theorem dX7_lay_4 : decode cX7_lay 4 = .ok (.invokevirtual 119, 3) := by decide +kernel
theorem dX7_lay_7 : decode cX7_lay 7 = .ok (.istore 4, 2) := by decide +kernel
theorem dX7_lay_9 : decode cX7_lay 9 = .ok (.iload 4, 2) := by decide +kernel
theorem dX7_lay_11 : decode cX7_lay 11 = .ok (.ifCond .ge 6, 3) := by decide +kernel
theorem dX7_lay_14 : decode cX7_lay 14 = .ok (.iload 4, 2) := by decide +kernel
theorem dX7_lay_16 : decode cX7_lay 16 = .ok (.ireturn, 1) := by decide +kernel
theorem dX7_lay_17 : decode cX7_lay 17 = .ok (.aload_n 0, 1) := by decide +kernel
theorem dX7_lay_18 : decode cX7_lay 18 = .ok (.aload_n 0, 1) := by decide +kernel
theorem dX7_lay_19 : decode cX7_lay 19 = .ok (.getfield 7, 3) := by decide +kernel
theorem dX7_lay_22 : decode cX7_lay 22 = .ok (.invokevirtual 90, 3) := by decide +kernel
theorem dX7_lay_25 : decode cX7_lay 25 = .ok (.aload_n 0, 1) := by decide +kernel
theorem dX7_lay_26 : decode cX7_lay 26 = .ok (.iload_n 1, 1) := by decide +kernel
theorem dX7_lay_27 : decode cX7_lay 27 = .ok (.iload_n 2, 1) := by decide +kernel
theorem dX7_lay_28 : decode cX7_lay 28 = .ok (.iload_n 3, 1) := by decide +kernel
theorem dX7_lay_29 : decode cX7_lay 29 = .ok (.invokevirtual 122, 3) := by decide +kernel
theorem dX7_lay_32 : decode cX7_lay 32 = .ok (.aload_n 0, 1) := by decide +kernel
theorem dX7_lay_33 : decode cX7_lay 33 = .ok (.getfield 7, 3) := by decide +kernel
theorem dX7_lay_36 : decode cX7_lay 36 = .ok (.bipush 25, 2) := by decide +kernel
theorem dX7_lay_38 : decode cX7_lay 38 = .ok (.iaload, 1) := by decide +kernel
theorem dX7_lay_39 : decode cX7_lay 39 = .ok (.iconst 1, 1) := by decide +kernel
theorem dX7_lay_40 : decode cX7_lay 40 = .ok (.isub, 1) := by decide +kernel
theorem dX7_lay_41 : decode cX7_lay 41 = .ok (.ireturn, 1) := by decide +kernel
theorem dX7_remove_0 : decode cX7_remove 0 = .ok (.aload_n 0, 1) := by decide +kernel
theorem dX7_remove_1 : decode cX7_remove 1 = .ok (.getfield 7, 3) := by decide +kernel
theorem dX7_remove_4 : decode cX7_remove 4 = .ok (.bipush 25, 2) := by decide +kernel
theorem dX7_remove_6 : decode cX7_remove 6 = .ok (.dup2, 1) := by decide +kernel
theorem dX7_remove_7 : decode cX7_remove 7 = .ok (.iaload, 1) := by decide +kernel
theorem dX7_remove_8 : decode cX7_remove 8 = .ok (.iconst 1, 1) := by decide +kernel
theorem dX7_remove_9 : decode cX7_remove 9 = .ok (.isub, 1) := by decide +kernel
theorem dX7_remove_10 : decode cX7_remove 10 = .ok (.iastore, 1) := by decide +kernel
theorem dX7_remove_11 : decode cX7_remove 11 = .ok (.bipush 26, 2) := by decide +kernel
theorem dX7_remove_13 : decode cX7_remove 13 = .ok (.iconst 3, 1) := by decide +kernel
theorem dX7_remove_14 : decode cX7_remove 14 = .ok (.iload_n 1, 1) := by decide +kernel
theorem dX7_remove_15 : decode cX7_remove 15 = .ok (.imul, 1) := by decide +kernel
theorem dX7_remove_16 : decode cX7_remove 16 = .ok (.iadd, 1) := by decide +kernel
theorem dX7_remove_17 : decode cX7_remove 17 = .ok (.istore_n 2, 1) := by decide +kernel
theorem dX7_remove_18 : decode cX7_remove 18 = .ok (.iload_n 2, 1) := by decide +kernel
theorem dX7_remove_19 : decode cX7_remove 19 = .ok (.bipush 26, 2) := by decide +kernel
theorem dX7_remove_21 : decode cX7_remove 21 = .ok (.iconst 3, 1) := by decide +kernel
theorem dX7_remove_22 : decode cX7_remove 22 = .ok (.aload_n 0, 1) := by decide +kernel
theorem dX7_remove_23 : decode cX7_remove 23 = .ok (.getfield 7, 3) := by decide +kernel
theorem dX7_remove_26 : decode cX7_remove 26 = .ok (.bipush 25, 2) := by decide +kernel
theorem dX7_remove_28 : decode cX7_remove 28 = .ok (.iaload, 1) := by decide +kernel
theorem dX7_remove_29 : decode cX7_remove 29 = .ok (.imul, 1) := by decide +kernel
theorem dX7_remove_30 : decode cX7_remove 30 = .ok (.iadd, 1) := by decide +kernel
theorem dX7_remove_31 : decode cX7_remove 31 = .ok (.if_icmp .ge 23, 3) := by decide +kernel
theorem dX7_remove_34 : decode cX7_remove 34 = .ok (.aload_n 0, 1) := by decide +kernel
theorem dX7_remove_35 : decode cX7_remove 35 = .ok (.getfield 7, 3) := by decide +kernel
theorem dX7_remove_38 : decode cX7_remove 38 = .ok (.iload_n 2, 1) := by decide +kernel
theorem dX7_remove_39 : decode cX7_remove 39 = .ok (.aload_n 0, 1) := by decide +kernel
theorem dX7_remove_40 : decode cX7_remove 40 = .ok (.getfield 7, 3) := by decide +kernel
theorem dX7_remove_43 : decode cX7_remove 43 = .ok (.iload_n 2, 1) := by decide +kernel
theorem dX7_remove_44 : decode cX7_remove 44 = .ok (.iconst 3, 1) := by decide +kernel
theorem dX7_remove_45 : decode cX7_remove 45 = .ok (.iadd, 1) := by decide +kernel
theorem dX7_remove_46 : decode cX7_remove 46 = .ok (.iaload, 1) := by decide +kernel
theorem dX7_remove_47 : decode cX7_remove 47 = .ok (.iastore, 1) := by decide +kernel
theorem dX7_remove_48 : decode cX7_remove 48 = .ok (.iinc 2 1, 3) := by decide +kernel
theorem dX7_remove_51 : decode cX7_remove 51 = .ok (.goto (-33), 3) := by decide +kernel
theorem dX7_remove_54 : decode cX7_remove 54 = .ok (.aload_n 0, 1) := by decide +kernel
theorem dX7_remove_55 : decode cX7_remove 55 = .ok (.invokevirtual 40, 3) := by decide +kernel
theorem dX7_remove_58 : decode cX7_remove 58 = .ok (.return_, 1) := by decide +kernel
theorem dX7_take_0 : decode cX7_take 0 = .ok (.aload_n 0, 1) := by decide +kernel
theorem dX7_take_1 : decode cX7_take 1 = .ok (.iload_n 1, 1) := by decide +kernel
theorem dX7_take_2 : decode cX7_take 2 = .ok (.invokevirtual 126, 3) := by decide +kernel
theorem dX7_take_5 : decode cX7_take 5 = .ok (.ifCond .ne 5, 3) := by decide +kernel
theorem dX7_take_8 : decode cX7_take 8 = .ok (.iconst (-1), 1) := by decide +kernel
theorem dX7_take_9 : decode cX7_take 9 = .ok (.ireturn, 1) := by decide +kernel
theorem dX7_take_10 : decode cX7_take 10 = .ok (.aload_n 0, 1) := by decide +kernel
theorem dX7_take_11 : decode cX7_take 11 = .ok (.aload_n 0, 1) := by decide +kernel
theorem dX7_take_12 : decode cX7_take 12 = .ok (.getfield 7, 3) := by decide +kernel
theorem dX7_take_15 : decode cX7_take 15 = .ok (.invokevirtual 90, 3) := by decide +kernel
theorem dX7_take_18 : decode cX7_take 18 = .ok (.aload_n 0, 1) := by decide +kernel
theorem dX7_take_19 : decode cX7_take 19 = .ok (.iload_n 1, 1) := by decide +kernel
theorem dX7_take_20 : decode cX7_take 20 = .ok (.invokevirtual 129, 3) := by decide +kernel
theorem dX7_take_23 : decode cX7_take 23 = .ok (.aload_n 0, 1) := by decide +kernel
theorem dX7_take_24 : decode cX7_take 24 = .ok (.getfield 7, 3) := by decide +kernel
theorem dX7_take_27 : decode cX7_take 27 = .ok (.bipush 25, 2) := by decide +kernel
theorem dX7_take_29 : decode cX7_take 29 = .ok (.iaload, 1) := by decide +kernel
theorem dX7_take_30 : decode cX7_take 30 = .ok (.ireturn, 1) := by decide +kernel
theorem dX7_turn_0 : decode cX7_turn 0 = .ok (.aload_n 0, 1) := by decide +kernel
theorem dX7_turn_1 : decode cX7_turn 1 = .ok (.iload_n 1, 1) := by decide +kernel
theorem dX7_turn_2 : decode cX7_turn 2 = .ok (.invokevirtual 126, 3) := by decide +kernel
theorem dX7_turn_5 : decode cX7_turn 5 = .ok (.ifCond .ne 5, 3) := by decide +kernel
theorem dX7_turn_8 : decode cX7_turn 8 = .ok (.iconst (-1), 1) := by decide +kernel
theorem dX7_turn_9 : decode cX7_turn 9 = .ok (.ireturn, 1) := by decide +kernel
theorem dX7_turn_10 : decode cX7_turn 10 = .ok (.iload_n 2, 1) := by decide +kernel
theorem dX7_turn_11 : decode cX7_turn 11 = .ok (.iconst 1, 1) := by decide +kernel
theorem dX7_turn_12 : decode cX7_turn 12 = .ok (.iconst 3, 1) := by decide +kernel
theorem dX7_turn_13 : decode cX7_turn 13 = .ok (.invokestatic 43, 3) := by decide +kernel
theorem dX7_turn_16 : decode cX7_turn 16 = .ok (.ifCond .ne 6, 3) := by decide +kernel
theorem dX7_turn_19 : decode cX7_turn 19 = .ok (.bipush (-2), 2) := by decide +kernel
theorem dX7_turn_21 : decode cX7_turn 21 = .ok (.ireturn, 1) := by decide +kernel
theorem dX7_turn_22 : decode cX7_turn 22 = .ok (.aload_n 0, 1) := by decide +kernel
theorem dX7_turn_23 : decode cX7_turn 23 = .ok (.invokevirtual 104, 3) := by decide +kernel
theorem dX7_turn_26 : decode cX7_turn 26 = .ok (.aload_n 0, 1) := by decide +kernel
theorem dX7_turn_27 : decode cX7_turn 27 = .ok (.getfield 7, 3) := by decide +kernel
theorem dX7_turn_30 : decode cX7_turn 30 = .ok (.bipush 26, 2) := by decide +kernel
theorem dX7_turn_32 : decode cX7_turn 32 = .ok (.iconst 3, 1) := by decide +kernel
theorem dX7_turn_33 : decode cX7_turn 33 = .ok (.iload_n 1, 1) := by decide +kernel
theorem dX7_turn_34 : decode cX7_turn 34 = .ok (.imul, 1) := by decide +kernel
theorem dX7_turn_35 : decode cX7_turn 35 = .ok (.iadd, 1) := by decide +kernel
theorem dX7_turn_36 : decode cX7_turn 36 = .ok (.iconst 1, 1) := by decide +kernel
theorem dX7_turn_37 : decode cX7_turn 37 = .ok (.iadd, 1) := by decide +kernel
theorem dX7_turn_38 : decode cX7_turn 38 = .ok (.aload_n 0, 1) := by decide +kernel
theorem dX7_turn_39 : decode cX7_turn 39 = .ok (.iload_n 1, 1) := by decide +kernel
theorem dX7_turn_40 : decode cX7_turn 40 = .ok (.invokevirtual 51, 3) := by decide +kernel
theorem dX7_turn_43 : decode cX7_turn 43 = .ok (.iload_n 2, 1) := by decide +kernel
theorem dX7_turn_44 : decode cX7_turn 44 = .ok (.iadd, 1) := by decide +kernel
theorem dX7_turn_45 : decode cX7_turn 45 = .ok (.iconst 4, 1) := by decide +kernel
theorem dX7_turn_46 : decode cX7_turn 46 = .ok (.irem, 1) := by decide +kernel
theorem dX7_turn_47 : decode cX7_turn 47 = .ok (.iastore, 1) := by decide +kernel
theorem dX7_turn_48 : decode cX7_turn 48 = .ok (.aload_n 0, 1) := by decide +kernel
theorem dX7_turn_49 : decode cX7_turn 49 = .ok (.invokevirtual 107, 3) := by decide +kernel
theorem dX7_turn_52 : decode cX7_turn 52 = .ok (.ifCond .eq 11, 3) := by decide +kernel
theorem dX7_turn_55 : decode cX7_turn 55 = .ok (.aload_n 0, 1) := by decide +kernel
theorem dX7_turn_56 : decode cX7_turn 56 = .ok (.iload_n 1, 1) := by decide +kernel
theorem dX7_turn_57 : decode cX7_turn 57 = .ok (.invokevirtual 51, 3) := by decide +kernel
theorem dX7_turn_60 : decode cX7_turn 60 = .ok (.goto 5, 3) := by decide +kernel
theorem dX7_turn_63 : decode cX7_turn 63 = .ok (.bipush (-4), 2) := by decide +kernel
theorem dX7_turn_65 : decode cX7_turn 65 = .ok (.ireturn, 1) := by decide +kernel
theorem dX7_isFreeFor_0 : decode cX7_isFreeFor 0 = .ok (.aload_n 0, 1) := by decide +kernel
theorem dX7_isFreeFor_1 : decode cX7_isFreeFor 1 = .ok (.getfield 25, 3) := by decide +kernel
theorem dX7_isFreeFor_4 : decode cX7_isFreeFor 4 = .ok (.iload_n 2, 1) := by decide +kernel
theorem dX7_isFreeFor_5 : decode cX7_isFreeFor 5 = .ok (.iaload, 1) := by decide +kernel
theorem dX7_isFreeFor_6 : decode cX7_isFreeFor 6 = .ok (.ifCond .lt 13, 3) := by decide +kernel
theorem dX7_isFreeFor_9 : decode cX7_isFreeFor 9 = .ok (.aload_n 0, 1) := by decide +kernel
theorem dX7_isFreeFor_10 : decode cX7_isFreeFor 10 = .ok (.getfield 25, 3) := by decide +kernel
theorem dX7_isFreeFor_13 : decode cX7_isFreeFor 13 = .ok (.iload_n 2, 1) := by decide +kernel
theorem dX7_isFreeFor_14 : decode cX7_isFreeFor 14 = .ok (.iaload, 1) := by decide +kernel
theorem dX7_isFreeFor_15 : decode cX7_isFreeFor 15 = .ok (.iload_n 1, 1) := by decide +kernel
theorem dX7_isFreeFor_16 : decode cX7_isFreeFor 16 = .ok (.if_icmp .ne 7, 3) := by decide +kernel
theorem dX7_isFreeFor_19 : decode cX7_isFreeFor 19 = .ok (.iconst 1, 1) := by decide +kernel
theorem dX7_isFreeFor_20 : decode cX7_isFreeFor 20 = .ok (.goto 4, 3) := by decide +kernel
theorem dX7_isFreeFor_23 : decode cX7_isFreeFor 23 = .ok (.iconst 0, 1) := by decide +kernel
theorem dX7_isFreeFor_24 : decode cX7_isFreeFor 24 = .ok (.istore_n 3, 1) := by decide +kernel
theorem dX7_isFreeFor_25 : decode cX7_isFreeFor 25 = .ok (.iconst 0, 1) := by decide +kernel
theorem dX7_isFreeFor_26 : decode cX7_isFreeFor 26 = .ok (.istore 4, 2) := by decide +kernel
theorem dX7_isFreeFor_28 : decode cX7_isFreeFor 28 = .ok (.iload 4, 2) := by decide +kernel
theorem dX7_isFreeFor_30 : decode cX7_isFreeFor 30 = .ok (.iconst 4, 1) := by decide +kernel
theorem dX7_isFreeFor_31 : decode cX7_isFreeFor 31 = .ok (.if_icmp .ge 43, 3) := by decide +kernel
theorem dX7_isFreeFor_34 : decode cX7_isFreeFor 34 = .ok (.aload_n 0, 1) := by decide +kernel
theorem dX7_isFreeFor_35 : decode cX7_isFreeFor 35 = .ok (.getfield 25, 3) := by decide +kernel
theorem dX7_isFreeFor_38 : decode cX7_isFreeFor 38 = .ok (.iload_n 2, 1) := by decide +kernel
theorem dX7_isFreeFor_39 : decode cX7_isFreeFor 39 = .ok (.iload 4, 2) := by decide +kernel
theorem dX7_isFreeFor_41 : decode cX7_isFreeFor 41 = .ok (.invokestatic 61, 3) := by decide +kernel
theorem dX7_isFreeFor_44 : decode cX7_isFreeFor 44 = .ok (.iaload, 1) := by decide +kernel
theorem dX7_isFreeFor_45 : decode cX7_isFreeFor 45 = .ok (.istore 5, 2) := by decide +kernel
theorem dX7_isFreeFor_47 : decode cX7_isFreeFor 47 = .ok (.iload_n 3, 1) := by decide +kernel
theorem dX7_isFreeFor_48 : decode cX7_isFreeFor 48 = .ok (.ifCond .eq 18, 3) := by decide +kernel
theorem dX7_isFreeFor_51 : decode cX7_isFreeFor 51 = .ok (.iload 5, 2) := by decide +kernel
theorem dX7_isFreeFor_53 : decode cX7_isFreeFor 53 = .ok (.ifCond .lt 9, 3) := by decide +kernel
theorem dX7_isFreeFor_56 : decode cX7_isFreeFor 56 = .ok (.iload 5, 2) := by decide +kernel
theorem dX7_isFreeFor_58 : decode cX7_isFreeFor 58 = .ok (.iload_n 1, 1) := by decide +kernel
theorem dX7_isFreeFor_59 : decode cX7_isFreeFor 59 = .ok (.if_icmp .ne 7, 3) := by decide +kernel
theorem dX7_isFreeFor_62 : decode cX7_isFreeFor 62 = .ok (.iconst 1, 1) := by decide +kernel
theorem dX7_isFreeFor_63 : decode cX7_isFreeFor 63 = .ok (.goto 4, 3) := by decide +kernel
theorem dX7_isFreeFor_66 : decode cX7_isFreeFor 66 = .ok (.iconst 0, 1) := by decide +kernel
theorem dX7_isFreeFor_67 : decode cX7_isFreeFor 67 = .ok (.istore_n 3, 1) := by decide +kernel
theorem dX7_isFreeFor_68 : decode cX7_isFreeFor 68 = .ok (.iinc 4 1, 3) := by decide +kernel
theorem dX7_isFreeFor_71 : decode cX7_isFreeFor 71 = .ok (.goto (-43), 3) := by decide +kernel
theorem dX7_isFreeFor_74 : decode cX7_isFreeFor 74 = .ok (.iload_n 3, 1) := by decide +kernel
theorem dX7_isFreeFor_75 : decode cX7_isFreeFor 75 = .ok (.ireturn, 1) := by decide +kernel
theorem dX7_move_0 : decode cX7_move 0 = .ok (.aload_n 0, 1) := by decide +kernel
theorem dX7_move_1 : decode cX7_move 1 = .ok (.iload_n 1, 1) := by decide +kernel
theorem dX7_move_2 : decode cX7_move 2 = .ok (.invokevirtual 126, 3) := by decide +kernel
theorem dX7_move_5 : decode cX7_move 5 = .ok (.ifCond .eq 10, 3) := by decide +kernel
theorem dX7_move_8 : decode cX7_move 8 = .ok (.iload_n 2, 1) := by decide +kernel
theorem dX7_move_9 : decode cX7_move 9 = .ok (.invokestatic 113, 3) := by decide +kernel
theorem dX7_move_12 : decode cX7_move 12 = .ok (.ifCond .ne 5, 3) := by decide +kernel
theorem dX7_move_15 : decode cX7_move 15 = .ok (.iconst (-1), 1) := by decide +kernel
theorem dX7_move_16 : decode cX7_move 16 = .ok (.ireturn, 1) := by decide +kernel
theorem dX7_move_17 : decode cX7_move 17 = .ok (.aload_n 0, 1) := by decide +kernel
theorem dX7_move_18 : decode cX7_move 18 = .ok (.iload_n 1, 1) := by decide +kernel
theorem dX7_move_19 : decode cX7_move 19 = .ok (.invokevirtual 58, 3) := by decide +kernel
theorem dX7_move_22 : decode cX7_move 22 = .ok (.istore_n 3, 1) := by decide +kernel
theorem dX7_move_23 : decode cX7_move 23 = .ok (.iload_n 3, 1) := by decide +kernel
theorem dX7_move_24 : decode cX7_move 24 = .ok (.iload_n 2, 1) := by decide +kernel
theorem dX7_move_25 : decode cX7_move 25 = .ok (.if_icmp .ne 6, 3) := by decide +kernel
theorem dX7_move_28 : decode cX7_move 28 = .ok (.bipush (-5), 2) := by decide +kernel
theorem dX7_move_30 : decode cX7_move 30 = .ok (.ireturn, 1) := by decide +kernel
theorem dX7_move_31 : decode cX7_move 31 = .ok (.aload_n 0, 1) := by decide +kernel
theorem dX7_move_32 : decode cX7_move 32 = .ok (.iload_n 1, 1) := by decide +kernel
theorem dX7_move_33 : decode cX7_move 33 = .ok (.iload_n 2, 1) := by decide +kernel
theorem dX7_move_34 : decode cX7_move 34 = .ok (.invokevirtual 133, 3) := by decide +kernel
theorem dX7_move_37 : decode cX7_move 37 = .ok (.ifCond .ne 6, 3) := by decide +kernel
theorem dX7_move_40 : decode cX7_move 40 = .ok (.bipush (-4), 2) := by decide +kernel
theorem dX7_move_42 : decode cX7_move 42 = .ok (.ireturn, 1) := by decide +kernel
theorem dX7_move_43 : decode cX7_move 43 = .ok (.aload_n 0, 1) := by decide +kernel
theorem dX7_move_44 : decode cX7_move 44 = .ok (.invokevirtual 104, 3) := by decide +kernel
theorem dX7_move_47 : decode cX7_move 47 = .ok (.aload_n 0, 1) := by decide +kernel
theorem dX7_move_48 : decode cX7_move 48 = .ok (.getfield 7, 3) := by decide +kernel
theorem dX7_move_51 : decode cX7_move 51 = .ok (.bipush 26, 2) := by decide +kernel
theorem dX7_move_53 : decode cX7_move 53 = .ok (.iconst 3, 1) := by decide +kernel
theorem dX7_move_54 : decode cX7_move 54 = .ok (.iload_n 1, 1) := by decide +kernel
theorem dX7_move_55 : decode cX7_move 55 = .ok (.imul, 1) := by decide +kernel
theorem dX7_move_56 : decode cX7_move 56 = .ok (.iadd, 1) := by decide +kernel
theorem dX7_move_57 : decode cX7_move 57 = .ok (.iconst 2, 1) := by decide +kernel
theorem dX7_move_58 : decode cX7_move 58 = .ok (.iadd, 1) := by decide +kernel
theorem dX7_move_59 : decode cX7_move 59 = .ok (.iload_n 2, 1) := by decide +kernel
theorem dX7_move_60 : decode cX7_move 60 = .ok (.iastore, 1) := by decide +kernel
theorem dX7_move_61 : decode cX7_move 61 = .ok (.aload_n 0, 1) := by decide +kernel
theorem dX7_move_62 : decode cX7_move 62 = .ok (.invokevirtual 107, 3) := by decide +kernel
theorem dX7_move_65 : decode cX7_move 65 = .ok (.ifCond .eq 7, 3) := by decide +kernel
theorem dX7_move_68 : decode cX7_move 68 = .ok (.iload_n 3, 1) := by decide +kernel
theorem dX7_move_69 : decode cX7_move 69 = .ok (.goto 5, 3) := by decide +kernel
theorem dX7_move_72 : decode cX7_move 72 = .ok (.bipush (-4), 2) := by decide +kernel
theorem dX7_move_74 : decode cX7_move 74 = .ok (.ireturn, 1) := by decide +kernel
theorem dX7_shifted_0 : decode cX7_shifted 0 = .ok (.bipush 15, 2) := by decide +kernel
theorem dX7_shifted_2 : decode cX7_shifted 2 = .ok (.iload_n 0, 1) := by decide +kernel
theorem dX7_shifted_3 : decode cX7_shifted 3 = .ok (.bipush 15, 2) := by decide +kernel
theorem dX7_shifted_5 : decode cX7_shifted 5 = .ok (.idiv, 1) := by decide +kernel
theorem dX7_shifted_6 : decode cX7_shifted 6 = .ok (.iload_n 2, 1) := by decide +kernel
theorem dX7_shifted_7 : decode cX7_shifted 7 = .ok (.iadd, 1) := by decide +kernel
theorem dX7_shifted_8 : decode cX7_shifted 8 = .ok (.bipush 10, 2) := by decide +kernel
theorem dX7_shifted_10 : decode cX7_shifted 10 = .ok (.irem, 1) := by decide +kernel
theorem dX7_shifted_11 : decode cX7_shifted 11 = .ok (.imul, 1) := by decide +kernel
theorem dX7_shifted_12 : decode cX7_shifted 12 = .ok (.iload_n 0, 1) := by decide +kernel
theorem dX7_shifted_13 : decode cX7_shifted 13 = .ok (.bipush 15, 2) := by decide +kernel
theorem dX7_shifted_15 : decode cX7_shifted 15 = .ok (.irem, 1) := by decide +kernel
theorem dX7_shifted_16 : decode cX7_shifted 16 = .ok (.iload_n 1, 1) := by decide +kernel
theorem dX7_shifted_17 : decode cX7_shifted 17 = .ok (.iadd, 1) := by decide +kernel
theorem dX7_shifted_18 : decode cX7_shifted 18 = .ok (.bipush 15, 2) := by decide +kernel
theorem dX7_shifted_20 : decode cX7_shifted 20 = .ok (.irem, 1) := by decide +kernel
theorem dX7_shifted_21 : decode cX7_shifted 21 = .ok (.iadd, 1) := by decide +kernel
theorem dX7_shifted_22 : decode cX7_shifted 22 = .ok (.ireturn, 1) := by decide +kernel
theorem dX7_shift_0 : decode cX7_shift 0 = .ok (.iload_n 1, 1) := by decide +kernel
theorem dX7_shift_1 : decode cX7_shift 1 = .ok (.iconst 0, 1) := by decide +kernel
theorem dX7_shift_2 : decode cX7_shift 2 = .ok (.bipush 14, 2) := by decide +kernel
theorem dX7_shift_4 : decode cX7_shift 4 = .ok (.invokestatic 43, 3) := by decide +kernel
theorem dX7_shift_7 : decode cX7_shift 7 = .ok (.ifCond .eq 13, 3) := by decide +kernel
theorem dX7_shift_10 : decode cX7_shift 10 = .ok (.iload_n 2, 1) := by decide +kernel
theorem dX7_shift_11 : decode cX7_shift 11 = .ok (.iconst 0, 1) := by decide +kernel
theorem dX7_shift_12 : decode cX7_shift 12 = .ok (.bipush 9, 2) := by decide +kernel
theorem dX7_shift_14 : decode cX7_shift 14 = .ok (.invokestatic 43, 3) := by decide +kernel
theorem dX7_shift_17 : decode cX7_shift 17 = .ok (.ifCond .ne 6, 3) := by decide +kernel
theorem dX7_shift_20 : decode cX7_shift 20 = .ok (.bipush (-2), 2) := by decide +kernel
theorem dX7_shift_22 : decode cX7_shift 22 = .ok (.ireturn, 1) := by decide +kernel
theorem dX7_shift_23 : decode cX7_shift 23 = .ok (.aload_n 0, 1) := by decide +kernel
theorem dX7_shift_24 : decode cX7_shift 24 = .ok (.aload_n 0, 1) := by decide +kernel
theorem dX7_shift_25 : decode cX7_shift 25 = .ok (.getfield 7, 3) := by decide +kernel
theorem dX7_shift_28 : decode cX7_shift 28 = .ok (.invokevirtual 90, 3) := by decide +kernel
theorem dX7_shift_31 : decode cX7_shift 31 = .ok (.iconst 0, 1) := by decide +kernel
theorem dX7_shift_32 : decode cX7_shift 32 = .ok (.istore_n 3, 1) := by decide +kernel
theorem dX7_shift_33 : decode cX7_shift 33 = .ok (.iload_n 3, 1) := by decide +kernel
theorem dX7_shift_34 : decode cX7_shift 34 = .ok (.aload_n 0, 1) := by decide +kernel
theorem dX7_shift_35 : decode cX7_shift 35 = .ok (.getfield 7, 3) := by decide +kernel
theorem dX7_shift_38 : decode cX7_shift 38 = .ok (.bipush 25, 2) := by decide +kernel
theorem dX7_shift_40 : decode cX7_shift 40 = .ok (.iaload, 1) := by decide +kernel
theorem dX7_shift_41 : decode cX7_shift 41 = .ok (.if_icmp .ge 32, 3) := by decide +kernel
theorem dX7_shift_44 : decode cX7_shift 44 = .ok (.aload_n 0, 1) := by decide +kernel
theorem dX7_shift_45 : decode cX7_shift 45 = .ok (.getfield 7, 3) := by decide +kernel
theorem dX7_shift_48 : decode cX7_shift 48 = .ok (.bipush 26, 2) := by decide +kernel
theorem dX7_shift_50 : decode cX7_shift 50 = .ok (.iconst 3, 1) := by decide +kernel
theorem dX7_shift_51 : decode cX7_shift 51 = .ok (.iload_n 3, 1) := by decide +kernel
theorem dX7_shift_52 : decode cX7_shift 52 = .ok (.imul, 1) := by decide +kernel
theorem dX7_shift_53 : decode cX7_shift 53 = .ok (.iadd, 1) := by decide +kernel
theorem dX7_shift_54 : decode cX7_shift 54 = .ok (.iconst 2, 1) := by decide +kernel
theorem dX7_shift_55 : decode cX7_shift 55 = .ok (.iadd, 1) := by decide +kernel
theorem dX7_shift_56 : decode cX7_shift 56 = .ok (.aload_n 0, 1) := by decide +kernel
theorem dX7_shift_57 : decode cX7_shift 57 = .ok (.iload_n 3, 1) := by decide +kernel
theorem dX7_shift_58 : decode cX7_shift 58 = .ok (.invokevirtual 58, 3) := by decide +kernel
theorem dX7_shift_61 : decode cX7_shift 61 = .ok (.iload_n 1, 1) := by decide +kernel
theorem dX7_shift_62 : decode cX7_shift 62 = .ok (.iload_n 2, 1) := by decide +kernel
theorem dX7_shift_63 : decode cX7_shift 63 = .ok (.invokestatic 136, 3) := by decide +kernel
theorem dX7_shift_66 : decode cX7_shift 66 = .ok (.iastore, 1) := by decide +kernel
theorem dX7_shift_67 : decode cX7_shift 67 = .ok (.iinc 3 1, 3) := by decide +kernel
theorem dX7_shift_70 : decode cX7_shift 70 = .ok (.goto (-37), 3) := by decide +kernel
theorem dX7_shift_73 : decode cX7_shift 73 = .ok (.aload_n 0, 1) := by decide +kernel
theorem dX7_shift_74 : decode cX7_shift 74 = .ok (.invokevirtual 40, 3) := by decide +kernel
theorem dX7_shift_77 : decode cX7_shift 77 = .ok (.aload_n 0, 1) := by decide +kernel
theorem dX7_shift_78 : decode cX7_shift 78 = .ok (.getfield 7, 3) := by decide +kernel
theorem dX7_shift_81 : decode cX7_shift 81 = .ok (.bipush 25, 2) := by decide +kernel
theorem dX7_shift_83 : decode cX7_shift 83 = .ok (.iaload, 1) := by decide +kernel
theorem dX7_shift_84 : decode cX7_shift 84 = .ok (.ireturn, 1) := by decide +kernel
theorem dX7_fill_0 : decode cX7_fill 0 = .ok (.iload_n 1, 1) := by decide +kernel
theorem dX7_fill_1 : decode cX7_fill 1 = .ok (.invokestatic 101, 3) := by decide +kernel
theorem dX7_fill_4 : decode cX7_fill 4 = .ok (.ifCond .ne 5, 3) := by decide +kernel
theorem dX7_fill_7 : decode cX7_fill 7 = .ok (.iconst (-1), 1) := by decide +kernel
theorem dX7_fill_8 : decode cX7_fill 8 = .ok (.ireturn, 1) := by decide +kernel
theorem dX7_fill_9 : decode cX7_fill 9 = .ok (.aload_n 0, 1) := by decide +kernel
theorem dX7_fill_10 : decode cX7_fill 10 = .ok (.invokevirtual 104, 3) := by decide +kernel
theorem dX7_fill_13 : decode cX7_fill 13 = .ok (.iconst 0, 1) := by decide +kernel
theorem dX7_fill_14 : decode cX7_fill 14 = .ok (.istore_n 2, 1) := by decide +kernel
theorem dX7_fill_15 : decode cX7_fill 15 = .ok (.iconst 0, 1) := by decide +kernel
theorem dX7_fill_16 : decode cX7_fill 16 = .ok (.istore_n 3, 1) := by decide +kernel
theorem dX7_fill_17 : decode cX7_fill 17 = .ok (.iload_n 3, 1) := by decide +kernel
theorem dX7_fill_18 : decode cX7_fill 18 = .ok (.sipush 150, 3) := by decide +kernel
theorem dX7_fill_21 : decode cX7_fill 21 = .ok (.if_icmp .ge 52, 3) := by decide +kernel
theorem dX7_fill_24 : decode cX7_fill 24 = .ok (.iconst 0, 1) := by decide +kernel
theorem dX7_fill_25 : decode cX7_fill 25 = .ok (.istore 4, 2) := by decide +kernel
theorem dX7_fill_27 : decode cX7_fill 27 = .ok (.iload 4, 2) := by decide +kernel
theorem dX7_fill_29 : decode cX7_fill 29 = .ok (.iconst 4, 1) := by decide +kernel
theorem dX7_fill_30 : decode cX7_fill 30 = .ok (.if_icmp .ge 20, 3) := by decide +kernel
theorem dX7_fill_33 : decode cX7_fill 33 = .ok (.aload_n 0, 1) := by decide +kernel
theorem dX7_fill_34 : decode cX7_fill 34 = .ok (.iload_n 1, 1) := by decide +kernel
theorem dX7_fill_35 : decode cX7_fill 35 = .ok (.iload 4, 2) := by decide +kernel
theorem dX7_fill_37 : decode cX7_fill 37 = .ok (.iload_n 3, 1) := by decide +kernel
theorem dX7_fill_38 : decode cX7_fill 38 = .ok (.invokevirtual 116, 3) := by decide +kernel
theorem dX7_fill_41 : decode cX7_fill 41 = .ok (.ifCond .le 9, 3) := by decide +kernel
theorem dX7_fill_44 : decode cX7_fill 44 = .ok (.iinc 4 1, 3) := by decide +kernel
theorem dX7_fill_47 : decode cX7_fill 47 = .ok (.goto (-20), 3) := by decide +kernel
theorem dX7_fill_50 : decode cX7_fill 50 = .ok (.iload 4, 2) := by decide +kernel
theorem dX7_fill_52 : decode cX7_fill 52 = .ok (.iconst 4, 1) := by decide +kernel
theorem dX7_fill_53 : decode cX7_fill 53 = .ok (.if_icmp .ge 14, 3) := by decide +kernel
theorem dX7_fill_56 : decode cX7_fill 56 = .ok (.aload_n 0, 1) := by decide +kernel
theorem dX7_fill_57 : decode cX7_fill 57 = .ok (.iload_n 1, 1) := by decide +kernel
theorem dX7_fill_58 : decode cX7_fill 58 = .ok (.iload 4, 2) := by decide +kernel
theorem dX7_fill_60 : decode cX7_fill 60 = .ok (.iload_n 3, 1) := by decide +kernel
theorem dX7_fill_61 : decode cX7_fill 61 = .ok (.invokevirtual 122, 3) := by decide +kernel
theorem dX7_fill_64 : decode cX7_fill 64 = .ok (.iinc 2 1, 3) := by decide +kernel
theorem dX7_fill_67 : decode cX7_fill 67 = .ok (.iinc 3 1, 3) := by decide +kernel
theorem dX7_fill_70 : decode cX7_fill 70 = .ok (.goto (-53), 3) := by decide +kernel
theorem dX7_fill_73 : decode cX7_fill 73 = .ok (.iload_n 2, 1) := by decide +kernel
theorem dX7_fill_74 : decode cX7_fill 74 = .ok (.ifCond .ne 6, 3) := by decide +kernel
theorem dX7_fill_77 : decode cX7_fill 77 = .ok (.bipush (-5), 2) := by decide +kernel
theorem dX7_fill_79 : decode cX7_fill 79 = .ok (.ireturn, 1) := by decide +kernel
theorem dX7_fill_80 : decode cX7_fill 80 = .ok (.aload_n 0, 1) := by decide +kernel
theorem dX7_fill_81 : decode cX7_fill 81 = .ok (.aload_n 0, 1) := by decide +kernel
theorem dX7_fill_82 : decode cX7_fill 82 = .ok (.getfield 13, 3) := by decide +kernel
theorem dX7_fill_85 : decode cX7_fill 85 = .ok (.invokevirtual 90, 3) := by decide +kernel
theorem dX7_fill_88 : decode cX7_fill 88 = .ok (.iload_n 2, 1) := by decide +kernel
theorem dX7_fill_89 : decode cX7_fill 89 = .ok (.ireturn, 1) := by decide +kernel
theorem dX7_type_0 : decode cX7_type 0 = .ok (.aload_n 0, 1) := by decide +kernel
theorem dX7_type_1 : decode cX7_type 1 = .ok (.getfield 139, 3) := by decide +kernel
theorem dX7_type_4 : decode cX7_type 4 = .ok (.bipush 60, 2) := by decide +kernel
theorem dX7_type_6 : decode cX7_type 6 = .ok (.if_icmp .ne 6, 3) := by decide +kernel
theorem dX7_type_9 : decode cX7_type 9 = .ok (.bipush (-3), 2) := by decide +kernel
theorem dX7_type_11 : decode cX7_type 11 = .ok (.ireturn, 1) := by decide +kernel
theorem dX7_type_12 : decode cX7_type 12 = .ok (.aload_n 0, 1) := by decide +kernel
theorem dX7_type_13 : decode cX7_type 13 = .ok (.getfield 22, 3) := by decide +kernel
theorem dX7_type_16 : decode cX7_type 16 = .ok (.aload_n 0, 1) := by decide +kernel
theorem dX7_type_17 : decode cX7_type 17 = .ok (.getfield 139, 3) := by decide +kernel
theorem dX7_type_20 : decode cX7_type 20 = .ok (.iload_n 1, 1) := by decide +kernel
theorem dX7_type_21 : decode cX7_type 21 = .ok (.iastore, 1) := by decide +kernel
theorem dX7_type_22 : decode cX7_type 22 = .ok (.aload_n 0, 1) := by decide +kernel
theorem dX7_type_23 : decode cX7_type 23 = .ok (.dup, 1) := by decide +kernel
theorem dX7_type_24 : decode cX7_type 24 = .ok (.getfield 139, 3) := by decide +kernel
theorem dX7_type_27 : decode cX7_type 27 = .ok (.iconst 1, 1) := by decide +kernel
theorem dX7_type_28 : decode cX7_type 28 = .ok (.iadd, 1) := by decide +kernel
theorem dX7_type_29 : decode cX7_type 29 = .ok (.putfield 139, 3) := by decide +kernel
theorem dX7_type_32 : decode cX7_type 32 = .ok (.aload_n 0, 1) := by decide +kernel
theorem dX7_type_33 : decode cX7_type 33 = .ok (.getfield 139, 3) := by decide +kernel
theorem dX7_type_36 : decode cX7_type 36 = .ok (.ireturn, 1) := by decide +kernel
theorem dX7_clearText_0 : decode cX7_clearText 0 = .ok (.aload_n 0, 1) := by decide +kernel
theorem dX7_clearText_1 : decode cX7_clearText 1 = .ok (.getfield 139, 3) := by decide +kernel
theorem dX7_clearText_4 : decode cX7_clearText 4 = .ok (.istore_n 1, 1) := by decide +kernel
theorem dX7_clearText_5 : decode cX7_clearText 5 = .ok (.aload_n 0, 1) := by decide +kernel
theorem dX7_clearText_6 : decode cX7_clearText 6 = .ok (.iconst 0, 1) := by decide +kernel
theorem dX7_clearText_7 : decode cX7_clearText 7 = .ok (.putfield 139, 3) := by decide +kernel
theorem dX7_clearText_10 : decode cX7_clearText 10 = .ok (.iload_n 1, 1) := by decide +kernel
theorem dX7_clearText_11 : decode cX7_clearText 11 = .ok (.ireturn, 1) := by decide +kernel
theorem dX7_sign_0 : decode cX7_sign 0 = .ok (.aload_n 0, 1) := by decide +kernel
theorem dX7_sign_1 : decode cX7_sign 1 = .ok (.getfield 142, 3) := by decide +kernel
theorem dX7_sign_4 : decode cX7_sign 4 = .ok (.aload_n 0, 1) := by decide +kernel
theorem dX7_sign_5 : decode cX7_sign 5 = .ok (.getfield 139, 3) := by decide +kernel
theorem dX7_sign_8 : decode cX7_sign 8 = .ok (.if_icmp .ge 15, 3) := by decide +kernel
theorem dX7_sign_11 : decode cX7_sign 11 = .ok (.aload_n 0, 1) := by decide +kernel
theorem dX7_sign_12 : decode cX7_sign 12 = .ok (.getfield 22, 3) := by decide +kernel
theorem dX7_sign_15 : decode cX7_sign 15 = .ok (.aload_n 0, 1) := by decide +kernel
theorem dX7_sign_16 : decode cX7_sign 16 = .ok (.getfield 142, 3) := by decide +kernel
theorem dX7_sign_19 : decode cX7_sign 19 = .ok (.iaload, 1) := by decide +kernel
theorem dX7_sign_20 : decode cX7_sign 20 = .ok (.goto 4, 3) := by decide +kernel
theorem dX7_sign_23 : decode cX7_sign 23 = .ok (.iconst 0, 1) := by decide +kernel
theorem dX7_sign_24 : decode cX7_sign 24 = .ok (.ireturn, 1) := by decide +kernel
theorem dX7_take__0 : decode cX7_take_ 0 = .ok (.aload_n 0, 1) := by decide +kernel
theorem dX7_take__1 : decode cX7_take_ 1 = .ok (.aload_n 0, 1) := by decide +kernel
theorem dX7_take__2 : decode cX7_take_ 2 = .ok (.getfield 145, 3) := by decide +kernel
theorem dX7_take__5 : decode cX7_take_ 5 = .ok (.ifCond .ne 7, 3) := by decide +kernel
theorem dX7_take__8 : decode cX7_take_ 8 = .ok (.iload_n 1, 1) := by decide +kernel
theorem dX7_take__9 : decode cX7_take_ 9 = .ok (.ifCond .ne 7, 3) := by decide +kernel
theorem dX7_take__12 : decode cX7_take_ 12 = .ok (.iconst 1, 1) := by decide +kernel
theorem dX7_take__13 : decode cX7_take_ 13 = .ok (.goto 4, 3) := by decide +kernel
theorem dX7_take__16 : decode cX7_take_ 16 = .ok (.iconst 0, 1) := by decide +kernel
theorem dX7_take__17 : decode cX7_take_ 17 = .ok (.putfield 145, 3) := by decide +kernel
theorem dX7_take__20 : decode cX7_take_ 20 = .ok (.aload_n 0, 1) := by decide +kernel
theorem dX7_take__21 : decode cX7_take_ 21 = .ok (.dup, 1) := by decide +kernel
theorem dX7_take__22 : decode cX7_take_ 22 = .ok (.getfield 142, 3) := by decide +kernel
theorem dX7_take__25 : decode cX7_take_ 25 = .ok (.aload_n 0, 1) := by decide +kernel
theorem dX7_take__26 : decode cX7_take_ 26 = .ok (.getfield 145, 3) := by decide +kernel
theorem dX7_take__29 : decode cX7_take_ 29 = .ok (.ifCond .eq 7, 3) := by decide +kernel
theorem dX7_take__32 : decode cX7_take_ 32 = .ok (.iconst 0, 1) := by decide +kernel
theorem dX7_take__33 : decode cX7_take_ 33 = .ok (.goto 4, 3) := by decide +kernel
theorem dX7_take__36 : decode cX7_take_ 36 = .ok (.iconst 1, 1) := by decide +kernel
theorem dX7_take__37 : decode cX7_take_ 37 = .ok (.iadd, 1) := by decide +kernel
theorem dX7_take__38 : decode cX7_take_ 38 = .ok (.putfield 142, 3) := by decide +kernel
theorem dX7_take__41 : decode cX7_take_ 41 = .ok (.return_, 1) := by decide +kernel
theorem dX7_takeDigit_0 : decode cX7_takeDigit 0 = .ok (.aload_n 0, 1) := by decide +kernel
theorem dX7_takeDigit_1 : decode cX7_takeDigit 1 = .ok (.invokevirtual 148, 3) := by decide +kernel
theorem dX7_takeDigit_4 : decode cX7_takeDigit 4 = .ok (.bipush 48, 2) := by decide +kernel
theorem dX7_takeDigit_6 : decode cX7_takeDigit 6 = .ok (.isub, 1) := by decide +kernel
theorem dX7_takeDigit_7 : decode cX7_takeDigit 7 = .ok (.istore_n 2, 1) := by decide +kernel
theorem dX7_takeDigit_8 : decode cX7_takeDigit 8 = .ok (.aload_n 0, 1) := by decide +kernel
theorem dX7_takeDigit_9 : decode cX7_takeDigit 9 = .ok (.iload_n 2, 1) := by decide +kernel
theorem dX7_takeDigit_10 : decode cX7_takeDigit 10 = .ok (.iconst 0, 1) := by decide +kernel
theorem dX7_takeDigit_11 : decode cX7_takeDigit 11 = .ok (.iload_n 1, 1) := by decide +kernel
theorem dX7_takeDigit_12 : decode cX7_takeDigit 12 = .ok (.invokestatic 43, 3) := by decide +kernel
theorem dX7_takeDigit_15 : decode cX7_takeDigit 15 = .ok (.invokevirtual 152, 3) := by decide +kernel
theorem dX7_takeDigit_18 : decode cX7_takeDigit 18 = .ok (.iload_n 2, 1) := by decide +kernel
theorem dX7_takeDigit_19 : decode cX7_takeDigit 19 = .ok (.ireturn, 1) := by decide +kernel
theorem dX7_takeCell_0 : decode cX7_takeCell 0 = .ok (.aload_n 0, 1) := by decide +kernel
theorem dX7_takeCell_1 : decode cX7_takeCell 1 = .ok (.bipush 9, 2) := by decide +kernel
theorem dX7_takeCell_3 : decode cX7_takeCell 3 = .ok (.invokevirtual 156, 3) := by decide +kernel
theorem dX7_takeCell_6 : decode cX7_takeCell 6 = .ok (.istore_n 1, 1) := by decide +kernel
theorem dX7_takeCell_7 : decode cX7_takeCell 7 = .ok (.aload_n 0, 1) := by decide +kernel
theorem dX7_takeCell_8 : decode cX7_takeCell 8 = .ok (.getfield 145, 3) := by decide +kernel
theorem dX7_takeCell_11 : decode cX7_takeCell 11 = .ok (.ifCond .ne 65, 3) := by decide +kernel
theorem dX7_takeCell_14 : decode cX7_takeCell 14 = .ok (.iload_n 1, 1) := by decide +kernel
theorem dX7_takeCell_15 : decode cX7_takeCell 15 = .ok (.ifCond .le 61, 3) := by decide +kernel
theorem dX7_takeCell_18 : decode cX7_takeCell 18 = .ok (.aload_n 0, 1) := by decide +kernel
theorem dX7_takeCell_19 : decode cX7_takeCell 19 = .ok (.invokevirtual 148, 3) := by decide +kernel
theorem dX7_takeCell_22 : decode cX7_takeCell 22 = .ok (.bipush 48, 2) := by decide +kernel
theorem dX7_takeCell_24 : decode cX7_takeCell 24 = .ok (.bipush 57, 2) := by decide +kernel
theorem dX7_takeCell_26 : decode cX7_takeCell 26 = .ok (.invokestatic 43, 3) := by decide +kernel
theorem dX7_takeCell_29 : decode cX7_takeCell 29 = .ok (.ifCond .eq 47, 3) := by decide +kernel
theorem dX7_takeCell_32 : decode cX7_takeCell 32 = .ok (.bipush 10, 2) := by decide +kernel
theorem dX7_takeCell_34 : decode cX7_takeCell 34 = .ok (.iload_n 1, 1) := by decide +kernel
theorem dX7_takeCell_35 : decode cX7_takeCell 35 = .ok (.imul, 1) := by decide +kernel
