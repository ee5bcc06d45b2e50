theorem dX0_beside_0 : decode cX0_beside 0 = .ok (.iload_n 1, 1) := by decide +kernel
theorem dX0_beside_1 : decode cX0_beside 1 = .ok (.tableswitch 49 0 2 #[27, 35, 42], 27) := by decide +kernel
theorem dX0_beside_28 : decode cX0_beside 28 = .ok (.iload_n 0, 1) := by decide +kernel
theorem dX0_beside_29 : decode cX0_beside 29 = .ok (.iconst 0, 1) := by decide +kernel
theorem dX0_beside_30 : decode cX0_beside 30 = .ok (.bipush 9, 2) := by decide +kernel
theorem dX0_beside_32 : decode cX0_beside 32 = .ok (.invokestatic 9, 3) := by decide +kernel
theorem dX0_beside_35 : decode cX0_beside 35 = .ok (.ireturn, 1) := by decide +kernel
theorem dX0_beside_36 : decode cX0_beside 36 = .ok (.iload_n 0, 1) := by decide +kernel
theorem dX0_beside_37 : decode cX0_beside 37 = .ok (.iconst 1, 1) := by decide +kernel
theorem dX0_beside_38 : decode cX0_beside 38 = .ok (.iconst 0, 1) := by decide +kernel
theorem dX0_beside_39 : decode cX0_beside 39 = .ok (.invokestatic 9, 3) := by decide +kernel
theorem dX0_beside_42 : decode cX0_beside 42 = .ok (.ireturn, 1) := by decide +kernel
theorem dX0_beside_43 : decode cX0_beside 43 = .ok (.iload_n 0, 1) := by decide +kernel
theorem dX0_beside_44 : decode cX0_beside 44 = .ok (.iconst 0, 1) := by decide +kernel
theorem dX0_beside_45 : decode cX0_beside 45 = .ok (.iconst 1, 1) := by decide +kernel
theorem dX0_beside_46 : decode cX0_beside 46 = .ok (.invokestatic 9, 3) := by decide +kernel
theorem dX0_beside_49 : decode cX0_beside 49 = .ok (.ireturn, 1) := by decide +kernel
theorem dX0_beside_50 : decode cX0_beside 50 = .ok (.iload_n 0, 1) := by decide +kernel
theorem dX0_beside_51 : decode cX0_beside 51 = .ok (.bipush 14, 2) := by decide +kernel
theorem dX0_beside_53 : decode cX0_beside 53 = .ok (.iconst 0, 1) := by decide +kernel
theorem dX0_beside_54 : decode cX0_beside 54 = .ok (.invokestatic 9, 3) := by decide +kernel
theorem dX0_beside_57 : decode cX0_beside 57 = .ok (.ireturn, 1) := by decide +kernel
theorem dX0_shifted_0 : decode cX0_shifted 0 = .ok (.iload_n 0, 1) := by decide +kernel
theorem dX0_shifted_1 : decode cX0_shifted 1 = .ok (.bipush 15, 2) := by decide +kernel
theorem dX0_shifted_3 : decode cX0_shifted 3 = .ok (.irem, 1) := by decide +kernel
theorem dX0_shifted_4 : decode cX0_shifted 4 = .ok (.iload_n 1, 1) := by decide +kernel
theorem dX0_shifted_5 : decode cX0_shifted 5 = .ok (.iadd, 1) := by decide +kernel
theorem dX0_shifted_6 : decode cX0_shifted 6 = .ok (.bipush 15, 2) := by decide +kernel
theorem dX0_shifted_8 : decode cX0_shifted 8 = .ok (.irem, 1) := by decide +kernel
theorem dX0_shifted_9 : decode cX0_shifted 9 = .ok (.istore_n 3, 1) := by decide +kernel
theorem dX0_shifted_10 : decode cX0_shifted 10 = .ok (.iload_n 0, 1) := by decide +kernel
theorem dX0_shifted_11 : decode cX0_shifted 11 = .ok (.bipush 15, 2) := by decide +kernel
theorem dX0_shifted_13 : decode cX0_shifted 13 = .ok (.idiv, 1) := by decide +kernel
theorem dX0_shifted_14 : decode cX0_shifted 14 = .ok (.iload_n 2, 1) := by decide +kernel
theorem dX0_shifted_15 : decode cX0_shifted 15 = .ok (.iadd, 1) := by decide +kernel
theorem dX0_shifted_16 : decode cX0_shifted 16 = .ok (.bipush 10, 2) := by decide +kernel
theorem dX0_shifted_18 : decode cX0_shifted 18 = .ok (.irem, 1) := by decide +kernel
theorem dX0_shifted_19 : decode cX0_shifted 19 = .ok (.istore 4, 2) := by decide +kernel
theorem dX0_shifted_21 : decode cX0_shifted 21 = .ok (.bipush 15, 2) := by decide +kernel
theorem dX0_shifted_23 : decode cX0_shifted 23 = .ok (.iload 4, 2) := by decide +kernel
theorem dX0_shifted_25 : decode cX0_shifted 25 = .ok (.imul, 1) := by decide +kernel
theorem dX0_shifted_26 : decode cX0_shifted 26 = .ok (.iload_n 3, 1) := by decide +kernel
theorem dX0_shifted_27 : decode cX0_shifted 27 = .ok (.iadd, 1) := by decide +kernel
theorem dX0_shifted_28 : decode cX0_shifted 28 = .ok (.ireturn, 1) := by decide +kernel
theorem dX0_turnedByHalf_0 : decode cX0_turnedByHalf 0 = .ok (.bipush 15, 2) := by decide +kernel
theorem dX0_turnedByHalf_2 : decode cX0_turnedByHalf 2 = .ok (.iload_n 0, 1) := by decide +kernel
theorem dX0_turnedByHalf_3 : decode cX0_turnedByHalf 3 = .ok (.bipush 15, 2) := by decide +kernel
theorem dX0_turnedByHalf_5 : decode cX0_turnedByHalf 5 = .ok (.irem, 1) := by decide +kernel
theorem dX0_turnedByHalf_6 : decode cX0_turnedByHalf 6 = .ok (.isub, 1) := by decide +kernel
theorem dX0_turnedByHalf_7 : decode cX0_turnedByHalf 7 = .ok (.bipush 15, 2) := by decide +kernel
theorem dX0_turnedByHalf_9 : decode cX0_turnedByHalf 9 = .ok (.irem, 1) := by decide +kernel
theorem dX0_turnedByHalf_10 : decode cX0_turnedByHalf 10 = .ok (.istore_n 1, 1) := by decide +kernel
theorem dX0_turnedByHalf_11 : decode cX0_turnedByHalf 11 = .ok (.bipush 10, 2) := by decide +kernel
theorem dX0_turnedByHalf_13 : decode cX0_turnedByHalf 13 = .ok (.iload_n 0, 1) := by decide +kernel
theorem dX0_turnedByHalf_14 : decode cX0_turnedByHalf 14 = .ok (.bipush 15, 2) := by decide +kernel
theorem dX0_turnedByHalf_16 : decode cX0_turnedByHalf 16 = .ok (.idiv, 1) := by decide +kernel
theorem dX0_turnedByHalf_17 : decode cX0_turnedByHalf 17 = .ok (.isub, 1) := by decide +kernel
theorem dX0_turnedByHalf_18 : decode cX0_turnedByHalf 18 = .ok (.bipush 10, 2) := by decide +kernel
theorem dX0_turnedByHalf_20 : decode cX0_turnedByHalf 20 = .ok (.irem, 1) := by decide +kernel
theorem dX0_turnedByHalf_21 : decode cX0_turnedByHalf 21 = .ok (.istore_n 2, 1) := by decide +kernel
theorem dX0_turnedByHalf_22 : decode cX0_turnedByHalf 22 = .ok (.bipush 15, 2) := by decide +kernel
theorem dX0_turnedByHalf_24 : decode cX0_turnedByHalf 24 = .ok (.iload_n 2, 1) := by decide +kernel
theorem dX0_turnedByHalf_25 : decode cX0_turnedByHalf 25 = .ok (.imul, 1) := by decide +kernel
theorem dX0_turnedByHalf_26 : decode cX0_turnedByHalf 26 = .ok (.iload_n 1, 1) := by decide +kernel
theorem dX0_turnedByHalf_27 : decode cX0_turnedByHalf 27 = .ok (.iadd, 1) := by decide +kernel
theorem dX0_turnedByHalf_28 : decode cX0_turnedByHalf 28 = .ok (.ireturn, 1) := by decide +kernel
theorem dX0_opposite_0 : decode cX0_opposite 0 = .ok (.iload_n 0, 1) := by decide +kernel
theorem dX0_opposite_1 : decode cX0_opposite 1 = .ok (.iconst 2, 1) := by decide +kernel
theorem dX0_opposite_2 : decode cX0_opposite 2 = .ok (.iadd, 1) := by decide +kernel
theorem dX0_opposite_3 : decode cX0_opposite 3 = .ok (.iconst 4, 1) := by decide +kernel
theorem dX0_opposite_4 : decode cX0_opposite 4 = .ok (.irem, 1) := by decide +kernel
theorem dX0_opposite_5 : decode cX0_opposite 5 = .ok (.ireturn, 1) := by decide +kernel
theorem dX1_init_0 : decode cX1_init 0 = .ok (.aload_n 0, 1) := by decide +kernel
theorem dX1_init_1 : decode cX1_init 1 = .ok (.invokespecial 3, 3) := by decide +kernel
theorem dX1_init_4 : decode cX1_init 4 = .ok (.aload_n 0, 1) := by decide +kernel
theorem dX1_init_5 : decode cX1_init 5 = .ok (.new 9, 3) := by decide +kernel
theorem dX1_init_8 : decode cX1_init 8 = .ok (.dup, 1) := by decide +kernel
theorem dX1_init_9 : decode cX1_init 9 = .ok (.invokespecial 11, 3) := by decide +kernel
theorem dX1_init_12 : decode cX1_init 12 = .ok (.putfield 12, 3) := by decide +kernel
theorem dX1_init_15 : decode cX1_init 15 = .ok (.aload_n 0, 1) := by decide +kernel
theorem dX1_init_16 : decode cX1_init 16 = .ok (.sipush 150, 3) := by decide +kernel
theorem dX1_init_19 : decode cX1_init 19 = .ok (.newarray .int, 2) := by decide +kernel
theorem dX1_init_21 : decode cX1_init 21 = .ok (.putfield 18, 3) := by decide +kernel
theorem dX1_init_24 : decode cX1_init 24 = .ok (.aload_n 0, 1) := by decide +kernel
theorem dX1_init_25 : decode cX1_init 25 = .ok (.sipush 150, 3) := by decide +kernel
theorem dX1_init_28 : decode cX1_init 28 = .ok (.newarray .int, 2) := by decide +kernel
theorem dX1_init_30 : decode cX1_init 30 = .ok (.putfield 22, 3) := by decide +kernel
theorem dX1_init_33 : decode cX1_init 33 = .ok (.aload_n 0, 1) := by decide +kernel
theorem dX1_init_34 : decode cX1_init 34 = .ok (.invokevirtual 25, 3) := by decide +kernel
theorem dX1_init_37 : decode cX1_init 37 = .ok (.return_, 1) := by decide +kernel
theorem dX1_layOut_0 : decode cX1_layOut 0 = .ok (.iconst 0, 1) := by decide +kernel
theorem dX1_layOut_1 : decode cX1_layOut 1 = .ok (.istore_n 1, 1) := by decide +kernel
theorem dX1_layOut_2 : decode cX1_layOut 2 = .ok (.iload_n 1, 1) := by decide +kernel
theorem dX1_layOut_3 : decode cX1_layOut 3 = .ok (.sipush 150, 3) := by decide +kernel
theorem dX1_layOut_6 : decode cX1_layOut 6 = .ok (.if_icmp .ge 23, 3) := by decide +kernel
theorem dX1_layOut_9 : decode cX1_layOut 9 = .ok (.aload_n 0, 1) := by decide +kernel
theorem dX1_layOut_10 : decode cX1_layOut 10 = .ok (.getfield 18, 3) := by decide +kernel
theorem dX1_layOut_13 : decode cX1_layOut 13 = .ok (.iload_n 1, 1) := by decide +kernel
theorem dX1_layOut_14 : decode cX1_layOut 14 = .ok (.iconst (-1), 1) := by decide +kernel
theorem dX1_layOut_15 : decode cX1_layOut 15 = .ok (.iastore, 1) := by decide +kernel
theorem dX1_layOut_16 : decode cX1_layOut 16 = .ok (.aload_n 0, 1) := by decide +kernel
theorem dX1_layOut_17 : decode cX1_layOut 17 = .ok (.getfield 22, 3) := by decide +kernel
theorem dX1_layOut_20 : decode cX1_layOut 20 = .ok (.iload_n 1, 1) := by decide +kernel
theorem dX1_layOut_21 : decode cX1_layOut 21 = .ok (.iconst 4, 1) := by decide +kernel
theorem dX1_layOut_22 : decode cX1_layOut 22 = .ok (.iastore, 1) := by decide +kernel
theorem dX1_layOut_23 : decode cX1_layOut 23 = .ok (.iinc 1 1, 3) := by decide +kernel
theorem dX1_layOut_26 : decode cX1_layOut 26 = .ok (.goto (-24), 3) := by decide +kernel
theorem dX1_layOut_29 : decode cX1_layOut 29 = .ok (.iconst 0, 1) := by decide +kernel
theorem dX1_layOut_30 : decode cX1_layOut 30 = .ok (.istore_n 1, 1) := by decide +kernel
theorem dX1_layOut_31 : decode cX1_layOut 31 = .ok (.iload_n 1, 1) := by decide +kernel
theorem dX1_layOut_32 : decode cX1_layOut 32 = .ok (.aload_n 0, 1) := by decide +kernel
theorem dX1_layOut_33 : decode cX1_layOut 33 = .ok (.getfield 12, 3) := by decide +kernel
theorem dX1_layOut_36 : decode cX1_layOut 36 = .ok (.getfield 28, 3) := by decide +kernel
theorem dX1_layOut_39 : decode cX1_layOut 39 = .ok (.if_icmp .ge 62, 3) := by decide +kernel
theorem dX1_layOut_42 : decode cX1_layOut 42 = .ok (.aload_n 0, 1) := by decide +kernel
theorem dX1_layOut_43 : decode cX1_layOut 43 = .ok (.getfield 12, 3) := by decide +kernel
theorem dX1_layOut_46 : decode cX1_layOut 46 = .ok (.getfield 32, 3) := by decide +kernel
theorem dX1_layOut_49 : decode cX1_layOut 49 = .ok (.iload_n 1, 1) := by decide +kernel
theorem dX1_layOut_50 : decode cX1_layOut 50 = .ok (.iaload, 1) := by decide +kernel
theorem dX1_layOut_51 : decode cX1_layOut 51 = .ok (.istore_n 2, 1) := by decide +kernel
theorem dX1_layOut_52 : decode cX1_layOut 52 = .ok (.aload_n 0, 1) := by decide +kernel
theorem dX1_layOut_53 : decode cX1_layOut 53 = .ok (.getfield 18, 3) := by decide +kernel
theorem dX1_layOut_56 : decode cX1_layOut 56 = .ok (.iload_n 2, 1) := by decide +kernel
theorem dX1_layOut_57 : decode cX1_layOut 57 = .ok (.iload_n 1, 1) := by decide +kernel
theorem dX1_layOut_58 : decode cX1_layOut 58 = .ok (.iastore, 1) := by decide +kernel
theorem dX1_layOut_59 : decode cX1_layOut 59 = .ok (.iconst 0, 1) := by decide +kernel
theorem dX1_layOut_60 : decode cX1_layOut 60 = .ok (.istore_n 3, 1) := by decide +kernel
theorem dX1_layOut_61 : decode cX1_layOut 61 = .ok (.iload_n 3, 1) := by decide +kernel
theorem dX1_layOut_62 : decode cX1_layOut 62 = .ok (.iconst 4, 1) := by decide +kernel
theorem dX1_layOut_63 : decode cX1_layOut 63 = .ok (.if_icmp .ge 32, 3) := by decide +kernel
theorem dX1_layOut_66 : decode cX1_layOut 66 = .ok (.iload_n 2, 1) := by decide +kernel
theorem dX1_layOut_67 : decode cX1_layOut 67 = .ok (.iload_n 3, 1) := by decide +kernel
theorem dX1_layOut_68 : decode cX1_layOut 68 = .ok (.invokestatic 35, 3) := by decide +kernel
theorem dX1_layOut_71 : decode cX1_layOut 71 = .ok (.istore 4, 2) := by decide +kernel
theorem dX1_layOut_73 : decode cX1_layOut 73 = .ok (.aload_n 0, 1) := by decide +kernel
theorem dX1_layOut_74 : decode cX1_layOut 74 = .ok (.getfield 18, 3) := by decide +kernel
theorem dX1_layOut_77 : decode cX1_layOut 77 = .ok (.iload 4, 2) := by decide +kernel
theorem dX1_layOut_79 : decode cX1_layOut 79 = .ok (.iload_n 1, 1) := by decide +kernel
theorem dX1_layOut_80 : decode cX1_layOut 80 = .ok (.iastore, 1) := by decide +kernel
theorem dX1_layOut_81 : decode cX1_layOut 81 = .ok (.aload_n 0, 1) := by decide +kernel
theorem dX1_layOut_82 : decode cX1_layOut 82 = .ok (.getfield 22, 3) := by decide +kernel
theorem dX1_layOut_85 : decode cX1_layOut 85 = .ok (.iload 4, 2) := by decide +kernel
theorem dX1_layOut_87 : decode cX1_layOut 87 = .ok (.iload_n 3, 1) := by decide +kernel
theorem dX1_layOut_88 : decode cX1_layOut 88 = .ok (.iastore, 1) := by decide +kernel
theorem dX1_layOut_89 : decode cX1_layOut 89 = .ok (.iinc 3 1, 3) := by decide +kernel
theorem dX1_layOut_92 : decode cX1_layOut 92 = .ok (.goto (-31), 3) := by decide +kernel
theorem dX1_layOut_95 : decode cX1_layOut 95 = .ok (.iinc 1 1, 3) := by decide +kernel
theorem dX1_layOut_98 : decode cX1_layOut 98 = .ok (.goto (-67), 3) := by decide +kernel
theorem dX1_layOut_101 : decode cX1_layOut 101 = .ok (.return_, 1) := by decide +kernel
theorem dX1_ownerOf_0 : decode cX1_ownerOf 0 = .ok (.aload_n 0, 1) := by decide +kernel
theorem dX1_ownerOf_1 : decode cX1_ownerOf 1 = .ok (.getfield 18, 3) := by decide +kernel
theorem dX1_ownerOf_4 : decode cX1_ownerOf 4 = .ok (.iload_n 1, 1) := by decide +kernel
theorem dX1_ownerOf_5 : decode cX1_ownerOf 5 = .ok (.iaload, 1) := by decide +kernel
theorem dX1_ownerOf_6 : decode cX1_ownerOf 6 = .ok (.ireturn, 1) := by decide +kernel
theorem dX1_partOn_0 : decode cX1_partOn 0 = .ok (.aload_n 0, 1) := by decide +kernel
theorem dX1_partOn_1 : decode cX1_partOn 1 = .ok (.getfield 22, 3) := by decide +kernel
theorem dX1_partOn_4 : decode cX1_partOn 4 = .ok (.iload_n 1, 1) := by decide +kernel
theorem dX1_partOn_5 : decode cX1_partOn 5 = .ok (.iaload, 1) := by decide +kernel
theorem dX1_partOn_6 : decode cX1_partOn 6 = .ok (.ireturn, 1) := by decide +kernel
theorem dX1_isFree_0 : decode cX1_isFree 0 = .ok (.aload_n 0, 1) := by decide +kernel
theorem dX1_isFree_1 : decode cX1_isFree 1 = .ok (.getfield 18, 3) := by decide +kernel
theorem dX1_isFree_4 : decode cX1_isFree 4 = .ok (.iload_n 1, 1) := by decide +kernel
theorem dX1_isFree_5 : decode cX1_isFree 5 = .ok (.iaload, 1) := by decide +kernel
theorem dX1_isFree_6 : decode cX1_isFree 6 = .ok (.iconst (-1), 1) := by decide +kernel
theorem dX1_isFree_7 : decode cX1_isFree 7 = .ok (.if_icmp .ne 7, 3) := by decide +kernel
theorem dX1_isFree_10 : decode cX1_isFree 10 = .ok (.iconst 1, 1) := by decide +kernel
theorem dX1_isFree_11 : decode cX1_isFree 11 = .ok (.goto 4, 3) := by decide +kernel
theorem dX1_isFree_14 : decode cX1_isFree 14 = .ok (.iconst 0, 1) := by decide +kernel
theorem dX1_isFree_15 : decode cX1_isFree 15 = .ok (.ireturn, 1) := by decide +kernel
theorem dX1_hasArmOfOther_0 : decode cX1_hasArmOfOther 0 = .ok (.aload_n 0, 1) := by decide +kernel
theorem dX1_hasArmOfOther_1 : decode cX1_hasArmOfOther 1 = .ok (.getfield 18, 3) := by decide +kernel
theorem dX1_hasArmOfOther_4 : decode cX1_hasArmOfOther 4 = .ok (.iload_n 1, 1) := by decide +kernel
theorem dX1_hasArmOfOther_5 : decode cX1_hasArmOfOther 5 = .ok (.iaload, 1) := by decide +kernel
theorem dX1_hasArmOfOther_6 : decode cX1_hasArmOfOther 6 = .ok (.istore_n 3, 1) := by decide +kernel
theorem dX1_hasArmOfOther_7 : decode cX1_hasArmOfOther 7 = .ok (.iload_n 3, 1) := by decide +kernel
theorem dX1_hasArmOfOther_8 : decode cX1_hasArmOfOther 8 = .ok (.iconst (-1), 1) := by decide +kernel
theorem dX1_hasArmOfOther_9 : decode cX1_hasArmOfOther 9 = .ok (.if_icmp .eq 22, 3) := by decide +kernel
theorem dX1_hasArmOfOther_12 : decode cX1_hasArmOfOther 12 = .ok (.iload_n 3, 1) := by decide +kernel
theorem dX1_hasArmOfOther_13 : decode cX1_hasArmOfOther 13 = .ok (.iload_n 2, 1) := by decide +kernel
theorem dX1_hasArmOfOther_14 : decode cX1_hasArmOfOther 14 = .ok (.if_icmp .eq 17, 3) := by decide +kernel
theorem dX1_hasArmOfOther_17 : decode cX1_hasArmOfOther 17 = .ok (.aload_n 0, 1) := by decide +kernel
theorem dX1_hasArmOfOther_18 : decode cX1_hasArmOfOther 18 = .ok (.getfield 22, 3) := by decide +kernel
theorem dX1_hasArmOfOther_21 : decode cX1_hasArmOfOther 21 = .ok (.iload_n 1, 1) := by decide +kernel
theorem dX1_hasArmOfOther_22 : decode cX1_hasArmOfOther 22 = .ok (.iaload, 1) := by decide +kernel
theorem dX1_hasArmOfOther_23 : decode cX1_hasArmOfOther 23 = .ok (.iconst 4, 1) := by decide +kernel
theorem dX1_hasArmOfOther_24 : decode cX1_hasArmOfOther 24 = .ok (.if_icmp .eq 7, 3) := by decide +kernel
theorem dX1_hasArmOfOther_27 : decode cX1_hasArmOfOther 27 = .ok (.iconst 1, 1) := by decide +kernel
theorem dX1_hasArmOfOther_28 : decode cX1_hasArmOfOther 28 = .ok (.goto 4, 3) := by decide +kernel
theorem dX1_hasArmOfOther_31 : decode cX1_hasArmOfOther 31 = .ok (.iconst 0, 1) := by decide +kernel
theorem dX1_hasArmOfOther_32 : decode cX1_hasArmOfOther 32 = .ok (.ireturn, 1) := by decide +kernel
theorem dX1_colourShown_0 : decode cX1_colourShown 0 = .ok (.aload_n 0, 1) := by decide +kernel
theorem dX1_colourShown_1 : decode cX1_colourShown 1 = .ok (.getfield 12, 3) := by decide +kernel
theorem dX1_colourShown_4 : decode cX1_colourShown 4 = .ok (.iload_n 2, 1) := by decide +kernel
theorem dX1_colourShown_5 : decode cX1_colourShown 5 = .ok (.aload_n 0, 1) := by decide +kernel
theorem dX1_colourShown_6 : decode cX1_colourShown 6 = .ok (.getfield 12, 3) := by decide +kernel
theorem dX1_colourShown_9 : decode cX1_colourShown 9 = .ok (.getfield 41, 3) := by decide +kernel
theorem dX1_colourShown_12 : decode cX1_colourShown 12 = .ok (.iload_n 1, 1) := by decide +kernel
theorem dX1_colourShown_13 : decode cX1_colourShown 13 = .ok (.iaload, 1) := by decide +kernel
theorem dX1_colourShown_14 : decode cX1_colourShown 14 = .ok (.aload_n 0, 1) := by decide +kernel
theorem dX1_colourShown_15 : decode cX1_colourShown 15 = .ok (.getfield 12, 3) := by decide +kernel
theorem dX1_colourShown_18 : decode cX1_colourShown 18 = .ok (.getfield 44, 3) := by decide +kernel
theorem dX1_colourShown_21 : decode cX1_colourShown 21 = .ok (.iload_n 1, 1) := by decide +kernel
theorem dX1_colourShown_22 : decode cX1_colourShown 22 = .ok (.iaload, 1) := by decide +kernel
theorem dX1_colourShown_23 : decode cX1_colourShown 23 = .ok (.invokevirtual 47, 3) := by decide +kernel
theorem dX1_colourShown_26 : decode cX1_colourShown 26 = .ok (.ireturn, 1) := by decide +kernel
theorem dX1_hasClash_0 : decode cX1_hasClash 0 = .ok (.iconst 0, 1) := by decide +kernel
theorem dX1_hasClash_1 : decode cX1_hasClash 1 = .ok (.istore_n 1, 1) := by decide +kernel
theorem dX1_hasClash_2 : decode cX1_hasClash 2 = .ok (.iload_n 1, 1) := by decide +kernel
theorem dX1_hasClash_3 : decode cX1_hasClash 3 = .ok (.aload_n 0, 1) := by decide +kernel
theorem dX1_hasClash_4 : decode cX1_hasClash 4 = .ok (.getfield 12, 3) := by decide +kernel
theorem dX1_hasClash_7 : decode cX1_hasClash 7 = .ok (.getfield 28, 3) := by decide +kernel
theorem dX1_hasClash_10 : decode cX1_hasClash 10 = .ok (.if_icmp .ge 46, 3) := by decide +kernel
theorem dX1_hasClash_13 : decode cX1_hasClash 13 = .ok (.aload_n 0, 1) := by decide +kernel
theorem dX1_hasClash_14 : decode cX1_hasClash 14 = .ok (.aload_n 0, 1) := by decide +kernel
theorem dX1_hasClash_15 : decode cX1_hasClash 15 = .ok (.getfield 12, 3) := by decide +kernel
theorem dX1_hasClash_18 : decode cX1_hasClash 18 = .ok (.getfield 41, 3) := by decide +kernel
theorem dX1_hasClash_21 : decode cX1_hasClash 21 = .ok (.iload_n 1, 1) := by decide +kernel
theorem dX1_hasClash_22 : decode cX1_hasClash 22 = .ok (.iaload, 1) := by decide +kernel
theorem dX1_hasClash_23 : decode cX1_hasClash 23 = .ok (.aload_n 0, 1) := by decide +kernel
theorem dX1_hasClash_24 : decode cX1_hasClash 24 = .ok (.getfield 12, 3) := by decide +kernel
theorem dX1_hasClash_27 : decode cX1_hasClash 27 = .ok (.getfield 44, 3) := by decide +kernel
theorem dX1_hasClash_30 : decode cX1_hasClash 30 = .ok (.iload_n 1, 1) := by decide +kernel
theorem dX1_hasClash_31 : decode cX1_hasClash 31 = .ok (.iaload, 1) := by decide +kernel
theorem dX1_hasClash_32 : decode cX1_hasClash 32 = .ok (.aload_n 0, 1) := by decide +kernel
theorem dX1_hasClash_33 : decode cX1_hasClash 33 = .ok (.getfield 12, 3) := by decide +kernel
theorem dX1_hasClash_36 : decode cX1_hasClash 36 = .ok (.getfield 32, 3) := by decide +kernel
theorem dX1_hasClash_39 : decode cX1_hasClash 39 = .ok (.iload_n 1, 1) := by decide +kernel
theorem dX1_hasClash_40 : decode cX1_hasClash 40 = .ok (.iaload, 1) := by decide +kernel
theorem dX1_hasClash_41 : decode cX1_hasClash 41 = .ok (.iload_n 1, 1) := by decide +kernel
theorem dX1_hasClash_42 : decode cX1_hasClash 42 = .ok (.invokevirtual 51, 3) := by decide +kernel
theorem dX1_hasClash_45 : decode cX1_hasClash 45 = .ok (.ifCond .eq 5, 3) := by decide +kernel
theorem dX1_hasClash_48 : decode cX1_hasClash 48 = .ok (.iconst 1, 1) := by decide +kernel
theorem dX1_hasClash_49 : decode cX1_hasClash 49 = .ok (.ireturn, 1) := by decide +kernel
theorem dX1_hasClash_50 : decode cX1_hasClash 50 = .ok (.iinc 1 1, 3) := by decide +kernel
theorem dX1_hasClash_53 : decode cX1_hasClash 53 = .ok (.goto (-51), 3) := by decide +kernel
theorem dX1_hasClash_56 : decode cX1_hasClash 56 = .ok (.iconst 0, 1) := by decide +kernel
theorem dX1_hasClash_57 : decode cX1_hasClash 57 = .ok (.ireturn, 1) := by decide +kernel
theorem dX1_wouldClash_0 : decode cX1_wouldClash 0 = .ok (.iconst 0, 1) := by decide +kernel
theorem dX1_wouldClash_1 : decode cX1_wouldClash 1 = .ok (.istore 5, 2) := by decide +kernel
theorem dX1_wouldClash_3 : decode cX1_wouldClash 3 = .ok (.iload 5, 2) := by decide +kernel
theorem dX1_wouldClash_5 : decode cX1_wouldClash 5 = .ok (.iconst 4, 1) := by decide +kernel
theorem dX1_wouldClash_6 : decode cX1_wouldClash 6 = .ok (.if_icmp .ge 94, 3) := by decide +kernel
theorem dX1_wouldClash_9 : decode cX1_wouldClash 9 = .ok (.aload_n 0, 1) := by decide +kernel
theorem dX1_wouldClash_10 : decode cX1_wouldClash 10 = .ok (.getfield 12, 3) := by decide +kernel
theorem dX1_wouldClash_13 : decode cX1_wouldClash 13 = .ok (.iload 5, 2) := by decide +kernel
theorem dX1_wouldClash_15 : decode cX1_wouldClash 15 = .ok (.iload_n 1, 1) := by decide +kernel
theorem dX1_wouldClash_16 : decode cX1_wouldClash 16 = .ok (.iload_n 2, 1) := by decide +kernel
theorem dX1_wouldClash_17 : decode cX1_wouldClash 17 = .ok (.invokevirtual 47, 3) := by decide +kernel
theorem dX1_wouldClash_20 : decode cX1_wouldClash 20 = .ok (.istore 6, 2) := by decide +kernel
theorem dX1_wouldClash_22 : decode cX1_wouldClash 22 = .ok (.iload_n 3, 1) := by decide +kernel
theorem dX1_wouldClash_23 : decode cX1_wouldClash 23 = .ok (.iload 5, 2) := by decide +kernel
theorem dX1_wouldClash_25 : decode cX1_wouldClash 25 = .ok (.invokestatic 35, 3) := by decide +kernel
theorem dX1_wouldClash_28 : decode cX1_wouldClash 28 = .ok (.istore 7, 2) := by decide +kernel
theorem dX1_wouldClash_30 : decode cX1_wouldClash 30 = .ok (.iconst 0, 1) := by decide +kernel
theorem dX1_wouldClash_31 : decode cX1_wouldClash 31 = .ok (.istore 8, 2) := by decide +kernel
theorem dX1_wouldClash_33 : decode cX1_wouldClash 33 = .ok (.iload 8, 2) := by decide +kernel
theorem dX1_wouldClash_35 : decode cX1_wouldClash 35 = .ok (.iconst 4, 1) := by decide +kernel
theorem dX1_wouldClash_36 : decode cX1_wouldClash 36 = .ok (.if_icmp .ge 58, 3) := by decide +kernel
theorem dX1_wouldClash_39 : decode cX1_wouldClash 39 = .ok (.iload 7, 2) := by decide +kernel
theorem dX1_wouldClash_41 : decode cX1_wouldClash 41 = .ok (.iload 8, 2) := by decide +kernel
theorem dX1_wouldClash_43 : decode cX1_wouldClash 43 = .ok (.invokestatic 35, 3) := by decide +kernel
theorem dX1_wouldClash_46 : decode cX1_wouldClash 46 = .ok (.istore 9, 2) := by decide +kernel
theorem dX1_wouldClash_48 : decode cX1_wouldClash 48 = .ok (.aload_n 0, 1) := by decide +kernel
theorem dX1_wouldClash_49 : decode cX1_wouldClash 49 = .ok (.iload 9, 2) := by decide +kernel
theorem dX1_wouldClash_51 : decode cX1_wouldClash 51 = .ok (.iload 4, 2) := by decide +kernel
theorem dX1_wouldClash_53 : decode cX1_wouldClash 53 = .ok (.invokevirtual 55, 3) := by decide +kernel
theorem dX1_wouldClash_56 : decode cX1_wouldClash 56 = .ok (.ifCond .eq 32, 3) := by decide +kernel
theorem dX1_wouldClash_59 : decode cX1_wouldClash 59 = .ok (.aload_n 0, 1) := by decide +kernel
theorem dX1_wouldClash_60 : decode cX1_wouldClash 60 = .ok (.iload 6, 2) := by decide +kernel
theorem dX1_wouldClash_62 : decode cX1_wouldClash 62 = .ok (.aload_n 0, 1) := by decide +kernel
theorem dX1_wouldClash_63 : decode cX1_wouldClash 63 = .ok (.aload_n 0, 1) := by decide +kernel
theorem dX1_wouldClash_64 : decode cX1_wouldClash 64 = .ok (.getfield 18, 3) := by decide +kernel
theorem dX1_wouldClash_67 : decode cX1_wouldClash 67 = .ok (.iload 9, 2) := by decide +kernel
theorem dX1_wouldClash_69 : decode cX1_wouldClash 69 = .ok (.iaload, 1) := by decide +kernel
theorem dX1_wouldClash_70 : decode cX1_wouldClash 70 = .ok (.aload_n 0, 1) := by decide +kernel
theorem dX1_wouldClash_71 : decode cX1_wouldClash 71 = .ok (.getfield 22, 3) := by decide +kernel
theorem dX1_wouldClash_74 : decode cX1_wouldClash 74 = .ok (.iload 9, 2) := by decide +kernel
theorem dX1_wouldClash_76 : decode cX1_wouldClash 76 = .ok (.iaload, 1) := by decide +kernel
theorem dX1_wouldClash_77 : decode cX1_wouldClash 77 = .ok (.invokevirtual 59, 3) := by decide +kernel
theorem dX1_wouldClash_80 : decode cX1_wouldClash 80 = .ok (.invokevirtual 62, 3) := by decide +kernel
theorem dX1_wouldClash_83 : decode cX1_wouldClash 83 = .ok (.ifCond .eq 5, 3) := by decide +kernel
theorem dX1_wouldClash_86 : decode cX1_wouldClash 86 = .ok (.iconst 1, 1) := by decide +kernel
theorem dX1_wouldClash_87 : decode cX1_wouldClash 87 = .ok (.ireturn, 1) := by decide +kernel
theorem dX1_wouldClash_88 : decode cX1_wouldClash 88 = .ok (.iinc 8 1, 3) := by decide +kernel
theorem dX1_wouldClash_91 : decode cX1_wouldClash 91 = .ok (.goto (-58), 3) := by decide +kernel
theorem dX1_wouldClash_94 : decode cX1_wouldClash 94 = .ok (.iinc 5 1, 3) := by decide +kernel
theorem dX1_wouldClash_97 : decode cX1_wouldClash 97 = .ok (.goto (-94), 3) := by decide +kernel
theorem dX1_wouldClash_100 : decode cX1_wouldClash 100 = .ok (.iconst 0, 1) := by decide +kernel
theorem dX1_wouldClash_101 : decode cX1_wouldClash 101 = .ok (.ireturn, 1) := by decide +kernel
theorem dX1_whyNot_0 : decode cX1_whyNot 0 = .ok (.aload_n 0, 1) := by decide +kernel
theorem dX1_whyNot_1 : decode cX1_whyNot 1 = .ok (.iload 4, 2) := by decide +kernel
theorem dX1_whyNot_3 : decode cX1_whyNot 3 = .ok (.iload_n 3, 1) := by decide +kernel
theorem dX1_whyNot_4 : decode cX1_whyNot 4 = .ok (.invokevirtual 65, 3) := by decide +kernel
theorem dX1_whyNot_7 : decode cX1_whyNot 7 = .ok (.ifCond .ne 5, 3) := by decide +kernel
theorem dX1_whyNot_10 : decode cX1_whyNot 10 = .ok (.iconst 1, 1) := by decide +kernel
theorem dX1_whyNot_11 : decode cX1_whyNot 11 = .ok (.ireturn, 1) := by decide +kernel
theorem dX1_whyNot_12 : decode cX1_whyNot 12 = .ok (.iconst 0, 1) := by decide +kernel
theorem dX1_whyNot_13 : decode cX1_whyNot 13 = .ok (.istore 5, 2) := by decide +kernel
theorem dX1_whyNot_15 : decode cX1_whyNot 15 = .ok (.iload 5, 2) := by decide +kernel
theorem dX1_whyNot_17 : decode cX1_whyNot 17 = .ok (.iconst 4, 1) := by decide +kernel
theorem dX1_whyNot_18 : decode cX1_whyNot 18 = .ok (.if_icmp .ge 26, 3) := by decide +kernel
theorem dX1_whyNot_21 : decode cX1_whyNot 21 = .ok (.aload_n 0, 1) := by decide +kernel
theorem dX1_whyNot_22 : decode cX1_whyNot 22 = .ok (.iload 4, 2) := by decide +kernel
theorem dX1_whyNot_24 : decode cX1_whyNot 24 = .ok (.iload_n 3, 1) := by decide +kernel
theorem dX1_whyNot_25 : decode cX1_whyNot 25 = .ok (.iload 5, 2) := by decide +kernel
theorem dX1_whyNot_27 : decode cX1_whyNot 27 = .ok (.invokestatic 35, 3) := by decide +kernel
theorem dX1_whyNot_30 : decode cX1_whyNot 30 = .ok (.invokevirtual 65, 3) := by decide +kernel
theorem dX1_whyNot_33 : decode cX1_whyNot 33 = .ok (.ifCond .ne 5, 3) := by decide +kernel
theorem dX1_whyNot_36 : decode cX1_whyNot 36 = .ok (.iconst 2, 1) := by decide +kernel
theorem dX1_whyNot_37 : decode cX1_whyNot 37 = .ok (.ireturn, 1) := by decide +kernel
theorem dX1_whyNot_38 : decode cX1_whyNot 38 = .ok (.iinc 5 1, 3) := by decide +kernel
theorem dX1_whyNot_41 : decode cX1_whyNot 41 = .ok (.goto (-26), 3) := by decide +kernel
theorem dX1_whyNot_44 : decode cX1_whyNot 44 = .ok (.aload_n 0, 1) := by decide +kernel
theorem dX1_whyNot_45 : decode cX1_whyNot 45 = .ok (.iload_n 1, 1) := by decide +kernel
theorem dX1_whyNot_46 : decode cX1_whyNot 46 = .ok (.iload_n 2, 1) := by decide +kernel
theorem dX1_whyNot_47 : decode cX1_whyNot 47 = .ok (.iload_n 3, 1) := by decide +kernel
theorem dX1_whyNot_48 : decode cX1_whyNot 48 = .ok (.iload 4, 2) := by decide +kernel
theorem dX1_whyNot_50 : decode cX1_whyNot 50 = .ok (.invokevirtual 51, 3) := by decide +kernel
theorem dX1_whyNot_53 : decode cX1_whyNot 53 = .ok (.ifCond .eq 5, 3) := by decide +kernel
theorem dX1_whyNot_56 : decode cX1_whyNot 56 = .ok (.iconst 3, 1) := by decide +kernel
theorem dX1_whyNot_57 : decode cX1_whyNot 57 = .ok (.ireturn, 1) := by decide +kernel
theorem dX1_whyNot_58 : decode cX1_whyNot 58 = .ok (.iload 4, 2) := by decide +kernel
theorem dX1_whyNot_60 : decode cX1_whyNot 60 = .ok (.iconst (-1), 1) := by decide +kernel
theorem dX1_whyNot_61 : decode cX1_whyNot 61 = .ok (.if_icmp .ne 19, 3) := by decide +kernel
theorem dX1_whyNot_64 : decode cX1_whyNot 64 = .ok (.aload_n 0, 1) := by decide +kernel
theorem dX1_whyNot_65 : decode cX1_whyNot 65 = .ok (.getfield 12, 3) := by decide +kernel
theorem dX1_whyNot_68 : decode cX1_whyNot 68 = .ok (.getfield 28, 3) := by decide +kernel
theorem dX1_whyNot_71 : decode cX1_whyNot 71 = .ok (.bipush 30, 2) := by decide +kernel
theorem dX1_whyNot_73 : decode cX1_whyNot 73 = .ok (.if_icmp .lt 7, 3) := by decide +kernel
theorem dX1_whyNot_76 : decode cX1_whyNot 76 = .ok (.iconst 4, 1) := by decide +kernel
theorem dX1_whyNot_77 : decode cX1_whyNot 77 = .ok (.goto 4, 3) := by decide +kernel
theorem dX1_whyNot_80 : decode cX1_whyNot 80 = .ok (.iconst 0, 1) := by decide +kernel
theorem dX1_whyNot_81 : decode cX1_whyNot 81 = .ok (.ireturn, 1) := by decide +kernel
theorem dX1_layCross_0 : decode cX1_layCross 0 = .ok (.aload_n 0, 1) := by decide +kernel
theorem dX1_layCross_1 : decode cX1_layCross 1 = .ok (.iload_n 1, 1) := by decide +kernel
theorem dX1_layCross_2 : decode cX1_layCross 2 = .ok (.iload_n 2, 1) := by decide +kernel
theorem dX1_layCross_3 : decode cX1_layCross 3 = .ok (.iload_n 3, 1) := by decide +kernel
theorem dX1_layCross_4 : decode cX1_layCross 4 = .ok (.iconst (-1), 1) := by decide +kernel
theorem dX1_layCross_5 : decode cX1_layCross 5 = .ok (.invokevirtual 68, 3) := by decide +kernel
theorem dX1_layCross_8 : decode cX1_layCross 8 = .ok (.istore 4, 2) := by decide +kernel
theorem dX1_layCross_10 : decode cX1_layCross 10 = .ok (.iload 4, 2) := by decide +kernel
theorem dX1_layCross_12 : decode cX1_layCross 12 = .ok (.ifCond .eq 17, 3) := by decide +kernel
theorem dX1_layCross_15 : decode cX1_layCross 15 = .ok (.iload 4, 2) := by decide +kernel
theorem dX1_layCross_17 : decode cX1_layCross 17 = .ok (.iconst 4, 1) := by decide +kernel
theorem dX1_layCross_18 : decode cX1_layCross 18 = .ok (.if_icmp .ne 8, 3) := by decide +kernel
theorem dX1_layCross_21 : decode cX1_layCross 21 = .ok (.bipush (-3), 2) := by decide +kernel
theorem dX1_layCross_23 : decode cX1_layCross 23 = .ok (.goto 5, 3) := by decide +kernel
theorem dX1_layCross_26 : decode cX1_layCross 26 = .ok (.bipush (-4), 2) := by decide +kernel
theorem dX1_layCross_28 : decode cX1_layCross 28 = .ok (.ireturn, 1) := by decide +kernel
theorem dX1_layCross_29 : decode cX1_layCross 29 = .ok (.aload_n 0, 1) := by decide +kernel
theorem dX1_layCross_30 : decode cX1_layCross 30 = .ok (.getfield 12, 3) := by decide +kernel
theorem dX1_layCross_33 : decode cX1_layCross 33 = .ok (.getfield 28, 3) := by decide +kernel
theorem dX1_layCross_36 : decode cX1_layCross 36 = .ok (.istore 5, 2) := by decide +kernel
theorem dX1_layCross_38 : decode cX1_layCross 38 = .ok (.aload_n 0, 1) := by decide +kernel
theorem dX1_layCross_39 : decode cX1_layCross 39 = .ok (.getfield 12, 3) := by decide +kernel
theorem dX1_layCross_42 : decode cX1_layCross 42 = .ok (.getfield 41, 3) := by decide +kernel
theorem dX1_layCross_45 : decode cX1_layCross 45 = .ok (.iload 5, 2) := by decide +kernel
theorem dX1_layCross_47 : decode cX1_layCross 47 = .ok (.iload_n 1, 1) := by decide +kernel
theorem dX1_layCross_48 : decode cX1_layCross 48 = .ok (.iastore, 1) := by decide +kernel
theorem dX1_layCross_49 : decode cX1_layCross 49 = .ok (.aload_n 0, 1) := by decide +kernel
theorem dX1_layCross_50 : decode cX1_layCross 50 = .ok (.getfield 12, 3) := by decide +kernel
theorem dX1_layCross_53 : decode cX1_layCross 53 = .ok (.getfield 44, 3) := by decide +kernel
theorem dX1_layCross_56 : decode cX1_layCross 56 = .ok (.iload 5, 2) := by decide +kernel
theorem dX1_layCross_58 : decode cX1_layCross 58 = .ok (.iload_n 2, 1) := by decide +kernel
theorem dX1_layCross_59 : decode cX1_layCross 59 = .ok (.iastore, 1) := by decide +kernel
theorem dX1_layCross_60 : decode cX1_layCross 60 = .ok (.aload_n 0, 1) := by decide +kernel
theorem dX1_layCross_61 : decode cX1_layCross 61 = .ok (.getfield 12, 3) := by decide +kernel
theorem dX1_layCross_64 : decode cX1_layCross 64 = .ok (.getfield 32, 3) := by decide +kernel
theorem dX1_layCross_67 : decode cX1_layCross 67 = .ok (.iload 5, 2) := by decide +kernel
theorem dX1_layCross_69 : decode cX1_layCross 69 = .ok (.iload_n 3, 1) := by decide +kernel
theorem dX1_layCross_70 : decode cX1_layCross 70 = .ok (.iastore, 1) := by decide +kernel
theorem dX1_layCross_71 : decode cX1_layCross 71 = .ok (.aload_n 0, 1) := by decide +kernel
theorem dX1_layCross_72 : decode cX1_layCross 72 = .ok (.getfield 12, 3) := by decide +kernel
theorem dX1_layCross_75 : decode cX1_layCross 75 = .ok (.dup, 1) := by decide +kernel
theorem dX1_layCross_76 : decode cX1_layCross 76 = .ok (.getfield 28, 3) := by decide +kernel
theorem dX1_layCross_79 : decode cX1_layCross 79 = .ok (.iconst 1, 1) := by decide +kernel
theorem dX1_layCross_80 : decode cX1_layCross 80 = .ok (.iadd, 1) := by decide +kernel
theorem dX1_layCross_81 : decode cX1_layCross 81 = .ok (.putfield 28, 3) := by decide +kernel
theorem dX1_layCross_84 : decode cX1_layCross 84 = .ok (.aload_n 0, 1) := by decide +kernel
theorem dX1_layCross_85 : decode cX1_layCross 85 = .ok (.invokevirtual 25, 3) := by decide +kernel
theorem dX1_layCross_88 : decode cX1_layCross 88 = .ok (.iload 5, 2) := by decide +kernel
theorem dX1_layCross_90 : decode cX1_layCross 90 = .ok (.ireturn, 1) := by decide +kernel
theorem dX1_takeAway_0 : decode cX1_takeAway 0 = .ok (.iload_n 1, 1) := by decide +kernel
theorem dX1_takeAway_1 : decode cX1_takeAway 1 = .ok (.iconst 1, 1) := by decide +kernel
theorem dX1_takeAway_2 : decode cX1_takeAway 2 = .ok (.iadd, 1) := by decide +kernel
theorem dX1_takeAway_3 : decode cX1_takeAway 3 = .ok (.istore_n 2, 1) := by decide +kernel
theorem dX1_takeAway_4 : decode cX1_takeAway 4 = .ok (.iload_n 2, 1) := by decide +kernel
theorem dX1_takeAway_5 : decode cX1_takeAway 5 = .ok (.aload_n 0, 1) := by decide +kernel
theorem dX1_takeAway_6 : decode cX1_takeAway 6 = .ok (.getfield 12, 3) := by decide +kernel
theorem dX1_takeAway_9 : decode cX1_takeAway 9 = .ok (.getfield 28, 3) := by decide +kernel
theorem dX1_takeAway_12 : decode cX1_takeAway 12 = .ok (.if_icmp .ge 69, 3) := by decide +kernel
theorem dX1_takeAway_15 : decode cX1_takeAway 15 = .ok (.aload_n 0, 1) := by decide +kernel
theorem dX1_takeAway_16 : decode cX1_takeAway 16 = .ok (.getfield 12, 3) := by decide +kernel
theorem dX1_takeAway_19 : decode cX1_takeAway 19 = .ok (.getfield 41, 3) := by decide +kernel
theorem dX1_takeAway_22 : decode cX1_takeAway 22 = .ok (.iload_n 2, 1) := by decide +kernel
theorem dX1_takeAway_23 : decode cX1_takeAway 23 = .ok (.iconst 1, 1) := by decide +kernel
theorem dX1_takeAway_24 : decode cX1_takeAway 24 = .ok (.isub, 1) := by decide +kernel
theorem dX1_takeAway_25 : decode cX1_takeAway 25 = .ok (.aload_n 0, 1) := by decide +kernel
theorem dX1_takeAway_26 : decode cX1_takeAway 26 = .ok (.getfield 12, 3) := by decide +kernel
theorem dX1_takeAway_29 : decode cX1_takeAway 29 = .ok (.getfield 41, 3) := by decide +kernel
theorem dX1_takeAway_32 : decode cX1_takeAway 32 = .ok (.iload_n 2, 1) := by decide +kernel
theorem dX1_takeAway_33 : decode cX1_takeAway 33 = .ok (.iaload, 1) := by decide +kernel
theorem dX1_takeAway_34 : decode cX1_takeAway 34 = .ok (.iastore, 1) := by decide +kernel
theorem dX1_takeAway_35 : decode cX1_takeAway 35 = .ok (.aload_n 0, 1) := by decide +kernel
theorem dX1_takeAway_36 : decode cX1_takeAway 36 = .ok (.getfield 12, 3) := by decide +kernel
theorem dX1_takeAway_39 : decode cX1_takeAway 39 = .ok (.getfield 44, 3) := by decide +kernel
theorem dX1_takeAway_42 : decode cX1_takeAway 42 = .ok (.iload_n 2, 1) := by decide +kernel
theorem dX1_takeAway_43 : decode cX1_takeAway 43 = .ok (.iconst 1, 1) := by decide +kernel
theorem dX1_takeAway_44 : decode cX1_takeAway 44 = .ok (.isub, 1) := by decide +kernel
theorem dX1_takeAway_45 : decode cX1_takeAway 45 = .ok (.aload_n 0, 1) := by decide +kernel
theorem dX1_takeAway_46 : decode cX1_takeAway 46 = .ok (.getfield 12, 3) := by decide +kernel
theorem dX1_takeAway_49 : decode cX1_takeAway 49 = .ok (.getfield 44, 3) := by decide +kernel
theorem dX1_takeAway_52 : decode cX1_takeAway 52 = .ok (.iload_n 2, 1) := by decide +kernel
theorem dX1_takeAway_53 : decode cX1_takeAway 53 = .ok (.iaload, 1) := by decide +kernel
theorem dX1_takeAway_54 : decode cX1_takeAway 54 = .ok (.iastore, 1) := by decide +kernel
theorem dX1_takeAway_55 : decode cX1_takeAway 55 = .ok (.aload_n 0, 1) := by decide +kernel
theorem dX1_takeAway_56 : decode cX1_takeAway 56 = .ok (.getfield 12, 3) := by decide +kernel
theorem dX1_takeAway_59 : decode cX1_takeAway 59 = .ok (.getfield 32, 3) := by decide +kernel
theorem dX1_takeAway_62 : decode cX1_takeAway 62 = .ok (.iload_n 2, 1) := by decide +kernel
theorem dX1_takeAway_63 : decode cX1_takeAway 63 = .ok (.iconst 1, 1) := by decide +kernel
theorem dX1_takeAway_64 : decode cX1_takeAway 64 = .ok (.isub, 1) := by decide +kernel
theorem dX1_takeAway_65 : decode cX1_takeAway 65 = .ok (.aload_n 0, 1) := by decide +kernel
theorem dX1_takeAway_66 : decode cX1_takeAway 66 = .ok (.getfield 12, 3) := by decide +kernel
theorem dX1_takeAway_69 : decode cX1_takeAway 69 = .ok (.getfield 32, 3) := by decide +kernel
theorem dX1_takeAway_72 : decode cX1_takeAway 72 = .ok (.iload_n 2, 1) := by decide +kernel
theorem dX1_takeAway_73 : decode cX1_takeAway 73 = .ok (.iaload, 1) := by decide +kernel
theorem dX1_takeAway_74 : decode cX1_takeAway 74 = .ok (.iastore, 1) := by decide +kernel
theorem dX1_takeAway_75 : decode cX1_takeAway 75 = .ok (.iinc 2 1, 3) := by decide +kernel
theorem dX1_takeAway_78 : decode cX1_takeAway 78 = .ok (.goto (-74), 3) := by decide +kernel
theorem dX1_takeAway_81 : decode cX1_takeAway 81 = .ok (.aload_n 0, 1) := by decide +kernel
theorem dX1_takeAway_82 : decode cX1_takeAway 82 = .ok (.getfield 12, 3) := by decide +kernel
theorem dX1_takeAway_85 : decode cX1_takeAway 85 = .ok (.dup, 1) := by decide +kernel
theorem dX1_takeAway_86 : decode cX1_takeAway 86 = .ok (.getfield 28, 3) := by decide +kernel
theorem dX1_takeAway_89 : decode cX1_takeAway 89 = .ok (.iconst 1, 1) := by decide +kernel
theorem dX1_takeAway_90 : decode cX1_takeAway 90 = .ok (.isub, 1) := by decide +kernel
theorem dX1_takeAway_91 : decode cX1_takeAway 91 = .ok (.putfield 28, 3) := by decide +kernel
theorem dX1_takeAway_94 : decode cX1_takeAway 94 = .ok (.aload_n 0, 1) := by decide +kernel
theorem dX1_takeAway_95 : decode cX1_takeAway 95 = .ok (.invokevirtual 25, 3) := by decide +kernel
theorem dX1_takeAway_98 : decode cX1_takeAway 98 = .ok (.aload_n 0, 1) := by decide +kernel
theorem dX1_takeAway_99 : decode cX1_takeAway 99 = .ok (.getfield 12, 3) := by decide +kernel
theorem dX1_takeAway_102 : decode cX1_takeAway 102 = .ok (.getfield 28, 3) := by decide +kernel
theorem dX1_takeAway_105 : decode cX1_takeAway 105 = .ok (.ireturn, 1) := by decide +kernel
theorem dX1_turnFurther_0 : decode cX1_turnFurther 0 = .ok (.aload_n 0, 1) := by decide +kernel
theorem dX1_turnFurther_1 : decode cX1_turnFurther 1 = .ok (.getfield 12, 3) := by decide +kernel
theorem dX1_turnFurther_4 : decode cX1_turnFurther 4 = .ok (.getfield 44, 3) := by decide +kernel
theorem dX1_turnFurther_7 : decode cX1_turnFurther 7 = .ok (.iload_n 1, 1) := by decide +kernel
theorem dX1_turnFurther_8 : decode cX1_turnFurther 8 = .ok (.iaload, 1) := by decide +kernel
theorem dX1_turnFurther_9 : decode cX1_turnFurther 9 = .ok (.iload_n 2, 1) := by decide +kernel
theorem dX1_turnFurther_10 : decode cX1_turnFurther 10 = .ok (.iadd, 1) := by decide +kernel
theorem dX1_turnFurther_11 : decode cX1_turnFurther 11 = .ok (.iconst 4, 1) := by decide +kernel
theorem dX1_turnFurther_12 : decode cX1_turnFurther 12 = .ok (.irem, 1) := by decide +kernel
theorem dX1_turnFurther_13 : decode cX1_turnFurther 13 = .ok (.istore_n 3, 1) := by decide +kernel
theorem dX1_turnFurther_14 : decode cX1_turnFurther 14 = .ok (.aload_n 0, 1) := by decide +kernel
theorem dX1_turnFurther_15 : decode cX1_turnFurther 15 = .ok (.aload_n 0, 1) := by decide +kernel
theorem dX1_turnFurther_16 : decode cX1_turnFurther 16 = .ok (.getfield 12, 3) := by decide +kernel
theorem dX1_turnFurther_19 : decode cX1_turnFurther 19 = .ok (.getfield 41, 3) := by decide +kernel
theorem dX1_turnFurther_22 : decode cX1_turnFurther 22 = .ok (.iload_n 1, 1) := by decide +kernel
theorem dX1_turnFurther_23 : decode cX1_turnFurther 23 = .ok (.iaload, 1) := by decide +kernel
theorem dX1_turnFurther_24 : decode cX1_turnFurther 24 = .ok (.iload_n 3, 1) := by decide +kernel
theorem dX1_turnFurther_25 : decode cX1_turnFurther 25 = .ok (.aload_n 0, 1) := by decide +kernel
theorem dX1_turnFurther_26 : decode cX1_turnFurther 26 = .ok (.getfield 12, 3) := by decide +kernel
theorem dX1_turnFurther_29 : decode cX1_turnFurther 29 = .ok (.getfield 32, 3) := by decide +kernel
theorem dX1_turnFurther_32 : decode cX1_turnFurther 32 = .ok (.iload_n 1, 1) := by decide +kernel
theorem dX1_turnFurther_33 : decode cX1_turnFurther 33 = .ok (.iaload, 1) := by decide +kernel
theorem dX1_turnFurther_34 : decode cX1_turnFurther 34 = .ok (.iload_n 1, 1) := by decide +kernel
theorem dX1_turnFurther_35 : decode cX1_turnFurther 35 = .ok (.invokevirtual 51, 3) := by decide +kernel
theorem dX1_turnFurther_38 : decode cX1_turnFurther 38 = .ok (.ifCond .eq 6, 3) := by decide +kernel
theorem dX1_turnFurther_41 : decode cX1_turnFurther 41 = .ok (.bipush (-4), 2) := by decide +kernel
theorem dX1_turnFurther_43 : decode cX1_turnFurther 43 = .ok (.ireturn, 1) := by decide +kernel
theorem dX1_turnFurther_44 : decode cX1_turnFurther 44 = .ok (.aload_n 0, 1) := by decide +kernel
theorem dX1_turnFurther_45 : decode cX1_turnFurther 45 = .ok (.getfield 12, 3) := by decide +kernel
theorem dX1_turnFurther_48 : decode cX1_turnFurther 48 = .ok (.getfield 44, 3) := by decide +kernel
theorem dX1_turnFurther_51 : decode cX1_turnFurther 51 = .ok (.iload_n 1, 1) := by decide +kernel
theorem dX1_turnFurther_52 : decode cX1_turnFurther 52 = .ok (.iload_n 3, 1) := by decide +kernel
theorem dX1_turnFurther_53 : decode cX1_turnFurther 53 = .ok (.iastore, 1) := by decide +kernel
theorem dX1_turnFurther_54 : decode cX1_turnFurther 54 = .ok (.iload_n 3, 1) := by decide +kernel
theorem dX1_turnFurther_55 : decode cX1_turnFurther 55 = .ok (.ireturn, 1) := by decide +kernel
theorem dX1_moveTo_0 : decode cX1_moveTo 0 = .ok (.aload_n 0, 1) := by decide +kernel
theorem dX1_moveTo_1 : decode cX1_moveTo 1 = .ok (.getfield 12, 3) := by decide +kernel
theorem dX1_moveTo_4 : decode cX1_moveTo 4 = .ok (.getfield 32, 3) := by decide +kernel
theorem dX1_moveTo_7 : decode cX1_moveTo 7 = .ok (.iload_n 1, 1) := by decide +kernel
theorem dX1_moveTo_8 : decode cX1_moveTo 8 = .ok (.iaload, 1) := by decide +kernel
theorem dX1_moveTo_9 : decode cX1_moveTo 9 = .ok (.istore_n 3, 1) := by decide +kernel
theorem dX1_moveTo_10 : decode cX1_moveTo 10 = .ok (.aload_n 0, 1) := by decide +kernel
theorem dX1_moveTo_11 : decode cX1_moveTo 11 = .ok (.aload_n 0, 1) := by decide +kernel
theorem dX1_moveTo_12 : decode cX1_moveTo 12 = .ok (.getfield 12, 3) := by decide +kernel
theorem dX1_moveTo_15 : decode cX1_moveTo 15 = .ok (.getfield 41, 3) := by decide +kernel
theorem dX1_moveTo_18 : decode cX1_moveTo 18 = .ok (.iload_n 1, 1) := by decide +kernel
theorem dX1_moveTo_19 : decode cX1_moveTo 19 = .ok (.iaload, 1) := by decide +kernel
theorem dX1_moveTo_20 : decode cX1_moveTo 20 = .ok (.aload_n 0, 1) := by decide +kernel
theorem dX1_moveTo_21 : decode cX1_moveTo 21 = .ok (.getfield 12, 3) := by decide +kernel
theorem dX1_moveTo_24 : decode cX1_moveTo 24 = .ok (.getfield 44, 3) := by decide +kernel
theorem dX1_moveTo_27 : decode cX1_moveTo 27 = .ok (.iload_n 1, 1) := by decide +kernel
theorem dX1_moveTo_28 : decode cX1_moveTo 28 = .ok (.iaload, 1) := by decide +kernel
theorem dX1_moveTo_29 : decode cX1_moveTo 29 = .ok (.iload_n 2, 1) := by decide +kernel
theorem dX1_moveTo_30 : decode cX1_moveTo 30 = .ok (.iload_n 1, 1) := by decide +kernel
theorem dX1_moveTo_31 : decode cX1_moveTo 31 = .ok (.invokevirtual 68, 3) := by decide +kernel
theorem dX1_moveTo_34 : decode cX1_moveTo 34 = .ok (.ifCond .eq 6, 3) := by decide +kernel
theorem dX1_moveTo_37 : decode cX1_moveTo 37 = .ok (.bipush (-4), 2) := by decide +kernel
theorem dX1_moveTo_39 : decode cX1_moveTo 39 = .ok (.ireturn, 1) := by decide +kernel
theorem dX1_moveTo_40 : decode cX1_moveTo 40 = .ok (.aload_n 0, 1) := by decide +kernel
theorem dX1_moveTo_41 : decode cX1_moveTo 41 = .ok (.getfield 12, 3) := by decide +kernel
theorem dX1_moveTo_44 : decode cX1_moveTo 44 = .ok (.getfield 32, 3) := by decide +kernel
theorem dX1_moveTo_47 : decode cX1_moveTo 47 = .ok (.iload_n 1, 1) := by decide +kernel
theorem dX1_moveTo_48 : decode cX1_moveTo 48 = .ok (.iload_n 2, 1) := by decide +kernel
theorem dX1_moveTo_49 : decode cX1_moveTo 49 = .ok (.iastore, 1) := by decide +kernel
theorem dX1_moveTo_50 : decode cX1_moveTo 50 = .ok (.aload_n 0, 1) := by decide +kernel
theorem dX1_moveTo_51 : decode cX1_moveTo 51 = .ok (.invokevirtual 25, 3) := by decide +kernel
theorem dX1_moveTo_54 : decode cX1_moveTo 54 = .ok (.iload_n 3, 1) := by decide +kernel
theorem dX1_moveTo_55 : decode cX1_moveTo 55 = .ok (.ireturn, 1) := by decide +kernel
theorem dX1_shiftAll_0 : decode cX1_shiftAll 0 = .ok (.iconst 0, 1) := by decide +kernel
theorem dX1_shiftAll_1 : decode cX1_shiftAll 1 = .ok (.istore_n 3, 1) := by decide +kernel
theorem dX1_shiftAll_2 : decode cX1_shiftAll 2 = .ok (.iload_n 3, 1) := by decide +kernel
theorem dX1_shiftAll_3 : decode cX1_shiftAll 3 = .ok (.aload_n 0, 1) := by decide +kernel
theorem dX1_shiftAll_4 : decode cX1_shiftAll 4 = .ok (.getfield 12, 3) := by decide +kernel
theorem dX1_shiftAll_7 : decode cX1_shiftAll 7 = .ok (.getfield 28, 3) := by decide +kernel
theorem dX1_shiftAll_10 : decode cX1_shiftAll 10 = .ok (.if_icmp .ge 32, 3) := by decide +kernel
theorem dX1_shiftAll_13 : decode cX1_shiftAll 13 = .ok (.aload_n 0, 1) := by decide +kernel
theorem dX1_shiftAll_14 : decode cX1_shiftAll 14 = .ok (.getfield 12, 3) := by decide +kernel
theorem dX1_shiftAll_17 : decode cX1_shiftAll 17 = .ok (.getfield 32, 3) := by decide +kernel
theorem dX1_shiftAll_20 : decode cX1_shiftAll 20 = .ok (.iload_n 3, 1) := by decide +kernel
theorem dX1_shiftAll_21 : decode cX1_shiftAll 21 = .ok (.aload_n 0, 1) := by decide +kernel
theorem dX1_shiftAll_22 : decode cX1_shiftAll 22 = .ok (.getfield 12, 3) := by decide +kernel
theorem dX1_shiftAll_25 : decode cX1_shiftAll 25 = .ok (.getfield 32, 3) := by decide +kernel
theorem dX1_shiftAll_28 : decode cX1_shiftAll 28 = .ok (.iload_n 3, 1) := by decide +kernel
theorem dX1_shiftAll_29 : decode cX1_shiftAll 29 = .ok (.iaload, 1) := by decide +kernel
theorem dX1_shiftAll_30 : decode cX1_shiftAll 30 = .ok (.iload_n 1, 1) := by decide +kernel
theorem dX1_shiftAll_31 : decode cX1_shiftAll 31 = .ok (.iload_n 2, 1) := by decide +kernel
theorem dX1_shiftAll_32 : decode cX1_shiftAll 32 = .ok (.invokestatic 72, 3) := by decide +kernel
theorem dX1_shiftAll_35 : decode cX1_shiftAll 35 = .ok (.iastore, 1) := by decide +kernel
theorem dX1_shiftAll_36 : decode cX1_shiftAll 36 = .ok (.iinc 3 1, 3) := by decide +kernel
theorem dX1_shiftAll_39 : decode cX1_shiftAll 39 = .ok (.goto (-37), 3) := by decide +kernel
theorem dX1_shiftAll_42 : decode cX1_shiftAll 42 = .ok (.aload_n 0, 1) := by decide +kernel
theorem dX1_shiftAll_43 : decode cX1_shiftAll 43 = .ok (.invokevirtual 25, 3) := by decide +kernel
theorem dX1_shiftAll_46 : decode cX1_shiftAll 46 = .ok (.return_, 1) := by decide +kernel
theorem dX1_paintArms_0 : decode cX1_paintArms 0 = .ok (.iconst 0, 1) := by decide +kernel
theorem dX1_paintArms_1 : decode cX1_paintArms 1 = .ok (.istore_n 3, 1) := by decide +kernel
theorem dX1_paintArms_2 : decode cX1_paintArms 2 = .ok (.iload_n 3, 1) := by decide +kernel
theorem dX1_paintArms_3 : decode cX1_paintArms 3 = .ok (.iconst 4, 1) := by decide +kernel
theorem dX1_paintArms_4 : decode cX1_paintArms 4 = .ok (.if_icmp .ge 27, 3) := by decide +kernel
theorem dX1_paintArms_7 : decode cX1_paintArms 7 = .ok (.iload_n 3, 1) := by decide +kernel
theorem dX1_paintArms_8 : decode cX1_paintArms 8 = .ok (.aload_n 2, 1) := by decide +kernel
theorem dX1_paintArms_9 : decode cX1_paintArms 9 = .ok (.arraylength, 1) := by decide +kernel
theorem dX1_paintArms_10 : decode cX1_paintArms 10 = .ok (.if_icmp .ge 21, 3) := by decide +kernel
theorem dX1_paintArms_13 : decode cX1_paintArms 13 = .ok (.aload_n 0, 1) := by decide +kernel
theorem dX1_paintArms_14 : decode cX1_paintArms 14 = .ok (.getfield 12, 3) := by decide +kernel
theorem dX1_paintArms_17 : decode cX1_paintArms 17 = .ok (.iload_n 1, 1) := by decide +kernel
theorem dX1_paintArms_18 : decode cX1_paintArms 18 = .ok (.iload_n 3, 1) := by decide +kernel
theorem dX1_paintArms_19 : decode cX1_paintArms 19 = .ok (.aload_n 2, 1) := by decide +kernel
theorem dX1_paintArms_20 : decode cX1_paintArms 20 = .ok (.iload_n 3, 1) := by decide +kernel
theorem dX1_paintArms_21 : decode cX1_paintArms 21 = .ok (.iaload, 1) := by decide +kernel
theorem dX1_paintArms_22 : decode cX1_paintArms 22 = .ok (.invokevirtual 75, 3) := by decide +kernel
theorem dX1_paintArms_25 : decode cX1_paintArms 25 = .ok (.iinc 3 1, 3) := by decide +kernel
theorem dX1_paintArms_28 : decode cX1_paintArms 28 = .ok (.goto (-26), 3) := by decide +kernel
theorem dX1_paintArms_31 : decode cX1_paintArms 31 = .ok (.aload_n 0, 1) := by decide +kernel
theorem dX1_paintArms_32 : decode cX1_paintArms 32 = .ok (.invokevirtual 79, 3) := by decide +kernel
theorem dX1_paintArms_35 : decode cX1_paintArms 35 = .ok (.ifCond .eq 8, 3) := by decide +kernel
theorem dX1_paintArms_38 : decode cX1_paintArms 38 = .ok (.bipush (-4), 2) := by decide +kernel
theorem dX1_paintArms_40 : decode cX1_paintArms 40 = .ok (.goto 4, 3) := by decide +kernel
theorem dX1_paintArms_43 : decode cX1_paintArms 43 = .ok (.iconst 0, 1) := by decide +kernel
theorem dX1_paintArms_44 : decode cX1_paintArms 44 = .ok (.ireturn, 1) := by decide +kernel
theorem dX1_coloursClash_0 : decode cX1_coloursClash 0 = .ok (.aload_n 0, 1) := by decide +kernel
theorem dX1_coloursClash_1 : decode cX1_coloursClash 1 = .ok (.getfield 12, 3) := by decide +kernel
theorem dX1_coloursClash_4 : decode cX1_coloursClash 4 = .ok (.getfield 83, 3) := by decide +kernel
theorem dX1_coloursClash_7 : decode cX1_coloursClash 7 = .ok (.lookupswitch 47 #[(0, 25), (1, 36)], 25) := by decide +kernel
theorem dX1_coloursClash_32 : decode cX1_coloursClash 32 = .ok (.iload_n 1, 1) := by decide +kernel
theorem dX1_coloursClash_33 : decode cX1_coloursClash 33 = .ok (.iload_n 2, 1) := by decide +kernel
theorem dX1_coloursClash_34 : decode cX1_coloursClash 34 = .ok (.if_icmp .eq 7, 3) := by decide +kernel
theorem dX1_coloursClash_37 : decode cX1_coloursClash 37 = .ok (.iconst 1, 1) := by decide +kernel
theorem dX1_coloursClash_38 : decode cX1_coloursClash 38 = .ok (.goto 4, 3) := by decide +kernel
theorem dX1_coloursClash_41 : decode cX1_coloursClash 41 = .ok (.iconst 0, 1) := by decide +kernel
theorem dX1_coloursClash_42 : decode cX1_coloursClash 42 = .ok (.ireturn, 1) := by decide +kernel
theorem dX1_coloursClash_43 : decode cX1_coloursClash 43 = .ok (.iload_n 1, 1) := by decide +kernel
theorem dX1_coloursClash_44 : decode cX1_coloursClash 44 = .ok (.iload_n 2, 1) := by decide +kernel
theorem dX1_coloursClash_45 : decode cX1_coloursClash 45 = .ok (.if_icmp .ne 7, 3) := by decide +kernel
theorem dX1_coloursClash_48 : decode cX1_coloursClash 48 = .ok (.iconst 1, 1) := by decide +kernel
theorem dX1_coloursClash_49 : decode cX1_coloursClash 49 = .ok (.goto 4, 3) := by decide +kernel
theorem dX1_coloursClash_52 : decode cX1_coloursClash 52 = .ok (.iconst 0, 1) := by decide +kernel
theorem dX1_coloursClash_53 : decode cX1_coloursClash 53 = .ok (.ireturn, 1) := by decide +kernel
theorem dX1_coloursClash_54 : decode cX1_coloursClash 54 = .ok (.iconst 0, 1) := by decide +kernel
theorem dX1_coloursClash_55 : decode cX1_coloursClash 55 = .ok (.ireturn, 1) := by decide +kernel
theorem dX1_isFreeFor_0 : decode cX1_isFreeFor 0 = .ok (.aload_n 0, 1) := by decide +kernel
theorem dX1_isFreeFor_1 : decode cX1_isFreeFor 1 = .ok (.iload_n 2, 1) := by decide +kernel
theorem dX1_isFreeFor_2 : decode cX1_isFreeFor 2 = .ok (.invokevirtual 86, 3) := by decide +kernel
theorem dX1_isFreeFor_5 : decode cX1_isFreeFor 5 = .ok (.ifCond .ne 13, 3) := by decide +kernel
theorem dX1_isFreeFor_8 : decode cX1_isFreeFor 8 = .ok (.aload_n 0, 1) := by decide +kernel
theorem dX1_isFreeFor_9 : decode cX1_isFreeFor 9 = .ok (.getfield 18, 3) := by decide +kernel
theorem dX1_isFreeFor_12 : decode cX1_isFreeFor 12 = .ok (.iload_n 2, 1) := by decide +kernel
theorem dX1_isFreeFor_13 : decode cX1_isFreeFor 13 = .ok (.iaload, 1) := by decide +kernel
theorem dX1_isFreeFor_14 : decode cX1_isFreeFor 14 = .ok (.iload_n 1, 1) := by decide +kernel
theorem dX1_isFreeFor_15 : decode cX1_isFreeFor 15 = .ok (.if_icmp .ne 7, 3) := by decide +kernel
theorem dX1_isFreeFor_18 : decode cX1_isFreeFor 18 = .ok (.iconst 1, 1) := by decide +kernel
theorem dX1_isFreeFor_19 : decode cX1_isFreeFor 19 = .ok (.goto 4, 3) := by decide +kernel
theorem dX1_isFreeFor_22 : decode cX1_isFreeFor 22 = .ok (.iconst 0, 1) := by decide +kernel
theorem dX1_isFreeFor_23 : decode cX1_isFreeFor 23 = .ok (.ireturn, 1) := by decide +kernel
theorem dX2_init_0 : decode cX2_init 0 = .ok (.aload_n 0, 1) := by decide +kernel
theorem dX2_init_1 : decode cX2_init 1 = .ok (.invokespecial 3, 3) := by decide +kernel
theorem dX2_init_4 : decode cX2_init 4 = .ok (.aload_n 0, 1) := by decide +kernel
theorem dX2_init_5 : decode cX2_init 5 = .ok (.bipush 60, 2) := by decide +kernel
theorem dX2_init_7 : decode cX2_init 7 = .ok (.newarray .char, 2) := by decide +kernel
theorem dX2_init_9 : decode cX2_init 9 = .ok (.putfield 9, 3) := by decide +kernel
theorem dX2_init_12 : decode cX2_init 12 = .ok (.aload_n 0, 1) := by decide +kernel
theorem dX2_init_13 : decode cX2_init 13 = .ok (.iconst 0, 1) := by decide +kernel
theorem dX2_init_14 : decode cX2_init 14 = .ok (.putfield 15, 3) := by decide +kernel
theorem dX2_init_17 : decode cX2_init 17 = .ok (.aload_n 0, 1) := by decide +kernel
theorem dX2_init_18 : decode cX2_init 18 = .ok (.iconst 0, 1) := by decide +kernel
theorem dX2_init_19 : decode cX2_init 19 = .ok (.putfield 19, 3) := by decide +kernel
theorem dX2_init_22 : decode cX2_init 22 = .ok (.aload_n 0, 1) := by decide +kernel
theorem dX2_init_23 : decode cX2_init 23 = .ok (.iconst 0, 1) := by decide +kernel
theorem dX2_init_24 : decode cX2_init 24 = .ok (.putfield 22, 3) := by decide +kernel
theorem dX2_init_27 : decode cX2_init 27 = .ok (.aload_n 0, 1) := by decide +kernel
theorem dX2_init_28 : decode cX2_init 28 = .ok (.bipush 32, 2) := by decide +kernel
theorem dX2_init_30 : decode cX2_init 30 = .ok (.putfield 26, 3) := by decide +kernel
theorem dX2_init_33 : decode cX2_init 33 = .ok (.aload_n 0, 1) := by decide +kernel
theorem dX2_init_34 : decode cX2_init 34 = .ok (.iconst 0, 1) := by decide +kernel
theorem dX2_init_35 : decode cX2_init 35 = .ok (.putfield 30, 3) := by decide +kernel
theorem dX2_init_38 : decode cX2_init 38 = .ok (.aload_n 0, 1) := by decide +kernel
theorem dX2_init_39 : decode cX2_init 39 = .ok (.iconst 0, 1) := by decide +kernel
theorem dX2_init_40 : decode cX2_init 40 = .ok (.putfield 33, 3) := by decide +kernel
theorem dX2_init_43 : decode cX2_init 43 = .ok (.aload_n 0, 1) := by decide +kernel
theorem dX2_init_44 : decode cX2_init 44 = .ok (.iconst 0, 1) := by decide +kernel
theorem dX2_init_45 : decode cX2_init 45 = .ok (.putfield 36, 3) := by decide +kernel
theorem dX2_init_48 : decode cX2_init 48 = .ok (.aload_n 0, 1) := by decide +kernel
theorem dX2_init_49 : decode cX2_init 49 = .ok (.iconst 4, 1) := by decide +kernel
theorem dX2_init_50 : decode cX2_init 50 = .ok (.newarray .int, 2) := by decide +kernel
theorem dX2_init_52 : decode cX2_init 52 = .ok (.putfield 39, 3) := by decide +kernel
theorem dX2_init_55 : decode cX2_init 55 = .ok (.return_, 1) := by decide +kernel
theorem dX2_append_0 : decode cX2_append 0 = .ok (.aload_n 0, 1) := by decide +kernel
theorem dX2_append_1 : decode cX2_append 1 = .ok (.getfield 15, 3) := by decide +kernel
theorem dX2_append_4 : decode cX2_append 4 = .ok (.bipush 60, 2) := by decide +kernel
theorem dX2_append_6 : decode cX2_append 6 = .ok (.if_icmp .lt 5, 3) := by decide +kernel
theorem dX2_append_9 : decode cX2_append 9 = .ok (.iconst 0, 1) := by decide +kernel
theorem dX2_append_10 : decode cX2_append 10 = .ok (.ireturn, 1) := by decide +kernel
theorem dX2_append_11 : decode cX2_append 11 = .ok (.aload_n 0, 1) := by decide +kernel
theorem dX2_append_12 : decode cX2_append 12 = .ok (.getfield 9, 3) := by decide +kernel
theorem dX2_append_15 : decode cX2_append 15 = .ok (.aload_n 0, 1) := by decide +kernel
theorem dX2_append_16 : decode cX2_append 16 = .ok (.getfield 15, 3) := by decide +kernel
theorem dX2_append_19 : decode cX2_append 19 = .ok (.iload_n 1, 1) := by decide +kernel
theorem dX2_append_20 : decode cX2_append 20 = .ok (.castore, 1) := by decide +kernel
theorem dX2_append_21 : decode cX2_append 21 = .ok (.aload_n 0, 1) := by decide +kernel
theorem dX2_append_22 : decode cX2_append 22 = .ok (.dup, 1) := by decide +kernel
theorem dX2_append_23 : decode cX2_append 23 = .ok (.getfield 15, 3) := by decide +kernel
theorem dX2_append_26 : decode cX2_append 26 = .ok (.iconst 1, 1) := by decide +kernel
theorem dX2_append_27 : decode cX2_append 27 = .ok (.iadd, 1) := by decide +kernel
theorem dX2_append_28 : decode cX2_append 28 = .ok (.putfield 15, 3) := by decide +kernel
theorem dX2_append_31 : decode cX2_append 31 = .ok (.iconst 1, 1) := by decide +kernel
theorem dX2_append_32 : decode cX2_append 32 = .ok (.ireturn, 1) := by decide +kernel
theorem dX2_empty_0 : decode cX2_empty 0 = .ok (.aload_n 0, 1) := by decide +kernel
theorem dX2_empty_1 : decode cX2_empty 1 = .ok (.iconst 0, 1) := by decide +kernel
theorem dX2_empty_2 : decode cX2_empty 2 = .ok (.putfield 15, 3) := by decide +kernel
theorem dX2_empty_5 : decode cX2_empty 5 = .ok (.return_, 1) := by decide +kernel
theorem dX2_length_0 : decode cX2_length 0 = .ok (.aload_n 0, 1) := by decide +kernel
theorem dX2_length_1 : decode cX2_length 1 = .ok (.getfield 15, 3) := by decide +kernel
theorem dX2_length_4 : decode cX2_length 4 = .ok (.ireturn, 1) := by decide +kernel
theorem dX2_rewind_0 : decode cX2_rewind 0 = .ok (.aload_n 0, 1) := by decide +kernel
theorem dX2_rewind_1 : decode cX2_rewind 1 = .ok (.iconst 0, 1) := by decide +kernel
theorem dX2_rewind_2 : decode cX2_rewind 2 = .ok (.putfield 19, 3) := by decide +kernel
theorem dX2_rewind_5 : decode cX2_rewind 5 = .ok (.aload_n 0, 1) := by decide +kernel
theorem dX2_rewind_6 : decode cX2_rewind 6 = .ok (.iconst 0, 1) := by decide +kernel
theorem dX2_rewind_7 : decode cX2_rewind 7 = .ok (.putfield 22, 3) := by decide +kernel
theorem dX2_rewind_10 : decode cX2_rewind 10 = .ok (.return_, 1) := by decide +kernel
theorem dX2_countOrders_0 : decode cX2_countOrders 0 = .ok (.aload_n 0, 1) := by decide +kernel
theorem dX2_countOrders_1 : decode cX2_countOrders 1 = .ok (.invokevirtual 43, 3) := by decide +kernel
theorem dX2_countOrders_4 : decode cX2_countOrders 4 = .ok (.iconst 0, 1) := by decide +kernel
theorem dX2_countOrders_5 : decode cX2_countOrders 5 = .ok (.istore_n 1, 1) := by decide +kernel
theorem dX2_countOrders_6 : decode cX2_countOrders 6 = .ok (.iload_n 1, 1) := by decide +kernel
theorem dX2_countOrders_7 : decode cX2_countOrders 7 = .ok (.bipush 60, 2) := by decide +kernel
theorem dX2_countOrders_9 : decode cX2_countOrders 9 = .ok (.if_icmp .ge 38, 3) := by decide +kernel
theorem dX2_countOrders_12 : decode cX2_countOrders 12 = .ok (.aload_n 0, 1) := by decide +kernel
theorem dX2_countOrders_13 : decode cX2_countOrders 13 = .ok (.getfield 22, 3) := by decide +kernel
theorem dX2_countOrders_16 : decode cX2_countOrders 16 = .ok (.ifCond .ne 31, 3) := by decide +kernel
theorem dX2_countOrders_19 : decode cX2_countOrders 19 = .ok (.aload_n 0, 1) := by decide +kernel
theorem dX2_countOrders_20 : decode cX2_countOrders 20 = .ok (.invokevirtual 46, 3) := by decide +kernel
theorem dX2_countOrders_23 : decode cX2_countOrders 23 = .ok (.iinc 1 1, 3) := by decide +kernel
theorem dX2_countOrders_26 : decode cX2_countOrders 26 = .ok (.aload_n 0, 1) := by decide +kernel
theorem dX2_countOrders_27 : decode cX2_countOrders 27 = .ok (.getfield 19, 3) := by decide +kernel
theorem dX2_countOrders_30 : decode cX2_countOrders 30 = .ok (.aload_n 0, 1) := by decide +kernel
theorem dX2_countOrders_31 : decode cX2_countOrders 31 = .ok (.getfield 15, 3) := by decide +kernel
theorem dX2_countOrders_34 : decode cX2_countOrders 34 = .ok (.if_icmp .ne 6, 3) := by decide +kernel
theorem dX2_countOrders_37 : decode cX2_countOrders 37 = .ok (.goto 10, 3) := by decide +kernel
theorem dX2_countOrders_40 : decode cX2_countOrders 40 = .ok (.aload_n 0, 1) := by decide +kernel
theorem dX2_countOrders_41 : decode cX2_countOrders 41 = .ok (.invokevirtual 49, 3) := by decide +kernel
theorem dX2_countOrders_44 : decode cX2_countOrders 44 = .ok (.goto (-38), 3) := by decide +kernel
theorem dX2_countOrders_47 : decode cX2_countOrders 47 = .ok (.iload_n 1, 1) := by decide +kernel
theorem dX2_countOrders_48 : decode cX2_countOrders 48 = .ok (.ireturn, 1) := by decide +kernel
theorem dX2_readOrder_0 : decode cX2_readOrder 0 = .ok (.aload_n 0, 1) := by decide +kernel
theorem dX2_readOrder_1 : decode cX2_readOrder 1 = .ok (.aload_n 0, 1) := by decide +kernel
theorem dX2_readOrder_2 : decode cX2_readOrder 2 = .ok (.getfield 19, 3) := by decide +kernel
theorem dX2_readOrder_5 : decode cX2_readOrder 5 = .ok (.aload_n 0, 1) := by decide +kernel
theorem dX2_readOrder_6 : decode cX2_readOrder 6 = .ok (.getfield 15, 3) := by decide +kernel
theorem dX2_readOrder_9 : decode cX2_readOrder 9 = .ok (.if_icmp .ge 15, 3) := by decide +kernel
theorem dX2_readOrder_12 : decode cX2_readOrder 12 = .ok (.aload_n 0, 1) := by decide +kernel
theorem dX2_readOrder_13 : decode cX2_readOrder 13 = .ok (.getfield 9, 3) := by decide +kernel
theorem dX2_readOrder_16 : decode cX2_readOrder 16 = .ok (.aload_n 0, 1) := by decide +kernel
theorem dX2_readOrder_17 : decode cX2_readOrder 17 = .ok (.getfield 19, 3) := by decide +kernel
theorem dX2_readOrder_20 : decode cX2_readOrder 20 = .ok (.caload, 1) := by decide +kernel
theorem dX2_readOrder_21 : decode cX2_readOrder 21 = .ok (.goto 5, 3) := by decide +kernel
theorem dX2_readOrder_24 : decode cX2_readOrder 24 = .ok (.bipush 32, 2) := by decide +kernel
theorem dX2_readOrder_26 : decode cX2_readOrder 26 = .ok (.putfield 26, 3) := by decide +kernel
theorem dX2_readOrder_29 : decode cX2_readOrder 29 = .ok (.aload_n 0, 1) := by decide +kernel
theorem dX2_readOrder_30 : decode cX2_readOrder 30 = .ok (.getfield 26, 3) := by decide +kernel
theorem dX2_readOrder_33 : decode cX2_readOrder 33 = .ok (.lookupswitch 155 #[(43, 89), (45, 134), (107, 43), (116, 134)], 43) := by decide +kernel
theorem dX2_readOrder_76 : decode cX2_readOrder 76 = .ok (.aload_n 0, 1) := by decide +kernel
theorem dX2_readOrder_77 : decode cX2_readOrder 77 = .ok (.dup, 1) := by decide +kernel
theorem dX2_readOrder_78 : decode cX2_readOrder 78 = .ok (.getfield 19, 3) := by decide +kernel
theorem dX2_readOrder_81 : decode cX2_readOrder 81 = .ok (.iconst 1, 1) := by decide +kernel
theorem dX2_readOrder_82 : decode cX2_readOrder 82 = .ok (.iadd, 1) := by decide +kernel
theorem dX2_readOrder_83 : decode cX2_readOrder 83 = .ok (.putfield 19, 3) := by decide +kernel
theorem dX2_readOrder_86 : decode cX2_readOrder 86 = .ok (.aload_n 0, 1) := by decide +kernel
theorem dX2_readOrder_87 : decode cX2_readOrder 87 = .ok (.aload_n 0, 1) := by decide +kernel
theorem dX2_readOrder_88 : decode cX2_readOrder 88 = .ok (.iconst 5, 1) := by decide +kernel
theorem dX2_readOrder_89 : decode cX2_readOrder 89 = .ok (.invokevirtual 52, 3) := by decide +kernel
theorem dX2_readOrder_92 : decode cX2_readOrder 92 = .ok (.putfield 30, 3) := by decide +kernel
theorem dX2_readOrder_95 : decode cX2_readOrder 95 = .ok (.iconst 0, 1) := by decide +kernel
theorem dX2_readOrder_96 : decode cX2_readOrder 96 = .ok (.istore_n 1, 1) := by decide +kernel
theorem dX2_readOrder_97 : decode cX2_readOrder 97 = .ok (.iload_n 1, 1) := by decide +kernel
theorem dX2_readOrder_98 : decode cX2_readOrder 98 = .ok (.iconst 4, 1) := by decide +kernel
theorem dX2_readOrder_99 : decode cX2_readOrder 99 = .ok (.if_icmp .ge 20, 3) := by decide +kernel
theorem dX2_readOrder_102 : decode cX2_readOrder 102 = .ok (.aload_n 0, 1) := by decide +kernel
theorem dX2_readOrder_103 : decode cX2_readOrder 103 = .ok (.getfield 39, 3) := by decide +kernel
theorem dX2_readOrder_106 : decode cX2_readOrder 106 = .ok (.iload_n 1, 1) := by decide +kernel
theorem dX2_readOrder_107 : decode cX2_readOrder 107 = .ok (.aload_n 0, 1) := by decide +kernel
theorem dX2_readOrder_108 : decode cX2_readOrder 108 = .ok (.iconst 5, 1) := by decide +kernel
theorem dX2_readOrder_109 : decode cX2_readOrder 109 = .ok (.invokevirtual 52, 3) := by decide +kernel
theorem dX2_readOrder_112 : decode cX2_readOrder 112 = .ok (.iastore, 1) := by decide +kernel
theorem dX2_readOrder_113 : decode cX2_readOrder 113 = .ok (.iinc 1 1, 3) := by decide +kernel
theorem dX2_readOrder_116 : decode cX2_readOrder 116 = .ok (.goto (-19), 3) := by decide +kernel
theorem dX2_readOrder_119 : decode cX2_readOrder 119 = .ok (.goto 74, 3) := by decide +kernel
theorem dX2_readOrder_122 : decode cX2_readOrder 122 = .ok (.aload_n 0, 1) := by decide +kernel
theorem dX2_readOrder_123 : decode cX2_readOrder 123 = .ok (.dup, 1) := by decide +kernel
theorem dX2_readOrder_124 : decode cX2_readOrder 124 = .ok (.getfield 19, 3) := by decide +kernel
theorem dX2_readOrder_127 : decode cX2_readOrder 127 = .ok (.iconst 1, 1) := by decide +kernel
theorem dX2_readOrder_128 : decode cX2_readOrder 128 = .ok (.iadd, 1) := by decide +kernel
theorem dX2_readOrder_129 : decode cX2_readOrder 129 = .ok (.putfield 19, 3) := by decide +kernel
theorem dX2_readOrder_132 : decode cX2_readOrder 132 = .ok (.aload_n 0, 1) := by decide +kernel
theorem dX2_readOrder_133 : decode cX2_readOrder 133 = .ok (.aload_n 0, 1) := by decide +kernel
theorem dX2_readOrder_134 : decode cX2_readOrder 134 = .ok (.iconst 5, 1) := by decide +kernel
theorem dX2_readOrder_135 : decode cX2_readOrder 135 = .ok (.invokevirtual 52, 3) := by decide +kernel
theorem dX2_readOrder_138 : decode cX2_readOrder 138 = .ok (.putfield 30, 3) := by decide +kernel
theorem dX2_readOrder_141 : decode cX2_readOrder 141 = .ok (.aload_n 0, 1) := by decide +kernel
theorem dX2_readOrder_142 : decode cX2_readOrder 142 = .ok (.aload_n 0, 1) := by decide +kernel
theorem dX2_readOrder_143 : decode cX2_readOrder 143 = .ok (.iconst 3, 1) := by decide +kernel
theorem dX2_readOrder_144 : decode cX2_readOrder 144 = .ok (.invokevirtual 52, 3) := by decide +kernel
theorem dX2_readOrder_147 : decode cX2_readOrder 147 = .ok (.putfield 33, 3) := by decide +kernel
theorem dX2_readOrder_150 : decode cX2_readOrder 150 = .ok (.aload_n 0, 1) := by decide +kernel
theorem dX2_readOrder_151 : decode cX2_readOrder 151 = .ok (.bipush 64, 2) := by decide +kernel
theorem dX2_readOrder_153 : decode cX2_readOrder 153 = .ok (.invokevirtual 56, 3) := by decide +kernel
theorem dX2_readOrder_156 : decode cX2_readOrder 156 = .ok (.aload_n 0, 1) := by decide +kernel
theorem dX2_readOrder_157 : decode cX2_readOrder 157 = .ok (.aload_n 0, 1) := by decide +kernel
theorem dX2_readOrder_158 : decode cX2_readOrder 158 = .ok (.invokevirtual 60, 3) := by decide +kernel
theorem dX2_readOrder_161 : decode cX2_readOrder 161 = .ok (.putfield 36, 3) := by decide +kernel
theorem dX2_readOrder_164 : decode cX2_readOrder 164 = .ok (.goto 29, 3) := by decide +kernel
theorem dX2_readOrder_167 : decode cX2_readOrder 167 = .ok (.aload_n 0, 1) := by decide +kernel
theorem dX2_readOrder_168 : decode cX2_readOrder 168 = .ok (.dup, 1) := by decide +kernel
theorem dX2_readOrder_169 : decode cX2_readOrder 169 = .ok (.getfield 19, 3) := by decide +kernel
theorem dX2_readOrder_172 : decode cX2_readOrder 172 = .ok (.iconst 1, 1) := by decide +kernel
theorem dX2_readOrder_173 : decode cX2_readOrder 173 = .ok (.iadd, 1) := by decide +kernel
theorem dX2_readOrder_174 : decode cX2_readOrder 174 = .ok (.putfield 19, 3) := by decide +kernel
theorem dX2_readOrder_177 : decode cX2_readOrder 177 = .ok (.aload_n 0, 1) := by decide +kernel
theorem dX2_readOrder_178 : decode cX2_readOrder 178 = .ok (.aload_n 0, 1) := by decide +kernel
theorem dX2_readOrder_179 : decode cX2_readOrder 179 = .ok (.invokevirtual 60, 3) := by decide +kernel
theorem dX2_readOrder_182 : decode cX2_readOrder 182 = .ok (.putfield 36, 3) := by decide +kernel
theorem dX2_readOrder_185 : decode cX2_readOrder 185 = .ok (.goto 8, 3) := by decide +kernel
theorem dX2_readOrder_188 : decode cX2_readOrder 188 = .ok (.aload_n 0, 1) := by decide +kernel
theorem dX2_readOrder_189 : decode cX2_readOrder 189 = .ok (.iconst 1, 1) := by decide +kernel
theorem dX2_readOrder_190 : decode cX2_readOrder 190 = .ok (.putfield 22, 3) := by decide +kernel
theorem dX2_readOrder_193 : decode cX2_readOrder 193 = .ok (.return_, 1) := by decide +kernel
theorem dX2_readSeparator_0 : decode cX2_readSeparator 0 = .ok (.aload_n 0, 1) := by decide +kernel
theorem dX2_readSeparator_1 : decode cX2_readSeparator 1 = .ok (.getfield 19, 3) := by decide +kernel
theorem dX2_readSeparator_4 : decode cX2_readSeparator 4 = .ok (.aload_n 0, 1) := by decide +kernel
theorem dX2_readSeparator_5 : decode cX2_readSeparator 5 = .ok (.getfield 15, 3) := by decide +kernel
theorem dX2_readSeparator_8 : decode cX2_readSeparator 8 = .ok (.if_icmp .ge 9, 3) := by decide +kernel
theorem dX2_readSeparator_11 : decode cX2_readSeparator 11 = .ok (.aload_n 0, 1) := by decide +kernel
theorem dX2_readSeparator_12 : decode cX2_readSeparator 12 = .ok (.bipush 59, 2) := by decide +kernel
theorem dX2_readSeparator_14 : decode cX2_readSeparator 14 = .ok (.invokevirtual 56, 3) := by decide +kernel
theorem dX2_readSeparator_17 : decode cX2_readSeparator 17 = .ok (.return_, 1) := by decide +kernel
theorem dX2_isFaulty_0 : decode cX2_isFaulty 0 = .ok (.aload_n 0, 1) := by decide +kernel
theorem dX2_isFaulty_1 : decode cX2_isFaulty 1 = .ok (.getfield 22, 3) := by decide +kernel
theorem dX2_isFaulty_4 : decode cX2_isFaulty 4 = .ok (.ireturn, 1) := by decide +kernel
theorem dX2_position_0 : decode cX2_position 0 = .ok (.aload_n 0, 1) := by decide +kernel
theorem dX2_position_1 : decode cX2_position 1 = .ok (.getfield 19, 3) := by decide +kernel
theorem dX2_position_4 : decode cX2_position 4 = .ok (.ireturn, 1) := by decide +kernel
theorem dX2_sort_0 : decode cX2_sort 0 = .ok (.aload_n 0, 1) := by decide +kernel
theorem dX2_sort_1 : decode cX2_sort 1 = .ok (.getfield 26, 3) := by decide +kernel
theorem dX2_sort_4 : decode cX2_sort 4 = .ok (.ireturn, 1) := by decide +kernel
theorem dX2_kind_0 : decode cX2_kind 0 = .ok (.aload_n 0, 1) := by decide +kernel
theorem dX2_kind_1 : decode cX2_kind 1 = .ok (.getfield 30, 3) := by decide +kernel
theorem dX2_kind_4 : decode cX2_kind 4 = .ok (.ireturn, 1) := by decide +kernel
theorem dX2_turns_0 : decode cX2_turns 0 = .ok (.aload_n 0, 1) := by decide +kernel
theorem dX2_turns_1 : decode cX2_turns 1 = .ok (.getfield 33, 3) := by decide +kernel
theorem dX2_turns_4 : decode cX2_turns 4 = .ok (.ireturn, 1) := by decide +kernel
theorem dX2_cellNumber_0 : decode cX2_cellNumber 0 = .ok (.aload_n 0, 1) := by decide +kernel
theorem dX2_cellNumber_1 : decode cX2_cellNumber 1 = .ok (.getfield 36, 3) := by decide +kernel
theorem dX2_cellNumber_4 : decode cX2_cellNumber 4 = .ok (.ireturn, 1) := by decide +kernel
theorem dX2_colours_0 : decode cX2_colours 0 = .ok (.aload_n 0, 1) := by decide +kernel
theorem dX2_colours_1 : decode cX2_colours 1 = .ok (.getfield 39, 3) := by decide +kernel
theorem dX2_colours_4 : decode cX2_colours 4 = .ok (.areturn, 1) := by decide +kernel
theorem dX2_readSign_0 : decode cX2_readSign 0 = .ok (.aload_n 0, 1) := by decide +kernel
theorem dX2_readSign_1 : decode cX2_readSign 1 = .ok (.getfield 22, 3) := by decide +kernel
theorem dX2_readSign_4 : decode cX2_readSign 4 = .ok (.ifCond .ne 40, 3) := by decide +kernel
theorem dX2_readSign_7 : decode cX2_readSign 7 = .ok (.aload_n 0, 1) := by decide +kernel
theorem dX2_readSign_8 : decode cX2_readSign 8 = .ok (.getfield 19, 3) := by decide +kernel
theorem dX2_readSign_11 : decode cX2_readSign 11 = .ok (.aload_n 0, 1) := by decide +kernel
theorem dX2_readSign_12 : decode cX2_readSign 12 = .ok (.getfield 15, 3) := by decide +kernel
theorem dX2_readSign_15 : decode cX2_readSign 15 = .ok (.if_icmp .ge 29, 3) := by decide +kernel
theorem dX2_readSign_18 : decode cX2_readSign 18 = .ok (.aload_n 0, 1) := by decide +kernel
theorem dX2_readSign_19 : decode cX2_readSign 19 = .ok (.getfield 9, 3) := by decide +kernel
theorem dX2_readSign_22 : decode cX2_readSign 22 = .ok (.aload_n 0, 1) := by decide +kernel
theorem dX2_readSign_23 : decode cX2_readSign 23 = .ok (.getfield 19, 3) := by decide +kernel
theorem dX2_readSign_26 : decode cX2_readSign 26 = .ok (.caload, 1) := by decide +kernel
theorem dX2_readSign_27 : decode cX2_readSign 27 = .ok (.iload_n 1, 1) := by decide +kernel
theorem dX2_readSign_28 : decode cX2_readSign 28 = .ok (.if_icmp .ne 16, 3) := by decide +kernel
theorem dX2_readSign_31 : decode cX2_readSign 31 = .ok (.aload_n 0, 1) := by decide +kernel
theorem dX2_readSign_32 : decode cX2_readSign 32 = .ok (.dup, 1) := by decide +kernel
theorem dX2_readSign_33 : decode cX2_readSign 33 = .ok (.getfield 19, 3) := by decide +kernel
theorem dX2_readSign_36 : decode cX2_readSign 36 = .ok (.iconst 1, 1) := by decide +kernel
theorem dX2_readSign_37 : decode cX2_readSign 37 = .ok (.iadd, 1) := by decide +kernel
theorem dX2_readSign_38 : decode cX2_readSign 38 = .ok (.putfield 19, 3) := by decide +kernel
theorem dX2_readSign_41 : decode cX2_readSign 41 = .ok (.goto 8, 3) := by decide +kernel
theorem dX2_readSign_44 : decode cX2_readSign 44 = .ok (.aload_n 0, 1) := by decide +kernel
theorem dX2_readSign_45 : decode cX2_readSign 45 = .ok (.iconst 1, 1) := by decide +kernel
theorem dX2_readSign_46 : decode cX2_readSign 46 = .ok (.putfield 22, 3) := by decide +kernel
theorem dX2_readSign_49 : decode cX2_readSign 49 = .ok (.return_, 1) := by decide +kernel
theorem dX2_readDigit_0 : decode cX2_readDigit 0 = .ok (.aload_n 0, 1) := by decide +kernel
theorem dX2_readDigit_1 : decode cX2_readDigit 1 = .ok (.invokevirtual 64, 3) := by decide +kernel
theorem dX2_readDigit_4 : decode cX2_readDigit 4 = .ok (.istore_n 2, 1) := by decide +kernel
theorem dX2_readDigit_5 : decode cX2_readDigit 5 = .ok (.aload_n 0, 1) := by decide +kernel
theorem dX2_readDigit_6 : decode cX2_readDigit 6 = .ok (.getfield 22, 3) := by decide +kernel
theorem dX2_readDigit_9 : decode cX2_readDigit 9 = .ok (.ifCond .ne 12, 3) := by decide +kernel
theorem dX2_readDigit_12 : decode cX2_readDigit 12 = .ok (.iload_n 2, 1) := by decide +kernel
theorem dX2_readDigit_13 : decode cX2_readDigit 13 = .ok (.ifCond .lt 8, 3) := by decide +kernel
theorem dX2_readDigit_16 : decode cX2_readDigit 16 = .ok (.iload_n 2, 1) := by decide +kernel
theorem dX2_readDigit_17 : decode cX2_readDigit 17 = .ok (.iload_n 1, 1) := by decide +kernel
theorem dX2_readDigit_18 : decode cX2_readDigit 18 = .ok (.if_icmp .le 10, 3) := by decide +kernel
theorem dX2_readDigit_21 : decode cX2_readDigit 21 = .ok (.aload_n 0, 1) := by decide +kernel
theorem dX2_readDigit_22 : decode cX2_readDigit 22 = .ok (.iconst 1, 1) := by decide +kernel
theorem dX2_readDigit_23 : decode cX2_readDigit 23 = .ok (.putfield 22, 3) := by decide +kernel
theorem dX2_readDigit_26 : decode cX2_readDigit 26 = .ok (.iconst 0, 1) := by decide +kernel
theorem dX2_readDigit_27 : decode cX2_readDigit 27 = .ok (.ireturn, 1) := by decide +kernel
theorem dX2_readDigit_28 : decode cX2_readDigit 28 = .ok (.aload_n 0, 1) := by decide +kernel
theorem dX2_readDigit_29 : decode cX2_readDigit 29 = .ok (.dup, 1) := by decide +kernel
theorem dX2_readDigit_30 : decode cX2_readDigit 30 = .ok (.getfield 19, 3) := by decide +kernel
theorem dX2_readDigit_33 : decode cX2_readDigit 33 = .ok (.iconst 1, 1) := by decide +kernel
theorem dX2_readDigit_34 : decode cX2_readDigit 34 = .ok (.iadd, 1) := by decide +kernel
theorem dX2_readDigit_35 : decode cX2_readDigit 35 = .ok (.putfield 19, 3) := by decide +kernel
theorem dX2_readDigit_38 : decode cX2_readDigit 38 = .ok (.iload_n 2, 1) := by decide +kernel
theorem dX2_readDigit_39 : decode cX2_readDigit 39 = .ok (.ireturn, 1) := by decide +kernel
theorem dX2_readCellNumber_0 : decode cX2_readCellNumber 0 = .ok (.aload_n 0, 1) := by decide +kernel
theorem dX2_readCellNumber_1 : decode cX2_readCellNumber 1 = .ok (.bipush 9, 2) := by decide +kernel
theorem dX2_readCellNumber_3 : decode cX2_readCellNumber 3 = .ok (.invokevirtual 52, 3) := by decide +kernel
theorem dX2_readCellNumber_6 : decode cX2_readCellNumber 6 = .ok (.istore_n 1, 1) := by decide +kernel
theorem dX2_readCellNumber_7 : decode cX2_readCellNumber 7 = .ok (.iconst 0, 1) := by decide +kernel
theorem dX2_readCellNumber_8 : decode cX2_readCellNumber 8 = .ok (.istore_n 2, 1) := by decide +kernel
theorem dX2_readCellNumber_9 : decode cX2_readCellNumber 9 = .ok (.iload_n 2, 1) := by decide +kernel
theorem dX2_readCellNumber_10 : decode cX2_readCellNumber 10 = .ok (.iconst 2, 1) := by decide +kernel
theorem dX2_readCellNumber_11 : decode cX2_readCellNumber 11 = .ok (.if_icmp .ge 61, 3) := by decide +kernel
theorem dX2_readCellNumber_14 : decode cX2_readCellNumber 14 = .ok (.aload_n 0, 1) := by decide +kernel
theorem dX2_readCellNumber_15 : decode cX2_readCellNumber 15 = .ok (.getfield 22, 3) := by decide +kernel
theorem dX2_readCellNumber_18 : decode cX2_readCellNumber 18 = .ok (.ifCond .ne 54, 3) := by decide +kernel
theorem dX2_readCellNumber_21 : decode cX2_readCellNumber 21 = .ok (.iload_n 1, 1) := by decide +kernel
theorem dX2_readCellNumber_22 : decode cX2_readCellNumber 22 = .ok (.ifCond .le 50, 3) := by decide +kernel
theorem dX2_readCellNumber_25 : decode cX2_readCellNumber 25 = .ok (.aload_n 0, 1) := by decide +kernel
theorem dX2_readCellNumber_26 : decode cX2_readCellNumber 26 = .ok (.invokevirtual 64, 3) := by decide +kernel
theorem dX2_readCellNumber_29 : decode cX2_readCellNumber 29 = .ok (.istore_n 3, 1) := by decide +kernel
theorem dX2_readCellNumber_30 : decode cX2_readCellNumber 30 = .ok (.iload_n 3, 1) := by decide +kernel
theorem dX2_readCellNumber_31 : decode cX2_readCellNumber 31 = .ok (.ifCond .lt 41, 3) := by decide +kernel
theorem dX2_readCellNumber_34 : decode cX2_readCellNumber 34 = .ok (.bipush 10, 2) := by decide +kernel
theorem dX2_readCellNumber_36 : decode cX2_readCellNumber 36 = .ok (.iload_n 1, 1) := by decide +kernel
theorem dX2_readCellNumber_37 : decode cX2_readCellNumber 37 = .ok (.imul, 1) := by decide +kernel
theorem dX2_readCellNumber_38 : decode cX2_readCellNumber 38 = .ok (.iload_n 3, 1) := by decide +kernel
theorem dX2_readCellNumber_39 : decode cX2_readCellNumber 39 = .ok (.iadd, 1) := by decide +kernel
theorem dX2_readCellNumber_40 : decode cX2_readCellNumber 40 = .ok (.sipush 150, 3) := by decide +kernel
theorem dX2_readCellNumber_43 : decode cX2_readCellNumber 43 = .ok (.if_icmp .lt 6, 3) := by decide +kernel
theorem dX2_readCellNumber_46 : decode cX2_readCellNumber 46 = .ok (.goto 26, 3) := by decide +kernel
theorem dX2_readCellNumber_49 : decode cX2_readCellNumber 49 = .ok (.bipush 10, 2) := by decide +kernel
theorem dX2_readCellNumber_51 : decode cX2_readCellNumber 51 = .ok (.iload_n 1, 1) := by decide +kernel
theorem dX2_readCellNumber_52 : decode cX2_readCellNumber 52 = .ok (.imul, 1) := by decide +kernel
theorem dX2_readCellNumber_53 : decode cX2_readCellNumber 53 = .ok (.iload_n 3, 1) := by decide +kernel
theorem dX2_readCellNumber_54 : decode cX2_readCellNumber 54 = .ok (.iadd, 1) := by decide +kernel
theorem dX2_readCellNumber_55 : decode cX2_readCellNumber 55 = .ok (.istore_n 1, 1) := by decide +kernel
theorem dX2_readCellNumber_56 : decode cX2_readCellNumber 56 = .ok (.aload_n 0, 1) := by decide +kernel
theorem dX2_readCellNumber_57 : decode cX2_readCellNumber 57 = .ok (.dup, 1) := by decide +kernel
theorem dX2_readCellNumber_58 : decode cX2_readCellNumber 58 = .ok (.getfield 19, 3) := by decide +kernel
theorem dX2_readCellNumber_61 : decode cX2_readCellNumber 61 = .ok (.iconst 1, 1) := by decide +kernel
theorem dX2_readCellNumber_62 : decode cX2_readCellNumber 62 = .ok (.iadd, 1) := by decide +kernel
theorem dX2_readCellNumber_63 : decode cX2_readCellNumber 63 = .ok (.putfield 19, 3) := by decide +kernel
theorem dX2_readCellNumber_66 : decode cX2_readCellNumber 66 = .ok (.iinc 2 1, 3) := by decide +kernel
theorem dX2_readCellNumber_69 : decode cX2_readCellNumber 69 = .ok (.goto (-60), 3) := by decide +kernel
theorem dX2_readCellNumber_72 : decode cX2_readCellNumber 72 = .ok (.iload_n 1, 1) := by decide +kernel
theorem dX2_readCellNumber_73 : decode cX2_readCellNumber 73 = .ok (.ireturn, 1) := by decide +kernel
theorem dX2_digitAhead_0 : decode cX2_digitAhead 0 = .ok (.aload_n 0, 1) := by decide +kernel
theorem dX2_digitAhead_1 : decode cX2_digitAhead 1 = .ok (.getfield 19, 3) := by decide +kernel
theorem dX2_digitAhead_4 : decode cX2_digitAhead 4 = .ok (.aload_n 0, 1) := by decide +kernel
theorem dX2_digitAhead_5 : decode cX2_digitAhead 5 = .ok (.getfield 15, 3) := by decide +kernel
theorem dX2_digitAhead_8 : decode cX2_digitAhead 8 = .ok (.if_icmp .lt 5, 3) := by decide +kernel
theorem dX2_digitAhead_11 : decode cX2_digitAhead 11 = .ok (.iconst (-1), 1) := by decide +kernel
theorem dX2_digitAhead_12 : decode cX2_digitAhead 12 = .ok (.ireturn, 1) := by decide +kernel
theorem dX2_digitAhead_13 : decode cX2_digitAhead 13 = .ok (.aload_n 0, 1) := by decide +kernel
theorem dX2_digitAhead_14 : decode cX2_digitAhead 14 = .ok (.getfield 9, 3) := by decide +kernel
theorem dX2_digitAhead_17 : decode cX2_digitAhead 17 = .ok (.aload_n 0, 1) := by decide +kernel
theorem dX2_digitAhead_18 : decode cX2_digitAhead 18 = .ok (.getfield 19, 3) := by decide +kernel
theorem dX2_digitAhead_21 : decode cX2_digitAhead 21 = .ok (.caload, 1) := by decide +kernel
theorem dX2_digitAhead_22 : decode cX2_digitAhead 22 = .ok (.istore_n 1, 1) := by decide +kernel
theorem dX2_digitAhead_23 : decode cX2_digitAhead 23 = .ok (.iload_n 1, 1) := by decide +kernel
theorem dX2_digitAhead_24 : decode cX2_digitAhead 24 = .ok (.bipush 48, 2) := by decide +kernel
theorem dX2_digitAhead_26 : decode cX2_digitAhead 26 = .ok (.if_icmp .lt 16, 3) := by decide +kernel
theorem dX2_digitAhead_29 : decode cX2_digitAhead 29 = .ok (.iload_n 1, 1) := by decide +kernel
theorem dX2_digitAhead_30 : decode cX2_digitAhead 30 = .ok (.bipush 57, 2) := by decide +kernel
theorem dX2_digitAhead_32 : decode cX2_digitAhead 32 = .ok (.if_icmp .gt 10, 3) := by decide +kernel
theorem dX2_digitAhead_35 : decode cX2_digitAhead 35 = .ok (.iload_n 1, 1) := by decide +kernel
theorem dX2_digitAhead_36 : decode cX2_digitAhead 36 = .ok (.bipush 48, 2) := by decide +kernel
theorem dX2_digitAhead_38 : decode cX2_digitAhead 38 = .ok (.isub, 1) := by decide +kernel
theorem dX2_digitAhead_39 : decode cX2_digitAhead 39 = .ok (.goto 4, 3) := by decide +kernel
theorem dX2_digitAhead_42 : decode cX2_digitAhead 42 = .ok (.iconst (-1), 1) := by decide +kernel
theorem dX2_digitAhead_43 : decode cX2_digitAhead 43 = .ok (.ireturn, 1) := by decide +kernel
theorem dX3_init_0 : decode cX3_init 0 = .ok (.aload_n 0, 1) := by decide +kernel
theorem dX3_init_1 : decode cX3_init 1 = .ok (.invokespecial 3, 3) := by decide +kernel
theorem dX3_init_4 : decode cX3_init 4 = .ok (.aload_n 0, 1) := by decide +kernel
theorem dX3_init_5 : decode cX3_init 5 = .ok (.iconst 4, 1) := by decide +kernel
theorem dX3_init_6 : decode cX3_init 6 = .ok (.anewarray 9, 3) := by decide +kernel
theorem dX3_init_9 : decode cX3_init 9 = .ok (.putfield 11, 3) := by decide +kernel
theorem dX3_init_12 : decode cX3_init 12 = .ok (.aload_n 0, 1) := by decide +kernel
theorem dX3_init_13 : decode cX3_init 13 = .ok (.iconst 0, 1) := by decide +kernel
theorem dX3_init_14 : decode cX3_init 14 = .ok (.putfield 17, 3) := by decide +kernel
theorem dX3_init_17 : decode cX3_init 17 = .ok (.iconst 0, 1) := by decide +kernel
theorem dX3_init_18 : decode cX3_init 18 = .ok (.istore_n 1, 1) := by decide +kernel
theorem dX3_init_19 : decode cX3_init 19 = .ok (.iload_n 1, 1) := by decide +kernel
theorem dX3_init_20 : decode cX3_init 20 = .ok (.iconst 4, 1) := by decide +kernel
theorem dX3_init_21 : decode cX3_init 21 = .ok (.if_icmp .ge 22, 3) := by decide +kernel
theorem dX3_init_24 : decode cX3_init 24 = .ok (.aload_n 0, 1) := by decide +kernel
theorem dX3_init_25 : decode cX3_init 25 = .ok (.getfield 11, 3) := by decide +kernel
theorem dX3_init_28 : decode cX3_init 28 = .ok (.iload_n 1, 1) := by decide +kernel
theorem dX3_init_29 : decode cX3_init 29 = .ok (.new 9, 3) := by decide +kernel
theorem dX3_init_32 : decode cX3_init 32 = .ok (.dup, 1) := by decide +kernel
theorem dX3_init_33 : decode cX3_init 33 = .ok (.invokespecial 21, 3) := by decide +kernel
theorem dX3_init_36 : decode cX3_init 36 = .ok (.aastore, 1) := by decide +kernel
theorem dX3_init_37 : decode cX3_init 37 = .ok (.iinc 1 1, 3) := by decide +kernel
theorem dX3_init_40 : decode cX3_init 40 = .ok (.goto (-21), 3) := by decide +kernel
theorem dX3_init_43 : decode cX3_init 43 = .ok (.return_, 1) := by decide +kernel
theorem dX3_count_0 : decode cX3_count 0 = .ok (.aload_n 0, 1) := by decide +kernel
theorem dX3_count_1 : decode cX3_count 1 = .ok (.getfield 17, 3) := by decide +kernel
theorem dX3_count_4 : decode cX3_count 4 = .ok (.ireturn, 1) := by decide +kernel
theorem dX3_add_0 : decode cX3_add 0 = .ok (.aload_n 0, 1) := by decide +kernel
theorem dX3_add_1 : decode cX3_add 1 = .ok (.getfield 17, 3) := by decide +kernel
theorem dX3_add_4 : decode cX3_add 4 = .ok (.iconst 4, 1) := by decide +kernel
theorem dX3_add_5 : decode cX3_add 5 = .ok (.if_icmp .ne 7, 3) := by decide +kernel
theorem dX3_add_8 : decode cX3_add 8 = .ok (.aload_n 0, 1) := by decide +kernel
theorem dX3_add_9 : decode cX3_add 9 = .ok (.invokevirtual 22, 3) := by decide +kernel
theorem dX3_add_12 : decode cX3_add 12 = .ok (.aload_n 0, 1) := by decide +kernel
theorem dX3_add_13 : decode cX3_add 13 = .ok (.getfield 11, 3) := by decide +kernel
theorem dX3_add_16 : decode cX3_add 16 = .ok (.aload_n 0, 1) := by decide +kernel
theorem dX3_add_17 : decode cX3_add 17 = .ok (.getfield 17, 3) := by decide +kernel
theorem dX3_add_20 : decode cX3_add 20 = .ok (.aaload, 1) := by decide +kernel
theorem dX3_add_21 : decode cX3_add 21 = .ok (.aload_n 1, 1) := by decide +kernel
theorem dX3_add_22 : decode cX3_add 22 = .ok (.invokevirtual 25, 3) := by decide +kernel
theorem dX3_add_25 : decode cX3_add 25 = .ok (.aload_n 0, 1) := by decide +kernel
theorem dX3_add_26 : decode cX3_add 26 = .ok (.dup, 1) := by decide +kernel
theorem dX3_add_27 : decode cX3_add 27 = .ok (.getfield 17, 3) := by decide +kernel
theorem dX3_add_30 : decode cX3_add 30 = .ok (.iconst 1, 1) := by decide +kernel
theorem dX3_add_31 : decode cX3_add 31 = .ok (.iadd, 1) := by decide +kernel
theorem dX3_add_32 : decode cX3_add 32 = .ok (.putfield 17, 3) := by decide +kernel
theorem dX3_add_35 : decode cX3_add 35 = .ok (.return_, 1) := by decide +kernel
theorem dX3_takeLatest_0 : decode cX3_takeLatest 0 = .ok (.aload_n 0, 1) := by decide +kernel
theorem dX3_takeLatest_1 : decode cX3_takeLatest 1 = .ok (.getfield 17, 3) := by decide +kernel
theorem dX3_takeLatest_4 : decode cX3_takeLatest 4 = .ok (.ifCond .le 26, 3) := by decide +kernel
theorem dX3_takeLatest_7 : decode cX3_takeLatest 7 = .ok (.aload_n 0, 1) := by decide +kernel
theorem dX3_takeLatest_8 : decode cX3_takeLatest 8 = .ok (.dup, 1) := by decide +kernel
theorem dX3_takeLatest_9 : decode cX3_takeLatest 9 = .ok (.getfield 17, 3) := by decide +kernel
theorem dX3_takeLatest_12 : decode cX3_takeLatest 12 = .ok (.iconst 1, 1) := by decide +kernel
theorem dX3_takeLatest_13 : decode cX3_takeLatest 13 = .ok (.isub, 1) := by decide +kernel
theorem dX3_takeLatest_14 : decode cX3_takeLatest 14 = .ok (.putfield 17, 3) := by decide +kernel
theorem dX3_takeLatest_17 : decode cX3_takeLatest 17 = .ok (.aload_n 1, 1) := by decide +kernel
theorem dX3_takeLatest_18 : decode cX3_takeLatest 18 = .ok (.aload_n 0, 1) := by decide +kernel
theorem dX3_takeLatest_19 : decode cX3_takeLatest 19 = .ok (.getfield 11, 3) := by decide +kernel
theorem dX3_takeLatest_22 : decode cX3_takeLatest 22 = .ok (.aload_n 0, 1) := by decide +kernel
theorem dX3_takeLatest_23 : decode cX3_takeLatest 23 = .ok (.getfield 17, 3) := by decide +kernel
theorem dX3_takeLatest_26 : decode cX3_takeLatest 26 = .ok (.aaload, 1) := by decide +kernel
theorem dX3_takeLatest_27 : decode cX3_takeLatest 27 = .ok (.invokevirtual 25, 3) := by decide +kernel
theorem dX3_takeLatest_30 : decode cX3_takeLatest 30 = .ok (.return_, 1) := by decide +kernel
theorem dX3_dropOldest_0 : decode cX3_dropOldest 0 = .ok (.aload_n 0, 1) := by decide +kernel
theorem dX3_dropOldest_1 : decode cX3_dropOldest 1 = .ok (.getfield 11, 3) := by decide +kernel
theorem dX3_dropOldest_4 : decode cX3_dropOldest 4 = .ok (.iconst 0, 1) := by decide +kernel
theorem dX3_dropOldest_5 : decode cX3_dropOldest 5 = .ok (.aaload, 1) := by decide +kernel
theorem dX3_dropOldest_6 : decode cX3_dropOldest 6 = .ok (.astore_n 1, 1) := by decide +kernel
theorem dX3_dropOldest_7 : decode cX3_dropOldest 7 = .ok (.iconst 1, 1) := by decide +kernel
theorem dX3_dropOldest_8 : decode cX3_dropOldest 8 = .ok (.istore_n 2, 1) := by decide +kernel
theorem dX3_dropOldest_9 : decode cX3_dropOldest 9 = .ok (.iload_n 2, 1) := by decide +kernel
theorem dX3_dropOldest_10 : decode cX3_dropOldest 10 = .ok (.iconst 4, 1) := by decide +kernel
theorem dX3_dropOldest_11 : decode cX3_dropOldest 11 = .ok (.if_icmp .ge 23, 3) := by decide +kernel
theorem dX3_dropOldest_14 : decode cX3_dropOldest 14 = .ok (.aload_n 0, 1) := by decide +kernel
theorem dX3_dropOldest_15 : decode cX3_dropOldest 15 = .ok (.getfield 11, 3) := by decide +kernel
theorem dX3_dropOldest_18 : decode cX3_dropOldest 18 = .ok (.iload_n 2, 1) := by decide +kernel
theorem dX3_dropOldest_19 : decode cX3_dropOldest 19 = .ok (.iconst 1, 1) := by decide +kernel
theorem dX3_dropOldest_20 : decode cX3_dropOldest 20 = .ok (.isub, 1) := by decide +kernel
theorem dX3_dropOldest_21 : decode cX3_dropOldest 21 = .ok (.aload_n 0, 1) := by decide +kernel
theorem dX3_dropOldest_22 : decode cX3_dropOldest 22 = .ok (.getfield 11, 3) := by decide +kernel
theorem dX3_dropOldest_25 : decode cX3_dropOldest 25 = .ok (.iload_n 2, 1) := by decide +kernel
theorem dX3_dropOldest_26 : decode cX3_dropOldest 26 = .ok (.aaload, 1) := by decide +kernel
theorem dX3_dropOldest_27 : decode cX3_dropOldest 27 = .ok (.aastore, 1) := by decide +kernel
theorem dX3_dropOldest_28 : decode cX3_dropOldest 28 = .ok (.iinc 2 1, 3) := by decide +kernel
theorem dX3_dropOldest_31 : decode cX3_dropOldest 31 = .ok (.goto (-22), 3) := by decide +kernel
theorem dX3_dropOldest_34 : decode cX3_dropOldest 34 = .ok (.aload_n 0, 1) := by decide +kernel
theorem dX3_dropOldest_35 : decode cX3_dropOldest 35 = .ok (.getfield 11, 3) := by decide +kernel
theorem dX3_dropOldest_38 : decode cX3_dropOldest 38 = .ok (.iconst 3, 1) := by decide +kernel
theorem dX3_dropOldest_39 : decode cX3_dropOldest 39 = .ok (.aload_n 1, 1) := by decide +kernel
theorem dX3_dropOldest_40 : decode cX3_dropOldest 40 = .ok (.aastore, 1) := by decide +kernel
theorem dX3_dropOldest_41 : decode cX3_dropOldest 41 = .ok (.aload_n 0, 1) := by decide +kernel
theorem dX3_dropOldest_42 : decode cX3_dropOldest 42 = .ok (.dup, 1) := by decide +kernel
theorem dX3_dropOldest_43 : decode cX3_dropOldest 43 = .ok (.getfield 17, 3) := by decide +kernel
theorem dX3_dropOldest_46 : decode cX3_dropOldest 46 = .ok (.iconst 1, 1) := by decide +kernel
theorem dX3_dropOldest_47 : decode cX3_dropOldest 47 = .ok (.isub, 1) := by decide +kernel
theorem dX3_dropOldest_48 : decode cX3_dropOldest 48 = .ok (.putfield 17, 3) := by decide +kernel
theorem dX3_dropOldest_51 : decode cX3_dropOldest 51 = .ok (.return_, 1) := by decide +kernel
theorem dX4_init_0 : decode cX4_init 0 = .ok (.aload_n 0, 1) := by decide +kernel
theorem dX4_init_1 : decode cX4_init 1 = .ok (.invokespecial 3, 3) := by decide +kernel
theorem dX4_init_4 : decode cX4_init 4 = .ok (.aload_n 0, 1) := by decide +kernel
theorem dX4_init_5 : decode cX4_init 5 = .ok (.iconst 0, 1) := by decide +kernel
theorem dX4_init_6 : decode cX4_init 6 = .ok (.putfield 9, 3) := by decide +kernel
theorem dX4_init_9 : decode cX4_init 9 = .ok (.aload_n 0, 1) := by decide +kernel
theorem dX4_init_10 : decode cX4_init 10 = .ok (.iconst 0, 1) := by decide +kernel
theorem dX4_init_11 : decode cX4_init 11 = .ok (.putfield 15, 3) := by decide +kernel
theorem dX4_init_14 : decode cX4_init 14 = .ok (.aload_n 0, 1) := by decide +kernel
theorem dX4_init_15 : decode cX4_init 15 = .ok (.bipush 30, 2) := by decide +kernel
theorem dX4_init_17 : decode cX4_init 17 = .ok (.newarray .int, 2) := by decide +kernel
theorem dX4_init_19 : decode cX4_init 19 = .ok (.putfield 18, 3) := by decide +kernel
theorem dX4_init_22 : decode cX4_init 22 = .ok (.aload_n 0, 1) := by decide +kernel
theorem dX4_init_23 : decode cX4_init 23 = .ok (.bipush 30, 2) := by decide +kernel
theorem dX4_init_25 : decode cX4_init 25 = .ok (.newarray .int, 2) := by decide +kernel
theorem dX4_init_27 : decode cX4_init 27 = .ok (.putfield 22, 3) := by decide +kernel
theorem dX4_init_30 : decode cX4_init 30 = .ok (.aload_n 0, 1) := by decide +kernel
theorem dX4_init_31 : decode cX4_init 31 = .ok (.bipush 30, 2) := by decide +kernel
theorem dX4_init_33 : decode cX4_init 33 = .ok (.newarray .int, 2) := by decide +kernel
theorem dX4_init_35 : decode cX4_init 35 = .ok (.putfield 25, 3) := by decide +kernel
theorem dX4_init_38 : decode cX4_init 38 = .ok (.aload_n 0, 1) := by decide +kernel
theorem dX4_init_39 : decode cX4_init 39 = .ok (.bipush 24, 2) := by decide +kernel
theorem dX4_init_41 : decode cX4_init 41 = .ok (.newarray .int, 2) := by decide +kernel
theorem dX4_init_43 : decode cX4_init 43 = .ok (.putfield 28, 3) := by decide +kernel
theorem dX4_init_46 : decode cX4_init 46 = .ok (.iconst 0, 1) := by decide +kernel
theorem dX4_init_47 : decode cX4_init 47 = .ok (.istore_n 1, 1) := by decide +kernel
theorem dX4_init_48 : decode cX4_init 48 = .ok (.iload_n 1, 1) := by decide +kernel
theorem dX4_init_49 : decode cX4_init 49 = .ok (.bipush 6, 2) := by decide +kernel
theorem dX4_init_51 : decode cX4_init 51 = .ok (.if_icmp .ge 38, 3) := by decide +kernel
theorem dX4_init_54 : decode cX4_init 54 = .ok (.iconst 0, 1) := by decide +kernel
theorem dX4_init_55 : decode cX4_init 55 = .ok (.istore_n 2, 1) := by decide +kernel
theorem dX4_init_56 : decode cX4_init 56 = .ok (.iload_n 2, 1) := by decide +kernel
theorem dX4_init_57 : decode cX4_init 57 = .ok (.iconst 4, 1) := by decide +kernel
theorem dX4_init_58 : decode cX4_init 58 = .ok (.if_icmp .ge 25, 3) := by decide +kernel
theorem dX4_init_61 : decode cX4_init 61 = .ok (.aload_n 0, 1) := by decide +kernel
theorem dX4_init_62 : decode cX4_init 62 = .ok (.getfield 28, 3) := by decide +kernel
theorem dX4_init_65 : decode cX4_init 65 = .ok (.iconst 4, 1) := by decide +kernel
theorem dX4_init_66 : decode cX4_init 66 = .ok (.iload_n 1, 1) := by decide +kernel
theorem dX4_init_67 : decode cX4_init 67 = .ok (.imul, 1) := by decide +kernel
theorem dX4_init_68 : decode cX4_init 68 = .ok (.iload_n 2, 1) := by decide +kernel
theorem dX4_init_69 : decode cX4_init 69 = .ok (.iadd, 1) := by decide +kernel
theorem dX4_init_70 : decode cX4_init 70 = .ok (.iload_n 1, 1) := by decide +kernel
theorem dX4_init_71 : decode cX4_init 71 = .ok (.iload_n 2, 1) := by decide +kernel
theorem dX4_init_72 : decode cX4_init 72 = .ok (.iadd, 1) := by decide +kernel
theorem dX4_init_73 : decode cX4_init 73 = .ok (.bipush 6, 2) := by decide +kernel
theorem dX4_init_75 : decode cX4_init 75 = .ok (.irem, 1) := by decide +kernel
theorem dX4_init_76 : decode cX4_init 76 = .ok (.iastore, 1) := by decide +kernel
theorem dX4_init_77 : decode cX4_init 77 = .ok (.iinc 2 1, 3) := by decide +kernel
theorem dX4_init_80 : decode cX4_init 80 = .ok (.goto (-24), 3) := by decide +kernel
theorem dX4_init_83 : decode cX4_init 83 = .ok (.iinc 1 1, 3) := by decide +kernel
theorem dX4_init_86 : decode cX4_init 86 = .ok (.goto (-38), 3) := by decide +kernel
theorem dX4_init_89 : decode cX4_init 89 = .ok (.return_, 1) := by decide +kernel
theorem dX4_copyFrom_0 : decode cX4_copyFrom 0 = .ok (.aload_n 0, 1) := by decide +kernel
theorem dX4_copyFrom_1 : decode cX4_copyFrom 1 = .ok (.aload_n 1, 1) := by decide +kernel
theorem dX4_copyFrom_2 : decode cX4_copyFrom 2 = .ok (.getfield 9, 3) := by decide +kernel
theorem dX4_copyFrom_5 : decode cX4_copyFrom 5 = .ok (.putfield 9, 3) := by decide +kernel
theorem dX4_copyFrom_8 : decode cX4_copyFrom 8 = .ok (.aload_n 0, 1) := by decide +kernel
theorem dX4_copyFrom_9 : decode cX4_copyFrom 9 = .ok (.aload_n 1, 1) := by decide +kernel
theorem dX4_copyFrom_10 : decode cX4_copyFrom 10 = .ok (.getfield 15, 3) := by decide +kernel
theorem dX4_copyFrom_13 : decode cX4_copyFrom 13 = .ok (.putfield 15, 3) := by decide +kernel
theorem dX4_copyFrom_16 : decode cX4_copyFrom 16 = .ok (.aload_n 1, 1) := by decide +kernel
theorem dX4_copyFrom_17 : decode cX4_copyFrom 17 = .ok (.getfield 18, 3) := by decide +kernel
theorem dX4_copyFrom_20 : decode cX4_copyFrom 20 = .ok (.iconst 0, 1) := by decide +kernel
theorem dX4_copyFrom_21 : decode cX4_copyFrom 21 = .ok (.aload_n 0, 1) := by decide +kernel
theorem dX4_copyFrom_22 : decode cX4_copyFrom 22 = .ok (.getfield 18, 3) := by decide +kernel
theorem dX4_copyFrom_25 : decode cX4_copyFrom 25 = .ok (.iconst 0, 1) := by decide +kernel
theorem dX4_copyFrom_26 : decode cX4_copyFrom 26 = .ok (.bipush 30, 2) := by decide +kernel
theorem dX4_copyFrom_28 : decode cX4_copyFrom 28 = .ok (.invokestatic 31, 3) := by decide +kernel
theorem dX4_copyFrom_31 : decode cX4_copyFrom 31 = .ok (.aload_n 1, 1) := by decide +kernel
theorem dX4_copyFrom_32 : decode cX4_copyFrom 32 = .ok (.getfield 22, 3) := by decide +kernel
theorem dX4_copyFrom_35 : decode cX4_copyFrom 35 = .ok (.iconst 0, 1) := by decide +kernel
theorem dX4_copyFrom_36 : decode cX4_copyFrom 36 = .ok (.aload_n 0, 1) := by decide +kernel
theorem dX4_copyFrom_37 : decode cX4_copyFrom 37 = .ok (.getfield 22, 3) := by decide +kernel
theorem dX4_copyFrom_40 : decode cX4_copyFrom 40 = .ok (.iconst 0, 1) := by decide +kernel
theorem dX4_copyFrom_41 : decode cX4_copyFrom 41 = .ok (.bipush 30, 2) := by decide +kernel
theorem dX4_copyFrom_43 : decode cX4_copyFrom 43 = .ok (.invokestatic 31, 3) := by decide +kernel
theorem dX4_copyFrom_46 : decode cX4_copyFrom 46 = .ok (.aload_n 1, 1) := by decide +kernel
theorem dX4_copyFrom_47 : decode cX4_copyFrom 47 = .ok (.getfield 25, 3) := by decide +kernel
theorem dX4_copyFrom_50 : decode cX4_copyFrom 50 = .ok (.iconst 0, 1) := by decide +kernel
theorem dX4_copyFrom_51 : decode cX4_copyFrom 51 = .ok (.aload_n 0, 1) := by decide +kernel
theorem dX4_copyFrom_52 : decode cX4_copyFrom 52 = .ok (.getfield 25, 3) := by decide +kernel
theorem dX4_copyFrom_55 : decode cX4_copyFrom 55 = .ok (.iconst 0, 1) := by decide +kernel
theorem dX4_copyFrom_56 : decode cX4_copyFrom 56 = .ok (.bipush 30, 2) := by decide +kernel
theorem dX4_copyFrom_58 : decode cX4_copyFrom 58 = .ok (.invokestatic 31, 3) := by decide +kernel
theorem dX4_copyFrom_61 : decode cX4_copyFrom 61 = .ok (.aload_n 1, 1) := by decide +kernel
theorem dX4_copyFrom_62 : decode cX4_copyFrom 62 = .ok (.getfield 28, 3) := by decide +kernel
theorem dX4_copyFrom_65 : decode cX4_copyFrom 65 = .ok (.iconst 0, 1) := by decide +kernel
theorem dX4_copyFrom_66 : decode cX4_copyFrom 66 = .ok (.aload_n 0, 1) := by decide +kernel
theorem dX4_copyFrom_67 : decode cX4_copyFrom 67 = .ok (.getfield 28, 3) := by decide +kernel
theorem dX4_copyFrom_70 : decode cX4_copyFrom 70 = .ok (.iconst 0, 1) := by decide +kernel
theorem dX4_copyFrom_71 : decode cX4_copyFrom 71 = .ok (.bipush 24, 2) := by decide +kernel
theorem dX4_copyFrom_73 : decode cX4_copyFrom 73 = .ok (.invokestatic 31, 3) := by decide +kernel
theorem dX4_copyFrom_76 : decode cX4_copyFrom 76 = .ok (.return_, 1) := by decide +kernel
theorem dX4_colourOf_0 : decode cX4_colourOf 0 = .ok (.aload_n 0, 1) := by decide +kernel
theorem dX4_colourOf_1 : decode cX4_colourOf 1 = .ok (.getfield 28, 3) := by decide +kernel
theorem dX4_colourOf_4 : decode cX4_colourOf 4 = .ok (.iconst 4, 1) := by decide +kernel
theorem dX4_colourOf_5 : decode cX4_colourOf 5 = .ok (.iload_n 1, 1) := by decide +kernel
theorem dX4_colourOf_6 : decode cX4_colourOf 6 = .ok (.imul, 1) := by decide +kernel
theorem dX4_colourOf_7 : decode cX4_colourOf 7 = .ok (.iload_n 2, 1) := by decide +kernel
theorem dX4_colourOf_8 : decode cX4_colourOf 8 = .ok (.iadd, 1) := by decide +kernel
theorem dX4_colourOf_9 : decode cX4_colourOf 9 = .ok (.iaload, 1) := by decide +kernel
theorem dX4_colourOf_10 : decode cX4_colourOf 10 = .ok (.ireturn, 1) := by decide +kernel
theorem dX4_setColour_0 : decode cX4_setColour 0 = .ok (.aload_n 0, 1) := by decide +kernel
theorem dX4_setColour_1 : decode cX4_setColour 1 = .ok (.getfield 28, 3) := by decide +kernel
theorem dX4_setColour_4 : decode cX4_setColour 4 = .ok (.iconst 4, 1) := by decide +kernel
theorem dX4_setColour_5 : decode cX4_setColour 5 = .ok (.iload_n 1, 1) := by decide +kernel
theorem dX4_setColour_6 : decode cX4_setColour 6 = .ok (.imul, 1) := by decide +kernel
theorem dX4_setColour_7 : decode cX4_setColour 7 = .ok (.iload_n 2, 1) := by decide +kernel
theorem dX4_setColour_8 : decode cX4_setColour 8 = .ok (.iadd, 1) := by decide +kernel
theorem dX4_setColour_9 : decode cX4_setColour 9 = .ok (.iload_n 3, 1) := by decide +kernel
theorem dX4_setColour_10 : decode cX4_setColour 10 = .ok (.iastore, 1) := by decide +kernel
theorem dX4_setColour_11 : decode cX4_setColour 11 = .ok (.return_, 1) := by decide +kernel
theorem dX4_colourTowards_0 : decode cX4_colourTowards 0 = .ok (.iload_n 1, 1) := by decide +kernel
theorem dX4_colourTowards_1 : decode cX4_colourTowards 1 = .ok (.iload_n 3, 1) := by decide +kernel
theorem dX4_colourTowards_2 : decode cX4_colourTowards 2 = .ok (.isub, 1) := by decide +kernel
theorem dX4_colourTowards_3 : decode cX4_colourTowards 3 = .ok (.iconst 4, 1) := by decide +kernel
theorem dX4_colourTowards_4 : decode cX4_colourTowards 4 = .ok (.iadd, 1) := by decide +kernel
theorem dX4_colourTowards_5 : decode cX4_colourTowards 5 = .ok (.iconst 4, 1) := by decide +kernel
theorem dX4_colourTowards_6 : decode cX4_colourTowards 6 = .ok (.irem, 1) := by decide +kernel
theorem dX4_colourTowards_7 : decode cX4_colourTowards 7 = .ok (.istore 4, 2) := by decide +kernel
theorem dX4_colourTowards_9 : decode cX4_colourTowards 9 = .ok (.aload_n 0, 1) := by decide +kernel
theorem dX4_colourTowards_10 : decode cX4_colourTowards 10 = .ok (.getfield 28, 3) := by decide +kernel
theorem dX4_colourTowards_13 : decode cX4_colourTowards 13 = .ok (.iconst 4, 1) := by decide +kernel
theorem dX4_colourTowards_14 : decode cX4_colourTowards 14 = .ok (.iload_n 2, 1) := by decide +kernel
theorem dX4_colourTowards_15 : decode cX4_colourTowards 15 = .ok (.imul, 1) := by decide +kernel
theorem dX4_colourTowards_16 : decode cX4_colourTowards 16 = .ok (.iload 4, 2) := by decide +kernel
theorem dX4_colourTowards_18 : decode cX4_colourTowards 18 = .ok (.iadd, 1) := by decide +kernel
theorem dX4_colourTowards_19 : decode cX4_colourTowards 19 = .ok (.iaload, 1) := by decide +kernel
theorem dX4_colourTowards_20 : decode cX4_colourTowards 20 = .ok (.ireturn, 1) := by decide +kernel
