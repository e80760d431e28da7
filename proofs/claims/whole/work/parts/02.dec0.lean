theorem dX0_init_0 : decode cX0_init 0 = .ok (.aload_n 0, 1) := by decide +kernel
theorem dX0_init_1 : decode cX0_init 1 = .ok (.invokespecial 3, 3) := by decide +kernel
theorem dX0_init_4 : decode cX0_init 4 = .ok (.aload_n 0, 1) := by decide +kernel
theorem dX0_init_5 : decode cX0_init 5 = .ok (.sipush 433, 3) := by decide +kernel
theorem dX0_init_8 : decode cX0_init 8 = .ok (.newarray .int, 2) := by decide +kernel
theorem dX0_init_10 : decode cX0_init 10 = .ok (.putfield 9, 3) := by decide +kernel
theorem dX0_init_13 : decode cX0_init 13 = .ok (.return_, 1) := by decide +kernel
theorem dX0_spread_0 : decode cX0_spread 0 = .ok (.aload_n 1, 1) := by decide +kernel
theorem dX0_spread_1 : decode cX0_spread 1 = .ok (.getfield 15, 3) := by decide +kernel
theorem dX0_spread_4 : decode cX0_spread 4 = .ok (.iload_n 3, 1) := by decide +kernel
theorem dX0_spread_5 : decode cX0_spread 5 = .ok (.iaload, 1) := by decide +kernel
theorem dX0_spread_6 : decode cX0_spread 6 = .ok (.istore 5, 2) := by decide +kernel
theorem dX0_spread_8 : decode cX0_spread 8 = .ok (.aload_n 0, 1) := by decide +kernel
theorem dX0_spread_9 : decode cX0_spread 9 = .ok (.aload_n 2, 1) := by decide +kernel
theorem dX0_spread_10 : decode cX0_spread 10 = .ok (.aload_n 1, 1) := by decide +kernel
theorem dX0_spread_11 : decode cX0_spread 11 = .ok (.iload 5, 2) := by decide +kernel
theorem dX0_spread_13 : decode cX0_spread 13 = .ok (.aload_n 1, 1) := by decide +kernel
theorem dX0_spread_14 : decode cX0_spread 14 = .ok (.getfield 20, 3) := by decide +kernel
theorem dX0_spread_17 : decode cX0_spread 17 = .ok (.iand, 1) := by decide +kernel
theorem dX0_spread_18 : decode cX0_spread 18 = .ok (.invokevirtual 24, 3) := by decide +kernel
theorem dX0_spread_21 : decode cX0_spread 21 = .ok (.ineg, 1) := by decide +kernel
theorem dX0_spread_22 : decode cX0_spread 22 = .ok (.putfield 30, 3) := by decide +kernel
theorem dX0_spread_25 : decode cX0_spread 25 = .ok (.aload_n 0, 1) := by decide +kernel
theorem dX0_spread_26 : decode cX0_spread 26 = .ok (.sipush 432, 3) := by decide +kernel
theorem dX0_spread_29 : decode cX0_spread 29 = .ok (.aload_n 2, 1) := by decide +kernel
theorem dX0_spread_30 : decode cX0_spread 30 = .ok (.aload_n 1, 1) := by decide +kernel
theorem dX0_spread_31 : decode cX0_spread 31 = .ok (.iload 5, 2) := by decide +kernel
theorem dX0_spread_33 : decode cX0_spread 33 = .ok (.aload_n 1, 1) := by decide +kernel
theorem dX0_spread_34 : decode cX0_spread 34 = .ok (.getfield 20, 3) := by decide +kernel
theorem dX0_spread_37 : decode cX0_spread 37 = .ok (.iconst (-1), 1) := by decide +kernel
theorem dX0_spread_38 : decode cX0_spread 38 = .ok (.ixor, 1) := by decide +kernel
theorem dX0_spread_39 : decode cX0_spread 39 = .ok (.iand, 1) := by decide +kernel
theorem dX0_spread_40 : decode cX0_spread 40 = .ok (.invokevirtual 24, 3) := by decide +kernel
theorem dX0_spread_43 : decode cX0_spread 43 = .ok (.invokestatic 33, 3) := by decide +kernel
theorem dX0_spread_46 : decode cX0_spread 46 = .ok (.putfield 39, 3) := by decide +kernel
theorem dX0_spread_49 : decode cX0_spread 49 = .ok (.aload_n 0, 1) := by decide +kernel
theorem dX0_spread_50 : decode cX0_spread 50 = .ok (.aload_n 0, 1) := by decide +kernel
theorem dX0_spread_51 : decode cX0_spread 51 = .ok (.getfield 39, 3) := by decide +kernel
theorem dX0_spread_54 : decode cX0_spread 54 = .ok (.putfield 42, 3) := by decide +kernel
theorem dX0_spread_57 : decode cX0_spread 57 = .ok (.aload_n 0, 1) := by decide +kernel
theorem dX0_spread_58 : decode cX0_spread 58 = .ok (.getfield 9, 3) := by decide +kernel
theorem dX0_spread_61 : decode cX0_spread 61 = .ok (.iconst 0, 1) := by decide +kernel
theorem dX0_spread_62 : decode cX0_spread 62 = .ok (.invokestatic 45, 3) := by decide +kernel
theorem dX0_spread_65 : decode cX0_spread 65 = .ok (.aload_n 0, 1) := by decide +kernel
theorem dX0_spread_66 : decode cX0_spread 66 = .ok (.getfield 9, 3) := by decide +kernel
theorem dX0_spread_69 : decode cX0_spread 69 = .ok (.aload_n 0, 1) := by decide +kernel
theorem dX0_spread_70 : decode cX0_spread 70 = .ok (.getfield 39, 3) := by decide +kernel
theorem dX0_spread_73 : decode cX0_spread 73 = .ok (.ldc 51, 2) := by decide +kernel
theorem dX0_spread_75 : decode cX0_spread 75 = .ok (.iastore, 1) := by decide +kernel
theorem dX0_spread_76 : decode cX0_spread 76 = .ok (.iconst 0, 1) := by decide +kernel
theorem dX0_spread_77 : decode cX0_spread 77 = .ok (.istore 6, 2) := by decide +kernel
theorem dX0_spread_79 : decode cX0_spread 79 = .ok (.iload 6, 2) := by decide +kernel
theorem dX0_spread_81 : decode cX0_spread 81 = .ok (.aload_n 1, 1) := by decide +kernel
theorem dX0_spread_82 : decode cX0_spread 82 = .ok (.getfield 52, 3) := by decide +kernel
theorem dX0_spread_85 : decode cX0_spread 85 = .ok (.if_icmp .ge 62, 3) := by decide +kernel
theorem dX0_spread_88 : decode cX0_spread 88 = .ok (.aload_n 1, 1) := by decide +kernel
theorem dX0_spread_89 : decode cX0_spread 89 = .ok (.getfield 55, 3) := by decide +kernel
theorem dX0_spread_92 : decode cX0_spread 92 = .ok (.iload 6, 2) := by decide +kernel
theorem dX0_spread_94 : decode cX0_spread 94 = .ok (.iaload, 1) := by decide +kernel
theorem dX0_spread_95 : decode cX0_spread 95 = .ok (.iload_n 3, 1) := by decide +kernel
theorem dX0_spread_96 : decode cX0_spread 96 = .ok (.if_icmp .ne 13, 3) := by decide +kernel
theorem dX0_spread_99 : decode cX0_spread 99 = .ok (.aload_n 2, 1) := by decide +kernel
theorem dX0_spread_100 : decode cX0_spread 100 = .ok (.aload_n 1, 1) := by decide +kernel
theorem dX0_spread_101 : decode cX0_spread 101 = .ok (.iload 6, 2) := by decide +kernel
theorem dX0_spread_103 : decode cX0_spread 103 = .ok (.invokevirtual 58, 3) := by decide +kernel
theorem dX0_spread_106 : decode cX0_spread 106 = .ok (.goto 4, 3) := by decide +kernel
theorem dX0_spread_109 : decode cX0_spread 109 = .ok (.iconst 0, 1) := by decide +kernel
theorem dX0_spread_110 : decode cX0_spread 110 = .ok (.istore 7, 2) := by decide +kernel
theorem dX0_spread_112 : decode cX0_spread 112 = .ok (.iconst 0, 1) := by decide +kernel
theorem dX0_spread_113 : decode cX0_spread 113 = .ok (.istore 8, 2) := by decide +kernel
theorem dX0_spread_115 : decode cX0_spread 115 = .ok (.iload 8, 2) := by decide +kernel
theorem dX0_spread_117 : decode cX0_spread 117 = .ok (.iload 7, 2) := by decide +kernel
theorem dX0_spread_119 : decode cX0_spread 119 = .ok (.if_icmp .ge 22, 3) := by decide +kernel
theorem dX0_spread_122 : decode cX0_spread 122 = .ok (.aload_n 0, 1) := by decide +kernel
theorem dX0_spread_123 : decode cX0_spread 123 = .ok (.aload_n 1, 1) := by decide +kernel
theorem dX0_spread_124 : decode cX0_spread 124 = .ok (.iload 6, 2) := by decide +kernel
theorem dX0_spread_126 : decode cX0_spread 126 = .ok (.invokevirtual 61, 3) := by decide +kernel
theorem dX0_spread_129 : decode cX0_spread 129 = .ok (.ineg, 1) := by decide +kernel
theorem dX0_spread_130 : decode cX0_spread 130 = .ok (.iload 4, 2) := by decide +kernel
theorem dX0_spread_132 : decode cX0_spread 132 = .ok (.invokevirtual 65, 3) := by decide +kernel
theorem dX0_spread_135 : decode cX0_spread 135 = .ok (.iinc 8 1, 3) := by decide +kernel
theorem dX0_spread_138 : decode cX0_spread 138 = .ok (.goto (-23), 3) := by decide +kernel
theorem dX0_spread_141 : decode cX0_spread 141 = .ok (.iinc 6 1, 3) := by decide +kernel
theorem dX0_spread_144 : decode cX0_spread 144 = .ok (.goto (-65), 3) := by decide +kernel
theorem dX0_spread_147 : decode cX0_spread 147 = .ok (.return_, 1) := by decide +kernel
theorem dX0_headForgets_0 : decode cX0_headForgets 0 = .ok (.iload_n 1, 1) := by decide +kernel
theorem dX0_headForgets_1 : decode cX0_headForgets 1 = .ok (.ifCond .ge 48, 3) := by decide +kernel
theorem dX0_headForgets_4 : decode cX0_headForgets 4 = .ok (.aload_n 0, 1) := by decide +kernel
theorem dX0_headForgets_5 : decode cX0_headForgets 5 = .ok (.getfield 39, 3) := by decide +kernel
theorem dX0_headForgets_8 : decode cX0_headForgets 8 = .ok (.istore_n 3, 1) := by decide +kernel
theorem dX0_headForgets_9 : decode cX0_headForgets 9 = .ok (.iload_n 3, 1) := by decide +kernel
theorem dX0_headForgets_10 : decode cX0_headForgets 10 = .ok (.aload_n 0, 1) := by decide +kernel
theorem dX0_headForgets_11 : decode cX0_headForgets 11 = .ok (.getfield 42, 3) := by decide +kernel
theorem dX0_headForgets_14 : decode cX0_headForgets 14 = .ok (.if_icmp .gt 18, 3) := by decide +kernel
theorem dX0_headForgets_17 : decode cX0_headForgets 17 = .ok (.aload_n 0, 1) := by decide +kernel
theorem dX0_headForgets_18 : decode cX0_headForgets 18 = .ok (.iload_n 3, 1) := by decide +kernel
theorem dX0_headForgets_19 : decode cX0_headForgets 19 = .ok (.iload_n 3, 1) := by decide +kernel
theorem dX0_headForgets_20 : decode cX0_headForgets 20 = .ok (.iload_n 1, 1) := by decide +kernel
theorem dX0_headForgets_21 : decode cX0_headForgets 21 = .ok (.iadd, 1) := by decide +kernel
theorem dX0_headForgets_22 : decode cX0_headForgets 22 = .ok (.iload_n 2, 1) := by decide +kernel
theorem dX0_headForgets_23 : decode cX0_headForgets 23 = .ok (.invokevirtual 69, 3) := by decide +kernel
theorem dX0_headForgets_26 : decode cX0_headForgets 26 = .ok (.iinc 3 1, 3) := by decide +kernel
theorem dX0_headForgets_29 : decode cX0_headForgets 29 = .ok (.goto (-20), 3) := by decide +kernel
theorem dX0_headForgets_32 : decode cX0_headForgets 32 = .ok (.aload_n 0, 1) := by decide +kernel
theorem dX0_headForgets_33 : decode cX0_headForgets 33 = .ok (.iconst 0, 1) := by decide +kernel
theorem dX0_headForgets_34 : decode cX0_headForgets 34 = .ok (.aload_n 0, 1) := by decide +kernel
theorem dX0_headForgets_35 : decode cX0_headForgets 35 = .ok (.getfield 39, 3) := by decide +kernel
theorem dX0_headForgets_38 : decode cX0_headForgets 38 = .ok (.iload_n 1, 1) := by decide +kernel
theorem dX0_headForgets_39 : decode cX0_headForgets 39 = .ok (.iadd, 1) := by decide +kernel
theorem dX0_headForgets_40 : decode cX0_headForgets 40 = .ok (.invokestatic 73, 3) := by decide +kernel
theorem dX0_headForgets_43 : decode cX0_headForgets 43 = .ok (.putfield 39, 3) := by decide +kernel
theorem dX0_headForgets_46 : decode cX0_headForgets 46 = .ok (.goto 47, 3) := by decide +kernel
theorem dX0_headForgets_49 : decode cX0_headForgets 49 = .ok (.aload_n 0, 1) := by decide +kernel
theorem dX0_headForgets_50 : decode cX0_headForgets 50 = .ok (.getfield 42, 3) := by decide +kernel
theorem dX0_headForgets_53 : decode cX0_headForgets 53 = .ok (.istore_n 3, 1) := by decide +kernel
theorem dX0_headForgets_54 : decode cX0_headForgets 54 = .ok (.iload_n 3, 1) := by decide +kernel
theorem dX0_headForgets_55 : decode cX0_headForgets 55 = .ok (.aload_n 0, 1) := by decide +kernel
theorem dX0_headForgets_56 : decode cX0_headForgets 56 = .ok (.getfield 39, 3) := by decide +kernel
theorem dX0_headForgets_59 : decode cX0_headForgets 59 = .ok (.if_icmp .lt 18, 3) := by decide +kernel
theorem dX0_headForgets_62 : decode cX0_headForgets 62 = .ok (.aload_n 0, 1) := by decide +kernel
theorem dX0_headForgets_63 : decode cX0_headForgets 63 = .ok (.iload_n 3, 1) := by decide +kernel
theorem dX0_headForgets_64 : decode cX0_headForgets 64 = .ok (.iload_n 3, 1) := by decide +kernel
theorem dX0_headForgets_65 : decode cX0_headForgets 65 = .ok (.iload_n 1, 1) := by decide +kernel
theorem dX0_headForgets_66 : decode cX0_headForgets 66 = .ok (.iadd, 1) := by decide +kernel
theorem dX0_headForgets_67 : decode cX0_headForgets 67 = .ok (.iload_n 2, 1) := by decide +kernel
theorem dX0_headForgets_68 : decode cX0_headForgets 68 = .ok (.invokevirtual 69, 3) := by decide +kernel
theorem dX0_headForgets_71 : decode cX0_headForgets 71 = .ok (.iinc 3 (-1), 3) := by decide +kernel
theorem dX0_headForgets_74 : decode cX0_headForgets 74 = .ok (.goto (-20), 3) := by decide +kernel
theorem dX0_headForgets_77 : decode cX0_headForgets 77 = .ok (.aload_n 0, 1) := by decide +kernel
theorem dX0_headForgets_78 : decode cX0_headForgets 78 = .ok (.sipush 432, 3) := by decide +kernel
theorem dX0_headForgets_81 : decode cX0_headForgets 81 = .ok (.aload_n 0, 1) := by decide +kernel
theorem dX0_headForgets_82 : decode cX0_headForgets 82 = .ok (.getfield 42, 3) := by decide +kernel
theorem dX0_headForgets_85 : decode cX0_headForgets 85 = .ok (.iload_n 1, 1) := by decide +kernel
theorem dX0_headForgets_86 : decode cX0_headForgets 86 = .ok (.iadd, 1) := by decide +kernel
theorem dX0_headForgets_87 : decode cX0_headForgets 87 = .ok (.invokestatic 33, 3) := by decide +kernel
theorem dX0_headForgets_90 : decode cX0_headForgets 90 = .ok (.putfield 42, 3) := by decide +kernel
theorem dX0_headForgets_93 : decode cX0_headForgets 93 = .ok (.return_, 1) := by decide +kernel
theorem dX0_move_0 : decode cX0_move 0 = .ok (.aload_n 0, 1) := by decide +kernel
theorem dX0_move_1 : decode cX0_move 1 = .ok (.getfield 9, 3) := by decide +kernel
theorem dX0_move_4 : decode cX0_move 4 = .ok (.iload_n 1, 1) := by decide +kernel
theorem dX0_move_5 : decode cX0_move 5 = .ok (.iaload, 1) := by decide +kernel
theorem dX0_move_6 : decode cX0_move 6 = .ok (.ifCond .eq 53, 3) := by decide +kernel
theorem dX0_move_9 : decode cX0_move 9 = .ok (.iload_n 2, 1) := by decide +kernel
theorem dX0_move_10 : decode cX0_move 10 = .ok (.ifCond .lt 49, 3) := by decide +kernel
theorem dX0_move_13 : decode cX0_move 13 = .ok (.iload_n 2, 1) := by decide +kernel
theorem dX0_move_14 : decode cX0_move 14 = .ok (.sipush 432, 3) := by decide +kernel
theorem dX0_move_17 : decode cX0_move 17 = .ok (.if_icmp .gt 42, 3) := by decide +kernel
theorem dX0_move_20 : decode cX0_move 20 = .ok (.aload_n 0, 1) := by decide +kernel
theorem dX0_move_21 : decode cX0_move 21 = .ok (.getfield 9, 3) := by decide +kernel
theorem dX0_move_24 : decode cX0_move 24 = .ok (.iload_n 1, 1) := by decide +kernel
theorem dX0_move_25 : decode cX0_move 25 = .ok (.iaload, 1) := by decide +kernel
theorem dX0_move_26 : decode cX0_move 26 = .ok (.i2l, 1) := by decide +kernel
theorem dX0_move_27 : decode cX0_move 27 = .ok (.iload_n 3, 1) := by decide +kernel
theorem dX0_move_28 : decode cX0_move 28 = .ok (.i2l, 1) := by decide +kernel
theorem dX0_move_29 : decode cX0_move 29 = .ok (.lmul, 1) := by decide +kernel
theorem dX0_move_30 : decode cX0_move 30 = .ok (.ldc2_w 76, 3) := by decide +kernel
theorem dX0_move_33 : decode cX0_move 33 = .ok (.ldiv, 1) := by decide +kernel
theorem dX0_move_34 : decode cX0_move 34 = .ok (.l2i, 1) := by decide +kernel
theorem dX0_move_35 : decode cX0_move 35 = .ok (.istore 4, 2) := by decide +kernel
theorem dX0_move_37 : decode cX0_move 37 = .ok (.aload_n 0, 1) := by decide +kernel
theorem dX0_move_38 : decode cX0_move 38 = .ok (.getfield 9, 3) := by decide +kernel
theorem dX0_move_41 : decode cX0_move 41 = .ok (.iload_n 1, 1) := by decide +kernel
theorem dX0_move_42 : decode cX0_move 42 = .ok (.dup2, 1) := by decide +kernel
theorem dX0_move_43 : decode cX0_move 43 = .ok (.iaload, 1) := by decide +kernel
theorem dX0_move_44 : decode cX0_move 44 = .ok (.iload 4, 2) := by decide +kernel
theorem dX0_move_46 : decode cX0_move 46 = .ok (.isub, 1) := by decide +kernel
theorem dX0_move_47 : decode cX0_move 47 = .ok (.iastore, 1) := by decide +kernel
theorem dX0_move_48 : decode cX0_move 48 = .ok (.aload_n 0, 1) := by decide +kernel
theorem dX0_move_49 : decode cX0_move 49 = .ok (.getfield 9, 3) := by decide +kernel
theorem dX0_move_52 : decode cX0_move 52 = .ok (.iload_n 2, 1) := by decide +kernel
theorem dX0_move_53 : decode cX0_move 53 = .ok (.dup2, 1) := by decide +kernel
theorem dX0_move_54 : decode cX0_move 54 = .ok (.iaload, 1) := by decide +kernel
theorem dX0_move_55 : decode cX0_move 55 = .ok (.iload 4, 2) := by decide +kernel
theorem dX0_move_57 : decode cX0_move 57 = .ok (.iadd, 1) := by decide +kernel
theorem dX0_move_58 : decode cX0_move 58 = .ok (.iastore, 1) := by decide +kernel
theorem dX0_move_59 : decode cX0_move 59 = .ok (.return_, 1) := by decide +kernel
theorem dX0_upTo_0 : decode cX0_upTo 0 = .ok (.iconst 0, 1) := by decide +kernel
theorem dX0_upTo_1 : decode cX0_upTo 1 = .ok (.istore_n 2, 1) := by decide +kernel
theorem dX0_upTo_2 : decode cX0_upTo 2 = .ok (.aload_n 0, 1) := by decide +kernel
theorem dX0_upTo_3 : decode cX0_upTo 3 = .ok (.getfield 39, 3) := by decide +kernel
theorem dX0_upTo_6 : decode cX0_upTo 6 = .ok (.istore_n 3, 1) := by decide +kernel
theorem dX0_upTo_7 : decode cX0_upTo 7 = .ok (.iload_n 3, 1) := by decide +kernel
theorem dX0_upTo_8 : decode cX0_upTo 8 = .ok (.aload_n 0, 1) := by decide +kernel
theorem dX0_upTo_9 : decode cX0_upTo 9 = .ok (.getfield 42, 3) := by decide +kernel
theorem dX0_upTo_12 : decode cX0_upTo 12 = .ok (.if_icmp .gt 28, 3) := by decide +kernel
theorem dX0_upTo_15 : decode cX0_upTo 15 = .ok (.aload_n 0, 1) := by decide +kernel
theorem dX0_upTo_16 : decode cX0_upTo 16 = .ok (.getfield 30, 3) := by decide +kernel
theorem dX0_upTo_19 : decode cX0_upTo 19 = .ok (.iload_n 3, 1) := by decide +kernel
theorem dX0_upTo_20 : decode cX0_upTo 20 = .ok (.iadd, 1) := by decide +kernel
theorem dX0_upTo_21 : decode cX0_upTo 21 = .ok (.iload_n 1, 1) := by decide +kernel
theorem dX0_upTo_22 : decode cX0_upTo 22 = .ok (.if_icmp .gt 18, 3) := by decide +kernel
theorem dX0_upTo_25 : decode cX0_upTo 25 = .ok (.iload_n 2, 1) := by decide +kernel
theorem dX0_upTo_26 : decode cX0_upTo 26 = .ok (.aload_n 0, 1) := by decide +kernel
theorem dX0_upTo_27 : decode cX0_upTo 27 = .ok (.getfield 9, 3) := by decide +kernel
theorem dX0_upTo_30 : decode cX0_upTo 30 = .ok (.iload_n 3, 1) := by decide +kernel
theorem dX0_upTo_31 : decode cX0_upTo 31 = .ok (.iaload, 1) := by decide +kernel
theorem dX0_upTo_32 : decode cX0_upTo 32 = .ok (.iadd, 1) := by decide +kernel
theorem dX0_upTo_33 : decode cX0_upTo 33 = .ok (.istore_n 2, 1) := by decide +kernel
theorem dX0_upTo_34 : decode cX0_upTo 34 = .ok (.iinc 3 1, 3) := by decide +kernel
theorem dX0_upTo_37 : decode cX0_upTo 37 = .ok (.goto (-30), 3) := by decide +kernel
theorem dX0_upTo_40 : decode cX0_upTo 40 = .ok (.iload_n 2, 1) := by decide +kernel
theorem dX0_upTo_41 : decode cX0_upTo 41 = .ok (.ireturn, 1) := by decide +kernel
theorem dX1_init_0 : decode cX1_init 0 = .ok (.aload_n 0, 1) := by decide +kernel
theorem dX1_init_1 : decode cX1_init 1 = .ok (.invokespecial 3, 3) := by decide +kernel
theorem dX1_init_4 : decode cX1_init 4 = .ok (.aload_n 0, 1) := by decide +kernel
theorem dX1_init_5 : decode cX1_init 5 = .ok (.sipush 128, 3) := by decide +kernel
theorem dX1_init_8 : decode cX1_init 8 = .ok (.newarray .int, 2) := by decide +kernel
theorem dX1_init_10 : decode cX1_init 10 = .ok (.putfield 9, 3) := by decide +kernel
theorem dX1_init_13 : decode cX1_init 13 = .ok (.aload_n 0, 1) := by decide +kernel
theorem dX1_init_14 : decode cX1_init 14 = .ok (.sipush 128, 3) := by decide +kernel
theorem dX1_init_17 : decode cX1_init 17 = .ok (.newarray .int, 2) := by decide +kernel
theorem dX1_init_19 : decode cX1_init 19 = .ok (.putfield 15, 3) := by decide +kernel
theorem dX1_init_22 : decode cX1_init 22 = .ok (.return_, 1) := by decide +kernel
theorem dX1_plan_0 : decode cX1_plan 0 = .ok (.aload_n 0, 1) := by decide +kernel
theorem dX1_plan_1 : decode cX1_plan 1 = .ok (.iload 4, 2) := by decide +kernel
theorem dX1_plan_3 : decode cX1_plan 3 = .ok (.putfield 18, 3) := by decide +kernel
theorem dX1_plan_6 : decode cX1_plan 6 = .ok (.iconst 0, 1) := by decide +kernel
theorem dX1_plan_7 : decode cX1_plan 7 = .ok (.istore 5, 2) := by decide +kernel
theorem dX1_plan_9 : decode cX1_plan 9 = .ok (.iload 5, 2) := by decide +kernel
theorem dX1_plan_11 : decode cX1_plan 11 = .ok (.aload_n 1, 1) := by decide +kernel
theorem dX1_plan_12 : decode cX1_plan 12 = .ok (.getfield 22, 3) := by decide +kernel
theorem dX1_plan_15 : decode cX1_plan 15 = .ok (.if_icmp .ge 25, 3) := by decide +kernel
theorem dX1_plan_18 : decode cX1_plan 18 = .ok (.aload_n 0, 1) := by decide +kernel
theorem dX1_plan_19 : decode cX1_plan 19 = .ok (.getfield 15, 3) := by decide +kernel
theorem dX1_plan_22 : decode cX1_plan 22 = .ok (.iconst 1, 1) := by decide +kernel
theorem dX1_plan_23 : decode cX1_plan 23 = .ok (.iload 5, 2) := by decide +kernel
theorem dX1_plan_25 : decode cX1_plan 25 = .ok (.ishl, 1) := by decide +kernel
theorem dX1_plan_26 : decode cX1_plan 26 = .ok (.aload_n 2, 1) := by decide +kernel
theorem dX1_plan_27 : decode cX1_plan 27 = .ok (.aload_n 1, 1) := by decide +kernel
theorem dX1_plan_28 : decode cX1_plan 28 = .ok (.iload 5, 2) := by decide +kernel
theorem dX1_plan_30 : decode cX1_plan 30 = .ok (.invokevirtual 27, 3) := by decide +kernel
theorem dX1_plan_33 : decode cX1_plan 33 = .ok (.iastore, 1) := by decide +kernel
theorem dX1_plan_34 : decode cX1_plan 34 = .ok (.iinc 5 1, 3) := by decide +kernel
theorem dX1_plan_37 : decode cX1_plan 37 = .ok (.goto (-28), 3) := by decide +kernel
theorem dX1_plan_40 : decode cX1_plan 40 = .ok (.aload_n 0, 1) := by decide +kernel
theorem dX1_plan_41 : decode cX1_plan 41 = .ok (.getfield 15, 3) := by decide +kernel
theorem dX1_plan_44 : decode cX1_plan 44 = .ok (.iconst 0, 1) := by decide +kernel
theorem dX1_plan_45 : decode cX1_plan 45 = .ok (.iconst 0, 1) := by decide +kernel
theorem dX1_plan_46 : decode cX1_plan 46 = .ok (.iastore, 1) := by decide +kernel
theorem dX1_plan_47 : decode cX1_plan 47 = .ok (.aload_n 0, 1) := by decide +kernel
theorem dX1_plan_48 : decode cX1_plan 48 = .ok (.getfield 9, 3) := by decide +kernel
theorem dX1_plan_51 : decode cX1_plan 51 = .ok (.iconst 0, 1) := by decide +kernel
theorem dX1_plan_52 : decode cX1_plan 52 = .ok (.iconst 0, 1) := by decide +kernel
theorem dX1_plan_53 : decode cX1_plan 53 = .ok (.iastore, 1) := by decide +kernel
theorem dX1_plan_54 : decode cX1_plan 54 = .ok (.iconst 1, 1) := by decide +kernel
theorem dX1_plan_55 : decode cX1_plan 55 = .ok (.istore 5, 2) := by decide +kernel
theorem dX1_plan_57 : decode cX1_plan 57 = .ok (.iload 5, 2) := by decide +kernel
theorem dX1_plan_59 : decode cX1_plan 59 = .ok (.iload_n 3, 1) := by decide +kernel
theorem dX1_plan_60 : decode cX1_plan 60 = .ok (.if_icmp .gt 62, 3) := by decide +kernel
theorem dX1_plan_63 : decode cX1_plan 63 = .ok (.iload 5, 2) := by decide +kernel
theorem dX1_plan_65 : decode cX1_plan 65 = .ok (.iload_n 3, 1) := by decide +kernel
theorem dX1_plan_66 : decode cX1_plan 66 = .ok (.iconst (-1), 1) := by decide +kernel
theorem dX1_plan_67 : decode cX1_plan 67 = .ok (.ixor, 1) := by decide +kernel
theorem dX1_plan_68 : decode cX1_plan 68 = .ok (.iand, 1) := by decide +kernel
theorem dX1_plan_69 : decode cX1_plan 69 = .ok (.ifCond .ne 47, 3) := by decide +kernel
theorem dX1_plan_72 : decode cX1_plan 72 = .ok (.aload_n 0, 1) := by decide +kernel
theorem dX1_plan_73 : decode cX1_plan 73 = .ok (.getfield 15, 3) := by decide +kernel
theorem dX1_plan_76 : decode cX1_plan 76 = .ok (.iload 5, 2) := by decide +kernel
theorem dX1_plan_78 : decode cX1_plan 78 = .ok (.aload_n 0, 1) := by decide +kernel
theorem dX1_plan_79 : decode cX1_plan 79 = .ok (.getfield 15, 3) := by decide +kernel
theorem dX1_plan_82 : decode cX1_plan 82 = .ok (.iload 5, 2) := by decide +kernel
theorem dX1_plan_84 : decode cX1_plan 84 = .ok (.iload 5, 2) := by decide +kernel
theorem dX1_plan_86 : decode cX1_plan 86 = .ok (.iconst 1, 1) := by decide +kernel
theorem dX1_plan_87 : decode cX1_plan 87 = .ok (.isub, 1) := by decide +kernel
theorem dX1_plan_88 : decode cX1_plan 88 = .ok (.iand, 1) := by decide +kernel
theorem dX1_plan_89 : decode cX1_plan 89 = .ok (.iaload, 1) := by decide +kernel
theorem dX1_plan_90 : decode cX1_plan 90 = .ok (.aload_n 0, 1) := by decide +kernel
theorem dX1_plan_91 : decode cX1_plan 91 = .ok (.getfield 15, 3) := by decide +kernel
theorem dX1_plan_94 : decode cX1_plan 94 = .ok (.iload 5, 2) := by decide +kernel
theorem dX1_plan_96 : decode cX1_plan 96 = .ok (.iload 5, 2) := by decide +kernel
theorem dX1_plan_98 : decode cX1_plan 98 = .ok (.ineg, 1) := by decide +kernel
theorem dX1_plan_99 : decode cX1_plan 99 = .ok (.iand, 1) := by decide +kernel
theorem dX1_plan_100 : decode cX1_plan 100 = .ok (.iaload, 1) := by decide +kernel
theorem dX1_plan_101 : decode cX1_plan 101 = .ok (.iadd, 1) := by decide +kernel
theorem dX1_plan_102 : decode cX1_plan 102 = .ok (.iastore, 1) := by decide +kernel
theorem dX1_plan_103 : decode cX1_plan 103 = .ok (.aload_n 0, 1) := by decide +kernel
theorem dX1_plan_104 : decode cX1_plan 104 = .ok (.getfield 9, 3) := by decide +kernel
theorem dX1_plan_107 : decode cX1_plan 107 = .ok (.iload 5, 2) := by decide +kernel
theorem dX1_plan_109 : decode cX1_plan 109 = .ok (.aload_n 0, 1) := by decide +kernel
theorem dX1_plan_110 : decode cX1_plan 110 = .ok (.iload 5, 2) := by decide +kernel
theorem dX1_plan_112 : decode cX1_plan 112 = .ok (.invokevirtual 33, 3) := by decide +kernel
theorem dX1_plan_115 : decode cX1_plan 115 = .ok (.iastore, 1) := by decide +kernel
theorem dX1_plan_116 : decode cX1_plan 116 = .ok (.iinc 5 1, 3) := by decide +kernel
theorem dX1_plan_119 : decode cX1_plan 119 = .ok (.goto (-62), 3) := by decide +kernel
theorem dX1_plan_122 : decode cX1_plan 122 = .ok (.return_, 1) := by decide +kernel
theorem dX1_fewestOf_0 : decode cX1_fewestOf 0 = .ok (.iconst (-1), 1) := by decide +kernel
theorem dX1_fewestOf_1 : decode cX1_fewestOf 1 = .ok (.istore_n 2, 1) := by decide +kernel
theorem dX1_fewestOf_2 : decode cX1_fewestOf 2 = .ok (.iconst 1, 1) := by decide +kernel
theorem dX1_fewestOf_3 : decode cX1_fewestOf 3 = .ok (.istore_n 3, 1) := by decide +kernel
theorem dX1_fewestOf_4 : decode cX1_fewestOf 4 = .ok (.iload_n 3, 1) := by decide +kernel
theorem dX1_fewestOf_5 : decode cX1_fewestOf 5 = .ok (.iload_n 1, 1) := by decide +kernel
theorem dX1_fewestOf_6 : decode cX1_fewestOf 6 = .ok (.if_icmp .gt 64, 3) := by decide +kernel
theorem dX1_fewestOf_9 : decode cX1_fewestOf 9 = .ok (.iload_n 3, 1) := by decide +kernel
theorem dX1_fewestOf_10 : decode cX1_fewestOf 10 = .ok (.iload_n 1, 1) := by decide +kernel
theorem dX1_fewestOf_11 : decode cX1_fewestOf 11 = .ok (.iconst (-1), 1) := by decide +kernel
theorem dX1_fewestOf_12 : decode cX1_fewestOf 12 = .ok (.ixor, 1) := by decide +kernel
theorem dX1_fewestOf_13 : decode cX1_fewestOf 13 = .ok (.iand, 1) := by decide +kernel
theorem dX1_fewestOf_14 : decode cX1_fewestOf 14 = .ok (.ifCond .ne 50, 3) := by decide +kernel
theorem dX1_fewestOf_17 : decode cX1_fewestOf 17 = .ok (.aload_n 0, 1) := by decide +kernel
theorem dX1_fewestOf_18 : decode cX1_fewestOf 18 = .ok (.getfield 15, 3) := by decide +kernel
theorem dX1_fewestOf_21 : decode cX1_fewestOf 21 = .ok (.iload_n 3, 1) := by decide +kernel
theorem dX1_fewestOf_22 : decode cX1_fewestOf 22 = .ok (.iaload, 1) := by decide +kernel
theorem dX1_fewestOf_23 : decode cX1_fewestOf 23 = .ok (.aload_n 0, 1) := by decide +kernel
theorem dX1_fewestOf_24 : decode cX1_fewestOf 24 = .ok (.getfield 18, 3) := by decide +kernel
theorem dX1_fewestOf_27 : decode cX1_fewestOf 27 = .ok (.if_icmp .gt 37, 3) := by decide +kernel
theorem dX1_fewestOf_30 : decode cX1_fewestOf 30 = .ok (.aload_n 0, 1) := by decide +kernel
theorem dX1_fewestOf_31 : decode cX1_fewestOf 31 = .ok (.getfield 9, 3) := by decide +kernel
theorem dX1_fewestOf_34 : decode cX1_fewestOf 34 = .ok (.iload_n 1, 1) := by decide +kernel
theorem dX1_fewestOf_35 : decode cX1_fewestOf 35 = .ok (.iload_n 3, 1) := by decide +kernel
theorem dX1_fewestOf_36 : decode cX1_fewestOf 36 = .ok (.ixor, 1) := by decide +kernel
theorem dX1_fewestOf_37 : decode cX1_fewestOf 37 = .ok (.iaload, 1) := by decide +kernel
theorem dX1_fewestOf_38 : decode cX1_fewestOf 38 = .ok (.istore 4, 2) := by decide +kernel
theorem dX1_fewestOf_40 : decode cX1_fewestOf 40 = .ok (.iload 4, 2) := by decide +kernel
theorem dX1_fewestOf_42 : decode cX1_fewestOf 42 = .ok (.iconst (-1), 1) := by decide +kernel
theorem dX1_fewestOf_43 : decode cX1_fewestOf 43 = .ok (.if_icmp .eq 21, 3) := by decide +kernel
theorem dX1_fewestOf_46 : decode cX1_fewestOf 46 = .ok (.iload_n 2, 1) := by decide +kernel
theorem dX1_fewestOf_47 : decode cX1_fewestOf 47 = .ok (.iconst (-1), 1) := by decide +kernel
theorem dX1_fewestOf_48 : decode cX1_fewestOf 48 = .ok (.if_icmp .eq 11, 3) := by decide +kernel
theorem dX1_fewestOf_51 : decode cX1_fewestOf 51 = .ok (.iload 4, 2) := by decide +kernel
theorem dX1_fewestOf_53 : decode cX1_fewestOf 53 = .ok (.iconst 1, 1) := by decide +kernel
theorem dX1_fewestOf_54 : decode cX1_fewestOf 54 = .ok (.iadd, 1) := by decide +kernel
theorem dX1_fewestOf_55 : decode cX1_fewestOf 55 = .ok (.iload_n 2, 1) := by decide +kernel
theorem dX1_fewestOf_56 : decode cX1_fewestOf 56 = .ok (.if_icmp .ge 8, 3) := by decide +kernel
theorem dX1_fewestOf_59 : decode cX1_fewestOf 59 = .ok (.iload 4, 2) := by decide +kernel
theorem dX1_fewestOf_61 : decode cX1_fewestOf 61 = .ok (.iconst 1, 1) := by decide +kernel
theorem dX1_fewestOf_62 : decode cX1_fewestOf 62 = .ok (.iadd, 1) := by decide +kernel
theorem dX1_fewestOf_63 : decode cX1_fewestOf 63 = .ok (.istore_n 2, 1) := by decide +kernel
theorem dX1_fewestOf_64 : decode cX1_fewestOf 64 = .ok (.iinc 3 1, 3) := by decide +kernel
theorem dX1_fewestOf_67 : decode cX1_fewestOf 67 = .ok (.goto (-63), 3) := by decide +kernel
theorem dX1_fewestOf_70 : decode cX1_fewestOf 70 = .ok (.iload_n 2, 1) := by decide +kernel
theorem dX1_fewestOf_71 : decode cX1_fewestOf 71 = .ok (.ireturn, 1) := by decide +kernel
theorem dX1_group_0 : decode cX1_group 0 = .ok (.iload_n 1, 1) := by decide +kernel
theorem dX1_group_1 : decode cX1_group 1 = .ok (.istore_n 3, 1) := by decide +kernel
theorem dX1_group_2 : decode cX1_group 2 = .ok (.iconst 0, 1) := by decide +kernel
theorem dX1_group_3 : decode cX1_group 3 = .ok (.istore 4, 2) := by decide +kernel
theorem dX1_group_5 : decode cX1_group 5 = .ok (.iload 4, 2) := by decide +kernel
theorem dX1_group_7 : decode cX1_group 7 = .ok (.iload_n 2, 1) := by decide +kernel
theorem dX1_group_8 : decode cX1_group 8 = .ok (.if_icmp .gt 43, 3) := by decide +kernel
theorem dX1_group_11 : decode cX1_group 11 = .ok (.iload 4, 2) := by decide +kernel
theorem dX1_group_13 : decode cX1_group 13 = .ok (.aload_n 0, 1) := by decide +kernel
theorem dX1_group_14 : decode cX1_group 14 = .ok (.getfield 9, 3) := by decide +kernel
theorem dX1_group_17 : decode cX1_group 17 = .ok (.iload_n 1, 1) := by decide +kernel
theorem dX1_group_18 : decode cX1_group 18 = .ok (.iaload, 1) := by decide +kernel
theorem dX1_group_19 : decode cX1_group 19 = .ok (.if_icmp .ge 32, 3) := by decide +kernel
theorem dX1_group_22 : decode cX1_group 22 = .ok (.aload_n 0, 1) := by decide +kernel
theorem dX1_group_23 : decode cX1_group 23 = .ok (.iload_n 3, 1) := by decide +kernel
theorem dX1_group_24 : decode cX1_group 24 = .ok (.invokevirtual 37, 3) := by decide +kernel
theorem dX1_group_27 : decode cX1_group 27 = .ok (.istore 5, 2) := by decide +kernel
theorem dX1_group_29 : decode cX1_group 29 = .ok (.iload 4, 2) := by decide +kernel
theorem dX1_group_31 : decode cX1_group 31 = .ok (.iload_n 2, 1) := by decide +kernel
theorem dX1_group_32 : decode cX1_group 32 = .ok (.if_icmp .ne 6, 3) := by decide +kernel
theorem dX1_group_35 : decode cX1_group 35 = .ok (.iload 5, 2) := by decide +kernel
theorem dX1_group_37 : decode cX1_group 37 = .ok (.ireturn, 1) := by decide +kernel
theorem dX1_group_38 : decode cX1_group 38 = .ok (.iload_n 3, 1) := by decide +kernel
theorem dX1_group_39 : decode cX1_group 39 = .ok (.iload 5, 2) := by decide +kernel
theorem dX1_group_41 : decode cX1_group 41 = .ok (.iconst (-1), 1) := by decide +kernel
theorem dX1_group_42 : decode cX1_group 42 = .ok (.ixor, 1) := by decide +kernel
theorem dX1_group_43 : decode cX1_group 43 = .ok (.iand, 1) := by decide +kernel
theorem dX1_group_44 : decode cX1_group 44 = .ok (.istore_n 3, 1) := by decide +kernel
theorem dX1_group_45 : decode cX1_group 45 = .ok (.iinc 4 1, 3) := by decide +kernel
theorem dX1_group_48 : decode cX1_group 48 = .ok (.goto (-43), 3) := by decide +kernel
theorem dX1_group_51 : decode cX1_group 51 = .ok (.iconst (-1), 1) := by decide +kernel
theorem dX1_group_52 : decode cX1_group 52 = .ok (.ireturn, 1) := by decide +kernel
theorem dX1_firstGroup_0 : decode cX1_firstGroup 0 = .ok (.iconst 1, 1) := by decide +kernel
theorem dX1_firstGroup_1 : decode cX1_firstGroup 1 = .ok (.istore_n 2, 1) := by decide +kernel
theorem dX1_firstGroup_2 : decode cX1_firstGroup 2 = .ok (.iload_n 2, 1) := by decide +kernel
theorem dX1_firstGroup_3 : decode cX1_firstGroup 3 = .ok (.iload_n 1, 1) := by decide +kernel
theorem dX1_firstGroup_4 : decode cX1_firstGroup 4 = .ok (.if_icmp .gt 61, 3) := by decide +kernel
theorem dX1_firstGroup_7 : decode cX1_firstGroup 7 = .ok (.iload_n 2, 1) := by decide +kernel
theorem dX1_firstGroup_8 : decode cX1_firstGroup 8 = .ok (.iload_n 1, 1) := by decide +kernel
theorem dX1_firstGroup_9 : decode cX1_firstGroup 9 = .ok (.iconst (-1), 1) := by decide +kernel
theorem dX1_firstGroup_10 : decode cX1_firstGroup 10 = .ok (.ixor, 1) := by decide +kernel
theorem dX1_firstGroup_11 : decode cX1_firstGroup 11 = .ok (.iand, 1) := by decide +kernel
theorem dX1_firstGroup_12 : decode cX1_firstGroup 12 = .ok (.ifCond .ne 20, 3) := by decide +kernel
theorem dX1_firstGroup_15 : decode cX1_firstGroup 15 = .ok (.aload_n 0, 1) := by decide +kernel
theorem dX1_firstGroup_16 : decode cX1_firstGroup 16 = .ok (.getfield 15, 3) := by decide +kernel
theorem dX1_firstGroup_19 : decode cX1_firstGroup 19 = .ok (.iload_n 2, 1) := by decide +kernel
theorem dX1_firstGroup_20 : decode cX1_firstGroup 20 = .ok (.iaload, 1) := by decide +kernel
theorem dX1_firstGroup_21 : decode cX1_firstGroup 21 = .ok (.aload_n 0, 1) := by decide +kernel
theorem dX1_firstGroup_22 : decode cX1_firstGroup 22 = .ok (.getfield 18, 3) := by decide +kernel
theorem dX1_firstGroup_25 : decode cX1_firstGroup 25 = .ok (.if_icmp .gt 7, 3) := by decide +kernel
theorem dX1_firstGroup_28 : decode cX1_firstGroup 28 = .ok (.iconst 1, 1) := by decide +kernel
theorem dX1_firstGroup_29 : decode cX1_firstGroup 29 = .ok (.goto 4, 3) := by decide +kernel
theorem dX1_firstGroup_32 : decode cX1_firstGroup 32 = .ok (.iconst 0, 1) := by decide +kernel
theorem dX1_firstGroup_33 : decode cX1_firstGroup 33 = .ok (.istore_n 3, 1) := by decide +kernel
theorem dX1_firstGroup_34 : decode cX1_firstGroup 34 = .ok (.iload_n 3, 1) := by decide +kernel
theorem dX1_firstGroup_35 : decode cX1_firstGroup 35 = .ok (.ifCond .eq 24, 3) := by decide +kernel
theorem dX1_firstGroup_38 : decode cX1_firstGroup 38 = .ok (.aload_n 0, 1) := by decide +kernel
theorem dX1_firstGroup_39 : decode cX1_firstGroup 39 = .ok (.getfield 9, 3) := by decide +kernel
theorem dX1_firstGroup_42 : decode cX1_firstGroup 42 = .ok (.iload_n 1, 1) := by decide +kernel
theorem dX1_firstGroup_43 : decode cX1_firstGroup 43 = .ok (.iload_n 2, 1) := by decide +kernel
theorem dX1_firstGroup_44 : decode cX1_firstGroup 44 = .ok (.ixor, 1) := by decide +kernel
theorem dX1_firstGroup_45 : decode cX1_firstGroup 45 = .ok (.iaload, 1) := by decide +kernel
theorem dX1_firstGroup_46 : decode cX1_firstGroup 46 = .ok (.aload_n 0, 1) := by decide +kernel
theorem dX1_firstGroup_47 : decode cX1_firstGroup 47 = .ok (.getfield 9, 3) := by decide +kernel
theorem dX1_firstGroup_50 : decode cX1_firstGroup 50 = .ok (.iload_n 1, 1) := by decide +kernel
theorem dX1_firstGroup_51 : decode cX1_firstGroup 51 = .ok (.iaload, 1) := by decide +kernel
theorem dX1_firstGroup_52 : decode cX1_firstGroup 52 = .ok (.iconst 1, 1) := by decide +kernel
theorem dX1_firstGroup_53 : decode cX1_firstGroup 53 = .ok (.isub, 1) := by decide +kernel
theorem dX1_firstGroup_54 : decode cX1_firstGroup 54 = .ok (.if_icmp .ne 5, 3) := by decide +kernel
theorem dX1_firstGroup_57 : decode cX1_firstGroup 57 = .ok (.iload_n 2, 1) := by decide +kernel
theorem dX1_firstGroup_58 : decode cX1_firstGroup 58 = .ok (.ireturn, 1) := by decide +kernel
theorem dX1_firstGroup_59 : decode cX1_firstGroup 59 = .ok (.iinc 2 1, 3) := by decide +kernel
theorem dX1_firstGroup_62 : decode cX1_firstGroup 62 = .ok (.goto (-60), 3) := by decide +kernel
theorem dX1_firstGroup_65 : decode cX1_firstGroup 65 = .ok (.iconst (-1), 1) := by decide +kernel
theorem dX1_firstGroup_66 : decode cX1_firstGroup 66 = .ok (.ireturn, 1) := by decide +kernel
theorem dX2_init_0 : decode cX2_init 0 = .ok (.aload_n 0, 1) := by decide +kernel
theorem dX2_init_1 : decode cX2_init 1 = .ok (.invokespecial 3, 3) := by decide +kernel
theorem dX2_init_4 : decode cX2_init 4 = .ok (.aload_n 0, 1) := by decide +kernel
theorem dX2_init_5 : decode cX2_init 5 = .ok (.bipush 8, 2) := by decide +kernel
theorem dX2_init_7 : decode cX2_init 7 = .ok (.newarray .int, 2) := by decide +kernel
theorem dX2_init_9 : decode cX2_init 9 = .ok (.putfield 9, 3) := by decide +kernel
theorem dX2_init_12 : decode cX2_init 12 = .ok (.aload_n 0, 1) := by decide +kernel
theorem dX2_init_13 : decode cX2_init 13 = .ok (.bipush 8, 2) := by decide +kernel
theorem dX2_init_15 : decode cX2_init 15 = .ok (.newarray .int, 2) := by decide +kernel
theorem dX2_init_17 : decode cX2_init 17 = .ok (.putfield 15, 3) := by decide +kernel
theorem dX2_init_20 : decode cX2_init 20 = .ok (.aload_n 0, 1) := by decide +kernel
theorem dX2_init_21 : decode cX2_init 21 = .ok (.bipush 56, 2) := by decide +kernel
theorem dX2_init_23 : decode cX2_init 23 = .ok (.newarray .int, 2) := by decide +kernel
theorem dX2_init_25 : decode cX2_init 25 = .ok (.putfield 18, 3) := by decide +kernel
theorem dX2_init_28 : decode cX2_init 28 = .ok (.return_, 1) := by decide +kernel
theorem dX2_begin_0 : decode cX2_begin 0 = .ok (.aload_n 0, 1) := by decide +kernel
theorem dX2_begin_1 : decode cX2_begin 1 = .ok (.iconst 0, 1) := by decide +kernel
theorem dX2_begin_2 : decode cX2_begin 2 = .ok (.putfield 21, 3) := by decide +kernel
theorem dX2_begin_5 : decode cX2_begin 5 = .ok (.aload_n 0, 1) := by decide +kernel
theorem dX2_begin_6 : decode cX2_begin 6 = .ok (.getfield 9, 3) := by decide +kernel
theorem dX2_begin_9 : decode cX2_begin 9 = .ok (.iconst 0, 1) := by decide +kernel
theorem dX2_begin_10 : decode cX2_begin 10 = .ok (.invokestatic 25, 3) := by decide +kernel
theorem dX2_begin_13 : decode cX2_begin 13 = .ok (.aload_n 0, 1) := by decide +kernel
theorem dX2_begin_14 : decode cX2_begin 14 = .ok (.getfield 18, 3) := by decide +kernel
theorem dX2_begin_17 : decode cX2_begin 17 = .ok (.iconst 0, 1) := by decide +kernel
theorem dX2_begin_18 : decode cX2_begin 18 = .ok (.invokestatic 25, 3) := by decide +kernel
theorem dX2_begin_21 : decode cX2_begin 21 = .ok (.iconst 0, 1) := by decide +kernel
theorem dX2_begin_22 : decode cX2_begin 22 = .ok (.istore_n 2, 1) := by decide +kernel
theorem dX2_begin_23 : decode cX2_begin 23 = .ok (.iload_n 2, 1) := by decide +kernel
theorem dX2_begin_24 : decode cX2_begin 24 = .ok (.aload_n 1, 1) := by decide +kernel
theorem dX2_begin_25 : decode cX2_begin 25 = .ok (.getfield 31, 3) := by decide +kernel
theorem dX2_begin_28 : decode cX2_begin 28 = .ok (.if_icmp .ge 21, 3) := by decide +kernel
theorem dX2_begin_31 : decode cX2_begin 31 = .ok (.aload_n 0, 1) := by decide +kernel
theorem dX2_begin_32 : decode cX2_begin 32 = .ok (.getfield 9, 3) := by decide +kernel
theorem dX2_begin_35 : decode cX2_begin 35 = .ok (.iload_n 2, 1) := by decide +kernel
theorem dX2_begin_36 : decode cX2_begin 36 = .ok (.aload_n 1, 1) := by decide +kernel
theorem dX2_begin_37 : decode cX2_begin 37 = .ok (.getfield 36, 3) := by decide +kernel
theorem dX2_begin_40 : decode cX2_begin 40 = .ok (.iload_n 2, 1) := by decide +kernel
theorem dX2_begin_41 : decode cX2_begin 41 = .ok (.iaload, 1) := by decide +kernel
theorem dX2_begin_42 : decode cX2_begin 42 = .ok (.iastore, 1) := by decide +kernel
theorem dX2_begin_43 : decode cX2_begin 43 = .ok (.iinc 2 1, 3) := by decide +kernel
theorem dX2_begin_46 : decode cX2_begin 46 = .ok (.goto (-23), 3) := by decide +kernel
theorem dX2_begin_49 : decode cX2_begin 49 = .ok (.return_, 1) := by decide +kernel
theorem dX2_copyFrom_0 : decode cX2_copyFrom 0 = .ok (.aload_n 0, 1) := by decide +kernel
theorem dX2_copyFrom_1 : decode cX2_copyFrom 1 = .ok (.aload_n 1, 1) := by decide +kernel
theorem dX2_copyFrom_2 : decode cX2_copyFrom 2 = .ok (.getfield 21, 3) := by decide +kernel
theorem dX2_copyFrom_5 : decode cX2_copyFrom 5 = .ok (.putfield 21, 3) := by decide +kernel
theorem dX2_copyFrom_8 : decode cX2_copyFrom 8 = .ok (.aload_n 0, 1) := by decide +kernel
theorem dX2_copyFrom_9 : decode cX2_copyFrom 9 = .ok (.aload_n 1, 1) := by decide +kernel
theorem dX2_copyFrom_10 : decode cX2_copyFrom 10 = .ok (.getfield 39, 3) := by decide +kernel
theorem dX2_copyFrom_13 : decode cX2_copyFrom 13 = .ok (.putfield 39, 3) := by decide +kernel
theorem dX2_copyFrom_16 : decode cX2_copyFrom 16 = .ok (.aload_n 1, 1) := by decide +kernel
theorem dX2_copyFrom_17 : decode cX2_copyFrom 17 = .ok (.getfield 9, 3) := by decide +kernel
theorem dX2_copyFrom_20 : decode cX2_copyFrom 20 = .ok (.iconst 0, 1) := by decide +kernel
theorem dX2_copyFrom_21 : decode cX2_copyFrom 21 = .ok (.aload_n 0, 1) := by decide +kernel
theorem dX2_copyFrom_22 : decode cX2_copyFrom 22 = .ok (.getfield 9, 3) := by decide +kernel
theorem dX2_copyFrom_25 : decode cX2_copyFrom 25 = .ok (.iconst 0, 1) := by decide +kernel
theorem dX2_copyFrom_26 : decode cX2_copyFrom 26 = .ok (.bipush 8, 2) := by decide +kernel
theorem dX2_copyFrom_28 : decode cX2_copyFrom 28 = .ok (.invokestatic 42, 3) := by decide +kernel
theorem dX2_copyFrom_31 : decode cX2_copyFrom 31 = .ok (.aload_n 1, 1) := by decide +kernel
theorem dX2_copyFrom_32 : decode cX2_copyFrom 32 = .ok (.getfield 18, 3) := by decide +kernel
theorem dX2_copyFrom_35 : decode cX2_copyFrom 35 = .ok (.iconst 0, 1) := by decide +kernel
theorem dX2_copyFrom_36 : decode cX2_copyFrom 36 = .ok (.aload_n 0, 1) := by decide +kernel
theorem dX2_copyFrom_37 : decode cX2_copyFrom 37 = .ok (.getfield 18, 3) := by decide +kernel
theorem dX2_copyFrom_40 : decode cX2_copyFrom 40 = .ok (.iconst 0, 1) := by decide +kernel
theorem dX2_copyFrom_41 : decode cX2_copyFrom 41 = .ok (.bipush 56, 2) := by decide +kernel
theorem dX2_copyFrom_43 : decode cX2_copyFrom 43 = .ok (.invokestatic 42, 3) := by decide +kernel
theorem dX2_copyFrom_46 : decode cX2_copyFrom 46 = .ok (.return_, 1) := by decide +kernel
theorem dX2_knows_0 : decode cX2_knows 0 = .ok (.aload_n 0, 1) := by decide +kernel
theorem dX2_knows_1 : decode cX2_knows 1 = .ok (.getfield 9, 3) := by decide +kernel
theorem dX2_knows_4 : decode cX2_knows 4 = .ok (.iload_n 2, 1) := by decide +kernel
theorem dX2_knows_5 : decode cX2_knows 5 = .ok (.iaload, 1) := by decide +kernel
theorem dX2_knows_6 : decode cX2_knows 6 = .ok (.iload_n 1, 1) := by decide +kernel
theorem dX2_knows_7 : decode cX2_knows 7 = .ok (.ishr, 1) := by decide +kernel
theorem dX2_knows_8 : decode cX2_knows 8 = .ok (.iconst 1, 1) := by decide +kernel
theorem dX2_knows_9 : decode cX2_knows 9 = .ok (.iand, 1) := by decide +kernel
theorem dX2_knows_10 : decode cX2_knows 10 = .ok (.ifCond .eq 7, 3) := by decide +kernel
theorem dX2_knows_13 : decode cX2_knows 13 = .ok (.iconst 1, 1) := by decide +kernel
theorem dX2_knows_14 : decode cX2_knows 14 = .ok (.goto 4, 3) := by decide +kernel
theorem dX2_knows_17 : decode cX2_knows 17 = .ok (.iconst 0, 1) := by decide +kernel
theorem dX2_knows_18 : decode cX2_knows 18 = .ok (.ireturn, 1) := by decide +kernel
theorem dX2_heardAt_0 : decode cX2_heardAt 0 = .ok (.aload_n 0, 1) := by decide +kernel
theorem dX2_heardAt_1 : decode cX2_heardAt 1 = .ok (.getfield 18, 3) := by decide +kernel
theorem dX2_heardAt_4 : decode cX2_heardAt 4 = .ok (.iload_n 1, 1) := by decide +kernel
theorem dX2_heardAt_5 : decode cX2_heardAt 5 = .ok (.bipush 8, 2) := by decide +kernel
theorem dX2_heardAt_7 : decode cX2_heardAt 7 = .ok (.imul, 1) := by decide +kernel
theorem dX2_heardAt_8 : decode cX2_heardAt 8 = .ok (.iload_n 2, 1) := by decide +kernel
theorem dX2_heardAt_9 : decode cX2_heardAt 9 = .ok (.iadd, 1) := by decide +kernel
theorem dX2_heardAt_10 : decode cX2_heardAt 10 = .ok (.iaload, 1) := by decide +kernel
theorem dX2_heardAt_11 : decode cX2_heardAt 11 = .ok (.ireturn, 1) := by decide +kernel
theorem dX2_learn_0 : decode cX2_learn 0 = .ok (.aload_n 0, 1) := by decide +kernel
theorem dX2_learn_1 : decode cX2_learn 1 = .ok (.getfield 9, 3) := by decide +kernel
theorem dX2_learn_4 : decode cX2_learn 4 = .ok (.iload_n 2, 1) := by decide +kernel
theorem dX2_learn_5 : decode cX2_learn 5 = .ok (.dup2, 1) := by decide +kernel
theorem dX2_learn_6 : decode cX2_learn 6 = .ok (.iaload, 1) := by decide +kernel
theorem dX2_learn_7 : decode cX2_learn 7 = .ok (.iconst 1, 1) := by decide +kernel
theorem dX2_learn_8 : decode cX2_learn 8 = .ok (.iload_n 1, 1) := by decide +kernel
theorem dX2_learn_9 : decode cX2_learn 9 = .ok (.ishl, 1) := by decide +kernel
theorem dX2_learn_10 : decode cX2_learn 10 = .ok (.ior, 1) := by decide +kernel
theorem dX2_learn_11 : decode cX2_learn 11 = .ok (.iastore, 1) := by decide +kernel
theorem dX2_learn_12 : decode cX2_learn 12 = .ok (.aload_n 0, 1) := by decide +kernel
theorem dX2_learn_13 : decode cX2_learn 13 = .ok (.getfield 18, 3) := by decide +kernel
theorem dX2_learn_16 : decode cX2_learn 16 = .ok (.iload_n 1, 1) := by decide +kernel
theorem dX2_learn_17 : decode cX2_learn 17 = .ok (.bipush 8, 2) := by decide +kernel
theorem dX2_learn_19 : decode cX2_learn 19 = .ok (.imul, 1) := by decide +kernel
theorem dX2_learn_20 : decode cX2_learn 20 = .ok (.iload_n 2, 1) := by decide +kernel
theorem dX2_learn_21 : decode cX2_learn 21 = .ok (.iadd, 1) := by decide +kernel
theorem dX2_learn_22 : decode cX2_learn 22 = .ok (.aload_n 0, 1) := by decide +kernel
theorem dX2_learn_23 : decode cX2_learn 23 = .ok (.getfield 21, 3) := by decide +kernel
theorem dX2_learn_26 : decode cX2_learn 26 = .ok (.iastore, 1) := by decide +kernel
theorem dX2_learn_27 : decode cX2_learn 27 = .ok (.return_, 1) := by decide +kernel
theorem dX2_lose_0 : decode cX2_lose 0 = .ok (.aload_n 0, 1) := by decide +kernel
theorem dX2_lose_1 : decode cX2_lose 1 = .ok (.getfield 9, 3) := by decide +kernel
theorem dX2_lose_4 : decode cX2_lose 4 = .ok (.iload_n 2, 1) := by decide +kernel
theorem dX2_lose_5 : decode cX2_lose 5 = .ok (.dup2, 1) := by decide +kernel
theorem dX2_lose_6 : decode cX2_lose 6 = .ok (.iaload, 1) := by decide +kernel
theorem dX2_lose_7 : decode cX2_lose 7 = .ok (.iconst 1, 1) := by decide +kernel
theorem dX2_lose_8 : decode cX2_lose 8 = .ok (.iload_n 1, 1) := by decide +kernel
theorem dX2_lose_9 : decode cX2_lose 9 = .ok (.ishl, 1) := by decide +kernel
theorem dX2_lose_10 : decode cX2_lose 10 = .ok (.iconst (-1), 1) := by decide +kernel
theorem dX2_lose_11 : decode cX2_lose 11 = .ok (.ixor, 1) := by decide +kernel
theorem dX2_lose_12 : decode cX2_lose 12 = .ok (.iand, 1) := by decide +kernel
theorem dX2_lose_13 : decode cX2_lose 13 = .ok (.iastore, 1) := by decide +kernel
theorem dX2_lose_14 : decode cX2_lose 14 = .ok (.return_, 1) := by decide +kernel
theorem dX2_factsIn_0 : decode cX2_factsIn 0 = .ok (.iconst 0, 1) := by decide +kernel
theorem dX2_factsIn_1 : decode cX2_factsIn 1 = .ok (.istore_n 2, 1) := by decide +kernel
theorem dX2_factsIn_2 : decode cX2_factsIn 2 = .ok (.iconst 0, 1) := by decide +kernel
theorem dX2_factsIn_3 : decode cX2_factsIn 3 = .ok (.istore_n 3, 1) := by decide +kernel
theorem dX2_factsIn_4 : decode cX2_factsIn 4 = .ok (.iload_n 3, 1) := by decide +kernel
theorem dX2_factsIn_5 : decode cX2_factsIn 5 = .ok (.bipush 8, 2) := by decide +kernel
theorem dX2_factsIn_7 : decode cX2_factsIn 7 = .ok (.if_icmp .ge 24, 3) := by decide +kernel
theorem dX2_factsIn_10 : decode cX2_factsIn 10 = .ok (.iload_n 2, 1) := by decide +kernel
theorem dX2_factsIn_11 : decode cX2_factsIn 11 = .ok (.aload_n 0, 1) := by decide +kernel
theorem dX2_factsIn_12 : decode cX2_factsIn 12 = .ok (.getfield 9, 3) := by decide +kernel
theorem dX2_factsIn_15 : decode cX2_factsIn 15 = .ok (.iload_n 3, 1) := by decide +kernel
theorem dX2_factsIn_16 : decode cX2_factsIn 16 = .ok (.iaload, 1) := by decide +kernel
theorem dX2_factsIn_17 : decode cX2_factsIn 17 = .ok (.iload_n 1, 1) := by decide +kernel
theorem dX2_factsIn_18 : decode cX2_factsIn 18 = .ok (.ishr, 1) := by decide +kernel
theorem dX2_factsIn_19 : decode cX2_factsIn 19 = .ok (.iconst 1, 1) := by decide +kernel
theorem dX2_factsIn_20 : decode cX2_factsIn 20 = .ok (.iand, 1) := by decide +kernel
theorem dX2_factsIn_21 : decode cX2_factsIn 21 = .ok (.iload_n 3, 1) := by decide +kernel
theorem dX2_factsIn_22 : decode cX2_factsIn 22 = .ok (.ishl, 1) := by decide +kernel
theorem dX2_factsIn_23 : decode cX2_factsIn 23 = .ok (.ior, 1) := by decide +kernel
theorem dX2_factsIn_24 : decode cX2_factsIn 24 = .ok (.istore_n 2, 1) := by decide +kernel
theorem dX2_factsIn_25 : decode cX2_factsIn 25 = .ok (.iinc 3 1, 3) := by decide +kernel
theorem dX2_factsIn_28 : decode cX2_factsIn 28 = .ok (.goto (-24), 3) := by decide +kernel
theorem dX2_factsIn_31 : decode cX2_factsIn 31 = .ok (.iload_n 2, 1) := by decide +kernel
theorem dX2_factsIn_32 : decode cX2_factsIn 32 = .ok (.ireturn, 1) := by decide +kernel
theorem dX2_headsOf_0 : decode cX2_headsOf 0 = .ok (.aload_n 0, 1) := by decide +kernel
theorem dX2_headsOf_1 : decode cX2_headsOf 1 = .ok (.getfield 9, 3) := by decide +kernel
theorem dX2_headsOf_4 : decode cX2_headsOf 4 = .ok (.iload_n 2, 1) := by decide +kernel
theorem dX2_headsOf_5 : decode cX2_headsOf 5 = .ok (.iaload, 1) := by decide +kernel
theorem dX2_headsOf_6 : decode cX2_headsOf 6 = .ok (.iconst 1, 1) := by decide +kernel
theorem dX2_headsOf_7 : decode cX2_headsOf 7 = .ok (.aload_n 1, 1) := by decide +kernel
theorem dX2_headsOf_8 : decode cX2_headsOf 8 = .ok (.getfield 48, 3) := by decide +kernel
theorem dX2_headsOf_11 : decode cX2_headsOf 11 = .ok (.iload_n 2, 1) := by decide +kernel
theorem dX2_headsOf_12 : decode cX2_headsOf 12 = .ok (.iaload, 1) := by decide +kernel
theorem dX2_headsOf_13 : decode cX2_headsOf 13 = .ok (.ishl, 1) := by decide +kernel
theorem dX2_headsOf_14 : decode cX2_headsOf 14 = .ok (.iconst (-1), 1) := by decide +kernel
theorem dX2_headsOf_15 : decode cX2_headsOf 15 = .ok (.ixor, 1) := by decide +kernel
theorem dX2_headsOf_16 : decode cX2_headsOf 16 = .ok (.iand, 1) := by decide +kernel
theorem dX2_headsOf_17 : decode cX2_headsOf 17 = .ok (.invokestatic 51, 3) := by decide +kernel
theorem dX2_headsOf_20 : decode cX2_headsOf 20 = .ok (.ireturn, 1) := by decide +kernel
theorem dX2_allHeads_0 : decode cX2_allHeads 0 = .ok (.iconst 0, 1) := by decide +kernel
theorem dX2_allHeads_1 : decode cX2_allHeads 1 = .ok (.istore_n 2, 1) := by decide +kernel
theorem dX2_allHeads_2 : decode cX2_allHeads 2 = .ok (.iconst 0, 1) := by decide +kernel
theorem dX2_allHeads_3 : decode cX2_allHeads 3 = .ok (.istore_n 3, 1) := by decide +kernel
theorem dX2_allHeads_4 : decode cX2_allHeads 4 = .ok (.iload_n 3, 1) := by decide +kernel
theorem dX2_allHeads_5 : decode cX2_allHeads 5 = .ok (.aload_n 1, 1) := by decide +kernel
theorem dX2_allHeads_6 : decode cX2_allHeads 6 = .ok (.getfield 31, 3) := by decide +kernel
theorem dX2_allHeads_9 : decode cX2_allHeads 9 = .ok (.if_icmp .ge 18, 3) := by decide +kernel
theorem dX2_allHeads_12 : decode cX2_allHeads 12 = .ok (.iload_n 2, 1) := by decide +kernel
theorem dX2_allHeads_13 : decode cX2_allHeads 13 = .ok (.aload_n 0, 1) := by decide +kernel
theorem dX2_allHeads_14 : decode cX2_allHeads 14 = .ok (.aload_n 1, 1) := by decide +kernel
theorem dX2_allHeads_15 : decode cX2_allHeads 15 = .ok (.iload_n 3, 1) := by decide +kernel
theorem dX2_allHeads_16 : decode cX2_allHeads 16 = .ok (.invokevirtual 57, 3) := by decide +kernel
theorem dX2_allHeads_19 : decode cX2_allHeads 19 = .ok (.iadd, 1) := by decide +kernel
theorem dX2_allHeads_20 : decode cX2_allHeads 20 = .ok (.istore_n 2, 1) := by decide +kernel
theorem dX2_allHeads_21 : decode cX2_allHeads 21 = .ok (.iinc 3 1, 3) := by decide +kernel
theorem dX2_allHeads_24 : decode cX2_allHeads 24 = .ok (.goto (-20), 3) := by decide +kernel
theorem dX2_allHeads_27 : decode cX2_allHeads 27 = .ok (.iload_n 2, 1) := by decide +kernel
theorem dX2_allHeads_28 : decode cX2_allHeads 28 = .ok (.ireturn, 1) := by decide +kernel
theorem dX2_gramsOf_0 : decode cX2_gramsOf 0 = .ok (.iconst 0, 1) := by decide +kernel
theorem dX2_gramsOf_1 : decode cX2_gramsOf 1 = .ok (.istore_n 3, 1) := by decide +kernel
theorem dX2_gramsOf_2 : decode cX2_gramsOf 2 = .ok (.iconst 0, 1) := by decide +kernel
theorem dX2_gramsOf_3 : decode cX2_gramsOf 3 = .ok (.istore 4, 2) := by decide +kernel
theorem dX2_gramsOf_5 : decode cX2_gramsOf 5 = .ok (.iload 4, 2) := by decide +kernel
theorem dX2_gramsOf_7 : decode cX2_gramsOf 7 = .ok (.aload_n 1, 1) := by decide +kernel
theorem dX2_gramsOf_8 : decode cX2_gramsOf 8 = .ok (.getfield 31, 3) := by decide +kernel
theorem dX2_gramsOf_11 : decode cX2_gramsOf 11 = .ok (.if_icmp .ge 36, 3) := by decide +kernel
theorem dX2_gramsOf_14 : decode cX2_gramsOf 14 = .ok (.iload_n 2, 1) := by decide +kernel
theorem dX2_gramsOf_15 : decode cX2_gramsOf 15 = .ok (.iload 4, 2) := by decide +kernel
theorem dX2_gramsOf_17 : decode cX2_gramsOf 17 = .ok (.ishr, 1) := by decide +kernel
theorem dX2_gramsOf_18 : decode cX2_gramsOf 18 = .ok (.iconst 1, 1) := by decide +kernel
theorem dX2_gramsOf_19 : decode cX2_gramsOf 19 = .ok (.iand, 1) := by decide +kernel
theorem dX2_gramsOf_20 : decode cX2_gramsOf 20 = .ok (.ifCond .eq 21, 3) := by decide +kernel
theorem dX2_gramsOf_23 : decode cX2_gramsOf 23 = .ok (.iload_n 3, 1) := by decide +kernel
theorem dX2_gramsOf_24 : decode cX2_gramsOf 24 = .ok (.aload_n 1, 1) := by decide +kernel
theorem dX2_gramsOf_25 : decode cX2_gramsOf 25 = .ok (.getfield 61, 3) := by decide +kernel
theorem dX2_gramsOf_28 : decode cX2_gramsOf 28 = .ok (.iload 4, 2) := by decide +kernel
theorem dX2_gramsOf_30 : decode cX2_gramsOf 30 = .ok (.iaload, 1) := by decide +kernel
theorem dX2_gramsOf_31 : decode cX2_gramsOf 31 = .ok (.aload_n 0, 1) := by decide +kernel
theorem dX2_gramsOf_32 : decode cX2_gramsOf 32 = .ok (.aload_n 1, 1) := by decide +kernel
theorem dX2_gramsOf_33 : decode cX2_gramsOf 33 = .ok (.iload 4, 2) := by decide +kernel
theorem dX2_gramsOf_35 : decode cX2_gramsOf 35 = .ok (.invokevirtual 57, 3) := by decide +kernel
theorem dX2_gramsOf_38 : decode cX2_gramsOf 38 = .ok (.imul, 1) := by decide +kernel
theorem dX2_gramsOf_39 : decode cX2_gramsOf 39 = .ok (.iadd, 1) := by decide +kernel
theorem dX2_gramsOf_40 : decode cX2_gramsOf 40 = .ok (.istore_n 3, 1) := by decide +kernel
theorem dX2_gramsOf_41 : decode cX2_gramsOf 41 = .ok (.iinc 4 1, 3) := by decide +kernel
theorem dX2_gramsOf_44 : decode cX2_gramsOf 44 = .ok (.goto (-39), 3) := by decide +kernel
theorem dX2_gramsOf_47 : decode cX2_gramsOf 47 = .ok (.iload_n 3, 1) := by decide +kernel
theorem dX2_gramsOf_48 : decode cX2_gramsOf 48 = .ok (.ireturn, 1) := by decide +kernel
theorem dX2_load_0 : decode cX2_load 0 = .ok (.aload_n 1, 1) := by decide +kernel
theorem dX2_load_1 : decode cX2_load 1 = .ok (.getfield 64, 3) := by decide +kernel
theorem dX2_load_4 : decode cX2_load 4 = .ok (.iload_n 2, 1) := by decide +kernel
theorem dX2_load_5 : decode cX2_load 5 = .ok (.iaload, 1) := by decide +kernel
theorem dX2_load_6 : decode cX2_load 6 = .ok (.istore_n 3, 1) := by decide +kernel
theorem dX2_load_7 : decode cX2_load 7 = .ok (.aload_n 0, 1) := by decide +kernel
theorem dX2_load_8 : decode cX2_load 8 = .ok (.aload_n 1, 1) := by decide +kernel
theorem dX2_load_9 : decode cX2_load 9 = .ok (.iload_n 3, 1) := by decide +kernel
theorem dX2_load_10 : decode cX2_load 10 = .ok (.aload_n 1, 1) := by decide +kernel
theorem dX2_load_11 : decode cX2_load 11 = .ok (.getfield 67, 3) := by decide +kernel
theorem dX2_load_14 : decode cX2_load 14 = .ok (.iconst (-1), 1) := by decide +kernel
theorem dX2_load_15 : decode cX2_load 15 = .ok (.ixor, 1) := by decide +kernel
theorem dX2_load_16 : decode cX2_load 16 = .ok (.iand, 1) := by decide +kernel
theorem dX2_load_17 : decode cX2_load 17 = .ok (.invokevirtual 70, 3) := by decide +kernel
theorem dX2_load_20 : decode cX2_load 20 = .ok (.aload_n 0, 1) := by decide +kernel
theorem dX2_load_21 : decode cX2_load 21 = .ok (.aload_n 1, 1) := by decide +kernel
theorem dX2_load_22 : decode cX2_load 22 = .ok (.iload_n 3, 1) := by decide +kernel
theorem dX2_load_23 : decode cX2_load 23 = .ok (.aload_n 1, 1) := by decide +kernel
theorem dX2_load_24 : decode cX2_load 24 = .ok (.getfield 67, 3) := by decide +kernel
theorem dX2_load_27 : decode cX2_load 27 = .ok (.iand, 1) := by decide +kernel
theorem dX2_load_28 : decode cX2_load 28 = .ok (.invokevirtual 70, 3) := by decide +kernel
theorem dX2_load_31 : decode cX2_load 31 = .ok (.isub, 1) := by decide +kernel
theorem dX2_load_32 : decode cX2_load 32 = .ok (.ireturn, 1) := by decide +kernel
theorem dX2_loadOfAll_0 : decode cX2_loadOfAll 0 = .ok (.iconst 0, 1) := by decide +kernel
theorem dX2_loadOfAll_1 : decode cX2_loadOfAll 1 = .ok (.istore_n 3, 1) := by decide +kernel
theorem dX2_loadOfAll_2 : decode cX2_loadOfAll 2 = .ok (.iconst 0, 1) := by decide +kernel
theorem dX2_loadOfAll_3 : decode cX2_loadOfAll 3 = .ok (.istore 4, 2) := by decide +kernel
theorem dX2_loadOfAll_5 : decode cX2_loadOfAll 5 = .ok (.iload 4, 2) := by decide +kernel
theorem dX2_loadOfAll_7 : decode cX2_loadOfAll 7 = .ok (.aload_n 1, 1) := by decide +kernel
theorem dX2_loadOfAll_8 : decode cX2_loadOfAll 8 = .ok (.getfield 73, 3) := by decide +kernel
theorem dX2_loadOfAll_11 : decode cX2_loadOfAll 11 = .ok (.if_icmp .ge 28, 3) := by decide +kernel
theorem dX2_loadOfAll_14 : decode cX2_loadOfAll 14 = .ok (.iload_n 2, 1) := by decide +kernel
theorem dX2_loadOfAll_15 : decode cX2_loadOfAll 15 = .ok (.iload 4, 2) := by decide +kernel
theorem dX2_loadOfAll_17 : decode cX2_loadOfAll 17 = .ok (.ishr, 1) := by decide +kernel
theorem dX2_loadOfAll_18 : decode cX2_loadOfAll 18 = .ok (.iconst 1, 1) := by decide +kernel
theorem dX2_loadOfAll_19 : decode cX2_loadOfAll 19 = .ok (.iand, 1) := by decide +kernel
theorem dX2_loadOfAll_20 : decode cX2_loadOfAll 20 = .ok (.ifCond .eq 13, 3) := by decide +kernel
theorem dX2_loadOfAll_23 : decode cX2_loadOfAll 23 = .ok (.iload_n 3, 1) := by decide +kernel
theorem dX2_loadOfAll_24 : decode cX2_loadOfAll 24 = .ok (.aload_n 0, 1) := by decide +kernel
theorem dX2_loadOfAll_25 : decode cX2_loadOfAll 25 = .ok (.aload_n 1, 1) := by decide +kernel
theorem dX2_loadOfAll_26 : decode cX2_loadOfAll 26 = .ok (.iload 4, 2) := by decide +kernel
theorem dX2_loadOfAll_28 : decode cX2_loadOfAll 28 = .ok (.invokevirtual 76, 3) := by decide +kernel
theorem dX2_loadOfAll_31 : decode cX2_loadOfAll 31 = .ok (.iadd, 1) := by decide +kernel
theorem dX2_loadOfAll_32 : decode cX2_loadOfAll 32 = .ok (.istore_n 3, 1) := by decide +kernel
theorem dX2_loadOfAll_33 : decode cX2_loadOfAll 33 = .ok (.iinc 4 1, 3) := by decide +kernel
theorem dX2_loadOfAll_36 : decode cX2_loadOfAll 36 = .ok (.goto (-31), 3) := by decide +kernel
theorem dX2_loadOfAll_39 : decode cX2_loadOfAll 39 = .ok (.iload_n 3, 1) := by decide +kernel
theorem dX2_loadOfAll_40 : decode cX2_loadOfAll 40 = .ok (.ireturn, 1) := by decide +kernel
theorem dX2_passHour_0 : decode cX2_passHour 0 = .ok (.aload_n 0, 1) := by decide +kernel
theorem dX2_passHour_1 : decode cX2_passHour 1 = .ok (.dup, 1) := by decide +kernel
theorem dX2_passHour_2 : decode cX2_passHour 2 = .ok (.getfield 21, 3) := by decide +kernel
theorem dX2_passHour_5 : decode cX2_passHour 5 = .ok (.iconst 1, 1) := by decide +kernel
theorem dX2_passHour_6 : decode cX2_passHour 6 = .ok (.iadd, 1) := by decide +kernel
theorem dX2_passHour_7 : decode cX2_passHour 7 = .ok (.putfield 21, 3) := by decide +kernel
theorem dX2_passHour_10 : decode cX2_passHour 10 = .ok (.aload_n 0, 1) := by decide +kernel
theorem dX2_passHour_11 : decode cX2_passHour 11 = .ok (.aload_n 1, 1) := by decide +kernel
theorem dX2_passHour_12 : decode cX2_passHour 12 = .ok (.invokevirtual 79, 3) := by decide +kernel
theorem dX2_passHour_15 : decode cX2_passHour 15 = .ok (.aload_n 0, 1) := by decide +kernel
theorem dX2_passHour_16 : decode cX2_passHour 16 = .ok (.aload_n 1, 1) := by decide +kernel
theorem dX2_passHour_17 : decode cX2_passHour 17 = .ok (.invokevirtual 83, 3) := by decide +kernel
theorem dX2_passHour_20 : decode cX2_passHour 20 = .ok (.return_, 1) := by decide +kernel
theorem dX2_forgetOld_0 : decode cX2_forgetOld 0 = .ok (.aload_n 1, 1) := by decide +kernel
theorem dX2_forgetOld_1 : decode cX2_forgetOld 1 = .ok (.getfield 86, 3) := by decide +kernel
theorem dX2_forgetOld_4 : decode cX2_forgetOld 4 = .ok (.ifCond .ne 4, 3) := by decide +kernel
theorem dX2_forgetOld_7 : decode cX2_forgetOld 7 = .ok (.return_, 1) := by decide +kernel
theorem dX2_forgetOld_8 : decode cX2_forgetOld 8 = .ok (.iconst 0, 1) := by decide +kernel
theorem dX2_forgetOld_9 : decode cX2_forgetOld 9 = .ok (.istore_n 2, 1) := by decide +kernel
theorem dX2_forgetOld_10 : decode cX2_forgetOld 10 = .ok (.iload_n 2, 1) := by decide +kernel
theorem dX2_forgetOld_11 : decode cX2_forgetOld 11 = .ok (.aload_n 1, 1) := by decide +kernel
theorem dX2_forgetOld_12 : decode cX2_forgetOld 12 = .ok (.getfield 31, 3) := by decide +kernel
theorem dX2_forgetOld_15 : decode cX2_forgetOld 15 = .ok (.if_icmp .ge 58, 3) := by decide +kernel
theorem dX2_forgetOld_18 : decode cX2_forgetOld 18 = .ok (.iconst 0, 1) := by decide +kernel
theorem dX2_forgetOld_19 : decode cX2_forgetOld 19 = .ok (.istore_n 3, 1) := by decide +kernel
theorem dX2_forgetOld_20 : decode cX2_forgetOld 20 = .ok (.iload_n 3, 1) := by decide +kernel
theorem dX2_forgetOld_21 : decode cX2_forgetOld 21 = .ok (.aload_n 1, 1) := by decide +kernel
theorem dX2_forgetOld_22 : decode cX2_forgetOld 22 = .ok (.getfield 73, 3) := by decide +kernel
theorem dX2_forgetOld_25 : decode cX2_forgetOld 25 = .ok (.if_icmp .ge 42, 3) := by decide +kernel
theorem dX2_forgetOld_28 : decode cX2_forgetOld 28 = .ok (.aload_n 0, 1) := by decide +kernel
theorem dX2_forgetOld_29 : decode cX2_forgetOld 29 = .ok (.iload_n 3, 1) := by decide +kernel
theorem dX2_forgetOld_30 : decode cX2_forgetOld 30 = .ok (.iload_n 2, 1) := by decide +kernel
theorem dX2_forgetOld_31 : decode cX2_forgetOld 31 = .ok (.invokevirtual 89, 3) := by decide +kernel
theorem dX2_forgetOld_34 : decode cX2_forgetOld 34 = .ok (.ifCond .eq 27, 3) := by decide +kernel
theorem dX2_forgetOld_37 : decode cX2_forgetOld 37 = .ok (.aload_n 0, 1) := by decide +kernel
theorem dX2_forgetOld_38 : decode cX2_forgetOld 38 = .ok (.getfield 21, 3) := by decide +kernel
theorem dX2_forgetOld_41 : decode cX2_forgetOld 41 = .ok (.aload_n 0, 1) := by decide +kernel
theorem dX2_forgetOld_42 : decode cX2_forgetOld 42 = .ok (.iload_n 3, 1) := by decide +kernel
theorem dX2_forgetOld_43 : decode cX2_forgetOld 43 = .ok (.iload_n 2, 1) := by decide +kernel
theorem dX2_forgetOld_44 : decode cX2_forgetOld 44 = .ok (.invokevirtual 93, 3) := by decide +kernel
theorem dX2_forgetOld_47 : decode cX2_forgetOld 47 = .ok (.isub, 1) := by decide +kernel
theorem dX2_forgetOld_48 : decode cX2_forgetOld 48 = .ok (.aload_n 1, 1) := by decide +kernel
theorem dX2_forgetOld_49 : decode cX2_forgetOld 49 = .ok (.getfield 86, 3) := by decide +kernel
theorem dX2_forgetOld_52 : decode cX2_forgetOld 52 = .ok (.if_icmp .lt 9, 3) := by decide +kernel
theorem dX2_forgetOld_55 : decode cX2_forgetOld 55 = .ok (.aload_n 0, 1) := by decide +kernel
theorem dX2_forgetOld_56 : decode cX2_forgetOld 56 = .ok (.iload_n 3, 1) := by decide +kernel
theorem dX2_forgetOld_57 : decode cX2_forgetOld 57 = .ok (.iload_n 2, 1) := by decide +kernel
theorem dX2_forgetOld_58 : decode cX2_forgetOld 58 = .ok (.invokevirtual 97, 3) := by decide +kernel
theorem dX2_forgetOld_61 : decode cX2_forgetOld 61 = .ok (.iinc 3 1, 3) := by decide +kernel
theorem dX2_forgetOld_64 : decode cX2_forgetOld 64 = .ok (.goto (-44), 3) := by decide +kernel
theorem dX2_forgetOld_67 : decode cX2_forgetOld 67 = .ok (.iinc 2 1, 3) := by decide +kernel
theorem dX2_forgetOld_70 : decode cX2_forgetOld 70 = .ok (.goto (-60), 3) := by decide +kernel
theorem dX2_forgetOld_73 : decode cX2_forgetOld 73 = .ok (.return_, 1) := by decide +kernel
theorem dX2_tellOn_0 : decode cX2_tellOn 0 = .ok (.aload_n 0, 1) := by decide +kernel
theorem dX2_tellOn_1 : decode cX2_tellOn 1 = .ok (.getfield 15, 3) := by decide +kernel
theorem dX2_tellOn_4 : decode cX2_tellOn 4 = .ok (.iconst 0, 1) := by decide +kernel
theorem dX2_tellOn_5 : decode cX2_tellOn 5 = .ok (.invokestatic 25, 3) := by decide +kernel
theorem dX2_tellOn_8 : decode cX2_tellOn 8 = .ok (.iconst 0, 1) := by decide +kernel
theorem dX2_tellOn_9 : decode cX2_tellOn 9 = .ok (.istore_n 2, 1) := by decide +kernel
theorem dX2_tellOn_10 : decode cX2_tellOn 10 = .ok (.iload_n 2, 1) := by decide +kernel
theorem dX2_tellOn_11 : decode cX2_tellOn 11 = .ok (.aload_n 1, 1) := by decide +kernel
theorem dX2_tellOn_12 : decode cX2_tellOn 12 = .ok (.getfield 73, 3) := by decide +kernel
theorem dX2_tellOn_15 : decode cX2_tellOn 15 = .ok (.if_icmp .ge 23, 3) := by decide +kernel
theorem dX2_tellOn_18 : decode cX2_tellOn 18 = .ok (.aload_n 1, 1) := by decide +kernel
theorem dX2_tellOn_19 : decode cX2_tellOn 19 = .ok (.iload_n 2, 1) := by decide +kernel
theorem dX2_tellOn_20 : decode cX2_tellOn 20 = .ok (.invokevirtual 101, 3) := by decide +kernel
theorem dX2_tellOn_23 : decode cX2_tellOn 23 = .ok (.ifCond .ne 9, 3) := by decide +kernel
theorem dX2_tellOn_26 : decode cX2_tellOn 26 = .ok (.aload_n 0, 1) := by decide +kernel
theorem dX2_tellOn_27 : decode cX2_tellOn 27 = .ok (.aload_n 1, 1) := by decide +kernel
theorem dX2_tellOn_28 : decode cX2_tellOn 28 = .ok (.iload_n 2, 1) := by decide +kernel
theorem dX2_tellOn_29 : decode cX2_tellOn 29 = .ok (.invokevirtual 105, 3) := by decide +kernel
theorem dX2_tellOn_32 : decode cX2_tellOn 32 = .ok (.iinc 2 1, 3) := by decide +kernel
theorem dX2_tellOn_35 : decode cX2_tellOn 35 = .ok (.goto (-25), 3) := by decide +kernel
theorem dX2_tellOn_38 : decode cX2_tellOn 38 = .ok (.iconst 0, 1) := by decide +kernel
theorem dX2_tellOn_39 : decode cX2_tellOn 39 = .ok (.istore_n 2, 1) := by decide +kernel
theorem dX2_tellOn_40 : decode cX2_tellOn 40 = .ok (.iload_n 2, 1) := by decide +kernel
theorem dX2_tellOn_41 : decode cX2_tellOn 41 = .ok (.aload_n 1, 1) := by decide +kernel
theorem dX2_tellOn_42 : decode cX2_tellOn 42 = .ok (.getfield 31, 3) := by decide +kernel
theorem dX2_tellOn_45 : decode cX2_tellOn 45 = .ok (.if_icmp .ge 53, 3) := by decide +kernel
theorem dX2_tellOn_48 : decode cX2_tellOn 48 = .ok (.iconst 0, 1) := by decide +kernel
theorem dX2_tellOn_49 : decode cX2_tellOn 49 = .ok (.istore_n 3, 1) := by decide +kernel
theorem dX2_tellOn_50 : decode cX2_tellOn 50 = .ok (.aload_n 0, 1) := by decide +kernel
theorem dX2_tellOn_51 : decode cX2_tellOn 51 = .ok (.getfield 15, 3) := by decide +kernel
theorem dX2_tellOn_54 : decode cX2_tellOn 54 = .ok (.iload_n 2, 1) := by decide +kernel
theorem dX2_tellOn_55 : decode cX2_tellOn 55 = .ok (.iaload, 1) := by decide +kernel
theorem dX2_tellOn_56 : decode cX2_tellOn 56 = .ok (.ifCond .eq 36, 3) := by decide +kernel
theorem dX2_tellOn_59 : decode cX2_tellOn 59 = .ok (.iload_n 3, 1) := by decide +kernel
theorem dX2_tellOn_60 : decode cX2_tellOn 60 = .ok (.aload_n 1, 1) := by decide +kernel
theorem dX2_tellOn_61 : decode cX2_tellOn 61 = .ok (.getfield 73, 3) := by decide +kernel
theorem dX2_tellOn_64 : decode cX2_tellOn 64 = .ok (.if_icmp .ge 28, 3) := by decide +kernel
theorem dX2_tellOn_67 : decode cX2_tellOn 67 = .ok (.aload_n 0, 1) := by decide +kernel
theorem dX2_tellOn_68 : decode cX2_tellOn 68 = .ok (.getfield 15, 3) := by decide +kernel
theorem dX2_tellOn_71 : decode cX2_tellOn 71 = .ok (.iload_n 2, 1) := by decide +kernel
theorem dX2_tellOn_72 : decode cX2_tellOn 72 = .ok (.iaload, 1) := by decide +kernel
theorem dX2_tellOn_73 : decode cX2_tellOn 73 = .ok (.iload_n 3, 1) := by decide +kernel
theorem dX2_tellOn_74 : decode cX2_tellOn 74 = .ok (.ishr, 1) := by decide +kernel
theorem dX2_tellOn_75 : decode cX2_tellOn 75 = .ok (.iconst 1, 1) := by decide +kernel
theorem dX2_tellOn_76 : decode cX2_tellOn 76 = .ok (.iand, 1) := by decide +kernel
theorem dX2_tellOn_77 : decode cX2_tellOn 77 = .ok (.ifCond .eq 9, 3) := by decide +kernel
theorem dX2_tellOn_80 : decode cX2_tellOn 80 = .ok (.aload_n 0, 1) := by decide +kernel
theorem dX2_tellOn_81 : decode cX2_tellOn 81 = .ok (.iload_n 3, 1) := by decide +kernel
theorem dX2_tellOn_82 : decode cX2_tellOn 82 = .ok (.iload_n 2, 1) := by decide +kernel
theorem dX2_tellOn_83 : decode cX2_tellOn 83 = .ok (.invokevirtual 109, 3) := by decide +kernel
theorem dX2_tellOn_86 : decode cX2_tellOn 86 = .ok (.iinc 3 1, 3) := by decide +kernel
theorem dX2_tellOn_89 : decode cX2_tellOn 89 = .ok (.goto (-39), 3) := by decide +kernel
theorem dX2_tellOn_92 : decode cX2_tellOn 92 = .ok (.iinc 2 1, 3) := by decide +kernel
theorem dX2_tellOn_95 : decode cX2_tellOn 95 = .ok (.goto (-55), 3) := by decide +kernel
theorem dX2_tellOn_98 : decode cX2_tellOn 98 = .ok (.return_, 1) := by decide +kernel
theorem dX2_chat_0 : decode cX2_chat 0 = .ok (.iconst 0, 1) := by decide +kernel
theorem dX2_chat_1 : decode cX2_chat 1 = .ok (.istore_n 3, 1) := by decide +kernel
theorem dX2_chat_2 : decode cX2_chat 2 = .ok (.iload_n 3, 1) := by decide +kernel
theorem dX2_chat_3 : decode cX2_chat 3 = .ok (.aload_n 1, 1) := by decide +kernel
theorem dX2_chat_4 : decode cX2_chat 4 = .ok (.getfield 31, 3) := by decide +kernel
theorem dX2_chat_7 : decode cX2_chat 7 = .ok (.if_icmp .ge 60, 3) := by decide +kernel
theorem dX2_chat_10 : decode cX2_chat 10 = .ok (.aload_n 0, 1) := by decide +kernel
theorem dX2_chat_11 : decode cX2_chat 11 = .ok (.iload_n 2, 1) := by decide +kernel
theorem dX2_chat_12 : decode cX2_chat 12 = .ok (.iload_n 3, 1) := by decide +kernel
theorem dX2_chat_13 : decode cX2_chat 13 = .ok (.invokevirtual 89, 3) := by decide +kernel
theorem dX2_chat_16 : decode cX2_chat 16 = .ok (.ifCond .eq 21, 3) := by decide +kernel
theorem dX2_chat_19 : decode cX2_chat 19 = .ok (.aload_n 1, 1) := by decide +kernel
theorem dX2_chat_20 : decode cX2_chat 20 = .ok (.getfield 112, 3) := by decide +kernel
theorem dX2_chat_23 : decode cX2_chat 23 = .ok (.iload_n 2, 1) := by decide +kernel
theorem dX2_chat_24 : decode cX2_chat 24 = .ok (.iaload, 1) := by decide +kernel
theorem dX2_chat_25 : decode cX2_chat 25 = .ok (.aload_n 0, 1) := by decide +kernel
theorem dX2_chat_26 : decode cX2_chat 26 = .ok (.getfield 9, 3) := by decide +kernel
theorem dX2_chat_29 : decode cX2_chat 29 = .ok (.iload_n 3, 1) := by decide +kernel
theorem dX2_chat_30 : decode cX2_chat 30 = .ok (.iaload, 1) := by decide +kernel
theorem dX2_chat_31 : decode cX2_chat 31 = .ok (.iconst (-1), 1) := by decide +kernel
theorem dX2_chat_32 : decode cX2_chat 32 = .ok (.ixor, 1) := by decide +kernel
theorem dX2_chat_33 : decode cX2_chat 33 = .ok (.iand, 1) := by decide +kernel
theorem dX2_chat_34 : decode cX2_chat 34 = .ok (.goto 4, 3) := by decide +kernel
theorem dX2_chat_37 : decode cX2_chat 37 = .ok (.iconst 0, 1) := by decide +kernel
theorem dX2_chat_38 : decode cX2_chat 38 = .ok (.istore 4, 2) := by decide +kernel
theorem dX2_chat_40 : decode cX2_chat 40 = .ok (.iload 4, 2) := by decide +kernel
theorem dX2_chat_42 : decode cX2_chat 42 = .ok (.ifCond .eq 19, 3) := by decide +kernel
theorem dX2_chat_45 : decode cX2_chat 45 = .ok (.aload_n 0, 1) := by decide +kernel
theorem dX2_chat_46 : decode cX2_chat 46 = .ok (.getfield 15, 3) := by decide +kernel
theorem dX2_chat_49 : decode cX2_chat 49 = .ok (.iload_n 3, 1) := by decide +kernel
theorem dX2_chat_50 : decode cX2_chat 50 = .ok (.dup2, 1) := by decide +kernel
theorem dX2_chat_51 : decode cX2_chat 51 = .ok (.iaload, 1) := by decide +kernel
theorem dX2_chat_52 : decode cX2_chat 52 = .ok (.iload 4, 2) := by decide +kernel
theorem dX2_chat_54 : decode cX2_chat 54 = .ok (.iload 4, 2) := by decide +kernel
theorem dX2_chat_56 : decode cX2_chat 56 = .ok (.ineg, 1) := by decide +kernel
theorem dX2_chat_57 : decode cX2_chat 57 = .ok (.iand, 1) := by decide +kernel
theorem dX2_chat_58 : decode cX2_chat 58 = .ok (.ior, 1) := by decide +kernel
theorem dX2_chat_59 : decode cX2_chat 59 = .ok (.iastore, 1) := by decide +kernel
theorem dX2_chat_60 : decode cX2_chat 60 = .ok (.return_, 1) := by decide +kernel
theorem dX2_chat_61 : decode cX2_chat 61 = .ok (.iinc 3 1, 3) := by decide +kernel
theorem dX2_chat_64 : decode cX2_chat 64 = .ok (.goto (-62), 3) := by decide +kernel
theorem dX2_chat_67 : decode cX2_chat 67 = .ok (.return_, 1) := by decide +kernel
theorem dX2_changeByDraws_0 : decode cX2_changeByDraws 0 = .ok (.aload_n 0, 1) := by decide +kernel
theorem dX2_changeByDraws_1 : decode cX2_changeByDraws 1 = .ok (.aload_n 1, 1) := by decide +kernel
theorem dX2_changeByDraws_2 : decode cX2_changeByDraws 2 = .ok (.getfield 73, 3) := by decide +kernel
theorem dX2_changeByDraws_5 : decode cX2_changeByDraws 5 = .ok (.invokevirtual 115, 3) := by decide +kernel
theorem dX2_changeByDraws_8 : decode cX2_changeByDraws 8 = .ok (.istore_n 2, 1) := by decide +kernel
theorem dX2_changeByDraws_9 : decode cX2_changeByDraws 9 = .ok (.aload_n 1, 1) := by decide +kernel
theorem dX2_changeByDraws_10 : decode cX2_changeByDraws 10 = .ok (.getfield 31, 3) := by decide +kernel
theorem dX2_changeByDraws_13 : decode cX2_changeByDraws 13 = .ok (.ifCond .ne 4, 3) := by decide +kernel
theorem dX2_changeByDraws_16 : decode cX2_changeByDraws 16 = .ok (.return_, 1) := by decide +kernel
theorem dX2_changeByDraws_17 : decode cX2_changeByDraws 17 = .ok (.aload_n 0, 1) := by decide +kernel
theorem dX2_changeByDraws_18 : decode cX2_changeByDraws 18 = .ok (.aload_n 1, 1) := by decide +kernel
theorem dX2_changeByDraws_19 : decode cX2_changeByDraws 19 = .ok (.getfield 31, 3) := by decide +kernel
theorem dX2_changeByDraws_22 : decode cX2_changeByDraws 22 = .ok (.invokevirtual 115, 3) := by decide +kernel
theorem dX2_changeByDraws_25 : decode cX2_changeByDraws 25 = .ok (.istore_n 3, 1) := by decide +kernel
theorem dX2_changeByDraws_26 : decode cX2_changeByDraws 26 = .ok (.aload_n 0, 1) := by decide +kernel
theorem dX2_changeByDraws_27 : decode cX2_changeByDraws 27 = .ok (.iload_n 2, 1) := by decide +kernel
theorem dX2_changeByDraws_28 : decode cX2_changeByDraws 28 = .ok (.iload_n 3, 1) := by decide +kernel
theorem dX2_changeByDraws_29 : decode cX2_changeByDraws 29 = .ok (.invokevirtual 89, 3) := by decide +kernel
theorem dX2_changeByDraws_32 : decode cX2_changeByDraws 32 = .ok (.ifCond .eq 12, 3) := by decide +kernel
theorem dX2_changeByDraws_35 : decode cX2_changeByDraws 35 = .ok (.aload_n 0, 1) := by decide +kernel
theorem dX2_changeByDraws_36 : decode cX2_changeByDraws 36 = .ok (.iload_n 2, 1) := by decide +kernel
theorem dX2_changeByDraws_37 : decode cX2_changeByDraws 37 = .ok (.iload_n 3, 1) := by decide +kernel
theorem dX2_changeByDraws_38 : decode cX2_changeByDraws 38 = .ok (.invokevirtual 97, 3) := by decide +kernel
theorem dX2_changeByDraws_41 : decode cX2_changeByDraws 41 = .ok (.goto 9, 3) := by decide +kernel
theorem dX2_changeByDraws_44 : decode cX2_changeByDraws 44 = .ok (.aload_n 0, 1) := by decide +kernel
theorem dX2_changeByDraws_45 : decode cX2_changeByDraws 45 = .ok (.iload_n 2, 1) := by decide +kernel
theorem dX2_changeByDraws_46 : decode cX2_changeByDraws 46 = .ok (.iload_n 3, 1) := by decide +kernel
theorem dX2_changeByDraws_47 : decode cX2_changeByDraws 47 = .ok (.invokevirtual 109, 3) := by decide +kernel
theorem dX2_changeByDraws_50 : decode cX2_changeByDraws 50 = .ok (.return_, 1) := by decide +kernel
theorem dX2_drawOf_0 : decode cX2_drawOf 0 = .ok (.aload_n 0, 1) := by decide +kernel
theorem dX2_drawOf_1 : decode cX2_drawOf 1 = .ok (.aload_n 0, 1) := by decide +kernel
theorem dX2_drawOf_2 : decode cX2_drawOf 2 = .ok (.getfield 39, 3) := by decide +kernel
theorem dX2_drawOf_5 : decode cX2_drawOf 5 = .ok (.i2l, 1) := by decide +kernel
theorem dX2_drawOf_6 : decode cX2_drawOf 6 = .ok (.ldc2_w 118, 3) := by decide +kernel
theorem dX2_drawOf_9 : decode cX2_drawOf 9 = .ok (.lmul, 1) := by decide +kernel
theorem dX2_drawOf_10 : decode cX2_drawOf 10 = .ok (.ldc2_w 120, 3) := by decide +kernel
theorem dX2_drawOf_13 : decode cX2_drawOf 13 = .ok (.ladd, 1) := by decide +kernel
theorem dX2_drawOf_14 : decode cX2_drawOf 14 = .ok (.ldc2_w 122, 3) := by decide +kernel
theorem dX2_drawOf_17 : decode cX2_drawOf 17 = .ok (.land, 1) := by decide +kernel
theorem dX2_drawOf_18 : decode cX2_drawOf 18 = .ok (.l2i, 1) := by decide +kernel
theorem dX2_drawOf_19 : decode cX2_drawOf 19 = .ok (.putfield 39, 3) := by decide +kernel
theorem dX2_drawOf_22 : decode cX2_drawOf 22 = .ok (.iload_n 1, 1) := by decide +kernel
theorem dX2_drawOf_23 : decode cX2_drawOf 23 = .ok (.ifCond .le 15, 3) := by decide +kernel
theorem dX2_drawOf_26 : decode cX2_drawOf 26 = .ok (.aload_n 0, 1) := by decide +kernel
theorem dX2_drawOf_27 : decode cX2_drawOf 27 = .ok (.getfield 39, 3) := by decide +kernel
theorem dX2_drawOf_30 : decode cX2_drawOf 30 = .ok (.ldc 124, 2) := by decide +kernel
theorem dX2_drawOf_32 : decode cX2_drawOf 32 = .ok (.idiv, 1) := by decide +kernel
theorem dX2_drawOf_33 : decode cX2_drawOf 33 = .ok (.iload_n 1, 1) := by decide +kernel
theorem dX2_drawOf_34 : decode cX2_drawOf 34 = .ok (.irem, 1) := by decide +kernel
theorem dX2_drawOf_35 : decode cX2_drawOf 35 = .ok (.goto 4, 3) := by decide +kernel
theorem dX2_drawOf_38 : decode cX2_drawOf 38 = .ok (.iconst 0, 1) := by decide +kernel
theorem dX2_drawOf_39 : decode cX2_drawOf 39 = .ok (.ireturn, 1) := by decide +kernel
theorem dX3_init_0 : decode cX3_init 0 = .ok (.aload_n 0, 1) := by decide +kernel
theorem dX3_init_1 : decode cX3_init 1 = .ok (.invokespecial 3, 3) := by decide +kernel
theorem dX3_init_4 : decode cX3_init 4 = .ok (.aload_n 0, 1) := by decide +kernel
theorem dX3_init_5 : decode cX3_init 5 = .ok (.bipush 8, 2) := by decide +kernel
theorem dX3_init_7 : decode cX3_init 7 = .ok (.newarray .int, 2) := by decide +kernel
theorem dX3_init_9 : decode cX3_init 9 = .ok (.putfield 9, 3) := by decide +kernel
theorem dX3_init_12 : decode cX3_init 12 = .ok (.aload_n 0, 1) := by decide +kernel
theorem dX3_init_13 : decode cX3_init 13 = .ok (.bipush 8, 2) := by decide +kernel
theorem dX3_init_15 : decode cX3_init 15 = .ok (.newarray .int, 2) := by decide +kernel
theorem dX3_init_17 : decode cX3_init 17 = .ok (.putfield 15, 3) := by decide +kernel
theorem dX3_init_20 : decode cX3_init 20 = .ok (.aload_n 0, 1) := by decide +kernel
theorem dX3_init_21 : decode cX3_init 21 = .ok (.bipush 8, 2) := by decide +kernel
theorem dX3_init_23 : decode cX3_init 23 = .ok (.newarray .int, 2) := by decide +kernel
theorem dX3_init_25 : decode cX3_init 25 = .ok (.putfield 18, 3) := by decide +kernel
theorem dX3_init_28 : decode cX3_init 28 = .ok (.aload_n 0, 1) := by decide +kernel
theorem dX3_init_29 : decode cX3_init 29 = .ok (.bipush 7, 2) := by decide +kernel
theorem dX3_init_31 : decode cX3_init 31 = .ok (.newarray .int, 2) := by decide +kernel
theorem dX3_init_33 : decode cX3_init 33 = .ok (.putfield 21, 3) := by decide +kernel
theorem dX3_init_36 : decode cX3_init 36 = .ok (.aload_n 0, 1) := by decide +kernel
theorem dX3_init_37 : decode cX3_init 37 = .ok (.bipush 7, 2) := by decide +kernel
theorem dX3_init_39 : decode cX3_init 39 = .ok (.newarray .int, 2) := by decide +kernel
theorem dX3_init_41 : decode cX3_init 41 = .ok (.putfield 24, 3) := by decide +kernel
theorem dX3_init_44 : decode cX3_init 44 = .ok (.aload_n 0, 1) := by decide +kernel
theorem dX3_init_45 : decode cX3_init 45 = .ok (.bipush 12, 2) := by decide +kernel
theorem dX3_init_47 : decode cX3_init 47 = .ok (.newarray .int, 2) := by decide +kernel
theorem dX3_init_49 : decode cX3_init 49 = .ok (.putfield 27, 3) := by decide +kernel
theorem dX3_init_52 : decode cX3_init 52 = .ok (.aload_n 0, 1) := by decide +kernel
theorem dX3_init_53 : decode cX3_init 53 = .ok (.bipush 12, 2) := by decide +kernel
theorem dX3_init_55 : decode cX3_init 55 = .ok (.newarray .int, 2) := by decide +kernel
theorem dX3_init_57 : decode cX3_init 57 = .ok (.putfield 30, 3) := by decide +kernel
theorem dX3_init_60 : decode cX3_init 60 = .ok (.aload_n 0, 1) := by decide +kernel
theorem dX3_init_61 : decode cX3_init 61 = .ok (.iconst 4, 1) := by decide +kernel
theorem dX3_init_62 : decode cX3_init 62 = .ok (.newarray .int, 2) := by decide +kernel
theorem dX3_init_64 : decode cX3_init 64 = .ok (.putfield 33, 3) := by decide +kernel
theorem dX3_init_67 : decode cX3_init 67 = .ok (.return_, 1) := by decide +kernel
theorem dX3_clear_0 : decode cX3_clear 0 = .ok (.aload_n 0, 1) := by decide +kernel
theorem dX3_clear_1 : decode cX3_clear 1 = .ok (.iconst 0, 1) := by decide +kernel
theorem dX3_clear_2 : decode cX3_clear 2 = .ok (.putfield 36, 3) := by decide +kernel
theorem dX3_clear_5 : decode cX3_clear 5 = .ok (.aload_n 0, 1) := by decide +kernel
theorem dX3_clear_6 : decode cX3_clear 6 = .ok (.iconst 0, 1) := by decide +kernel
theorem dX3_clear_7 : decode cX3_clear 7 = .ok (.putfield 40, 3) := by decide +kernel
theorem dX3_clear_10 : decode cX3_clear 10 = .ok (.aload_n 0, 1) := by decide +kernel
theorem dX3_clear_11 : decode cX3_clear 11 = .ok (.iconst 0, 1) := by decide +kernel
theorem dX3_clear_12 : decode cX3_clear 12 = .ok (.putfield 43, 3) := by decide +kernel
theorem dX3_clear_15 : decode cX3_clear 15 = .ok (.aload_n 0, 1) := by decide +kernel
theorem dX3_clear_16 : decode cX3_clear 16 = .ok (.iconst 0, 1) := by decide +kernel
theorem dX3_clear_17 : decode cX3_clear 17 = .ok (.putfield 46, 3) := by decide +kernel
theorem dX3_clear_20 : decode cX3_clear 20 = .ok (.aload_n 0, 1) := by decide +kernel
theorem dX3_clear_21 : decode cX3_clear 21 = .ok (.iconst 0, 1) := by decide +kernel
theorem dX3_clear_22 : decode cX3_clear 22 = .ok (.putfield 49, 3) := by decide +kernel
theorem dX3_clear_25 : decode cX3_clear 25 = .ok (.aload_n 0, 1) := by decide +kernel
theorem dX3_clear_26 : decode cX3_clear 26 = .ok (.iconst 0, 1) := by decide +kernel
theorem dX3_clear_27 : decode cX3_clear 27 = .ok (.putfield 52, 3) := by decide +kernel
theorem dX3_clear_30 : decode cX3_clear 30 = .ok (.aload_n 0, 1) := by decide +kernel
theorem dX3_clear_31 : decode cX3_clear 31 = .ok (.iconst 0, 1) := by decide +kernel
theorem dX3_clear_32 : decode cX3_clear 32 = .ok (.putfield 55, 3) := by decide +kernel
theorem dX3_clear_35 : decode cX3_clear 35 = .ok (.aload_n 0, 1) := by decide +kernel
theorem dX3_clear_36 : decode cX3_clear 36 = .ok (.iconst 0, 1) := by decide +kernel
theorem dX3_clear_37 : decode cX3_clear 37 = .ok (.putfield 58, 3) := by decide +kernel
theorem dX3_clear_40 : decode cX3_clear 40 = .ok (.aload_n 0, 1) := by decide +kernel
theorem dX3_clear_41 : decode cX3_clear 41 = .ok (.getfield 18, 3) := by decide +kernel
theorem dX3_clear_44 : decode cX3_clear 44 = .ok (.iconst 0, 1) := by decide +kernel
theorem dX3_clear_45 : decode cX3_clear 45 = .ok (.invokestatic 61, 3) := by decide +kernel
theorem dX3_clear_48 : decode cX3_clear 48 = .ok (.aload_n 0, 1) := by decide +kernel
theorem dX3_clear_49 : decode cX3_clear 49 = .ok (.getfield 21, 3) := by decide +kernel
theorem dX3_clear_52 : decode cX3_clear 52 = .ok (.iconst 0, 1) := by decide +kernel
theorem dX3_clear_53 : decode cX3_clear 53 = .ok (.invokestatic 61, 3) := by decide +kernel
theorem dX3_clear_56 : decode cX3_clear 56 = .ok (.aload_n 0, 1) := by decide +kernel
theorem dX3_clear_57 : decode cX3_clear 57 = .ok (.getfield 24, 3) := by decide +kernel
theorem dX3_clear_60 : decode cX3_clear 60 = .ok (.iconst 0, 1) := by decide +kernel
theorem dX3_clear_61 : decode cX3_clear 61 = .ok (.invokestatic 61, 3) := by decide +kernel
theorem dX3_clear_64 : decode cX3_clear 64 = .ok (.return_, 1) := by decide +kernel
theorem dX3_hasPerson_0 : decode cX3_hasPerson 0 = .ok (.iload_n 1, 1) := by decide +kernel
theorem dX3_hasPerson_1 : decode cX3_hasPerson 1 = .ok (.ifCond .lt 15, 3) := by decide +kernel
theorem dX3_hasPerson_4 : decode cX3_hasPerson 4 = .ok (.iload_n 1, 1) := by decide +kernel
theorem dX3_hasPerson_5 : decode cX3_hasPerson 5 = .ok (.aload_n 0, 1) := by decide +kernel
theorem dX3_hasPerson_6 : decode cX3_hasPerson 6 = .ok (.getfield 36, 3) := by decide +kernel
theorem dX3_hasPerson_9 : decode cX3_hasPerson 9 = .ok (.if_icmp .ge 7, 3) := by decide +kernel
theorem dX3_hasPerson_12 : decode cX3_hasPerson 12 = .ok (.iconst 1, 1) := by decide +kernel
theorem dX3_hasPerson_13 : decode cX3_hasPerson 13 = .ok (.goto 4, 3) := by decide +kernel
theorem dX3_hasPerson_16 : decode cX3_hasPerson 16 = .ok (.iconst 0, 1) := by decide +kernel
theorem dX3_hasPerson_17 : decode cX3_hasPerson 17 = .ok (.ireturn, 1) := by decide +kernel
theorem dX3_hasPeople_0 : decode cX3_hasPeople 0 = .ok (.iload_n 1, 1) := by decide +kernel
theorem dX3_hasPeople_1 : decode cX3_hasPeople 1 = .ok (.aload_n 0, 1) := by decide +kernel
theorem dX3_hasPeople_2 : decode cX3_hasPeople 2 = .ok (.invokevirtual 67, 3) := by decide +kernel
theorem dX3_hasPeople_5 : decode cX3_hasPeople 5 = .ok (.iconst (-1), 1) := by decide +kernel
theorem dX3_hasPeople_6 : decode cX3_hasPeople 6 = .ok (.ixor, 1) := by decide +kernel
theorem dX3_hasPeople_7 : decode cX3_hasPeople 7 = .ok (.iand, 1) := by decide +kernel
theorem dX3_hasPeople_8 : decode cX3_hasPeople 8 = .ok (.ifCond .ne 7, 3) := by decide +kernel
theorem dX3_hasPeople_11 : decode cX3_hasPeople 11 = .ok (.iconst 1, 1) := by decide +kernel
theorem dX3_hasPeople_12 : decode cX3_hasPeople 12 = .ok (.goto 4, 3) := by decide +kernel
theorem dX3_hasPeople_15 : decode cX3_hasPeople 15 = .ok (.iconst 0, 1) := by decide +kernel
theorem dX3_hasPeople_16 : decode cX3_hasPeople 16 = .ok (.ireturn, 1) := by decide +kernel
theorem dX3_hasFact_0 : decode cX3_hasFact 0 = .ok (.iload_n 1, 1) := by decide +kernel
theorem dX3_hasFact_1 : decode cX3_hasFact 1 = .ok (.ifCond .lt 15, 3) := by decide +kernel
theorem dX3_hasFact_4 : decode cX3_hasFact 4 = .ok (.iload_n 1, 1) := by decide +kernel
theorem dX3_hasFact_5 : decode cX3_hasFact 5 = .ok (.aload_n 0, 1) := by decide +kernel
theorem dX3_hasFact_6 : decode cX3_hasFact 6 = .ok (.getfield 40, 3) := by decide +kernel
theorem dX3_hasFact_9 : decode cX3_hasFact 9 = .ok (.if_icmp .ge 7, 3) := by decide +kernel
theorem dX3_hasFact_12 : decode cX3_hasFact 12 = .ok (.iconst 1, 1) := by decide +kernel
theorem dX3_hasFact_13 : decode cX3_hasFact 13 = .ok (.goto 4, 3) := by decide +kernel
theorem dX3_hasFact_16 : decode cX3_hasFact 16 = .ok (.iconst 0, 1) := by decide +kernel
theorem dX3_hasFact_17 : decode cX3_hasFact 17 = .ok (.ireturn, 1) := by decide +kernel
theorem dX3_hasFactOrNone_0 : decode cX3_hasFactOrNone 0 = .ok (.iload_n 1, 1) := by decide +kernel
theorem dX3_hasFactOrNone_1 : decode cX3_hasFactOrNone 1 = .ok (.iconst (-1), 1) := by decide +kernel
theorem dX3_hasFactOrNone_2 : decode cX3_hasFactOrNone 2 = .ok (.if_icmp .eq 11, 3) := by decide +kernel
theorem dX3_hasFactOrNone_5 : decode cX3_hasFactOrNone 5 = .ok (.aload_n 0, 1) := by decide +kernel
theorem dX3_hasFactOrNone_6 : decode cX3_hasFactOrNone 6 = .ok (.iload_n 1, 1) := by decide +kernel
theorem dX3_hasFactOrNone_7 : decode cX3_hasFactOrNone 7 = .ok (.invokevirtual 71, 3) := by decide +kernel
theorem dX3_hasFactOrNone_10 : decode cX3_hasFactOrNone 10 = .ok (.ifCond .eq 7, 3) := by decide +kernel
theorem dX3_hasFactOrNone_13 : decode cX3_hasFactOrNone 13 = .ok (.iconst 1, 1) := by decide +kernel
theorem dX3_hasFactOrNone_14 : decode cX3_hasFactOrNone 14 = .ok (.goto 4, 3) := by decide +kernel
theorem dX3_hasFactOrNone_17 : decode cX3_hasFactOrNone 17 = .ok (.iconst 0, 1) := by decide +kernel
theorem dX3_hasFactOrNone_18 : decode cX3_hasFactOrNone 18 = .ok (.ireturn, 1) := by decide +kernel
theorem dX3_hasBridge_0 : decode cX3_hasBridge 0 = .ok (.iload_n 1, 1) := by decide +kernel
theorem dX3_hasBridge_1 : decode cX3_hasBridge 1 = .ok (.ifCond .lt 15, 3) := by decide +kernel
theorem dX3_hasBridge_4 : decode cX3_hasBridge 4 = .ok (.iload_n 1, 1) := by decide +kernel
theorem dX3_hasBridge_5 : decode cX3_hasBridge 5 = .ok (.aload_n 0, 1) := by decide +kernel
theorem dX3_hasBridge_6 : decode cX3_hasBridge 6 = .ok (.getfield 46, 3) := by decide +kernel
theorem dX3_hasBridge_9 : decode cX3_hasBridge 9 = .ok (.if_icmp .ge 7, 3) := by decide +kernel
theorem dX3_hasBridge_12 : decode cX3_hasBridge 12 = .ok (.iconst 1, 1) := by decide +kernel
theorem dX3_hasBridge_13 : decode cX3_hasBridge 13 = .ok (.goto 4, 3) := by decide +kernel
theorem dX3_hasBridge_16 : decode cX3_hasBridge 16 = .ok (.iconst 0, 1) := by decide +kernel
theorem dX3_hasBridge_17 : decode cX3_hasBridge 17 = .ok (.ireturn, 1) := by decide +kernel
theorem dX3_everybody_0 : decode cX3_everybody 0 = .ok (.iconst 1, 1) := by decide +kernel
theorem dX3_everybody_1 : decode cX3_everybody 1 = .ok (.aload_n 0, 1) := by decide +kernel
theorem dX3_everybody_2 : decode cX3_everybody 2 = .ok (.getfield 36, 3) := by decide +kernel
theorem dX3_everybody_5 : decode cX3_everybody 5 = .ok (.ishl, 1) := by decide +kernel
theorem dX3_everybody_6 : decode cX3_everybody 6 = .ok (.iconst 1, 1) := by decide +kernel
theorem dX3_everybody_7 : decode cX3_everybody 7 = .ok (.isub, 1) := by decide +kernel
theorem dX3_everybody_8 : decode cX3_everybody 8 = .ok (.ireturn, 1) := by decide +kernel
theorem dX3_isLie_0 : decode cX3_isLie 0 = .ok (.aload_n 0, 1) := by decide +kernel
theorem dX3_isLie_1 : decode cX3_isLie 1 = .ok (.getfield 55, 3) := by decide +kernel
theorem dX3_isLie_4 : decode cX3_isLie 4 = .ok (.iload_n 1, 1) := by decide +kernel
theorem dX3_isLie_5 : decode cX3_isLie 5 = .ok (.ishr, 1) := by decide +kernel
theorem dX3_isLie_6 : decode cX3_isLie 6 = .ok (.iconst 1, 1) := by decide +kernel
theorem dX3_isLie_7 : decode cX3_isLie 7 = .ok (.iand, 1) := by decide +kernel
theorem dX3_isLie_8 : decode cX3_isLie 8 = .ok (.ifCond .eq 7, 3) := by decide +kernel
theorem dX3_isLie_11 : decode cX3_isLie 11 = .ok (.iconst 1, 1) := by decide +kernel
theorem dX3_isLie_12 : decode cX3_isLie 12 = .ok (.goto 4, 3) := by decide +kernel
theorem dX3_isLie_15 : decode cX3_isLie 15 = .ok (.iconst 0, 1) := by decide +kernel
theorem dX3_isLie_16 : decode cX3_isLie 16 = .ok (.ireturn, 1) := by decide +kernel
theorem dX3_isQuiet_0 : decode cX3_isQuiet 0 = .ok (.aload_n 0, 1) := by decide +kernel
theorem dX3_isQuiet_1 : decode cX3_isQuiet 1 = .ok (.getfield 52, 3) := by decide +kernel
theorem dX3_isQuiet_4 : decode cX3_isQuiet 4 = .ok (.iload_n 1, 1) := by decide +kernel
theorem dX3_isQuiet_5 : decode cX3_isQuiet 5 = .ok (.ishr, 1) := by decide +kernel
theorem dX3_isQuiet_6 : decode cX3_isQuiet 6 = .ok (.iconst 1, 1) := by decide +kernel
theorem dX3_isQuiet_7 : decode cX3_isQuiet 7 = .ok (.iand, 1) := by decide +kernel
theorem dX3_isQuiet_8 : decode cX3_isQuiet 8 = .ok (.ifCond .eq 7, 3) := by decide +kernel
theorem dX3_isQuiet_11 : decode cX3_isQuiet 11 = .ok (.iconst 1, 1) := by decide +kernel
theorem dX3_isQuiet_12 : decode cX3_isQuiet 12 = .ok (.goto 4, 3) := by decide +kernel
theorem dX3_isQuiet_15 : decode cX3_isQuiet 15 = .ok (.iconst 0, 1) := by decide +kernel
theorem dX3_isQuiet_16 : decode cX3_isQuiet 16 = .ok (.ireturn, 1) := by decide +kernel
theorem dX3_pull_0 : decode cX3_pull 0 = .ok (.aload_n 0, 1) := by decide +kernel
theorem dX3_pull_1 : decode cX3_pull 1 = .ok (.iload_n 1, 1) := by decide +kernel
theorem dX3_pull_2 : decode cX3_pull 2 = .ok (.invokevirtual 75, 3) := by decide +kernel
theorem dX3_pull_5 : decode cX3_pull 5 = .ok (.ifCond .eq 13, 3) := by decide +kernel
theorem dX3_pull_8 : decode cX3_pull 8 = .ok (.aload_n 0, 1) := by decide +kernel
theorem dX3_pull_9 : decode cX3_pull 9 = .ok (.getfield 15, 3) := by decide +kernel
theorem dX3_pull_12 : decode cX3_pull 12 = .ok (.iload_n 1, 1) := by decide +kernel
theorem dX3_pull_13 : decode cX3_pull 13 = .ok (.iaload, 1) := by decide +kernel
theorem dX3_pull_14 : decode cX3_pull 14 = .ok (.ineg, 1) := by decide +kernel
theorem dX3_pull_15 : decode cX3_pull 15 = .ok (.goto 9, 3) := by decide +kernel
theorem dX3_pull_18 : decode cX3_pull 18 = .ok (.aload_n 0, 1) := by decide +kernel
theorem dX3_pull_19 : decode cX3_pull 19 = .ok (.getfield 15, 3) := by decide +kernel
theorem dX3_pull_22 : decode cX3_pull 22 = .ok (.iload_n 1, 1) := by decide +kernel
theorem dX3_pull_23 : decode cX3_pull 23 = .ok (.iaload, 1) := by decide +kernel
theorem dX3_pull_24 : decode cX3_pull 24 = .ok (.ireturn, 1) := by decide +kernel
theorem dX3_addFact_0 : decode cX3_addFact 0 = .ok (.aload_n 0, 1) := by decide +kernel
theorem dX3_addFact_1 : decode cX3_addFact 1 = .ok (.getfield 9, 3) := by decide +kernel
theorem dX3_addFact_4 : decode cX3_addFact 4 = .ok (.aload_n 0, 1) := by decide +kernel
theorem dX3_addFact_5 : decode cX3_addFact 5 = .ok (.getfield 40, 3) := by decide +kernel
theorem dX3_addFact_8 : decode cX3_addFact 8 = .ok (.iload_n 1, 1) := by decide +kernel
theorem dX3_addFact_9 : decode cX3_addFact 9 = .ok (.iastore, 1) := by decide +kernel
theorem dX3_addFact_10 : decode cX3_addFact 10 = .ok (.aload_n 0, 1) := by decide +kernel
theorem dX3_addFact_11 : decode cX3_addFact 11 = .ok (.getfield 15, 3) := by decide +kernel
theorem dX3_addFact_14 : decode cX3_addFact 14 = .ok (.aload_n 0, 1) := by decide +kernel
theorem dX3_addFact_15 : decode cX3_addFact 15 = .ok (.getfield 40, 3) := by decide +kernel
theorem dX3_addFact_18 : decode cX3_addFact 18 = .ok (.iload_n 2, 1) := by decide +kernel
theorem dX3_addFact_19 : decode cX3_addFact 19 = .ok (.iastore, 1) := by decide +kernel
theorem dX3_addFact_20 : decode cX3_addFact 20 = .ok (.aload_n 0, 1) := by decide +kernel
theorem dX3_addFact_21 : decode cX3_addFact 21 = .ok (.getfield 21, 3) := by decide +kernel
theorem dX3_addFact_24 : decode cX3_addFact 24 = .ok (.iload_n 1, 1) := by decide +kernel
theorem dX3_addFact_25 : decode cX3_addFact 25 = .ok (.dup2, 1) := by decide +kernel
theorem dX3_addFact_26 : decode cX3_addFact 26 = .ok (.iaload, 1) := by decide +kernel
theorem dX3_addFact_27 : decode cX3_addFact 27 = .ok (.iconst 1, 1) := by decide +kernel
theorem dX3_addFact_28 : decode cX3_addFact 28 = .ok (.aload_n 0, 1) := by decide +kernel
theorem dX3_addFact_29 : decode cX3_addFact 29 = .ok (.getfield 40, 3) := by decide +kernel
theorem dX3_addFact_32 : decode cX3_addFact 32 = .ok (.ishl, 1) := by decide +kernel
theorem dX3_addFact_33 : decode cX3_addFact 33 = .ok (.ior, 1) := by decide +kernel
theorem dX3_addFact_34 : decode cX3_addFact 34 = .ok (.iastore, 1) := by decide +kernel
theorem dX3_addFact_35 : decode cX3_addFact 35 = .ok (.aload_n 0, 1) := by decide +kernel
theorem dX3_addFact_36 : decode cX3_addFact 36 = .ok (.dup, 1) := by decide +kernel
theorem dX3_addFact_37 : decode cX3_addFact 37 = .ok (.getfield 55, 3) := by decide +kernel
theorem dX3_addFact_40 : decode cX3_addFact 40 = .ok (.iload_n 3, 1) := by decide +kernel
theorem dX3_addFact_41 : decode cX3_addFact 41 = .ok (.aload_n 0, 1) := by decide +kernel
theorem dX3_addFact_42 : decode cX3_addFact 42 = .ok (.getfield 40, 3) := by decide +kernel
theorem dX3_addFact_45 : decode cX3_addFact 45 = .ok (.ishl, 1) := by decide +kernel
theorem dX3_addFact_46 : decode cX3_addFact 46 = .ok (.ior, 1) := by decide +kernel
theorem dX3_addFact_47 : decode cX3_addFact 47 = .ok (.putfield 55, 3) := by decide +kernel
theorem dX3_addFact_50 : decode cX3_addFact 50 = .ok (.aload_n 0, 1) := by decide +kernel
theorem dX3_addFact_51 : decode cX3_addFact 51 = .ok (.dup, 1) := by decide +kernel
theorem dX3_addFact_52 : decode cX3_addFact 52 = .ok (.getfield 40, 3) := by decide +kernel
theorem dX3_addFact_55 : decode cX3_addFact 55 = .ok (.iconst 1, 1) := by decide +kernel
theorem dX3_addFact_56 : decode cX3_addFact 56 = .ok (.iadd, 1) := by decide +kernel
theorem dX3_addFact_57 : decode cX3_addFact 57 = .ok (.putfield 40, 3) := by decide +kernel
theorem dX3_addFact_60 : decode cX3_addFact 60 = .ok (.return_, 1) := by decide +kernel
theorem dX3_addFriendship_0 : decode cX3_addFriendship 0 = .ok (.aload_n 0, 1) := by decide +kernel
theorem dX3_addFriendship_1 : decode cX3_addFriendship 1 = .ok (.getfield 27, 3) := by decide +kernel
theorem dX3_addFriendship_4 : decode cX3_addFriendship 4 = .ok (.aload_n 0, 1) := by decide +kernel
theorem dX3_addFriendship_5 : decode cX3_addFriendship 5 = .ok (.getfield 43, 3) := by decide +kernel
theorem dX3_addFriendship_8 : decode cX3_addFriendship 8 = .ok (.iload_n 1, 1) := by decide +kernel
theorem dX3_addFriendship_9 : decode cX3_addFriendship 9 = .ok (.iastore, 1) := by decide +kernel
theorem dX3_addFriendship_10 : decode cX3_addFriendship 10 = .ok (.aload_n 0, 1) := by decide +kernel
theorem dX3_addFriendship_11 : decode cX3_addFriendship 11 = .ok (.getfield 30, 3) := by decide +kernel
theorem dX3_addFriendship_14 : decode cX3_addFriendship 14 = .ok (.aload_n 0, 1) := by decide +kernel
theorem dX3_addFriendship_15 : decode cX3_addFriendship 15 = .ok (.getfield 43, 3) := by decide +kernel
theorem dX3_addFriendship_18 : decode cX3_addFriendship 18 = .ok (.iload_n 2, 1) := by decide +kernel
theorem dX3_addFriendship_19 : decode cX3_addFriendship 19 = .ok (.iastore, 1) := by decide +kernel
theorem dX3_addFriendship_20 : decode cX3_addFriendship 20 = .ok (.aload_n 0, 1) := by decide +kernel
theorem dX3_addFriendship_21 : decode cX3_addFriendship 21 = .ok (.getfield 24, 3) := by decide +kernel
theorem dX3_addFriendship_24 : decode cX3_addFriendship 24 = .ok (.iload_n 1, 1) := by decide +kernel
theorem dX3_addFriendship_25 : decode cX3_addFriendship 25 = .ok (.dup2, 1) := by decide +kernel
theorem dX3_addFriendship_26 : decode cX3_addFriendship 26 = .ok (.iaload, 1) := by decide +kernel
theorem dX3_addFriendship_27 : decode cX3_addFriendship 27 = .ok (.iconst 1, 1) := by decide +kernel
theorem dX3_addFriendship_28 : decode cX3_addFriendship 28 = .ok (.iload_n 2, 1) := by decide +kernel
theorem dX3_addFriendship_29 : decode cX3_addFriendship 29 = .ok (.ishl, 1) := by decide +kernel
theorem dX3_addFriendship_30 : decode cX3_addFriendship 30 = .ok (.ior, 1) := by decide +kernel
theorem dX3_addFriendship_31 : decode cX3_addFriendship 31 = .ok (.iastore, 1) := by decide +kernel
theorem dX3_addFriendship_32 : decode cX3_addFriendship 32 = .ok (.aload_n 0, 1) := by decide +kernel
theorem dX3_addFriendship_33 : decode cX3_addFriendship 33 = .ok (.getfield 24, 3) := by decide +kernel
theorem dX3_addFriendship_36 : decode cX3_addFriendship 36 = .ok (.iload_n 2, 1) := by decide +kernel
theorem dX3_addFriendship_37 : decode cX3_addFriendship 37 = .ok (.dup2, 1) := by decide +kernel
theorem dX3_addFriendship_38 : decode cX3_addFriendship 38 = .ok (.iaload, 1) := by decide +kernel
theorem dX3_addFriendship_39 : decode cX3_addFriendship 39 = .ok (.iconst 1, 1) := by decide +kernel
theorem dX3_addFriendship_40 : decode cX3_addFriendship 40 = .ok (.iload_n 1, 1) := by decide +kernel
theorem dX3_addFriendship_41 : decode cX3_addFriendship 41 = .ok (.ishl, 1) := by decide +kernel
theorem dX3_addFriendship_42 : decode cX3_addFriendship 42 = .ok (.ior, 1) := by decide +kernel
theorem dX3_addFriendship_43 : decode cX3_addFriendship 43 = .ok (.iastore, 1) := by decide +kernel
theorem dX3_addFriendship_44 : decode cX3_addFriendship 44 = .ok (.aload_n 0, 1) := by decide +kernel
theorem dX3_addFriendship_45 : decode cX3_addFriendship 45 = .ok (.dup, 1) := by decide +kernel
theorem dX3_addFriendship_46 : decode cX3_addFriendship 46 = .ok (.getfield 43, 3) := by decide +kernel
theorem dX3_addFriendship_49 : decode cX3_addFriendship 49 = .ok (.iconst 1, 1) := by decide +kernel
theorem dX3_addFriendship_50 : decode cX3_addFriendship 50 = .ok (.iadd, 1) := by decide +kernel
theorem dX3_addFriendship_51 : decode cX3_addFriendship 51 = .ok (.putfield 43, 3) := by decide +kernel
theorem dX3_addFriendship_54 : decode cX3_addFriendship 54 = .ok (.return_, 1) := by decide +kernel
theorem dX3_waysOut_0 : decode cX3_waysOut 0 = .ok (.iload_n 1, 1) := by decide +kernel
theorem dX3_waysOut_1 : decode cX3_waysOut 1 = .ok (.aload_n 0, 1) := by decide +kernel
theorem dX3_waysOut_2 : decode cX3_waysOut 2 = .ok (.getfield 52, 3) := by decide +kernel
theorem dX3_waysOut_5 : decode cX3_waysOut 5 = .ok (.iconst (-1), 1) := by decide +kernel
theorem dX3_waysOut_6 : decode cX3_waysOut 6 = .ok (.ixor, 1) := by decide +kernel
theorem dX3_waysOut_7 : decode cX3_waysOut 7 = .ok (.iand, 1) := by decide +kernel
theorem dX3_waysOut_8 : decode cX3_waysOut 8 = .ok (.istore_n 2, 1) := by decide +kernel
theorem dX3_waysOut_9 : decode cX3_waysOut 9 = .ok (.iconst 0, 1) := by decide +kernel
theorem dX3_waysOut_10 : decode cX3_waysOut 10 = .ok (.istore_n 3, 1) := by decide +kernel
theorem dX3_waysOut_11 : decode cX3_waysOut 11 = .ok (.iconst 0, 1) := by decide +kernel
theorem dX3_waysOut_12 : decode cX3_waysOut 12 = .ok (.istore 4, 2) := by decide +kernel
theorem dX3_waysOut_14 : decode cX3_waysOut 14 = .ok (.iload 4, 2) := by decide +kernel
theorem dX3_waysOut_16 : decode cX3_waysOut 16 = .ok (.aload_n 0, 1) := by decide +kernel
theorem dX3_waysOut_17 : decode cX3_waysOut 17 = .ok (.getfield 43, 3) := by decide +kernel
theorem dX3_waysOut_20 : decode cX3_waysOut 20 = .ok (.if_icmp .ge 94, 3) := by decide +kernel
theorem dX3_waysOut_23 : decode cX3_waysOut 23 = .ok (.aload_n 0, 1) := by decide +kernel
theorem dX3_waysOut_24 : decode cX3_waysOut 24 = .ok (.getfield 27, 3) := by decide +kernel
theorem dX3_waysOut_27 : decode cX3_waysOut 27 = .ok (.iload 4, 2) := by decide +kernel
theorem dX3_waysOut_29 : decode cX3_waysOut 29 = .ok (.iaload, 1) := by decide +kernel
theorem dX3_waysOut_30 : decode cX3_waysOut 30 = .ok (.istore 5, 2) := by decide +kernel
theorem dX3_waysOut_32 : decode cX3_waysOut 32 = .ok (.aload_n 0, 1) := by decide +kernel
theorem dX3_waysOut_33 : decode cX3_waysOut 33 = .ok (.getfield 30, 3) := by decide +kernel
theorem dX3_waysOut_36 : decode cX3_waysOut 36 = .ok (.iload 4, 2) := by decide +kernel
theorem dX3_waysOut_38 : decode cX3_waysOut 38 = .ok (.iaload, 1) := by decide +kernel
theorem dX3_waysOut_39 : decode cX3_waysOut 39 = .ok (.istore 6, 2) := by decide +kernel
theorem dX3_waysOut_41 : decode cX3_waysOut 41 = .ok (.iload_n 2, 1) := by decide +kernel
theorem dX3_waysOut_42 : decode cX3_waysOut 42 = .ok (.iload 5, 2) := by decide +kernel
theorem dX3_waysOut_44 : decode cX3_waysOut 44 = .ok (.ishr, 1) := by decide +kernel
theorem dX3_waysOut_45 : decode cX3_waysOut 45 = .ok (.iconst 1, 1) := by decide +kernel
theorem dX3_waysOut_46 : decode cX3_waysOut 46 = .ok (.iand, 1) := by decide +kernel
theorem dX3_waysOut_47 : decode cX3_waysOut 47 = .ok (.ifCond .eq 16, 3) := by decide +kernel
theorem dX3_waysOut_50 : decode cX3_waysOut 50 = .ok (.iload_n 1, 1) := by decide +kernel
theorem dX3_waysOut_51 : decode cX3_waysOut 51 = .ok (.iload 6, 2) := by decide +kernel
theorem dX3_waysOut_53 : decode cX3_waysOut 53 = .ok (.ishr, 1) := by decide +kernel
theorem dX3_waysOut_54 : decode cX3_waysOut 54 = .ok (.iconst 1, 1) := by decide +kernel
theorem dX3_waysOut_55 : decode cX3_waysOut 55 = .ok (.iand, 1) := by decide +kernel
theorem dX3_waysOut_56 : decode cX3_waysOut 56 = .ok (.ifCond .ne 7, 3) := by decide +kernel
theorem dX3_waysOut_59 : decode cX3_waysOut 59 = .ok (.iconst 1, 1) := by decide +kernel
theorem dX3_waysOut_60 : decode cX3_waysOut 60 = .ok (.goto 4, 3) := by decide +kernel
theorem dX3_waysOut_63 : decode cX3_waysOut 63 = .ok (.iconst 0, 1) := by decide +kernel
theorem dX3_waysOut_64 : decode cX3_waysOut 64 = .ok (.istore 7, 2) := by decide +kernel
theorem dX3_waysOut_66 : decode cX3_waysOut 66 = .ok (.iload_n 2, 1) := by decide +kernel
theorem dX3_waysOut_67 : decode cX3_waysOut 67 = .ok (.iload 6, 2) := by decide +kernel
theorem dX3_waysOut_69 : decode cX3_waysOut 69 = .ok (.ishr, 1) := by decide +kernel
theorem dX3_waysOut_70 : decode cX3_waysOut 70 = .ok (.iconst 1, 1) := by decide +kernel
theorem dX3_waysOut_71 : decode cX3_waysOut 71 = .ok (.iand, 1) := by decide +kernel
theorem dX3_waysOut_72 : decode cX3_waysOut 72 = .ok (.ifCond .eq 16, 3) := by decide +kernel
theorem dX3_waysOut_75 : decode cX3_waysOut 75 = .ok (.iload_n 1, 1) := by decide +kernel
theorem dX3_waysOut_76 : decode cX3_waysOut 76 = .ok (.iload 5, 2) := by decide +kernel
theorem dX3_waysOut_78 : decode cX3_waysOut 78 = .ok (.ishr, 1) := by decide +kernel
theorem dX3_waysOut_79 : decode cX3_waysOut 79 = .ok (.iconst 1, 1) := by decide +kernel
theorem dX3_waysOut_80 : decode cX3_waysOut 80 = .ok (.iand, 1) := by decide +kernel
theorem dX3_waysOut_81 : decode cX3_waysOut 81 = .ok (.ifCond .ne 7, 3) := by decide +kernel
theorem dX3_waysOut_84 : decode cX3_waysOut 84 = .ok (.iconst 1, 1) := by decide +kernel
theorem dX3_waysOut_85 : decode cX3_waysOut 85 = .ok (.goto 4, 3) := by decide +kernel
theorem dX3_waysOut_88 : decode cX3_waysOut 88 = .ok (.iconst 0, 1) := by decide +kernel
theorem dX3_waysOut_89 : decode cX3_waysOut 89 = .ok (.istore 8, 2) := by decide +kernel
theorem dX3_waysOut_91 : decode cX3_waysOut 91 = .ok (.iload 7, 2) := by decide +kernel
theorem dX3_waysOut_93 : decode cX3_waysOut 93 = .ok (.ifCond .ne 8, 3) := by decide +kernel
theorem dX3_waysOut_96 : decode cX3_waysOut 96 = .ok (.iload 8, 2) := by decide +kernel
theorem dX3_waysOut_98 : decode cX3_waysOut 98 = .ok (.ifCond .eq 10, 3) := by decide +kernel
theorem dX3_waysOut_101 : decode cX3_waysOut 101 = .ok (.iload_n 3, 1) := by decide +kernel
theorem dX3_waysOut_102 : decode cX3_waysOut 102 = .ok (.iconst 1, 1) := by decide +kernel
theorem dX3_waysOut_103 : decode cX3_waysOut 103 = .ok (.iload 4, 2) := by decide +kernel
theorem dX3_waysOut_105 : decode cX3_waysOut 105 = .ok (.ishl, 1) := by decide +kernel
theorem dX3_waysOut_106 : decode cX3_waysOut 106 = .ok (.ior, 1) := by decide +kernel
theorem dX3_waysOut_107 : decode cX3_waysOut 107 = .ok (.istore_n 3, 1) := by decide +kernel
theorem dX3_waysOut_108 : decode cX3_waysOut 108 = .ok (.iinc 4 1, 3) := by decide +kernel
theorem dX3_waysOut_111 : decode cX3_waysOut 111 = .ok (.goto (-97), 3) := by decide +kernel
theorem dX3_waysOut_114 : decode cX3_waysOut 114 = .ok (.iload_n 3, 1) := by decide +kernel
theorem dX3_waysOut_115 : decode cX3_waysOut 115 = .ok (.ireturn, 1) := by decide +kernel
theorem dX4_init_0 : decode cX4_init 0 = .ok (.aload_n 0, 1) := by decide +kernel
theorem dX4_init_1 : decode cX4_init 1 = .ok (.invokespecial 3, 3) := by decide +kernel
theorem dX4_init_4 : decode cX4_init 4 = .ok (.aload_n 0, 1) := by decide +kernel
theorem dX4_init_5 : decode cX4_init 5 = .ok (.sipush 250, 3) := by decide +kernel
theorem dX4_init_8 : decode cX4_init 8 = .ok (.newarray .int, 2) := by decide +kernel
theorem dX4_init_10 : decode cX4_init 10 = .ok (.putfield 9, 3) := by decide +kernel
theorem dX4_init_13 : decode cX4_init 13 = .ok (.aload_n 0, 1) := by decide +kernel
theorem dX4_init_14 : decode cX4_init 14 = .ok (.iconst (-1), 1) := by decide +kernel
theorem dX4_init_15 : decode cX4_init 15 = .ok (.putfield 15, 3) := by decide +kernel
theorem dX4_init_18 : decode cX4_init 18 = .ok (.return_, 1) := by decide +kernel
theorem dX4_add_0 : decode cX4_add 0 = .ok (.aload_n 0, 1) := by decide +kernel
theorem dX4_add_1 : decode cX4_add 1 = .ok (.getfield 19, 3) := by decide +kernel
theorem dX4_add_4 : decode cX4_add 4 = .ok (.sipush 250, 3) := by decide +kernel
theorem dX4_add_7 : decode cX4_add 7 = .ok (.if_icmp .lt 6, 3) := by decide +kernel
theorem dX4_add_10 : decode cX4_add 10 = .ok (.ldc 22, 2) := by decide +kernel
theorem dX4_add_12 : decode cX4_add 12 = .ok (.ireturn, 1) := by decide +kernel
theorem dX4_add_13 : decode cX4_add 13 = .ok (.aload_n 0, 1) := by decide +kernel
theorem dX4_add_14 : decode cX4_add 14 = .ok (.getfield 9, 3) := by decide +kernel
theorem dX4_add_17 : decode cX4_add 17 = .ok (.aload_n 0, 1) := by decide +kernel
theorem dX4_add_18 : decode cX4_add 18 = .ok (.getfield 19, 3) := by decide +kernel
theorem dX4_add_21 : decode cX4_add 21 = .ok (.iload_n 1, 1) := by decide +kernel
theorem dX4_add_22 : decode cX4_add 22 = .ok (.iastore, 1) := by decide +kernel
theorem dX4_add_23 : decode cX4_add 23 = .ok (.aload_n 0, 1) := by decide +kernel
theorem dX4_add_24 : decode cX4_add 24 = .ok (.dup, 1) := by decide +kernel
theorem dX4_add_25 : decode cX4_add 25 = .ok (.getfield 19, 3) := by decide +kernel
theorem dX4_add_28 : decode cX4_add 28 = .ok (.iconst 1, 1) := by decide +kernel
theorem dX4_add_29 : decode cX4_add 29 = .ok (.iadd, 1) := by decide +kernel
theorem dX4_add_30 : decode cX4_add 30 = .ok (.putfield 19, 3) := by decide +kernel
theorem dX4_add_33 : decode cX4_add 33 = .ok (.aload_n 0, 1) := by decide +kernel
theorem dX4_add_34 : decode cX4_add 34 = .ok (.getfield 19, 3) := by decide +kernel
theorem dX4_add_37 : decode cX4_add 37 = .ok (.ireturn, 1) := by decide +kernel
theorem dX4_readInto_0 : decode cX4_readInto 0 = .ok (.aload_n 1, 1) := by decide +kernel
theorem dX4_readInto_1 : decode cX4_readInto 1 = .ok (.invokevirtual 23, 3) := by decide +kernel
theorem dX4_readInto_4 : decode cX4_readInto 4 = .ok (.aload_n 0, 1) := by decide +kernel
theorem dX4_readInto_5 : decode cX4_readInto 5 = .ok (.iconst 0, 1) := by decide +kernel
theorem dX4_readInto_6 : decode cX4_readInto 6 = .ok (.putfield 28, 3) := by decide +kernel
theorem dX4_readInto_9 : decode cX4_readInto 9 = .ok (.aload_n 0, 1) := by decide +kernel
theorem dX4_readInto_10 : decode cX4_readInto 10 = .ok (.iconst 0, 1) := by decide +kernel
theorem dX4_readInto_11 : decode cX4_readInto 11 = .ok (.putfield 31, 3) := by decide +kernel
theorem dX4_readInto_14 : decode cX4_readInto 14 = .ok (.aload_n 0, 1) := by decide +kernel
theorem dX4_readInto_15 : decode cX4_readInto 15 = .ok (.iconst (-1), 1) := by decide +kernel
theorem dX4_readInto_16 : decode cX4_readInto 16 = .ok (.putfield 15, 3) := by decide +kernel
theorem dX4_readInto_19 : decode cX4_readInto 19 = .ok (.aload_n 0, 1) := by decide +kernel
theorem dX4_readInto_20 : decode cX4_readInto 20 = .ok (.invokevirtual 34, 3) := by decide +kernel
theorem dX4_readInto_23 : decode cX4_readInto 23 = .ok (.iconst 0, 1) := by decide +kernel
theorem dX4_readInto_24 : decode cX4_readInto 24 = .ok (.istore_n 2, 1) := by decide +kernel
theorem dX4_readInto_25 : decode cX4_readInto 25 = .ok (.iload_n 2, 1) := by decide +kernel
theorem dX4_readInto_26 : decode cX4_readInto 26 = .ok (.sipush 250, 3) := by decide +kernel
theorem dX4_readInto_29 : decode cX4_readInto 29 = .ok (.if_icmp .ge 36, 3) := by decide +kernel
theorem dX4_readInto_32 : decode cX4_readInto 32 = .ok (.aload_n 0, 1) := by decide +kernel
theorem dX4_readInto_33 : decode cX4_readInto 33 = .ok (.getfield 28, 3) := by decide +kernel
theorem dX4_readInto_36 : decode cX4_readInto 36 = .ok (.aload_n 0, 1) := by decide +kernel
theorem dX4_readInto_37 : decode cX4_readInto 37 = .ok (.getfield 19, 3) := by decide +kernel
theorem dX4_readInto_40 : decode cX4_readInto 40 = .ok (.if_icmp .ge 25, 3) := by decide +kernel
theorem dX4_readInto_43 : decode cX4_readInto 43 = .ok (.aload_n 0, 1) := by decide +kernel
theorem dX4_readInto_44 : decode cX4_readInto 44 = .ok (.getfield 31, 3) := by decide +kernel
theorem dX4_readInto_47 : decode cX4_readInto 47 = .ok (.ifCond .ne 18, 3) := by decide +kernel
theorem dX4_readInto_50 : decode cX4_readInto 50 = .ok (.aload_n 0, 1) := by decide +kernel
theorem dX4_readInto_51 : decode cX4_readInto 51 = .ok (.aload_n 1, 1) := by decide +kernel
theorem dX4_readInto_52 : decode cX4_readInto 52 = .ok (.invokevirtual 37, 3) := by decide +kernel
theorem dX4_readInto_55 : decode cX4_readInto 55 = .ok (.aload_n 0, 1) := by decide +kernel
theorem dX4_readInto_56 : decode cX4_readInto 56 = .ok (.invokevirtual 34, 3) := by decide +kernel
theorem dX4_readInto_59 : decode cX4_readInto 59 = .ok (.iinc 2 1, 3) := by decide +kernel
theorem dX4_readInto_62 : decode cX4_readInto 62 = .ok (.goto (-37), 3) := by decide +kernel
theorem dX4_readInto_65 : decode cX4_readInto 65 = .ok (.aload_n 0, 1) := by decide +kernel
theorem dX4_readInto_66 : decode cX4_readInto 66 = .ok (.getfield 31, 3) := by decide +kernel
theorem dX4_readInto_69 : decode cX4_readInto 69 = .ok (.ireturn, 1) := by decide +kernel
theorem dX4_blame_0 : decode cX4_blame 0 = .ok (.aload_n 0, 1) := by decide +kernel
theorem dX4_blame_1 : decode cX4_blame 1 = .ok (.getfield 31, 3) := by decide +kernel
theorem dX4_blame_4 : decode cX4_blame 4 = .ok (.ifCond .ne 13, 3) := by decide +kernel
theorem dX4_blame_7 : decode cX4_blame 7 = .ok (.aload_n 0, 1) := by decide +kernel
theorem dX4_blame_8 : decode cX4_blame 8 = .ok (.iload_n 1, 1) := by decide +kernel
theorem dX4_blame_9 : decode cX4_blame 9 = .ok (.putfield 31, 3) := by decide +kernel
theorem dX4_blame_12 : decode cX4_blame 12 = .ok (.aload_n 0, 1) := by decide +kernel
theorem dX4_blame_13 : decode cX4_blame 13 = .ok (.iload_n 2, 1) := by decide +kernel
theorem dX4_blame_14 : decode cX4_blame 14 = .ok (.putfield 15, 3) := by decide +kernel
theorem dX4_blame_17 : decode cX4_blame 17 = .ok (.return_, 1) := by decide +kernel
theorem dX4_letterHere_0 : decode cX4_letterHere 0 = .ok (.aload_n 0, 1) := by decide +kernel
theorem dX4_letterHere_1 : decode cX4_letterHere 1 = .ok (.getfield 28, 3) := by decide +kernel
theorem dX4_letterHere_4 : decode cX4_letterHere 4 = .ok (.ifCond .lt 26, 3) := by decide +kernel
theorem dX4_letterHere_7 : decode cX4_letterHere 7 = .ok (.aload_n 0, 1) := by decide +kernel
theorem dX4_letterHere_8 : decode cX4_letterHere 8 = .ok (.getfield 28, 3) := by decide +kernel
theorem dX4_letterHere_11 : decode cX4_letterHere 11 = .ok (.aload_n 0, 1) := by decide +kernel
theorem dX4_letterHere_12 : decode cX4_letterHere 12 = .ok (.getfield 19, 3) := by decide +kernel
theorem dX4_letterHere_15 : decode cX4_letterHere 15 = .ok (.if_icmp .ge 15, 3) := by decide +kernel
theorem dX4_letterHere_18 : decode cX4_letterHere 18 = .ok (.aload_n 0, 1) := by decide +kernel
theorem dX4_letterHere_19 : decode cX4_letterHere 19 = .ok (.getfield 9, 3) := by decide +kernel
theorem dX4_letterHere_22 : decode cX4_letterHere 22 = .ok (.aload_n 0, 1) := by decide +kernel
theorem dX4_letterHere_23 : decode cX4_letterHere 23 = .ok (.getfield 28, 3) := by decide +kernel
theorem dX4_letterHere_26 : decode cX4_letterHere 26 = .ok (.iaload, 1) := by decide +kernel
theorem dX4_letterHere_27 : decode cX4_letterHere 27 = .ok (.goto 4, 3) := by decide +kernel
theorem dX4_letterHere_30 : decode cX4_letterHere 30 = .ok (.iconst (-1), 1) := by decide +kernel
theorem dX4_letterHere_31 : decode cX4_letterHere 31 = .ok (.ireturn, 1) := by decide +kernel
theorem dX4_isFigure_0 : decode cX4_isFigure 0 = .ok (.iload_n 0, 1) := by decide +kernel
theorem dX4_isFigure_1 : decode cX4_isFigure 1 = .ok (.bipush 48, 2) := by decide +kernel
theorem dX4_isFigure_3 : decode cX4_isFigure 3 = .ok (.if_icmp .lt 13, 3) := by decide +kernel
theorem dX4_isFigure_6 : decode cX4_isFigure 6 = .ok (.iload_n 0, 1) := by decide +kernel
theorem dX4_isFigure_7 : decode cX4_isFigure 7 = .ok (.bipush 57, 2) := by decide +kernel
theorem dX4_isFigure_9 : decode cX4_isFigure 9 = .ok (.if_icmp .gt 7, 3) := by decide +kernel
theorem dX4_isFigure_12 : decode cX4_isFigure 12 = .ok (.iconst 1, 1) := by decide +kernel
theorem dX4_isFigure_13 : decode cX4_isFigure 13 = .ok (.goto 4, 3) := by decide +kernel
theorem dX4_isFigure_16 : decode cX4_isFigure 16 = .ok (.iconst 0, 1) := by decide +kernel
theorem dX4_isFigure_17 : decode cX4_isFigure 17 = .ok (.ireturn, 1) := by decide +kernel
theorem dX4_skipBlanks_0 : decode cX4_skipBlanks 0 = .ok (.aload_n 0, 1) := by decide +kernel
theorem dX4_skipBlanks_1 : decode cX4_skipBlanks 1 = .ok (.getfield 28, 3) := by decide +kernel
theorem dX4_skipBlanks_4 : decode cX4_skipBlanks 4 = .ok (.aload_n 0, 1) := by decide +kernel
theorem dX4_skipBlanks_5 : decode cX4_skipBlanks 5 = .ok (.getfield 19, 3) := by decide +kernel
theorem dX4_skipBlanks_8 : decode cX4_skipBlanks 8 = .ok (.if_icmp .ge 25, 3) := by decide +kernel
theorem dX4_skipBlanks_11 : decode cX4_skipBlanks 11 = .ok (.aload_n 0, 1) := by decide +kernel
theorem dX4_skipBlanks_12 : decode cX4_skipBlanks 12 = .ok (.invokevirtual 41, 3) := by decide +kernel
theorem dX4_skipBlanks_15 : decode cX4_skipBlanks 15 = .ok (.bipush 32, 2) := by decide +kernel
theorem dX4_skipBlanks_17 : decode cX4_skipBlanks 17 = .ok (.if_icmp .ne 16, 3) := by decide +kernel
theorem dX4_skipBlanks_20 : decode cX4_skipBlanks 20 = .ok (.aload_n 0, 1) := by decide +kernel
theorem dX4_skipBlanks_21 : decode cX4_skipBlanks 21 = .ok (.dup, 1) := by decide +kernel
theorem dX4_skipBlanks_22 : decode cX4_skipBlanks 22 = .ok (.getfield 28, 3) := by decide +kernel
theorem dX4_skipBlanks_25 : decode cX4_skipBlanks 25 = .ok (.iconst 1, 1) := by decide +kernel
theorem dX4_skipBlanks_26 : decode cX4_skipBlanks 26 = .ok (.iadd, 1) := by decide +kernel
theorem dX4_skipBlanks_27 : decode cX4_skipBlanks 27 = .ok (.putfield 28, 3) := by decide +kernel
theorem dX4_skipBlanks_30 : decode cX4_skipBlanks 30 = .ok (.goto (-30), 3) := by decide +kernel
theorem dX4_skipBlanks_33 : decode cX4_skipBlanks 33 = .ok (.return_, 1) := by decide +kernel
theorem dX4_readClause_0 : decode cX4_readClause 0 = .ok (.aload_n 0, 1) := by decide +kernel
theorem dX4_readClause_1 : decode cX4_readClause 1 = .ok (.invokevirtual 41, 3) := by decide +kernel
theorem dX4_readClause_4 : decode cX4_readClause 4 = .ok (.istore_n 2, 1) := by decide +kernel
theorem dX4_readClause_5 : decode cX4_readClause 5 = .ok (.aload_n 0, 1) := by decide +kernel
theorem dX4_readClause_6 : decode cX4_readClause 6 = .ok (.aload_n 1, 1) := by decide +kernel
theorem dX4_readClause_7 : decode cX4_readClause 7 = .ok (.iload_n 2, 1) := by decide +kernel
theorem dX4_readClause_8 : decode cX4_readClause 8 = .ok (.invokevirtual 45, 3) := by decide +kernel
theorem dX4_readClause_11 : decode cX4_readClause 11 = .ok (.istore_n 3, 1) := by decide +kernel
theorem dX4_readClause_12 : decode cX4_readClause 12 = .ok (.iload_n 3, 1) := by decide +kernel
theorem dX4_readClause_13 : decode cX4_readClause 13 = .ok (.ifCond .eq 13, 3) := by decide +kernel
theorem dX4_readClause_16 : decode cX4_readClause 16 = .ok (.aload_n 0, 1) := by decide +kernel
theorem dX4_readClause_17 : decode cX4_readClause 17 = .ok (.iload_n 3, 1) := by decide +kernel
theorem dX4_readClause_18 : decode cX4_readClause 18 = .ok (.aload_n 0, 1) := by decide +kernel
theorem dX4_readClause_19 : decode cX4_readClause 19 = .ok (.getfield 28, 3) := by decide +kernel
theorem dX4_readClause_22 : decode cX4_readClause 22 = .ok (.invokevirtual 49, 3) := by decide +kernel
theorem dX4_readClause_25 : decode cX4_readClause 25 = .ok (.return_, 1) := by decide +kernel
theorem dX4_readClause_26 : decode cX4_readClause 26 = .ok (.aload_n 0, 1) := by decide +kernel
theorem dX4_readClause_27 : decode cX4_readClause 27 = .ok (.dup, 1) := by decide +kernel
theorem dX4_readClause_28 : decode cX4_readClause 28 = .ok (.getfield 28, 3) := by decide +kernel
theorem dX4_readClause_31 : decode cX4_readClause 31 = .ok (.iconst 1, 1) := by decide +kernel
theorem dX4_readClause_32 : decode cX4_readClause 32 = .ok (.iadd, 1) := by decide +kernel
theorem dX4_readClause_33 : decode cX4_readClause 33 = .ok (.putfield 28, 3) := by decide +kernel
theorem dX4_readClause_36 : decode cX4_readClause 36 = .ok (.iload_n 2, 1) := by decide +kernel
theorem dX4_readClause_37 : decode cX4_readClause 37 = .ok (.lookupswitch 107 #[(98, 99), (102, 67), (107, 75), (109, 91), (116, 59), (119, 83)], 59) := by decide +kernel
theorem dX4_readClause_96 : decode cX4_readClause 96 = .ok (.aload_n 0, 1) := by decide +kernel
theorem dX4_readClause_97 : decode cX4_readClause 97 = .ok (.aload_n 1, 1) := by decide +kernel
theorem dX4_readClause_98 : decode cX4_readClause 98 = .ok (.invokevirtual 53, 3) := by decide +kernel
theorem dX4_readClause_101 : decode cX4_readClause 101 = .ok (.goto 48, 3) := by decide +kernel
theorem dX4_readClause_104 : decode cX4_readClause 104 = .ok (.aload_n 0, 1) := by decide +kernel
theorem dX4_readClause_105 : decode cX4_readClause 105 = .ok (.aload_n 1, 1) := by decide +kernel
theorem dX4_readClause_106 : decode cX4_readClause 106 = .ok (.invokevirtual 56, 3) := by decide +kernel
theorem dX4_readClause_109 : decode cX4_readClause 109 = .ok (.goto 40, 3) := by decide +kernel
theorem dX4_readClause_112 : decode cX4_readClause 112 = .ok (.aload_n 0, 1) := by decide +kernel
theorem dX4_readClause_113 : decode cX4_readClause 113 = .ok (.aload_n 1, 1) := by decide +kernel
theorem dX4_readClause_114 : decode cX4_readClause 114 = .ok (.invokevirtual 59, 3) := by decide +kernel
theorem dX4_readClause_117 : decode cX4_readClause 117 = .ok (.goto 32, 3) := by decide +kernel
theorem dX4_readClause_120 : decode cX4_readClause 120 = .ok (.aload_n 0, 1) := by decide +kernel
theorem dX4_readClause_121 : decode cX4_readClause 121 = .ok (.aload_n 1, 1) := by decide +kernel
theorem dX4_readClause_122 : decode cX4_readClause 122 = .ok (.invokevirtual 62, 3) := by decide +kernel
theorem dX4_readClause_125 : decode cX4_readClause 125 = .ok (.goto 24, 3) := by decide +kernel
theorem dX4_readClause_128 : decode cX4_readClause 128 = .ok (.aload_n 0, 1) := by decide +kernel
theorem dX4_readClause_129 : decode cX4_readClause 129 = .ok (.aload_n 1, 1) := by decide +kernel
theorem dX4_readClause_130 : decode cX4_readClause 130 = .ok (.invokevirtual 65, 3) := by decide +kernel
theorem dX4_readClause_133 : decode cX4_readClause 133 = .ok (.goto 16, 3) := by decide +kernel
theorem dX4_readClause_136 : decode cX4_readClause 136 = .ok (.aload_n 0, 1) := by decide +kernel
theorem dX4_readClause_137 : decode cX4_readClause 137 = .ok (.aload_n 1, 1) := by decide +kernel
theorem dX4_readClause_138 : decode cX4_readClause 138 = .ok (.invokevirtual 68, 3) := by decide +kernel
theorem dX4_readClause_141 : decode cX4_readClause 141 = .ok (.goto 8, 3) := by decide +kernel
theorem dX4_readClause_144 : decode cX4_readClause 144 = .ok (.aload_n 0, 1) := by decide +kernel
theorem dX4_readClause_145 : decode cX4_readClause 145 = .ok (.aload_n 1, 1) := by decide +kernel
theorem dX4_readClause_146 : decode cX4_readClause 146 = .ok (.invokevirtual 71, 3) := by decide +kernel
theorem dX4_readClause_149 : decode cX4_readClause 149 = .ok (.aload_n 0, 1) := by decide +kernel
theorem dX4_readClause_150 : decode cX4_readClause 150 = .ok (.invokevirtual 74, 3) := by decide +kernel
theorem dX4_readClause_153 : decode cX4_readClause 153 = .ok (.return_, 1) := by decide +kernel
theorem dX4_faultOfWord_0 : decode cX4_faultOfWord 0 = .ok (.aload_n 1, 1) := by decide +kernel
theorem dX4_faultOfWord_1 : decode cX4_faultOfWord 1 = .ok (.getfield 77, 3) := by decide +kernel
theorem dX4_faultOfWord_4 : decode cX4_faultOfWord 4 = .ok (.ifCond .ne 15, 3) := by decide +kernel
theorem dX4_faultOfWord_7 : decode cX4_faultOfWord 7 = .ok (.iload_n 2, 1) := by decide +kernel
theorem dX4_faultOfWord_8 : decode cX4_faultOfWord 8 = .ok (.bipush 116, 2) := by decide +kernel
theorem dX4_faultOfWord_10 : decode cX4_faultOfWord 10 = .ok (.if_icmp .ne 7, 3) := by decide +kernel
theorem dX4_faultOfWord_13 : decode cX4_faultOfWord 13 = .ok (.iconst 0, 1) := by decide +kernel
theorem dX4_faultOfWord_14 : decode cX4_faultOfWord 14 = .ok (.goto 4, 3) := by decide +kernel
theorem dX4_faultOfWord_17 : decode cX4_faultOfWord 17 = .ok (.iconst 1, 1) := by decide +kernel
theorem dX4_faultOfWord_18 : decode cX4_faultOfWord 18 = .ok (.ireturn, 1) := by decide +kernel
theorem dX4_faultOfWord_19 : decode cX4_faultOfWord 19 = .ok (.iload_n 2, 1) := by decide +kernel
theorem dX4_faultOfWord_20 : decode cX4_faultOfWord 20 = .ok (.tableswitch 167 98 119 #[136, 167, 167, 167, 106, 150, 167, 167, 167, 163, 167, 165, 167, 167, 167, 167, 167, 167, 104, 167, 167, 121], 104) := by decide +kernel
theorem dX4_faultOfWord_124 : decode cX4_faultOfWord 124 = .ok (.iconst 3, 1) := by decide +kernel
theorem dX4_faultOfWord_125 : decode cX4_faultOfWord 125 = .ok (.ireturn, 1) := by decide +kernel
theorem dX4_faultOfWord_126 : decode cX4_faultOfWord 126 = .ok (.aload_n 1, 1) := by decide +kernel
theorem dX4_faultOfWord_127 : decode cX4_faultOfWord 127 = .ok (.getfield 80, 3) := by decide +kernel
theorem dX4_faultOfWord_130 : decode cX4_faultOfWord 130 = .ok (.bipush 8, 2) := by decide +kernel
theorem dX4_faultOfWord_132 : decode cX4_faultOfWord 132 = .ok (.if_icmp .ge 7, 3) := by decide +kernel
theorem dX4_faultOfWord_135 : decode cX4_faultOfWord 135 = .ok (.iconst 0, 1) := by decide +kernel
theorem dX4_faultOfWord_136 : decode cX4_faultOfWord 136 = .ok (.goto 4, 3) := by decide +kernel
theorem dX4_faultOfWord_139 : decode cX4_faultOfWord 139 = .ok (.iconst 3, 1) := by decide +kernel
theorem dX4_faultOfWord_140 : decode cX4_faultOfWord 140 = .ok (.ireturn, 1) := by decide +kernel
theorem dX4_faultOfWord_141 : decode cX4_faultOfWord 141 = .ok (.aload_n 1, 1) := by decide +kernel
theorem dX4_faultOfWord_142 : decode cX4_faultOfWord 142 = .ok (.getfield 83, 3) := by decide +kernel
theorem dX4_faultOfWord_145 : decode cX4_faultOfWord 145 = .ok (.bipush 12, 2) := by decide +kernel
theorem dX4_faultOfWord_147 : decode cX4_faultOfWord 147 = .ok (.if_icmp .ge 7, 3) := by decide +kernel
theorem dX4_faultOfWord_150 : decode cX4_faultOfWord 150 = .ok (.iconst 0, 1) := by decide +kernel
theorem dX4_faultOfWord_151 : decode cX4_faultOfWord 151 = .ok (.goto 4, 3) := by decide +kernel
theorem dX4_faultOfWord_154 : decode cX4_faultOfWord 154 = .ok (.iconst 3, 1) := by decide +kernel
theorem dX4_faultOfWord_155 : decode cX4_faultOfWord 155 = .ok (.ireturn, 1) := by decide +kernel
theorem dX4_faultOfWord_156 : decode cX4_faultOfWord 156 = .ok (.aload_n 1, 1) := by decide +kernel
theorem dX4_faultOfWord_157 : decode cX4_faultOfWord 157 = .ok (.getfield 86, 3) := by decide +kernel
theorem dX4_faultOfWord_160 : decode cX4_faultOfWord 160 = .ok (.iconst 4, 1) := by decide +kernel
theorem dX4_faultOfWord_161 : decode cX4_faultOfWord 161 = .ok (.if_icmp .ge 7, 3) := by decide +kernel
theorem dX4_faultOfWord_164 : decode cX4_faultOfWord 164 = .ok (.iconst 0, 1) := by decide +kernel
theorem dX4_faultOfWord_165 : decode cX4_faultOfWord 165 = .ok (.goto 4, 3) := by decide +kernel
theorem dX4_faultOfWord_168 : decode cX4_faultOfWord 168 = .ok (.iconst 3, 1) := by decide +kernel
theorem dX4_faultOfWord_169 : decode cX4_faultOfWord 169 = .ok (.ireturn, 1) := by decide +kernel
theorem dX4_faultOfWord_170 : decode cX4_faultOfWord 170 = .ok (.aload_n 1, 1) := by decide +kernel
theorem dX4_faultOfWord_171 : decode cX4_faultOfWord 171 = .ok (.getfield 89, 3) := by decide +kernel
theorem dX4_faultOfWord_174 : decode cX4_faultOfWord 174 = .ok (.ifCond .ne 7, 3) := by decide +kernel
theorem dX4_faultOfWord_177 : decode cX4_faultOfWord 177 = .ok (.iconst 0, 1) := by decide +kernel
theorem dX4_faultOfWord_178 : decode cX4_faultOfWord 178 = .ok (.goto 4, 3) := by decide +kernel
theorem dX4_faultOfWord_181 : decode cX4_faultOfWord 181 = .ok (.iconst 3, 1) := by decide +kernel
theorem dX4_faultOfWord_182 : decode cX4_faultOfWord 182 = .ok (.ireturn, 1) := by decide +kernel
theorem dX4_faultOfWord_183 : decode cX4_faultOfWord 183 = .ok (.iconst 0, 1) := by decide +kernel
theorem dX4_faultOfWord_184 : decode cX4_faultOfWord 184 = .ok (.ireturn, 1) := by decide +kernel
theorem dX4_faultOfWord_185 : decode cX4_faultOfWord 185 = .ok (.iconst 0, 1) := by decide +kernel
theorem dX4_faultOfWord_186 : decode cX4_faultOfWord 186 = .ok (.ireturn, 1) := by decide +kernel
theorem dX4_faultOfWord_187 : decode cX4_faultOfWord 187 = .ok (.iconst 1, 1) := by decide +kernel
theorem dX4_faultOfWord_188 : decode cX4_faultOfWord 188 = .ok (.ireturn, 1) := by decide +kernel
theorem dX4_readEnd_0 : decode cX4_readEnd 0 = .ok (.aload_n 0, 1) := by decide +kernel
theorem dX4_readEnd_1 : decode cX4_readEnd 1 = .ok (.invokevirtual 34, 3) := by decide +kernel
theorem dX4_readEnd_4 : decode cX4_readEnd 4 = .ok (.aload_n 0, 1) := by decide +kernel
theorem dX4_readEnd_5 : decode cX4_readEnd 5 = .ok (.invokevirtual 41, 3) := by decide +kernel
theorem dX4_readEnd_8 : decode cX4_readEnd 8 = .ok (.bipush 59, 2) := by decide +kernel
theorem dX4_readEnd_10 : decode cX4_readEnd 10 = .ok (.if_icmp .eq 12, 3) := by decide +kernel
theorem dX4_readEnd_13 : decode cX4_readEnd 13 = .ok (.aload_n 0, 1) := by decide +kernel
theorem dX4_readEnd_14 : decode cX4_readEnd 14 = .ok (.iconst 1, 1) := by decide +kernel
theorem dX4_readEnd_15 : decode cX4_readEnd 15 = .ok (.aload_n 0, 1) := by decide +kernel
theorem dX4_readEnd_16 : decode cX4_readEnd 16 = .ok (.getfield 28, 3) := by decide +kernel
theorem dX4_readEnd_19 : decode cX4_readEnd 19 = .ok (.invokevirtual 49, 3) := by decide +kernel
theorem dX4_readEnd_22 : decode cX4_readEnd 22 = .ok (.aload_n 0, 1) := by decide +kernel
theorem dX4_readEnd_23 : decode cX4_readEnd 23 = .ok (.dup, 1) := by decide +kernel
theorem dX4_readEnd_24 : decode cX4_readEnd 24 = .ok (.getfield 28, 3) := by decide +kernel
theorem dX4_readEnd_27 : decode cX4_readEnd 27 = .ok (.iconst 1, 1) := by decide +kernel
theorem dX4_readEnd_28 : decode cX4_readEnd 28 = .ok (.iadd, 1) := by decide +kernel
theorem dX4_readEnd_29 : decode cX4_readEnd 29 = .ok (.putfield 28, 3) := by decide +kernel
theorem dX4_readEnd_32 : decode cX4_readEnd 32 = .ok (.return_, 1) := by decide +kernel
theorem dX4_readNumber_0 : decode cX4_readNumber 0 = .ok (.aload_n 0, 1) := by decide +kernel
theorem dX4_readNumber_1 : decode cX4_readNumber 1 = .ok (.invokevirtual 34, 3) := by decide +kernel
theorem dX4_readNumber_4 : decode cX4_readNumber 4 = .ok (.aload_n 0, 1) := by decide +kernel
theorem dX4_readNumber_5 : decode cX4_readNumber 5 = .ok (.aload_n 0, 1) := by decide +kernel
theorem dX4_readNumber_6 : decode cX4_readNumber 6 = .ok (.getfield 28, 3) := by decide +kernel
theorem dX4_readNumber_9 : decode cX4_readNumber 9 = .ok (.putfield 92, 3) := by decide +kernel
theorem dX4_readNumber_12 : decode cX4_readNumber 12 = .ok (.aload_n 0, 1) := by decide +kernel
theorem dX4_readNumber_13 : decode cX4_readNumber 13 = .ok (.invokevirtual 41, 3) := by decide +kernel
theorem dX4_readNumber_16 : decode cX4_readNumber 16 = .ok (.invokestatic 95, 3) := by decide +kernel
theorem dX4_readNumber_19 : decode cX4_readNumber 19 = .ok (.ifCond .ne 14, 3) := by decide +kernel
theorem dX4_readNumber_22 : decode cX4_readNumber 22 = .ok (.aload_n 0, 1) := by decide +kernel
theorem dX4_readNumber_23 : decode cX4_readNumber 23 = .ok (.iconst 1, 1) := by decide +kernel
theorem dX4_readNumber_24 : decode cX4_readNumber 24 = .ok (.aload_n 0, 1) := by decide +kernel
theorem dX4_readNumber_25 : decode cX4_readNumber 25 = .ok (.getfield 28, 3) := by decide +kernel
theorem dX4_readNumber_28 : decode cX4_readNumber 28 = .ok (.invokevirtual 49, 3) := by decide +kernel
theorem dX4_readNumber_31 : decode cX4_readNumber 31 = .ok (.iconst (-1), 1) := by decide +kernel
theorem dX4_readNumber_32 : decode cX4_readNumber 32 = .ok (.ireturn, 1) := by decide +kernel
theorem dX4_readNumber_33 : decode cX4_readNumber 33 = .ok (.iconst 0, 1) := by decide +kernel
theorem dX4_readNumber_34 : decode cX4_readNumber 34 = .ok (.istore_n 3, 1) := by decide +kernel
theorem dX4_readNumber_35 : decode cX4_readNumber 35 = .ok (.aload_n 0, 1) := by decide +kernel
theorem dX4_readNumber_36 : decode cX4_readNumber 36 = .ok (.getfield 28, 3) := by decide +kernel
theorem dX4_readNumber_39 : decode cX4_readNumber 39 = .ok (.aload_n 0, 1) := by decide +kernel
theorem dX4_readNumber_40 : decode cX4_readNumber 40 = .ok (.getfield 19, 3) := by decide +kernel
theorem dX4_readNumber_43 : decode cX4_readNumber 43 = .ok (.if_icmp .ge 56, 3) := by decide +kernel
theorem dX4_readNumber_46 : decode cX4_readNumber 46 = .ok (.aload_n 0, 1) := by decide +kernel
theorem dX4_readNumber_47 : decode cX4_readNumber 47 = .ok (.invokevirtual 41, 3) := by decide +kernel
theorem dX4_readNumber_50 : decode cX4_readNumber 50 = .ok (.invokestatic 95, 3) := by decide +kernel
theorem dX4_readNumber_53 : decode cX4_readNumber 53 = .ok (.ifCond .eq 46, 3) := by decide +kernel
theorem dX4_readNumber_56 : decode cX4_readNumber 56 = .ok (.aload_n 0, 1) := by decide +kernel
theorem dX4_readNumber_57 : decode cX4_readNumber 57 = .ok (.getfield 28, 3) := by decide +kernel
theorem dX4_readNumber_60 : decode cX4_readNumber 60 = .ok (.aload_n 0, 1) := by decide +kernel
theorem dX4_readNumber_61 : decode cX4_readNumber 61 = .ok (.getfield 92, 3) := by decide +kernel
theorem dX4_readNumber_64 : decode cX4_readNumber 64 = .ok (.isub, 1) := by decide +kernel
theorem dX4_readNumber_65 : decode cX4_readNumber 65 = .ok (.iconst 3, 1) := by decide +kernel
theorem dX4_readNumber_66 : decode cX4_readNumber 66 = .ok (.if_icmp .ge 18, 3) := by decide +kernel
theorem dX4_readNumber_69 : decode cX4_readNumber 69 = .ok (.iload_n 3, 1) := by decide +kernel
theorem dX4_readNumber_70 : decode cX4_readNumber 70 = .ok (.bipush 10, 2) := by decide +kernel
theorem dX4_readNumber_72 : decode cX4_readNumber 72 = .ok (.imul, 1) := by decide +kernel
theorem dX4_readNumber_73 : decode cX4_readNumber 73 = .ok (.aload_n 0, 1) := by decide +kernel
theorem dX4_readNumber_74 : decode cX4_readNumber 74 = .ok (.invokevirtual 41, 3) := by decide +kernel
theorem dX4_readNumber_77 : decode cX4_readNumber 77 = .ok (.iadd, 1) := by decide +kernel
theorem dX4_readNumber_78 : decode cX4_readNumber 78 = .ok (.bipush 48, 2) := by decide +kernel
theorem dX4_readNumber_80 : decode cX4_readNumber 80 = .ok (.isub, 1) := by decide +kernel
theorem dX4_readNumber_81 : decode cX4_readNumber 81 = .ok (.goto 4, 3) := by decide +kernel
theorem dX4_readNumber_84 : decode cX4_readNumber 84 = .ok (.iload_n 3, 1) := by decide +kernel
theorem dX4_readNumber_85 : decode cX4_readNumber 85 = .ok (.istore_n 3, 1) := by decide +kernel
theorem dX4_readNumber_86 : decode cX4_readNumber 86 = .ok (.aload_n 0, 1) := by decide +kernel
theorem dX4_readNumber_87 : decode cX4_readNumber 87 = .ok (.dup, 1) := by decide +kernel
theorem dX4_readNumber_88 : decode cX4_readNumber 88 = .ok (.getfield 28, 3) := by decide +kernel
theorem dX4_readNumber_91 : decode cX4_readNumber 91 = .ok (.iconst 1, 1) := by decide +kernel
theorem dX4_readNumber_92 : decode cX4_readNumber 92 = .ok (.iadd, 1) := by decide +kernel
theorem dX4_readNumber_93 : decode cX4_readNumber 93 = .ok (.putfield 28, 3) := by decide +kernel
theorem dX4_readNumber_96 : decode cX4_readNumber 96 = .ok (.goto (-61), 3) := by decide +kernel
theorem dX4_readNumber_99 : decode cX4_readNumber 99 = .ok (.aload_n 0, 1) := by decide +kernel
theorem dX4_readNumber_100 : decode cX4_readNumber 100 = .ok (.getfield 28, 3) := by decide +kernel
theorem dX4_readNumber_103 : decode cX4_readNumber 103 = .ok (.aload_n 0, 1) := by decide +kernel
theorem dX4_readNumber_104 : decode cX4_readNumber 104 = .ok (.getfield 92, 3) := by decide +kernel
theorem dX4_readNumber_107 : decode cX4_readNumber 107 = .ok (.isub, 1) := by decide +kernel
theorem dX4_readNumber_108 : decode cX4_readNumber 108 = .ok (.iconst 3, 1) := by decide +kernel
theorem dX4_readNumber_109 : decode cX4_readNumber 109 = .ok (.if_icmp .gt 13, 3) := by decide +kernel
theorem dX4_readNumber_112 : decode cX4_readNumber 112 = .ok (.iload_n 3, 1) := by decide +kernel
theorem dX4_readNumber_113 : decode cX4_readNumber 113 = .ok (.iload_n 1, 1) := by decide +kernel
theorem dX4_readNumber_114 : decode cX4_readNumber 114 = .ok (.if_icmp .lt 8, 3) := by decide +kernel
theorem dX4_readNumber_117 : decode cX4_readNumber 117 = .ok (.iload_n 3, 1) := by decide +kernel
theorem dX4_readNumber_118 : decode cX4_readNumber 118 = .ok (.iload_n 2, 1) := by decide +kernel
theorem dX4_readNumber_119 : decode cX4_readNumber 119 = .ok (.if_icmp .le 12, 3) := by decide +kernel
theorem dX4_readNumber_122 : decode cX4_readNumber 122 = .ok (.aload_n 0, 1) := by decide +kernel
theorem dX4_readNumber_123 : decode cX4_readNumber 123 = .ok (.iconst 2, 1) := by decide +kernel
theorem dX4_readNumber_124 : decode cX4_readNumber 124 = .ok (.aload_n 0, 1) := by decide +kernel
theorem dX4_readNumber_125 : decode cX4_readNumber 125 = .ok (.getfield 92, 3) := by decide +kernel
theorem dX4_readNumber_128 : decode cX4_readNumber 128 = .ok (.invokevirtual 49, 3) := by decide +kernel
theorem dX4_readNumber_131 : decode cX4_readNumber 131 = .ok (.iload_n 3, 1) := by decide +kernel
theorem dX4_readNumber_132 : decode cX4_readNumber 132 = .ok (.ireturn, 1) := by decide +kernel
theorem dX4_readPerson_0 : decode cX4_readPerson 0 = .ok (.aload_n 0, 1) := by decide +kernel
theorem dX4_readPerson_1 : decode cX4_readPerson 1 = .ok (.iconst 0, 1) := by decide +kernel
theorem dX4_readPerson_2 : decode cX4_readPerson 2 = .ok (.aload_n 1, 1) := by decide +kernel
theorem dX4_readPerson_3 : decode cX4_readPerson 3 = .ok (.getfield 77, 3) := by decide +kernel
theorem dX4_readPerson_6 : decode cX4_readPerson 6 = .ok (.iconst 1, 1) := by decide +kernel
theorem dX4_readPerson_7 : decode cX4_readPerson 7 = .ok (.isub, 1) := by decide +kernel
theorem dX4_readPerson_8 : decode cX4_readPerson 8 = .ok (.invokevirtual 99, 3) := by decide +kernel
theorem dX4_readPerson_11 : decode cX4_readPerson 11 = .ok (.ireturn, 1) := by decide +kernel
theorem dX4_readPeople_0 : decode cX4_readPeople 0 = .ok (.aload_n 0, 1) := by decide +kernel
theorem dX4_readPeople_1 : decode cX4_readPeople 1 = .ok (.iconst 1, 1) := by decide +kernel
theorem dX4_readPeople_2 : decode cX4_readPeople 2 = .ok (.bipush 7, 2) := by decide +kernel
theorem dX4_readPeople_4 : decode cX4_readPeople 4 = .ok (.invokevirtual 99, 3) := by decide +kernel
theorem dX4_readPeople_7 : decode cX4_readPeople 7 = .ok (.istore_n 2, 1) := by decide +kernel
theorem dX4_readPeople_8 : decode cX4_readPeople 8 = .ok (.aload_n 0, 1) := by decide +kernel
theorem dX4_readPeople_9 : decode cX4_readPeople 9 = .ok (.getfield 31, 3) := by decide +kernel
theorem dX4_readPeople_12 : decode cX4_readPeople 12 = .ok (.ifCond .ne 8, 3) := by decide +kernel
theorem dX4_readPeople_15 : decode cX4_readPeople 15 = .ok (.aload_n 1, 1) := by decide +kernel
theorem dX4_readPeople_16 : decode cX4_readPeople 16 = .ok (.iload_n 2, 1) := by decide +kernel
theorem dX4_readPeople_17 : decode cX4_readPeople 17 = .ok (.putfield 77, 3) := by decide +kernel
theorem dX4_readPeople_20 : decode cX4_readPeople 20 = .ok (.return_, 1) := by decide +kernel
theorem dX4_readFact_0 : decode cX4_readFact 0 = .ok (.aload_n 0, 1) := by decide +kernel
theorem dX4_readFact_1 : decode cX4_readFact 1 = .ok (.aload_n 1, 1) := by decide +kernel
theorem dX4_readFact_2 : decode cX4_readFact 2 = .ok (.invokevirtual 103, 3) := by decide +kernel
theorem dX4_readFact_5 : decode cX4_readFact 5 = .ok (.istore_n 2, 1) := by decide +kernel
theorem dX4_readFact_6 : decode cX4_readFact 6 = .ok (.aload_n 0, 1) := by decide +kernel
theorem dX4_readFact_7 : decode cX4_readFact 7 = .ok (.iconst 1, 1) := by decide +kernel
theorem dX4_readFact_8 : decode cX4_readFact 8 = .ok (.bipush 9, 2) := by decide +kernel
theorem dX4_readFact_10 : decode cX4_readFact 10 = .ok (.invokevirtual 99, 3) := by decide +kernel
theorem dX4_readFact_13 : decode cX4_readFact 13 = .ok (.istore_n 3, 1) := by decide +kernel
theorem dX4_readFact_14 : decode cX4_readFact 14 = .ok (.aload_n 0, 1) := by decide +kernel
theorem dX4_readFact_15 : decode cX4_readFact 15 = .ok (.iconst 0, 1) := by decide +kernel
theorem dX4_readFact_16 : decode cX4_readFact 16 = .ok (.iconst 1, 1) := by decide +kernel
theorem dX4_readFact_17 : decode cX4_readFact 17 = .ok (.invokevirtual 99, 3) := by decide +kernel
theorem dX4_readFact_20 : decode cX4_readFact 20 = .ok (.istore 4, 2) := by decide +kernel
theorem dX4_readFact_22 : decode cX4_readFact 22 = .ok (.aload_n 0, 1) := by decide +kernel
theorem dX4_readFact_23 : decode cX4_readFact 23 = .ok (.getfield 31, 3) := by decide +kernel
theorem dX4_readFact_26 : decode cX4_readFact 26 = .ok (.ifCond .ne 11, 3) := by decide +kernel
theorem dX4_readFact_29 : decode cX4_readFact 29 = .ok (.aload_n 1, 1) := by decide +kernel
theorem dX4_readFact_30 : decode cX4_readFact 30 = .ok (.iload_n 2, 1) := by decide +kernel
theorem dX4_readFact_31 : decode cX4_readFact 31 = .ok (.iload_n 3, 1) := by decide +kernel
theorem dX4_readFact_32 : decode cX4_readFact 32 = .ok (.iload 4, 2) := by decide +kernel
theorem dX4_readFact_34 : decode cX4_readFact 34 = .ok (.invokevirtual 107, 3) := by decide +kernel
theorem dX4_readFact_37 : decode cX4_readFact 37 = .ok (.return_, 1) := by decide +kernel
theorem dX4_readKnowers_0 : decode cX4_readKnowers 0 = .ok (.aload_n 0, 1) := by decide +kernel
theorem dX4_readKnowers_1 : decode cX4_readKnowers 1 = .ok (.iconst 0, 1) := by decide +kernel
theorem dX4_readKnowers_2 : decode cX4_readKnowers 2 = .ok (.aload_n 1, 1) := by decide +kernel
theorem dX4_readKnowers_3 : decode cX4_readKnowers 3 = .ok (.getfield 80, 3) := by decide +kernel
theorem dX4_readKnowers_6 : decode cX4_readKnowers 6 = .ok (.iconst 1, 1) := by decide +kernel
theorem dX4_readKnowers_7 : decode cX4_readKnowers 7 = .ok (.isub, 1) := by decide +kernel
theorem dX4_readKnowers_8 : decode cX4_readKnowers 8 = .ok (.invokevirtual 99, 3) := by decide +kernel
theorem dX4_readKnowers_11 : decode cX4_readKnowers 11 = .ok (.istore_n 2, 1) := by decide +kernel
theorem dX4_readKnowers_12 : decode cX4_readKnowers 12 = .ok (.aload_n 0, 1) := by decide +kernel
theorem dX4_readKnowers_13 : decode cX4_readKnowers 13 = .ok (.getfield 31, 3) := by decide +kernel
theorem dX4_readKnowers_16 : decode cX4_readKnowers 16 = .ok (.ifCond .ne 23, 3) := by decide +kernel
theorem dX4_readKnowers_19 : decode cX4_readKnowers 19 = .ok (.aload_n 1, 1) := by decide +kernel
theorem dX4_readKnowers_20 : decode cX4_readKnowers 20 = .ok (.getfield 111, 3) := by decide +kernel
theorem dX4_readKnowers_23 : decode cX4_readKnowers 23 = .ok (.iload_n 2, 1) := by decide +kernel
theorem dX4_readKnowers_24 : decode cX4_readKnowers 24 = .ok (.ishr, 1) := by decide +kernel
theorem dX4_readKnowers_25 : decode cX4_readKnowers 25 = .ok (.iconst 1, 1) := by decide +kernel
theorem dX4_readKnowers_26 : decode cX4_readKnowers 26 = .ok (.iand, 1) := by decide +kernel
theorem dX4_readKnowers_27 : decode cX4_readKnowers 27 = .ok (.ifCond .eq 12, 3) := by decide +kernel
theorem dX4_readKnowers_30 : decode cX4_readKnowers 30 = .ok (.aload_n 0, 1) := by decide +kernel
theorem dX4_readKnowers_31 : decode cX4_readKnowers 31 = .ok (.iconst 4, 1) := by decide +kernel
theorem dX4_readKnowers_32 : decode cX4_readKnowers 32 = .ok (.aload_n 0, 1) := by decide +kernel
theorem dX4_readKnowers_33 : decode cX4_readKnowers 33 = .ok (.getfield 92, 3) := by decide +kernel
theorem dX4_readKnowers_36 : decode cX4_readKnowers 36 = .ok (.invokevirtual 49, 3) := by decide +kernel
theorem dX4_readKnowers_39 : decode cX4_readKnowers 39 = .ok (.aload_n 0, 1) := by decide +kernel
theorem dX4_readKnowers_40 : decode cX4_readKnowers 40 = .ok (.iconst 0, 1) := by decide +kernel
theorem dX4_readKnowers_41 : decode cX4_readKnowers 41 = .ok (.aload_n 1, 1) := by decide +kernel
theorem dX4_readKnowers_42 : decode cX4_readKnowers 42 = .ok (.invokevirtual 114, 3) := by decide +kernel
theorem dX4_readKnowers_45 : decode cX4_readKnowers 45 = .ok (.invokevirtual 99, 3) := by decide +kernel
theorem dX4_readKnowers_48 : decode cX4_readKnowers 48 = .ok (.istore_n 3, 1) := by decide +kernel
theorem dX4_readKnowers_49 : decode cX4_readKnowers 49 = .ok (.aload_n 0, 1) := by decide +kernel
theorem dX4_readKnowers_50 : decode cX4_readKnowers 50 = .ok (.getfield 31, 3) := by decide +kernel
theorem dX4_readKnowers_53 : decode cX4_readKnowers 53 = .ok (.ifCond .ne 22, 3) := by decide +kernel
theorem dX4_readKnowers_56 : decode cX4_readKnowers 56 = .ok (.aload_n 1, 1) := by decide +kernel
theorem dX4_readKnowers_57 : decode cX4_readKnowers 57 = .ok (.dup, 1) := by decide +kernel
theorem dX4_readKnowers_58 : decode cX4_readKnowers 58 = .ok (.getfield 111, 3) := by decide +kernel
theorem dX4_readKnowers_61 : decode cX4_readKnowers 61 = .ok (.iconst 1, 1) := by decide +kernel
theorem dX4_readKnowers_62 : decode cX4_readKnowers 62 = .ok (.iload_n 2, 1) := by decide +kernel
theorem dX4_readKnowers_63 : decode cX4_readKnowers 63 = .ok (.ishl, 1) := by decide +kernel
theorem dX4_readKnowers_64 : decode cX4_readKnowers 64 = .ok (.ior, 1) := by decide +kernel
theorem dX4_readKnowers_65 : decode cX4_readKnowers 65 = .ok (.putfield 111, 3) := by decide +kernel
theorem dX4_readKnowers_68 : decode cX4_readKnowers 68 = .ok (.aload_n 1, 1) := by decide +kernel
theorem dX4_readKnowers_69 : decode cX4_readKnowers 69 = .ok (.getfield 117, 3) := by decide +kernel
theorem dX4_readKnowers_72 : decode cX4_readKnowers 72 = .ok (.iload_n 2, 1) := by decide +kernel
theorem dX4_readKnowers_73 : decode cX4_readKnowers 73 = .ok (.iload_n 3, 1) := by decide +kernel
theorem dX4_readKnowers_74 : decode cX4_readKnowers 74 = .ok (.iastore, 1) := by decide +kernel
theorem dX4_readKnowers_75 : decode cX4_readKnowers 75 = .ok (.return_, 1) := by decide +kernel
theorem dX4_readFriendship_0 : decode cX4_readFriendship 0 = .ok (.aload_n 0, 1) := by decide +kernel
theorem dX4_readFriendship_1 : decode cX4_readFriendship 1 = .ok (.aload_n 1, 1) := by decide +kernel
theorem dX4_readFriendship_2 : decode cX4_readFriendship 2 = .ok (.invokevirtual 103, 3) := by decide +kernel
theorem dX4_readFriendship_5 : decode cX4_readFriendship 5 = .ok (.istore_n 2, 1) := by decide +kernel
theorem dX4_readFriendship_6 : decode cX4_readFriendship 6 = .ok (.aload_n 0, 1) := by decide +kernel
theorem dX4_readFriendship_7 : decode cX4_readFriendship 7 = .ok (.aload_n 1, 1) := by decide +kernel
theorem dX4_readFriendship_8 : decode cX4_readFriendship 8 = .ok (.invokevirtual 103, 3) := by decide +kernel
theorem dX4_readFriendship_11 : decode cX4_readFriendship 11 = .ok (.istore_n 3, 1) := by decide +kernel
theorem dX4_readFriendship_12 : decode cX4_readFriendship 12 = .ok (.aload_n 0, 1) := by decide +kernel
theorem dX4_readFriendship_13 : decode cX4_readFriendship 13 = .ok (.getfield 31, 3) := by decide +kernel
theorem dX4_readFriendship_16 : decode cX4_readFriendship 16 = .ok (.ifCond .ne 30, 3) := by decide +kernel
theorem dX4_readFriendship_19 : decode cX4_readFriendship 19 = .ok (.iload_n 2, 1) := by decide +kernel
theorem dX4_readFriendship_20 : decode cX4_readFriendship 20 = .ok (.iload_n 3, 1) := by decide +kernel
theorem dX4_readFriendship_21 : decode cX4_readFriendship 21 = .ok (.if_icmp .eq 16, 3) := by decide +kernel
theorem dX4_readFriendship_24 : decode cX4_readFriendship 24 = .ok (.aload_n 1, 1) := by decide +kernel
theorem dX4_readFriendship_25 : decode cX4_readFriendship 25 = .ok (.getfield 120, 3) := by decide +kernel
theorem dX4_readFriendship_28 : decode cX4_readFriendship 28 = .ok (.iload_n 2, 1) := by decide +kernel
theorem dX4_readFriendship_29 : decode cX4_readFriendship 29 = .ok (.iaload, 1) := by decide +kernel
theorem dX4_readFriendship_30 : decode cX4_readFriendship 30 = .ok (.iload_n 3, 1) := by decide +kernel
theorem dX4_readFriendship_31 : decode cX4_readFriendship 31 = .ok (.ishr, 1) := by decide +kernel
theorem dX4_readFriendship_32 : decode cX4_readFriendship 32 = .ok (.iconst 1, 1) := by decide +kernel
theorem dX4_readFriendship_33 : decode cX4_readFriendship 33 = .ok (.iand, 1) := by decide +kernel
theorem dX4_readFriendship_34 : decode cX4_readFriendship 34 = .ok (.ifCond .eq 12, 3) := by decide +kernel
theorem dX4_readFriendship_37 : decode cX4_readFriendship 37 = .ok (.aload_n 0, 1) := by decide +kernel
theorem dX4_readFriendship_38 : decode cX4_readFriendship 38 = .ok (.iconst 4, 1) := by decide +kernel
theorem dX4_readFriendship_39 : decode cX4_readFriendship 39 = .ok (.aload_n 0, 1) := by decide +kernel
theorem dX4_readFriendship_40 : decode cX4_readFriendship 40 = .ok (.getfield 92, 3) := by decide +kernel
theorem dX4_readFriendship_43 : decode cX4_readFriendship 43 = .ok (.invokevirtual 49, 3) := by decide +kernel
theorem dX4_readFriendship_46 : decode cX4_readFriendship 46 = .ok (.aload_n 0, 1) := by decide +kernel
theorem dX4_readFriendship_47 : decode cX4_readFriendship 47 = .ok (.getfield 31, 3) := by decide +kernel
theorem dX4_readFriendship_50 : decode cX4_readFriendship 50 = .ok (.ifCond .ne 9, 3) := by decide +kernel
theorem dX4_readFriendship_53 : decode cX4_readFriendship 53 = .ok (.aload_n 1, 1) := by decide +kernel
theorem dX4_readFriendship_54 : decode cX4_readFriendship 54 = .ok (.iload_n 2, 1) := by decide +kernel
theorem dX4_readFriendship_55 : decode cX4_readFriendship 55 = .ok (.iload_n 3, 1) := by decide +kernel
theorem dX4_readFriendship_56 : decode cX4_readFriendship 56 = .ok (.invokevirtual 123, 3) := by decide +kernel
theorem dX4_readFriendship_59 : decode cX4_readFriendship 59 = .ok (.return_, 1) := by decide +kernel
theorem dX4_readQuiet_0 : decode cX4_readQuiet 0 = .ok (.aload_n 0, 1) := by decide +kernel
theorem dX4_readQuiet_1 : decode cX4_readQuiet 1 = .ok (.aload_n 1, 1) := by decide +kernel
theorem dX4_readQuiet_2 : decode cX4_readQuiet 2 = .ok (.invokevirtual 103, 3) := by decide +kernel
theorem dX4_readQuiet_5 : decode cX4_readQuiet 5 = .ok (.istore_n 2, 1) := by decide +kernel
theorem dX4_readQuiet_6 : decode cX4_readQuiet 6 = .ok (.aload_n 0, 1) := by decide +kernel
theorem dX4_readQuiet_7 : decode cX4_readQuiet 7 = .ok (.getfield 31, 3) := by decide +kernel
theorem dX4_readQuiet_10 : decode cX4_readQuiet 10 = .ok (.ifCond .ne 20, 3) := by decide +kernel
theorem dX4_readQuiet_13 : decode cX4_readQuiet 13 = .ok (.aload_n 1, 1) := by decide +kernel
theorem dX4_readQuiet_14 : decode cX4_readQuiet 14 = .ok (.iload_n 2, 1) := by decide +kernel
theorem dX4_readQuiet_15 : decode cX4_readQuiet 15 = .ok (.invokevirtual 126, 3) := by decide +kernel
theorem dX4_readQuiet_18 : decode cX4_readQuiet 18 = .ok (.ifCond .eq 12, 3) := by decide +kernel
theorem dX4_readQuiet_21 : decode cX4_readQuiet 21 = .ok (.aload_n 0, 1) := by decide +kernel
theorem dX4_readQuiet_22 : decode cX4_readQuiet 22 = .ok (.iconst 4, 1) := by decide +kernel
theorem dX4_readQuiet_23 : decode cX4_readQuiet 23 = .ok (.aload_n 0, 1) := by decide +kernel
theorem dX4_readQuiet_24 : decode cX4_readQuiet 24 = .ok (.getfield 92, 3) := by decide +kernel
theorem dX4_readQuiet_27 : decode cX4_readQuiet 27 = .ok (.invokevirtual 49, 3) := by decide +kernel
theorem dX4_readQuiet_30 : decode cX4_readQuiet 30 = .ok (.aload_n 0, 1) := by decide +kernel
theorem dX4_readQuiet_31 : decode cX4_readQuiet 31 = .ok (.getfield 31, 3) := by decide +kernel
theorem dX4_readQuiet_34 : decode cX4_readQuiet 34 = .ok (.ifCond .ne 15, 3) := by decide +kernel
theorem dX4_readQuiet_37 : decode cX4_readQuiet 37 = .ok (.aload_n 1, 1) := by decide +kernel
theorem dX4_readQuiet_38 : decode cX4_readQuiet 38 = .ok (.dup, 1) := by decide +kernel
theorem dX4_readQuiet_39 : decode cX4_readQuiet 39 = .ok (.getfield 129, 3) := by decide +kernel
theorem dX4_readQuiet_42 : decode cX4_readQuiet 42 = .ok (.iconst 1, 1) := by decide +kernel
theorem dX4_readQuiet_43 : decode cX4_readQuiet 43 = .ok (.iload_n 2, 1) := by decide +kernel
theorem dX4_readQuiet_44 : decode cX4_readQuiet 44 = .ok (.ishl, 1) := by decide +kernel
theorem dX4_readQuiet_45 : decode cX4_readQuiet 45 = .ok (.ior, 1) := by decide +kernel
theorem dX4_readQuiet_46 : decode cX4_readQuiet 46 = .ok (.putfield 129, 3) := by decide +kernel
theorem dX4_readQuiet_49 : decode cX4_readQuiet 49 = .ok (.return_, 1) := by decide +kernel
theorem dX4_readBridge_0 : decode cX4_readBridge 0 = .ok (.aload_n 0, 1) := by decide +kernel
theorem dX4_readBridge_1 : decode cX4_readBridge 1 = .ok (.iconst 0, 1) := by decide +kernel
theorem dX4_readBridge_2 : decode cX4_readBridge 2 = .ok (.sipush 999, 3) := by decide +kernel
theorem dX4_readBridge_5 : decode cX4_readBridge 5 = .ok (.invokevirtual 99, 3) := by decide +kernel
theorem dX4_readBridge_8 : decode cX4_readBridge 8 = .ok (.istore_n 2, 1) := by decide +kernel
theorem dX4_readBridge_9 : decode cX4_readBridge 9 = .ok (.aload_n 0, 1) := by decide +kernel
theorem dX4_readBridge_10 : decode cX4_readBridge 10 = .ok (.getfield 31, 3) := by decide +kernel
theorem dX4_readBridge_13 : decode cX4_readBridge 13 = .ok (.ifCond .ne 23, 3) := by decide +kernel
theorem dX4_readBridge_16 : decode cX4_readBridge 16 = .ok (.aload_n 1, 1) := by decide +kernel
theorem dX4_readBridge_17 : decode cX4_readBridge 17 = .ok (.getfield 132, 3) := by decide +kernel
theorem dX4_readBridge_20 : decode cX4_readBridge 20 = .ok (.aload_n 1, 1) := by decide +kernel
theorem dX4_readBridge_21 : decode cX4_readBridge 21 = .ok (.getfield 86, 3) := by decide +kernel
theorem dX4_readBridge_24 : decode cX4_readBridge 24 = .ok (.iload_n 2, 1) := by decide +kernel
theorem dX4_readBridge_25 : decode cX4_readBridge 25 = .ok (.iastore, 1) := by decide +kernel
theorem dX4_readBridge_26 : decode cX4_readBridge 26 = .ok (.aload_n 1, 1) := by decide +kernel
theorem dX4_readBridge_27 : decode cX4_readBridge 27 = .ok (.dup, 1) := by decide +kernel
theorem dX4_readBridge_28 : decode cX4_readBridge 28 = .ok (.getfield 86, 3) := by decide +kernel
theorem dX4_readBridge_31 : decode cX4_readBridge 31 = .ok (.iconst 1, 1) := by decide +kernel
theorem dX4_readBridge_32 : decode cX4_readBridge 32 = .ok (.iadd, 1) := by decide +kernel
theorem dX4_readBridge_33 : decode cX4_readBridge 33 = .ok (.putfield 86, 3) := by decide +kernel
theorem dX4_readBridge_36 : decode cX4_readBridge 36 = .ok (.return_, 1) := by decide +kernel
theorem dX4_readMemory_0 : decode cX4_readMemory 0 = .ok (.aload_n 0, 1) := by decide +kernel
theorem dX4_readMemory_1 : decode cX4_readMemory 1 = .ok (.iconst 1, 1) := by decide +kernel
theorem dX4_readMemory_2 : decode cX4_readMemory 2 = .ok (.bipush 99, 2) := by decide +kernel
theorem dX4_readMemory_4 : decode cX4_readMemory 4 = .ok (.invokevirtual 99, 3) := by decide +kernel
theorem dX4_readMemory_7 : decode cX4_readMemory 7 = .ok (.istore_n 2, 1) := by decide +kernel
theorem dX4_readMemory_8 : decode cX4_readMemory 8 = .ok (.aload_n 0, 1) := by decide +kernel
theorem dX4_readMemory_9 : decode cX4_readMemory 9 = .ok (.getfield 31, 3) := by decide +kernel
theorem dX4_readMemory_12 : decode cX4_readMemory 12 = .ok (.ifCond .ne 8, 3) := by decide +kernel
theorem dX4_readMemory_15 : decode cX4_readMemory 15 = .ok (.aload_n 1, 1) := by decide +kernel
theorem dX4_readMemory_16 : decode cX4_readMemory 16 = .ok (.iload_n 2, 1) := by decide +kernel
theorem dX4_readMemory_17 : decode cX4_readMemory 17 = .ok (.putfield 89, 3) := by decide +kernel
theorem dX4_readMemory_20 : decode cX4_readMemory 20 = .ok (.return_, 1) := by decide +kernel
theorem dX5_init_0 : decode cX5_init 0 = .ok (.aload_n 0, 1) := by decide +kernel
theorem dX5_init_1 : decode cX5_init 1 = .ok (.invokespecial 3, 3) := by decide +kernel
theorem dX5_init_4 : decode cX5_init 4 = .ok (.aload_n 0, 1) := by decide +kernel
theorem dX5_init_5 : decode cX5_init 5 = .ok (.bipush 73, 2) := by decide +kernel
theorem dX5_init_7 : decode cX5_init 7 = .ok (.newarray .int, 2) := by decide +kernel
theorem dX5_init_9 : decode cX5_init 9 = .ok (.putfield 9, 3) := by decide +kernel
theorem dX5_init_12 : decode cX5_init 12 = .ok (.aload_n 0, 1) := by decide +kernel
theorem dX5_init_13 : decode cX5_init 13 = .ok (.bipush 73, 2) := by decide +kernel
theorem dX5_init_15 : decode cX5_init 15 = .ok (.newarray .int, 2) := by decide +kernel
theorem dX5_init_17 : decode cX5_init 17 = .ok (.putfield 15, 3) := by decide +kernel
theorem dX5_init_20 : decode cX5_init 20 = .ok (.return_, 1) := by decide +kernel
theorem dX5_agree_0 : decode cX5_agree 0 = .ok (.aload_n 1, 1) := by decide +kernel
theorem dX5_agree_1 : decode cX5_agree 1 = .ok (.iload_n 2, 1) := by decide +kernel
theorem dX5_agree_2 : decode cX5_agree 2 = .ok (.aload_n 0, 1) := by decide +kernel
theorem dX5_agree_3 : decode cX5_agree 3 = .ok (.getfield 9, 3) := by decide +kernel
theorem dX5_agree_6 : decode cX5_agree 6 = .ok (.invokestatic 18, 3) := by decide +kernel
theorem dX5_agree_9 : decode cX5_agree 9 = .ok (.aload_n 1, 1) := by decide +kernel
theorem dX5_agree_10 : decode cX5_agree 10 = .ok (.iload_n 3, 1) := by decide +kernel
theorem dX5_agree_11 : decode cX5_agree 11 = .ok (.aload_n 0, 1) := by decide +kernel
theorem dX5_agree_12 : decode cX5_agree 12 = .ok (.getfield 15, 3) := by decide +kernel
theorem dX5_agree_15 : decode cX5_agree 15 = .ok (.invokestatic 18, 3) := by decide +kernel
theorem dX5_agree_18 : decode cX5_agree 18 = .ok (.bipush 72, 2) := by decide +kernel
theorem dX5_agree_20 : decode cX5_agree 20 = .ok (.istore 4, 2) := by decide +kernel
theorem dX5_agree_22 : decode cX5_agree 22 = .ok (.iload 4, 2) := by decide +kernel
theorem dX5_agree_24 : decode cX5_agree 24 = .ok (.ifCond .le 34, 3) := by decide +kernel
theorem dX5_agree_27 : decode cX5_agree 27 = .ok (.aload_n 0, 1) := by decide +kernel
theorem dX5_agree_28 : decode cX5_agree 28 = .ok (.getfield 9, 3) := by decide +kernel
theorem dX5_agree_31 : decode cX5_agree 31 = .ok (.iload 4, 2) := by decide +kernel
theorem dX5_agree_33 : decode cX5_agree 33 = .ok (.iaload, 1) := by decide +kernel
theorem dX5_agree_34 : decode cX5_agree 34 = .ok (.iconst (-1), 1) := by decide +kernel
theorem dX5_agree_35 : decode cX5_agree 35 = .ok (.if_icmp .eq 17, 3) := by decide +kernel
theorem dX5_agree_38 : decode cX5_agree 38 = .ok (.aload_n 0, 1) := by decide +kernel
theorem dX5_agree_39 : decode cX5_agree 39 = .ok (.getfield 15, 3) := by decide +kernel
theorem dX5_agree_42 : decode cX5_agree 42 = .ok (.iload 4, 2) := by decide +kernel
theorem dX5_agree_44 : decode cX5_agree 44 = .ok (.iaload, 1) := by decide +kernel
theorem dX5_agree_45 : decode cX5_agree 45 = .ok (.iconst (-1), 1) := by decide +kernel
theorem dX5_agree_46 : decode cX5_agree 46 = .ok (.if_icmp .eq 6, 3) := by decide +kernel
theorem dX5_agree_49 : decode cX5_agree 49 = .ok (.iload 4, 2) := by decide +kernel
theorem dX5_agree_51 : decode cX5_agree 51 = .ok (.ireturn, 1) := by decide +kernel
theorem dX5_agree_52 : decode cX5_agree 52 = .ok (.iinc 4 (-1), 3) := by decide +kernel
theorem dX5_agree_55 : decode cX5_agree 55 = .ok (.goto (-33), 3) := by decide +kernel
theorem dX5_agree_58 : decode cX5_agree 58 = .ok (.iconst 0, 1) := by decide +kernel
theorem dX5_agree_59 : decode cX5_agree 59 = .ok (.ireturn, 1) := by decide +kernel
theorem dX5_findParts_0 : decode cX5_findParts 0 = .ok (.aload_n 2, 1) := by decide +kernel
theorem dX5_findParts_1 : decode cX5_findParts 1 = .ok (.iconst (-1), 1) := by decide +kernel
theorem dX5_findParts_2 : decode cX5_findParts 2 = .ok (.invokestatic 22, 3) := by decide +kernel
theorem dX5_findParts_5 : decode cX5_findParts 5 = .ok (.iconst 0, 1) := by decide +kernel
theorem dX5_findParts_6 : decode cX5_findParts 6 = .ok (.istore_n 3, 1) := by decide +kernel
theorem dX5_findParts_7 : decode cX5_findParts 7 = .ok (.iload_n 3, 1) := by decide +kernel
theorem dX5_findParts_8 : decode cX5_findParts 8 = .ok (.iload_n 1, 1) := by decide +kernel
theorem dX5_findParts_9 : decode cX5_findParts 9 = .ok (.if_icmp .gt 37, 3) := by decide +kernel
theorem dX5_findParts_12 : decode cX5_findParts 12 = .ok (.iload_n 3, 1) := by decide +kernel
theorem dX5_findParts_13 : decode cX5_findParts 13 = .ok (.iload_n 1, 1) := by decide +kernel
theorem dX5_findParts_14 : decode cX5_findParts 14 = .ok (.iconst (-1), 1) := by decide +kernel
theorem dX5_findParts_15 : decode cX5_findParts 15 = .ok (.ixor, 1) := by decide +kernel
theorem dX5_findParts_16 : decode cX5_findParts 16 = .ok (.iand, 1) := by decide +kernel
theorem dX5_findParts_17 : decode cX5_findParts 17 = .ok (.ifCond .ne 23, 3) := by decide +kernel
theorem dX5_findParts_20 : decode cX5_findParts 20 = .ok (.aload_n 0, 1) := by decide +kernel
theorem dX5_findParts_21 : decode cX5_findParts 21 = .ok (.iload_n 3, 1) := by decide +kernel
theorem dX5_findParts_22 : decode cX5_findParts 22 = .ok (.invokestatic 28, 3) := by decide +kernel
theorem dX5_findParts_25 : decode cX5_findParts 25 = .ok (.istore 4, 2) := by decide +kernel
theorem dX5_findParts_27 : decode cX5_findParts 27 = .ok (.aload_n 2, 1) := by decide +kernel
theorem dX5_findParts_28 : decode cX5_findParts 28 = .ok (.iload 4, 2) := by decide +kernel
theorem dX5_findParts_30 : decode cX5_findParts 30 = .ok (.iaload, 1) := by decide +kernel
theorem dX5_findParts_31 : decode cX5_findParts 31 = .ok (.iconst (-1), 1) := by decide +kernel
theorem dX5_findParts_32 : decode cX5_findParts 32 = .ok (.if_icmp .ne 8, 3) := by decide +kernel
theorem dX5_findParts_35 : decode cX5_findParts 35 = .ok (.aload_n 2, 1) := by decide +kernel
theorem dX5_findParts_36 : decode cX5_findParts 36 = .ok (.iload 4, 2) := by decide +kernel
theorem dX5_findParts_38 : decode cX5_findParts 38 = .ok (.iload_n 3, 1) := by decide +kernel
theorem dX5_findParts_39 : decode cX5_findParts 39 = .ok (.iastore, 1) := by decide +kernel
theorem dX5_findParts_40 : decode cX5_findParts 40 = .ok (.iinc 3 1, 3) := by decide +kernel
theorem dX5_findParts_43 : decode cX5_findParts 43 = .ok (.goto (-36), 3) := by decide +kernel
theorem dX5_findParts_46 : decode cX5_findParts 46 = .ok (.return_, 1) := by decide +kernel
theorem dX5_gramsAHead_0 : decode cX5_gramsAHead 0 = .ok (.iconst 0, 1) := by decide +kernel
theorem dX5_gramsAHead_1 : decode cX5_gramsAHead 1 = .ok (.istore_n 2, 1) := by decide +kernel
theorem dX5_gramsAHead_2 : decode cX5_gramsAHead 2 = .ok (.iconst 0, 1) := by decide +kernel
theorem dX5_gramsAHead_3 : decode cX5_gramsAHead 3 = .ok (.istore_n 3, 1) := by decide +kernel
theorem dX5_gramsAHead_4 : decode cX5_gramsAHead 4 = .ok (.iload_n 3, 1) := by decide +kernel
theorem dX5_gramsAHead_5 : decode cX5_gramsAHead 5 = .ok (.aload_n 0, 1) := by decide +kernel
theorem dX5_gramsAHead_6 : decode cX5_gramsAHead 6 = .ok (.getfield 32, 3) := by decide +kernel
theorem dX5_gramsAHead_9 : decode cX5_gramsAHead 9 = .ok (.if_icmp .ge 24, 3) := by decide +kernel
theorem dX5_gramsAHead_12 : decode cX5_gramsAHead 12 = .ok (.iload_n 2, 1) := by decide +kernel
theorem dX5_gramsAHead_13 : decode cX5_gramsAHead 13 = .ok (.iload_n 1, 1) := by decide +kernel
theorem dX5_gramsAHead_14 : decode cX5_gramsAHead 14 = .ok (.iload_n 3, 1) := by decide +kernel
theorem dX5_gramsAHead_15 : decode cX5_gramsAHead 15 = .ok (.ishr, 1) := by decide +kernel
theorem dX5_gramsAHead_16 : decode cX5_gramsAHead 16 = .ok (.iconst 1, 1) := by decide +kernel
theorem dX5_gramsAHead_17 : decode cX5_gramsAHead 17 = .ok (.iand, 1) := by decide +kernel
theorem dX5_gramsAHead_18 : decode cX5_gramsAHead 18 = .ok (.aload_n 0, 1) := by decide +kernel
theorem dX5_gramsAHead_19 : decode cX5_gramsAHead 19 = .ok (.getfield 38, 3) := by decide +kernel
theorem dX5_gramsAHead_22 : decode cX5_gramsAHead 22 = .ok (.iload_n 3, 1) := by decide +kernel
theorem dX5_gramsAHead_23 : decode cX5_gramsAHead 23 = .ok (.iaload, 1) := by decide +kernel
theorem dX5_gramsAHead_24 : decode cX5_gramsAHead 24 = .ok (.imul, 1) := by decide +kernel
theorem dX5_gramsAHead_25 : decode cX5_gramsAHead 25 = .ok (.iadd, 1) := by decide +kernel
theorem dX5_gramsAHead_26 : decode cX5_gramsAHead 26 = .ok (.istore_n 2, 1) := by decide +kernel
theorem dX5_gramsAHead_27 : decode cX5_gramsAHead 27 = .ok (.iinc 3 1, 3) := by decide +kernel
theorem dX5_gramsAHead_30 : decode cX5_gramsAHead 30 = .ok (.goto (-26), 3) := by decide +kernel
theorem dX5_gramsAHead_33 : decode cX5_gramsAHead 33 = .ok (.bipush 72, 2) := by decide +kernel
theorem dX5_gramsAHead_35 : decode cX5_gramsAHead 35 = .ok (.iload_n 2, 1) := by decide +kernel
theorem dX5_gramsAHead_36 : decode cX5_gramsAHead 36 = .ok (.invokestatic 41, 3) := by decide +kernel
theorem dX5_gramsAHead_39 : decode cX5_gramsAHead 39 = .ok (.ireturn, 1) := by decide +kernel
theorem dX6_init_0 : decode cX6_init 0 = .ok (.aload_n 0, 1) := by decide +kernel
theorem dX6_init_1 : decode cX6_init 1 = .ok (.invokespecial 3, 3) := by decide +kernel
theorem dX6_init_4 : decode cX6_init 4 = .ok (.aload_n 0, 1) := by decide +kernel
theorem dX6_init_5 : decode cX6_init 5 = .ok (.bipush 15, 2) := by decide +kernel
theorem dX6_init_7 : decode cX6_init 7 = .ok (.newarray .int, 2) := by decide +kernel
theorem dX6_init_9 : decode cX6_init 9 = .ok (.putfield 9, 3) := by decide +kernel
theorem dX6_init_12 : decode cX6_init 12 = .ok (.aload_n 0, 1) := by decide +kernel
theorem dX6_init_13 : decode cX6_init 13 = .ok (.bipush 15, 2) := by decide +kernel
theorem dX6_init_15 : decode cX6_init 15 = .ok (.newarray .int, 2) := by decide +kernel
theorem dX6_init_17 : decode cX6_init 17 = .ok (.putfield 15, 3) := by decide +kernel
theorem dX6_init_20 : decode cX6_init 20 = .ok (.return_, 1) := by decide +kernel
theorem dX6_add_0 : decode cX6_add 0 = .ok (.aload_n 0, 1) := by decide +kernel
theorem dX6_add_1 : decode cX6_add 1 = .ok (.getfield 18, 3) := by decide +kernel
theorem dX6_add_4 : decode cX6_add 4 = .ok (.bipush 15, 2) := by decide +kernel
theorem dX6_add_6 : decode cX6_add 6 = .ok (.if_icmp .lt 6, 3) := by decide +kernel
theorem dX6_add_9 : decode cX6_add 9 = .ok (.ldc 22, 2) := by decide +kernel
theorem dX6_add_11 : decode cX6_add 11 = .ok (.ireturn, 1) := by decide +kernel
theorem dX6_add_12 : decode cX6_add 12 = .ok (.aload_n 0, 1) := by decide +kernel
theorem dX6_add_13 : decode cX6_add 13 = .ok (.getfield 9, 3) := by decide +kernel
theorem dX6_add_16 : decode cX6_add 16 = .ok (.aload_n 0, 1) := by decide +kernel
theorem dX6_add_17 : decode cX6_add 17 = .ok (.getfield 18, 3) := by decide +kernel
theorem dX6_add_20 : decode cX6_add 20 = .ok (.iload_n 1, 1) := by decide +kernel
theorem dX6_add_21 : decode cX6_add 21 = .ok (.iastore, 1) := by decide +kernel
theorem dX6_add_22 : decode cX6_add 22 = .ok (.aload_n 0, 1) := by decide +kernel
theorem dX6_add_23 : decode cX6_add 23 = .ok (.getfield 15, 3) := by decide +kernel
theorem dX6_add_26 : decode cX6_add 26 = .ok (.aload_n 0, 1) := by decide +kernel
theorem dX6_add_27 : decode cX6_add 27 = .ok (.getfield 18, 3) := by decide +kernel
theorem dX6_add_30 : decode cX6_add 30 = .ok (.iload_n 2, 1) := by decide +kernel
theorem dX6_add_31 : decode cX6_add 31 = .ok (.iastore, 1) := by decide +kernel
theorem dX6_add_32 : decode cX6_add 32 = .ok (.aload_n 0, 1) := by decide +kernel
theorem dX6_add_33 : decode cX6_add 33 = .ok (.dup, 1) := by decide +kernel
theorem dX6_add_34 : decode cX6_add 34 = .ok (.getfield 18, 3) := by decide +kernel
theorem dX6_add_37 : decode cX6_add 37 = .ok (.iconst 1, 1) := by decide +kernel
theorem dX6_add_38 : decode cX6_add 38 = .ok (.iadd, 1) := by decide +kernel
theorem dX6_add_39 : decode cX6_add 39 = .ok (.putfield 18, 3) := by decide +kernel
theorem dX6_add_42 : decode cX6_add 42 = .ok (.aload_n 0, 1) := by decide +kernel
theorem dX6_add_43 : decode cX6_add 43 = .ok (.getfield 18, 3) := by decide +kernel
theorem dX6_add_46 : decode cX6_add 46 = .ok (.ireturn, 1) := by decide +kernel
theorem dX6_firstWrong_0 : decode cX6_firstWrong 0 = .ok (.iconst 0, 1) := by decide +kernel
theorem dX6_firstWrong_1 : decode cX6_firstWrong 1 = .ok (.istore_n 3, 1) := by decide +kernel
theorem dX6_firstWrong_2 : decode cX6_firstWrong 2 = .ok (.iload_n 3, 1) := by decide +kernel
theorem dX6_firstWrong_3 : decode cX6_firstWrong 3 = .ok (.aload_n 0, 1) := by decide +kernel
theorem dX6_firstWrong_4 : decode cX6_firstWrong 4 = .ok (.getfield 18, 3) := by decide +kernel
theorem dX6_firstWrong_7 : decode cX6_firstWrong 7 = .ok (.if_icmp .ge 31, 3) := by decide +kernel
theorem dX6_firstWrong_10 : decode cX6_firstWrong 10 = .ok (.aload_n 2, 1) := by decide +kernel
theorem dX6_firstWrong_11 : decode cX6_firstWrong 11 = .ok (.aload_n 1, 1) := by decide +kernel
theorem dX6_firstWrong_12 : decode cX6_firstWrong 12 = .ok (.aload_n 0, 1) := by decide +kernel
theorem dX6_firstWrong_13 : decode cX6_firstWrong 13 = .ok (.getfield 9, 3) := by decide +kernel
theorem dX6_firstWrong_16 : decode cX6_firstWrong 16 = .ok (.iload_n 3, 1) := by decide +kernel
theorem dX6_firstWrong_17 : decode cX6_firstWrong 17 = .ok (.iaload, 1) := by decide +kernel
theorem dX6_firstWrong_18 : decode cX6_firstWrong 18 = .ok (.invokevirtual 23, 3) := by decide +kernel
theorem dX6_firstWrong_21 : decode cX6_firstWrong 21 = .ok (.aload_n 0, 1) := by decide +kernel
theorem dX6_firstWrong_22 : decode cX6_firstWrong 22 = .ok (.getfield 15, 3) := by decide +kernel
theorem dX6_firstWrong_25 : decode cX6_firstWrong 25 = .ok (.iload_n 3, 1) := by decide +kernel
theorem dX6_firstWrong_26 : decode cX6_firstWrong 26 = .ok (.iaload, 1) := by decide +kernel
theorem dX6_firstWrong_27 : decode cX6_firstWrong 27 = .ok (.if_icmp .eq 5, 3) := by decide +kernel
theorem dX6_firstWrong_30 : decode cX6_firstWrong 30 = .ok (.iload_n 3, 1) := by decide +kernel
theorem dX6_firstWrong_31 : decode cX6_firstWrong 31 = .ok (.ireturn, 1) := by decide +kernel
theorem dX6_firstWrong_32 : decode cX6_firstWrong 32 = .ok (.iinc 3 1, 3) := by decide +kernel
theorem dX6_firstWrong_35 : decode cX6_firstWrong 35 = .ok (.goto (-33), 3) := by decide +kernel
theorem dX6_firstWrong_38 : decode cX6_firstWrong 38 = .ok (.iconst (-1), 1) := by decide +kernel
theorem dX6_firstWrong_39 : decode cX6_firstWrong 39 = .ok (.ireturn, 1) := by decide +kernel
theorem dX7_init_0 : decode cX7_init 0 = .ok (.aload_n 0, 1) := by decide +kernel
theorem dX7_init_1 : decode cX7_init 1 = .ok (.invokespecial 3, 3) := by decide +kernel
theorem dX7_init_4 : decode cX7_init 4 = .ok (.aload_n 0, 1) := by decide +kernel
theorem dX7_init_5 : decode cX7_init 5 = .ok (.sipush 433, 3) := by decide +kernel
theorem dX7_init_8 : decode cX7_init 8 = .ok (.newarray .int, 2) := by decide +kernel
theorem dX7_init_10 : decode cX7_init 10 = .ok (.putfield 9, 3) := by decide +kernel
theorem dX7_init_13 : decode cX7_init 13 = .ok (.return_, 1) := by decide +kernel
theorem dX7_spread_0 : decode cX7_spread 0 = .ok (.aload_n 0, 1) := by decide +kernel
theorem dX7_spread_1 : decode cX7_spread 1 = .ok (.getfield 9, 3) := by decide +kernel
theorem dX7_spread_4 : decode cX7_spread 4 = .ok (.iconst 0, 1) := by decide +kernel
theorem dX7_spread_5 : decode cX7_spread 5 = .ok (.invokestatic 15, 3) := by decide +kernel
theorem dX7_spread_8 : decode cX7_spread 8 = .ok (.aload_n 0, 1) := by decide +kernel
theorem dX7_spread_9 : decode cX7_spread 9 = .ok (.getfield 9, 3) := by decide +kernel
theorem dX7_spread_12 : decode cX7_spread 12 = .ok (.iconst 0, 1) := by decide +kernel
theorem dX7_spread_13 : decode cX7_spread 13 = .ok (.iconst 1, 1) := by decide +kernel
theorem dX7_spread_14 : decode cX7_spread 14 = .ok (.iastore, 1) := by decide +kernel
theorem dX7_spread_15 : decode cX7_spread 15 = .ok (.aload_n 0, 1) := by decide +kernel
theorem dX7_spread_16 : decode cX7_spread 16 = .ok (.iconst 0, 1) := by decide +kernel
theorem dX7_spread_17 : decode cX7_spread 17 = .ok (.putfield 21, 3) := by decide +kernel
theorem dX7_spread_20 : decode cX7_spread 20 = .ok (.aload_n 0, 1) := by decide +kernel
theorem dX7_spread_21 : decode cX7_spread 21 = .ok (.iconst 0, 1) := by decide +kernel
theorem dX7_spread_22 : decode cX7_spread 22 = .ok (.putfield 25, 3) := by decide +kernel
theorem dX7_spread_25 : decode cX7_spread 25 = .ok (.aload_n 1, 1) := by decide +kernel
theorem dX7_spread_26 : decode cX7_spread 26 = .ok (.getfield 28, 3) := by decide +kernel
theorem dX7_spread_29 : decode cX7_spread 29 = .ok (.iconst 1, 1) := by decide +kernel
theorem dX7_spread_30 : decode cX7_spread 30 = .ok (.isub, 1) := by decide +kernel
theorem dX7_spread_31 : decode cX7_spread 31 = .ok (.istore_n 3, 1) := by decide +kernel
theorem dX7_spread_32 : decode cX7_spread 32 = .ok (.iconst 0, 1) := by decide +kernel
theorem dX7_spread_33 : decode cX7_spread 33 = .ok (.istore 4, 2) := by decide +kernel
theorem dX7_spread_35 : decode cX7_spread 35 = .ok (.iload 4, 2) := by decide +kernel
theorem dX7_spread_37 : decode cX7_spread 37 = .ok (.aload_n 1, 1) := by decide +kernel
theorem dX7_spread_38 : decode cX7_spread 38 = .ok (.getfield 33, 3) := by decide +kernel
theorem dX7_spread_41 : decode cX7_spread 41 = .ok (.if_icmp .ge 61, 3) := by decide +kernel
theorem dX7_spread_44 : decode cX7_spread 44 = .ok (.iload_n 2, 1) := by decide +kernel
theorem dX7_spread_45 : decode cX7_spread 45 = .ok (.iload 4, 2) := by decide +kernel
theorem dX7_spread_47 : decode cX7_spread 47 = .ok (.ishr, 1) := by decide +kernel
theorem dX7_spread_48 : decode cX7_spread 48 = .ok (.iconst 1, 1) := by decide +kernel
theorem dX7_spread_49 : decode cX7_spread 49 = .ok (.iand, 1) := by decide +kernel
theorem dX7_spread_50 : decode cX7_spread 50 = .ok (.ifCond .eq 46, 3) := by decide +kernel
theorem dX7_spread_53 : decode cX7_spread 53 = .ok (.aload_n 0, 1) := by decide +kernel
theorem dX7_spread_54 : decode cX7_spread 54 = .ok (.dup, 1) := by decide +kernel
theorem dX7_spread_55 : decode cX7_spread 55 = .ok (.getfield 21, 3) := by decide +kernel
theorem dX7_spread_58 : decode cX7_spread 58 = .ok (.aload_n 1, 1) := by decide +kernel
theorem dX7_spread_59 : decode cX7_spread 59 = .ok (.iload 4, 2) := by decide +kernel
theorem dX7_spread_61 : decode cX7_spread 61 = .ok (.invokevirtual 36, 3) := by decide +kernel
theorem dX7_spread_64 : decode cX7_spread 64 = .ok (.ifCond .eq 15, 3) := by decide +kernel
theorem dX7_spread_67 : decode cX7_spread 67 = .ok (.aload_n 1, 1) := by decide +kernel
theorem dX7_spread_68 : decode cX7_spread 68 = .ok (.getfield 40, 3) := by decide +kernel
theorem dX7_spread_71 : decode cX7_spread 71 = .ok (.iload 4, 2) := by decide +kernel
theorem dX7_spread_73 : decode cX7_spread 73 = .ok (.iaload, 1) := by decide +kernel
theorem dX7_spread_74 : decode cX7_spread 74 = .ok (.iload_n 3, 1) := by decide +kernel
theorem dX7_spread_75 : decode cX7_spread 75 = .ok (.imul, 1) := by decide +kernel
theorem dX7_spread_76 : decode cX7_spread 76 = .ok (.goto 4, 3) := by decide +kernel
theorem dX7_spread_79 : decode cX7_spread 79 = .ok (.iconst 0, 1) := by decide +kernel
theorem dX7_spread_80 : decode cX7_spread 80 = .ok (.isub, 1) := by decide +kernel
theorem dX7_spread_81 : decode cX7_spread 81 = .ok (.putfield 21, 3) := by decide +kernel
theorem dX7_spread_84 : decode cX7_spread 84 = .ok (.aload_n 0, 1) := by decide +kernel
theorem dX7_spread_85 : decode cX7_spread 85 = .ok (.aload_n 1, 1) := by decide +kernel
theorem dX7_spread_86 : decode cX7_spread 86 = .ok (.getfield 40, 3) := by decide +kernel
theorem dX7_spread_89 : decode cX7_spread 89 = .ok (.iload 4, 2) := by decide +kernel
theorem dX7_spread_91 : decode cX7_spread 91 = .ok (.iaload, 1) := by decide +kernel
theorem dX7_spread_92 : decode cX7_spread 92 = .ok (.iload_n 3, 1) := by decide +kernel
theorem dX7_spread_93 : decode cX7_spread 93 = .ok (.invokevirtual 43, 3) := by decide +kernel
theorem dX7_spread_96 : decode cX7_spread 96 = .ok (.iinc 4 1, 3) := by decide +kernel
theorem dX7_spread_99 : decode cX7_spread 99 = .ok (.goto (-64), 3) := by decide +kernel
theorem dX7_spread_102 : decode cX7_spread 102 = .ok (.return_, 1) := by decide +kernel
theorem dX7_addFact_0 : decode cX7_addFact 0 = .ok (.aload_n 0, 1) := by decide +kernel
theorem dX7_addFact_1 : decode cX7_addFact 1 = .ok (.sipush 432, 3) := by decide +kernel
theorem dX7_addFact_4 : decode cX7_addFact 4 = .ok (.aload_n 0, 1) := by decide +kernel
theorem dX7_addFact_5 : decode cX7_addFact 5 = .ok (.getfield 25, 3) := by decide +kernel
theorem dX7_addFact_8 : decode cX7_addFact 8 = .ok (.iload_n 1, 1) := by decide +kernel
theorem dX7_addFact_9 : decode cX7_addFact 9 = .ok (.iload_n 2, 1) := by decide +kernel
theorem dX7_addFact_10 : decode cX7_addFact 10 = .ok (.imul, 1) := by decide +kernel
theorem dX7_addFact_11 : decode cX7_addFact 11 = .ok (.iadd, 1) := by decide +kernel
theorem dX7_addFact_12 : decode cX7_addFact 12 = .ok (.invokestatic 47, 3) := by decide +kernel
theorem dX7_addFact_15 : decode cX7_addFact 15 = .ok (.putfield 25, 3) := by decide +kernel
theorem dX7_addFact_18 : decode cX7_addFact 18 = .ok (.aload_n 0, 1) := by decide +kernel
theorem dX7_addFact_19 : decode cX7_addFact 19 = .ok (.getfield 25, 3) := by decide +kernel
theorem dX7_addFact_22 : decode cX7_addFact 22 = .ok (.istore_n 3, 1) := by decide +kernel
theorem dX7_addFact_23 : decode cX7_addFact 23 = .ok (.iload_n 3, 1) := by decide +kernel
theorem dX7_addFact_24 : decode cX7_addFact 24 = .ok (.ifCond .lt 59, 3) := by decide +kernel
theorem dX7_addFact_27 : decode cX7_addFact 27 = .ok (.iconst 0, 1) := by decide +kernel
theorem dX7_addFact_28 : decode cX7_addFact 28 = .ok (.istore 4, 2) := by decide +kernel
theorem dX7_addFact_30 : decode cX7_addFact 30 = .ok (.iconst 0, 1) := by decide +kernel
theorem dX7_addFact_31 : decode cX7_addFact 31 = .ok (.istore 5, 2) := by decide +kernel
theorem dX7_addFact_33 : decode cX7_addFact 33 = .ok (.iload 5, 2) := by decide +kernel
theorem dX7_addFact_35 : decode cX7_addFact 35 = .ok (.iload_n 2, 1) := by decide +kernel
theorem dX7_addFact_36 : decode cX7_addFact 36 = .ok (.if_icmp .gt 33, 3) := by decide +kernel
theorem dX7_addFact_39 : decode cX7_addFact 39 = .ok (.iload 5, 2) := by decide +kernel
theorem dX7_addFact_41 : decode cX7_addFact 41 = .ok (.iload_n 1, 1) := by decide +kernel
theorem dX7_addFact_42 : decode cX7_addFact 42 = .ok (.imul, 1) := by decide +kernel
theorem dX7_addFact_43 : decode cX7_addFact 43 = .ok (.iload_n 3, 1) := by decide +kernel
theorem dX7_addFact_44 : decode cX7_addFact 44 = .ok (.if_icmp .gt 25, 3) := by decide +kernel
theorem dX7_addFact_47 : decode cX7_addFact 47 = .ok (.iload 4, 2) := by decide +kernel
theorem dX7_addFact_49 : decode cX7_addFact 49 = .ok (.aload_n 0, 1) := by decide +kernel
theorem dX7_addFact_50 : decode cX7_addFact 50 = .ok (.getfield 9, 3) := by decide +kernel
theorem dX7_addFact_53 : decode cX7_addFact 53 = .ok (.iload_n 3, 1) := by decide +kernel
theorem dX7_addFact_54 : decode cX7_addFact 54 = .ok (.iload 5, 2) := by decide +kernel
theorem dX7_addFact_56 : decode cX7_addFact 56 = .ok (.iload_n 1, 1) := by decide +kernel
theorem dX7_addFact_57 : decode cX7_addFact 57 = .ok (.imul, 1) := by decide +kernel
theorem dX7_addFact_58 : decode cX7_addFact 58 = .ok (.isub, 1) := by decide +kernel
theorem dX7_addFact_59 : decode cX7_addFact 59 = .ok (.iaload, 1) := by decide +kernel
theorem dX7_addFact_60 : decode cX7_addFact 60 = .ok (.iadd, 1) := by decide +kernel
theorem dX7_addFact_61 : decode cX7_addFact 61 = .ok (.istore 4, 2) := by decide +kernel
theorem dX7_addFact_63 : decode cX7_addFact 63 = .ok (.iinc 5 1, 3) := by decide +kernel
theorem dX7_addFact_66 : decode cX7_addFact 66 = .ok (.goto (-33), 3) := by decide +kernel
theorem dX7_addFact_69 : decode cX7_addFact 69 = .ok (.aload_n 0, 1) := by decide +kernel
theorem dX7_addFact_70 : decode cX7_addFact 70 = .ok (.getfield 9, 3) := by decide +kernel
theorem dX7_addFact_73 : decode cX7_addFact 73 = .ok (.iload_n 3, 1) := by decide +kernel
theorem dX7_addFact_74 : decode cX7_addFact 74 = .ok (.iload 4, 2) := by decide +kernel
theorem dX7_addFact_76 : decode cX7_addFact 76 = .ok (.iastore, 1) := by decide +kernel
theorem dX7_addFact_77 : decode cX7_addFact 77 = .ok (.iinc 3 (-1), 3) := by decide +kernel
theorem dX7_addFact_80 : decode cX7_addFact 80 = .ok (.goto (-57), 3) := by decide +kernel
theorem dX7_addFact_83 : decode cX7_addFact 83 = .ok (.return_, 1) := by decide +kernel
theorem dX7_countAt_0 : decode cX7_countAt 0 = .ok (.iload_n 1, 1) := by decide +kernel
theorem dX7_countAt_1 : decode cX7_countAt 1 = .ok (.aload_n 0, 1) := by decide +kernel
theorem dX7_countAt_2 : decode cX7_countAt 2 = .ok (.getfield 21, 3) := by decide +kernel
theorem dX7_countAt_5 : decode cX7_countAt 5 = .ok (.isub, 1) := by decide +kernel
theorem dX7_countAt_6 : decode cX7_countAt 6 = .ok (.istore_n 2, 1) := by decide +kernel
theorem dX7_countAt_7 : decode cX7_countAt 7 = .ok (.iload_n 2, 1) := by decide +kernel
theorem dX7_countAt_8 : decode cX7_countAt 8 = .ok (.ifCond .lt 20, 3) := by decide +kernel
theorem dX7_countAt_11 : decode cX7_countAt 11 = .ok (.iload_n 2, 1) := by decide +kernel
theorem dX7_countAt_12 : decode cX7_countAt 12 = .ok (.aload_n 0, 1) := by decide +kernel
theorem dX7_countAt_13 : decode cX7_countAt 13 = .ok (.getfield 25, 3) := by decide +kernel
theorem dX7_countAt_16 : decode cX7_countAt 16 = .ok (.if_icmp .gt 12, 3) := by decide +kernel
theorem dX7_countAt_19 : decode cX7_countAt 19 = .ok (.aload_n 0, 1) := by decide +kernel
theorem dX7_countAt_20 : decode cX7_countAt 20 = .ok (.getfield 9, 3) := by decide +kernel
theorem dX7_countAt_23 : decode cX7_countAt 23 = .ok (.iload_n 2, 1) := by decide +kernel
theorem dX7_countAt_24 : decode cX7_countAt 24 = .ok (.iaload, 1) := by decide +kernel
theorem dX7_countAt_25 : decode cX7_countAt 25 = .ok (.goto 4, 3) := by decide +kernel
theorem dX7_countAt_28 : decode cX7_countAt 28 = .ok (.iconst 0, 1) := by decide +kernel
theorem dX7_countAt_29 : decode cX7_countAt 29 = .ok (.ireturn, 1) := by decide +kernel
theorem dX7_fewestHeads_0 : decode cX7_fewestHeads 0 = .ok (.iconst 0, 1) := by decide +kernel
theorem dX7_fewestHeads_1 : decode cX7_fewestHeads 1 = .ok (.istore 4, 2) := by decide +kernel
theorem dX7_fewestHeads_3 : decode cX7_fewestHeads 3 = .ok (.iload 4, 2) := by decide +kernel
theorem dX7_fewestHeads_5 : decode cX7_fewestHeads 5 = .ok (.aload_n 1, 1) := by decide +kernel
theorem dX7_fewestHeads_6 : decode cX7_fewestHeads 6 = .ok (.getfield 28, 3) := by decide +kernel
theorem dX7_fewestHeads_9 : decode cX7_fewestHeads 9 = .ok (.if_icmp .ge 29, 3) := by decide +kernel
theorem dX7_fewestHeads_12 : decode cX7_fewestHeads 12 = .ok (.aload_n 0, 1) := by decide +kernel
theorem dX7_fewestHeads_13 : decode cX7_fewestHeads 13 = .ok (.iload_n 3, 1) := by decide +kernel
theorem dX7_fewestHeads_14 : decode cX7_fewestHeads 14 = .ok (.iload 4, 2) := by decide +kernel
theorem dX7_fewestHeads_16 : decode cX7_fewestHeads 16 = .ok (.aload_n 1, 1) := by decide +kernel
theorem dX7_fewestHeads_17 : decode cX7_fewestHeads 17 = .ok (.iload_n 2, 1) := by decide +kernel
theorem dX7_fewestHeads_18 : decode cX7_fewestHeads 18 = .ok (.invokevirtual 53, 3) := by decide +kernel
theorem dX7_fewestHeads_21 : decode cX7_fewestHeads 21 = .ok (.imul, 1) := by decide +kernel
theorem dX7_fewestHeads_22 : decode cX7_fewestHeads 22 = .ok (.isub, 1) := by decide +kernel
theorem dX7_fewestHeads_23 : decode cX7_fewestHeads 23 = .ok (.invokevirtual 57, 3) := by decide +kernel
theorem dX7_fewestHeads_26 : decode cX7_fewestHeads 26 = .ok (.ifCond .le 6, 3) := by decide +kernel
theorem dX7_fewestHeads_29 : decode cX7_fewestHeads 29 = .ok (.iload 4, 2) := by decide +kernel
theorem dX7_fewestHeads_31 : decode cX7_fewestHeads 31 = .ok (.ireturn, 1) := by decide +kernel
theorem dX7_fewestHeads_32 : decode cX7_fewestHeads 32 = .ok (.iinc 4 1, 3) := by decide +kernel
theorem dX7_fewestHeads_35 : decode cX7_fewestHeads 35 = .ok (.goto (-32), 3) := by decide +kernel
theorem dX7_fewestHeads_38 : decode cX7_fewestHeads 38 = .ok (.iconst (-1), 1) := by decide +kernel
theorem dX7_fewestHeads_39 : decode cX7_fewestHeads 39 = .ok (.ireturn, 1) := by decide +kernel
theorem dX7_mostHeads_0 : decode cX7_mostHeads 0 = .ok (.aload_n 1, 1) := by decide +kernel
theorem dX7_mostHeads_1 : decode cX7_mostHeads 1 = .ok (.getfield 28, 3) := by decide +kernel
theorem dX7_mostHeads_4 : decode cX7_mostHeads 4 = .ok (.iconst 1, 1) := by decide +kernel
theorem dX7_mostHeads_5 : decode cX7_mostHeads 5 = .ok (.isub, 1) := by decide +kernel
theorem dX7_mostHeads_6 : decode cX7_mostHeads 6 = .ok (.istore 4, 2) := by decide +kernel
theorem dX7_mostHeads_8 : decode cX7_mostHeads 8 = .ok (.iload 4, 2) := by decide +kernel
theorem dX7_mostHeads_10 : decode cX7_mostHeads 10 = .ok (.ifCond .lt 29, 3) := by decide +kernel
theorem dX7_mostHeads_13 : decode cX7_mostHeads 13 = .ok (.aload_n 0, 1) := by decide +kernel
theorem dX7_mostHeads_14 : decode cX7_mostHeads 14 = .ok (.iload_n 3, 1) := by decide +kernel
theorem dX7_mostHeads_15 : decode cX7_mostHeads 15 = .ok (.iload 4, 2) := by decide +kernel
theorem dX7_mostHeads_17 : decode cX7_mostHeads 17 = .ok (.aload_n 1, 1) := by decide +kernel
theorem dX7_mostHeads_18 : decode cX7_mostHeads 18 = .ok (.iload_n 2, 1) := by decide +kernel
theorem dX7_mostHeads_19 : decode cX7_mostHeads 19 = .ok (.invokevirtual 53, 3) := by decide +kernel
theorem dX7_mostHeads_22 : decode cX7_mostHeads 22 = .ok (.imul, 1) := by decide +kernel
theorem dX7_mostHeads_23 : decode cX7_mostHeads 23 = .ok (.isub, 1) := by decide +kernel
theorem dX7_mostHeads_24 : decode cX7_mostHeads 24 = .ok (.invokevirtual 57, 3) := by decide +kernel
theorem dX7_mostHeads_27 : decode cX7_mostHeads 27 = .ok (.ifCond .le 6, 3) := by decide +kernel
theorem dX7_mostHeads_30 : decode cX7_mostHeads 30 = .ok (.iload 4, 2) := by decide +kernel
theorem dX7_mostHeads_32 : decode cX7_mostHeads 32 = .ok (.ireturn, 1) := by decide +kernel
theorem dX7_mostHeads_33 : decode cX7_mostHeads 33 = .ok (.iinc 4 (-1), 3) := by decide +kernel
theorem dX7_mostHeads_36 : decode cX7_mostHeads 36 = .ok (.goto (-28), 3) := by decide +kernel
theorem dX7_mostHeads_39 : decode cX7_mostHeads 39 = .ok (.iconst (-1), 1) := by decide +kernel
theorem dX7_mostHeads_40 : decode cX7_mostHeads 40 = .ok (.ireturn, 1) := by decide +kernel
theorem dX8_init_0 : decode cX8_init 0 = .ok (.aload_n 0, 1) := by decide +kernel
theorem dX8_init_1 : decode cX8_init 1 = .ok (.invokespecial 3, 3) := by decide +kernel
theorem dX8_init_4 : decode cX8_init 4 = .ok (.aload_n 0, 1) := by decide +kernel
theorem dX8_init_5 : decode cX8_init 5 = .ok (.new 9, 3) := by decide +kernel
theorem dX8_init_8 : decode cX8_init 8 = .ok (.dup, 1) := by decide +kernel
theorem dX8_init_9 : decode cX8_init 9 = .ok (.invokespecial 11, 3) := by decide +kernel
theorem dX8_init_12 : decode cX8_init 12 = .ok (.putfield 12, 3) := by decide +kernel
theorem dX8_init_15 : decode cX8_init 15 = .ok (.aload_n 0, 1) := by decide +kernel
theorem dX8_init_16 : decode cX8_init 16 = .ok (.new 16, 3) := by decide +kernel
theorem dX8_init_19 : decode cX8_init 19 = .ok (.dup, 1) := by decide +kernel
theorem dX8_init_20 : decode cX8_init 20 = .ok (.invokespecial 18, 3) := by decide +kernel
theorem dX8_init_23 : decode cX8_init 23 = .ok (.putfield 19, 3) := by decide +kernel
theorem dX8_init_26 : decode cX8_init 26 = .ok (.aload_n 0, 1) := by decide +kernel
theorem dX8_init_27 : decode cX8_init 27 = .ok (.new 16, 3) := by decide +kernel
theorem dX8_init_30 : decode cX8_init 30 = .ok (.dup, 1) := by decide +kernel
theorem dX8_init_31 : decode cX8_init 31 = .ok (.invokespecial 18, 3) := by decide +kernel
theorem dX8_init_34 : decode cX8_init 34 = .ok (.putfield 23, 3) := by decide +kernel
theorem dX8_init_37 : decode cX8_init 37 = .ok (.aload_n 0, 1) := by decide +kernel
theorem dX8_init_38 : decode cX8_init 38 = .ok (.new 26, 3) := by decide +kernel
theorem dX8_init_41 : decode cX8_init 41 = .ok (.dup, 1) := by decide +kernel
theorem dX8_init_42 : decode cX8_init 42 = .ok (.invokespecial 28, 3) := by decide +kernel
theorem dX8_init_45 : decode cX8_init 45 = .ok (.putfield 29, 3) := by decide +kernel
theorem dX8_init_48 : decode cX8_init 48 = .ok (.aload_n 0, 1) := by decide +kernel
theorem dX8_init_49 : decode cX8_init 49 = .ok (.new 26, 3) := by decide +kernel
theorem dX8_init_52 : decode cX8_init 52 = .ok (.dup, 1) := by decide +kernel
theorem dX8_init_53 : decode cX8_init 53 = .ok (.invokespecial 28, 3) := by decide +kernel
theorem dX8_init_56 : decode cX8_init 56 = .ok (.putfield 33, 3) := by decide +kernel
theorem dX8_init_59 : decode cX8_init 59 = .ok (.aload_n 0, 1) := by decide +kernel
theorem dX8_init_60 : decode cX8_init 60 = .ok (.iconst 2, 1) := by decide +kernel
theorem dX8_init_61 : decode cX8_init 61 = .ok (.anewarray 26, 3) := by decide +kernel
theorem dX8_init_64 : decode cX8_init 64 = .ok (.dup, 1) := by decide +kernel
theorem dX8_init_65 : decode cX8_init 65 = .ok (.iconst 0, 1) := by decide +kernel
theorem dX8_init_66 : decode cX8_init 66 = .ok (.new 26, 3) := by decide +kernel
theorem dX8_init_69 : decode cX8_init 69 = .ok (.dup, 1) := by decide +kernel
theorem dX8_init_70 : decode cX8_init 70 = .ok (.invokespecial 28, 3) := by decide +kernel
theorem dX8_init_73 : decode cX8_init 73 = .ok (.aastore, 1) := by decide +kernel
theorem dX8_init_74 : decode cX8_init 74 = .ok (.dup, 1) := by decide +kernel
theorem dX8_init_75 : decode cX8_init 75 = .ok (.iconst 1, 1) := by decide +kernel
theorem dX8_init_76 : decode cX8_init 76 = .ok (.new 26, 3) := by decide +kernel
theorem dX8_init_79 : decode cX8_init 79 = .ok (.dup, 1) := by decide +kernel
theorem dX8_init_80 : decode cX8_init 80 = .ok (.invokespecial 28, 3) := by decide +kernel
theorem dX8_init_83 : decode cX8_init 83 = .ok (.aastore, 1) := by decide +kernel
theorem dX8_init_84 : decode cX8_init 84 = .ok (.putfield 36, 3) := by decide +kernel
theorem dX8_init_87 : decode cX8_init 87 = .ok (.aload_n 0, 1) := by decide +kernel
theorem dX8_init_88 : decode cX8_init 88 = .ok (.new 40, 3) := by decide +kernel
theorem dX8_init_91 : decode cX8_init 91 = .ok (.dup, 1) := by decide +kernel
theorem dX8_init_92 : decode cX8_init 92 = .ok (.invokespecial 42, 3) := by decide +kernel
theorem dX8_init_95 : decode cX8_init 95 = .ok (.putfield 43, 3) := by decide +kernel
theorem dX8_init_98 : decode cX8_init 98 = .ok (.aload_n 0, 1) := by decide +kernel
theorem dX8_init_99 : decode cX8_init 99 = .ok (.new 47, 3) := by decide +kernel
theorem dX8_init_102 : decode cX8_init 102 = .ok (.dup, 1) := by decide +kernel
theorem dX8_init_103 : decode cX8_init 103 = .ok (.invokespecial 49, 3) := by decide +kernel
theorem dX8_init_106 : decode cX8_init 106 = .ok (.putfield 50, 3) := by decide +kernel
theorem dX8_init_109 : decode cX8_init 109 = .ok (.aload_n 0, 1) := by decide +kernel
theorem dX8_init_110 : decode cX8_init 110 = .ok (.new 54, 3) := by decide +kernel
theorem dX8_init_113 : decode cX8_init 113 = .ok (.dup, 1) := by decide +kernel
theorem dX8_init_114 : decode cX8_init 114 = .ok (.invokespecial 56, 3) := by decide +kernel
theorem dX8_init_117 : decode cX8_init 117 = .ok (.putfield 57, 3) := by decide +kernel
theorem dX8_init_120 : decode cX8_init 120 = .ok (.aload_n 0, 1) := by decide +kernel
theorem dX8_init_121 : decode cX8_init 121 = .ok (.new 61, 3) := by decide +kernel
theorem dX8_init_124 : decode cX8_init 124 = .ok (.dup, 1) := by decide +kernel
theorem dX8_init_125 : decode cX8_init 125 = .ok (.invokespecial 63, 3) := by decide +kernel
theorem dX8_init_128 : decode cX8_init 128 = .ok (.putfield 64, 3) := by decide +kernel
theorem dX8_init_131 : decode cX8_init 131 = .ok (.aload_n 0, 1) := by decide +kernel
theorem dX8_init_132 : decode cX8_init 132 = .ok (.new 68, 3) := by decide +kernel
theorem dX8_init_135 : decode cX8_init 135 = .ok (.dup, 1) := by decide +kernel
theorem dX8_init_136 : decode cX8_init 136 = .ok (.invokespecial 70, 3) := by decide +kernel
theorem dX8_init_139 : decode cX8_init 139 = .ok (.putfield 71, 3) := by decide +kernel
theorem dX8_init_142 : decode cX8_init 142 = .ok (.return_, 1) := by decide +kernel
theorem dX8_feed_0 : decode cX8_feed 0 = .ok (.iload_n 1, 1) := by decide +kernel
theorem dX8_feed_1 : decode cX8_feed 1 = .ok (.ifCond .lt 10, 3) := by decide +kernel
theorem dX8_feed_4 : decode cX8_feed 4 = .ok (.iload_n 1, 1) := by decide +kernel
theorem dX8_feed_5 : decode cX8_feed 5 = .ok (.sipush 255, 3) := by decide +kernel
theorem dX8_feed_8 : decode cX8_feed 8 = .ok (.if_icmp .le 6, 3) := by decide +kernel
theorem dX8_feed_11 : decode cX8_feed 11 = .ok (.ldc 75, 2) := by decide +kernel
theorem dX8_feed_13 : decode cX8_feed 13 = .ok (.ireturn, 1) := by decide +kernel
theorem dX8_feed_14 : decode cX8_feed 14 = .ok (.aload_n 0, 1) := by decide +kernel
theorem dX8_feed_15 : decode cX8_feed 15 = .ok (.getfield 12, 3) := by decide +kernel
theorem dX8_feed_18 : decode cX8_feed 18 = .ok (.iload_n 1, 1) := by decide +kernel
theorem dX8_feed_19 : decode cX8_feed 19 = .ok (.invokevirtual 76, 3) := by decide +kernel
theorem dX8_feed_22 : decode cX8_feed 22 = .ok (.ireturn, 1) := by decide +kernel
theorem dX8_land_0 : decode cX8_land 0 = .ok (.aload_n 0, 1) := by decide +kernel
theorem dX8_land_1 : decode cX8_land 1 = .ok (.getfield 12, 3) := by decide +kernel
theorem dX8_land_4 : decode cX8_land 4 = .ok (.aload_n 0, 1) := by decide +kernel
theorem dX8_land_5 : decode cX8_land 5 = .ok (.getfield 23, 3) := by decide +kernel
theorem dX8_land_8 : decode cX8_land 8 = .ok (.invokevirtual 80, 3) := by decide +kernel
theorem dX8_land_11 : decode cX8_land 11 = .ok (.istore_n 1, 1) := by decide +kernel
theorem dX8_land_12 : decode cX8_land 12 = .ok (.aload_n 0, 1) := by decide +kernel
theorem dX8_land_13 : decode cX8_land 13 = .ok (.getfield 12, 3) := by decide +kernel
theorem dX8_land_16 : decode cX8_land 16 = .ok (.iconst 0, 1) := by decide +kernel
theorem dX8_land_17 : decode cX8_land 17 = .ok (.putfield 84, 3) := by decide +kernel
theorem dX8_land_20 : decode cX8_land 20 = .ok (.iload_n 1, 1) := by decide +kernel
theorem dX8_land_21 : decode cX8_land 21 = .ok (.ifCond .eq 8, 3) := by decide +kernel
theorem dX8_land_24 : decode cX8_land 24 = .ok (.bipush (-10), 2) := by decide +kernel
theorem dX8_land_26 : decode cX8_land 26 = .ok (.iload_n 1, 1) := by decide +kernel
theorem dX8_land_27 : decode cX8_land 27 = .ok (.isub, 1) := by decide +kernel
theorem dX8_land_28 : decode cX8_land 28 = .ok (.ireturn, 1) := by decide +kernel
theorem dX8_land_29 : decode cX8_land 29 = .ok (.aload_n 0, 1) := by decide +kernel
theorem dX8_land_30 : decode cX8_land 30 = .ok (.getfield 19, 3) := by decide +kernel
theorem dX8_land_33 : decode cX8_land 33 = .ok (.astore_n 2, 1) := by decide +kernel
theorem dX8_land_34 : decode cX8_land 34 = .ok (.aload_n 0, 1) := by decide +kernel
theorem dX8_land_35 : decode cX8_land 35 = .ok (.aload_n 0, 1) := by decide +kernel
theorem dX8_land_36 : decode cX8_land 36 = .ok (.getfield 23, 3) := by decide +kernel
theorem dX8_land_39 : decode cX8_land 39 = .ok (.putfield 19, 3) := by decide +kernel
theorem dX8_land_42 : decode cX8_land 42 = .ok (.aload_n 0, 1) := by decide +kernel
theorem dX8_land_43 : decode cX8_land 43 = .ok (.aload_n 2, 1) := by decide +kernel
theorem dX8_land_44 : decode cX8_land 44 = .ok (.putfield 23, 3) := by decide +kernel
theorem dX8_land_47 : decode cX8_land 47 = .ok (.aload_n 0, 1) := by decide +kernel
theorem dX8_land_48 : decode cX8_land 48 = .ok (.getfield 29, 3) := by decide +kernel
theorem dX8_land_51 : decode cX8_land 51 = .ok (.aload_n 0, 1) := by decide +kernel
theorem dX8_land_52 : decode cX8_land 52 = .ok (.getfield 19, 3) := by decide +kernel
theorem dX8_land_55 : decode cX8_land 55 = .ok (.invokevirtual 88, 3) := by decide +kernel
theorem dX8_land_58 : decode cX8_land 58 = .ok (.aload_n 0, 1) := by decide +kernel
theorem dX8_land_59 : decode cX8_land 59 = .ok (.getfield 43, 3) := by decide +kernel
theorem dX8_land_62 : decode cX8_land 62 = .ok (.iconst 0, 1) := by decide +kernel
theorem dX8_land_63 : decode cX8_land 63 = .ok (.putfield 92, 3) := by decide +kernel
theorem dX8_land_66 : decode cX8_land 66 = .ok (.aload_n 0, 1) := by decide +kernel
theorem dX8_land_67 : decode cX8_land 67 = .ok (.iconst 0, 1) := by decide +kernel
theorem dX8_land_68 : decode cX8_land 68 = .ok (.putfield 95, 3) := by decide +kernel
theorem dX8_land_71 : decode cX8_land 71 = .ok (.aload_n 0, 1) := by decide +kernel
theorem dX8_land_72 : decode cX8_land 72 = .ok (.getfield 19, 3) := by decide +kernel
theorem dX8_land_75 : decode cX8_land 75 = .ok (.getfield 98, 3) := by decide +kernel
theorem dX8_land_78 : decode cX8_land 78 = .ok (.ireturn, 1) := by decide +kernel
theorem dX8_fault_0 : decode cX8_fault 0 = .ok (.aload_n 0, 1) := by decide +kernel
theorem dX8_fault_1 : decode cX8_fault 1 = .ok (.getfield 12, 3) := by decide +kernel
theorem dX8_fault_4 : decode cX8_fault 4 = .ok (.getfield 101, 3) := by decide +kernel
theorem dX8_fault_7 : decode cX8_fault 7 = .ok (.ireturn, 1) := by decide +kernel
theorem dX8_told_0 : decode cX8_told 0 = .ok (.iload_n 1, 1) := by decide +kernel
theorem dX8_told_1 : decode cX8_told 1 = .ok (.tableswitch 139 0 9 #[55, 63, 71, 79, 87, 95, 103, 111, 119, 131], 55) := by decide +kernel
theorem dX8_told_56 : decode cX8_told 56 = .ok (.aload_n 0, 1) := by decide +kernel
theorem dX8_told_57 : decode cX8_told 57 = .ok (.getfield 19, 3) := by decide +kernel
theorem dX8_told_60 : decode cX8_told 60 = .ok (.getfield 98, 3) := by decide +kernel
theorem dX8_told_63 : decode cX8_told 63 = .ok (.ireturn, 1) := by decide +kernel
theorem dX8_told_64 : decode cX8_told 64 = .ok (.aload_n 0, 1) := by decide +kernel
theorem dX8_told_65 : decode cX8_told 65 = .ok (.getfield 19, 3) := by decide +kernel
theorem dX8_told_68 : decode cX8_told 68 = .ok (.getfield 104, 3) := by decide +kernel
theorem dX8_told_71 : decode cX8_told 71 = .ok (.ireturn, 1) := by decide +kernel
theorem dX8_told_72 : decode cX8_told 72 = .ok (.aload_n 0, 1) := by decide +kernel
theorem dX8_told_73 : decode cX8_told 73 = .ok (.getfield 19, 3) := by decide +kernel
theorem dX8_told_76 : decode cX8_told 76 = .ok (.getfield 107, 3) := by decide +kernel
theorem dX8_told_79 : decode cX8_told 79 = .ok (.ireturn, 1) := by decide +kernel
theorem dX8_told_80 : decode cX8_told 80 = .ok (.aload_n 0, 1) := by decide +kernel
theorem dX8_told_81 : decode cX8_told 81 = .ok (.getfield 19, 3) := by decide +kernel
theorem dX8_told_84 : decode cX8_told 84 = .ok (.getfield 110, 3) := by decide +kernel
theorem dX8_told_87 : decode cX8_told 87 = .ok (.ireturn, 1) := by decide +kernel
theorem dX8_told_88 : decode cX8_told 88 = .ok (.aload_n 0, 1) := by decide +kernel
theorem dX8_told_89 : decode cX8_told 89 = .ok (.getfield 19, 3) := by decide +kernel
theorem dX8_told_92 : decode cX8_told 92 = .ok (.getfield 113, 3) := by decide +kernel
theorem dX8_told_95 : decode cX8_told 95 = .ok (.ireturn, 1) := by decide +kernel
theorem dX8_told_96 : decode cX8_told 96 = .ok (.aload_n 0, 1) := by decide +kernel
theorem dX8_told_97 : decode cX8_told 97 = .ok (.getfield 12, 3) := by decide +kernel
theorem dX8_told_100 : decode cX8_told 100 = .ok (.getfield 84, 3) := by decide +kernel
theorem dX8_told_103 : decode cX8_told 103 = .ok (.ireturn, 1) := by decide +kernel
theorem dX8_told_104 : decode cX8_told 104 = .ok (.aload_n 0, 1) := by decide +kernel
theorem dX8_told_105 : decode cX8_told 105 = .ok (.getfield 29, 3) := by decide +kernel
theorem dX8_told_108 : decode cX8_told 108 = .ok (.getfield 116, 3) := by decide +kernel
theorem dX8_told_111 : decode cX8_told 111 = .ok (.ireturn, 1) := by decide +kernel
theorem dX8_told_112 : decode cX8_told 112 = .ok (.aload_n 0, 1) := by decide +kernel
theorem dX8_told_113 : decode cX8_told 113 = .ok (.getfield 19, 3) := by decide +kernel
theorem dX8_told_116 : decode cX8_told 116 = .ok (.getfield 119, 3) := by decide +kernel
theorem dX8_told_119 : decode cX8_told 119 = .ok (.ireturn, 1) := by decide +kernel
theorem dX8_told_120 : decode cX8_told 120 = .ok (.aload_n 0, 1) := by decide +kernel
theorem dX8_told_121 : decode cX8_told 121 = .ok (.getfield 29, 3) := by decide +kernel
theorem dX8_told_124 : decode cX8_told 124 = .ok (.aload_n 0, 1) := by decide +kernel
theorem dX8_told_125 : decode cX8_told 125 = .ok (.getfield 19, 3) := by decide +kernel
theorem dX8_told_128 : decode cX8_told 128 = .ok (.invokevirtual 122, 3) := by decide +kernel
theorem dX8_told_131 : decode cX8_told 131 = .ok (.ireturn, 1) := by decide +kernel
theorem dX8_told_132 : decode cX8_told 132 = .ok (.aload_n 0, 1) := by decide +kernel
theorem dX8_told_133 : decode cX8_told 133 = .ok (.getfield 43, 3) := by decide +kernel
theorem dX8_told_136 : decode cX8_told 136 = .ok (.getfield 92, 3) := by decide +kernel
theorem dX8_told_139 : decode cX8_told 139 = .ok (.ireturn, 1) := by decide +kernel
theorem dX8_told_140 : decode cX8_told 140 = .ok (.ldc 75, 2) := by decide +kernel
theorem dX8_told_142 : decode cX8_told 142 = .ok (.ireturn, 1) := by decide +kernel
theorem dX8_fact_0 : decode cX8_fact 0 = .ok (.aload_n 0, 1) := by decide +kernel
theorem dX8_fact_1 : decode cX8_fact 1 = .ok (.getfield 19, 3) := by decide +kernel
theorem dX8_fact_4 : decode cX8_fact 4 = .ok (.iload_n 1, 1) := by decide +kernel
theorem dX8_fact_5 : decode cX8_fact 5 = .ok (.invokevirtual 125, 3) := by decide +kernel
theorem dX8_fact_8 : decode cX8_fact 8 = .ok (.ifCond .ne 6, 3) := by decide +kernel
theorem dX8_fact_11 : decode cX8_fact 11 = .ok (.ldc 129, 2) := by decide +kernel
theorem dX8_fact_13 : decode cX8_fact 13 = .ok (.ireturn, 1) := by decide +kernel
theorem dX8_fact_14 : decode cX8_fact 14 = .ok (.iload_n 2, 1) := by decide +kernel
theorem dX8_fact_15 : decode cX8_fact 15 = .ok (.tableswitch 93 0 4 #[33, 43, 53, 70, 80], 33) := by decide +kernel
theorem dX8_fact_48 : decode cX8_fact 48 = .ok (.aload_n 0, 1) := by decide +kernel
theorem dX8_fact_49 : decode cX8_fact 49 = .ok (.getfield 19, 3) := by decide +kernel
theorem dX8_fact_52 : decode cX8_fact 52 = .ok (.getfield 130, 3) := by decide +kernel
theorem dX8_fact_55 : decode cX8_fact 55 = .ok (.iload_n 1, 1) := by decide +kernel
theorem dX8_fact_56 : decode cX8_fact 56 = .ok (.iaload, 1) := by decide +kernel
theorem dX8_fact_57 : decode cX8_fact 57 = .ok (.ireturn, 1) := by decide +kernel
theorem dX8_fact_58 : decode cX8_fact 58 = .ok (.aload_n 0, 1) := by decide +kernel
theorem dX8_fact_59 : decode cX8_fact 59 = .ok (.getfield 19, 3) := by decide +kernel
theorem dX8_fact_62 : decode cX8_fact 62 = .ok (.getfield 134, 3) := by decide +kernel
theorem dX8_fact_65 : decode cX8_fact 65 = .ok (.iload_n 1, 1) := by decide +kernel
theorem dX8_fact_66 : decode cX8_fact 66 = .ok (.iaload, 1) := by decide +kernel
theorem dX8_fact_67 : decode cX8_fact 67 = .ok (.ireturn, 1) := by decide +kernel
theorem dX8_fact_68 : decode cX8_fact 68 = .ok (.aload_n 0, 1) := by decide +kernel
theorem dX8_fact_69 : decode cX8_fact 69 = .ok (.getfield 19, 3) := by decide +kernel
theorem dX8_fact_72 : decode cX8_fact 72 = .ok (.iload_n 1, 1) := by decide +kernel
theorem dX8_fact_73 : decode cX8_fact 73 = .ok (.invokevirtual 137, 3) := by decide +kernel
theorem dX8_fact_76 : decode cX8_fact 76 = .ok (.ifCond .eq 7, 3) := by decide +kernel
theorem dX8_fact_79 : decode cX8_fact 79 = .ok (.iconst 1, 1) := by decide +kernel
theorem dX8_fact_80 : decode cX8_fact 80 = .ok (.goto 4, 3) := by decide +kernel
theorem dX8_fact_83 : decode cX8_fact 83 = .ok (.iconst 0, 1) := by decide +kernel
theorem dX8_fact_84 : decode cX8_fact 84 = .ok (.ireturn, 1) := by decide +kernel
theorem dX8_fact_85 : decode cX8_fact 85 = .ok (.aload_n 0, 1) := by decide +kernel
theorem dX8_fact_86 : decode cX8_fact 86 = .ok (.getfield 29, 3) := by decide +kernel
theorem dX8_fact_89 : decode cX8_fact 89 = .ok (.getfield 140, 3) := by decide +kernel
theorem dX8_fact_92 : decode cX8_fact 92 = .ok (.iload_n 1, 1) := by decide +kernel
theorem dX8_fact_93 : decode cX8_fact 93 = .ok (.iaload, 1) := by decide +kernel
theorem dX8_fact_94 : decode cX8_fact 94 = .ok (.ireturn, 1) := by decide +kernel
theorem dX8_fact_95 : decode cX8_fact 95 = .ok (.aload_n 0, 1) := by decide +kernel
theorem dX8_fact_96 : decode cX8_fact 96 = .ok (.getfield 29, 3) := by decide +kernel
theorem dX8_fact_99 : decode cX8_fact 99 = .ok (.aload_n 0, 1) := by decide +kernel
theorem dX8_fact_100 : decode cX8_fact 100 = .ok (.getfield 19, 3) := by decide +kernel
theorem dX8_fact_103 : decode cX8_fact 103 = .ok (.iload_n 1, 1) := by decide +kernel
theorem dX8_fact_104 : decode cX8_fact 104 = .ok (.invokevirtual 143, 3) := by decide +kernel
theorem dX8_fact_107 : decode cX8_fact 107 = .ok (.ireturn, 1) := by decide +kernel
theorem dX8_fact_108 : decode cX8_fact 108 = .ok (.ldc 75, 2) := by decide +kernel
theorem dX8_fact_110 : decode cX8_fact 110 = .ok (.ireturn, 1) := by decide +kernel
theorem dX8_person_0 : decode cX8_person 0 = .ok (.aload_n 0, 1) := by decide +kernel
theorem dX8_person_1 : decode cX8_person 1 = .ok (.getfield 19, 3) := by decide +kernel
theorem dX8_person_4 : decode cX8_person 4 = .ok (.iload_n 1, 1) := by decide +kernel
theorem dX8_person_5 : decode cX8_person 5 = .ok (.invokevirtual 147, 3) := by decide +kernel
theorem dX8_person_8 : decode cX8_person 8 = .ok (.ifCond .ne 6, 3) := by decide +kernel
theorem dX8_person_11 : decode cX8_person 11 = .ok (.ldc 129, 2) := by decide +kernel
theorem dX8_person_13 : decode cX8_person 13 = .ok (.ireturn, 1) := by decide +kernel
theorem dX8_person_14 : decode cX8_person 14 = .ok (.iload_n 2, 1) := by decide +kernel
theorem dX8_person_15 : decode cX8_person 15 = .ok (.tableswitch 75 0 3 #[29, 39, 49, 58], 29) := by decide +kernel
theorem dX8_person_44 : decode cX8_person 44 = .ok (.aload_n 0, 1) := by decide +kernel
theorem dX8_person_45 : decode cX8_person 45 = .ok (.getfield 19, 3) := by decide +kernel
theorem dX8_person_48 : decode cX8_person 48 = .ok (.getfield 150, 3) := by decide +kernel
theorem dX8_person_51 : decode cX8_person 51 = .ok (.iload_n 1, 1) := by decide +kernel
theorem dX8_person_52 : decode cX8_person 52 = .ok (.iaload, 1) := by decide +kernel
theorem dX8_person_53 : decode cX8_person 53 = .ok (.ireturn, 1) := by decide +kernel
theorem dX8_person_54 : decode cX8_person 54 = .ok (.aload_n 0, 1) := by decide +kernel
theorem dX8_person_55 : decode cX8_person 55 = .ok (.getfield 19, 3) := by decide +kernel
theorem dX8_person_58 : decode cX8_person 58 = .ok (.getfield 153, 3) := by decide +kernel
theorem dX8_person_61 : decode cX8_person 61 = .ok (.iload_n 1, 1) := by decide +kernel
theorem dX8_person_62 : decode cX8_person 62 = .ok (.iaload, 1) := by decide +kernel
theorem dX8_person_63 : decode cX8_person 63 = .ok (.ireturn, 1) := by decide +kernel
theorem dX8_person_64 : decode cX8_person 64 = .ok (.aload_n 0, 1) := by decide +kernel
theorem dX8_person_65 : decode cX8_person 65 = .ok (.getfield 29, 3) := by decide +kernel
theorem dX8_person_68 : decode cX8_person 68 = .ok (.iload_n 1, 1) := by decide +kernel
theorem dX8_person_69 : decode cX8_person 69 = .ok (.invokevirtual 156, 3) := by decide +kernel
theorem dX8_person_72 : decode cX8_person 72 = .ok (.ireturn, 1) := by decide +kernel
theorem dX8_person_73 : decode cX8_person 73 = .ok (.aload_n 0, 1) := by decide +kernel
theorem dX8_person_74 : decode cX8_person 74 = .ok (.getfield 19, 3) := by decide +kernel
theorem dX8_person_77 : decode cX8_person 77 = .ok (.iload_n 1, 1) := by decide +kernel
theorem dX8_person_78 : decode cX8_person 78 = .ok (.invokevirtual 159, 3) := by decide +kernel
theorem dX8_person_81 : decode cX8_person 81 = .ok (.ifCond .eq 7, 3) := by decide +kernel
theorem dX8_person_84 : decode cX8_person 84 = .ok (.iconst 1, 1) := by decide +kernel
theorem dX8_person_85 : decode cX8_person 85 = .ok (.goto 4, 3) := by decide +kernel
theorem dX8_person_88 : decode cX8_person 88 = .ok (.iconst 0, 1) := by decide +kernel
theorem dX8_person_89 : decode cX8_person 89 = .ok (.ireturn, 1) := by decide +kernel
theorem dX8_person_90 : decode cX8_person 90 = .ok (.ldc 75, 2) := by decide +kernel
theorem dX8_person_92 : decode cX8_person 92 = .ok (.ireturn, 1) := by decide +kernel
theorem dX8_since_0 : decode cX8_since 0 = .ok (.aload_n 0, 1) := by decide +kernel
theorem dX8_since_1 : decode cX8_since 1 = .ok (.getfield 19, 3) := by decide +kernel
theorem dX8_since_4 : decode cX8_since 4 = .ok (.iload_n 1, 1) := by decide +kernel
theorem dX8_since_5 : decode cX8_since 5 = .ok (.invokevirtual 147, 3) := by decide +kernel
theorem dX8_since_8 : decode cX8_since 8 = .ok (.ifCond .eq 14, 3) := by decide +kernel
theorem dX8_since_11 : decode cX8_since 11 = .ok (.aload_n 0, 1) := by decide +kernel
theorem dX8_since_12 : decode cX8_since 12 = .ok (.getfield 19, 3) := by decide +kernel
theorem dX8_since_15 : decode cX8_since 15 = .ok (.iload_n 2, 1) := by decide +kernel
theorem dX8_since_16 : decode cX8_since 16 = .ok (.invokevirtual 125, 3) := by decide +kernel
theorem dX8_since_19 : decode cX8_since 19 = .ok (.ifCond .ne 6, 3) := by decide +kernel
theorem dX8_since_22 : decode cX8_since 22 = .ok (.ldc 129, 2) := by decide +kernel
theorem dX8_since_24 : decode cX8_since 24 = .ok (.ireturn, 1) := by decide +kernel
theorem dX8_since_25 : decode cX8_since 25 = .ok (.aload_n 0, 1) := by decide +kernel
theorem dX8_since_26 : decode cX8_since 26 = .ok (.getfield 29, 3) := by decide +kernel
theorem dX8_since_29 : decode cX8_since 29 = .ok (.iload_n 1, 1) := by decide +kernel
theorem dX8_since_30 : decode cX8_since 30 = .ok (.iload_n 2, 1) := by decide +kernel
theorem dX8_since_31 : decode cX8_since 31 = .ok (.invokevirtual 162, 3) := by decide +kernel
theorem dX8_since_34 : decode cX8_since 34 = .ok (.ifCond .eq 15, 3) := by decide +kernel
theorem dX8_since_37 : decode cX8_since 37 = .ok (.aload_n 0, 1) := by decide +kernel
theorem dX8_since_38 : decode cX8_since 38 = .ok (.getfield 29, 3) := by decide +kernel
theorem dX8_since_41 : decode cX8_since 41 = .ok (.iload_n 1, 1) := by decide +kernel
theorem dX8_since_42 : decode cX8_since 42 = .ok (.iload_n 2, 1) := by decide +kernel
theorem dX8_since_43 : decode cX8_since 43 = .ok (.invokevirtual 166, 3) := by decide +kernel
theorem dX8_since_46 : decode cX8_since 46 = .ok (.goto 4, 3) := by decide +kernel
theorem dX8_since_49 : decode cX8_since 49 = .ok (.iconst (-1), 1) := by decide +kernel
theorem dX8_since_50 : decode cX8_since 50 = .ok (.ireturn, 1) := by decide +kernel
theorem dX8_weight_0 : decode cX8_weight 0 = .ok (.aload_n 0, 1) := by decide +kernel
theorem dX8_weight_1 : decode cX8_weight 1 = .ok (.getfield 19, 3) := by decide +kernel
theorem dX8_weight_4 : decode cX8_weight 4 = .ok (.iload_n 1, 1) := by decide +kernel
theorem dX8_weight_5 : decode cX8_weight 5 = .ok (.invokevirtual 147, 3) := by decide +kernel
theorem dX8_weight_8 : decode cX8_weight 8 = .ok (.ifCond .eq 18, 3) := by decide +kernel
theorem dX8_weight_11 : decode cX8_weight 11 = .ok (.aload_n 0, 1) := by decide +kernel
theorem dX8_weight_12 : decode cX8_weight 12 = .ok (.getfield 29, 3) := by decide +kernel
theorem dX8_weight_15 : decode cX8_weight 15 = .ok (.aload_n 0, 1) := by decide +kernel
theorem dX8_weight_16 : decode cX8_weight 16 = .ok (.getfield 19, 3) := by decide +kernel
theorem dX8_weight_19 : decode cX8_weight 19 = .ok (.iload_n 1, 1) := by decide +kernel
theorem dX8_weight_20 : decode cX8_weight 20 = .ok (.invokevirtual 170, 3) := by decide +kernel
theorem dX8_weight_23 : decode cX8_weight 23 = .ok (.goto 5, 3) := by decide +kernel
theorem dX8_weight_26 : decode cX8_weight 26 = .ok (.ldc 129, 2) := by decide +kernel
theorem dX8_weight_28 : decode cX8_weight 28 = .ok (.ireturn, 1) := by decide +kernel
theorem dX8_bridge_0 : decode cX8_bridge 0 = .ok (.aload_n 0, 1) := by decide +kernel
theorem dX8_bridge_1 : decode cX8_bridge 1 = .ok (.getfield 19, 3) := by decide +kernel
theorem dX8_bridge_4 : decode cX8_bridge 4 = .ok (.iload_n 1, 1) := by decide +kernel
theorem dX8_bridge_5 : decode cX8_bridge 5 = .ok (.invokevirtual 173, 3) := by decide +kernel
theorem dX8_bridge_8 : decode cX8_bridge 8 = .ok (.ifCond .eq 15, 3) := by decide +kernel
theorem dX8_bridge_11 : decode cX8_bridge 11 = .ok (.aload_n 0, 1) := by decide +kernel
theorem dX8_bridge_12 : decode cX8_bridge 12 = .ok (.getfield 19, 3) := by decide +kernel
theorem dX8_bridge_15 : decode cX8_bridge 15 = .ok (.getfield 176, 3) := by decide +kernel
theorem dX8_bridge_18 : decode cX8_bridge 18 = .ok (.iload_n 1, 1) := by decide +kernel
theorem dX8_bridge_19 : decode cX8_bridge 19 = .ok (.iaload, 1) := by decide +kernel
theorem dX8_bridge_20 : decode cX8_bridge 20 = .ok (.goto 5, 3) := by decide +kernel
theorem dX8_bridge_23 : decode cX8_bridge 23 = .ok (.ldc 129, 2) := by decide +kernel
theorem dX8_bridge_25 : decode cX8_bridge 25 = .ok (.ireturn, 1) := by decide +kernel
theorem dX8_tell_0 : decode cX8_tell 0 = .ok (.aload_n 0, 1) := by decide +kernel
theorem dX8_tell_1 : decode cX8_tell 1 = .ok (.getfield 19, 3) := by decide +kernel
theorem dX8_tell_4 : decode cX8_tell 4 = .ok (.iload_n 1, 1) := by decide +kernel
theorem dX8_tell_5 : decode cX8_tell 5 = .ok (.invokevirtual 147, 3) := by decide +kernel
theorem dX8_tell_8 : decode cX8_tell 8 = .ok (.ifCond .eq 14, 3) := by decide +kernel
theorem dX8_tell_11 : decode cX8_tell 11 = .ok (.aload_n 0, 1) := by decide +kernel
theorem dX8_tell_12 : decode cX8_tell 12 = .ok (.getfield 19, 3) := by decide +kernel
theorem dX8_tell_15 : decode cX8_tell 15 = .ok (.iload_n 2, 1) := by decide +kernel
theorem dX8_tell_16 : decode cX8_tell 16 = .ok (.invokevirtual 125, 3) := by decide +kernel
theorem dX8_tell_19 : decode cX8_tell 19 = .ok (.ifCond .ne 6, 3) := by decide +kernel
theorem dX8_tell_22 : decode cX8_tell 22 = .ok (.ldc 129, 2) := by decide +kernel
theorem dX8_tell_24 : decode cX8_tell 24 = .ok (.ireturn, 1) := by decide +kernel
theorem dX8_tell_25 : decode cX8_tell 25 = .ok (.aload_n 0, 1) := by decide +kernel
theorem dX8_tell_26 : decode cX8_tell 26 = .ok (.getfield 29, 3) := by decide +kernel
theorem dX8_tell_29 : decode cX8_tell 29 = .ok (.iload_n 1, 1) := by decide +kernel
theorem dX8_tell_30 : decode cX8_tell 30 = .ok (.iload_n 2, 1) := by decide +kernel
theorem dX8_tell_31 : decode cX8_tell 31 = .ok (.invokevirtual 162, 3) := by decide +kernel
theorem dX8_tell_34 : decode cX8_tell 34 = .ok (.ifCond .eq 6, 3) := by decide +kernel
theorem dX8_tell_37 : decode cX8_tell 37 = .ok (.ldc 179, 2) := by decide +kernel
theorem dX8_tell_39 : decode cX8_tell 39 = .ok (.ireturn, 1) := by decide +kernel
theorem dX8_tell_40 : decode cX8_tell 40 = .ok (.aload_n 0, 1) := by decide +kernel
theorem dX8_tell_41 : decode cX8_tell 41 = .ok (.getfield 29, 3) := by decide +kernel
theorem dX8_tell_44 : decode cX8_tell 44 = .ok (.iload_n 1, 1) := by decide +kernel
theorem dX8_tell_45 : decode cX8_tell 45 = .ok (.iload_n 2, 1) := by decide +kernel
theorem dX8_tell_46 : decode cX8_tell 46 = .ok (.invokevirtual 180, 3) := by decide +kernel
theorem dX8_tell_49 : decode cX8_tell 49 = .ok (.aload_n 0, 1) := by decide +kernel
theorem dX8_tell_50 : decode cX8_tell 50 = .ok (.getfield 29, 3) := by decide +kernel
theorem dX8_tell_53 : decode cX8_tell 53 = .ok (.aload_n 0, 1) := by decide +kernel
theorem dX8_tell_54 : decode cX8_tell 54 = .ok (.getfield 19, 3) := by decide +kernel
theorem dX8_tell_57 : decode cX8_tell 57 = .ok (.iload_n 2, 1) := by decide +kernel
theorem dX8_tell_58 : decode cX8_tell 58 = .ok (.invokevirtual 143, 3) := by decide +kernel
theorem dX8_tell_61 : decode cX8_tell 61 = .ok (.ireturn, 1) := by decide +kernel
theorem dX8_forget_0 : decode cX8_forget 0 = .ok (.aload_n 0, 1) := by decide +kernel
theorem dX8_forget_1 : decode cX8_forget 1 = .ok (.getfield 19, 3) := by decide +kernel
theorem dX8_forget_4 : decode cX8_forget 4 = .ok (.iload_n 1, 1) := by decide +kernel
theorem dX8_forget_5 : decode cX8_forget 5 = .ok (.invokevirtual 147, 3) := by decide +kernel
theorem dX8_forget_8 : decode cX8_forget 8 = .ok (.ifCond .eq 14, 3) := by decide +kernel
theorem dX8_forget_11 : decode cX8_forget 11 = .ok (.aload_n 0, 1) := by decide +kernel
theorem dX8_forget_12 : decode cX8_forget 12 = .ok (.getfield 19, 3) := by decide +kernel
theorem dX8_forget_15 : decode cX8_forget 15 = .ok (.iload_n 2, 1) := by decide +kernel
theorem dX8_forget_16 : decode cX8_forget 16 = .ok (.invokevirtual 125, 3) := by decide +kernel
theorem dX8_forget_19 : decode cX8_forget 19 = .ok (.ifCond .ne 6, 3) := by decide +kernel
theorem dX8_forget_22 : decode cX8_forget 22 = .ok (.ldc 129, 2) := by decide +kernel
theorem dX8_forget_24 : decode cX8_forget 24 = .ok (.ireturn, 1) := by decide +kernel
theorem dX8_forget_25 : decode cX8_forget 25 = .ok (.aload_n 0, 1) := by decide +kernel
theorem dX8_forget_26 : decode cX8_forget 26 = .ok (.getfield 29, 3) := by decide +kernel
theorem dX8_forget_29 : decode cX8_forget 29 = .ok (.iload_n 1, 1) := by decide +kernel
theorem dX8_forget_30 : decode cX8_forget 30 = .ok (.iload_n 2, 1) := by decide +kernel
theorem dX8_forget_31 : decode cX8_forget 31 = .ok (.invokevirtual 162, 3) := by decide +kernel
theorem dX8_forget_34 : decode cX8_forget 34 = .ok (.ifCond .ne 6, 3) := by decide +kernel
theorem dX8_forget_37 : decode cX8_forget 37 = .ok (.ldc 179, 2) := by decide +kernel
theorem dX8_forget_39 : decode cX8_forget 39 = .ok (.ireturn, 1) := by decide +kernel
theorem dX8_forget_40 : decode cX8_forget 40 = .ok (.aload_n 0, 1) := by decide +kernel
theorem dX8_forget_41 : decode cX8_forget 41 = .ok (.getfield 29, 3) := by decide +kernel
theorem dX8_forget_44 : decode cX8_forget 44 = .ok (.iload_n 1, 1) := by decide +kernel
theorem dX8_forget_45 : decode cX8_forget 45 = .ok (.iload_n 2, 1) := by decide +kernel
theorem dX8_forget_46 : decode cX8_forget 46 = .ok (.invokevirtual 184, 3) := by decide +kernel
theorem dX8_forget_49 : decode cX8_forget 49 = .ok (.aload_n 0, 1) := by decide +kernel
theorem dX8_forget_50 : decode cX8_forget 50 = .ok (.getfield 29, 3) := by decide +kernel
theorem dX8_forget_53 : decode cX8_forget 53 = .ok (.aload_n 0, 1) := by decide +kernel
theorem dX8_forget_54 : decode cX8_forget 54 = .ok (.getfield 19, 3) := by decide +kernel
theorem dX8_forget_57 : decode cX8_forget 57 = .ok (.iload_n 2, 1) := by decide +kernel
theorem dX8_forget_58 : decode cX8_forget 58 = .ok (.invokevirtual 143, 3) := by decide +kernel
theorem dX8_forget_61 : decode cX8_forget 61 = .ok (.ireturn, 1) := by decide +kernel
theorem dX8_hour_0 : decode cX8_hour 0 = .ok (.aload_n 0, 1) := by decide +kernel
theorem dX8_hour_1 : decode cX8_hour 1 = .ok (.iload_n 1, 1) := by decide +kernel
