theorem dX9_hour_25 : decode cX9_hour 25 = .ok (.iconst 0, 1) := by decide +kernel
theorem dX9_hour_26 : decode cX9_hour 26 = .ok (.istore_n 3, 1) := by decide +kernel
theorem dX9_hour_27 : decode cX9_hour 27 = .ok (.iload_n 3, 1) := by decide +kernel
theorem dX9_hour_28 : decode cX9_hour 28 = .ok (.iload_n 1, 1) := by decide +kernel
theorem dX9_hour_29 : decode cX9_hour 29 = .ok (.if_icmp .ge 13, 3) := by decide +kernel
theorem dX9_hour_32 : decode cX9_hour 32 = .ok (.aload_n 0, 1) := by decide +kernel
theorem dX9_hour_33 : decode cX9_hour 33 = .ok (.invokevirtual 228, 3) := by decide +kernel
theorem dX9_hour_36 : decode cX9_hour 36 = .ok (.iinc 3 1, 3) := by decide +kernel
theorem dX9_hour_39 : decode cX9_hour 39 = .ok (.goto (-12), 3) := by decide +kernel
theorem dX9_hour_42 : decode cX9_hour 42 = .ok (.aload_n 0, 1) := by decide +kernel
theorem dX9_hour_43 : decode cX9_hour 43 = .ok (.getfield 38, 3) := by decide +kernel
theorem dX9_hour_46 : decode cX9_hour 46 = .ok (.iconst 0, 1) := by decide +kernel
theorem dX9_hour_47 : decode cX9_hour 47 = .ok (.aload_n 0, 1) := by decide +kernel
theorem dX9_hour_48 : decode cX9_hour 48 = .ok (.getfield 35, 3) := by decide +kernel
theorem dX9_hour_51 : decode cX9_hour 51 = .ok (.iconst 0, 1) := by decide +kernel
theorem dX9_hour_52 : decode cX9_hour 52 = .ok (.invokestatic 202, 3) := by decide +kernel
theorem dX9_hour_55 : decode cX9_hour 55 = .ok (.aload_n 0, 1) := by decide +kernel
theorem dX9_hour_56 : decode cX9_hour 56 = .ok (.getfield 35, 3) := by decide +kernel
theorem dX9_hour_59 : decode cX9_hour 59 = .ok (.bipush 56, 2) := by decide +kernel
theorem dX9_hour_61 : decode cX9_hour 61 = .ok (.iaload, 1) := by decide +kernel
theorem dX9_hour_62 : decode cX9_hour 62 = .ok (.ireturn, 1) := by decide +kernel
theorem dX9_draw_0 : decode cX9_draw 0 = .ok (.aload_n 0, 1) := by decide +kernel
theorem dX9_draw_1 : decode cX9_draw 1 = .ok (.getfield 38, 3) := by decide +kernel
theorem dX9_draw_4 : decode cX9_draw 4 = .ok (.bipush 57, 2) := by decide +kernel
theorem dX9_draw_6 : decode cX9_draw 6 = .ok (.aload_n 0, 1) := by decide +kernel
theorem dX9_draw_7 : decode cX9_draw 7 = .ok (.getfield 38, 3) := by decide +kernel
theorem dX9_draw_10 : decode cX9_draw 10 = .ok (.bipush 57, 2) := by decide +kernel
theorem dX9_draw_12 : decode cX9_draw 12 = .ok (.iaload, 1) := by decide +kernel
theorem dX9_draw_13 : decode cX9_draw 13 = .ok (.i2l, 1) := by decide +kernel
theorem dX9_draw_14 : decode cX9_draw 14 = .ok (.ldc2_w 231, 3) := by decide +kernel
theorem dX9_draw_17 : decode cX9_draw 17 = .ok (.lmul, 1) := by decide +kernel
theorem dX9_draw_18 : decode cX9_draw 18 = .ok (.ldc2_w 233, 3) := by decide +kernel
theorem dX9_draw_21 : decode cX9_draw 21 = .ok (.ladd, 1) := by decide +kernel
theorem dX9_draw_22 : decode cX9_draw 22 = .ok (.ldc2_w 235, 3) := by decide +kernel
theorem dX9_draw_25 : decode cX9_draw 25 = .ok (.lrem, 1) := by decide +kernel
theorem dX9_draw_26 : decode cX9_draw 26 = .ok (.l2i, 1) := by decide +kernel
theorem dX9_draw_27 : decode cX9_draw 27 = .ok (.iastore, 1) := by decide +kernel
theorem dX9_draw_28 : decode cX9_draw 28 = .ok (.aload_n 0, 1) := by decide +kernel
theorem dX9_draw_29 : decode cX9_draw 29 = .ok (.getfield 38, 3) := by decide +kernel
theorem dX9_draw_32 : decode cX9_draw 32 = .ok (.bipush 57, 2) := by decide +kernel
theorem dX9_draw_34 : decode cX9_draw 34 = .ok (.iaload, 1) := by decide +kernel
theorem dX9_draw_35 : decode cX9_draw 35 = .ok (.ldc 237, 2) := by decide +kernel
theorem dX9_draw_37 : decode cX9_draw 37 = .ok (.idiv, 1) := by decide +kernel
theorem dX9_draw_38 : decode cX9_draw 38 = .ok (.iload_n 1, 1) := by decide +kernel
theorem dX9_draw_39 : decode cX9_draw 39 = .ok (.irem, 1) := by decide +kernel
theorem dX9_draw_40 : decode cX9_draw 40 = .ok (.ireturn, 1) := by decide +kernel
theorem dX9_drift_0 : decode cX9_drift 0 = .ok (.aload_n 0, 1) := by decide +kernel
theorem dX9_drift_1 : decode cX9_drift 1 = .ok (.iload_n 1, 1) := by decide +kernel
theorem dX9_drift_2 : decode cX9_drift 2 = .ok (.invokevirtual 225, 3) := by decide +kernel
theorem dX9_drift_5 : decode cX9_drift 5 = .ok (.istore_n 2, 1) := by decide +kernel
theorem dX9_drift_6 : decode cX9_drift 6 = .ok (.iload_n 2, 1) := by decide +kernel
theorem dX9_drift_7 : decode cX9_drift 7 = .ok (.ifCond .ge 5, 3) := by decide +kernel
theorem dX9_drift_10 : decode cX9_drift 10 = .ok (.iload_n 2, 1) := by decide +kernel
theorem dX9_drift_11 : decode cX9_drift 11 = .ok (.ireturn, 1) := by decide +kernel
theorem dX9_drift_12 : decode cX9_drift 12 = .ok (.aload_n 0, 1) := by decide +kernel
theorem dX9_drift_13 : decode cX9_drift 13 = .ok (.getfield 35, 3) := by decide +kernel
theorem dX9_drift_16 : decode cX9_drift 16 = .ok (.iconst 0, 1) := by decide +kernel
theorem dX9_drift_17 : decode cX9_drift 17 = .ok (.aload_n 0, 1) := by decide +kernel
theorem dX9_drift_18 : decode cX9_drift 18 = .ok (.getfield 38, 3) := by decide +kernel
theorem dX9_drift_21 : decode cX9_drift 21 = .ok (.iconst 0, 1) := by decide +kernel
theorem dX9_drift_22 : decode cX9_drift 22 = .ok (.invokestatic 202, 3) := by decide +kernel
theorem dX9_drift_25 : decode cX9_drift 25 = .ok (.iconst 0, 1) := by decide +kernel
theorem dX9_drift_26 : decode cX9_drift 26 = .ok (.istore_n 3, 1) := by decide +kernel
theorem dX9_drift_27 : decode cX9_drift 27 = .ok (.iload_n 3, 1) := by decide +kernel
theorem dX9_drift_28 : decode cX9_drift 28 = .ok (.iload_n 1, 1) := by decide +kernel
theorem dX9_drift_29 : decode cX9_drift 29 = .ok (.if_icmp .ge 78, 3) := by decide +kernel
theorem dX9_drift_32 : decode cX9_drift 32 = .ok (.aload_n 0, 1) := by decide +kernel
theorem dX9_drift_33 : decode cX9_drift 33 = .ok (.aload_n 0, 1) := by decide +kernel
theorem dX9_drift_34 : decode cX9_drift 34 = .ok (.getfield 76, 3) := by decide +kernel
theorem dX9_drift_37 : decode cX9_drift 37 = .ok (.invokevirtual 238, 3) := by decide +kernel
theorem dX9_drift_40 : decode cX9_drift 40 = .ok (.istore 4, 2) := by decide +kernel
theorem dX9_drift_42 : decode cX9_drift 42 = .ok (.aload_n 0, 1) := by decide +kernel
theorem dX9_drift_43 : decode cX9_drift 43 = .ok (.getfield 83, 3) := by decide +kernel
theorem dX9_drift_46 : decode cX9_drift 46 = .ok (.ifCond .le 51, 3) := by decide +kernel
theorem dX9_drift_49 : decode cX9_drift 49 = .ok (.aload_n 0, 1) := by decide +kernel
theorem dX9_drift_50 : decode cX9_drift 50 = .ok (.aload_n 0, 1) := by decide +kernel
theorem dX9_drift_51 : decode cX9_drift 51 = .ok (.getfield 83, 3) := by decide +kernel
theorem dX9_drift_54 : decode cX9_drift 54 = .ok (.invokevirtual 238, 3) := by decide +kernel
theorem dX9_drift_57 : decode cX9_drift 57 = .ok (.istore 5, 2) := by decide +kernel
theorem dX9_drift_59 : decode cX9_drift 59 = .ok (.aload_n 0, 1) := by decide +kernel
theorem dX9_drift_60 : decode cX9_drift 60 = .ok (.getfield 38, 3) := by decide +kernel
theorem dX9_drift_63 : decode cX9_drift 63 = .ok (.bipush 8, 2) := by decide +kernel
theorem dX9_drift_65 : decode cX9_drift 65 = .ok (.iload 4, 2) := by decide +kernel
theorem dX9_drift_67 : decode cX9_drift 67 = .ok (.imul, 1) := by decide +kernel
theorem dX9_drift_68 : decode cX9_drift 68 = .ok (.iload 5, 2) := by decide +kernel
theorem dX9_drift_70 : decode cX9_drift 70 = .ok (.iadd, 1) := by decide +kernel
theorem dX9_drift_71 : decode cX9_drift 71 = .ok (.aload_n 0, 1) := by decide +kernel
theorem dX9_drift_72 : decode cX9_drift 72 = .ok (.getfield 38, 3) := by decide +kernel
theorem dX9_drift_75 : decode cX9_drift 75 = .ok (.iload 4, 2) := by decide +kernel
theorem dX9_drift_77 : decode cX9_drift 77 = .ok (.iload 5, 2) := by decide +kernel
theorem dX9_drift_79 : decode cX9_drift 79 = .ok (.invokestatic 178, 3) := by decide +kernel
theorem dX9_drift_82 : decode cX9_drift 82 = .ok (.ifCond .eq 7, 3) := by decide +kernel
theorem dX9_drift_85 : decode cX9_drift 85 = .ok (.iconst (-1), 1) := by decide +kernel
theorem dX9_drift_86 : decode cX9_drift 86 = .ok (.goto 10, 3) := by decide +kernel
theorem dX9_drift_89 : decode cX9_drift 89 = .ok (.aload_n 0, 1) := by decide +kernel
theorem dX9_drift_90 : decode cX9_drift 90 = .ok (.getfield 38, 3) := by decide +kernel
theorem dX9_drift_93 : decode cX9_drift 93 = .ok (.bipush 56, 2) := by decide +kernel
theorem dX9_drift_95 : decode cX9_drift 95 = .ok (.iaload, 1) := by decide +kernel
theorem dX9_drift_96 : decode cX9_drift 96 = .ok (.iastore, 1) := by decide +kernel
theorem dX9_drift_97 : decode cX9_drift 97 = .ok (.aload_n 0, 1) := by decide +kernel
theorem dX9_drift_98 : decode cX9_drift 98 = .ok (.invokevirtual 228, 3) := by decide +kernel
theorem dX9_drift_101 : decode cX9_drift 101 = .ok (.iinc 3 1, 3) := by decide +kernel
theorem dX9_drift_104 : decode cX9_drift 104 = .ok (.goto (-77), 3) := by decide +kernel
theorem dX9_drift_107 : decode cX9_drift 107 = .ok (.aload_n 0, 1) := by decide +kernel
theorem dX9_drift_108 : decode cX9_drift 108 = .ok (.getfield 38, 3) := by decide +kernel
theorem dX9_drift_111 : decode cX9_drift 111 = .ok (.iconst 0, 1) := by decide +kernel
theorem dX9_drift_112 : decode cX9_drift 112 = .ok (.aload_n 0, 1) := by decide +kernel
theorem dX9_drift_113 : decode cX9_drift 113 = .ok (.getfield 35, 3) := by decide +kernel
theorem dX9_drift_116 : decode cX9_drift 116 = .ok (.iconst 0, 1) := by decide +kernel
theorem dX9_drift_117 : decode cX9_drift 117 = .ok (.invokestatic 202, 3) := by decide +kernel
theorem dX9_drift_120 : decode cX9_drift 120 = .ok (.aload_n 0, 1) := by decide +kernel
theorem dX9_drift_121 : decode cX9_drift 121 = .ok (.getfield 35, 3) := by decide +kernel
theorem dX9_drift_124 : decode cX9_drift 124 = .ok (.bipush 56, 2) := by decide +kernel
theorem dX9_drift_126 : decode cX9_drift 126 = .ok (.iaload, 1) := by decide +kernel
theorem dX9_drift_127 : decode cX9_drift 127 = .ok (.ireturn, 1) := by decide +kernel
theorem dX9_heavy_0 : decode cX9_heavy 0 = .ok (.aload_n 0, 1) := by decide +kernel
theorem dX9_heavy_1 : decode cX9_heavy 1 = .ok (.iload_n 1, 1) := by decide +kernel
theorem dX9_heavy_2 : decode cX9_heavy 2 = .ok (.invokevirtual 214, 3) := by decide +kernel
theorem dX9_heavy_5 : decode cX9_heavy 5 = .ok (.ifCond .ne 6, 3) := by decide +kernel
theorem dX9_heavy_8 : decode cX9_heavy 8 = .ok (.ldc 213, 2) := by decide +kernel
theorem dX9_heavy_10 : decode cX9_heavy 10 = .ok (.ireturn, 1) := by decide +kernel
theorem dX9_heavy_11 : decode cX9_heavy 11 = .ok (.iload_n 2, 1) := by decide +kernel
theorem dX9_heavy_12 : decode cX9_heavy 12 = .ok (.iconst 0, 1) := by decide +kernel
theorem dX9_heavy_13 : decode cX9_heavy 13 = .ok (.bipush 99, 2) := by decide +kernel
theorem dX9_heavy_15 : decode cX9_heavy 15 = .ok (.invokestatic 79, 3) := by decide +kernel
theorem dX9_heavy_18 : decode cX9_heavy 18 = .ok (.ifCond .ne 6, 3) := by decide +kernel
theorem dX9_heavy_21 : decode cX9_heavy 21 = .ok (.ldc 89, 2) := by decide +kernel
theorem dX9_heavy_23 : decode cX9_heavy 23 = .ok (.ireturn, 1) := by decide +kernel
theorem dX9_heavy_24 : decode cX9_heavy 24 = .ok (.aload_n 0, 1) := by decide +kernel
theorem dX9_heavy_25 : decode cX9_heavy 25 = .ok (.getfield 35, 3) := by decide +kernel
theorem dX9_heavy_28 : decode cX9_heavy 28 = .ok (.iconst 0, 1) := by decide +kernel
theorem dX9_heavy_29 : decode cX9_heavy 29 = .ok (.aload_n 0, 1) := by decide +kernel
theorem dX9_heavy_30 : decode cX9_heavy 30 = .ok (.getfield 38, 3) := by decide +kernel
theorem dX9_heavy_33 : decode cX9_heavy 33 = .ok (.iconst 0, 1) := by decide +kernel
theorem dX9_heavy_34 : decode cX9_heavy 34 = .ok (.invokestatic 202, 3) := by decide +kernel
theorem dX9_heavy_37 : decode cX9_heavy 37 = .ok (.iconst 0, 1) := by decide +kernel
theorem dX9_heavy_38 : decode cX9_heavy 38 = .ok (.istore_n 3, 1) := by decide +kernel
theorem dX9_heavy_39 : decode cX9_heavy 39 = .ok (.iload_n 3, 1) := by decide +kernel
theorem dX9_heavy_40 : decode cX9_heavy 40 = .ok (.iload_n 2, 1) := by decide +kernel
theorem dX9_heavy_41 : decode cX9_heavy 41 = .ok (.if_icmp .ge 13, 3) := by decide +kernel
theorem dX9_heavy_44 : decode cX9_heavy 44 = .ok (.aload_n 0, 1) := by decide +kernel
theorem dX9_heavy_45 : decode cX9_heavy 45 = .ok (.invokevirtual 228, 3) := by decide +kernel
theorem dX9_heavy_48 : decode cX9_heavy 48 = .ok (.iinc 3 1, 3) := by decide +kernel
theorem dX9_heavy_51 : decode cX9_heavy 51 = .ok (.goto (-12), 3) := by decide +kernel
theorem dX9_heavy_54 : decode cX9_heavy 54 = .ok (.aload_n 0, 1) := by decide +kernel
theorem dX9_heavy_55 : decode cX9_heavy 55 = .ok (.aload_n 0, 1) := by decide +kernel
theorem dX9_heavy_56 : decode cX9_heavy 56 = .ok (.getfield 38, 3) := by decide +kernel
theorem dX9_heavy_59 : decode cX9_heavy 59 = .ok (.iload_n 1, 1) := by decide +kernel
theorem dX9_heavy_60 : decode cX9_heavy 60 = .ok (.invokevirtual 217, 3) := by decide +kernel
theorem dX9_heavy_63 : decode cX9_heavy 63 = .ok (.ireturn, 1) := by decide +kernel
theorem dX9_when_0 : decode cX9_when 0 = .ok (.aload_n 0, 1) := by decide +kernel
theorem dX9_when_1 : decode cX9_when 1 = .ok (.iload_n 1, 1) := by decide +kernel
theorem dX9_when_2 : decode cX9_when 2 = .ok (.invokevirtual 214, 3) := by decide +kernel
theorem dX9_when_5 : decode cX9_when 5 = .ok (.ifCond .eq 11, 3) := by decide +kernel
theorem dX9_when_8 : decode cX9_when 8 = .ok (.aload_n 0, 1) := by decide +kernel
theorem dX9_when_9 : decode cX9_when 9 = .ok (.iload_n 2, 1) := by decide +kernel
theorem dX9_when_10 : decode cX9_when 10 = .ok (.invokevirtual 220, 3) := by decide +kernel
theorem dX9_when_13 : decode cX9_when 13 = .ok (.ifCond .ne 6, 3) := by decide +kernel
theorem dX9_when_16 : decode cX9_when 16 = .ok (.ldc 213, 2) := by decide +kernel
theorem dX9_when_18 : decode cX9_when 18 = .ok (.ireturn, 1) := by decide +kernel
theorem dX9_when_19 : decode cX9_when 19 = .ok (.aload_n 0, 1) := by decide +kernel
theorem dX9_when_20 : decode cX9_when 20 = .ok (.getfield 35, 3) := by decide +kernel
theorem dX9_when_23 : decode cX9_when 23 = .ok (.iconst 0, 1) := by decide +kernel
theorem dX9_when_24 : decode cX9_when 24 = .ok (.aload_n 0, 1) := by decide +kernel
theorem dX9_when_25 : decode cX9_when 25 = .ok (.getfield 38, 3) := by decide +kernel
theorem dX9_when_28 : decode cX9_when 28 = .ok (.iconst 0, 1) := by decide +kernel
theorem dX9_when_29 : decode cX9_when 29 = .ok (.invokestatic 202, 3) := by decide +kernel
theorem dX9_when_32 : decode cX9_when 32 = .ok (.iconst 0, 1) := by decide +kernel
theorem dX9_when_33 : decode cX9_when 33 = .ok (.istore_n 3, 1) := by decide +kernel
theorem dX9_when_34 : decode cX9_when 34 = .ok (.iload_n 3, 1) := by decide +kernel
theorem dX9_when_35 : decode cX9_when 35 = .ok (.bipush 100, 2) := by decide +kernel
theorem dX9_when_37 : decode cX9_when 37 = .ok (.if_icmp .ge 33, 3) := by decide +kernel
theorem dX9_when_40 : decode cX9_when 40 = .ok (.aload_n 0, 1) := by decide +kernel
theorem dX9_when_41 : decode cX9_when 41 = .ok (.aload_n 0, 1) := by decide +kernel
theorem dX9_when_42 : decode cX9_when 42 = .ok (.getfield 38, 3) := by decide +kernel
theorem dX9_when_45 : decode cX9_when 45 = .ok (.iload_n 1, 1) := by decide +kernel
theorem dX9_when_46 : decode cX9_when 46 = .ok (.invokevirtual 217, 3) := by decide +kernel
theorem dX9_when_49 : decode cX9_when 49 = .ok (.aload_n 0, 1) := by decide +kernel
theorem dX9_when_50 : decode cX9_when 50 = .ok (.getfield 32, 3) := by decide +kernel
theorem dX9_when_53 : decode cX9_when 53 = .ok (.iload_n 2, 1) := by decide +kernel
theorem dX9_when_54 : decode cX9_when 54 = .ok (.iaload, 1) := by decide +kernel
theorem dX9_when_55 : decode cX9_when 55 = .ok (.if_icmp .gt 5, 3) := by decide +kernel
theorem dX9_when_58 : decode cX9_when 58 = .ok (.iload_n 3, 1) := by decide +kernel
theorem dX9_when_59 : decode cX9_when 59 = .ok (.ireturn, 1) := by decide +kernel
theorem dX9_when_60 : decode cX9_when 60 = .ok (.aload_n 0, 1) := by decide +kernel
theorem dX9_when_61 : decode cX9_when 61 = .ok (.invokevirtual 228, 3) := by decide +kernel
theorem dX9_when_64 : decode cX9_when 64 = .ok (.iinc 3 1, 3) := by decide +kernel
theorem dX9_when_67 : decode cX9_when 67 = .ok (.goto (-33), 3) := by decide +kernel
theorem dX9_when_70 : decode cX9_when 70 = .ok (.iconst (-1), 1) := by decide +kernel
theorem dX9_when_71 : decode cX9_when 71 = .ok (.ireturn, 1) := by decide +kernel
theorem dX9_least_0 : decode cX9_least 0 = .ok (.aload_n 0, 1) := by decide +kernel
theorem dX9_least_1 : decode cX9_least 1 = .ok (.iload_n 1, 1) := by decide +kernel
theorem dX9_least_2 : decode cX9_least 2 = .ok (.invokevirtual 241, 3) := by decide +kernel
theorem dX9_least_5 : decode cX9_least 5 = .ok (.ifCond .eq 24, 3) := by decide +kernel
theorem dX9_least_8 : decode cX9_least 8 = .ok (.aload_n 0, 1) := by decide +kernel
theorem dX9_least_9 : decode cX9_least 9 = .ok (.iload_n 2, 1) := by decide +kernel
theorem dX9_least_10 : decode cX9_least 10 = .ok (.invokevirtual 220, 3) := by decide +kernel
theorem dX9_least_13 : decode cX9_least 13 = .ok (.ifCond .eq 16, 3) := by decide +kernel
theorem dX9_least_16 : decode cX9_least 16 = .ok (.iload_n 3, 1) := by decide +kernel
theorem dX9_least_17 : decode cX9_least 17 = .ok (.iconst (-1), 1) := by decide +kernel
theorem dX9_least_18 : decode cX9_least 18 = .ok (.if_icmp .eq 14, 3) := by decide +kernel
theorem dX9_least_21 : decode cX9_least 21 = .ok (.aload_n 0, 1) := by decide +kernel
theorem dX9_least_22 : decode cX9_least 22 = .ok (.iload_n 3, 1) := by decide +kernel
theorem dX9_least_23 : decode cX9_least 23 = .ok (.invokevirtual 210, 3) := by decide +kernel
theorem dX9_least_26 : decode cX9_least 26 = .ok (.ifCond .ne 6, 3) := by decide +kernel
theorem dX9_least_29 : decode cX9_least 29 = .ok (.ldc 213, 2) := by decide +kernel
theorem dX9_least_31 : decode cX9_least 31 = .ok (.ireturn, 1) := by decide +kernel
theorem dX9_least_32 : decode cX9_least 32 = .ok (.aload_n 0, 1) := by decide +kernel
theorem dX9_least_33 : decode cX9_least 33 = .ok (.getfield 32, 3) := by decide +kernel
theorem dX9_least_36 : decode cX9_least 36 = .ok (.iload_n 2, 1) := by decide +kernel
theorem dX9_least_37 : decode cX9_least 37 = .ok (.iaload, 1) := by decide +kernel
theorem dX9_least_38 : decode cX9_least 38 = .ok (.ineg, 1) := by decide +kernel
theorem dX9_least_39 : decode cX9_least 39 = .ok (.istore 4, 2) := by decide +kernel
theorem dX9_least_41 : decode cX9_least 41 = .ok (.iconst 0, 1) := by decide +kernel
theorem dX9_least_42 : decode cX9_least 42 = .ok (.istore 5, 2) := by decide +kernel
theorem dX9_least_44 : decode cX9_least 44 = .ok (.iload 5, 2) := by decide +kernel
theorem dX9_least_46 : decode cX9_least 46 = .ok (.aload_n 0, 1) := by decide +kernel
theorem dX9_least_47 : decode cX9_least 47 = .ok (.getfield 76, 3) := by decide +kernel
theorem dX9_least_50 : decode cX9_least 50 = .ok (.if_icmp .ge 37, 3) := by decide +kernel
theorem dX9_least_53 : decode cX9_least 53 = .ok (.iload 4, 2) := by decide +kernel
theorem dX9_least_55 : decode cX9_least 55 = .ok (.iload_n 1, 1) := by decide +kernel
theorem dX9_least_56 : decode cX9_least 56 = .ok (.iload 5, 2) := by decide +kernel
theorem dX9_least_58 : decode cX9_least 58 = .ok (.invokestatic 136, 3) := by decide +kernel
theorem dX9_least_61 : decode cX9_least 61 = .ok (.ifCond .eq 16, 3) := by decide +kernel
theorem dX9_least_64 : decode cX9_least 64 = .ok (.aload_n 0, 1) := by decide +kernel
theorem dX9_least_65 : decode cX9_least 65 = .ok (.aload_n 0, 1) := by decide +kernel
theorem dX9_least_66 : decode cX9_least 66 = .ok (.getfield 35, 3) := by decide +kernel
theorem dX9_least_69 : decode cX9_least 69 = .ok (.iload 5, 2) := by decide +kernel
theorem dX9_least_71 : decode cX9_least 71 = .ok (.invokevirtual 217, 3) := by decide +kernel
theorem dX9_least_74 : decode cX9_least 74 = .ok (.goto 4, 3) := by decide +kernel
theorem dX9_least_77 : decode cX9_least 77 = .ok (.iconst 0, 1) := by decide +kernel
theorem dX9_least_78 : decode cX9_least 78 = .ok (.iadd, 1) := by decide +kernel
theorem dX9_least_79 : decode cX9_least 79 = .ok (.istore 4, 2) := by decide +kernel
theorem dX9_least_81 : decode cX9_least 81 = .ok (.iinc 5 1, 3) := by decide +kernel
theorem dX9_least_84 : decode cX9_least 84 = .ok (.goto (-40), 3) := by decide +kernel
theorem dX9_least_87 : decode cX9_least 87 = .ok (.iconst 0, 1) := by decide +kernel
theorem dX9_least_88 : decode cX9_least 88 = .ok (.istore 5, 2) := by decide +kernel
theorem dX9_least_90 : decode cX9_least 90 = .ok (.iconst 0, 1) := by decide +kernel
theorem dX9_least_91 : decode cX9_least 91 = .ok (.istore 6, 2) := by decide +kernel
theorem dX9_least_93 : decode cX9_least 93 = .ok (.iload 6, 2) := by decide +kernel
theorem dX9_least_95 : decode cX9_least 95 = .ok (.bipush 8, 2) := by decide +kernel
theorem dX9_least_97 : decode cX9_least 97 = .ok (.if_icmp .ge 17, 3) := by decide +kernel
theorem dX9_least_100 : decode cX9_least 100 = .ok (.aload_n 0, 1) := by decide +kernel
theorem dX9_least_101 : decode cX9_least 101 = .ok (.getfield 54, 3) := by decide +kernel
theorem dX9_least_104 : decode cX9_least 104 = .ok (.iload 6, 2) := by decide +kernel
theorem dX9_least_106 : decode cX9_least 106 = .ok (.iconst 0, 1) := by decide +kernel
theorem dX9_least_107 : decode cX9_least 107 = .ok (.iastore, 1) := by decide +kernel
theorem dX9_least_108 : decode cX9_least 108 = .ok (.iinc 6 1, 3) := by decide +kernel
theorem dX9_least_111 : decode cX9_least 111 = .ok (.goto (-18), 3) := by decide +kernel
theorem dX9_least_114 : decode cX9_least 114 = .ok (.bipush 9, 2) := by decide +kernel
theorem dX9_least_116 : decode cX9_least 116 = .ok (.istore 6, 2) := by decide +kernel
theorem dX9_least_118 : decode cX9_least 118 = .ok (.iload 6, 2) := by decide +kernel
theorem dX9_least_120 : decode cX9_least 120 = .ok (.ifCond .le 121, 3) := by decide +kernel
theorem dX9_least_123 : decode cX9_least 123 = .ok (.iconst 0, 1) := by decide +kernel
theorem dX9_least_124 : decode cX9_least 124 = .ok (.istore 7, 2) := by decide +kernel
theorem dX9_least_126 : decode cX9_least 126 = .ok (.iload 7, 2) := by decide +kernel
theorem dX9_least_128 : decode cX9_least 128 = .ok (.aload_n 0, 1) := by decide +kernel
theorem dX9_least_129 : decode cX9_least 129 = .ok (.getfield 83, 3) := by decide +kernel
theorem dX9_least_132 : decode cX9_least 132 = .ok (.if_icmp .ge 103, 3) := by decide +kernel
theorem dX9_least_135 : decode cX9_least 135 = .ok (.aload_n 0, 1) := by decide +kernel
theorem dX9_least_136 : decode cX9_least 136 = .ok (.iload 7, 2) := by decide +kernel
theorem dX9_least_138 : decode cX9_least 138 = .ok (.invokevirtual 186, 3) := by decide +kernel
theorem dX9_least_141 : decode cX9_least 141 = .ok (.iload 6, 2) := by decide +kernel
theorem dX9_least_143 : decode cX9_least 143 = .ok (.if_icmp .ne 29, 3) := by decide +kernel
theorem dX9_least_146 : decode cX9_least 146 = .ok (.aload_n 0, 1) := by decide +kernel
theorem dX9_least_147 : decode cX9_least 147 = .ok (.iload 7, 2) := by decide +kernel
theorem dX9_least_149 : decode cX9_least 149 = .ok (.invokevirtual 193, 3) := by decide +kernel
theorem dX9_least_152 : decode cX9_least 152 = .ok (.ifCond .ne 20, 3) := by decide +kernel
theorem dX9_least_155 : decode cX9_least 155 = .ok (.iload_n 1, 1) := by decide +kernel
theorem dX9_least_156 : decode cX9_least 156 = .ok (.aload_n 0, 1) := by decide +kernel
theorem dX9_least_157 : decode cX9_least 157 = .ok (.iload 7, 2) := by decide +kernel
theorem dX9_least_159 : decode cX9_least 159 = .ok (.invokevirtual 182, 3) := by decide +kernel
theorem dX9_least_162 : decode cX9_least 162 = .ok (.invokestatic 136, 3) := by decide +kernel
theorem dX9_least_165 : decode cX9_least 165 = .ok (.ifCond .eq 7, 3) := by decide +kernel
theorem dX9_least_168 : decode cX9_least 168 = .ok (.iconst 1, 1) := by decide +kernel
theorem dX9_least_169 : decode cX9_least 169 = .ok (.goto 4, 3) := by decide +kernel
theorem dX9_least_172 : decode cX9_least 172 = .ok (.iconst 0, 1) := by decide +kernel
theorem dX9_least_173 : decode cX9_least 173 = .ok (.istore 8, 2) := by decide +kernel
theorem dX9_least_175 : decode cX9_least 175 = .ok (.aload_n 0, 1) := by decide +kernel
theorem dX9_least_176 : decode cX9_least 176 = .ok (.aload_n 0, 1) := by decide +kernel
theorem dX9_least_177 : decode cX9_least 177 = .ok (.getfield 35, 3) := by decide +kernel
theorem dX9_least_180 : decode cX9_least 180 = .ok (.iload 7, 2) := by decide +kernel
theorem dX9_least_182 : decode cX9_least 182 = .ok (.invokevirtual 189, 3) := by decide +kernel
theorem dX9_least_185 : decode cX9_least 185 = .ok (.istore 9, 2) := by decide +kernel
theorem dX9_least_187 : decode cX9_least 187 = .ok (.iload 9, 2) := by decide +kernel
theorem dX9_least_189 : decode cX9_least 189 = .ok (.ifCond .le 40, 3) := by decide +kernel
theorem dX9_least_192 : decode cX9_least 192 = .ok (.iload 8, 2) := by decide +kernel
theorem dX9_least_194 : decode cX9_least 194 = .ok (.ifCond .eq 35, 3) := by decide +kernel
theorem dX9_least_197 : decode cX9_least 197 = .ok (.iload 4, 2) := by decide +kernel
theorem dX9_least_199 : decode cX9_least 199 = .ok (.ifCond .le 30, 3) := by decide +kernel
theorem dX9_least_202 : decode cX9_least 202 = .ok (.aload_n 0, 1) := by decide +kernel
theorem dX9_least_203 : decode cX9_least 203 = .ok (.getfield 54, 3) := by decide +kernel
theorem dX9_least_206 : decode cX9_least 206 = .ok (.iload 7, 2) := by decide +kernel
theorem dX9_least_208 : decode cX9_least 208 = .ok (.dup2, 1) := by decide +kernel
theorem dX9_least_209 : decode cX9_least 209 = .ok (.iaload, 1) := by decide +kernel
theorem dX9_least_210 : decode cX9_least 210 = .ok (.iconst 1, 1) := by decide +kernel
theorem dX9_least_211 : decode cX9_least 211 = .ok (.iadd, 1) := by decide +kernel
theorem dX9_least_212 : decode cX9_least 212 = .ok (.iastore, 1) := by decide +kernel
theorem dX9_least_213 : decode cX9_least 213 = .ok (.iinc 5 1, 3) := by decide +kernel
theorem dX9_least_216 : decode cX9_least 216 = .ok (.iload 4, 2) := by decide +kernel
theorem dX9_least_218 : decode cX9_least 218 = .ok (.iload 6, 2) := by decide +kernel
theorem dX9_least_220 : decode cX9_least 220 = .ok (.isub, 1) := by decide +kernel
theorem dX9_least_221 : decode cX9_least 221 = .ok (.istore 4, 2) := by decide +kernel
theorem dX9_least_223 : decode cX9_least 223 = .ok (.iinc 9 (-1), 3) := by decide +kernel
theorem dX9_least_226 : decode cX9_least 226 = .ok (.goto (-39), 3) := by decide +kernel
theorem dX9_least_229 : decode cX9_least 229 = .ok (.iinc 7 1, 3) := by decide +kernel
theorem dX9_least_232 : decode cX9_least 232 = .ok (.goto (-106), 3) := by decide +kernel
theorem dX9_least_235 : decode cX9_least 235 = .ok (.iinc 6 (-1), 3) := by decide +kernel
theorem dX9_least_238 : decode cX9_least 238 = .ok (.goto (-120), 3) := by decide +kernel
theorem dX9_least_241 : decode cX9_least 241 = .ok (.iload 4, 2) := by decide +kernel
theorem dX9_least_243 : decode cX9_least 243 = .ok (.ifCond .le 7, 3) := by decide +kernel
theorem dX9_least_246 : decode cX9_least 246 = .ok (.iconst (-1), 1) := by decide +kernel
theorem dX9_least_247 : decode cX9_least 247 = .ok (.goto 19, 3) := by decide +kernel
theorem dX9_least_250 : decode cX9_least 250 = .ok (.iload_n 3, 1) := by decide +kernel
theorem dX9_least_251 : decode cX9_least 251 = .ok (.iconst (-1), 1) := by decide +kernel
theorem dX9_least_252 : decode cX9_least 252 = .ok (.if_icmp .ne 8, 3) := by decide +kernel
theorem dX9_least_255 : decode cX9_least 255 = .ok (.iload 5, 2) := by decide +kernel
theorem dX9_least_257 : decode cX9_least 257 = .ok (.goto 9, 3) := by decide +kernel
theorem dX9_least_260 : decode cX9_least 260 = .ok (.aload_n 0, 1) := by decide +kernel
theorem dX9_least_261 : decode cX9_least 261 = .ok (.getfield 54, 3) := by decide +kernel
theorem dX9_least_264 : decode cX9_least 264 = .ok (.iload_n 3, 1) := by decide +kernel
theorem dX9_least_265 : decode cX9_least 265 = .ok (.iaload, 1) := by decide +kernel
theorem dX9_least_266 : decode cX9_least 266 = .ok (.ireturn, 1) := by decide +kernel
theorem dX9_togetherOf_0 : decode cX9_togetherOf 0 = .ok (.iconst 0, 1) := by decide +kernel
theorem dX9_togetherOf_1 : decode cX9_togetherOf 1 = .ok (.istore_n 2, 1) := by decide +kernel
theorem dX9_togetherOf_2 : decode cX9_togetherOf 2 = .ok (.iconst 0, 1) := by decide +kernel
theorem dX9_togetherOf_3 : decode cX9_togetherOf 3 = .ok (.istore_n 3, 1) := by decide +kernel
theorem dX9_togetherOf_4 : decode cX9_togetherOf 4 = .ok (.iload_n 3, 1) := by decide +kernel
theorem dX9_togetherOf_5 : decode cX9_togetherOf 5 = .ok (.aload_n 0, 1) := by decide +kernel
theorem dX9_togetherOf_6 : decode cX9_togetherOf 6 = .ok (.getfield 76, 3) := by decide +kernel
theorem dX9_togetherOf_9 : decode cX9_togetherOf 9 = .ok (.if_icmp .ge 30, 3) := by decide +kernel
theorem dX9_togetherOf_12 : decode cX9_togetherOf 12 = .ok (.iload_n 2, 1) := by decide +kernel
theorem dX9_togetherOf_13 : decode cX9_togetherOf 13 = .ok (.iload_n 1, 1) := by decide +kernel
theorem dX9_togetherOf_14 : decode cX9_togetherOf 14 = .ok (.iload_n 3, 1) := by decide +kernel
theorem dX9_togetherOf_15 : decode cX9_togetherOf 15 = .ok (.invokestatic 136, 3) := by decide +kernel
theorem dX9_togetherOf_18 : decode cX9_togetherOf 18 = .ok (.ifCond .eq 12, 3) := by decide +kernel
theorem dX9_togetherOf_21 : decode cX9_togetherOf 21 = .ok (.aload_n 0, 1) := by decide +kernel
theorem dX9_togetherOf_22 : decode cX9_togetherOf 22 = .ok (.getfield 67, 3) := by decide +kernel
theorem dX9_togetherOf_25 : decode cX9_togetherOf 25 = .ok (.iload_n 3, 1) := by decide +kernel
theorem dX9_togetherOf_26 : decode cX9_togetherOf 26 = .ok (.iaload, 1) := by decide +kernel
theorem dX9_togetherOf_27 : decode cX9_togetherOf 27 = .ok (.goto 4, 3) := by decide +kernel
theorem dX9_togetherOf_30 : decode cX9_togetherOf 30 = .ok (.iconst 0, 1) := by decide +kernel
theorem dX9_togetherOf_31 : decode cX9_togetherOf 31 = .ok (.iadd, 1) := by decide +kernel
theorem dX9_togetherOf_32 : decode cX9_togetherOf 32 = .ok (.istore_n 2, 1) := by decide +kernel
theorem dX9_togetherOf_33 : decode cX9_togetherOf 33 = .ok (.iinc 3 1, 3) := by decide +kernel
theorem dX9_togetherOf_36 : decode cX9_togetherOf 36 = .ok (.goto (-32), 3) := by decide +kernel
theorem dX9_togetherOf_39 : decode cX9_togetherOf 39 = .ok (.iload_n 2, 1) := by decide +kernel
theorem dX9_togetherOf_40 : decode cX9_togetherOf 40 = .ok (.ireturn, 1) := by decide +kernel
theorem dX9_trips_0 : decode cX9_trips 0 = .ok (.aload_n 0, 1) := by decide +kernel
theorem dX9_trips_1 : decode cX9_trips 1 = .ok (.iload_n 1, 1) := by decide +kernel
theorem dX9_trips_2 : decode cX9_trips 2 = .ok (.invokevirtual 241, 3) := by decide +kernel
theorem dX9_trips_5 : decode cX9_trips 5 = .ok (.ifCond .eq 11, 3) := by decide +kernel
theorem dX9_trips_8 : decode cX9_trips 8 = .ok (.aload_n 0, 1) := by decide +kernel
theorem dX9_trips_9 : decode cX9_trips 9 = .ok (.iload_n 2, 1) := by decide +kernel
theorem dX9_trips_10 : decode cX9_trips 10 = .ok (.invokevirtual 220, 3) := by decide +kernel
theorem dX9_trips_13 : decode cX9_trips 13 = .ok (.ifCond .ne 6, 3) := by decide +kernel
theorem dX9_trips_16 : decode cX9_trips 16 = .ok (.ldc 213, 2) := by decide +kernel
theorem dX9_trips_18 : decode cX9_trips 18 = .ok (.ireturn, 1) := by decide +kernel
theorem dX9_trips_19 : decode cX9_trips 19 = .ok (.iconst 0, 1) := by decide +kernel
theorem dX9_trips_20 : decode cX9_trips 20 = .ok (.istore 4, 2) := by decide +kernel
theorem dX9_trips_22 : decode cX9_trips 22 = .ok (.iload 4, 2) := by decide +kernel
theorem dX9_trips_24 : decode cX9_trips 24 = .ok (.aload_n 0, 1) := by decide +kernel
theorem dX9_trips_25 : decode cX9_trips 25 = .ok (.getfield 76, 3) := by decide +kernel
theorem dX9_trips_28 : decode cX9_trips 28 = .ok (.if_icmp .ge 26, 3) := by decide +kernel
theorem dX9_trips_31 : decode cX9_trips 31 = .ok (.aload_n 0, 1) := by decide +kernel
theorem dX9_trips_32 : decode cX9_trips 32 = .ok (.getfield 67, 3) := by decide +kernel
theorem dX9_trips_35 : decode cX9_trips 35 = .ok (.iload 4, 2) := by decide +kernel
theorem dX9_trips_37 : decode cX9_trips 37 = .ok (.aload_n 0, 1) := by decide +kernel
theorem dX9_trips_38 : decode cX9_trips 38 = .ok (.aload_n 0, 1) := by decide +kernel
theorem dX9_trips_39 : decode cX9_trips 39 = .ok (.getfield 35, 3) := by decide +kernel
theorem dX9_trips_42 : decode cX9_trips 42 = .ok (.iload 4, 2) := by decide +kernel
theorem dX9_trips_44 : decode cX9_trips 44 = .ok (.invokevirtual 217, 3) := by decide +kernel
theorem dX9_trips_47 : decode cX9_trips 47 = .ok (.iastore, 1) := by decide +kernel
theorem dX9_trips_48 : decode cX9_trips 48 = .ok (.iinc 4 1, 3) := by decide +kernel
theorem dX9_trips_51 : decode cX9_trips 51 = .ok (.goto (-29), 3) := by decide +kernel
theorem dX9_trips_54 : decode cX9_trips 54 = .ok (.iconst 0, 1) := by decide +kernel
theorem dX9_trips_55 : decode cX9_trips 55 = .ok (.istore 4, 2) := by decide +kernel
theorem dX9_trips_57 : decode cX9_trips 57 = .ok (.iload 4, 2) := by decide +kernel
theorem dX9_trips_59 : decode cX9_trips 59 = .ok (.iconst 1, 1) := by decide +kernel
theorem dX9_trips_60 : decode cX9_trips 60 = .ok (.aload_n 0, 1) := by decide +kernel
theorem dX9_trips_61 : decode cX9_trips 61 = .ok (.getfield 76, 3) := by decide +kernel
theorem dX9_trips_64 : decode cX9_trips 64 = .ok (.ishl, 1) := by decide +kernel
theorem dX9_trips_65 : decode cX9_trips 65 = .ok (.if_icmp .ge 132, 3) := by decide +kernel
theorem dX9_trips_68 : decode cX9_trips 68 = .ok (.aload_n 0, 1) := by decide +kernel
theorem dX9_trips_69 : decode cX9_trips 69 = .ok (.getfield 57, 3) := by decide +kernel
theorem dX9_trips_72 : decode cX9_trips 72 = .ok (.iload 4, 2) := by decide +kernel
theorem dX9_trips_74 : decode cX9_trips 74 = .ok (.iload 4, 2) := by decide +kernel
theorem dX9_trips_76 : decode cX9_trips 76 = .ok (.ifCond .ne 7, 3) := by decide +kernel
theorem dX9_trips_79 : decode cX9_trips 79 = .ok (.iconst 0, 1) := by decide +kernel
theorem dX9_trips_80 : decode cX9_trips 80 = .ok (.goto 5, 3) := by decide +kernel
theorem dX9_trips_83 : decode cX9_trips 83 = .ok (.bipush 99, 2) := by decide +kernel
theorem dX9_trips_85 : decode cX9_trips 85 = .ok (.iastore, 1) := by decide +kernel
theorem dX9_trips_86 : decode cX9_trips 86 = .ok (.iconst 1, 1) := by decide +kernel
theorem dX9_trips_87 : decode cX9_trips 87 = .ok (.istore 5, 2) := by decide +kernel
theorem dX9_trips_89 : decode cX9_trips 89 = .ok (.iload 5, 2) := by decide +kernel
theorem dX9_trips_91 : decode cX9_trips 91 = .ok (.iload 4, 2) := by decide +kernel
theorem dX9_trips_93 : decode cX9_trips 93 = .ok (.if_icmp .gt 98, 3) := by decide +kernel
theorem dX9_trips_96 : decode cX9_trips 96 = .ok (.iload 5, 2) := by decide +kernel
theorem dX9_trips_98 : decode cX9_trips 98 = .ok (.iload 4, 2) := by decide +kernel
theorem dX9_trips_100 : decode cX9_trips 100 = .ok (.iconst (-1), 1) := by decide +kernel
theorem dX9_trips_101 : decode cX9_trips 101 = .ok (.ixor, 1) := by decide +kernel
theorem dX9_trips_102 : decode cX9_trips 102 = .ok (.iand, 1) := by decide +kernel
theorem dX9_trips_103 : decode cX9_trips 103 = .ok (.ifCond .ne 22, 3) := by decide +kernel
theorem dX9_trips_106 : decode cX9_trips 106 = .ok (.aload_n 0, 1) := by decide +kernel
theorem dX9_trips_107 : decode cX9_trips 107 = .ok (.iload 5, 2) := by decide +kernel
theorem dX9_trips_109 : decode cX9_trips 109 = .ok (.invokevirtual 244, 3) := by decide +kernel
theorem dX9_trips_112 : decode cX9_trips 112 = .ok (.aload_n 0, 1) := by decide +kernel
theorem dX9_trips_113 : decode cX9_trips 113 = .ok (.getfield 32, 3) := by decide +kernel
theorem dX9_trips_116 : decode cX9_trips 116 = .ok (.iload_n 2, 1) := by decide +kernel
theorem dX9_trips_117 : decode cX9_trips 117 = .ok (.iaload, 1) := by decide +kernel
theorem dX9_trips_118 : decode cX9_trips 118 = .ok (.if_icmp .gt 7, 3) := by decide +kernel
theorem dX9_trips_121 : decode cX9_trips 121 = .ok (.iconst 1, 1) := by decide +kernel
theorem dX9_trips_122 : decode cX9_trips 122 = .ok (.goto 4, 3) := by decide +kernel
theorem dX9_trips_125 : decode cX9_trips 125 = .ok (.iconst 0, 1) := by decide +kernel
theorem dX9_trips_126 : decode cX9_trips 126 = .ok (.istore 6, 2) := by decide +kernel
theorem dX9_trips_128 : decode cX9_trips 128 = .ok (.iload 6, 2) := by decide +kernel
theorem dX9_trips_130 : decode cX9_trips 130 = .ok (.ifCond .eq 20, 3) := by decide +kernel
theorem dX9_trips_133 : decode cX9_trips 133 = .ok (.aload_n 0, 1) := by decide +kernel
theorem dX9_trips_134 : decode cX9_trips 134 = .ok (.getfield 57, 3) := by decide +kernel
theorem dX9_trips_137 : decode cX9_trips 137 = .ok (.iload 4, 2) := by decide +kernel
theorem dX9_trips_139 : decode cX9_trips 139 = .ok (.iload 5, 2) := by decide +kernel
theorem dX9_trips_141 : decode cX9_trips 141 = .ok (.iconst (-1), 1) := by decide +kernel
theorem dX9_trips_142 : decode cX9_trips 142 = .ok (.ixor, 1) := by decide +kernel
theorem dX9_trips_143 : decode cX9_trips 143 = .ok (.iand, 1) := by decide +kernel
theorem dX9_trips_144 : decode cX9_trips 144 = .ok (.iaload, 1) := by decide +kernel
theorem dX9_trips_145 : decode cX9_trips 145 = .ok (.iconst 1, 1) := by decide +kernel
theorem dX9_trips_146 : decode cX9_trips 146 = .ok (.iadd, 1) := by decide +kernel
theorem dX9_trips_147 : decode cX9_trips 147 = .ok (.goto 5, 3) := by decide +kernel
theorem dX9_trips_150 : decode cX9_trips 150 = .ok (.bipush 99, 2) := by decide +kernel
theorem dX9_trips_152 : decode cX9_trips 152 = .ok (.istore 7, 2) := by decide +kernel
theorem dX9_trips_154 : decode cX9_trips 154 = .ok (.aload_n 0, 1) := by decide +kernel
theorem dX9_trips_155 : decode cX9_trips 155 = .ok (.getfield 57, 3) := by decide +kernel
theorem dX9_trips_158 : decode cX9_trips 158 = .ok (.iload 4, 2) := by decide +kernel
theorem dX9_trips_160 : decode cX9_trips 160 = .ok (.iload 7, 2) := by decide +kernel
theorem dX9_trips_162 : decode cX9_trips 162 = .ok (.aload_n 0, 1) := by decide +kernel
theorem dX9_trips_163 : decode cX9_trips 163 = .ok (.getfield 57, 3) := by decide +kernel
theorem dX9_trips_166 : decode cX9_trips 166 = .ok (.iload 4, 2) := by decide +kernel
theorem dX9_trips_168 : decode cX9_trips 168 = .ok (.iaload, 1) := by decide +kernel
theorem dX9_trips_169 : decode cX9_trips 169 = .ok (.if_icmp .ge 8, 3) := by decide +kernel
theorem dX9_trips_172 : decode cX9_trips 172 = .ok (.iload 7, 2) := by decide +kernel
theorem dX9_trips_174 : decode cX9_trips 174 = .ok (.goto 10, 3) := by decide +kernel
theorem dX9_trips_177 : decode cX9_trips 177 = .ok (.aload_n 0, 1) := by decide +kernel
theorem dX9_trips_178 : decode cX9_trips 178 = .ok (.getfield 57, 3) := by decide +kernel
theorem dX9_trips_181 : decode cX9_trips 181 = .ok (.iload 4, 2) := by decide +kernel
theorem dX9_trips_183 : decode cX9_trips 183 = .ok (.iaload, 1) := by decide +kernel
theorem dX9_trips_184 : decode cX9_trips 184 = .ok (.iastore, 1) := by decide +kernel
theorem dX9_trips_185 : decode cX9_trips 185 = .ok (.iinc 5 1, 3) := by decide +kernel
theorem dX9_trips_188 : decode cX9_trips 188 = .ok (.goto (-99), 3) := by decide +kernel
theorem dX9_trips_191 : decode cX9_trips 191 = .ok (.iinc 4 1, 3) := by decide +kernel
theorem dX9_trips_194 : decode cX9_trips 194 = .ok (.goto (-137), 3) := by decide +kernel
theorem dX9_trips_197 : decode cX9_trips 197 = .ok (.aload_n 0, 1) := by decide +kernel
theorem dX9_trips_198 : decode cX9_trips 198 = .ok (.getfield 57, 3) := by decide +kernel
theorem dX9_trips_201 : decode cX9_trips 201 = .ok (.iload_n 1, 1) := by decide +kernel
theorem dX9_trips_202 : decode cX9_trips 202 = .ok (.iaload, 1) := by decide +kernel
theorem dX9_trips_203 : decode cX9_trips 203 = .ok (.istore 4, 2) := by decide +kernel
theorem dX9_trips_205 : decode cX9_trips 205 = .ok (.iload 4, 2) := by decide +kernel
theorem dX9_trips_207 : decode cX9_trips 207 = .ok (.bipush 99, 2) := by decide +kernel
theorem dX9_trips_209 : decode cX9_trips 209 = .ok (.if_icmp .ge 8, 3) := by decide +kernel
theorem dX9_trips_212 : decode cX9_trips 212 = .ok (.iload_n 3, 1) := by decide +kernel
theorem dX9_trips_213 : decode cX9_trips 213 = .ok (.iconst (-1), 1) := by decide +kernel
theorem dX9_trips_214 : decode cX9_trips 214 = .ok (.if_icmp .ne 17, 3) := by decide +kernel
theorem dX9_trips_217 : decode cX9_trips 217 = .ok (.iload 4, 2) := by decide +kernel
theorem dX9_trips_219 : decode cX9_trips 219 = .ok (.bipush 99, 2) := by decide +kernel
theorem dX9_trips_221 : decode cX9_trips 221 = .ok (.if_icmp .lt 7, 3) := by decide +kernel
theorem dX9_trips_224 : decode cX9_trips 224 = .ok (.iconst (-1), 1) := by decide +kernel
theorem dX9_trips_225 : decode cX9_trips 225 = .ok (.goto 5, 3) := by decide +kernel
theorem dX9_trips_228 : decode cX9_trips 228 = .ok (.iload 4, 2) := by decide +kernel
theorem dX9_trips_230 : decode cX9_trips 230 = .ok (.ireturn, 1) := by decide +kernel
theorem dX9_trips_231 : decode cX9_trips 231 = .ok (.iload_n 1, 1) := by decide +kernel
theorem dX9_trips_232 : decode cX9_trips 232 = .ok (.istore 5, 2) := by decide +kernel
theorem dX9_trips_234 : decode cX9_trips 234 = .ok (.iconst (-1), 1) := by decide +kernel
theorem dX9_trips_235 : decode cX9_trips 235 = .ok (.istore 6, 2) := by decide +kernel
theorem dX9_trips_237 : decode cX9_trips 237 = .ok (.iconst 0, 1) := by decide +kernel
theorem dX9_trips_238 : decode cX9_trips 238 = .ok (.istore 7, 2) := by decide +kernel
theorem dX9_trips_240 : decode cX9_trips 240 = .ok (.iload 7, 2) := by decide +kernel
theorem dX9_trips_242 : decode cX9_trips 242 = .ok (.iload_n 3, 1) := by decide +kernel
theorem dX9_trips_243 : decode cX9_trips 243 = .ok (.if_icmp .gt 113, 3) := by decide +kernel
theorem dX9_trips_246 : decode cX9_trips 246 = .ok (.iload 7, 2) := by decide +kernel
theorem dX9_trips_248 : decode cX9_trips 248 = .ok (.iload 4, 2) := by decide +kernel
theorem dX9_trips_250 : decode cX9_trips 250 = .ok (.if_icmp .ge 106, 3) := by decide +kernel
theorem dX9_trips_253 : decode cX9_trips 253 = .ok (.iconst (-1), 1) := by decide +kernel
theorem dX9_trips_254 : decode cX9_trips 254 = .ok (.istore 6, 2) := by decide +kernel
theorem dX9_trips_256 : decode cX9_trips 256 = .ok (.iload 5, 2) := by decide +kernel
theorem dX9_trips_258 : decode cX9_trips 258 = .ok (.istore 8, 2) := by decide +kernel
theorem dX9_trips_260 : decode cX9_trips 260 = .ok (.iload 8, 2) := by decide +kernel
theorem dX9_trips_262 : decode cX9_trips 262 = .ok (.ifCond .le 79, 3) := by decide +kernel
theorem dX9_trips_265 : decode cX9_trips 265 = .ok (.iload 8, 2) := by decide +kernel
theorem dX9_trips_267 : decode cX9_trips 267 = .ok (.iload 5, 2) := by decide +kernel
theorem dX9_trips_269 : decode cX9_trips 269 = .ok (.iconst (-1), 1) := by decide +kernel
theorem dX9_trips_270 : decode cX9_trips 270 = .ok (.ixor, 1) := by decide +kernel
theorem dX9_trips_271 : decode cX9_trips 271 = .ok (.iand, 1) := by decide +kernel
theorem dX9_trips_272 : decode cX9_trips 272 = .ok (.ifCond .ne 22, 3) := by decide +kernel
theorem dX9_trips_275 : decode cX9_trips 275 = .ok (.aload_n 0, 1) := by decide +kernel
theorem dX9_trips_276 : decode cX9_trips 276 = .ok (.iload 8, 2) := by decide +kernel
theorem dX9_trips_278 : decode cX9_trips 278 = .ok (.invokevirtual 244, 3) := by decide +kernel
theorem dX9_trips_281 : decode cX9_trips 281 = .ok (.aload_n 0, 1) := by decide +kernel
theorem dX9_trips_282 : decode cX9_trips 282 = .ok (.getfield 32, 3) := by decide +kernel
theorem dX9_trips_285 : decode cX9_trips 285 = .ok (.iload_n 2, 1) := by decide +kernel
theorem dX9_trips_286 : decode cX9_trips 286 = .ok (.iaload, 1) := by decide +kernel
theorem dX9_trips_287 : decode cX9_trips 287 = .ok (.if_icmp .gt 7, 3) := by decide +kernel
theorem dX9_trips_290 : decode cX9_trips 290 = .ok (.iconst 1, 1) := by decide +kernel
theorem dX9_trips_291 : decode cX9_trips 291 = .ok (.goto 4, 3) := by decide +kernel
theorem dX9_trips_294 : decode cX9_trips 294 = .ok (.iconst 0, 1) := by decide +kernel
theorem dX9_trips_295 : decode cX9_trips 295 = .ok (.istore 9, 2) := by decide +kernel
theorem dX9_trips_297 : decode cX9_trips 297 = .ok (.iload 9, 2) := by decide +kernel
theorem dX9_trips_299 : decode cX9_trips 299 = .ok (.ifCond .eq 32, 3) := by decide +kernel
theorem dX9_trips_302 : decode cX9_trips 302 = .ok (.aload_n 0, 1) := by decide +kernel
theorem dX9_trips_303 : decode cX9_trips 303 = .ok (.getfield 57, 3) := by decide +kernel
theorem dX9_trips_306 : decode cX9_trips 306 = .ok (.iload 5, 2) := by decide +kernel
theorem dX9_trips_308 : decode cX9_trips 308 = .ok (.iload 8, 2) := by decide +kernel
theorem dX9_trips_310 : decode cX9_trips 310 = .ok (.iconst (-1), 1) := by decide +kernel
theorem dX9_trips_311 : decode cX9_trips 311 = .ok (.ixor, 1) := by decide +kernel
theorem dX9_trips_312 : decode cX9_trips 312 = .ok (.iand, 1) := by decide +kernel
theorem dX9_trips_313 : decode cX9_trips 313 = .ok (.iaload, 1) := by decide +kernel
theorem dX9_trips_314 : decode cX9_trips 314 = .ok (.aload_n 0, 1) := by decide +kernel
theorem dX9_trips_315 : decode cX9_trips 315 = .ok (.getfield 57, 3) := by decide +kernel
theorem dX9_trips_318 : decode cX9_trips 318 = .ok (.iload 5, 2) := by decide +kernel
theorem dX9_trips_320 : decode cX9_trips 320 = .ok (.iaload, 1) := by decide +kernel
theorem dX9_trips_321 : decode cX9_trips 321 = .ok (.iconst 1, 1) := by decide +kernel
theorem dX9_trips_322 : decode cX9_trips 322 = .ok (.isub, 1) := by decide +kernel
theorem dX9_trips_323 : decode cX9_trips 323 = .ok (.if_icmp .ne 8, 3) := by decide +kernel
theorem dX9_trips_326 : decode cX9_trips 326 = .ok (.iload 8, 2) := by decide +kernel
theorem dX9_trips_328 : decode cX9_trips 328 = .ok (.goto 5, 3) := by decide +kernel
theorem dX9_trips_331 : decode cX9_trips 331 = .ok (.iload 6, 2) := by decide +kernel
theorem dX9_trips_333 : decode cX9_trips 333 = .ok (.istore 6, 2) := by decide +kernel
theorem dX9_trips_335 : decode cX9_trips 335 = .ok (.iinc 8 (-1), 3) := by decide +kernel
theorem dX9_trips_338 : decode cX9_trips 338 = .ok (.goto (-78), 3) := by decide +kernel
theorem dX9_trips_341 : decode cX9_trips 341 = .ok (.iload 5, 2) := by decide +kernel
theorem dX9_trips_343 : decode cX9_trips 343 = .ok (.iload 6, 2) := by decide +kernel
theorem dX9_trips_345 : decode cX9_trips 345 = .ok (.iconst (-1), 1) := by decide +kernel
theorem dX9_trips_346 : decode cX9_trips 346 = .ok (.ixor, 1) := by decide +kernel
theorem dX9_trips_347 : decode cX9_trips 347 = .ok (.iand, 1) := by decide +kernel
theorem dX9_trips_348 : decode cX9_trips 348 = .ok (.istore 5, 2) := by decide +kernel
theorem dX9_trips_350 : decode cX9_trips 350 = .ok (.iinc 7 1, 3) := by decide +kernel
theorem dX9_trips_353 : decode cX9_trips 353 = .ok (.goto (-113), 3) := by decide +kernel
theorem dX9_trips_356 : decode cX9_trips 356 = .ok (.iload_n 3, 1) := by decide +kernel
theorem dX9_trips_357 : decode cX9_trips 357 = .ok (.iconst 0, 1) := by decide +kernel
theorem dX9_trips_358 : decode cX9_trips 358 = .ok (.iload 4, 2) := by decide +kernel
theorem dX9_trips_360 : decode cX9_trips 360 = .ok (.iconst 1, 1) := by decide +kernel
theorem dX9_trips_361 : decode cX9_trips 361 = .ok (.isub, 1) := by decide +kernel
theorem dX9_trips_362 : decode cX9_trips 362 = .ok (.invokestatic 79, 3) := by decide +kernel
theorem dX9_trips_365 : decode cX9_trips 365 = .ok (.ifCond .eq 8, 3) := by decide +kernel
theorem dX9_trips_368 : decode cX9_trips 368 = .ok (.iload 6, 2) := by decide +kernel
theorem dX9_trips_370 : decode cX9_trips 370 = .ok (.goto 4, 3) := by decide +kernel
theorem dX9_trips_373 : decode cX9_trips 373 = .ok (.iconst (-1), 1) := by decide +kernel
theorem dX9_trips_374 : decode cX9_trips 374 = .ok (.ireturn, 1) := by decide +kernel
theorem dX9_layWays_0 : decode cX9_layWays 0 = .ok (.iconst 0, 1) := by decide +kernel
theorem dX9_layWays_1 : decode cX9_layWays 1 = .ok (.istore 4, 2) := by decide +kernel
theorem dX9_layWays_3 : decode cX9_layWays 3 = .ok (.iload 4, 2) := by decide +kernel
theorem dX9_layWays_5 : decode cX9_layWays 5 = .ok (.sipush 1200, 3) := by decide +kernel
theorem dX9_layWays_8 : decode cX9_layWays 8 = .ok (.if_icmp .ge 17, 3) := by decide +kernel
theorem dX9_layWays_11 : decode cX9_layWays 11 = .ok (.aload_n 0, 1) := by decide +kernel
theorem dX9_layWays_12 : decode cX9_layWays 12 = .ok (.getfield 60, 3) := by decide +kernel
theorem dX9_layWays_15 : decode cX9_layWays 15 = .ok (.iload 4, 2) := by decide +kernel
theorem dX9_layWays_17 : decode cX9_layWays 17 = .ok (.lconst 0, 1) := by decide +kernel
theorem dX9_layWays_18 : decode cX9_layWays 18 = .ok (.lastore, 1) := by decide +kernel
theorem dX9_layWays_19 : decode cX9_layWays 19 = .ok (.iinc 4 1, 3) := by decide +kernel
theorem dX9_layWays_22 : decode cX9_layWays 22 = .ok (.goto (-19), 3) := by decide +kernel
theorem dX9_layWays_25 : decode cX9_layWays 25 = .ok (.aload_n 0, 1) := by decide +kernel
theorem dX9_layWays_26 : decode cX9_layWays 26 = .ok (.getfield 60, 3) := by decide +kernel
theorem dX9_layWays_29 : decode cX9_layWays 29 = .ok (.sipush 600, 3) := by decide +kernel
theorem dX9_layWays_32 : decode cX9_layWays 32 = .ok (.lconst 1, 1) := by decide +kernel
theorem dX9_layWays_33 : decode cX9_layWays 33 = .ok (.lastore, 1) := by decide +kernel
theorem dX9_layWays_34 : decode cX9_layWays 34 = .ok (.iconst 0, 1) := by decide +kernel
theorem dX9_layWays_35 : decode cX9_layWays 35 = .ok (.istore 4, 2) := by decide +kernel
theorem dX9_layWays_37 : decode cX9_layWays 37 = .ok (.iload 4, 2) := by decide +kernel
theorem dX9_layWays_39 : decode cX9_layWays 39 = .ok (.aload_n 0, 1) := by decide +kernel
theorem dX9_layWays_40 : decode cX9_layWays 40 = .ok (.getfield 83, 3) := by decide +kernel
theorem dX9_layWays_43 : decode cX9_layWays 43 = .ok (.if_icmp .ge 190, 3) := by decide +kernel
theorem dX9_layWays_46 : decode cX9_layWays 46 = .ok (.aload_n 0, 1) := by decide +kernel
theorem dX9_layWays_47 : decode cX9_layWays 47 = .ok (.iload 4, 2) := by decide +kernel
theorem dX9_layWays_49 : decode cX9_layWays 49 = .ok (.invokevirtual 182, 3) := by decide +kernel
theorem dX9_layWays_52 : decode cX9_layWays 52 = .ok (.iload_n 1, 1) := by decide +kernel
theorem dX9_layWays_53 : decode cX9_layWays 53 = .ok (.if_icmp .eq 6, 3) := by decide +kernel
theorem dX9_layWays_56 : decode cX9_layWays 56 = .ok (.goto 171, 3) := by decide +kernel
theorem dX9_layWays_59 : decode cX9_layWays 59 = .ok (.iconst 0, 1) := by decide +kernel
theorem dX9_layWays_60 : decode cX9_layWays 60 = .ok (.istore 5, 2) := by decide +kernel
theorem dX9_layWays_62 : decode cX9_layWays 62 = .ok (.iload 5, 2) := by decide +kernel
theorem dX9_layWays_64 : decode cX9_layWays 64 = .ok (.sipush 1200, 3) := by decide +kernel
theorem dX9_layWays_67 : decode cX9_layWays 67 = .ok (.if_icmp .ge 17, 3) := by decide +kernel
theorem dX9_layWays_70 : decode cX9_layWays 70 = .ok (.aload_n 0, 1) := by decide +kernel
theorem dX9_layWays_71 : decode cX9_layWays 71 = .ok (.getfield 64, 3) := by decide +kernel
theorem dX9_layWays_74 : decode cX9_layWays 74 = .ok (.iload 5, 2) := by decide +kernel
theorem dX9_layWays_76 : decode cX9_layWays 76 = .ok (.lconst 0, 1) := by decide +kernel
theorem dX9_layWays_77 : decode cX9_layWays 77 = .ok (.lastore, 1) := by decide +kernel
theorem dX9_layWays_78 : decode cX9_layWays 78 = .ok (.iinc 5 1, 3) := by decide +kernel
theorem dX9_layWays_81 : decode cX9_layWays 81 = .ok (.goto (-19), 3) := by decide +kernel
theorem dX9_layWays_84 : decode cX9_layWays 84 = .ok (.iconst 0, 1) := by decide +kernel
theorem dX9_layWays_85 : decode cX9_layWays 85 = .ok (.istore 5, 2) := by decide +kernel
theorem dX9_layWays_87 : decode cX9_layWays 87 = .ok (.iload 5, 2) := by decide +kernel
theorem dX9_layWays_89 : decode cX9_layWays 89 = .ok (.aload_n 0, 1) := by decide +kernel
theorem dX9_layWays_90 : decode cX9_layWays 90 = .ok (.getfield 76, 3) := by decide +kernel
theorem dX9_layWays_93 : decode cX9_layWays 93 = .ok (.if_icmp .ge 103, 3) := by decide +kernel
theorem dX9_layWays_96 : decode cX9_layWays 96 = .ok (.aload_n 0, 1) := by decide +kernel
theorem dX9_layWays_97 : decode cX9_layWays 97 = .ok (.iload 4, 2) := by decide +kernel
theorem dX9_layWays_99 : decode cX9_layWays 99 = .ok (.invokevirtual 193, 3) := by decide +kernel
theorem dX9_layWays_102 : decode cX9_layWays 102 = .ok (.ifCond .eq 16, 3) := by decide +kernel
theorem dX9_layWays_105 : decode cX9_layWays 105 = .ok (.aload_n 0, 1) := by decide +kernel
theorem dX9_layWays_106 : decode cX9_layWays 106 = .ok (.iload 4, 2) := by decide +kernel
theorem dX9_layWays_108 : decode cX9_layWays 108 = .ok (.invokevirtual 186, 3) := by decide +kernel
theorem dX9_layWays_111 : decode cX9_layWays 111 = .ok (.ineg, 1) := by decide +kernel
theorem dX9_layWays_112 : decode cX9_layWays 112 = .ok (.iload 5, 2) := by decide +kernel
theorem dX9_layWays_114 : decode cX9_layWays 114 = .ok (.imul, 1) := by decide +kernel
theorem dX9_layWays_115 : decode cX9_layWays 115 = .ok (.goto 12, 3) := by decide +kernel
theorem dX9_layWays_118 : decode cX9_layWays 118 = .ok (.aload_n 0, 1) := by decide +kernel
theorem dX9_layWays_119 : decode cX9_layWays 119 = .ok (.iload 4, 2) := by decide +kernel
theorem dX9_layWays_121 : decode cX9_layWays 121 = .ok (.invokevirtual 186, 3) := by decide +kernel
theorem dX9_layWays_124 : decode cX9_layWays 124 = .ok (.iload 5, 2) := by decide +kernel
theorem dX9_layWays_126 : decode cX9_layWays 126 = .ok (.imul, 1) := by decide +kernel
theorem dX9_layWays_127 : decode cX9_layWays 127 = .ok (.istore 6, 2) := by decide +kernel
theorem dX9_layWays_129 : decode cX9_layWays 129 = .ok (.iconst 0, 1) := by decide +kernel
theorem dX9_layWays_130 : decode cX9_layWays 130 = .ok (.istore 7, 2) := by decide +kernel
theorem dX9_layWays_132 : decode cX9_layWays 132 = .ok (.iload 7, 2) := by decide +kernel
theorem dX9_layWays_134 : decode cX9_layWays 134 = .ok (.sipush 1200, 3) := by decide +kernel
theorem dX9_layWays_137 : decode cX9_layWays 137 = .ok (.if_icmp .ge 53, 3) := by decide +kernel
theorem dX9_layWays_140 : decode cX9_layWays 140 = .ok (.iload 4, 2) := by decide +kernel
theorem dX9_layWays_142 : decode cX9_layWays 142 = .ok (.iload_n 2, 1) := by decide +kernel
theorem dX9_layWays_143 : decode cX9_layWays 143 = .ok (.if_icmp .ne 9, 3) := by decide +kernel
theorem dX9_layWays_146 : decode cX9_layWays 146 = .ok (.iload 5, 2) := by decide +kernel
theorem dX9_layWays_148 : decode cX9_layWays 148 = .ok (.iload_n 3, 1) := by decide +kernel
theorem dX9_layWays_149 : decode cX9_layWays 149 = .ok (.if_icmp .ne 41, 3) := by decide +kernel
theorem dX9_layWays_152 : decode cX9_layWays 152 = .ok (.aload_n 0, 1) := by decide +kernel
theorem dX9_layWays_153 : decode cX9_layWays 153 = .ok (.getfield 60, 3) := by decide +kernel
theorem dX9_layWays_156 : decode cX9_layWays 156 = .ok (.iload 7, 2) := by decide +kernel
theorem dX9_layWays_158 : decode cX9_layWays 158 = .ok (.laload, 1) := by decide +kernel
theorem dX9_layWays_159 : decode cX9_layWays 159 = .ok (.lconst 0, 1) := by decide +kernel
theorem dX9_layWays_160 : decode cX9_layWays 160 = .ok (.lcmp, 1) := by decide +kernel
theorem dX9_layWays_161 : decode cX9_layWays 161 = .ok (.ifCond .le 23, 3) := by decide +kernel
theorem dX9_layWays_164 : decode cX9_layWays 164 = .ok (.aload_n 0, 1) := by decide +kernel
theorem dX9_layWays_165 : decode cX9_layWays 165 = .ok (.getfield 64, 3) := by decide +kernel
theorem dX9_layWays_168 : decode cX9_layWays 168 = .ok (.iload 7, 2) := by decide +kernel
theorem dX9_layWays_170 : decode cX9_layWays 170 = .ok (.iload 6, 2) := by decide +kernel
theorem dX9_layWays_172 : decode cX9_layWays 172 = .ok (.iadd, 1) := by decide +kernel
theorem dX9_layWays_173 : decode cX9_layWays 173 = .ok (.dup2, 1) := by decide +kernel
theorem dX9_layWays_174 : decode cX9_layWays 174 = .ok (.laload, 1) := by decide +kernel
theorem dX9_layWays_175 : decode cX9_layWays 175 = .ok (.aload_n 0, 1) := by decide +kernel
theorem dX9_layWays_176 : decode cX9_layWays 176 = .ok (.getfield 60, 3) := by decide +kernel
theorem dX9_layWays_179 : decode cX9_layWays 179 = .ok (.iload 7, 2) := by decide +kernel
theorem dX9_layWays_181 : decode cX9_layWays 181 = .ok (.laload, 1) := by decide +kernel
theorem dX9_layWays_182 : decode cX9_layWays 182 = .ok (.ladd, 1) := by decide +kernel
theorem dX9_layWays_183 : decode cX9_layWays 183 = .ok (.lastore, 1) := by decide +kernel
theorem dX9_layWays_184 : decode cX9_layWays 184 = .ok (.iinc 7 1, 3) := by decide +kernel
theorem dX9_layWays_187 : decode cX9_layWays 187 = .ok (.goto (-55), 3) := by decide +kernel
theorem dX9_layWays_190 : decode cX9_layWays 190 = .ok (.iinc 5 1, 3) := by decide +kernel
theorem dX9_layWays_193 : decode cX9_layWays 193 = .ok (.goto (-106), 3) := by decide +kernel
theorem dX9_layWays_196 : decode cX9_layWays 196 = .ok (.iconst 0, 1) := by decide +kernel
theorem dX9_layWays_197 : decode cX9_layWays 197 = .ok (.istore 5, 2) := by decide +kernel
theorem dX9_layWays_199 : decode cX9_layWays 199 = .ok (.iload 5, 2) := by decide +kernel
theorem dX9_layWays_201 : decode cX9_layWays 201 = .ok (.sipush 1200, 3) := by decide +kernel
theorem dX9_layWays_204 : decode cX9_layWays 204 = .ok (.if_icmp .ge 23, 3) := by decide +kernel
theorem dX9_layWays_207 : decode cX9_layWays 207 = .ok (.aload_n 0, 1) := by decide +kernel
theorem dX9_layWays_208 : decode cX9_layWays 208 = .ok (.getfield 60, 3) := by decide +kernel
theorem dX9_layWays_211 : decode cX9_layWays 211 = .ok (.iload 5, 2) := by decide +kernel
theorem dX9_layWays_213 : decode cX9_layWays 213 = .ok (.aload_n 0, 1) := by decide +kernel
theorem dX9_layWays_214 : decode cX9_layWays 214 = .ok (.getfield 64, 3) := by decide +kernel
theorem dX9_layWays_217 : decode cX9_layWays 217 = .ok (.iload 5, 2) := by decide +kernel
theorem dX9_layWays_219 : decode cX9_layWays 219 = .ok (.laload, 1) := by decide +kernel
theorem dX9_layWays_220 : decode cX9_layWays 220 = .ok (.lastore, 1) := by decide +kernel
theorem dX9_layWays_221 : decode cX9_layWays 221 = .ok (.iinc 5 1, 3) := by decide +kernel
theorem dX9_layWays_224 : decode cX9_layWays 224 = .ok (.goto (-25), 3) := by decide +kernel
theorem dX9_layWays_227 : decode cX9_layWays 227 = .ok (.iinc 4 1, 3) := by decide +kernel
theorem dX9_layWays_230 : decode cX9_layWays 230 = .ok (.goto (-193), 3) := by decide +kernel
theorem dX9_layWays_233 : decode cX9_layWays 233 = .ok (.return_, 1) := by decide +kernel
theorem dX9_waysTo_0 : decode cX9_waysTo 0 = .ok (.iload_n 1, 1) := by decide +kernel
theorem dX9_waysTo_1 : decode cX9_waysTo 1 = .ok (.sipush (-599), 3) := by decide +kernel
theorem dX9_waysTo_4 : decode cX9_waysTo 4 = .ok (.sipush 599, 3) := by decide +kernel
theorem dX9_waysTo_7 : decode cX9_waysTo 7 = .ok (.invokestatic 79, 3) := by decide +kernel
theorem dX9_waysTo_10 : decode cX9_waysTo 10 = .ok (.ifCond .eq 16, 3) := by decide +kernel
theorem dX9_waysTo_13 : decode cX9_waysTo 13 = .ok (.aload_n 0, 1) := by decide +kernel
theorem dX9_waysTo_14 : decode cX9_waysTo 14 = .ok (.getfield 60, 3) := by decide +kernel
theorem dX9_waysTo_17 : decode cX9_waysTo 17 = .ok (.sipush 600, 3) := by decide +kernel
theorem dX9_waysTo_20 : decode cX9_waysTo 20 = .ok (.iload_n 1, 1) := by decide +kernel
theorem dX9_waysTo_21 : decode cX9_waysTo 21 = .ok (.iadd, 1) := by decide +kernel
theorem dX9_waysTo_22 : decode cX9_waysTo 22 = .ok (.laload, 1) := by decide +kernel
theorem dX9_waysTo_23 : decode cX9_waysTo 23 = .ok (.goto 4, 3) := by decide +kernel
theorem dX9_waysTo_26 : decode cX9_waysTo 26 = .ok (.lconst 0, 1) := by decide +kernel
theorem dX9_waysTo_27 : decode cX9_waysTo 27 = .ok (.lreturn, 1) := by decide +kernel
theorem dX9_counted_0 : decode cX9_counted 0 = .ok (.aload_n 0, 1) := by decide +kernel
theorem dX9_counted_1 : decode cX9_counted 1 = .ok (.iload_n 1, 1) := by decide +kernel
theorem dX9_counted_2 : decode cX9_counted 2 = .ok (.invokevirtual 214, 3) := by decide +kernel
theorem dX9_counted_5 : decode cX9_counted 5 = .ok (.ifCond .eq 16, 3) := by decide +kernel
theorem dX9_counted_8 : decode cX9_counted 8 = .ok (.iload_n 3, 1) := by decide +kernel
theorem dX9_counted_9 : decode cX9_counted 9 = .ok (.iconst (-1), 1) := by decide +kernel
theorem dX9_counted_10 : decode cX9_counted 10 = .ok (.if_icmp .eq 14, 3) := by decide +kernel
theorem dX9_counted_13 : decode cX9_counted 13 = .ok (.aload_n 0, 1) := by decide +kernel
theorem dX9_counted_14 : decode cX9_counted 14 = .ok (.iload_n 3, 1) := by decide +kernel
theorem dX9_counted_15 : decode cX9_counted 15 = .ok (.invokevirtual 210, 3) := by decide +kernel
theorem dX9_counted_18 : decode cX9_counted 18 = .ok (.ifCond .ne 6, 3) := by decide +kernel
theorem dX9_counted_21 : decode cX9_counted 21 = .ok (.ldc 213, 2) := by decide +kernel
theorem dX9_counted_23 : decode cX9_counted 23 = .ok (.ireturn, 1) := by decide +kernel
theorem dX9_counted_24 : decode cX9_counted 24 = .ok (.iload_n 2, 1) := by decide +kernel
theorem dX9_counted_25 : decode cX9_counted 25 = .ok (.sipush (-999), 3) := by decide +kernel
theorem dX9_counted_28 : decode cX9_counted 28 = .ok (.sipush 999, 3) := by decide +kernel
theorem dX9_counted_31 : decode cX9_counted 31 = .ok (.invokestatic 79, 3) := by decide +kernel
theorem dX9_counted_34 : decode cX9_counted 34 = .ok (.ifCond .eq 13, 3) := by decide +kernel
theorem dX9_counted_37 : decode cX9_counted 37 = .ok (.iload 4, 2) := by decide +kernel
theorem dX9_counted_39 : decode cX9_counted 39 = .ok (.iconst 0, 1) := by decide +kernel
theorem dX9_counted_40 : decode cX9_counted 40 = .ok (.iconst 1, 1) := by decide +kernel
theorem dX9_counted_41 : decode cX9_counted 41 = .ok (.invokestatic 79, 3) := by decide +kernel
theorem dX9_counted_44 : decode cX9_counted 44 = .ok (.ifCond .ne 6, 3) := by decide +kernel
theorem dX9_counted_47 : decode cX9_counted 47 = .ok (.ldc 89, 2) := by decide +kernel
theorem dX9_counted_49 : decode cX9_counted 49 = .ok (.ireturn, 1) := by decide +kernel
theorem dX9_counted_50 : decode cX9_counted 50 = .ok (.iload_n 3, 1) := by decide +kernel
theorem dX9_counted_51 : decode cX9_counted 51 = .ok (.iconst (-1), 1) := by decide +kernel
theorem dX9_counted_52 : decode cX9_counted 52 = .ok (.if_icmp .ne 17, 3) := by decide +kernel
theorem dX9_counted_55 : decode cX9_counted 55 = .ok (.aload_n 0, 1) := by decide +kernel
theorem dX9_counted_56 : decode cX9_counted 56 = .ok (.iload_n 1, 1) := by decide +kernel
theorem dX9_counted_57 : decode cX9_counted 57 = .ok (.iconst (-1), 1) := by decide +kernel
theorem dX9_counted_58 : decode cX9_counted 58 = .ok (.iconst 0, 1) := by decide +kernel
theorem dX9_counted_59 : decode cX9_counted 59 = .ok (.invokevirtual 247, 3) := by decide +kernel
theorem dX9_counted_62 : decode cX9_counted 62 = .ok (.aload_n 0, 1) := by decide +kernel
theorem dX9_counted_63 : decode cX9_counted 63 = .ok (.iload_n 2, 1) := by decide +kernel
theorem dX9_counted_64 : decode cX9_counted 64 = .ok (.invokevirtual 251, 3) := by decide +kernel
theorem dX9_counted_67 : decode cX9_counted 67 = .ok (.l2i, 1) := by decide +kernel
theorem dX9_counted_68 : decode cX9_counted 68 = .ok (.ireturn, 1) := by decide +kernel
theorem dX9_counted_69 : decode cX9_counted 69 = .ok (.iconst (-1), 1) := by decide +kernel
theorem dX9_counted_70 : decode cX9_counted 70 = .ok (.istore 5, 2) := by decide +kernel
theorem dX9_counted_72 : decode cX9_counted 72 = .ok (.iconst 0, 1) := by decide +kernel
theorem dX9_counted_73 : decode cX9_counted 73 = .ok (.istore 6, 2) := by decide +kernel
theorem dX9_counted_75 : decode cX9_counted 75 = .ok (.iload 6, 2) := by decide +kernel
theorem dX9_counted_77 : decode cX9_counted 77 = .ok (.aload_n 0, 1) := by decide +kernel
theorem dX9_counted_78 : decode cX9_counted 78 = .ok (.getfield 76, 3) := by decide +kernel
theorem dX9_counted_81 : decode cX9_counted 81 = .ok (.if_icmp .ge 66, 3) := by decide +kernel
theorem dX9_counted_84 : decode cX9_counted 84 = .ok (.aload_n 0, 1) := by decide +kernel
theorem dX9_counted_85 : decode cX9_counted 85 = .ok (.iload_n 3, 1) := by decide +kernel
theorem dX9_counted_86 : decode cX9_counted 86 = .ok (.invokevirtual 182, 3) := by decide +kernel
theorem dX9_counted_89 : decode cX9_counted 89 = .ok (.iload_n 1, 1) := by decide +kernel
theorem dX9_counted_90 : decode cX9_counted 90 = .ok (.if_icmp .ne 57, 3) := by decide +kernel
theorem dX9_counted_93 : decode cX9_counted 93 = .ok (.iload 4, 2) := by decide +kernel
theorem dX9_counted_95 : decode cX9_counted 95 = .ok (.ifCond .ne 15, 3) := by decide +kernel
theorem dX9_counted_98 : decode cX9_counted 98 = .ok (.aload_n 0, 1) := by decide +kernel
theorem dX9_counted_99 : decode cX9_counted 99 = .ok (.getfield 76, 3) := by decide +kernel
theorem dX9_counted_102 : decode cX9_counted 102 = .ok (.iconst 1, 1) := by decide +kernel
theorem dX9_counted_103 : decode cX9_counted 103 = .ok (.isub, 1) := by decide +kernel
theorem dX9_counted_104 : decode cX9_counted 104 = .ok (.iload 6, 2) := by decide +kernel
theorem dX9_counted_106 : decode cX9_counted 106 = .ok (.isub, 1) := by decide +kernel
theorem dX9_counted_107 : decode cX9_counted 107 = .ok (.goto 5, 3) := by decide +kernel
theorem dX9_counted_110 : decode cX9_counted 110 = .ok (.iload 6, 2) := by decide +kernel
theorem dX9_counted_112 : decode cX9_counted 112 = .ok (.istore 7, 2) := by decide +kernel
theorem dX9_counted_114 : decode cX9_counted 114 = .ok (.aload_n 0, 1) := by decide +kernel
theorem dX9_counted_115 : decode cX9_counted 115 = .ok (.iload_n 1, 1) := by decide +kernel
theorem dX9_counted_116 : decode cX9_counted 116 = .ok (.iload_n 3, 1) := by decide +kernel
theorem dX9_counted_117 : decode cX9_counted 117 = .ok (.iload 7, 2) := by decide +kernel
theorem dX9_counted_119 : decode cX9_counted 119 = .ok (.invokevirtual 247, 3) := by decide +kernel
theorem dX9_counted_122 : decode cX9_counted 122 = .ok (.aload_n 0, 1) := by decide +kernel
theorem dX9_counted_123 : decode cX9_counted 123 = .ok (.iload_n 2, 1) := by decide +kernel
theorem dX9_counted_124 : decode cX9_counted 124 = .ok (.invokevirtual 251, 3) := by decide +kernel
theorem dX9_counted_127 : decode cX9_counted 127 = .ok (.lconst 0, 1) := by decide +kernel
theorem dX9_counted_128 : decode cX9_counted 128 = .ok (.lcmp, 1) := by decide +kernel
theorem dX9_counted_129 : decode cX9_counted 129 = .ok (.ifCond .le 8, 3) := by decide +kernel
theorem dX9_counted_132 : decode cX9_counted 132 = .ok (.iload 7, 2) := by decide +kernel
theorem dX9_counted_134 : decode cX9_counted 134 = .ok (.goto 5, 3) := by decide +kernel
theorem dX9_counted_137 : decode cX9_counted 137 = .ok (.iload 5, 2) := by decide +kernel
theorem dX9_counted_139 : decode cX9_counted 139 = .ok (.istore 5, 2) := by decide +kernel
theorem dX9_counted_141 : decode cX9_counted 141 = .ok (.iinc 6 1, 3) := by decide +kernel
theorem dX9_counted_144 : decode cX9_counted 144 = .ok (.goto (-69), 3) := by decide +kernel
theorem dX9_counted_147 : decode cX9_counted 147 = .ok (.iload 5, 2) := by decide +kernel
theorem dX9_counted_149 : decode cX9_counted 149 = .ok (.ireturn, 1) := by decide +kernel
theorem dX9_lies_0 : decode cX9_lies 0 = .ok (.aload_n 0, 1) := by decide +kernel
theorem dX9_lies_1 : decode cX9_lies 1 = .ok (.iload_n 1, 1) := by decide +kernel
theorem dX9_lies_2 : decode cX9_lies 2 = .ok (.invokevirtual 214, 3) := by decide +kernel
theorem dX9_lies_5 : decode cX9_lies 5 = .ok (.ifCond .ne 6, 3) := by decide +kernel
theorem dX9_lies_8 : decode cX9_lies 8 = .ok (.ldc 213, 2) := by decide +kernel
theorem dX9_lies_10 : decode cX9_lies 10 = .ok (.ireturn, 1) := by decide +kernel
theorem dX9_lies_11 : decode cX9_lies 11 = .ok (.iload_n 2, 1) := by decide +kernel
theorem dX9_lies_12 : decode cX9_lies 12 = .ok (.sipush (-999), 3) := by decide +kernel
theorem dX9_lies_15 : decode cX9_lies 15 = .ok (.sipush 999, 3) := by decide +kernel
theorem dX9_lies_18 : decode cX9_lies 18 = .ok (.invokestatic 79, 3) := by decide +kernel
theorem dX9_lies_21 : decode cX9_lies 21 = .ok (.ifCond .eq 12, 3) := by decide +kernel
theorem dX9_lies_24 : decode cX9_lies 24 = .ok (.iload_n 3, 1) := by decide +kernel
theorem dX9_lies_25 : decode cX9_lies 25 = .ok (.iconst 0, 1) := by decide +kernel
theorem dX9_lies_26 : decode cX9_lies 26 = .ok (.iconst 2, 1) := by decide +kernel
theorem dX9_lies_27 : decode cX9_lies 27 = .ok (.invokestatic 79, 3) := by decide +kernel
theorem dX9_lies_30 : decode cX9_lies 30 = .ok (.ifCond .ne 6, 3) := by decide +kernel
theorem dX9_lies_33 : decode cX9_lies 33 = .ok (.ldc 89, 2) := by decide +kernel
theorem dX9_lies_35 : decode cX9_lies 35 = .ok (.ireturn, 1) := by decide +kernel
theorem dX9_lies_36 : decode cX9_lies 36 = .ok (.iconst 0, 1) := by decide +kernel
theorem dX9_lies_37 : decode cX9_lies 37 = .ok (.istore 4, 2) := by decide +kernel
theorem dX9_lies_39 : decode cX9_lies 39 = .ok (.iconst (-1), 1) := by decide +kernel
theorem dX9_lies_40 : decode cX9_lies 40 = .ok (.istore 5, 2) := by decide +kernel
theorem dX9_lies_42 : decode cX9_lies 42 = .ok (.iconst 0, 1) := by decide +kernel
theorem dX9_lies_43 : decode cX9_lies 43 = .ok (.istore 6, 2) := by decide +kernel
theorem dX9_lies_45 : decode cX9_lies 45 = .ok (.iconst 1, 1) := by decide +kernel
theorem dX9_lies_46 : decode cX9_lies 46 = .ok (.aload_n 0, 1) := by decide +kernel
theorem dX9_lies_47 : decode cX9_lies 47 = .ok (.getfield 83, 3) := by decide +kernel
theorem dX9_lies_50 : decode cX9_lies 50 = .ok (.ishl, 1) := by decide +kernel
theorem dX9_lies_51 : decode cX9_lies 51 = .ok (.iconst 1, 1) := by decide +kernel
theorem dX9_lies_52 : decode cX9_lies 52 = .ok (.isub, 1) := by decide +kernel
theorem dX9_lies_53 : decode cX9_lies 53 = .ok (.istore 7, 2) := by decide +kernel
theorem dX9_lies_55 : decode cX9_lies 55 = .ok (.iload 7, 2) := by decide +kernel
theorem dX9_lies_57 : decode cX9_lies 57 = .ok (.ifCond .lt 156, 3) := by decide +kernel
theorem dX9_lies_60 : decode cX9_lies 60 = .ok (.iconst 0, 1) := by decide +kernel
theorem dX9_lies_61 : decode cX9_lies 61 = .ok (.istore 8, 2) := by decide +kernel
theorem dX9_lies_63 : decode cX9_lies 63 = .ok (.iconst 1, 1) := by decide +kernel
theorem dX9_lies_64 : decode cX9_lies 64 = .ok (.istore 9, 2) := by decide +kernel
theorem dX9_lies_66 : decode cX9_lies 66 = .ok (.iconst 0, 1) := by decide +kernel
theorem dX9_lies_67 : decode cX9_lies 67 = .ok (.istore 10, 2) := by decide +kernel
theorem dX9_lies_69 : decode cX9_lies 69 = .ok (.iload 10, 2) := by decide +kernel
theorem dX9_lies_71 : decode cX9_lies 71 = .ok (.aload_n 0, 1) := by decide +kernel
theorem dX9_lies_72 : decode cX9_lies 72 = .ok (.getfield 83, 3) := by decide +kernel
theorem dX9_lies_75 : decode cX9_lies 75 = .ok (.if_icmp .ge 97, 3) := by decide +kernel
theorem dX9_lies_78 : decode cX9_lies 78 = .ok (.aload_n 0, 1) := by decide +kernel
theorem dX9_lies_79 : decode cX9_lies 79 = .ok (.iload 10, 2) := by decide +kernel
theorem dX9_lies_81 : decode cX9_lies 81 = .ok (.invokevirtual 182, 3) := by decide +kernel
theorem dX9_lies_84 : decode cX9_lies 84 = .ok (.iload_n 1, 1) := by decide +kernel
theorem dX9_lies_85 : decode cX9_lies 85 = .ok (.if_icmp .ne 23, 3) := by decide +kernel
theorem dX9_lies_88 : decode cX9_lies 88 = .ok (.aload_n 0, 1) := by decide +kernel
theorem dX9_lies_89 : decode cX9_lies 89 = .ok (.iload 10, 2) := by decide +kernel
theorem dX9_lies_91 : decode cX9_lies 91 = .ok (.invokevirtual 186, 3) := by decide +kernel
theorem dX9_lies_94 : decode cX9_lies 94 = .ok (.aload_n 0, 1) := by decide +kernel
theorem dX9_lies_95 : decode cX9_lies 95 = .ok (.aload_n 0, 1) := by decide +kernel
theorem dX9_lies_96 : decode cX9_lies 96 = .ok (.getfield 35, 3) := by decide +kernel
theorem dX9_lies_99 : decode cX9_lies 99 = .ok (.iload 10, 2) := by decide +kernel
theorem dX9_lies_101 : decode cX9_lies 101 = .ok (.invokevirtual 189, 3) := by decide +kernel
theorem dX9_lies_104 : decode cX9_lies 104 = .ok (.imul, 1) := by decide +kernel
theorem dX9_lies_105 : decode cX9_lies 105 = .ok (.goto 4, 3) := by decide +kernel
theorem dX9_lies_108 : decode cX9_lies 108 = .ok (.iconst 0, 1) := by decide +kernel
theorem dX9_lies_109 : decode cX9_lies 109 = .ok (.istore 11, 2) := by decide +kernel
theorem dX9_lies_111 : decode cX9_lies 111 = .ok (.iload 9, 2) := by decide +kernel
theorem dX9_lies_113 : decode cX9_lies 113 = .ok (.ifCond .eq 27, 3) := by decide +kernel
theorem dX9_lies_116 : decode cX9_lies 116 = .ok (.aload_n 0, 1) := by decide +kernel
theorem dX9_lies_117 : decode cX9_lies 117 = .ok (.iload 10, 2) := by decide +kernel
theorem dX9_lies_119 : decode cX9_lies 119 = .ok (.invokevirtual 182, 3) := by decide +kernel
theorem dX9_lies_122 : decode cX9_lies 122 = .ok (.iload_n 1, 1) := by decide +kernel
theorem dX9_lies_123 : decode cX9_lies 123 = .ok (.if_icmp .eq 13, 3) := by decide +kernel
theorem dX9_lies_126 : decode cX9_lies 126 = .ok (.iload 7, 2) := by decide +kernel
theorem dX9_lies_128 : decode cX9_lies 128 = .ok (.iload 10, 2) := by decide +kernel
theorem dX9_lies_130 : decode cX9_lies 130 = .ok (.invokestatic 136, 3) := by decide +kernel
theorem dX9_lies_133 : decode cX9_lies 133 = .ok (.ifCond .ne 7, 3) := by decide +kernel
theorem dX9_lies_136 : decode cX9_lies 136 = .ok (.iconst 1, 1) := by decide +kernel
theorem dX9_lies_137 : decode cX9_lies 137 = .ok (.goto 4, 3) := by decide +kernel
theorem dX9_lies_140 : decode cX9_lies 140 = .ok (.iconst 0, 1) := by decide +kernel
theorem dX9_lies_141 : decode cX9_lies 141 = .ok (.istore 9, 2) := by decide +kernel
theorem dX9_lies_143 : decode cX9_lies 143 = .ok (.iload 8, 2) := by decide +kernel
theorem dX9_lies_145 : decode cX9_lies 145 = .ok (.iload 7, 2) := by decide +kernel
theorem dX9_lies_147 : decode cX9_lies 147 = .ok (.iload 10, 2) := by decide +kernel
theorem dX9_lies_149 : decode cX9_lies 149 = .ok (.invokestatic 136, 3) := by decide +kernel
theorem dX9_lies_152 : decode cX9_lies 152 = .ok (.ifCond .eq 9, 3) := by decide +kernel
theorem dX9_lies_155 : decode cX9_lies 155 = .ok (.iload 11, 2) := by decide +kernel
theorem dX9_lies_157 : decode cX9_lies 157 = .ok (.ineg, 1) := by decide +kernel
theorem dX9_lies_158 : decode cX9_lies 158 = .ok (.goto 5, 3) := by decide +kernel
theorem dX9_lies_161 : decode cX9_lies 161 = .ok (.iload 11, 2) := by decide +kernel
theorem dX9_lies_163 : decode cX9_lies 163 = .ok (.iadd, 1) := by decide +kernel
theorem dX9_lies_164 : decode cX9_lies 164 = .ok (.istore 8, 2) := by decide +kernel
theorem dX9_lies_166 : decode cX9_lies 166 = .ok (.iinc 10 1, 3) := by decide +kernel
theorem dX9_lies_169 : decode cX9_lies 169 = .ok (.goto (-100), 3) := by decide +kernel
theorem dX9_lies_172 : decode cX9_lies 172 = .ok (.iload 9, 2) := by decide +kernel
theorem dX9_lies_174 : decode cX9_lies 174 = .ok (.ifCond .eq 33, 3) := by decide +kernel
theorem dX9_lies_177 : decode cX9_lies 177 = .ok (.iload 8, 2) := by decide +kernel
theorem dX9_lies_179 : decode cX9_lies 179 = .ok (.iload_n 2, 1) := by decide +kernel
theorem dX9_lies_180 : decode cX9_lies 180 = .ok (.if_icmp .ne 27, 3) := by decide +kernel
theorem dX9_lies_183 : decode cX9_lies 183 = .ok (.iload 4, 2) := by decide +kernel
theorem dX9_lies_185 : decode cX9_lies 185 = .ok (.ifCond .ne 8, 3) := by decide +kernel
theorem dX9_lies_188 : decode cX9_lies 188 = .ok (.iload 7, 2) := by decide +kernel
theorem dX9_lies_190 : decode cX9_lies 190 = .ok (.goto 8, 3) := by decide +kernel
theorem dX9_lies_193 : decode cX9_lies 193 = .ok (.iload 6, 2) := by decide +kernel
theorem dX9_lies_195 : decode cX9_lies 195 = .ok (.iload 7, 2) := by decide +kernel
theorem dX9_lies_197 : decode cX9_lies 197 = .ok (.iand, 1) := by decide +kernel
theorem dX9_lies_198 : decode cX9_lies 198 = .ok (.istore 6, 2) := by decide +kernel
theorem dX9_lies_200 : decode cX9_lies 200 = .ok (.iload 7, 2) := by decide +kernel
theorem dX9_lies_202 : decode cX9_lies 202 = .ok (.istore 5, 2) := by decide +kernel
theorem dX9_lies_204 : decode cX9_lies 204 = .ok (.iinc 4 1, 3) := by decide +kernel
theorem dX9_lies_207 : decode cX9_lies 207 = .ok (.iinc 7 (-1), 3) := by decide +kernel
theorem dX9_lies_210 : decode cX9_lies 210 = .ok (.goto (-155), 3) := by decide +kernel
theorem dX9_lies_213 : decode cX9_lies 213 = .ok (.iload_n 3, 1) := by decide +kernel
theorem dX9_lies_214 : decode cX9_lies 214 = .ok (.ifCond .ne 8, 3) := by decide +kernel
theorem dX9_lies_217 : decode cX9_lies 217 = .ok (.iload 4, 2) := by decide +kernel
theorem dX9_lies_219 : decode cX9_lies 219 = .ok (.goto 15, 3) := by decide +kernel
theorem dX9_lies_222 : decode cX9_lies 222 = .ok (.iload_n 3, 1) := by decide +kernel
theorem dX9_lies_223 : decode cX9_lies 223 = .ok (.iconst 1, 1) := by decide +kernel
theorem dX9_lies_224 : decode cX9_lies 224 = .ok (.if_icmp .ne 8, 3) := by decide +kernel
theorem dX9_lies_227 : decode cX9_lies 227 = .ok (.iload 5, 2) := by decide +kernel
theorem dX9_lies_229 : decode cX9_lies 229 = .ok (.goto 5, 3) := by decide +kernel
theorem dX9_lies_232 : decode cX9_lies 232 = .ok (.iload 6, 2) := by decide +kernel
theorem dX9_lies_234 : decode cX9_lies 234 = .ok (.ireturn, 1) := by decide +kernel
theorem dX9_canCome_0 : decode cX9_canCome 0 = .ok (.aload_n 0, 1) := by decide +kernel
theorem dX9_canCome_1 : decode cX9_canCome 1 = .ok (.aload_n 0, 1) := by decide +kernel
theorem dX9_canCome_2 : decode cX9_canCome 2 = .ok (.getfield 35, 3) := by decide +kernel
theorem dX9_canCome_5 : decode cX9_canCome 5 = .ok (.iload_n 1, 1) := by decide +kernel
theorem dX9_canCome_6 : decode cX9_canCome 6 = .ok (.invokevirtual 199, 3) := by decide +kernel
theorem dX9_canCome_9 : decode cX9_canCome 9 = .ok (.istore 4, 2) := by decide +kernel
theorem dX9_canCome_11 : decode cX9_canCome 11 = .ok (.iconst 0, 1) := by decide +kernel
theorem dX9_canCome_12 : decode cX9_canCome 12 = .ok (.istore 5, 2) := by decide +kernel
theorem dX9_canCome_14 : decode cX9_canCome 14 = .ok (.iload 5, 2) := by decide +kernel
theorem dX9_canCome_16 : decode cX9_canCome 16 = .ok (.aload_n 0, 1) := by decide +kernel
theorem dX9_canCome_17 : decode cX9_canCome 17 = .ok (.getfield 76, 3) := by decide +kernel
theorem dX9_canCome_20 : decode cX9_canCome 20 = .ok (.if_icmp .ge 147, 3) := by decide +kernel
theorem dX9_canCome_23 : decode cX9_canCome 23 = .ok (.iconst 0, 1) := by decide +kernel
theorem dX9_canCome_24 : decode cX9_canCome 24 = .ok (.istore 6, 2) := by decide +kernel
theorem dX9_canCome_26 : decode cX9_canCome 26 = .ok (.iconst 0, 1) := by decide +kernel
theorem dX9_canCome_27 : decode cX9_canCome 27 = .ok (.istore 7, 2) := by decide +kernel
theorem dX9_canCome_29 : decode cX9_canCome 29 = .ok (.iload 7, 2) := by decide +kernel
theorem dX9_canCome_31 : decode cX9_canCome 31 = .ok (.aload_n 0, 1) := by decide +kernel
theorem dX9_canCome_32 : decode cX9_canCome 32 = .ok (.getfield 169, 3) := by decide +kernel
theorem dX9_canCome_35 : decode cX9_canCome 35 = .ok (.if_icmp .ge 119, 3) := by decide +kernel
theorem dX9_canCome_38 : decode cX9_canCome 38 = .ok (.aload_n 0, 1) := by decide +kernel
theorem dX9_canCome_39 : decode cX9_canCome 39 = .ok (.getfield 29, 3) := by decide +kernel
theorem dX9_canCome_42 : decode cX9_canCome 42 = .ok (.iconst 2, 1) := by decide +kernel
theorem dX9_canCome_43 : decode cX9_canCome 43 = .ok (.iload 7, 2) := by decide +kernel
theorem dX9_canCome_45 : decode cX9_canCome 45 = .ok (.imul, 1) := by decide +kernel
theorem dX9_canCome_46 : decode cX9_canCome 46 = .ok (.iaload, 1) := by decide +kernel
theorem dX9_canCome_47 : decode cX9_canCome 47 = .ok (.istore 8, 2) := by decide +kernel
theorem dX9_canCome_49 : decode cX9_canCome 49 = .ok (.aload_n 0, 1) := by decide +kernel
theorem dX9_canCome_50 : decode cX9_canCome 50 = .ok (.getfield 29, 3) := by decide +kernel
theorem dX9_canCome_53 : decode cX9_canCome 53 = .ok (.iconst 2, 1) := by decide +kernel
theorem dX9_canCome_54 : decode cX9_canCome 54 = .ok (.iload 7, 2) := by decide +kernel
theorem dX9_canCome_56 : decode cX9_canCome 56 = .ok (.imul, 1) := by decide +kernel
theorem dX9_canCome_57 : decode cX9_canCome 57 = .ok (.iconst 1, 1) := by decide +kernel
theorem dX9_canCome_58 : decode cX9_canCome 58 = .ok (.iadd, 1) := by decide +kernel
theorem dX9_canCome_59 : decode cX9_canCome 59 = .ok (.iaload, 1) := by decide +kernel
theorem dX9_canCome_60 : decode cX9_canCome 60 = .ok (.istore 9, 2) := by decide +kernel
theorem dX9_canCome_62 : decode cX9_canCome 62 = .ok (.iload_n 3, 1) := by decide +kernel
theorem dX9_canCome_63 : decode cX9_canCome 63 = .ok (.iload 7, 2) := by decide +kernel
theorem dX9_canCome_65 : decode cX9_canCome 65 = .ok (.invokestatic 136, 3) := by decide +kernel
theorem dX9_canCome_68 : decode cX9_canCome 68 = .ok (.ifCond .ne 7, 3) := by decide +kernel
theorem dX9_canCome_71 : decode cX9_canCome 71 = .ok (.iconst 1, 1) := by decide +kernel
theorem dX9_canCome_72 : decode cX9_canCome 72 = .ok (.goto 4, 3) := by decide +kernel
theorem dX9_canCome_75 : decode cX9_canCome 75 = .ok (.iconst 0, 1) := by decide +kernel
theorem dX9_canCome_76 : decode cX9_canCome 76 = .ok (.istore 10, 2) := by decide +kernel
theorem dX9_canCome_78 : decode cX9_canCome 78 = .ok (.iload 6, 2) := by decide +kernel
theorem dX9_canCome_80 : decode cX9_canCome 80 = .ok (.iload 10, 2) := by decide +kernel
theorem dX9_canCome_82 : decode cX9_canCome 82 = .ok (.ifCond .eq 27, 3) := by decide +kernel
theorem dX9_canCome_85 : decode cX9_canCome 85 = .ok (.iload 4, 2) := by decide +kernel
theorem dX9_canCome_87 : decode cX9_canCome 87 = .ok (.aload_n 0, 1) := by decide +kernel
theorem dX9_canCome_88 : decode cX9_canCome 88 = .ok (.getfield 172, 3) := by decide +kernel
theorem dX9_canCome_91 : decode cX9_canCome 91 = .ok (.iconst (-1), 1) := by decide +kernel
theorem dX9_canCome_92 : decode cX9_canCome 92 = .ok (.ixor, 1) := by decide +kernel
theorem dX9_canCome_93 : decode cX9_canCome 93 = .ok (.iand, 1) := by decide +kernel
theorem dX9_canCome_94 : decode cX9_canCome 94 = .ok (.iload 8, 2) := by decide +kernel
theorem dX9_canCome_96 : decode cX9_canCome 96 = .ok (.invokestatic 136, 3) := by decide +kernel
theorem dX9_canCome_99 : decode cX9_canCome 99 = .ok (.ifCond .eq 10, 3) := by decide +kernel
theorem dX9_canCome_102 : decode cX9_canCome 102 = .ok (.iconst 1, 1) := by decide +kernel
theorem dX9_canCome_103 : decode cX9_canCome 103 = .ok (.iload 9, 2) := by decide +kernel
theorem dX9_canCome_105 : decode cX9_canCome 105 = .ok (.ishl, 1) := by decide +kernel
theorem dX9_canCome_106 : decode cX9_canCome 106 = .ok (.goto 4, 3) := by decide +kernel
theorem dX9_canCome_109 : decode cX9_canCome 109 = .ok (.iconst 0, 1) := by decide +kernel
theorem dX9_canCome_110 : decode cX9_canCome 110 = .ok (.ior, 1) := by decide +kernel
theorem dX9_canCome_111 : decode cX9_canCome 111 = .ok (.istore 6, 2) := by decide +kernel
theorem dX9_canCome_113 : decode cX9_canCome 113 = .ok (.iload 6, 2) := by decide +kernel
theorem dX9_canCome_115 : decode cX9_canCome 115 = .ok (.iload 10, 2) := by decide +kernel
theorem dX9_canCome_117 : decode cX9_canCome 117 = .ok (.ifCond .eq 27, 3) := by decide +kernel
theorem dX9_canCome_120 : decode cX9_canCome 120 = .ok (.iload 4, 2) := by decide +kernel
theorem dX9_canCome_122 : decode cX9_canCome 122 = .ok (.aload_n 0, 1) := by decide +kernel
theorem dX9_canCome_123 : decode cX9_canCome 123 = .ok (.getfield 172, 3) := by decide +kernel
theorem dX9_canCome_126 : decode cX9_canCome 126 = .ok (.iconst (-1), 1) := by decide +kernel
theorem dX9_canCome_127 : decode cX9_canCome 127 = .ok (.ixor, 1) := by decide +kernel
theorem dX9_canCome_128 : decode cX9_canCome 128 = .ok (.iand, 1) := by decide +kernel
theorem dX9_canCome_129 : decode cX9_canCome 129 = .ok (.iload 9, 2) := by decide +kernel
theorem dX9_canCome_131 : decode cX9_canCome 131 = .ok (.invokestatic 136, 3) := by decide +kernel
theorem dX9_canCome_134 : decode cX9_canCome 134 = .ok (.ifCond .eq 10, 3) := by decide +kernel
theorem dX9_canCome_137 : decode cX9_canCome 137 = .ok (.iconst 1, 1) := by decide +kernel
theorem dX9_canCome_138 : decode cX9_canCome 138 = .ok (.iload 8, 2) := by decide +kernel
theorem dX9_canCome_140 : decode cX9_canCome 140 = .ok (.ishl, 1) := by decide +kernel
theorem dX9_canCome_141 : decode cX9_canCome 141 = .ok (.goto 4, 3) := by decide +kernel
theorem dX9_canCome_144 : decode cX9_canCome 144 = .ok (.iconst 0, 1) := by decide +kernel
theorem dX9_canCome_145 : decode cX9_canCome 145 = .ok (.ior, 1) := by decide +kernel
theorem dX9_canCome_146 : decode cX9_canCome 146 = .ok (.istore 6, 2) := by decide +kernel
theorem dX9_canCome_148 : decode cX9_canCome 148 = .ok (.iinc 7 1, 3) := by decide +kernel
theorem dX9_canCome_151 : decode cX9_canCome 151 = .ok (.goto (-122), 3) := by decide +kernel
theorem dX9_canCome_154 : decode cX9_canCome 154 = .ok (.iload 4, 2) := by decide +kernel
theorem dX9_canCome_156 : decode cX9_canCome 156 = .ok (.iload 6, 2) := by decide +kernel
theorem dX9_canCome_158 : decode cX9_canCome 158 = .ok (.ior, 1) := by decide +kernel
theorem dX9_canCome_159 : decode cX9_canCome 159 = .ok (.istore 4, 2) := by decide +kernel
theorem dX9_canCome_161 : decode cX9_canCome 161 = .ok (.iinc 5 1, 3) := by decide +kernel
theorem dX9_canCome_164 : decode cX9_canCome 164 = .ok (.goto (-150), 3) := by decide +kernel
theorem dX9_canCome_167 : decode cX9_canCome 167 = .ok (.iload 4, 2) := by decide +kernel
theorem dX9_canCome_169 : decode cX9_canCome 169 = .ok (.iload_n 2, 1) := by decide +kernel
theorem dX9_canCome_170 : decode cX9_canCome 170 = .ok (.invokestatic 136, 3) := by decide +kernel
theorem dX9_canCome_173 : decode cX9_canCome 173 = .ok (.ireturn, 1) := by decide +kernel
theorem dX9_bits_0 : decode cX9_bits 0 = .ok (.iconst 0, 1) := by decide +kernel
theorem dX9_bits_1 : decode cX9_bits 1 = .ok (.istore_n 1, 1) := by decide +kernel
theorem dX9_bits_2 : decode cX9_bits 2 = .ok (.iconst 0, 1) := by decide +kernel
theorem dX9_bits_3 : decode cX9_bits 3 = .ok (.istore_n 2, 1) := by decide +kernel
theorem dX9_bits_4 : decode cX9_bits 4 = .ok (.iload_n 2, 1) := by decide +kernel
theorem dX9_bits_5 : decode cX9_bits 5 = .ok (.bipush 12, 2) := by decide +kernel
theorem dX9_bits_7 : decode cX9_bits 7 = .ok (.if_icmp .ge 17, 3) := by decide +kernel
theorem dX9_bits_10 : decode cX9_bits 10 = .ok (.iload_n 1, 1) := by decide +kernel
theorem dX9_bits_11 : decode cX9_bits 11 = .ok (.iload_n 0, 1) := by decide +kernel
theorem dX9_bits_12 : decode cX9_bits 12 = .ok (.iload_n 2, 1) := by decide +kernel
theorem dX9_bits_13 : decode cX9_bits 13 = .ok (.ishr, 1) := by decide +kernel
theorem dX9_bits_14 : decode cX9_bits 14 = .ok (.iconst 1, 1) := by decide +kernel
theorem dX9_bits_15 : decode cX9_bits 15 = .ok (.iand, 1) := by decide +kernel
theorem dX9_bits_16 : decode cX9_bits 16 = .ok (.iadd, 1) := by decide +kernel
theorem dX9_bits_17 : decode cX9_bits 17 = .ok (.istore_n 1, 1) := by decide +kernel
theorem dX9_bits_18 : decode cX9_bits 18 = .ok (.iinc 2 1, 3) := by decide +kernel
theorem dX9_bits_21 : decode cX9_bits 21 = .ok (.goto (-17), 3) := by decide +kernel
theorem dX9_bits_24 : decode cX9_bits 24 = .ok (.iload_n 1, 1) := by decide +kernel
theorem dX9_bits_25 : decode cX9_bits 25 = .ok (.ireturn, 1) := by decide +kernel
theorem dX9_apart_0 : decode cX9_apart 0 = .ok (.aload_n 0, 1) := by decide +kernel
theorem dX9_apart_1 : decode cX9_apart 1 = .ok (.iload_n 1, 1) := by decide +kernel
theorem dX9_apart_2 : decode cX9_apart 2 = .ok (.invokevirtual 210, 3) := by decide +kernel
theorem dX9_apart_5 : decode cX9_apart 5 = .ok (.ifCond .eq 11, 3) := by decide +kernel
theorem dX9_apart_8 : decode cX9_apart 8 = .ok (.aload_n 0, 1) := by decide +kernel
theorem dX9_apart_9 : decode cX9_apart 9 = .ok (.iload_n 2, 1) := by decide +kernel
theorem dX9_apart_10 : decode cX9_apart 10 = .ok (.invokevirtual 214, 3) := by decide +kernel
theorem dX9_apart_13 : decode cX9_apart 13 = .ok (.ifCond .ne 6, 3) := by decide +kernel
theorem dX9_apart_16 : decode cX9_apart 16 = .ok (.ldc 213, 2) := by decide +kernel
theorem dX9_apart_18 : decode cX9_apart 18 = .ok (.ireturn, 1) := by decide +kernel
theorem dX9_apart_19 : decode cX9_apart 19 = .ok (.iload_n 3, 1) := by decide +kernel
theorem dX9_apart_20 : decode cX9_apart 20 = .ok (.iconst 0, 1) := by decide +kernel
theorem dX9_apart_21 : decode cX9_apart 21 = .ok (.iconst 1, 1) := by decide +kernel
theorem dX9_apart_22 : decode cX9_apart 22 = .ok (.invokestatic 79, 3) := by decide +kernel
theorem dX9_apart_25 : decode cX9_apart 25 = .ok (.ifCond .ne 6, 3) := by decide +kernel
theorem dX9_apart_28 : decode cX9_apart 28 = .ok (.ldc 89, 2) := by decide +kernel
theorem dX9_apart_30 : decode cX9_apart 30 = .ok (.ireturn, 1) := by decide +kernel
theorem dX9_apart_31 : decode cX9_apart 31 = .ok (.aload_n 0, 1) := by decide +kernel
theorem dX9_apart_32 : decode cX9_apart 32 = .ok (.getfield 35, 3) := by decide +kernel
theorem dX9_apart_35 : decode cX9_apart 35 = .ok (.iload_n 2, 1) := by decide +kernel
theorem dX9_apart_36 : decode cX9_apart 36 = .ok (.iload_n 1, 1) := by decide +kernel
theorem dX9_apart_37 : decode cX9_apart 37 = .ok (.invokestatic 178, 3) := by decide +kernel
theorem dX9_apart_40 : decode cX9_apart 40 = .ok (.ifCond .eq 6, 3) := by decide +kernel
theorem dX9_apart_43 : decode cX9_apart 43 = .ok (.ldc 223, 2) := by decide +kernel
theorem dX9_apart_45 : decode cX9_apart 45 = .ok (.ireturn, 1) := by decide +kernel
theorem dX9_apart_46 : decode cX9_apart 46 = .ok (.iconst 1, 1) := by decide +kernel
theorem dX9_apart_47 : decode cX9_apart 47 = .ok (.aload_n 0, 1) := by decide +kernel
theorem dX9_apart_48 : decode cX9_apart 48 = .ok (.getfield 169, 3) := by decide +kernel
theorem dX9_apart_51 : decode cX9_apart 51 = .ok (.ishl, 1) := by decide +kernel
theorem dX9_apart_52 : decode cX9_apart 52 = .ok (.iconst 1, 1) := by decide +kernel
theorem dX9_apart_53 : decode cX9_apart 53 = .ok (.isub, 1) := by decide +kernel
theorem dX9_apart_54 : decode cX9_apart 54 = .ok (.istore 4, 2) := by decide +kernel
theorem dX9_apart_56 : decode cX9_apart 56 = .ok (.iload 4, 2) := by decide +kernel
theorem dX9_apart_58 : decode cX9_apart 58 = .ok (.istore 5, 2) := by decide +kernel
theorem dX9_apart_60 : decode cX9_apart 60 = .ok (.iload 5, 2) := by decide +kernel
theorem dX9_apart_62 : decode cX9_apart 62 = .ok (.ifCond .lt 42, 3) := by decide +kernel
theorem dX9_apart_65 : decode cX9_apart 65 = .ok (.iload 5, 2) := by decide +kernel
theorem dX9_apart_67 : decode cX9_apart 67 = .ok (.invokestatic 255, 3) := by decide +kernel
theorem dX9_apart_70 : decode cX9_apart 70 = .ok (.iload 4, 2) := by decide +kernel
theorem dX9_apart_72 : decode cX9_apart 72 = .ok (.invokestatic 255, 3) := by decide +kernel
theorem dX9_apart_75 : decode cX9_apart 75 = .ok (.if_icmp .gt 19, 3) := by decide +kernel
theorem dX9_apart_78 : decode cX9_apart 78 = .ok (.aload_n 0, 1) := by decide +kernel
theorem dX9_apart_79 : decode cX9_apart 79 = .ok (.iload_n 1, 1) := by decide +kernel
theorem dX9_apart_80 : decode cX9_apart 80 = .ok (.iload_n 2, 1) := by decide +kernel
theorem dX9_apart_81 : decode cX9_apart 81 = .ok (.iload 5, 2) := by decide +kernel
theorem dX9_apart_83 : decode cX9_apart 83 = .ok (.invokevirtual 258, 3) := by decide +kernel
theorem dX9_apart_86 : decode cX9_apart 86 = .ok (.ifCond .ne 8, 3) := by decide +kernel
theorem dX9_apart_89 : decode cX9_apart 89 = .ok (.iload 5, 2) := by decide +kernel
theorem dX9_apart_91 : decode cX9_apart 91 = .ok (.goto 5, 3) := by decide +kernel
theorem dX9_apart_94 : decode cX9_apart 94 = .ok (.iload 4, 2) := by decide +kernel
theorem dX9_apart_96 : decode cX9_apart 96 = .ok (.istore 4, 2) := by decide +kernel
theorem dX9_apart_98 : decode cX9_apart 98 = .ok (.iinc 5 (-1), 3) := by decide +kernel
theorem dX9_apart_101 : decode cX9_apart 101 = .ok (.goto (-41), 3) := by decide +kernel
theorem dX9_apart_104 : decode cX9_apart 104 = .ok (.iload_n 3, 1) := by decide +kernel
theorem dX9_apart_105 : decode cX9_apart 105 = .ok (.ifCond .ne 11, 3) := by decide +kernel
theorem dX9_apart_108 : decode cX9_apart 108 = .ok (.iload 4, 2) := by decide +kernel
theorem dX9_apart_110 : decode cX9_apart 110 = .ok (.invokestatic 255, 3) := by decide +kernel
theorem dX9_apart_113 : decode cX9_apart 113 = .ok (.goto 5, 3) := by decide +kernel
theorem dX9_apart_116 : decode cX9_apart 116 = .ok (.iload 4, 2) := by decide +kernel
theorem dX9_apart_118 : decode cX9_apart 118 = .ok (.ireturn, 1) := by decide +kernel
theorem dX9_forgotten_0 : decode cX9_forgotten 0 = .ok (.iconst (-1), 1) := by decide +kernel
theorem dX9_forgotten_1 : decode cX9_forgotten 1 = .ok (.istore 4, 2) := by decide +kernel
theorem dX9_forgotten_3 : decode cX9_forgotten 3 = .ok (.iconst 1, 1) := by decide +kernel
theorem dX9_forgotten_4 : decode cX9_forgotten 4 = .ok (.aload_n 0, 1) := by decide +kernel
theorem dX9_forgotten_5 : decode cX9_forgotten 5 = .ok (.getfield 83, 3) := by decide +kernel
theorem dX9_forgotten_8 : decode cX9_forgotten 8 = .ok (.ishl, 1) := by decide +kernel
theorem dX9_forgotten_9 : decode cX9_forgotten 9 = .ok (.iconst 1, 1) := by decide +kernel
theorem dX9_forgotten_10 : decode cX9_forgotten 10 = .ok (.isub, 1) := by decide +kernel
theorem dX9_forgotten_11 : decode cX9_forgotten 11 = .ok (.istore 5, 2) := by decide +kernel
theorem dX9_forgotten_13 : decode cX9_forgotten 13 = .ok (.iload 5, 2) := by decide +kernel
theorem dX9_forgotten_15 : decode cX9_forgotten 15 = .ok (.ifCond .lt 140, 3) := by decide +kernel
theorem dX9_forgotten_18 : decode cX9_forgotten 18 = .ok (.iconst 0, 1) := by decide +kernel
theorem dX9_forgotten_19 : decode cX9_forgotten 19 = .ok (.istore 6, 2) := by decide +kernel
theorem dX9_forgotten_21 : decode cX9_forgotten 21 = .ok (.iconst 1, 1) := by decide +kernel
theorem dX9_forgotten_22 : decode cX9_forgotten 22 = .ok (.istore 7, 2) := by decide +kernel
theorem dX9_forgotten_24 : decode cX9_forgotten 24 = .ok (.iconst 0, 1) := by decide +kernel
theorem dX9_forgotten_25 : decode cX9_forgotten 25 = .ok (.istore 8, 2) := by decide +kernel
theorem dX9_forgotten_27 : decode cX9_forgotten 27 = .ok (.iload 8, 2) := by decide +kernel
theorem dX9_forgotten_29 : decode cX9_forgotten 29 = .ok (.aload_n 0, 1) := by decide +kernel
theorem dX9_forgotten_30 : decode cX9_forgotten 30 = .ok (.getfield 83, 3) := by decide +kernel
theorem dX9_forgotten_33 : decode cX9_forgotten 33 = .ok (.if_icmp .ge 96, 3) := by decide +kernel
theorem dX9_forgotten_36 : decode cX9_forgotten 36 = .ok (.iload 5, 2) := by decide +kernel
theorem dX9_forgotten_38 : decode cX9_forgotten 38 = .ok (.iload 8, 2) := by decide +kernel
theorem dX9_forgotten_40 : decode cX9_forgotten 40 = .ok (.ishr, 1) := by decide +kernel
theorem dX9_forgotten_41 : decode cX9_forgotten 41 = .ok (.iconst 1, 1) := by decide +kernel
theorem dX9_forgotten_42 : decode cX9_forgotten 42 = .ok (.iand, 1) := by decide +kernel
theorem dX9_forgotten_43 : decode cX9_forgotten 43 = .ok (.iconst 1, 1) := by decide +kernel
theorem dX9_forgotten_44 : decode cX9_forgotten 44 = .ok (.if_icmp .ne 7, 3) := by decide +kernel
theorem dX9_forgotten_47 : decode cX9_forgotten 47 = .ok (.iconst 1, 1) := by decide +kernel
theorem dX9_forgotten_48 : decode cX9_forgotten 48 = .ok (.goto 4, 3) := by decide +kernel
theorem dX9_forgotten_51 : decode cX9_forgotten 51 = .ok (.iconst 0, 1) := by decide +kernel
theorem dX9_forgotten_52 : decode cX9_forgotten 52 = .ok (.istore 9, 2) := by decide +kernel
theorem dX9_forgotten_54 : decode cX9_forgotten 54 = .ok (.iload 7, 2) := by decide +kernel
theorem dX9_forgotten_56 : decode cX9_forgotten 56 = .ok (.ifCond .eq 44, 3) := by decide +kernel
theorem dX9_forgotten_59 : decode cX9_forgotten 59 = .ok (.iload 9, 2) := by decide +kernel
theorem dX9_forgotten_61 : decode cX9_forgotten 61 = .ok (.ifCond .eq 35, 3) := by decide +kernel
theorem dX9_forgotten_64 : decode cX9_forgotten 64 = .ok (.aload_n 0, 1) := by decide +kernel
theorem dX9_forgotten_65 : decode cX9_forgotten 65 = .ok (.iload 8, 2) := by decide +kernel
theorem dX9_forgotten_67 : decode cX9_forgotten 67 = .ok (.invokevirtual 182, 3) := by decide +kernel
theorem dX9_forgotten_70 : decode cX9_forgotten 70 = .ok (.iload_n 2, 1) := by decide +kernel
theorem dX9_forgotten_71 : decode cX9_forgotten 71 = .ok (.if_icmp .ne 29, 3) := by decide +kernel
theorem dX9_forgotten_74 : decode cX9_forgotten 74 = .ok (.aload_n 0, 1) := by decide +kernel
theorem dX9_forgotten_75 : decode cX9_forgotten 75 = .ok (.getfield 35, 3) := by decide +kernel
theorem dX9_forgotten_78 : decode cX9_forgotten 78 = .ok (.iload_n 1, 1) := by decide +kernel
theorem dX9_forgotten_79 : decode cX9_forgotten 79 = .ok (.iload 8, 2) := by decide +kernel
theorem dX9_forgotten_81 : decode cX9_forgotten 81 = .ok (.invokestatic 178, 3) := by decide +kernel
theorem dX9_forgotten_84 : decode cX9_forgotten 84 = .ok (.ifCond .eq 16, 3) := by decide +kernel
theorem dX9_forgotten_87 : decode cX9_forgotten 87 = .ok (.aload_n 0, 1) := by decide +kernel
theorem dX9_forgotten_88 : decode cX9_forgotten 88 = .ok (.iload 8, 2) := by decide +kernel
theorem dX9_forgotten_90 : decode cX9_forgotten 90 = .ok (.invokevirtual 193, 3) := by decide +kernel
theorem dX9_forgotten_93 : decode cX9_forgotten 93 = .ok (.ifCond .ne 7, 3) := by decide +kernel
theorem dX9_forgotten_96 : decode cX9_forgotten 96 = .ok (.iconst 1, 1) := by decide +kernel
theorem dX9_forgotten_97 : decode cX9_forgotten 97 = .ok (.goto 4, 3) := by decide +kernel
theorem dX9_forgotten_100 : decode cX9_forgotten 100 = .ok (.iconst 0, 1) := by decide +kernel
theorem dX9_forgotten_101 : decode cX9_forgotten 101 = .ok (.istore 7, 2) := by decide +kernel
theorem dX9_forgotten_103 : decode cX9_forgotten 103 = .ok (.iload 6, 2) := by decide +kernel
theorem dX9_forgotten_105 : decode cX9_forgotten 105 = .ok (.iload 9, 2) := by decide +kernel
theorem dX9_forgotten_107 : decode cX9_forgotten 107 = .ok (.ifCond .eq 12, 3) := by decide +kernel
theorem dX9_forgotten_110 : decode cX9_forgotten 110 = .ok (.aload_n 0, 1) := by decide +kernel
theorem dX9_forgotten_111 : decode cX9_forgotten 111 = .ok (.iload 8, 2) := by decide +kernel
theorem dX9_forgotten_113 : decode cX9_forgotten 113 = .ok (.invokevirtual 186, 3) := by decide +kernel
theorem dX9_forgotten_116 : decode cX9_forgotten 116 = .ok (.goto 4, 3) := by decide +kernel
theorem dX9_forgotten_119 : decode cX9_forgotten 119 = .ok (.iconst 0, 1) := by decide +kernel
theorem dX9_forgotten_120 : decode cX9_forgotten 120 = .ok (.iadd, 1) := by decide +kernel
theorem dX9_forgotten_121 : decode cX9_forgotten 121 = .ok (.istore 6, 2) := by decide +kernel
theorem dX9_forgotten_123 : decode cX9_forgotten 123 = .ok (.iinc 8 1, 3) := by decide +kernel
theorem dX9_forgotten_126 : decode cX9_forgotten 126 = .ok (.goto (-99), 3) := by decide +kernel
theorem dX9_forgotten_129 : decode cX9_forgotten 129 = .ok (.iload 7, 2) := by decide +kernel
theorem dX9_forgotten_131 : decode cX9_forgotten 131 = .ok (.ifCond .eq 14, 3) := by decide +kernel
theorem dX9_forgotten_134 : decode cX9_forgotten 134 = .ok (.iload 6, 2) := by decide +kernel
theorem dX9_forgotten_136 : decode cX9_forgotten 136 = .ok (.iload_n 3, 1) := by decide +kernel
theorem dX9_forgotten_137 : decode cX9_forgotten 137 = .ok (.if_icmp .ne 8, 3) := by decide +kernel
theorem dX9_forgotten_140 : decode cX9_forgotten 140 = .ok (.iload 5, 2) := by decide +kernel
theorem dX9_forgotten_142 : decode cX9_forgotten 142 = .ok (.goto 5, 3) := by decide +kernel
theorem dX9_forgotten_145 : decode cX9_forgotten 145 = .ok (.iload 4, 2) := by decide +kernel
theorem dX9_forgotten_147 : decode cX9_forgotten 147 = .ok (.istore 4, 2) := by decide +kernel
theorem dX9_forgotten_149 : decode cX9_forgotten 149 = .ok (.iinc 5 (-1), 3) := by decide +kernel
theorem dX9_forgotten_152 : decode cX9_forgotten 152 = .ok (.goto (-139), 3) := by decide +kernel
theorem dX9_forgotten_155 : decode cX9_forgotten 155 = .ok (.iload 4, 2) := by decide +kernel
theorem dX9_forgotten_157 : decode cX9_forgotten 157 = .ok (.ireturn, 1) := by decide +kernel
theorem dX9_treaty_0 : decode cX9_treaty 0 = .ok (.aload_n 0, 1) := by decide +kernel
theorem dX9_treaty_1 : decode cX9_treaty 1 = .ok (.iload_n 1, 1) := by decide +kernel
theorem dX9_treaty_2 : decode cX9_treaty 2 = .ok (.invokevirtual 214, 3) := by decide +kernel
theorem dX9_treaty_5 : decode cX9_treaty 5 = .ok (.ifCond .eq 16, 3) := by decide +kernel
theorem dX9_treaty_8 : decode cX9_treaty 8 = .ok (.aload_n 0, 1) := by decide +kernel
theorem dX9_treaty_9 : decode cX9_treaty 9 = .ok (.iload_n 2, 1) := by decide +kernel
theorem dX9_treaty_10 : decode cX9_treaty 10 = .ok (.invokevirtual 214, 3) := by decide +kernel
theorem dX9_treaty_13 : decode cX9_treaty 13 = .ok (.ifCond .eq 8, 3) := by decide +kernel
theorem dX9_treaty_16 : decode cX9_treaty 16 = .ok (.iload_n 1, 1) := by decide +kernel
theorem dX9_treaty_17 : decode cX9_treaty 17 = .ok (.iload_n 2, 1) := by decide +kernel
theorem dX9_treaty_18 : decode cX9_treaty 18 = .ok (.if_icmp .ne 6, 3) := by decide +kernel
theorem dX9_treaty_21 : decode cX9_treaty 21 = .ok (.ldc 213, 2) := by decide +kernel
theorem dX9_treaty_23 : decode cX9_treaty 23 = .ok (.ireturn, 1) := by decide +kernel
theorem dX9_treaty_24 : decode cX9_treaty 24 = .ok (.iload_n 3, 1) := by decide +kernel
theorem dX9_treaty_25 : decode cX9_treaty 25 = .ok (.iconst 0, 1) := by decide +kernel
theorem dX9_treaty_26 : decode cX9_treaty 26 = .ok (.iconst 2, 1) := by decide +kernel
theorem dX9_treaty_27 : decode cX9_treaty 27 = .ok (.invokestatic 79, 3) := by decide +kernel
theorem dX9_treaty_30 : decode cX9_treaty 30 = .ok (.ifCond .ne 6, 3) := by decide +kernel
theorem dX9_treaty_33 : decode cX9_treaty 33 = .ok (.ldc 89, 2) := by decide +kernel
theorem dX9_treaty_35 : decode cX9_treaty 35 = .ok (.ireturn, 1) := by decide +kernel
theorem dX9_treaty_36 : decode cX9_treaty 36 = .ok (.bipush 72, 2) := by decide +kernel
theorem dX9_treaty_38 : decode cX9_treaty 38 = .ok (.istore 4, 2) := by decide +kernel
theorem dX9_treaty_40 : decode cX9_treaty 40 = .ok (.aload_n 0, 1) := by decide +kernel
theorem dX9_treaty_41 : decode cX9_treaty 41 = .ok (.iload_n 1, 1) := by decide +kernel
theorem dX9_treaty_42 : decode cX9_treaty 42 = .ok (.iload_n 2, 1) := by decide +kernel
theorem dX9_treaty_43 : decode cX9_treaty 43 = .ok (.iload 4, 2) := by decide +kernel
theorem dX9_treaty_45 : decode cX9_treaty 45 = .ok (.invokevirtual 261, 3) := by decide +kernel
theorem dX9_treaty_48 : decode cX9_treaty 48 = .ok (.iconst (-1), 1) := by decide +kernel
theorem dX9_treaty_49 : decode cX9_treaty 49 = .ok (.if_icmp .eq 15, 3) := by decide +kernel
theorem dX9_treaty_52 : decode cX9_treaty 52 = .ok (.aload_n 0, 1) := by decide +kernel
theorem dX9_treaty_53 : decode cX9_treaty 53 = .ok (.iload_n 2, 1) := by decide +kernel
theorem dX9_treaty_54 : decode cX9_treaty 54 = .ok (.iload_n 1, 1) := by decide +kernel
theorem dX9_treaty_55 : decode cX9_treaty 55 = .ok (.iload 4, 2) := by decide +kernel
theorem dX9_treaty_57 : decode cX9_treaty 57 = .ok (.invokevirtual 261, 3) := by decide +kernel
theorem dX9_treaty_60 : decode cX9_treaty 60 = .ok (.iconst (-1), 1) := by decide +kernel
theorem dX9_treaty_61 : decode cX9_treaty 61 = .ok (.if_icmp .ne 9, 3) := by decide +kernel
theorem dX9_treaty_64 : decode cX9_treaty 64 = .ok (.iinc 4 (-1), 3) := by decide +kernel
theorem dX9_treaty_67 : decode cX9_treaty 67 = .ok (.goto (-27), 3) := by decide +kernel
theorem dX9_treaty_70 : decode cX9_treaty 70 = .ok (.iload_n 3, 1) := by decide +kernel
theorem dX9_treaty_71 : decode cX9_treaty 71 = .ok (.ifCond .ne 8, 3) := by decide +kernel
theorem dX9_treaty_74 : decode cX9_treaty 74 = .ok (.iload 4, 2) := by decide +kernel
theorem dX9_treaty_76 : decode cX9_treaty 76 = .ok (.goto 27, 3) := by decide +kernel
theorem dX9_treaty_79 : decode cX9_treaty 79 = .ok (.iload_n 3, 1) := by decide +kernel
theorem dX9_treaty_80 : decode cX9_treaty 80 = .ok (.iconst 1, 1) := by decide +kernel
theorem dX9_treaty_81 : decode cX9_treaty 81 = .ok (.if_icmp .ne 14, 3) := by decide +kernel
theorem dX9_treaty_84 : decode cX9_treaty 84 = .ok (.aload_n 0, 1) := by decide +kernel
theorem dX9_treaty_85 : decode cX9_treaty 85 = .ok (.iload_n 1, 1) := by decide +kernel
theorem dX9_treaty_86 : decode cX9_treaty 86 = .ok (.iload_n 2, 1) := by decide +kernel
theorem dX9_treaty_87 : decode cX9_treaty 87 = .ok (.iload 4, 2) := by decide +kernel
theorem dX9_treaty_89 : decode cX9_treaty 89 = .ok (.invokevirtual 261, 3) := by decide +kernel
theorem dX9_treaty_92 : decode cX9_treaty 92 = .ok (.goto 11, 3) := by decide +kernel
theorem dX9_treaty_95 : decode cX9_treaty 95 = .ok (.aload_n 0, 1) := by decide +kernel
theorem dX9_treaty_96 : decode cX9_treaty 96 = .ok (.iload_n 2, 1) := by decide +kernel
theorem dX9_treaty_97 : decode cX9_treaty 97 = .ok (.iload_n 1, 1) := by decide +kernel
theorem dX9_treaty_98 : decode cX9_treaty 98 = .ok (.iload 4, 2) := by decide +kernel
theorem dX9_treaty_100 : decode cX9_treaty 100 = .ok (.invokevirtual 261, 3) := by decide +kernel
theorem dX9_treaty_103 : decode cX9_treaty 103 = .ok (.ireturn, 1) := by decide +kernel
theorem dX9_odds_0 : decode cX9_odds 0 = .ok (.aload_n 0, 1) := by decide +kernel
theorem dX9_odds_1 : decode cX9_odds 1 = .ok (.iload_n 1, 1) := by decide +kernel
theorem dX9_odds_2 : decode cX9_odds 2 = .ok (.invokevirtual 214, 3) := by decide +kernel
theorem dX9_odds_5 : decode cX9_odds 5 = .ok (.ifCond .eq 11, 3) := by decide +kernel
theorem dX9_odds_8 : decode cX9_odds 8 = .ok (.aload_n 0, 1) := by decide +kernel
theorem dX9_odds_9 : decode cX9_odds 9 = .ok (.iload_n 2, 1) := by decide +kernel
theorem dX9_odds_10 : decode cX9_odds 10 = .ok (.invokevirtual 220, 3) := by decide +kernel
theorem dX9_odds_13 : decode cX9_odds 13 = .ok (.ifCond .ne 6, 3) := by decide +kernel
theorem dX9_odds_16 : decode cX9_odds 16 = .ok (.ldc 213, 2) := by decide +kernel
theorem dX9_odds_18 : decode cX9_odds 18 = .ok (.ireturn, 1) := by decide +kernel
theorem dX9_odds_19 : decode cX9_odds 19 = .ok (.iload_n 3, 1) := by decide +kernel
theorem dX9_odds_20 : decode cX9_odds 20 = .ok (.iconst 0, 1) := by decide +kernel
theorem dX9_odds_21 : decode cX9_odds 21 = .ok (.bipush 100, 2) := by decide +kernel
theorem dX9_odds_23 : decode cX9_odds 23 = .ok (.invokestatic 79, 3) := by decide +kernel
theorem dX9_odds_26 : decode cX9_odds 26 = .ok (.ifCond .ne 6, 3) := by decide +kernel
theorem dX9_odds_29 : decode cX9_odds 29 = .ok (.ldc 89, 2) := by decide +kernel
theorem dX9_odds_31 : decode cX9_odds 31 = .ok (.ireturn, 1) := by decide +kernel
theorem dX9_odds_32 : decode cX9_odds 32 = .ok (.iconst 0, 1) := by decide +kernel
theorem dX9_odds_33 : decode cX9_odds 33 = .ok (.istore 4, 2) := by decide +kernel
theorem dX9_odds_35 : decode cX9_odds 35 = .ok (.iload 4, 2) := by decide +kernel
theorem dX9_odds_37 : decode cX9_odds 37 = .ok (.sipush 1200, 3) := by decide +kernel
theorem dX9_odds_40 : decode cX9_odds 40 = .ok (.if_icmp .ge 17, 3) := by decide +kernel
theorem dX9_odds_43 : decode cX9_odds 43 = .ok (.aload_n 0, 1) := by decide +kernel
theorem dX9_odds_44 : decode cX9_odds 44 = .ok (.getfield 60, 3) := by decide +kernel
theorem dX9_odds_47 : decode cX9_odds 47 = .ok (.iload 4, 2) := by decide +kernel
theorem dX9_odds_49 : decode cX9_odds 49 = .ok (.lconst 0, 1) := by decide +kernel
theorem dX9_odds_50 : decode cX9_odds 50 = .ok (.lastore, 1) := by decide +kernel
theorem dX9_odds_51 : decode cX9_odds 51 = .ok (.iinc 4 1, 3) := by decide +kernel
theorem dX9_odds_54 : decode cX9_odds 54 = .ok (.goto (-19), 3) := by decide +kernel
theorem dX9_odds_57 : decode cX9_odds 57 = .ok (.aload_n 0, 1) := by decide +kernel
theorem dX9_odds_58 : decode cX9_odds 58 = .ok (.getfield 60, 3) := by decide +kernel
theorem dX9_odds_61 : decode cX9_odds 61 = .ok (.sipush 600, 3) := by decide +kernel
theorem dX9_odds_64 : decode cX9_odds 64 = .ok (.aload_n 0, 1) := by decide +kernel
theorem dX9_odds_65 : decode cX9_odds 65 = .ok (.aload_n 0, 1) := by decide +kernel
theorem dX9_odds_66 : decode cX9_odds 66 = .ok (.getfield 35, 3) := by decide +kernel
theorem dX9_odds_69 : decode cX9_odds 69 = .ok (.iload_n 1, 1) := by decide +kernel
theorem dX9_odds_70 : decode cX9_odds 70 = .ok (.invokevirtual 217, 3) := by decide +kernel
theorem dX9_odds_73 : decode cX9_odds 73 = .ok (.iadd, 1) := by decide +kernel
theorem dX9_odds_74 : decode cX9_odds 74 = .ok (.ldc2_w 265, 3) := by decide +kernel
theorem dX9_odds_77 : decode cX9_odds 77 = .ok (.lastore, 1) := by decide +kernel
theorem dX9_odds_78 : decode cX9_odds 78 = .ok (.iconst 0, 1) := by decide +kernel
theorem dX9_odds_79 : decode cX9_odds 79 = .ok (.istore 4, 2) := by decide +kernel
theorem dX9_odds_81 : decode cX9_odds 81 = .ok (.iload 4, 2) := by decide +kernel
theorem dX9_odds_83 : decode cX9_odds 83 = .ok (.aload_n 0, 1) := by decide +kernel
theorem dX9_odds_84 : decode cX9_odds 84 = .ok (.getfield 83, 3) := by decide +kernel
theorem dX9_odds_87 : decode cX9_odds 87 = .ok (.if_icmp .ge 209, 3) := by decide +kernel
theorem dX9_odds_90 : decode cX9_odds 90 = .ok (.aload_n 0, 1) := by decide +kernel
theorem dX9_odds_91 : decode cX9_odds 91 = .ok (.iload 4, 2) := by decide +kernel
theorem dX9_odds_93 : decode cX9_odds 93 = .ok (.invokevirtual 193, 3) := by decide +kernel
theorem dX9_odds_96 : decode cX9_odds 96 = .ok (.ifCond .eq 12, 3) := by decide +kernel
theorem dX9_odds_99 : decode cX9_odds 99 = .ok (.aload_n 0, 1) := by decide +kernel
theorem dX9_odds_100 : decode cX9_odds 100 = .ok (.iload 4, 2) := by decide +kernel
theorem dX9_odds_102 : decode cX9_odds 102 = .ok (.invokevirtual 186, 3) := by decide +kernel
theorem dX9_odds_105 : decode cX9_odds 105 = .ok (.goto 10, 3) := by decide +kernel
theorem dX9_odds_108 : decode cX9_odds 108 = .ok (.aload_n 0, 1) := by decide +kernel
theorem dX9_odds_109 : decode cX9_odds 109 = .ok (.iload 4, 2) := by decide +kernel
theorem dX9_odds_111 : decode cX9_odds 111 = .ok (.invokevirtual 186, 3) := by decide +kernel
theorem dX9_odds_114 : decode cX9_odds 114 = .ok (.ineg, 1) := by decide +kernel
theorem dX9_odds_115 : decode cX9_odds 115 = .ok (.istore 5, 2) := by decide +kernel
theorem dX9_odds_117 : decode cX9_odds 117 = .ok (.aload_n 0, 1) := by decide +kernel
theorem dX9_odds_118 : decode cX9_odds 118 = .ok (.iload 4, 2) := by decide +kernel
theorem dX9_odds_120 : decode cX9_odds 120 = .ok (.invokevirtual 182, 3) := by decide +kernel
theorem dX9_odds_123 : decode cX9_odds 123 = .ok (.iload_n 1, 1) := by decide +kernel
theorem dX9_odds_124 : decode cX9_odds 124 = .ok (.if_icmp .ne 16, 3) := by decide +kernel
theorem dX9_odds_127 : decode cX9_odds 127 = .ok (.aload_n 0, 1) := by decide +kernel
theorem dX9_odds_128 : decode cX9_odds 128 = .ok (.aload_n 0, 1) := by decide +kernel
theorem dX9_odds_129 : decode cX9_odds 129 = .ok (.getfield 35, 3) := by decide +kernel
theorem dX9_odds_132 : decode cX9_odds 132 = .ok (.iload 4, 2) := by decide +kernel
theorem dX9_odds_134 : decode cX9_odds 134 = .ok (.invokevirtual 189, 3) := by decide +kernel
theorem dX9_odds_137 : decode cX9_odds 137 = .ok (.goto 4, 3) := by decide +kernel
theorem dX9_odds_140 : decode cX9_odds 140 = .ok (.iconst 0, 1) := by decide +kernel
theorem dX9_odds_141 : decode cX9_odds 141 = .ok (.istore 6, 2) := by decide +kernel
theorem dX9_odds_143 : decode cX9_odds 143 = .ok (.iload 6, 2) := by decide +kernel
theorem dX9_odds_145 : decode cX9_odds 145 = .ok (.ifCond .le 145, 3) := by decide +kernel
theorem dX9_odds_148 : decode cX9_odds 148 = .ok (.iconst 0, 1) := by decide +kernel
theorem dX9_odds_149 : decode cX9_odds 149 = .ok (.istore 7, 2) := by decide +kernel
theorem dX9_odds_151 : decode cX9_odds 151 = .ok (.iload 7, 2) := by decide +kernel
theorem dX9_odds_153 : decode cX9_odds 153 = .ok (.sipush 1200, 3) := by decide +kernel
theorem dX9_odds_156 : decode cX9_odds 156 = .ok (.if_icmp .ge 17, 3) := by decide +kernel
theorem dX9_odds_159 : decode cX9_odds 159 = .ok (.aload_n 0, 1) := by decide +kernel
theorem dX9_odds_160 : decode cX9_odds 160 = .ok (.getfield 64, 3) := by decide +kernel
theorem dX9_odds_163 : decode cX9_odds 163 = .ok (.iload 7, 2) := by decide +kernel
theorem dX9_odds_165 : decode cX9_odds 165 = .ok (.lconst 0, 1) := by decide +kernel
theorem dX9_odds_166 : decode cX9_odds 166 = .ok (.lastore, 1) := by decide +kernel
theorem dX9_odds_167 : decode cX9_odds 167 = .ok (.iinc 7 1, 3) := by decide +kernel
theorem dX9_odds_170 : decode cX9_odds 170 = .ok (.goto (-19), 3) := by decide +kernel
theorem dX9_odds_173 : decode cX9_odds 173 = .ok (.iconst 0, 1) := by decide +kernel
theorem dX9_odds_174 : decode cX9_odds 174 = .ok (.istore 7, 2) := by decide +kernel
theorem dX9_odds_176 : decode cX9_odds 176 = .ok (.iload 7, 2) := by decide +kernel
theorem dX9_odds_178 : decode cX9_odds 178 = .ok (.sipush 1200, 3) := by decide +kernel
theorem dX9_odds_181 : decode cX9_odds 181 = .ok (.if_icmp .ge 72, 3) := by decide +kernel
theorem dX9_odds_184 : decode cX9_odds 184 = .ok (.aload_n 0, 1) := by decide +kernel
theorem dX9_odds_185 : decode cX9_odds 185 = .ok (.getfield 60, 3) := by decide +kernel
theorem dX9_odds_188 : decode cX9_odds 188 = .ok (.iload 7, 2) := by decide +kernel
theorem dX9_odds_190 : decode cX9_odds 190 = .ok (.laload, 1) := by decide +kernel
theorem dX9_odds_191 : decode cX9_odds 191 = .ok (.lconst 0, 1) := by decide +kernel
theorem dX9_odds_192 : decode cX9_odds 192 = .ok (.lcmp, 1) := by decide +kernel
theorem dX9_odds_193 : decode cX9_odds 193 = .ok (.ifCond .le 54, 3) := by decide +kernel
theorem dX9_odds_196 : decode cX9_odds 196 = .ok (.aload_n 0, 1) := by decide +kernel
theorem dX9_odds_197 : decode cX9_odds 197 = .ok (.getfield 60, 3) := by decide +kernel
theorem dX9_odds_200 : decode cX9_odds 200 = .ok (.iload 7, 2) := by decide +kernel
theorem dX9_odds_202 : decode cX9_odds 202 = .ok (.laload, 1) := by decide +kernel
theorem dX9_odds_203 : decode cX9_odds 203 = .ok (.iload_n 3, 1) := by decide +kernel
theorem dX9_odds_204 : decode cX9_odds 204 = .ok (.i2l, 1) := by decide +kernel
theorem dX9_odds_205 : decode cX9_odds 205 = .ok (.lmul, 1) := by decide +kernel
theorem dX9_odds_206 : decode cX9_odds 206 = .ok (.ldc2_w 267, 3) := by decide +kernel
theorem dX9_odds_209 : decode cX9_odds 209 = .ok (.ldiv, 1) := by decide +kernel
theorem dX9_odds_210 : decode cX9_odds 210 = .ok (.lstore 8, 2) := by decide +kernel
theorem dX9_odds_212 : decode cX9_odds 212 = .ok (.aload_n 0, 1) := by decide +kernel
theorem dX9_odds_213 : decode cX9_odds 213 = .ok (.getfield 64, 3) := by decide +kernel
theorem dX9_odds_216 : decode cX9_odds 216 = .ok (.iload 7, 2) := by decide +kernel
theorem dX9_odds_218 : decode cX9_odds 218 = .ok (.dup2, 1) := by decide +kernel
theorem dX9_odds_219 : decode cX9_odds 219 = .ok (.laload, 1) := by decide +kernel
theorem dX9_odds_220 : decode cX9_odds 220 = .ok (.aload_n 0, 1) := by decide +kernel
theorem dX9_odds_221 : decode cX9_odds 221 = .ok (.getfield 60, 3) := by decide +kernel
theorem dX9_odds_224 : decode cX9_odds 224 = .ok (.iload 7, 2) := by decide +kernel
theorem dX9_odds_226 : decode cX9_odds 226 = .ok (.laload, 1) := by decide +kernel
theorem dX9_odds_227 : decode cX9_odds 227 = .ok (.lload 8, 2) := by decide +kernel
theorem dX9_odds_229 : decode cX9_odds 229 = .ok (.lsub, 1) := by decide +kernel
theorem dX9_odds_230 : decode cX9_odds 230 = .ok (.ladd, 1) := by decide +kernel
theorem dX9_odds_231 : decode cX9_odds 231 = .ok (.lastore, 1) := by decide +kernel
theorem dX9_odds_232 : decode cX9_odds 232 = .ok (.aload_n 0, 1) := by decide +kernel
theorem dX9_odds_233 : decode cX9_odds 233 = .ok (.getfield 64, 3) := by decide +kernel
theorem dX9_odds_236 : decode cX9_odds 236 = .ok (.iload 7, 2) := by decide +kernel
theorem dX9_odds_238 : decode cX9_odds 238 = .ok (.iload 5, 2) := by decide +kernel
theorem dX9_odds_240 : decode cX9_odds 240 = .ok (.iadd, 1) := by decide +kernel
theorem dX9_odds_241 : decode cX9_odds 241 = .ok (.dup2, 1) := by decide +kernel
theorem dX9_odds_242 : decode cX9_odds 242 = .ok (.laload, 1) := by decide +kernel
theorem dX9_odds_243 : decode cX9_odds 243 = .ok (.lload 8, 2) := by decide +kernel
theorem dX9_odds_245 : decode cX9_odds 245 = .ok (.ladd, 1) := by decide +kernel
theorem dX9_odds_246 : decode cX9_odds 246 = .ok (.lastore, 1) := by decide +kernel
theorem dX9_odds_247 : decode cX9_odds 247 = .ok (.iinc 7 1, 3) := by decide +kernel
theorem dX9_odds_250 : decode cX9_odds 250 = .ok (.goto (-74), 3) := by decide +kernel
theorem dX9_odds_253 : decode cX9_odds 253 = .ok (.iconst 0, 1) := by decide +kernel
theorem dX9_odds_254 : decode cX9_odds 254 = .ok (.istore 7, 2) := by decide +kernel
theorem dX9_odds_256 : decode cX9_odds 256 = .ok (.iload 7, 2) := by decide +kernel
theorem dX9_odds_258 : decode cX9_odds 258 = .ok (.sipush 1200, 3) := by decide +kernel
theorem dX9_odds_261 : decode cX9_odds 261 = .ok (.if_icmp .ge 23, 3) := by decide +kernel
theorem dX9_odds_264 : decode cX9_odds 264 = .ok (.aload_n 0, 1) := by decide +kernel
theorem dX9_odds_265 : decode cX9_odds 265 = .ok (.getfield 60, 3) := by decide +kernel
theorem dX9_odds_268 : decode cX9_odds 268 = .ok (.iload 7, 2) := by decide +kernel
theorem dX9_odds_270 : decode cX9_odds 270 = .ok (.aload_n 0, 1) := by decide +kernel
theorem dX9_odds_271 : decode cX9_odds 271 = .ok (.getfield 64, 3) := by decide +kernel
theorem dX9_odds_274 : decode cX9_odds 274 = .ok (.iload 7, 2) := by decide +kernel
theorem dX9_odds_276 : decode cX9_odds 276 = .ok (.laload, 1) := by decide +kernel
theorem dX9_odds_277 : decode cX9_odds 277 = .ok (.lastore, 1) := by decide +kernel
theorem dX9_odds_278 : decode cX9_odds 278 = .ok (.iinc 7 1, 3) := by decide +kernel
theorem dX9_odds_281 : decode cX9_odds 281 = .ok (.goto (-25), 3) := by decide +kernel
theorem dX9_odds_284 : decode cX9_odds 284 = .ok (.iinc 6 (-1), 3) := by decide +kernel
theorem dX9_odds_287 : decode cX9_odds 287 = .ok (.goto (-144), 3) := by decide +kernel
theorem dX9_odds_290 : decode cX9_odds 290 = .ok (.iinc 4 1, 3) := by decide +kernel
theorem dX9_odds_293 : decode cX9_odds 293 = .ok (.goto (-212), 3) := by decide +kernel
theorem dX9_odds_296 : decode cX9_odds 296 = .ok (.lconst 0, 1) := by decide +kernel
theorem dX9_odds_297 : decode cX9_odds 297 = .ok (.lstore 4, 2) := by decide +kernel
theorem dX9_odds_299 : decode cX9_odds 299 = .ok (.iconst 0, 1) := by decide +kernel
theorem dX9_odds_300 : decode cX9_odds 300 = .ok (.istore 6, 2) := by decide +kernel
theorem dX9_odds_302 : decode cX9_odds 302 = .ok (.iload 6, 2) := by decide +kernel
theorem dX9_odds_304 : decode cX9_odds 304 = .ok (.sipush 1200, 3) := by decide +kernel
theorem dX9_odds_307 : decode cX9_odds 307 = .ok (.if_icmp .ge 40, 3) := by decide +kernel
theorem dX9_odds_310 : decode cX9_odds 310 = .ok (.lload 4, 2) := by decide +kernel
theorem dX9_odds_312 : decode cX9_odds 312 = .ok (.iload 6, 2) := by decide +kernel
theorem dX9_odds_314 : decode cX9_odds 314 = .ok (.sipush 600, 3) := by decide +kernel
theorem dX9_odds_317 : decode cX9_odds 317 = .ok (.isub, 1) := by decide +kernel
theorem dX9_odds_318 : decode cX9_odds 318 = .ok (.aload_n 0, 1) := by decide +kernel
theorem dX9_odds_319 : decode cX9_odds 319 = .ok (.getfield 32, 3) := by decide +kernel
theorem dX9_odds_322 : decode cX9_odds 322 = .ok (.iload_n 2, 1) := by decide +kernel
theorem dX9_odds_323 : decode cX9_odds 323 = .ok (.iaload, 1) := by decide +kernel
theorem dX9_odds_324 : decode cX9_odds 324 = .ok (.if_icmp .gt 13, 3) := by decide +kernel
theorem dX9_odds_327 : decode cX9_odds 327 = .ok (.aload_n 0, 1) := by decide +kernel
theorem dX9_odds_328 : decode cX9_odds 328 = .ok (.getfield 60, 3) := by decide +kernel
theorem dX9_odds_331 : decode cX9_odds 331 = .ok (.iload 6, 2) := by decide +kernel
theorem dX9_odds_333 : decode cX9_odds 333 = .ok (.laload, 1) := by decide +kernel
theorem dX9_odds_334 : decode cX9_odds 334 = .ok (.goto 4, 3) := by decide +kernel
theorem dX9_odds_337 : decode cX9_odds 337 = .ok (.lconst 0, 1) := by decide +kernel
theorem dX9_odds_338 : decode cX9_odds 338 = .ok (.ladd, 1) := by decide +kernel
theorem dX9_odds_339 : decode cX9_odds 339 = .ok (.lstore 4, 2) := by decide +kernel
theorem dX9_odds_341 : decode cX9_odds 341 = .ok (.iinc 6 1, 3) := by decide +kernel
theorem dX9_odds_344 : decode cX9_odds 344 = .ok (.goto (-42), 3) := by decide +kernel
theorem dX9_odds_347 : decode cX9_odds 347 = .ok (.lload 4, 2) := by decide +kernel
theorem dX9_odds_349 : decode cX9_odds 349 = .ok (.l2i, 1) := by decide +kernel
theorem dX9_odds_350 : decode cX9_odds 350 = .ok (.ireturn, 1) := by decide +kernel
theorem dX9_write_0 : decode cX9_write 0 = .ok (.aload_n 0, 1) := by decide +kernel
theorem dX9_write_1 : decode cX9_write 1 = .ok (.iload_n 1, 1) := by decide +kernel
theorem dX9_write_2 : decode cX9_write 2 = .ok (.invokevirtual 214, 3) := by decide +kernel
theorem dX9_write_5 : decode cX9_write 5 = .ok (.ifCond .ne 6, 3) := by decide +kernel
theorem dX9_write_8 : decode cX9_write 8 = .ok (.ldc 213, 2) := by decide +kernel
theorem dX9_write_10 : decode cX9_write 10 = .ok (.ireturn, 1) := by decide +kernel
theorem dX9_write_11 : decode cX9_write 11 = .ok (.iload_n 2, 1) := by decide +kernel
theorem dX9_write_12 : decode cX9_write 12 = .ok (.sipush (-999), 3) := by decide +kernel
theorem dX9_write_15 : decode cX9_write 15 = .ok (.sipush 999, 3) := by decide +kernel
theorem dX9_write_18 : decode cX9_write 18 = .ok (.invokestatic 79, 3) := by decide +kernel
theorem dX9_write_21 : decode cX9_write 21 = .ok (.ifCond .ne 6, 3) := by decide +kernel
theorem dX9_write_24 : decode cX9_write 24 = .ok (.ldc 89, 2) := by decide +kernel
theorem dX9_write_26 : decode cX9_write 26 = .ok (.ireturn, 1) := by decide +kernel
theorem dX9_write_27 : decode cX9_write 27 = .ok (.aload_n 0, 1) := by decide +kernel
theorem dX9_write_28 : decode cX9_write 28 = .ok (.getfield 73, 3) := by decide +kernel
theorem dX9_write_31 : decode cX9_write 31 = .ok (.bipush 15, 2) := by decide +kernel
theorem dX9_write_33 : decode cX9_write 33 = .ok (.if_icmp .ne 6, 3) := by decide +kernel
theorem dX9_write_36 : decode cX9_write 36 = .ok (.ldc 93, 2) := by decide +kernel
theorem dX9_write_38 : decode cX9_write 38 = .ok (.ireturn, 1) := by decide +kernel
theorem dX9_write_39 : decode cX9_write 39 = .ok (.aload_n 0, 1) := by decide +kernel
theorem dX9_write_40 : decode cX9_write 40 = .ok (.getfield 51, 3) := by decide +kernel
theorem dX9_write_43 : decode cX9_write 43 = .ok (.iconst 2, 1) := by decide +kernel
theorem dX9_write_44 : decode cX9_write 44 = .ok (.aload_n 0, 1) := by decide +kernel
theorem dX9_write_45 : decode cX9_write 45 = .ok (.getfield 73, 3) := by decide +kernel
theorem dX9_write_48 : decode cX9_write 48 = .ok (.imul, 1) := by decide +kernel
theorem dX9_write_49 : decode cX9_write 49 = .ok (.iload_n 1, 1) := by decide +kernel
theorem dX9_write_50 : decode cX9_write 50 = .ok (.iastore, 1) := by decide +kernel
theorem dX9_write_51 : decode cX9_write 51 = .ok (.aload_n 0, 1) := by decide +kernel
theorem dX9_write_52 : decode cX9_write 52 = .ok (.getfield 51, 3) := by decide +kernel
theorem dX9_write_55 : decode cX9_write 55 = .ok (.iconst 2, 1) := by decide +kernel
theorem dX9_write_56 : decode cX9_write 56 = .ok (.aload_n 0, 1) := by decide +kernel
theorem dX9_write_57 : decode cX9_write 57 = .ok (.getfield 73, 3) := by decide +kernel
theorem dX9_write_60 : decode cX9_write 60 = .ok (.imul, 1) := by decide +kernel
theorem dX9_write_61 : decode cX9_write 61 = .ok (.iconst 1, 1) := by decide +kernel
theorem dX9_write_62 : decode cX9_write 62 = .ok (.iadd, 1) := by decide +kernel
theorem dX9_write_63 : decode cX9_write 63 = .ok (.iload_n 2, 1) := by decide +kernel
theorem dX9_write_64 : decode cX9_write 64 = .ok (.iastore, 1) := by decide +kernel
theorem dX9_write_65 : decode cX9_write 65 = .ok (.aload_n 0, 1) := by decide +kernel
theorem dX9_write_66 : decode cX9_write 66 = .ok (.dup, 1) := by decide +kernel
theorem dX9_write_67 : decode cX9_write 67 = .ok (.getfield 73, 3) := by decide +kernel
theorem dX9_write_70 : decode cX9_write 70 = .ok (.iconst 1, 1) := by decide +kernel
theorem dX9_write_71 : decode cX9_write 71 = .ok (.iadd, 1) := by decide +kernel
theorem dX9_write_72 : decode cX9_write 72 = .ok (.putfield 73, 3) := by decide +kernel
theorem dX9_write_75 : decode cX9_write 75 = .ok (.aload_n 0, 1) := by decide +kernel
theorem dX9_write_76 : decode cX9_write 76 = .ok (.getfield 73, 3) := by decide +kernel
theorem dX9_write_79 : decode cX9_write 79 = .ok (.ireturn, 1) := by decide +kernel
theorem dX9_tear_0 : decode cX9_tear 0 = .ok (.aload_n 0, 1) := by decide +kernel
theorem dX9_tear_1 : decode cX9_tear 1 = .ok (.getfield 73, 3) := by decide +kernel
theorem dX9_tear_4 : decode cX9_tear 4 = .ok (.istore_n 1, 1) := by decide +kernel
theorem dX9_tear_5 : decode cX9_tear 5 = .ok (.aload_n 0, 1) := by decide +kernel
theorem dX9_tear_6 : decode cX9_tear 6 = .ok (.iconst 0, 1) := by decide +kernel
theorem dX9_tear_7 : decode cX9_tear 7 = .ok (.putfield 73, 3) := by decide +kernel
theorem dX9_tear_10 : decode cX9_tear 10 = .ok (.iload_n 1, 1) := by decide +kernel
theorem dX9_tear_11 : decode cX9_tear 11 = .ok (.ireturn, 1) := by decide +kernel
theorem dX9_judge_0 : decode cX9_judge 0 = .ok (.iconst 0, 1) := by decide +kernel
theorem dX9_judge_1 : decode cX9_judge 1 = .ok (.istore_n 1, 1) := by decide +kernel
theorem dX9_judge_2 : decode cX9_judge 2 = .ok (.iload_n 1, 1) := by decide +kernel
theorem dX9_judge_3 : decode cX9_judge 3 = .ok (.aload_n 0, 1) := by decide +kernel
theorem dX9_judge_4 : decode cX9_judge 4 = .ok (.getfield 73, 3) := by decide +kernel
theorem dX9_judge_7 : decode cX9_judge 7 = .ok (.if_icmp .ge 40, 3) := by decide +kernel
theorem dX9_judge_10 : decode cX9_judge 10 = .ok (.aload_n 0, 1) := by decide +kernel
theorem dX9_judge_11 : decode cX9_judge 11 = .ok (.aload_n 0, 1) := by decide +kernel
theorem dX9_judge_12 : decode cX9_judge 12 = .ok (.getfield 35, 3) := by decide +kernel
theorem dX9_judge_15 : decode cX9_judge 15 = .ok (.aload_n 0, 1) := by decide +kernel
theorem dX9_judge_16 : decode cX9_judge 16 = .ok (.getfield 51, 3) := by decide +kernel
theorem dX9_judge_19 : decode cX9_judge 19 = .ok (.iconst 2, 1) := by decide +kernel
theorem dX9_judge_20 : decode cX9_judge 20 = .ok (.iload_n 1, 1) := by decide +kernel
theorem dX9_judge_21 : decode cX9_judge 21 = .ok (.imul, 1) := by decide +kernel
theorem dX9_judge_22 : decode cX9_judge 22 = .ok (.iaload, 1) := by decide +kernel
theorem dX9_judge_23 : decode cX9_judge 23 = .ok (.invokevirtual 217, 3) := by decide +kernel
theorem dX9_judge_26 : decode cX9_judge 26 = .ok (.aload_n 0, 1) := by decide +kernel
theorem dX9_judge_27 : decode cX9_judge 27 = .ok (.getfield 51, 3) := by decide +kernel
theorem dX9_judge_30 : decode cX9_judge 30 = .ok (.iconst 2, 1) := by decide +kernel
theorem dX9_judge_31 : decode cX9_judge 31 = .ok (.iload_n 1, 1) := by decide +kernel
theorem dX9_judge_32 : decode cX9_judge 32 = .ok (.imul, 1) := by decide +kernel
theorem dX9_judge_33 : decode cX9_judge 33 = .ok (.iconst 1, 1) := by decide +kernel
theorem dX9_judge_34 : decode cX9_judge 34 = .ok (.iadd, 1) := by decide +kernel
theorem dX9_judge_35 : decode cX9_judge 35 = .ok (.iaload, 1) := by decide +kernel
theorem dX9_judge_36 : decode cX9_judge 36 = .ok (.if_icmp .eq 5, 3) := by decide +kernel
theorem dX9_judge_39 : decode cX9_judge 39 = .ok (.iload_n 1, 1) := by decide +kernel
theorem dX9_judge_40 : decode cX9_judge 40 = .ok (.ireturn, 1) := by decide +kernel
theorem dX9_judge_41 : decode cX9_judge 41 = .ok (.iinc 1 1, 3) := by decide +kernel
theorem dX9_judge_44 : decode cX9_judge 44 = .ok (.goto (-42), 3) := by decide +kernel
theorem dX9_judge_47 : decode cX9_judge 47 = .ok (.iconst (-1), 1) := by decide +kernel
theorem dX9_judge_48 : decode cX9_judge 48 = .ok (.ireturn, 1) := by decide +kernel
theorem dX9_seed_0 : decode cX9_seed 0 = .ok (.iload_n 1, 1) := by decide +kernel
theorem dX9_seed_1 : decode cX9_seed 1 = .ok (.ifCond .ge 6, 3) := by decide +kernel
theorem dX9_seed_4 : decode cX9_seed 4 = .ok (.ldc 89, 2) := by decide +kernel
theorem dX9_seed_6 : decode cX9_seed 6 = .ok (.ireturn, 1) := by decide +kernel
theorem dX9_seed_7 : decode cX9_seed 7 = .ok (.aload_n 0, 1) := by decide +kernel
theorem dX9_seed_8 : decode cX9_seed 8 = .ok (.getfield 35, 3) := by decide +kernel
theorem dX9_seed_11 : decode cX9_seed 11 = .ok (.bipush 57, 2) := by decide +kernel
theorem dX9_seed_13 : decode cX9_seed 13 = .ok (.iaload, 1) := by decide +kernel
theorem dX9_seed_14 : decode cX9_seed 14 = .ok (.istore_n 2, 1) := by decide +kernel
theorem dX9_seed_15 : decode cX9_seed 15 = .ok (.aload_n 0, 1) := by decide +kernel
theorem dX9_seed_16 : decode cX9_seed 16 = .ok (.getfield 35, 3) := by decide +kernel
theorem dX9_seed_19 : decode cX9_seed 19 = .ok (.bipush 57, 2) := by decide +kernel
theorem dX9_seed_21 : decode cX9_seed 21 = .ok (.iload_n 1, 1) := by decide +kernel
theorem dX9_seed_22 : decode cX9_seed 22 = .ok (.iastore, 1) := by decide +kernel
theorem dX9_seed_23 : decode cX9_seed 23 = .ok (.iload_n 2, 1) := by decide +kernel
theorem dX9_seed_24 : decode cX9_seed 24 = .ok (.ireturn, 1) := by decide +kernel
theorem dX9_keep_0 : decode cX9_keep 0 = .ok (.iload_n 1, 1) := by decide +kernel
theorem dX9_keep_1 : decode cX9_keep 1 = .ok (.iconst 0, 1) := by decide +kernel
theorem dX9_keep_2 : decode cX9_keep 2 = .ok (.iconst 1, 1) := by decide +kernel
theorem dX9_keep_3 : decode cX9_keep 3 = .ok (.invokestatic 79, 3) := by decide +kernel
theorem dX9_keep_6 : decode cX9_keep 6 = .ok (.ifCond .ne 6, 3) := by decide +kernel
theorem dX9_keep_9 : decode cX9_keep 9 = .ok (.ldc 213, 2) := by decide +kernel
theorem dX9_keep_11 : decode cX9_keep 11 = .ok (.ireturn, 1) := by decide +kernel
theorem dX9_keep_12 : decode cX9_keep 12 = .ok (.aload_n 0, 1) := by decide +kernel
theorem dX9_keep_13 : decode cX9_keep 13 = .ok (.getfield 35, 3) := by decide +kernel
theorem dX9_keep_16 : decode cX9_keep 16 = .ok (.iconst 0, 1) := by decide +kernel
theorem dX9_keep_17 : decode cX9_keep 17 = .ok (.aload_n 0, 1) := by decide +kernel
theorem dX9_keep_18 : decode cX9_keep 18 = .ok (.getfield 44, 3) := by decide +kernel
theorem dX9_keep_21 : decode cX9_keep 21 = .ok (.bipush 58, 2) := by decide +kernel
theorem dX9_keep_23 : decode cX9_keep 23 = .ok (.iload_n 1, 1) := by decide +kernel
theorem dX9_keep_24 : decode cX9_keep 24 = .ok (.imul, 1) := by decide +kernel
theorem dX9_keep_25 : decode cX9_keep 25 = .ok (.invokestatic 202, 3) := by decide +kernel
theorem dX9_keep_28 : decode cX9_keep 28 = .ok (.aload_n 0, 1) := by decide +kernel
theorem dX9_keep_29 : decode cX9_keep 29 = .ok (.getfield 47, 3) := by decide +kernel
theorem dX9_keep_32 : decode cX9_keep 32 = .ok (.iload_n 1, 1) := by decide +kernel
theorem dX9_keep_33 : decode cX9_keep 33 = .ok (.iconst 1, 1) := by decide +kernel
theorem dX9_keep_34 : decode cX9_keep 34 = .ok (.bastore, 1) := by decide +kernel
theorem dX9_keep_35 : decode cX9_keep 35 = .ok (.iconst 1, 1) := by decide +kernel
theorem dX9_keep_36 : decode cX9_keep 36 = .ok (.ireturn, 1) := by decide +kernel
theorem dX9_goBack_0 : decode cX9_goBack 0 = .ok (.iload_n 1, 1) := by decide +kernel
theorem dX9_goBack_1 : decode cX9_goBack 1 = .ok (.iconst 0, 1) := by decide +kernel
theorem dX9_goBack_2 : decode cX9_goBack 2 = .ok (.iconst 1, 1) := by decide +kernel
theorem dX9_goBack_3 : decode cX9_goBack 3 = .ok (.invokestatic 79, 3) := by decide +kernel
theorem dX9_goBack_6 : decode cX9_goBack 6 = .ok (.ifCond .ne 6, 3) := by decide +kernel
theorem dX9_goBack_9 : decode cX9_goBack 9 = .ok (.ldc 213, 2) := by decide +kernel
theorem dX9_goBack_11 : decode cX9_goBack 11 = .ok (.ireturn, 1) := by decide +kernel
theorem dX9_goBack_12 : decode cX9_goBack 12 = .ok (.aload_n 0, 1) := by decide +kernel
theorem dX9_goBack_13 : decode cX9_goBack 13 = .ok (.getfield 47, 3) := by decide +kernel
theorem dX9_goBack_16 : decode cX9_goBack 16 = .ok (.iload_n 1, 1) := by decide +kernel
theorem dX9_goBack_17 : decode cX9_goBack 17 = .ok (.baload, 1) := by decide +kernel
theorem dX9_goBack_18 : decode cX9_goBack 18 = .ok (.ifCond .ne 6, 3) := by decide +kernel
theorem dX9_goBack_21 : decode cX9_goBack 21 = .ok (.ldc 223, 2) := by decide +kernel
theorem dX9_goBack_23 : decode cX9_goBack 23 = .ok (.ireturn, 1) := by decide +kernel
theorem dX9_goBack_24 : decode cX9_goBack 24 = .ok (.aload_n 0, 1) := by decide +kernel
theorem dX9_goBack_25 : decode cX9_goBack 25 = .ok (.getfield 44, 3) := by decide +kernel
theorem dX9_goBack_28 : decode cX9_goBack 28 = .ok (.bipush 58, 2) := by decide +kernel
theorem dX9_goBack_30 : decode cX9_goBack 30 = .ok (.iload_n 1, 1) := by decide +kernel
theorem dX9_goBack_31 : decode cX9_goBack 31 = .ok (.imul, 1) := by decide +kernel
theorem dX9_goBack_32 : decode cX9_goBack 32 = .ok (.aload_n 0, 1) := by decide +kernel
theorem dX9_goBack_33 : decode cX9_goBack 33 = .ok (.getfield 35, 3) := by decide +kernel
theorem dX9_goBack_36 : decode cX9_goBack 36 = .ok (.iconst 0, 1) := by decide +kernel
theorem dX9_goBack_37 : decode cX9_goBack 37 = .ok (.invokestatic 202, 3) := by decide +kernel
theorem dX9_goBack_40 : decode cX9_goBack 40 = .ok (.iconst 1, 1) := by decide +kernel
theorem dX9_goBack_41 : decode cX9_goBack 41 = .ok (.ireturn, 1) := by decide +kernel
theorem dJ6_bitCount_0f7a4_0 : decode cJ6_bitCount_0f7a4 0 = .ok (.iload_n 0, 1) := by decide +kernel
theorem dJ6_bitCount_0f7a4_1 : decode cJ6_bitCount_0f7a4 1 = .ok (.iload_n 0, 1) := by decide +kernel
theorem dJ6_bitCount_0f7a4_2 : decode cJ6_bitCount_0f7a4 2 = .ok (.iconst 1, 1) := by decide +kernel
theorem dJ6_bitCount_0f7a4_3 : decode cJ6_bitCount_0f7a4 3 = .ok (.iushr, 1) := by decide +kernel
theorem dJ6_bitCount_0f7a4_4 : decode cJ6_bitCount_0f7a4 4 = .ok (.ldc_w 265, 3) := by decide +kernel
theorem dJ6_bitCount_0f7a4_7 : decode cJ6_bitCount_0f7a4 7 = .ok (.iand, 1) := by decide +kernel
theorem dJ6_bitCount_0f7a4_8 : decode cJ6_bitCount_0f7a4 8 = .ok (.isub, 1) := by decide +kernel
theorem dJ6_bitCount_0f7a4_9 : decode cJ6_bitCount_0f7a4 9 = .ok (.istore_n 0, 1) := by decide +kernel
theorem dJ6_bitCount_0f7a4_10 : decode cJ6_bitCount_0f7a4 10 = .ok (.iload_n 0, 1) := by decide +kernel
theorem dJ6_bitCount_0f7a4_11 : decode cJ6_bitCount_0f7a4 11 = .ok (.ldc_w 266, 3) := by decide +kernel
theorem dJ6_bitCount_0f7a4_14 : decode cJ6_bitCount_0f7a4 14 = .ok (.iand, 1) := by decide +kernel
theorem dJ6_bitCount_0f7a4_15 : decode cJ6_bitCount_0f7a4 15 = .ok (.iload_n 0, 1) := by decide +kernel
theorem dJ6_bitCount_0f7a4_16 : decode cJ6_bitCount_0f7a4 16 = .ok (.iconst 2, 1) := by decide +kernel
theorem dJ6_bitCount_0f7a4_17 : decode cJ6_bitCount_0f7a4 17 = .ok (.iushr, 1) := by decide +kernel
theorem dJ6_bitCount_0f7a4_18 : decode cJ6_bitCount_0f7a4 18 = .ok (.ldc_w 266, 3) := by decide +kernel
theorem dJ6_bitCount_0f7a4_21 : decode cJ6_bitCount_0f7a4 21 = .ok (.iand, 1) := by decide +kernel
theorem dJ6_bitCount_0f7a4_22 : decode cJ6_bitCount_0f7a4 22 = .ok (.iadd, 1) := by decide +kernel
theorem dJ6_bitCount_0f7a4_23 : decode cJ6_bitCount_0f7a4 23 = .ok (.istore_n 0, 1) := by decide +kernel
theorem dJ6_bitCount_0f7a4_24 : decode cJ6_bitCount_0f7a4 24 = .ok (.iload_n 0, 1) := by decide +kernel
theorem dJ6_bitCount_0f7a4_25 : decode cJ6_bitCount_0f7a4 25 = .ok (.iload_n 0, 1) := by decide +kernel
theorem dJ6_bitCount_0f7a4_26 : decode cJ6_bitCount_0f7a4 26 = .ok (.iconst 4, 1) := by decide +kernel
theorem dJ6_bitCount_0f7a4_27 : decode cJ6_bitCount_0f7a4 27 = .ok (.iushr, 1) := by decide +kernel
theorem dJ6_bitCount_0f7a4_28 : decode cJ6_bitCount_0f7a4 28 = .ok (.iadd, 1) := by decide +kernel
theorem dJ6_bitCount_0f7a4_29 : decode cJ6_bitCount_0f7a4 29 = .ok (.ldc_w 267, 3) := by decide +kernel
theorem dJ6_bitCount_0f7a4_32 : decode cJ6_bitCount_0f7a4 32 = .ok (.iand, 1) := by decide +kernel
theorem dJ6_bitCount_0f7a4_33 : decode cJ6_bitCount_0f7a4 33 = .ok (.istore_n 0, 1) := by decide +kernel
theorem dJ6_bitCount_0f7a4_34 : decode cJ6_bitCount_0f7a4 34 = .ok (.iload_n 0, 1) := by decide +kernel
theorem dJ6_bitCount_0f7a4_35 : decode cJ6_bitCount_0f7a4 35 = .ok (.iload_n 0, 1) := by decide +kernel
theorem dJ6_bitCount_0f7a4_36 : decode cJ6_bitCount_0f7a4 36 = .ok (.bipush 8, 2) := by decide +kernel
theorem dJ6_bitCount_0f7a4_38 : decode cJ6_bitCount_0f7a4 38 = .ok (.iushr, 1) := by decide +kernel
theorem dJ6_bitCount_0f7a4_39 : decode cJ6_bitCount_0f7a4 39 = .ok (.iadd, 1) := by decide +kernel
theorem dJ6_bitCount_0f7a4_40 : decode cJ6_bitCount_0f7a4 40 = .ok (.istore_n 0, 1) := by decide +kernel
theorem dJ6_bitCount_0f7a4_41 : decode cJ6_bitCount_0f7a4 41 = .ok (.iload_n 0, 1) := by decide +kernel
theorem dJ6_bitCount_0f7a4_42 : decode cJ6_bitCount_0f7a4 42 = .ok (.iload_n 0, 1) := by decide +kernel
theorem dJ6_bitCount_0f7a4_43 : decode cJ6_bitCount_0f7a4 43 = .ok (.bipush 16, 2) := by decide +kernel
theorem dJ6_bitCount_0f7a4_45 : decode cJ6_bitCount_0f7a4 45 = .ok (.iushr, 1) := by decide +kernel
theorem dJ6_bitCount_0f7a4_46 : decode cJ6_bitCount_0f7a4 46 = .ok (.iadd, 1) := by decide +kernel
theorem dJ6_bitCount_0f7a4_47 : decode cJ6_bitCount_0f7a4 47 = .ok (.istore_n 0, 1) := by decide +kernel
theorem dJ6_bitCount_0f7a4_48 : decode cJ6_bitCount_0f7a4 48 = .ok (.iload_n 0, 1) := by decide +kernel
theorem dJ6_bitCount_0f7a4_49 : decode cJ6_bitCount_0f7a4 49 = .ok (.bipush 63, 2) := by decide +kernel
theorem dJ6_bitCount_0f7a4_51 : decode cJ6_bitCount_0f7a4 51 = .ok (.iand, 1) := by decide +kernel
theorem dJ6_bitCount_0f7a4_52 : decode cJ6_bitCount_0f7a4 52 = .ok (.ireturn, 1) := by decide +kernel
theorem dJ9_max_7cf53_0 : decode cJ9_max_7cf53 0 = .ok (.iload_n 0, 1) := by decide +kernel
theorem dJ9_max_7cf53_1 : decode cJ9_max_7cf53 1 = .ok (.iload_n 1, 1) := by decide +kernel
theorem dJ9_max_7cf53_2 : decode cJ9_max_7cf53 2 = .ok (.if_icmp .lt 7, 3) := by decide +kernel
theorem dJ9_max_7cf53_5 : decode cJ9_max_7cf53 5 = .ok (.iload_n 0, 1) := by decide +kernel
theorem dJ9_max_7cf53_6 : decode cJ9_max_7cf53 6 = .ok (.goto 4, 3) := by decide +kernel
theorem dJ9_max_7cf53_9 : decode cJ9_max_7cf53 9 = .ok (.iload_n 1, 1) := by decide +kernel
theorem dJ9_max_7cf53_10 : decode cJ9_max_7cf53 10 = .ok (.ireturn, 1) := by decide +kernel
theorem dJ9_min_7cf53_0 : decode cJ9_min_7cf53 0 = .ok (.iload_n 0, 1) := by decide +kernel
theorem dJ9_min_7cf53_1 : decode cJ9_min_7cf53 1 = .ok (.iload_n 1, 1) := by decide +kernel
theorem dJ9_min_7cf53_2 : decode cJ9_min_7cf53 2 = .ok (.if_icmp .gt 7, 3) := by decide +kernel
theorem dJ9_min_7cf53_5 : decode cJ9_min_7cf53 5 = .ok (.iload_n 0, 1) := by decide +kernel
theorem dJ9_min_7cf53_6 : decode cJ9_min_7cf53 6 = .ok (.goto 4, 3) := by decide +kernel
theorem dJ9_min_7cf53_9 : decode cJ9_min_7cf53 9 = .ok (.iload_n 1, 1) := by decide +kernel
theorem dJ9_min_7cf53_10 : decode cJ9_min_7cf53 10 = .ok (.ireturn, 1) := by decide +kernel
theorem dJ7_fill_53178_0 : decode cJ7_fill_53178 0 = .ok (.iconst 0, 1) := by decide +kernel
theorem dJ7_fill_53178_1 : decode cJ7_fill_53178 1 = .ok (.istore_n 2, 1) := by decide +kernel
theorem dJ7_fill_53178_2 : decode cJ7_fill_53178 2 = .ok (.aload_n 0, 1) := by decide +kernel
theorem dJ7_fill_53178_3 : decode cJ7_fill_53178 3 = .ok (.arraylength, 1) := by decide +kernel
theorem dJ7_fill_53178_4 : decode cJ7_fill_53178 4 = .ok (.istore_n 3, 1) := by decide +kernel
theorem dJ7_fill_53178_5 : decode cJ7_fill_53178 5 = .ok (.iload_n 2, 1) := by decide +kernel
theorem dJ7_fill_53178_6 : decode cJ7_fill_53178 6 = .ok (.iload_n 3, 1) := by decide +kernel
theorem dJ7_fill_53178_7 : decode cJ7_fill_53178 7 = .ok (.if_icmp .ge 13, 3) := by decide +kernel
theorem dJ7_fill_53178_10 : decode cJ7_fill_53178 10 = .ok (.aload_n 0, 1) := by decide +kernel
theorem dJ7_fill_53178_11 : decode cJ7_fill_53178 11 = .ok (.iload_n 2, 1) := by decide +kernel
theorem dJ7_fill_53178_12 : decode cJ7_fill_53178 12 = .ok (.iload_n 1, 1) := by decide +kernel
theorem dJ7_fill_53178_13 : decode cJ7_fill_53178 13 = .ok (.iastore, 1) := by decide +kernel
theorem dJ7_fill_53178_14 : decode cJ7_fill_53178 14 = .ok (.iinc 2 1, 3) := by decide +kernel
theorem dJ7_fill_53178_17 : decode cJ7_fill_53178 17 = .ok (.goto (-12), 3) := by decide +kernel
theorem dJ7_fill_53178_20 : decode cJ7_fill_53178 20 = .ok (.return_, 1) := by decide +kernel
theorem dL_law_0 : decode cL_law 0 = .ok (.new 7, 3) := by decide +kernel
theorem dL_law_3 : decode cL_law 3 = .ok (.dup, 1) := by decide +kernel
theorem dL_law_4 : decode cL_law 4 = .ok (.invokespecial 9, 3) := by decide +kernel
theorem dL_law_7 : decode cL_law 7 = .ok (.astore_n 1, 1) := by decide +kernel
theorem dL_law_8 : decode cL_law 8 = .ok (.new 10, 3) := by decide +kernel
theorem dL_law_11 : decode cL_law 11 = .ok (.dup, 1) := by decide +kernel
theorem dL_law_12 : decode cL_law 12 = .ok (.invokespecial 12, 3) := by decide +kernel
theorem dL_law_15 : decode cL_law 15 = .ok (.astore_n 2, 1) := by decide +kernel
theorem dL_law_16 : decode cL_law 16 = .ok (.iconst 0, 1) := by decide +kernel
theorem dL_law_17 : decode cL_law 17 = .ok (.istore_n 3, 1) := by decide +kernel
theorem dL_law_18 : decode cL_law 18 = .ok (.iload_n 3, 1) := by decide +kernel
theorem dL_law_19 : decode cL_law 19 = .ok (.aload_n 0, 1) := by decide +kernel
theorem dL_law_20 : decode cL_law 20 = .ok (.arraylength, 1) := by decide +kernel
theorem dL_law_21 : decode cL_law 21 = .ok (.iconst 5, 1) := by decide +kernel
theorem dL_law_22 : decode cL_law 22 = .ok (.isub, 1) := by decide +kernel
theorem dL_law_23 : decode cL_law 23 = .ok (.if_icmp .gt 977, 3) := by decide +kernel
theorem dL_law_26 : decode cL_law 26 = .ok (.aload_n 0, 1) := by decide +kernel
theorem dL_law_27 : decode cL_law 27 = .ok (.iload_n 3, 1) := by decide +kernel
theorem dL_law_28 : decode cL_law 28 = .ok (.iaload, 1) := by decide +kernel
theorem dL_law_29 : decode cL_law 29 = .ok (.bipush 31, 2) := by decide +kernel
theorem dL_law_31 : decode cL_law 31 = .ok (.iand, 1) := by decide +kernel
theorem dL_law_32 : decode cL_law 32 = .ok (.tableswitch 962 0 27 #[128, 151, 164, 177, 200, 233, 266, 299, 322, 345, 378, 411, 434, 457, 490, 523, 566, 609, 662, 705, 748, 791, 834, 867, 880, 893, 916, 939], 128) := by decide +kernel
theorem dL_law_160 : decode cL_law 160 = .ok (.aload_n 1, 1) := by decide +kernel
theorem dL_law_161 : decode cL_law 161 = .ok (.aload_n 0, 1) := by decide +kernel
theorem dL_law_162 : decode cL_law 162 = .ok (.iload_n 3, 1) := by decide +kernel
theorem dL_law_163 : decode cL_law 163 = .ok (.iconst 1, 1) := by decide +kernel
theorem dL_law_164 : decode cL_law 164 = .ok (.iadd, 1) := by decide +kernel
theorem dL_law_165 : decode cL_law 165 = .ok (.iaload, 1) := by decide +kernel
theorem dL_law_166 : decode cL_law 166 = .ok (.invokevirtual 13, 3) := by decide +kernel
theorem dL_law_169 : decode cL_law 169 = .ok (.aload_n 2, 1) := by decide +kernel
theorem dL_law_170 : decode cL_law 170 = .ok (.aload_n 0, 1) := by decide +kernel
theorem dL_law_171 : decode cL_law 171 = .ok (.iload_n 3, 1) := by decide +kernel
theorem dL_law_172 : decode cL_law 172 = .ok (.iconst 1, 1) := by decide +kernel
theorem dL_law_173 : decode cL_law 173 = .ok (.iadd, 1) := by decide +kernel
theorem dL_law_174 : decode cL_law 174 = .ok (.iaload, 1) := by decide +kernel
theorem dL_law_175 : decode cL_law 175 = .ok (.invokevirtual 17, 3) := by decide +kernel
theorem dL_law_178 : decode cL_law 178 = .ok (.if_icmp .eq 816, 3) := by decide +kernel
theorem dL_law_181 : decode cL_law 181 = .ok (.iconst 0, 1) := by decide +kernel
theorem dL_law_182 : decode cL_law 182 = .ok (.ireturn, 1) := by decide +kernel
theorem dL_law_183 : decode cL_law 183 = .ok (.aload_n 1, 1) := by decide +kernel
theorem dL_law_184 : decode cL_law 184 = .ok (.invokevirtual 18, 3) := by decide +kernel
theorem dL_law_187 : decode cL_law 187 = .ok (.aload_n 2, 1) := by decide +kernel
theorem dL_law_188 : decode cL_law 188 = .ok (.invokevirtual 22, 3) := by decide +kernel
theorem dL_law_191 : decode cL_law 191 = .ok (.if_icmp .eq 803, 3) := by decide +kernel
theorem dL_law_194 : decode cL_law 194 = .ok (.iconst 0, 1) := by decide +kernel
theorem dL_law_195 : decode cL_law 195 = .ok (.ireturn, 1) := by decide +kernel
theorem dL_law_196 : decode cL_law 196 = .ok (.aload_n 1, 1) := by decide +kernel
theorem dL_law_197 : decode cL_law 197 = .ok (.invokevirtual 23, 3) := by decide +kernel
theorem dL_law_200 : decode cL_law 200 = .ok (.aload_n 2, 1) := by decide +kernel
theorem dL_law_201 : decode cL_law 201 = .ok (.invokevirtual 26, 3) := by decide +kernel
theorem dL_law_204 : decode cL_law 204 = .ok (.if_icmp .eq 790, 3) := by decide +kernel
theorem dL_law_207 : decode cL_law 207 = .ok (.iconst 0, 1) := by decide +kernel
theorem dL_law_208 : decode cL_law 208 = .ok (.ireturn, 1) := by decide +kernel
theorem dL_law_209 : decode cL_law 209 = .ok (.aload_n 1, 1) := by decide +kernel
theorem dL_law_210 : decode cL_law 210 = .ok (.aload_n 0, 1) := by decide +kernel
theorem dL_law_211 : decode cL_law 211 = .ok (.iload_n 3, 1) := by decide +kernel
theorem dL_law_212 : decode cL_law 212 = .ok (.iconst 1, 1) := by decide +kernel
theorem dL_law_213 : decode cL_law 213 = .ok (.iadd, 1) := by decide +kernel
theorem dL_law_214 : decode cL_law 214 = .ok (.iaload, 1) := by decide +kernel
theorem dL_law_215 : decode cL_law 215 = .ok (.invokevirtual 27, 3) := by decide +kernel
theorem dL_law_218 : decode cL_law 218 = .ok (.aload_n 2, 1) := by decide +kernel
theorem dL_law_219 : decode cL_law 219 = .ok (.aload_n 0, 1) := by decide +kernel
theorem dL_law_220 : decode cL_law 220 = .ok (.iload_n 3, 1) := by decide +kernel
theorem dL_law_221 : decode cL_law 221 = .ok (.iconst 1, 1) := by decide +kernel
theorem dL_law_222 : decode cL_law 222 = .ok (.iadd, 1) := by decide +kernel
theorem dL_law_223 : decode cL_law 223 = .ok (.iaload, 1) := by decide +kernel
theorem dL_law_224 : decode cL_law 224 = .ok (.invokevirtual 30, 3) := by decide +kernel
theorem dL_law_227 : decode cL_law 227 = .ok (.if_icmp .eq 767, 3) := by decide +kernel
theorem dL_law_230 : decode cL_law 230 = .ok (.iconst 0, 1) := by decide +kernel
theorem dL_law_231 : decode cL_law 231 = .ok (.ireturn, 1) := by decide +kernel
theorem dL_law_232 : decode cL_law 232 = .ok (.aload_n 1, 1) := by decide +kernel
theorem dL_law_233 : decode cL_law 233 = .ok (.aload_n 0, 1) := by decide +kernel
theorem dL_law_234 : decode cL_law 234 = .ok (.iload_n 3, 1) := by decide +kernel
theorem dL_law_235 : decode cL_law 235 = .ok (.iconst 1, 1) := by decide +kernel
theorem dL_law_236 : decode cL_law 236 = .ok (.iadd, 1) := by decide +kernel
theorem dL_law_237 : decode cL_law 237 = .ok (.iaload, 1) := by decide +kernel
theorem dL_law_238 : decode cL_law 238 = .ok (.aload_n 0, 1) := by decide +kernel
theorem dL_law_239 : decode cL_law 239 = .ok (.iload_n 3, 1) := by decide +kernel
theorem dL_law_240 : decode cL_law 240 = .ok (.iconst 2, 1) := by decide +kernel
theorem dL_law_241 : decode cL_law 241 = .ok (.iadd, 1) := by decide +kernel
theorem dL_law_242 : decode cL_law 242 = .ok (.iaload, 1) := by decide +kernel
theorem dL_law_243 : decode cL_law 243 = .ok (.invokevirtual 31, 3) := by decide +kernel
theorem dL_law_246 : decode cL_law 246 = .ok (.aload_n 2, 1) := by decide +kernel
theorem dL_law_247 : decode cL_law 247 = .ok (.aload_n 0, 1) := by decide +kernel
theorem dL_law_248 : decode cL_law 248 = .ok (.iload_n 3, 1) := by decide +kernel
theorem dL_law_249 : decode cL_law 249 = .ok (.iconst 1, 1) := by decide +kernel
theorem dL_law_250 : decode cL_law 250 = .ok (.iadd, 1) := by decide +kernel
theorem dL_law_251 : decode cL_law 251 = .ok (.iaload, 1) := by decide +kernel
theorem dL_law_252 : decode cL_law 252 = .ok (.aload_n 0, 1) := by decide +kernel
theorem dL_law_253 : decode cL_law 253 = .ok (.iload_n 3, 1) := by decide +kernel
theorem dL_law_254 : decode cL_law 254 = .ok (.iconst 2, 1) := by decide +kernel
theorem dL_law_255 : decode cL_law 255 = .ok (.iadd, 1) := by decide +kernel
theorem dL_law_256 : decode cL_law 256 = .ok (.iaload, 1) := by decide +kernel
theorem dL_law_257 : decode cL_law 257 = .ok (.invokevirtual 35, 3) := by decide +kernel
theorem dL_law_260 : decode cL_law 260 = .ok (.if_icmp .eq 734, 3) := by decide +kernel
theorem dL_law_263 : decode cL_law 263 = .ok (.iconst 0, 1) := by decide +kernel
theorem dL_law_264 : decode cL_law 264 = .ok (.ireturn, 1) := by decide +kernel
theorem dL_law_265 : decode cL_law 265 = .ok (.aload_n 1, 1) := by decide +kernel
theorem dL_law_266 : decode cL_law 266 = .ok (.aload_n 0, 1) := by decide +kernel
theorem dL_law_267 : decode cL_law 267 = .ok (.iload_n 3, 1) := by decide +kernel
theorem dL_law_268 : decode cL_law 268 = .ok (.iconst 1, 1) := by decide +kernel
theorem dL_law_269 : decode cL_law 269 = .ok (.iadd, 1) := by decide +kernel
theorem dL_law_270 : decode cL_law 270 = .ok (.iaload, 1) := by decide +kernel
theorem dL_law_271 : decode cL_law 271 = .ok (.aload_n 0, 1) := by decide +kernel
theorem dL_law_272 : decode cL_law 272 = .ok (.iload_n 3, 1) := by decide +kernel
theorem dL_law_273 : decode cL_law 273 = .ok (.iconst 2, 1) := by decide +kernel
theorem dL_law_274 : decode cL_law 274 = .ok (.iadd, 1) := by decide +kernel
theorem dL_law_275 : decode cL_law 275 = .ok (.iaload, 1) := by decide +kernel
theorem dL_law_276 : decode cL_law 276 = .ok (.invokevirtual 36, 3) := by decide +kernel
theorem dL_law_279 : decode cL_law 279 = .ok (.aload_n 2, 1) := by decide +kernel
theorem dL_law_280 : decode cL_law 280 = .ok (.aload_n 0, 1) := by decide +kernel
theorem dL_law_281 : decode cL_law 281 = .ok (.iload_n 3, 1) := by decide +kernel
theorem dL_law_282 : decode cL_law 282 = .ok (.iconst 1, 1) := by decide +kernel
theorem dL_law_283 : decode cL_law 283 = .ok (.iadd, 1) := by decide +kernel
theorem dL_law_284 : decode cL_law 284 = .ok (.iaload, 1) := by decide +kernel
theorem dL_law_285 : decode cL_law 285 = .ok (.aload_n 0, 1) := by decide +kernel
theorem dL_law_286 : decode cL_law 286 = .ok (.iload_n 3, 1) := by decide +kernel
theorem dL_law_287 : decode cL_law 287 = .ok (.iconst 2, 1) := by decide +kernel
theorem dL_law_288 : decode cL_law 288 = .ok (.iadd, 1) := by decide +kernel
theorem dL_law_289 : decode cL_law 289 = .ok (.iaload, 1) := by decide +kernel
theorem dL_law_290 : decode cL_law 290 = .ok (.invokevirtual 39, 3) := by decide +kernel
theorem dL_law_293 : decode cL_law 293 = .ok (.if_icmp .eq 701, 3) := by decide +kernel
theorem dL_law_296 : decode cL_law 296 = .ok (.iconst 0, 1) := by decide +kernel
theorem dL_law_297 : decode cL_law 297 = .ok (.ireturn, 1) := by decide +kernel
theorem dL_law_298 : decode cL_law 298 = .ok (.aload_n 1, 1) := by decide +kernel
theorem dL_law_299 : decode cL_law 299 = .ok (.aload_n 0, 1) := by decide +kernel
theorem dL_law_300 : decode cL_law 300 = .ok (.iload_n 3, 1) := by decide +kernel
theorem dL_law_301 : decode cL_law 301 = .ok (.iconst 1, 1) := by decide +kernel
theorem dL_law_302 : decode cL_law 302 = .ok (.iadd, 1) := by decide +kernel
theorem dL_law_303 : decode cL_law 303 = .ok (.iaload, 1) := by decide +kernel
theorem dL_law_304 : decode cL_law 304 = .ok (.aload_n 0, 1) := by decide +kernel
theorem dL_law_305 : decode cL_law 305 = .ok (.iload_n 3, 1) := by decide +kernel
theorem dL_law_306 : decode cL_law 306 = .ok (.iconst 2, 1) := by decide +kernel
theorem dL_law_307 : decode cL_law 307 = .ok (.iadd, 1) := by decide +kernel
theorem dL_law_308 : decode cL_law 308 = .ok (.iaload, 1) := by decide +kernel
theorem dL_law_309 : decode cL_law 309 = .ok (.invokevirtual 40, 3) := by decide +kernel
theorem dL_law_312 : decode cL_law 312 = .ok (.aload_n 2, 1) := by decide +kernel
theorem dL_law_313 : decode cL_law 313 = .ok (.aload_n 0, 1) := by decide +kernel
theorem dL_law_314 : decode cL_law 314 = .ok (.iload_n 3, 1) := by decide +kernel
theorem dL_law_315 : decode cL_law 315 = .ok (.iconst 1, 1) := by decide +kernel
theorem dL_law_316 : decode cL_law 316 = .ok (.iadd, 1) := by decide +kernel
theorem dL_law_317 : decode cL_law 317 = .ok (.iaload, 1) := by decide +kernel
theorem dL_law_318 : decode cL_law 318 = .ok (.aload_n 0, 1) := by decide +kernel
theorem dL_law_319 : decode cL_law 319 = .ok (.iload_n 3, 1) := by decide +kernel
theorem dL_law_320 : decode cL_law 320 = .ok (.iconst 2, 1) := by decide +kernel
theorem dL_law_321 : decode cL_law 321 = .ok (.iadd, 1) := by decide +kernel
theorem dL_law_322 : decode cL_law 322 = .ok (.iaload, 1) := by decide +kernel
theorem dL_law_323 : decode cL_law 323 = .ok (.invokevirtual 43, 3) := by decide +kernel
theorem dL_law_326 : decode cL_law 326 = .ok (.if_icmp .eq 668, 3) := by decide +kernel
theorem dL_law_329 : decode cL_law 329 = .ok (.iconst 0, 1) := by decide +kernel
theorem dL_law_330 : decode cL_law 330 = .ok (.ireturn, 1) := by decide +kernel
theorem dL_law_331 : decode cL_law 331 = .ok (.aload_n 1, 1) := by decide +kernel
theorem dL_law_332 : decode cL_law 332 = .ok (.aload_n 0, 1) := by decide +kernel
theorem dL_law_333 : decode cL_law 333 = .ok (.iload_n 3, 1) := by decide +kernel
theorem dL_law_334 : decode cL_law 334 = .ok (.iconst 1, 1) := by decide +kernel
theorem dL_law_335 : decode cL_law 335 = .ok (.iadd, 1) := by decide +kernel
theorem dL_law_336 : decode cL_law 336 = .ok (.iaload, 1) := by decide +kernel
theorem dL_law_337 : decode cL_law 337 = .ok (.invokevirtual 44, 3) := by decide +kernel
theorem dL_law_340 : decode cL_law 340 = .ok (.aload_n 2, 1) := by decide +kernel
theorem dL_law_341 : decode cL_law 341 = .ok (.aload_n 0, 1) := by decide +kernel
theorem dL_law_342 : decode cL_law 342 = .ok (.iload_n 3, 1) := by decide +kernel
theorem dL_law_343 : decode cL_law 343 = .ok (.iconst 1, 1) := by decide +kernel
theorem dL_law_344 : decode cL_law 344 = .ok (.iadd, 1) := by decide +kernel
theorem dL_law_345 : decode cL_law 345 = .ok (.iaload, 1) := by decide +kernel
theorem dL_law_346 : decode cL_law 346 = .ok (.invokevirtual 47, 3) := by decide +kernel
theorem dL_law_349 : decode cL_law 349 = .ok (.if_icmp .eq 645, 3) := by decide +kernel
theorem dL_law_352 : decode cL_law 352 = .ok (.iconst 0, 1) := by decide +kernel
theorem dL_law_353 : decode cL_law 353 = .ok (.ireturn, 1) := by decide +kernel
theorem dL_law_354 : decode cL_law 354 = .ok (.aload_n 1, 1) := by decide +kernel
theorem dL_law_355 : decode cL_law 355 = .ok (.aload_n 0, 1) := by decide +kernel
theorem dL_law_356 : decode cL_law 356 = .ok (.iload_n 3, 1) := by decide +kernel
theorem dL_law_357 : decode cL_law 357 = .ok (.iconst 1, 1) := by decide +kernel
theorem dL_law_358 : decode cL_law 358 = .ok (.iadd, 1) := by decide +kernel
theorem dL_law_359 : decode cL_law 359 = .ok (.iaload, 1) := by decide +kernel
theorem dL_law_360 : decode cL_law 360 = .ok (.invokevirtual 48, 3) := by decide +kernel
theorem dL_law_363 : decode cL_law 363 = .ok (.aload_n 2, 1) := by decide +kernel
theorem dL_law_364 : decode cL_law 364 = .ok (.aload_n 0, 1) := by decide +kernel
theorem dL_law_365 : decode cL_law 365 = .ok (.iload_n 3, 1) := by decide +kernel
theorem dL_law_366 : decode cL_law 366 = .ok (.iconst 1, 1) := by decide +kernel
theorem dL_law_367 : decode cL_law 367 = .ok (.iadd, 1) := by decide +kernel
theorem dL_law_368 : decode cL_law 368 = .ok (.iaload, 1) := by decide +kernel
theorem dL_law_369 : decode cL_law 369 = .ok (.invokevirtual 51, 3) := by decide +kernel
theorem dL_law_372 : decode cL_law 372 = .ok (.if_icmp .eq 622, 3) := by decide +kernel
theorem dL_law_375 : decode cL_law 375 = .ok (.iconst 0, 1) := by decide +kernel
theorem dL_law_376 : decode cL_law 376 = .ok (.ireturn, 1) := by decide +kernel
theorem dL_law_377 : decode cL_law 377 = .ok (.aload_n 1, 1) := by decide +kernel
theorem dL_law_378 : decode cL_law 378 = .ok (.aload_n 0, 1) := by decide +kernel
theorem dL_law_379 : decode cL_law 379 = .ok (.iload_n 3, 1) := by decide +kernel
theorem dL_law_380 : decode cL_law 380 = .ok (.iconst 1, 1) := by decide +kernel
theorem dL_law_381 : decode cL_law 381 = .ok (.iadd, 1) := by decide +kernel
theorem dL_law_382 : decode cL_law 382 = .ok (.iaload, 1) := by decide +kernel
theorem dL_law_383 : decode cL_law 383 = .ok (.aload_n 0, 1) := by decide +kernel
theorem dL_law_384 : decode cL_law 384 = .ok (.iload_n 3, 1) := by decide +kernel
theorem dL_law_385 : decode cL_law 385 = .ok (.iconst 2, 1) := by decide +kernel
theorem dL_law_386 : decode cL_law 386 = .ok (.iadd, 1) := by decide +kernel
theorem dL_law_387 : decode cL_law 387 = .ok (.iaload, 1) := by decide +kernel
theorem dL_law_388 : decode cL_law 388 = .ok (.invokevirtual 52, 3) := by decide +kernel
theorem dL_law_391 : decode cL_law 391 = .ok (.aload_n 2, 1) := by decide +kernel
theorem dL_law_392 : decode cL_law 392 = .ok (.aload_n 0, 1) := by decide +kernel
theorem dL_law_393 : decode cL_law 393 = .ok (.iload_n 3, 1) := by decide +kernel
theorem dL_law_394 : decode cL_law 394 = .ok (.iconst 1, 1) := by decide +kernel
theorem dL_law_395 : decode cL_law 395 = .ok (.iadd, 1) := by decide +kernel
theorem dL_law_396 : decode cL_law 396 = .ok (.iaload, 1) := by decide +kernel
theorem dL_law_397 : decode cL_law 397 = .ok (.aload_n 0, 1) := by decide +kernel
theorem dL_law_398 : decode cL_law 398 = .ok (.iload_n 3, 1) := by decide +kernel
theorem dL_law_399 : decode cL_law 399 = .ok (.iconst 2, 1) := by decide +kernel
theorem dL_law_400 : decode cL_law 400 = .ok (.iadd, 1) := by decide +kernel
theorem dL_law_401 : decode cL_law 401 = .ok (.iaload, 1) := by decide +kernel
theorem dL_law_402 : decode cL_law 402 = .ok (.invokevirtual 55, 3) := by decide +kernel
theorem dL_law_405 : decode cL_law 405 = .ok (.if_icmp .eq 589, 3) := by decide +kernel
theorem dL_law_408 : decode cL_law 408 = .ok (.iconst 0, 1) := by decide +kernel
theorem dL_law_409 : decode cL_law 409 = .ok (.ireturn, 1) := by decide +kernel
theorem dL_law_410 : decode cL_law 410 = .ok (.aload_n 1, 1) := by decide +kernel
theorem dL_law_411 : decode cL_law 411 = .ok (.aload_n 0, 1) := by decide +kernel
theorem dL_law_412 : decode cL_law 412 = .ok (.iload_n 3, 1) := by decide +kernel
theorem dL_law_413 : decode cL_law 413 = .ok (.iconst 1, 1) := by decide +kernel
theorem dL_law_414 : decode cL_law 414 = .ok (.iadd, 1) := by decide +kernel
theorem dL_law_415 : decode cL_law 415 = .ok (.iaload, 1) := by decide +kernel
theorem dL_law_416 : decode cL_law 416 = .ok (.aload_n 0, 1) := by decide +kernel
theorem dL_law_417 : decode cL_law 417 = .ok (.iload_n 3, 1) := by decide +kernel
theorem dL_law_418 : decode cL_law 418 = .ok (.iconst 2, 1) := by decide +kernel
theorem dL_law_419 : decode cL_law 419 = .ok (.iadd, 1) := by decide +kernel
theorem dL_law_420 : decode cL_law 420 = .ok (.iaload, 1) := by decide +kernel
theorem dL_law_421 : decode cL_law 421 = .ok (.invokevirtual 56, 3) := by decide +kernel
theorem dL_law_424 : decode cL_law 424 = .ok (.aload_n 2, 1) := by decide +kernel
theorem dL_law_425 : decode cL_law 425 = .ok (.aload_n 0, 1) := by decide +kernel
theorem dL_law_426 : decode cL_law 426 = .ok (.iload_n 3, 1) := by decide +kernel
theorem dL_law_427 : decode cL_law 427 = .ok (.iconst 1, 1) := by decide +kernel
theorem dL_law_428 : decode cL_law 428 = .ok (.iadd, 1) := by decide +kernel
theorem dL_law_429 : decode cL_law 429 = .ok (.iaload, 1) := by decide +kernel
theorem dL_law_430 : decode cL_law 430 = .ok (.aload_n 0, 1) := by decide +kernel
theorem dL_law_431 : decode cL_law 431 = .ok (.iload_n 3, 1) := by decide +kernel
theorem dL_law_432 : decode cL_law 432 = .ok (.iconst 2, 1) := by decide +kernel
theorem dL_law_433 : decode cL_law 433 = .ok (.iadd, 1) := by decide +kernel
theorem dL_law_434 : decode cL_law 434 = .ok (.iaload, 1) := by decide +kernel
theorem dL_law_435 : decode cL_law 435 = .ok (.invokevirtual 59, 3) := by decide +kernel
theorem dL_law_438 : decode cL_law 438 = .ok (.if_icmp .eq 556, 3) := by decide +kernel
theorem dL_law_441 : decode cL_law 441 = .ok (.iconst 0, 1) := by decide +kernel
theorem dL_law_442 : decode cL_law 442 = .ok (.ireturn, 1) := by decide +kernel
theorem dL_law_443 : decode cL_law 443 = .ok (.aload_n 1, 1) := by decide +kernel
theorem dL_law_444 : decode cL_law 444 = .ok (.aload_n 0, 1) := by decide +kernel
theorem dL_law_445 : decode cL_law 445 = .ok (.iload_n 3, 1) := by decide +kernel
theorem dL_law_446 : decode cL_law 446 = .ok (.iconst 1, 1) := by decide +kernel
theorem dL_law_447 : decode cL_law 447 = .ok (.iadd, 1) := by decide +kernel
theorem dL_law_448 : decode cL_law 448 = .ok (.iaload, 1) := by decide +kernel
theorem dL_law_449 : decode cL_law 449 = .ok (.invokevirtual 60, 3) := by decide +kernel
theorem dL_law_452 : decode cL_law 452 = .ok (.aload_n 2, 1) := by decide +kernel
theorem dL_law_453 : decode cL_law 453 = .ok (.aload_n 0, 1) := by decide +kernel
theorem dL_law_454 : decode cL_law 454 = .ok (.iload_n 3, 1) := by decide +kernel
theorem dL_law_455 : decode cL_law 455 = .ok (.iconst 1, 1) := by decide +kernel
theorem dL_law_456 : decode cL_law 456 = .ok (.iadd, 1) := by decide +kernel
theorem dL_law_457 : decode cL_law 457 = .ok (.iaload, 1) := by decide +kernel
theorem dL_law_458 : decode cL_law 458 = .ok (.invokevirtual 63, 3) := by decide +kernel
theorem dL_law_461 : decode cL_law 461 = .ok (.if_icmp .eq 533, 3) := by decide +kernel
theorem dL_law_464 : decode cL_law 464 = .ok (.iconst 0, 1) := by decide +kernel
theorem dL_law_465 : decode cL_law 465 = .ok (.ireturn, 1) := by decide +kernel
theorem dL_law_466 : decode cL_law 466 = .ok (.aload_n 1, 1) := by decide +kernel
theorem dL_law_467 : decode cL_law 467 = .ok (.aload_n 0, 1) := by decide +kernel
theorem dL_law_468 : decode cL_law 468 = .ok (.iload_n 3, 1) := by decide +kernel
theorem dL_law_469 : decode cL_law 469 = .ok (.iconst 1, 1) := by decide +kernel
theorem dL_law_470 : decode cL_law 470 = .ok (.iadd, 1) := by decide +kernel
theorem dL_law_471 : decode cL_law 471 = .ok (.iaload, 1) := by decide +kernel
theorem dL_law_472 : decode cL_law 472 = .ok (.invokevirtual 64, 3) := by decide +kernel
theorem dL_law_475 : decode cL_law 475 = .ok (.aload_n 2, 1) := by decide +kernel
theorem dL_law_476 : decode cL_law 476 = .ok (.aload_n 0, 1) := by decide +kernel
theorem dL_law_477 : decode cL_law 477 = .ok (.iload_n 3, 1) := by decide +kernel
theorem dL_law_478 : decode cL_law 478 = .ok (.iconst 1, 1) := by decide +kernel
theorem dL_law_479 : decode cL_law 479 = .ok (.iadd, 1) := by decide +kernel
theorem dL_law_480 : decode cL_law 480 = .ok (.iaload, 1) := by decide +kernel
theorem dL_law_481 : decode cL_law 481 = .ok (.invokevirtual 67, 3) := by decide +kernel
theorem dL_law_484 : decode cL_law 484 = .ok (.if_icmp .eq 510, 3) := by decide +kernel
theorem dL_law_487 : decode cL_law 487 = .ok (.iconst 0, 1) := by decide +kernel
theorem dL_law_488 : decode cL_law 488 = .ok (.ireturn, 1) := by decide +kernel
theorem dL_law_489 : decode cL_law 489 = .ok (.aload_n 1, 1) := by decide +kernel
theorem dL_law_490 : decode cL_law 490 = .ok (.aload_n 0, 1) := by decide +kernel
theorem dL_law_491 : decode cL_law 491 = .ok (.iload_n 3, 1) := by decide +kernel
theorem dL_law_492 : decode cL_law 492 = .ok (.iconst 1, 1) := by decide +kernel
theorem dL_law_493 : decode cL_law 493 = .ok (.iadd, 1) := by decide +kernel
theorem dL_law_494 : decode cL_law 494 = .ok (.iaload, 1) := by decide +kernel
theorem dL_law_495 : decode cL_law 495 = .ok (.aload_n 0, 1) := by decide +kernel
theorem dL_law_496 : decode cL_law 496 = .ok (.iload_n 3, 1) := by decide +kernel
theorem dL_law_497 : decode cL_law 497 = .ok (.iconst 2, 1) := by decide +kernel
theorem dL_law_498 : decode cL_law 498 = .ok (.iadd, 1) := by decide +kernel
theorem dL_law_499 : decode cL_law 499 = .ok (.iaload, 1) := by decide +kernel
theorem dL_law_500 : decode cL_law 500 = .ok (.invokevirtual 68, 3) := by decide +kernel
theorem dL_law_503 : decode cL_law 503 = .ok (.aload_n 2, 1) := by decide +kernel
theorem dL_law_504 : decode cL_law 504 = .ok (.aload_n 0, 1) := by decide +kernel
theorem dL_law_505 : decode cL_law 505 = .ok (.iload_n 3, 1) := by decide +kernel
theorem dL_law_506 : decode cL_law 506 = .ok (.iconst 1, 1) := by decide +kernel
theorem dL_law_507 : decode cL_law 507 = .ok (.iadd, 1) := by decide +kernel
theorem dL_law_508 : decode cL_law 508 = .ok (.iaload, 1) := by decide +kernel
theorem dL_law_509 : decode cL_law 509 = .ok (.aload_n 0, 1) := by decide +kernel
theorem dL_law_510 : decode cL_law 510 = .ok (.iload_n 3, 1) := by decide +kernel
theorem dL_law_511 : decode cL_law 511 = .ok (.iconst 2, 1) := by decide +kernel
theorem dL_law_512 : decode cL_law 512 = .ok (.iadd, 1) := by decide +kernel
theorem dL_law_513 : decode cL_law 513 = .ok (.iaload, 1) := by decide +kernel
theorem dL_law_514 : decode cL_law 514 = .ok (.invokevirtual 71, 3) := by decide +kernel
theorem dL_law_517 : decode cL_law 517 = .ok (.if_icmp .eq 477, 3) := by decide +kernel
theorem dL_law_520 : decode cL_law 520 = .ok (.iconst 0, 1) := by decide +kernel
theorem dL_law_521 : decode cL_law 521 = .ok (.ireturn, 1) := by decide +kernel
theorem dL_law_522 : decode cL_law 522 = .ok (.aload_n 1, 1) := by decide +kernel
theorem dL_law_523 : decode cL_law 523 = .ok (.aload_n 0, 1) := by decide +kernel
theorem dL_law_524 : decode cL_law 524 = .ok (.iload_n 3, 1) := by decide +kernel
theorem dL_law_525 : decode cL_law 525 = .ok (.iconst 1, 1) := by decide +kernel
theorem dL_law_526 : decode cL_law 526 = .ok (.iadd, 1) := by decide +kernel
theorem dL_law_527 : decode cL_law 527 = .ok (.iaload, 1) := by decide +kernel
theorem dL_law_528 : decode cL_law 528 = .ok (.aload_n 0, 1) := by decide +kernel
theorem dL_law_529 : decode cL_law 529 = .ok (.iload_n 3, 1) := by decide +kernel
theorem dL_law_530 : decode cL_law 530 = .ok (.iconst 2, 1) := by decide +kernel
theorem dL_law_531 : decode cL_law 531 = .ok (.iadd, 1) := by decide +kernel
theorem dL_law_532 : decode cL_law 532 = .ok (.iaload, 1) := by decide +kernel
theorem dL_law_533 : decode cL_law 533 = .ok (.invokevirtual 72, 3) := by decide +kernel
theorem dL_law_536 : decode cL_law 536 = .ok (.aload_n 2, 1) := by decide +kernel
theorem dL_law_537 : decode cL_law 537 = .ok (.aload_n 0, 1) := by decide +kernel
theorem dL_law_538 : decode cL_law 538 = .ok (.iload_n 3, 1) := by decide +kernel
theorem dL_law_539 : decode cL_law 539 = .ok (.iconst 1, 1) := by decide +kernel
theorem dL_law_540 : decode cL_law 540 = .ok (.iadd, 1) := by decide +kernel
theorem dL_law_541 : decode cL_law 541 = .ok (.iaload, 1) := by decide +kernel
theorem dL_law_542 : decode cL_law 542 = .ok (.aload_n 0, 1) := by decide +kernel
theorem dL_law_543 : decode cL_law 543 = .ok (.iload_n 3, 1) := by decide +kernel
theorem dL_law_544 : decode cL_law 544 = .ok (.iconst 2, 1) := by decide +kernel
theorem dL_law_545 : decode cL_law 545 = .ok (.iadd, 1) := by decide +kernel
theorem dL_law_546 : decode cL_law 546 = .ok (.iaload, 1) := by decide +kernel
theorem dL_law_547 : decode cL_law 547 = .ok (.invokevirtual 75, 3) := by decide +kernel
theorem dL_law_550 : decode cL_law 550 = .ok (.if_icmp .eq 444, 3) := by decide +kernel
theorem dL_law_553 : decode cL_law 553 = .ok (.iconst 0, 1) := by decide +kernel
theorem dL_law_554 : decode cL_law 554 = .ok (.ireturn, 1) := by decide +kernel
theorem dL_law_555 : decode cL_law 555 = .ok (.aload_n 1, 1) := by decide +kernel
theorem dL_law_556 : decode cL_law 556 = .ok (.aload_n 0, 1) := by decide +kernel
theorem dL_law_557 : decode cL_law 557 = .ok (.iload_n 3, 1) := by decide +kernel
theorem dL_law_558 : decode cL_law 558 = .ok (.iconst 1, 1) := by decide +kernel
theorem dL_law_559 : decode cL_law 559 = .ok (.iadd, 1) := by decide +kernel
theorem dL_law_560 : decode cL_law 560 = .ok (.iaload, 1) := by decide +kernel
theorem dL_law_561 : decode cL_law 561 = .ok (.aload_n 0, 1) := by decide +kernel
theorem dL_law_562 : decode cL_law 562 = .ok (.iload_n 3, 1) := by decide +kernel
theorem dL_law_563 : decode cL_law 563 = .ok (.iconst 2, 1) := by decide +kernel
theorem dL_law_564 : decode cL_law 564 = .ok (.iadd, 1) := by decide +kernel
theorem dL_law_565 : decode cL_law 565 = .ok (.iaload, 1) := by decide +kernel
theorem dL_law_566 : decode cL_law 566 = .ok (.aload_n 0, 1) := by decide +kernel
theorem dL_law_567 : decode cL_law 567 = .ok (.iload_n 3, 1) := by decide +kernel
theorem dL_law_568 : decode cL_law 568 = .ok (.iconst 3, 1) := by decide +kernel
theorem dL_law_569 : decode cL_law 569 = .ok (.iadd, 1) := by decide +kernel
theorem dL_law_570 : decode cL_law 570 = .ok (.iaload, 1) := by decide +kernel
theorem dL_law_571 : decode cL_law 571 = .ok (.invokevirtual 76, 3) := by decide +kernel
theorem dL_law_574 : decode cL_law 574 = .ok (.aload_n 2, 1) := by decide +kernel
theorem dL_law_575 : decode cL_law 575 = .ok (.aload_n 0, 1) := by decide +kernel
theorem dL_law_576 : decode cL_law 576 = .ok (.iload_n 3, 1) := by decide +kernel
theorem dL_law_577 : decode cL_law 577 = .ok (.iconst 1, 1) := by decide +kernel
theorem dL_law_578 : decode cL_law 578 = .ok (.iadd, 1) := by decide +kernel
theorem dL_law_579 : decode cL_law 579 = .ok (.iaload, 1) := by decide +kernel
theorem dL_law_580 : decode cL_law 580 = .ok (.aload_n 0, 1) := by decide +kernel
theorem dL_law_581 : decode cL_law 581 = .ok (.iload_n 3, 1) := by decide +kernel
theorem dL_law_582 : decode cL_law 582 = .ok (.iconst 2, 1) := by decide +kernel
theorem dL_law_583 : decode cL_law 583 = .ok (.iadd, 1) := by decide +kernel
theorem dL_law_584 : decode cL_law 584 = .ok (.iaload, 1) := by decide +kernel
theorem dL_law_585 : decode cL_law 585 = .ok (.aload_n 0, 1) := by decide +kernel
theorem dL_law_586 : decode cL_law 586 = .ok (.iload_n 3, 1) := by decide +kernel
theorem dL_law_587 : decode cL_law 587 = .ok (.iconst 3, 1) := by decide +kernel
theorem dL_law_588 : decode cL_law 588 = .ok (.iadd, 1) := by decide +kernel
theorem dL_law_589 : decode cL_law 589 = .ok (.iaload, 1) := by decide +kernel
theorem dL_law_590 : decode cL_law 590 = .ok (.invokevirtual 80, 3) := by decide +kernel
theorem dL_law_593 : decode cL_law 593 = .ok (.if_icmp .eq 401, 3) := by decide +kernel
theorem dL_law_596 : decode cL_law 596 = .ok (.iconst 0, 1) := by decide +kernel
theorem dL_law_597 : decode cL_law 597 = .ok (.ireturn, 1) := by decide +kernel
theorem dL_law_598 : decode cL_law 598 = .ok (.aload_n 1, 1) := by decide +kernel
theorem dL_law_599 : decode cL_law 599 = .ok (.aload_n 0, 1) := by decide +kernel
theorem dL_law_600 : decode cL_law 600 = .ok (.iload_n 3, 1) := by decide +kernel
theorem dL_law_601 : decode cL_law 601 = .ok (.iconst 1, 1) := by decide +kernel
theorem dL_law_602 : decode cL_law 602 = .ok (.iadd, 1) := by decide +kernel
theorem dL_law_603 : decode cL_law 603 = .ok (.iaload, 1) := by decide +kernel
theorem dL_law_604 : decode cL_law 604 = .ok (.aload_n 0, 1) := by decide +kernel
theorem dL_law_605 : decode cL_law 605 = .ok (.iload_n 3, 1) := by decide +kernel
theorem dL_law_606 : decode cL_law 606 = .ok (.iconst 2, 1) := by decide +kernel
theorem dL_law_607 : decode cL_law 607 = .ok (.iadd, 1) := by decide +kernel
theorem dL_law_608 : decode cL_law 608 = .ok (.iaload, 1) := by decide +kernel
theorem dL_law_609 : decode cL_law 609 = .ok (.aload_n 0, 1) := by decide +kernel
theorem dL_law_610 : decode cL_law 610 = .ok (.iload_n 3, 1) := by decide +kernel
theorem dL_law_611 : decode cL_law 611 = .ok (.iconst 3, 1) := by decide +kernel
theorem dL_law_612 : decode cL_law 612 = .ok (.iadd, 1) := by decide +kernel
theorem dL_law_613 : decode cL_law 613 = .ok (.iaload, 1) := by decide +kernel
theorem dL_law_614 : decode cL_law 614 = .ok (.invokevirtual 81, 3) := by decide +kernel
theorem dL_law_617 : decode cL_law 617 = .ok (.aload_n 2, 1) := by decide +kernel
theorem dL_law_618 : decode cL_law 618 = .ok (.aload_n 0, 1) := by decide +kernel
theorem dL_law_619 : decode cL_law 619 = .ok (.iload_n 3, 1) := by decide +kernel
theorem dL_law_620 : decode cL_law 620 = .ok (.iconst 1, 1) := by decide +kernel
theorem dL_law_621 : decode cL_law 621 = .ok (.iadd, 1) := by decide +kernel
theorem dL_law_622 : decode cL_law 622 = .ok (.iaload, 1) := by decide +kernel
theorem dL_law_623 : decode cL_law 623 = .ok (.aload_n 0, 1) := by decide +kernel
theorem dL_law_624 : decode cL_law 624 = .ok (.iload_n 3, 1) := by decide +kernel
theorem dL_law_625 : decode cL_law 625 = .ok (.iconst 2, 1) := by decide +kernel
theorem dL_law_626 : decode cL_law 626 = .ok (.iadd, 1) := by decide +kernel
theorem dL_law_627 : decode cL_law 627 = .ok (.iaload, 1) := by decide +kernel
theorem dL_law_628 : decode cL_law 628 = .ok (.aload_n 0, 1) := by decide +kernel
theorem dL_law_629 : decode cL_law 629 = .ok (.iload_n 3, 1) := by decide +kernel
theorem dL_law_630 : decode cL_law 630 = .ok (.iconst 3, 1) := by decide +kernel
theorem dL_law_631 : decode cL_law 631 = .ok (.iadd, 1) := by decide +kernel
theorem dL_law_632 : decode cL_law 632 = .ok (.iaload, 1) := by decide +kernel
theorem dL_law_633 : decode cL_law 633 = .ok (.invokevirtual 84, 3) := by decide +kernel
theorem dL_law_636 : decode cL_law 636 = .ok (.if_icmp .eq 358, 3) := by decide +kernel
theorem dL_law_639 : decode cL_law 639 = .ok (.iconst 0, 1) := by decide +kernel
theorem dL_law_640 : decode cL_law 640 = .ok (.ireturn, 1) := by decide +kernel
theorem dL_law_641 : decode cL_law 641 = .ok (.aload_n 1, 1) := by decide +kernel
theorem dL_law_642 : decode cL_law 642 = .ok (.aload_n 0, 1) := by decide +kernel
theorem dL_law_643 : decode cL_law 643 = .ok (.iload_n 3, 1) := by decide +kernel
theorem dL_law_644 : decode cL_law 644 = .ok (.iconst 1, 1) := by decide +kernel
theorem dL_law_645 : decode cL_law 645 = .ok (.iadd, 1) := by decide +kernel
theorem dL_law_646 : decode cL_law 646 = .ok (.iaload, 1) := by decide +kernel
theorem dL_law_647 : decode cL_law 647 = .ok (.aload_n 0, 1) := by decide +kernel
theorem dL_law_648 : decode cL_law 648 = .ok (.iload_n 3, 1) := by decide +kernel
theorem dL_law_649 : decode cL_law 649 = .ok (.iconst 2, 1) := by decide +kernel
theorem dL_law_650 : decode cL_law 650 = .ok (.iadd, 1) := by decide +kernel
theorem dL_law_651 : decode cL_law 651 = .ok (.iaload, 1) := by decide +kernel
theorem dL_law_652 : decode cL_law 652 = .ok (.aload_n 0, 1) := by decide +kernel
theorem dL_law_653 : decode cL_law 653 = .ok (.iload_n 3, 1) := by decide +kernel
theorem dL_law_654 : decode cL_law 654 = .ok (.iconst 3, 1) := by decide +kernel
theorem dL_law_655 : decode cL_law 655 = .ok (.iadd, 1) := by decide +kernel
theorem dL_law_656 : decode cL_law 656 = .ok (.iaload, 1) := by decide +kernel
theorem dL_law_657 : decode cL_law 657 = .ok (.aload_n 0, 1) := by decide +kernel
theorem dL_law_658 : decode cL_law 658 = .ok (.iload_n 3, 1) := by decide +kernel
theorem dL_law_659 : decode cL_law 659 = .ok (.iconst 4, 1) := by decide +kernel
theorem dL_law_660 : decode cL_law 660 = .ok (.iadd, 1) := by decide +kernel
theorem dL_law_661 : decode cL_law 661 = .ok (.iaload, 1) := by decide +kernel
theorem dL_law_662 : decode cL_law 662 = .ok (.invokevirtual 85, 3) := by decide +kernel
theorem dL_law_665 : decode cL_law 665 = .ok (.aload_n 2, 1) := by decide +kernel
theorem dL_law_666 : decode cL_law 666 = .ok (.aload_n 0, 1) := by decide +kernel
theorem dL_law_667 : decode cL_law 667 = .ok (.iload_n 3, 1) := by decide +kernel
theorem dL_law_668 : decode cL_law 668 = .ok (.iconst 1, 1) := by decide +kernel
theorem dL_law_669 : decode cL_law 669 = .ok (.iadd, 1) := by decide +kernel
theorem dL_law_670 : decode cL_law 670 = .ok (.iaload, 1) := by decide +kernel
theorem dL_law_671 : decode cL_law 671 = .ok (.aload_n 0, 1) := by decide +kernel
theorem dL_law_672 : decode cL_law 672 = .ok (.iload_n 3, 1) := by decide +kernel
theorem dL_law_673 : decode cL_law 673 = .ok (.iconst 2, 1) := by decide +kernel
theorem dL_law_674 : decode cL_law 674 = .ok (.iadd, 1) := by decide +kernel
theorem dL_law_675 : decode cL_law 675 = .ok (.iaload, 1) := by decide +kernel
theorem dL_law_676 : decode cL_law 676 = .ok (.aload_n 0, 1) := by decide +kernel
theorem dL_law_677 : decode cL_law 677 = .ok (.iload_n 3, 1) := by decide +kernel
theorem dL_law_678 : decode cL_law 678 = .ok (.iconst 3, 1) := by decide +kernel
theorem dL_law_679 : decode cL_law 679 = .ok (.iadd, 1) := by decide +kernel
theorem dL_law_680 : decode cL_law 680 = .ok (.iaload, 1) := by decide +kernel
theorem dL_law_681 : decode cL_law 681 = .ok (.aload_n 0, 1) := by decide +kernel
theorem dL_law_682 : decode cL_law 682 = .ok (.iload_n 3, 1) := by decide +kernel
theorem dL_law_683 : decode cL_law 683 = .ok (.iconst 4, 1) := by decide +kernel
theorem dL_law_684 : decode cL_law 684 = .ok (.iadd, 1) := by decide +kernel
theorem dL_law_685 : decode cL_law 685 = .ok (.iaload, 1) := by decide +kernel
theorem dL_law_686 : decode cL_law 686 = .ok (.invokevirtual 89, 3) := by decide +kernel
theorem dL_law_689 : decode cL_law 689 = .ok (.if_icmp .eq 305, 3) := by decide +kernel
theorem dL_law_692 : decode cL_law 692 = .ok (.iconst 0, 1) := by decide +kernel
theorem dL_law_693 : decode cL_law 693 = .ok (.ireturn, 1) := by decide +kernel
theorem dL_law_694 : decode cL_law 694 = .ok (.aload_n 1, 1) := by decide +kernel
theorem dL_law_695 : decode cL_law 695 = .ok (.aload_n 0, 1) := by decide +kernel
theorem dL_law_696 : decode cL_law 696 = .ok (.iload_n 3, 1) := by decide +kernel
theorem dL_law_697 : decode cL_law 697 = .ok (.iconst 1, 1) := by decide +kernel
theorem dL_law_698 : decode cL_law 698 = .ok (.iadd, 1) := by decide +kernel
theorem dL_law_699 : decode cL_law 699 = .ok (.iaload, 1) := by decide +kernel
theorem dL_law_700 : decode cL_law 700 = .ok (.aload_n 0, 1) := by decide +kernel
theorem dL_law_701 : decode cL_law 701 = .ok (.iload_n 3, 1) := by decide +kernel
theorem dL_law_702 : decode cL_law 702 = .ok (.iconst 2, 1) := by decide +kernel
theorem dL_law_703 : decode cL_law 703 = .ok (.iadd, 1) := by decide +kernel
theorem dL_law_704 : decode cL_law 704 = .ok (.iaload, 1) := by decide +kernel
theorem dL_law_705 : decode cL_law 705 = .ok (.aload_n 0, 1) := by decide +kernel
theorem dL_law_706 : decode cL_law 706 = .ok (.iload_n 3, 1) := by decide +kernel
theorem dL_law_707 : decode cL_law 707 = .ok (.iconst 3, 1) := by decide +kernel
theorem dL_law_708 : decode cL_law 708 = .ok (.iadd, 1) := by decide +kernel
theorem dL_law_709 : decode cL_law 709 = .ok (.iaload, 1) := by decide +kernel
theorem dL_law_710 : decode cL_law 710 = .ok (.invokevirtual 90, 3) := by decide +kernel
theorem dL_law_713 : decode cL_law 713 = .ok (.aload_n 2, 1) := by decide +kernel
theorem dL_law_714 : decode cL_law 714 = .ok (.aload_n 0, 1) := by decide +kernel
theorem dL_law_715 : decode cL_law 715 = .ok (.iload_n 3, 1) := by decide +kernel
theorem dL_law_716 : decode cL_law 716 = .ok (.iconst 1, 1) := by decide +kernel
theorem dL_law_717 : decode cL_law 717 = .ok (.iadd, 1) := by decide +kernel
theorem dL_law_718 : decode cL_law 718 = .ok (.iaload, 1) := by decide +kernel
theorem dL_law_719 : decode cL_law 719 = .ok (.aload_n 0, 1) := by decide +kernel
theorem dL_law_720 : decode cL_law 720 = .ok (.iload_n 3, 1) := by decide +kernel
theorem dL_law_721 : decode cL_law 721 = .ok (.iconst 2, 1) := by decide +kernel
theorem dL_law_722 : decode cL_law 722 = .ok (.iadd, 1) := by decide +kernel
theorem dL_law_723 : decode cL_law 723 = .ok (.iaload, 1) := by decide +kernel
theorem dL_law_724 : decode cL_law 724 = .ok (.aload_n 0, 1) := by decide +kernel
theorem dL_law_725 : decode cL_law 725 = .ok (.iload_n 3, 1) := by decide +kernel
theorem dL_law_726 : decode cL_law 726 = .ok (.iconst 3, 1) := by decide +kernel
theorem dL_law_727 : decode cL_law 727 = .ok (.iadd, 1) := by decide +kernel
theorem dL_law_728 : decode cL_law 728 = .ok (.iaload, 1) := by decide +kernel
theorem dL_law_729 : decode cL_law 729 = .ok (.invokevirtual 93, 3) := by decide +kernel
theorem dL_law_732 : decode cL_law 732 = .ok (.if_icmp .eq 262, 3) := by decide +kernel
theorem dL_law_735 : decode cL_law 735 = .ok (.iconst 0, 1) := by decide +kernel
theorem dL_law_736 : decode cL_law 736 = .ok (.ireturn, 1) := by decide +kernel
theorem dL_law_737 : decode cL_law 737 = .ok (.aload_n 1, 1) := by decide +kernel
theorem dL_law_738 : decode cL_law 738 = .ok (.aload_n 0, 1) := by decide +kernel
theorem dL_law_739 : decode cL_law 739 = .ok (.iload_n 3, 1) := by decide +kernel
theorem dL_law_740 : decode cL_law 740 = .ok (.iconst 1, 1) := by decide +kernel
theorem dL_law_741 : decode cL_law 741 = .ok (.iadd, 1) := by decide +kernel
theorem dL_law_742 : decode cL_law 742 = .ok (.iaload, 1) := by decide +kernel
theorem dL_law_743 : decode cL_law 743 = .ok (.aload_n 0, 1) := by decide +kernel
theorem dL_law_744 : decode cL_law 744 = .ok (.iload_n 3, 1) := by decide +kernel
theorem dL_law_745 : decode cL_law 745 = .ok (.iconst 2, 1) := by decide +kernel
theorem dL_law_746 : decode cL_law 746 = .ok (.iadd, 1) := by decide +kernel
theorem dL_law_747 : decode cL_law 747 = .ok (.iaload, 1) := by decide +kernel
theorem dL_law_748 : decode cL_law 748 = .ok (.aload_n 0, 1) := by decide +kernel
theorem dL_law_749 : decode cL_law 749 = .ok (.iload_n 3, 1) := by decide +kernel
theorem dL_law_750 : decode cL_law 750 = .ok (.iconst 3, 1) := by decide +kernel
theorem dL_law_751 : decode cL_law 751 = .ok (.iadd, 1) := by decide +kernel
theorem dL_law_752 : decode cL_law 752 = .ok (.iaload, 1) := by decide +kernel
theorem dL_law_753 : decode cL_law 753 = .ok (.invokevirtual 94, 3) := by decide +kernel
theorem dL_law_756 : decode cL_law 756 = .ok (.aload_n 2, 1) := by decide +kernel
theorem dL_law_757 : decode cL_law 757 = .ok (.aload_n 0, 1) := by decide +kernel
theorem dL_law_758 : decode cL_law 758 = .ok (.iload_n 3, 1) := by decide +kernel
theorem dL_law_759 : decode cL_law 759 = .ok (.iconst 1, 1) := by decide +kernel
theorem dL_law_760 : decode cL_law 760 = .ok (.iadd, 1) := by decide +kernel
theorem dL_law_761 : decode cL_law 761 = .ok (.iaload, 1) := by decide +kernel
theorem dL_law_762 : decode cL_law 762 = .ok (.aload_n 0, 1) := by decide +kernel
theorem dL_law_763 : decode cL_law 763 = .ok (.iload_n 3, 1) := by decide +kernel
theorem dL_law_764 : decode cL_law 764 = .ok (.iconst 2, 1) := by decide +kernel
theorem dL_law_765 : decode cL_law 765 = .ok (.iadd, 1) := by decide +kernel
theorem dL_law_766 : decode cL_law 766 = .ok (.iaload, 1) := by decide +kernel
theorem dL_law_767 : decode cL_law 767 = .ok (.aload_n 0, 1) := by decide +kernel
theorem dL_law_768 : decode cL_law 768 = .ok (.iload_n 3, 1) := by decide +kernel
theorem dL_law_769 : decode cL_law 769 = .ok (.iconst 3, 1) := by decide +kernel
theorem dL_law_770 : decode cL_law 770 = .ok (.iadd, 1) := by decide +kernel
theorem dL_law_771 : decode cL_law 771 = .ok (.iaload, 1) := by decide +kernel
theorem dL_law_772 : decode cL_law 772 = .ok (.invokevirtual 97, 3) := by decide +kernel
theorem dL_law_775 : decode cL_law 775 = .ok (.if_icmp .eq 219, 3) := by decide +kernel
theorem dL_law_778 : decode cL_law 778 = .ok (.iconst 0, 1) := by decide +kernel
theorem dL_law_779 : decode cL_law 779 = .ok (.ireturn, 1) := by decide +kernel
theorem dL_law_780 : decode cL_law 780 = .ok (.aload_n 1, 1) := by decide +kernel
theorem dL_law_781 : decode cL_law 781 = .ok (.aload_n 0, 1) := by decide +kernel
theorem dL_law_782 : decode cL_law 782 = .ok (.iload_n 3, 1) := by decide +kernel
theorem dL_law_783 : decode cL_law 783 = .ok (.iconst 1, 1) := by decide +kernel
theorem dL_law_784 : decode cL_law 784 = .ok (.iadd, 1) := by decide +kernel
theorem dL_law_785 : decode cL_law 785 = .ok (.iaload, 1) := by decide +kernel
theorem dL_law_786 : decode cL_law 786 = .ok (.aload_n 0, 1) := by decide +kernel
theorem dL_law_787 : decode cL_law 787 = .ok (.iload_n 3, 1) := by decide +kernel
theorem dL_law_788 : decode cL_law 788 = .ok (.iconst 2, 1) := by decide +kernel
theorem dL_law_789 : decode cL_law 789 = .ok (.iadd, 1) := by decide +kernel
theorem dL_law_790 : decode cL_law 790 = .ok (.iaload, 1) := by decide +kernel
theorem dL_law_791 : decode cL_law 791 = .ok (.aload_n 0, 1) := by decide +kernel
theorem dL_law_792 : decode cL_law 792 = .ok (.iload_n 3, 1) := by decide +kernel
theorem dL_law_793 : decode cL_law 793 = .ok (.iconst 3, 1) := by decide +kernel
theorem dL_law_794 : decode cL_law 794 = .ok (.iadd, 1) := by decide +kernel
theorem dL_law_795 : decode cL_law 795 = .ok (.iaload, 1) := by decide +kernel
theorem dL_law_796 : decode cL_law 796 = .ok (.invokevirtual 98, 3) := by decide +kernel
theorem dL_law_799 : decode cL_law 799 = .ok (.aload_n 2, 1) := by decide +kernel
theorem dL_law_800 : decode cL_law 800 = .ok (.aload_n 0, 1) := by decide +kernel
theorem dL_law_801 : decode cL_law 801 = .ok (.iload_n 3, 1) := by decide +kernel
theorem dL_law_802 : decode cL_law 802 = .ok (.iconst 1, 1) := by decide +kernel
theorem dL_law_803 : decode cL_law 803 = .ok (.iadd, 1) := by decide +kernel
theorem dL_law_804 : decode cL_law 804 = .ok (.iaload, 1) := by decide +kernel
theorem dL_law_805 : decode cL_law 805 = .ok (.aload_n 0, 1) := by decide +kernel
theorem dL_law_806 : decode cL_law 806 = .ok (.iload_n 3, 1) := by decide +kernel
theorem dL_law_807 : decode cL_law 807 = .ok (.iconst 2, 1) := by decide +kernel
theorem dL_law_808 : decode cL_law 808 = .ok (.iadd, 1) := by decide +kernel
theorem dL_law_809 : decode cL_law 809 = .ok (.iaload, 1) := by decide +kernel
theorem dL_law_810 : decode cL_law 810 = .ok (.aload_n 0, 1) := by decide +kernel
theorem dL_law_811 : decode cL_law 811 = .ok (.iload_n 3, 1) := by decide +kernel
theorem dL_law_812 : decode cL_law 812 = .ok (.iconst 3, 1) := by decide +kernel
theorem dL_law_813 : decode cL_law 813 = .ok (.iadd, 1) := by decide +kernel
theorem dL_law_814 : decode cL_law 814 = .ok (.iaload, 1) := by decide +kernel
theorem dL_law_815 : decode cL_law 815 = .ok (.invokevirtual 101, 3) := by decide +kernel
theorem dL_law_818 : decode cL_law 818 = .ok (.if_icmp .eq 176, 3) := by decide +kernel
theorem dL_law_821 : decode cL_law 821 = .ok (.iconst 0, 1) := by decide +kernel
theorem dL_law_822 : decode cL_law 822 = .ok (.ireturn, 1) := by decide +kernel
theorem dL_law_823 : decode cL_law 823 = .ok (.aload_n 1, 1) := by decide +kernel
theorem dL_law_824 : decode cL_law 824 = .ok (.aload_n 0, 1) := by decide +kernel
theorem dL_law_825 : decode cL_law 825 = .ok (.iload_n 3, 1) := by decide +kernel
theorem dL_law_826 : decode cL_law 826 = .ok (.iconst 1, 1) := by decide +kernel
theorem dL_law_827 : decode cL_law 827 = .ok (.iadd, 1) := by decide +kernel
theorem dL_law_828 : decode cL_law 828 = .ok (.iaload, 1) := by decide +kernel
theorem dL_law_829 : decode cL_law 829 = .ok (.aload_n 0, 1) := by decide +kernel
theorem dL_law_830 : decode cL_law 830 = .ok (.iload_n 3, 1) := by decide +kernel
theorem dL_law_831 : decode cL_law 831 = .ok (.iconst 2, 1) := by decide +kernel
theorem dL_law_832 : decode cL_law 832 = .ok (.iadd, 1) := by decide +kernel
theorem dL_law_833 : decode cL_law 833 = .ok (.iaload, 1) := by decide +kernel
theorem dL_law_834 : decode cL_law 834 = .ok (.aload_n 0, 1) := by decide +kernel
theorem dL_law_835 : decode cL_law 835 = .ok (.iload_n 3, 1) := by decide +kernel
theorem dL_law_836 : decode cL_law 836 = .ok (.iconst 3, 1) := by decide +kernel
theorem dL_law_837 : decode cL_law 837 = .ok (.iadd, 1) := by decide +kernel
theorem dL_law_838 : decode cL_law 838 = .ok (.iaload, 1) := by decide +kernel
theorem dL_law_839 : decode cL_law 839 = .ok (.invokevirtual 102, 3) := by decide +kernel
theorem dL_law_842 : decode cL_law 842 = .ok (.aload_n 2, 1) := by decide +kernel
theorem dL_law_843 : decode cL_law 843 = .ok (.aload_n 0, 1) := by decide +kernel
theorem dL_law_844 : decode cL_law 844 = .ok (.iload_n 3, 1) := by decide +kernel
theorem dL_law_845 : decode cL_law 845 = .ok (.iconst 1, 1) := by decide +kernel
theorem dL_law_846 : decode cL_law 846 = .ok (.iadd, 1) := by decide +kernel
theorem dL_law_847 : decode cL_law 847 = .ok (.iaload, 1) := by decide +kernel
theorem dL_law_848 : decode cL_law 848 = .ok (.aload_n 0, 1) := by decide +kernel
theorem dL_law_849 : decode cL_law 849 = .ok (.iload_n 3, 1) := by decide +kernel
theorem dL_law_850 : decode cL_law 850 = .ok (.iconst 2, 1) := by decide +kernel
theorem dL_law_851 : decode cL_law 851 = .ok (.iadd, 1) := by decide +kernel
theorem dL_law_852 : decode cL_law 852 = .ok (.iaload, 1) := by decide +kernel
theorem dL_law_853 : decode cL_law 853 = .ok (.aload_n 0, 1) := by decide +kernel
theorem dL_law_854 : decode cL_law 854 = .ok (.iload_n 3, 1) := by decide +kernel
theorem dL_law_855 : decode cL_law 855 = .ok (.iconst 3, 1) := by decide +kernel
theorem dL_law_856 : decode cL_law 856 = .ok (.iadd, 1) := by decide +kernel
theorem dL_law_857 : decode cL_law 857 = .ok (.iaload, 1) := by decide +kernel
theorem dL_law_858 : decode cL_law 858 = .ok (.invokevirtual 105, 3) := by decide +kernel
theorem dL_law_861 : decode cL_law 861 = .ok (.if_icmp .eq 133, 3) := by decide +kernel
theorem dL_law_864 : decode cL_law 864 = .ok (.iconst 0, 1) := by decide +kernel
theorem dL_law_865 : decode cL_law 865 = .ok (.ireturn, 1) := by decide +kernel
theorem dL_law_866 : decode cL_law 866 = .ok (.aload_n 1, 1) := by decide +kernel
theorem dL_law_867 : decode cL_law 867 = .ok (.aload_n 0, 1) := by decide +kernel
theorem dL_law_868 : decode cL_law 868 = .ok (.iload_n 3, 1) := by decide +kernel
theorem dL_law_869 : decode cL_law 869 = .ok (.iconst 1, 1) := by decide +kernel
theorem dL_law_870 : decode cL_law 870 = .ok (.iadd, 1) := by decide +kernel
theorem dL_law_871 : decode cL_law 871 = .ok (.iaload, 1) := by decide +kernel
theorem dL_law_872 : decode cL_law 872 = .ok (.aload_n 0, 1) := by decide +kernel
theorem dL_law_873 : decode cL_law 873 = .ok (.iload_n 3, 1) := by decide +kernel
theorem dL_law_874 : decode cL_law 874 = .ok (.iconst 2, 1) := by decide +kernel
theorem dL_law_875 : decode cL_law 875 = .ok (.iadd, 1) := by decide +kernel
theorem dL_law_876 : decode cL_law 876 = .ok (.iaload, 1) := by decide +kernel
theorem dL_law_877 : decode cL_law 877 = .ok (.invokevirtual 106, 3) := by decide +kernel
theorem dL_law_880 : decode cL_law 880 = .ok (.aload_n 2, 1) := by decide +kernel
theorem dL_law_881 : decode cL_law 881 = .ok (.aload_n 0, 1) := by decide +kernel
theorem dL_law_882 : decode cL_law 882 = .ok (.iload_n 3, 1) := by decide +kernel
theorem dL_law_883 : decode cL_law 883 = .ok (.iconst 1, 1) := by decide +kernel
theorem dL_law_884 : decode cL_law 884 = .ok (.iadd, 1) := by decide +kernel
theorem dL_law_885 : decode cL_law 885 = .ok (.iaload, 1) := by decide +kernel
theorem dL_law_886 : decode cL_law 886 = .ok (.aload_n 0, 1) := by decide +kernel
theorem dL_law_887 : decode cL_law 887 = .ok (.iload_n 3, 1) := by decide +kernel
theorem dL_law_888 : decode cL_law 888 = .ok (.iconst 2, 1) := by decide +kernel
theorem dL_law_889 : decode cL_law 889 = .ok (.iadd, 1) := by decide +kernel
theorem dL_law_890 : decode cL_law 890 = .ok (.iaload, 1) := by decide +kernel
theorem dL_law_891 : decode cL_law 891 = .ok (.invokevirtual 109, 3) := by decide +kernel
theorem dL_law_894 : decode cL_law 894 = .ok (.if_icmp .eq 100, 3) := by decide +kernel
theorem dL_law_897 : decode cL_law 897 = .ok (.iconst 0, 1) := by decide +kernel
theorem dL_law_898 : decode cL_law 898 = .ok (.ireturn, 1) := by decide +kernel
theorem dL_law_899 : decode cL_law 899 = .ok (.aload_n 1, 1) := by decide +kernel
theorem dL_law_900 : decode cL_law 900 = .ok (.invokevirtual 110, 3) := by decide +kernel
theorem dL_law_903 : decode cL_law 903 = .ok (.aload_n 2, 1) := by decide +kernel
theorem dL_law_904 : decode cL_law 904 = .ok (.invokevirtual 113, 3) := by decide +kernel
theorem dL_law_907 : decode cL_law 907 = .ok (.if_icmp .eq 87, 3) := by decide +kernel
theorem dL_law_910 : decode cL_law 910 = .ok (.iconst 0, 1) := by decide +kernel
theorem dL_law_911 : decode cL_law 911 = .ok (.ireturn, 1) := by decide +kernel
theorem dL_law_912 : decode cL_law 912 = .ok (.aload_n 1, 1) := by decide +kernel
theorem dL_law_913 : decode cL_law 913 = .ok (.invokevirtual 114, 3) := by decide +kernel
theorem dL_law_916 : decode cL_law 916 = .ok (.aload_n 2, 1) := by decide +kernel
theorem dL_law_917 : decode cL_law 917 = .ok (.invokevirtual 117, 3) := by decide +kernel
theorem dL_law_920 : decode cL_law 920 = .ok (.if_icmp .eq 74, 3) := by decide +kernel
theorem dL_law_923 : decode cL_law 923 = .ok (.iconst 0, 1) := by decide +kernel
theorem dL_law_924 : decode cL_law 924 = .ok (.ireturn, 1) := by decide +kernel
theorem dL_law_925 : decode cL_law 925 = .ok (.aload_n 1, 1) := by decide +kernel
theorem dL_law_926 : decode cL_law 926 = .ok (.aload_n 0, 1) := by decide +kernel
theorem dL_law_927 : decode cL_law 927 = .ok (.iload_n 3, 1) := by decide +kernel
theorem dL_law_928 : decode cL_law 928 = .ok (.iconst 1, 1) := by decide +kernel
theorem dL_law_929 : decode cL_law 929 = .ok (.iadd, 1) := by decide +kernel
theorem dL_law_930 : decode cL_law 930 = .ok (.iaload, 1) := by decide +kernel
theorem dL_law_931 : decode cL_law 931 = .ok (.invokevirtual 118, 3) := by decide +kernel
theorem dL_law_934 : decode cL_law 934 = .ok (.aload_n 2, 1) := by decide +kernel
theorem dL_law_935 : decode cL_law 935 = .ok (.aload_n 0, 1) := by decide +kernel
theorem dL_law_936 : decode cL_law 936 = .ok (.iload_n 3, 1) := by decide +kernel
theorem dL_law_937 : decode cL_law 937 = .ok (.iconst 1, 1) := by decide +kernel
theorem dL_law_938 : decode cL_law 938 = .ok (.iadd, 1) := by decide +kernel
theorem dL_law_939 : decode cL_law 939 = .ok (.iaload, 1) := by decide +kernel
theorem dL_law_940 : decode cL_law 940 = .ok (.invokevirtual 121, 3) := by decide +kernel
theorem dL_law_943 : decode cL_law 943 = .ok (.if_icmp .eq 51, 3) := by decide +kernel
theorem dL_law_946 : decode cL_law 946 = .ok (.iconst 0, 1) := by decide +kernel
theorem dL_law_947 : decode cL_law 947 = .ok (.ireturn, 1) := by decide +kernel
theorem dL_law_948 : decode cL_law 948 = .ok (.aload_n 1, 1) := by decide +kernel
theorem dL_law_949 : decode cL_law 949 = .ok (.aload_n 0, 1) := by decide +kernel
theorem dL_law_950 : decode cL_law 950 = .ok (.iload_n 3, 1) := by decide +kernel
theorem dL_law_951 : decode cL_law 951 = .ok (.iconst 1, 1) := by decide +kernel
theorem dL_law_952 : decode cL_law 952 = .ok (.iadd, 1) := by decide +kernel
theorem dL_law_953 : decode cL_law 953 = .ok (.iaload, 1) := by decide +kernel
theorem dL_law_954 : decode cL_law 954 = .ok (.invokevirtual 122, 3) := by decide +kernel
theorem dL_law_957 : decode cL_law 957 = .ok (.aload_n 2, 1) := by decide +kernel
theorem dL_law_958 : decode cL_law 958 = .ok (.aload_n 0, 1) := by decide +kernel
theorem dL_law_959 : decode cL_law 959 = .ok (.iload_n 3, 1) := by decide +kernel
theorem dL_law_960 : decode cL_law 960 = .ok (.iconst 1, 1) := by decide +kernel
theorem dL_law_961 : decode cL_law 961 = .ok (.iadd, 1) := by decide +kernel
theorem dL_law_962 : decode cL_law 962 = .ok (.iaload, 1) := by decide +kernel
theorem dL_law_963 : decode cL_law 963 = .ok (.invokevirtual 125, 3) := by decide +kernel
theorem dL_law_966 : decode cL_law 966 = .ok (.if_icmp .eq 28, 3) := by decide +kernel
theorem dL_law_969 : decode cL_law 969 = .ok (.iconst 0, 1) := by decide +kernel
theorem dL_law_970 : decode cL_law 970 = .ok (.ireturn, 1) := by decide +kernel
theorem dL_law_971 : decode cL_law 971 = .ok (.aload_n 1, 1) := by decide +kernel
theorem dL_law_972 : decode cL_law 972 = .ok (.aload_n 0, 1) := by decide +kernel
theorem dL_law_973 : decode cL_law 973 = .ok (.iload_n 3, 1) := by decide +kernel
theorem dL_law_974 : decode cL_law 974 = .ok (.iconst 1, 1) := by decide +kernel
theorem dL_law_975 : decode cL_law 975 = .ok (.iadd, 1) := by decide +kernel
theorem dL_law_976 : decode cL_law 976 = .ok (.iaload, 1) := by decide +kernel
theorem dL_law_977 : decode cL_law 977 = .ok (.invokevirtual 126, 3) := by decide +kernel
theorem dL_law_980 : decode cL_law 980 = .ok (.aload_n 2, 1) := by decide +kernel
theorem dL_law_981 : decode cL_law 981 = .ok (.aload_n 0, 1) := by decide +kernel
theorem dL_law_982 : decode cL_law 982 = .ok (.iload_n 3, 1) := by decide +kernel
theorem dL_law_983 : decode cL_law 983 = .ok (.iconst 1, 1) := by decide +kernel
theorem dL_law_984 : decode cL_law 984 = .ok (.iadd, 1) := by decide +kernel
theorem dL_law_985 : decode cL_law 985 = .ok (.iaload, 1) := by decide +kernel
theorem dL_law_986 : decode cL_law 986 = .ok (.invokevirtual 129, 3) := by decide +kernel
theorem dL_law_989 : decode cL_law 989 = .ok (.if_icmp .eq 5, 3) := by decide +kernel
theorem dL_law_992 : decode cL_law 992 = .ok (.iconst 0, 1) := by decide +kernel
theorem dL_law_993 : decode cL_law 993 = .ok (.ireturn, 1) := by decide +kernel
theorem dL_law_994 : decode cL_law 994 = .ok (.iinc 3 5, 3) := by decide +kernel
theorem dL_law_997 : decode cL_law 997 = .ok (.goto (-979), 3) := by decide +kernel
theorem dL_law_1000 : decode cL_law 1000 = .ok (.iconst 1, 1) := by decide +kernel
theorem dL_law_1001 : decode cL_law 1001 = .ok (.ireturn, 1) := by decide +kernel
