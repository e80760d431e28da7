theorem dX8_hour_2 : decode cX8_hour 2 = .ok (.invokevirtual 187, 3) := by decide +kernel
theorem dX8_hour_5 : decode cX8_hour 5 = .ok (.istore_n 2, 1) := by decide +kernel
theorem dX8_hour_6 : decode cX8_hour 6 = .ok (.iload_n 2, 1) := by decide +kernel
theorem dX8_hour_7 : decode cX8_hour 7 = .ok (.ifCond .eq 5, 3) := by decide +kernel
theorem dX8_hour_10 : decode cX8_hour 10 = .ok (.iload_n 2, 1) := by decide +kernel
theorem dX8_hour_11 : decode cX8_hour 11 = .ok (.ireturn, 1) := by decide +kernel
theorem dX8_hour_12 : decode cX8_hour 12 = .ok (.iconst 0, 1) := by decide +kernel
theorem dX8_hour_13 : decode cX8_hour 13 = .ok (.istore_n 3, 1) := by decide +kernel
theorem dX8_hour_14 : decode cX8_hour 14 = .ok (.iload_n 3, 1) := by decide +kernel
theorem dX8_hour_15 : decode cX8_hour 15 = .ok (.iload_n 1, 1) := by decide +kernel
theorem dX8_hour_16 : decode cX8_hour 16 = .ok (.if_icmp .ge 20, 3) := by decide +kernel
theorem dX8_hour_19 : decode cX8_hour 19 = .ok (.aload_n 0, 1) := by decide +kernel
theorem dX8_hour_20 : decode cX8_hour 20 = .ok (.getfield 29, 3) := by decide +kernel
theorem dX8_hour_23 : decode cX8_hour 23 = .ok (.aload_n 0, 1) := by decide +kernel
theorem dX8_hour_24 : decode cX8_hour 24 = .ok (.getfield 19, 3) := by decide +kernel
theorem dX8_hour_27 : decode cX8_hour 27 = .ok (.invokevirtual 190, 3) := by decide +kernel
theorem dX8_hour_30 : decode cX8_hour 30 = .ok (.iinc 3 1, 3) := by decide +kernel
theorem dX8_hour_33 : decode cX8_hour 33 = .ok (.goto (-19), 3) := by decide +kernel
theorem dX8_hour_36 : decode cX8_hour 36 = .ok (.aload_n 0, 1) := by decide +kernel
theorem dX8_hour_37 : decode cX8_hour 37 = .ok (.getfield 29, 3) := by decide +kernel
theorem dX8_hour_40 : decode cX8_hour 40 = .ok (.getfield 116, 3) := by decide +kernel
theorem dX8_hour_43 : decode cX8_hour 43 = .ok (.ireturn, 1) := by decide +kernel
theorem dX8_drift_0 : decode cX8_drift 0 = .ok (.aload_n 0, 1) := by decide +kernel
theorem dX8_drift_1 : decode cX8_drift 1 = .ok (.iload_n 1, 1) := by decide +kernel
theorem dX8_drift_2 : decode cX8_drift 2 = .ok (.invokevirtual 187, 3) := by decide +kernel
theorem dX8_drift_5 : decode cX8_drift 5 = .ok (.istore_n 2, 1) := by decide +kernel
theorem dX8_drift_6 : decode cX8_drift 6 = .ok (.iload_n 2, 1) := by decide +kernel
theorem dX8_drift_7 : decode cX8_drift 7 = .ok (.ifCond .eq 5, 3) := by decide +kernel
theorem dX8_drift_10 : decode cX8_drift 10 = .ok (.iload_n 2, 1) := by decide +kernel
theorem dX8_drift_11 : decode cX8_drift 11 = .ok (.ireturn, 1) := by decide +kernel
theorem dX8_drift_12 : decode cX8_drift 12 = .ok (.iconst 0, 1) := by decide +kernel
theorem dX8_drift_13 : decode cX8_drift 13 = .ok (.istore_n 3, 1) := by decide +kernel
theorem dX8_drift_14 : decode cX8_drift 14 = .ok (.iload_n 3, 1) := by decide +kernel
theorem dX8_drift_15 : decode cX8_drift 15 = .ok (.iload_n 1, 1) := by decide +kernel
theorem dX8_drift_16 : decode cX8_drift 16 = .ok (.if_icmp .ge 31, 3) := by decide +kernel
theorem dX8_drift_19 : decode cX8_drift 19 = .ok (.aload_n 0, 1) := by decide +kernel
theorem dX8_drift_20 : decode cX8_drift 20 = .ok (.getfield 29, 3) := by decide +kernel
theorem dX8_drift_23 : decode cX8_drift 23 = .ok (.aload_n 0, 1) := by decide +kernel
theorem dX8_drift_24 : decode cX8_drift 24 = .ok (.getfield 19, 3) := by decide +kernel
theorem dX8_drift_27 : decode cX8_drift 27 = .ok (.invokevirtual 193, 3) := by decide +kernel
theorem dX8_drift_30 : decode cX8_drift 30 = .ok (.aload_n 0, 1) := by decide +kernel
theorem dX8_drift_31 : decode cX8_drift 31 = .ok (.getfield 29, 3) := by decide +kernel
theorem dX8_drift_34 : decode cX8_drift 34 = .ok (.aload_n 0, 1) := by decide +kernel
theorem dX8_drift_35 : decode cX8_drift 35 = .ok (.getfield 19, 3) := by decide +kernel
theorem dX8_drift_38 : decode cX8_drift 38 = .ok (.invokevirtual 190, 3) := by decide +kernel
theorem dX8_drift_41 : decode cX8_drift 41 = .ok (.iinc 3 1, 3) := by decide +kernel
theorem dX8_drift_44 : decode cX8_drift 44 = .ok (.goto (-30), 3) := by decide +kernel
theorem dX8_drift_47 : decode cX8_drift 47 = .ok (.aload_n 0, 1) := by decide +kernel
theorem dX8_drift_48 : decode cX8_drift 48 = .ok (.getfield 29, 3) := by decide +kernel
theorem dX8_drift_51 : decode cX8_drift 51 = .ok (.getfield 116, 3) := by decide +kernel
theorem dX8_drift_54 : decode cX8_drift 54 = .ok (.ireturn, 1) := by decide +kernel
theorem dX8_refusalOfHours_0 : decode cX8_refusalOfHours 0 = .ok (.iload_n 1, 1) := by decide +kernel
theorem dX8_refusalOfHours_1 : decode cX8_refusalOfHours 1 = .ok (.iconst 1, 1) := by decide +kernel
theorem dX8_refusalOfHours_2 : decode cX8_refusalOfHours 2 = .ok (.if_icmp .lt 9, 3) := by decide +kernel
theorem dX8_refusalOfHours_5 : decode cX8_refusalOfHours 5 = .ok (.iload_n 1, 1) := by decide +kernel
theorem dX8_refusalOfHours_6 : decode cX8_refusalOfHours 6 = .ok (.bipush 99, 2) := by decide +kernel
theorem dX8_refusalOfHours_8 : decode cX8_refusalOfHours 8 = .ok (.if_icmp .le 6, 3) := by decide +kernel
theorem dX8_refusalOfHours_11 : decode cX8_refusalOfHours 11 = .ok (.ldc 75, 2) := by decide +kernel
theorem dX8_refusalOfHours_13 : decode cX8_refusalOfHours 13 = .ok (.ireturn, 1) := by decide +kernel
theorem dX8_refusalOfHours_14 : decode cX8_refusalOfHours 14 = .ok (.aload_n 0, 1) := by decide +kernel
theorem dX8_refusalOfHours_15 : decode cX8_refusalOfHours 15 = .ok (.getfield 19, 3) := by decide +kernel
theorem dX8_refusalOfHours_18 : decode cX8_refusalOfHours 18 = .ok (.getfield 98, 3) := by decide +kernel
theorem dX8_refusalOfHours_21 : decode cX8_refusalOfHours 21 = .ok (.ifCond .ne 6, 3) := by decide +kernel
theorem dX8_refusalOfHours_24 : decode cX8_refusalOfHours 24 = .ok (.ldc 179, 2) := by decide +kernel
theorem dX8_refusalOfHours_26 : decode cX8_refusalOfHours 26 = .ok (.ireturn, 1) := by decide +kernel
theorem dX8_refusalOfHours_27 : decode cX8_refusalOfHours 27 = .ok (.aload_n 0, 1) := by decide +kernel
theorem dX8_refusalOfHours_28 : decode cX8_refusalOfHours 28 = .ok (.getfield 29, 3) := by decide +kernel
theorem dX8_refusalOfHours_31 : decode cX8_refusalOfHours 31 = .ok (.getfield 116, 3) := by decide +kernel
theorem dX8_refusalOfHours_34 : decode cX8_refusalOfHours 34 = .ok (.ldc 196, 2) := by decide +kernel
theorem dX8_refusalOfHours_36 : decode cX8_refusalOfHours 36 = .ok (.if_icmp .le 8, 3) := by decide +kernel
theorem dX8_refusalOfHours_39 : decode cX8_refusalOfHours 39 = .ok (.ldc 197, 2) := by decide +kernel
theorem dX8_refusalOfHours_41 : decode cX8_refusalOfHours 41 = .ok (.goto 4, 3) := by decide +kernel
theorem dX8_refusalOfHours_44 : decode cX8_refusalOfHours 44 = .ok (.iconst 0, 1) := by decide +kernel
theorem dX8_refusalOfHours_45 : decode cX8_refusalOfHours 45 = .ok (.ireturn, 1) := by decide +kernel
theorem dX8_heavy_0 : decode cX8_heavy 0 = .ok (.aload_n 0, 1) := by decide +kernel
theorem dX8_heavy_1 : decode cX8_heavy 1 = .ok (.getfield 19, 3) := by decide +kernel
theorem dX8_heavy_4 : decode cX8_heavy 4 = .ok (.iload_n 1, 1) := by decide +kernel
theorem dX8_heavy_5 : decode cX8_heavy 5 = .ok (.invokevirtual 147, 3) := by decide +kernel
theorem dX8_heavy_8 : decode cX8_heavy 8 = .ok (.ifCond .ne 6, 3) := by decide +kernel
theorem dX8_heavy_11 : decode cX8_heavy 11 = .ok (.ldc 129, 2) := by decide +kernel
theorem dX8_heavy_13 : decode cX8_heavy 13 = .ok (.ireturn, 1) := by decide +kernel
theorem dX8_heavy_14 : decode cX8_heavy 14 = .ok (.iload_n 2, 1) := by decide +kernel
theorem dX8_heavy_15 : decode cX8_heavy 15 = .ok (.ifCond .lt 9, 3) := by decide +kernel
theorem dX8_heavy_18 : decode cX8_heavy 18 = .ok (.iload_n 2, 1) := by decide +kernel
theorem dX8_heavy_19 : decode cX8_heavy 19 = .ok (.bipush 99, 2) := by decide +kernel
theorem dX8_heavy_21 : decode cX8_heavy 21 = .ok (.if_icmp .le 6, 3) := by decide +kernel
theorem dX8_heavy_24 : decode cX8_heavy 24 = .ok (.ldc 75, 2) := by decide +kernel
theorem dX8_heavy_26 : decode cX8_heavy 26 = .ok (.ireturn, 1) := by decide +kernel
theorem dX8_heavy_27 : decode cX8_heavy 27 = .ok (.aload_n 0, 1) := by decide +kernel
theorem dX8_heavy_28 : decode cX8_heavy 28 = .ok (.getfield 33, 3) := by decide +kernel
theorem dX8_heavy_31 : decode cX8_heavy 31 = .ok (.aload_n 0, 1) := by decide +kernel
theorem dX8_heavy_32 : decode cX8_heavy 32 = .ok (.getfield 29, 3) := by decide +kernel
theorem dX8_heavy_35 : decode cX8_heavy 35 = .ok (.invokevirtual 198, 3) := by decide +kernel
theorem dX8_heavy_38 : decode cX8_heavy 38 = .ok (.iconst 0, 1) := by decide +kernel
theorem dX8_heavy_39 : decode cX8_heavy 39 = .ok (.istore_n 3, 1) := by decide +kernel
theorem dX8_heavy_40 : decode cX8_heavy 40 = .ok (.iload_n 3, 1) := by decide +kernel
theorem dX8_heavy_41 : decode cX8_heavy 41 = .ok (.iload_n 2, 1) := by decide +kernel
theorem dX8_heavy_42 : decode cX8_heavy 42 = .ok (.if_icmp .ge 20, 3) := by decide +kernel
theorem dX8_heavy_45 : decode cX8_heavy 45 = .ok (.aload_n 0, 1) := by decide +kernel
theorem dX8_heavy_46 : decode cX8_heavy 46 = .ok (.getfield 33, 3) := by decide +kernel
theorem dX8_heavy_49 : decode cX8_heavy 49 = .ok (.aload_n 0, 1) := by decide +kernel
theorem dX8_heavy_50 : decode cX8_heavy 50 = .ok (.getfield 19, 3) := by decide +kernel
theorem dX8_heavy_53 : decode cX8_heavy 53 = .ok (.invokevirtual 190, 3) := by decide +kernel
theorem dX8_heavy_56 : decode cX8_heavy 56 = .ok (.iinc 3 1, 3) := by decide +kernel
theorem dX8_heavy_59 : decode cX8_heavy 59 = .ok (.goto (-19), 3) := by decide +kernel
theorem dX8_heavy_62 : decode cX8_heavy 62 = .ok (.aload_n 0, 1) := by decide +kernel
theorem dX8_heavy_63 : decode cX8_heavy 63 = .ok (.getfield 33, 3) := by decide +kernel
theorem dX8_heavy_66 : decode cX8_heavy 66 = .ok (.aload_n 0, 1) := by decide +kernel
theorem dX8_heavy_67 : decode cX8_heavy 67 = .ok (.getfield 19, 3) := by decide +kernel
theorem dX8_heavy_70 : decode cX8_heavy 70 = .ok (.iload_n 1, 1) := by decide +kernel
theorem dX8_heavy_71 : decode cX8_heavy 71 = .ok (.invokevirtual 170, 3) := by decide +kernel
theorem dX8_heavy_74 : decode cX8_heavy 74 = .ok (.ireturn, 1) := by decide +kernel
theorem dX8_when_0 : decode cX8_when 0 = .ok (.aload_n 0, 1) := by decide +kernel
theorem dX8_when_1 : decode cX8_when 1 = .ok (.getfield 19, 3) := by decide +kernel
theorem dX8_when_4 : decode cX8_when 4 = .ok (.iload_n 1, 1) := by decide +kernel
theorem dX8_when_5 : decode cX8_when 5 = .ok (.invokevirtual 147, 3) := by decide +kernel
theorem dX8_when_8 : decode cX8_when 8 = .ok (.ifCond .eq 14, 3) := by decide +kernel
theorem dX8_when_11 : decode cX8_when 11 = .ok (.aload_n 0, 1) := by decide +kernel
theorem dX8_when_12 : decode cX8_when 12 = .ok (.getfield 19, 3) := by decide +kernel
theorem dX8_when_15 : decode cX8_when 15 = .ok (.iload_n 2, 1) := by decide +kernel
theorem dX8_when_16 : decode cX8_when 16 = .ok (.invokevirtual 173, 3) := by decide +kernel
theorem dX8_when_19 : decode cX8_when 19 = .ok (.ifCond .ne 6, 3) := by decide +kernel
theorem dX8_when_22 : decode cX8_when 22 = .ok (.ldc 129, 2) := by decide +kernel
theorem dX8_when_24 : decode cX8_when 24 = .ok (.ireturn, 1) := by decide +kernel
theorem dX8_when_25 : decode cX8_when 25 = .ok (.aload_n 0, 1) := by decide +kernel
theorem dX8_when_26 : decode cX8_when 26 = .ok (.getfield 33, 3) := by decide +kernel
theorem dX8_when_29 : decode cX8_when 29 = .ok (.aload_n 0, 1) := by decide +kernel
theorem dX8_when_30 : decode cX8_when 30 = .ok (.getfield 29, 3) := by decide +kernel
theorem dX8_when_33 : decode cX8_when 33 = .ok (.invokevirtual 198, 3) := by decide +kernel
theorem dX8_when_36 : decode cX8_when 36 = .ok (.iconst 0, 1) := by decide +kernel
theorem dX8_when_37 : decode cX8_when 37 = .ok (.istore_n 3, 1) := by decide +kernel
theorem dX8_when_38 : decode cX8_when 38 = .ok (.iload_n 3, 1) := by decide +kernel
theorem dX8_when_39 : decode cX8_when 39 = .ok (.bipush 99, 2) := by decide +kernel
theorem dX8_when_41 : decode cX8_when 41 = .ok (.if_icmp .gt 46, 3) := by decide +kernel
theorem dX8_when_44 : decode cX8_when 44 = .ok (.aload_n 0, 1) := by decide +kernel
theorem dX8_when_45 : decode cX8_when 45 = .ok (.getfield 33, 3) := by decide +kernel
theorem dX8_when_48 : decode cX8_when 48 = .ok (.aload_n 0, 1) := by decide +kernel
theorem dX8_when_49 : decode cX8_when 49 = .ok (.getfield 19, 3) := by decide +kernel
theorem dX8_when_52 : decode cX8_when 52 = .ok (.iload_n 1, 1) := by decide +kernel
theorem dX8_when_53 : decode cX8_when 53 = .ok (.invokevirtual 170, 3) := by decide +kernel
theorem dX8_when_56 : decode cX8_when 56 = .ok (.aload_n 0, 1) := by decide +kernel
theorem dX8_when_57 : decode cX8_when 57 = .ok (.getfield 19, 3) := by decide +kernel
theorem dX8_when_60 : decode cX8_when 60 = .ok (.getfield 176, 3) := by decide +kernel
theorem dX8_when_63 : decode cX8_when 63 = .ok (.iload_n 2, 1) := by decide +kernel
theorem dX8_when_64 : decode cX8_when 64 = .ok (.iaload, 1) := by decide +kernel
theorem dX8_when_65 : decode cX8_when 65 = .ok (.if_icmp .gt 5, 3) := by decide +kernel
theorem dX8_when_68 : decode cX8_when 68 = .ok (.iload_n 3, 1) := by decide +kernel
theorem dX8_when_69 : decode cX8_when 69 = .ok (.ireturn, 1) := by decide +kernel
theorem dX8_when_70 : decode cX8_when 70 = .ok (.aload_n 0, 1) := by decide +kernel
theorem dX8_when_71 : decode cX8_when 71 = .ok (.getfield 33, 3) := by decide +kernel
theorem dX8_when_74 : decode cX8_when 74 = .ok (.aload_n 0, 1) := by decide +kernel
theorem dX8_when_75 : decode cX8_when 75 = .ok (.getfield 19, 3) := by decide +kernel
theorem dX8_when_78 : decode cX8_when 78 = .ok (.invokevirtual 190, 3) := by decide +kernel
theorem dX8_when_81 : decode cX8_when 81 = .ok (.iinc 3 1, 3) := by decide +kernel
theorem dX8_when_84 : decode cX8_when 84 = .ok (.goto (-46), 3) := by decide +kernel
theorem dX8_when_87 : decode cX8_when 87 = .ok (.iconst (-1), 1) := by decide +kernel
theorem dX8_when_88 : decode cX8_when 88 = .ok (.ireturn, 1) := by decide +kernel
theorem dX8_least_0 : decode cX8_least 0 = .ok (.aload_n 0, 1) := by decide +kernel
theorem dX8_least_1 : decode cX8_least 1 = .ok (.getfield 19, 3) := by decide +kernel
theorem dX8_least_4 : decode cX8_least 4 = .ok (.iload_n 1, 1) := by decide +kernel
theorem dX8_least_5 : decode cX8_least 5 = .ok (.invokevirtual 202, 3) := by decide +kernel
theorem dX8_least_8 : decode cX8_least 8 = .ok (.ifCond .eq 25, 3) := by decide +kernel
theorem dX8_least_11 : decode cX8_least 11 = .ok (.aload_n 0, 1) := by decide +kernel
theorem dX8_least_12 : decode cX8_least 12 = .ok (.getfield 19, 3) := by decide +kernel
theorem dX8_least_15 : decode cX8_least 15 = .ok (.iload_n 2, 1) := by decide +kernel
theorem dX8_least_16 : decode cX8_least 16 = .ok (.invokevirtual 173, 3) := by decide +kernel
theorem dX8_least_19 : decode cX8_least 19 = .ok (.ifCond .eq 14, 3) := by decide +kernel
theorem dX8_least_22 : decode cX8_least 22 = .ok (.aload_n 0, 1) := by decide +kernel
theorem dX8_least_23 : decode cX8_least 23 = .ok (.getfield 19, 3) := by decide +kernel
theorem dX8_least_26 : decode cX8_least 26 = .ok (.iload_n 3, 1) := by decide +kernel
theorem dX8_least_27 : decode cX8_least 27 = .ok (.invokevirtual 205, 3) := by decide +kernel
theorem dX8_least_30 : decode cX8_least 30 = .ok (.ifCond .ne 6, 3) := by decide +kernel
theorem dX8_least_33 : decode cX8_least 33 = .ok (.ldc 129, 2) := by decide +kernel
theorem dX8_least_35 : decode cX8_least 35 = .ok (.ireturn, 1) := by decide +kernel
theorem dX8_least_36 : decode cX8_least 36 = .ok (.aload_n 0, 1) := by decide +kernel
theorem dX8_least_37 : decode cX8_least 37 = .ok (.getfield 29, 3) := by decide +kernel
theorem dX8_least_40 : decode cX8_least 40 = .ok (.aload_n 0, 1) := by decide +kernel
theorem dX8_least_41 : decode cX8_least 41 = .ok (.getfield 19, 3) := by decide +kernel
theorem dX8_least_44 : decode cX8_least 44 = .ok (.iload_n 1, 1) := by decide +kernel
theorem dX8_least_45 : decode cX8_least 45 = .ok (.invokevirtual 208, 3) := by decide +kernel
theorem dX8_least_48 : decode cX8_least 48 = .ok (.aload_n 0, 1) := by decide +kernel
theorem dX8_least_49 : decode cX8_least 49 = .ok (.getfield 19, 3) := by decide +kernel
theorem dX8_least_52 : decode cX8_least 52 = .ok (.getfield 176, 3) := by decide +kernel
theorem dX8_least_55 : decode cX8_least 55 = .ok (.iload_n 2, 1) := by decide +kernel
theorem dX8_least_56 : decode cX8_least 56 = .ok (.iaload, 1) := by decide +kernel
theorem dX8_least_57 : decode cX8_least 57 = .ok (.isub, 1) := by decide +kernel
theorem dX8_least_58 : decode cX8_least 58 = .ok (.istore 4, 2) := by decide +kernel
theorem dX8_least_60 : decode cX8_least 60 = .ok (.iconst 0, 1) := by decide +kernel
theorem dX8_least_61 : decode cX8_least 61 = .ok (.istore 5, 2) := by decide +kernel
theorem dX8_least_63 : decode cX8_least 63 = .ok (.iconst 0, 1) := by decide +kernel
theorem dX8_least_64 : decode cX8_least 64 = .ok (.istore 6, 2) := by decide +kernel
theorem dX8_least_66 : decode cX8_least 66 = .ok (.bipush 9, 2) := by decide +kernel
theorem dX8_least_68 : decode cX8_least 68 = .ok (.istore 7, 2) := by decide +kernel
theorem dX8_least_70 : decode cX8_least 70 = .ok (.iload 7, 2) := by decide +kernel
theorem dX8_least_72 : decode cX8_least 72 = .ok (.ifCond .le 130, 3) := by decide +kernel
theorem dX8_least_75 : decode cX8_least 75 = .ok (.iconst 0, 1) := by decide +kernel
theorem dX8_least_76 : decode cX8_least 76 = .ok (.istore 8, 2) := by decide +kernel
theorem dX8_least_78 : decode cX8_least 78 = .ok (.iload 8, 2) := by decide +kernel
theorem dX8_least_80 : decode cX8_least 80 = .ok (.aload_n 0, 1) := by decide +kernel
theorem dX8_least_81 : decode cX8_least 81 = .ok (.getfield 19, 3) := by decide +kernel
theorem dX8_least_84 : decode cX8_least 84 = .ok (.getfield 104, 3) := by decide +kernel
theorem dX8_least_87 : decode cX8_least 87 = .ok (.if_icmp .ge 109, 3) := by decide +kernel
theorem dX8_least_90 : decode cX8_least 90 = .ok (.aload_n 0, 1) := by decide +kernel
theorem dX8_least_91 : decode cX8_least 91 = .ok (.getfield 19, 3) := by decide +kernel
theorem dX8_least_94 : decode cX8_least 94 = .ok (.getfield 134, 3) := by decide +kernel
theorem dX8_least_97 : decode cX8_least 97 = .ok (.iload 8, 2) := by decide +kernel
theorem dX8_least_99 : decode cX8_least 99 = .ok (.iaload, 1) := by decide +kernel
theorem dX8_least_100 : decode cX8_least 100 = .ok (.iload 7, 2) := by decide +kernel
theorem dX8_least_102 : decode cX8_least 102 = .ok (.if_icmp .ne 88, 3) := by decide +kernel
theorem dX8_least_105 : decode cX8_least 105 = .ok (.aload_n 0, 1) := by decide +kernel
theorem dX8_least_106 : decode cX8_least 106 = .ok (.getfield 19, 3) := by decide +kernel
theorem dX8_least_109 : decode cX8_least 109 = .ok (.iload 8, 2) := by decide +kernel
theorem dX8_least_111 : decode cX8_least 111 = .ok (.invokevirtual 137, 3) := by decide +kernel
theorem dX8_least_114 : decode cX8_least 114 = .ok (.ifCond .ne 76, 3) := by decide +kernel
theorem dX8_least_117 : decode cX8_least 117 = .ok (.iload_n 1, 1) := by decide +kernel
theorem dX8_least_118 : decode cX8_least 118 = .ok (.aload_n 0, 1) := by decide +kernel
theorem dX8_least_119 : decode cX8_least 119 = .ok (.getfield 19, 3) := by decide +kernel
theorem dX8_least_122 : decode cX8_least 122 = .ok (.getfield 130, 3) := by decide +kernel
theorem dX8_least_125 : decode cX8_least 125 = .ok (.iload 8, 2) := by decide +kernel
theorem dX8_least_127 : decode cX8_least 127 = .ok (.iaload, 1) := by decide +kernel
theorem dX8_least_128 : decode cX8_least 128 = .ok (.ishr, 1) := by decide +kernel
theorem dX8_least_129 : decode cX8_least 129 = .ok (.iconst 1, 1) := by decide +kernel
theorem dX8_least_130 : decode cX8_least 130 = .ok (.iand, 1) := by decide +kernel
theorem dX8_least_131 : decode cX8_least 131 = .ok (.ifCond .eq 59, 3) := by decide +kernel
theorem dX8_least_134 : decode cX8_least 134 = .ok (.iload 4, 2) := by decide +kernel
theorem dX8_least_136 : decode cX8_least 136 = .ok (.iload 7, 2) := by decide +kernel
theorem dX8_least_138 : decode cX8_least 138 = .ok (.aload_n 0, 1) := by decide +kernel
theorem dX8_least_139 : decode cX8_least 139 = .ok (.getfield 29, 3) := by decide +kernel
theorem dX8_least_142 : decode cX8_least 142 = .ok (.aload_n 0, 1) := by decide +kernel
theorem dX8_least_143 : decode cX8_least 143 = .ok (.getfield 19, 3) := by decide +kernel
theorem dX8_least_146 : decode cX8_least 146 = .ok (.iload 8, 2) := by decide +kernel
theorem dX8_least_148 : decode cX8_least 148 = .ok (.invokevirtual 143, 3) := by decide +kernel
theorem dX8_least_151 : decode cX8_least 151 = .ok (.invokestatic 211, 3) := by decide +kernel
theorem dX8_least_154 : decode cX8_least 154 = .ok (.istore 9, 2) := by decide +kernel
theorem dX8_least_156 : decode cX8_least 156 = .ok (.iload 4, 2) := by decide +kernel
theorem dX8_least_158 : decode cX8_least 158 = .ok (.iload 9, 2) := by decide +kernel
theorem dX8_least_160 : decode cX8_least 160 = .ok (.iload 7, 2) := by decide +kernel
theorem dX8_least_162 : decode cX8_least 162 = .ok (.imul, 1) := by decide +kernel
theorem dX8_least_163 : decode cX8_least 163 = .ok (.isub, 1) := by decide +kernel
theorem dX8_least_164 : decode cX8_least 164 = .ok (.istore 4, 2) := by decide +kernel
theorem dX8_least_166 : decode cX8_least 166 = .ok (.iload 5, 2) := by decide +kernel
theorem dX8_least_168 : decode cX8_least 168 = .ok (.iload 9, 2) := by decide +kernel
theorem dX8_least_170 : decode cX8_least 170 = .ok (.iadd, 1) := by decide +kernel
theorem dX8_least_171 : decode cX8_least 171 = .ok (.istore 5, 2) := by decide +kernel
theorem dX8_least_173 : decode cX8_least 173 = .ok (.iload 6, 2) := by decide +kernel
theorem dX8_least_175 : decode cX8_least 175 = .ok (.iload 8, 2) := by decide +kernel
theorem dX8_least_177 : decode cX8_least 177 = .ok (.iload_n 3, 1) := by decide +kernel
theorem dX8_least_178 : decode cX8_least 178 = .ok (.if_icmp .ne 8, 3) := by decide +kernel
theorem dX8_least_181 : decode cX8_least 181 = .ok (.iload 9, 2) := by decide +kernel
theorem dX8_least_183 : decode cX8_least 183 = .ok (.goto 4, 3) := by decide +kernel
theorem dX8_least_186 : decode cX8_least 186 = .ok (.iconst 0, 1) := by decide +kernel
theorem dX8_least_187 : decode cX8_least 187 = .ok (.iadd, 1) := by decide +kernel
theorem dX8_least_188 : decode cX8_least 188 = .ok (.istore 6, 2) := by decide +kernel
theorem dX8_least_190 : decode cX8_least 190 = .ok (.iinc 8 1, 3) := by decide +kernel
theorem dX8_least_193 : decode cX8_least 193 = .ok (.goto (-115), 3) := by decide +kernel
theorem dX8_least_196 : decode cX8_least 196 = .ok (.iinc 7 (-1), 3) := by decide +kernel
theorem dX8_least_199 : decode cX8_least 199 = .ok (.goto (-129), 3) := by decide +kernel
theorem dX8_least_202 : decode cX8_least 202 = .ok (.iload 4, 2) := by decide +kernel
theorem dX8_least_204 : decode cX8_least 204 = .ok (.ifCond .le 5, 3) := by decide +kernel
theorem dX8_least_207 : decode cX8_least 207 = .ok (.iconst (-1), 1) := by decide +kernel
theorem dX8_least_208 : decode cX8_least 208 = .ok (.ireturn, 1) := by decide +kernel
theorem dX8_least_209 : decode cX8_least 209 = .ok (.iload_n 3, 1) := by decide +kernel
theorem dX8_least_210 : decode cX8_least 210 = .ok (.iconst (-1), 1) := by decide +kernel
theorem dX8_least_211 : decode cX8_least 211 = .ok (.if_icmp .ne 8, 3) := by decide +kernel
theorem dX8_least_214 : decode cX8_least 214 = .ok (.iload 5, 2) := by decide +kernel
theorem dX8_least_216 : decode cX8_least 216 = .ok (.goto 5, 3) := by decide +kernel
theorem dX8_least_219 : decode cX8_least 219 = .ok (.iload 6, 2) := by decide +kernel
theorem dX8_least_221 : decode cX8_least 221 = .ok (.ireturn, 1) := by decide +kernel
theorem dX8_timesToForget_0 : decode cX8_timesToForget 0 = .ok (.iconst 0, 1) := by decide +kernel
theorem dX8_timesToForget_1 : decode cX8_timesToForget 1 = .ok (.istore_n 3, 1) := by decide +kernel
theorem dX8_timesToForget_2 : decode cX8_timesToForget 2 = .ok (.iload_n 3, 1) := by decide +kernel
theorem dX8_timesToForget_3 : decode cX8_timesToForget 3 = .ok (.iload_n 2, 1) := by decide +kernel
theorem dX8_timesToForget_4 : decode cX8_timesToForget 4 = .ok (.if_icmp .ge 17, 3) := by decide +kernel
theorem dX8_timesToForget_7 : decode cX8_timesToForget 7 = .ok (.iload_n 0, 1) := by decide +kernel
theorem dX8_timesToForget_8 : decode cX8_timesToForget 8 = .ok (.iload_n 3, 1) := by decide +kernel
theorem dX8_timesToForget_9 : decode cX8_timesToForget 9 = .ok (.iload_n 1, 1) := by decide +kernel
theorem dX8_timesToForget_10 : decode cX8_timesToForget 10 = .ok (.imul, 1) := by decide +kernel
theorem dX8_timesToForget_11 : decode cX8_timesToForget 11 = .ok (.isub, 1) := by decide +kernel
theorem dX8_timesToForget_12 : decode cX8_timesToForget 12 = .ok (.ifCond .le 9, 3) := by decide +kernel
theorem dX8_timesToForget_15 : decode cX8_timesToForget 15 = .ok (.iinc 3 1, 3) := by decide +kernel
theorem dX8_timesToForget_18 : decode cX8_timesToForget 18 = .ok (.goto (-16), 3) := by decide +kernel
theorem dX8_timesToForget_21 : decode cX8_timesToForget 21 = .ok (.iload_n 3, 1) := by decide +kernel
theorem dX8_timesToForget_22 : decode cX8_timesToForget 22 = .ok (.ireturn, 1) := by decide +kernel
theorem dX8_trips_0 : decode cX8_trips 0 = .ok (.aload_n 0, 1) := by decide +kernel
theorem dX8_trips_1 : decode cX8_trips 1 = .ok (.getfield 19, 3) := by decide +kernel
theorem dX8_trips_4 : decode cX8_trips 4 = .ok (.iload_n 1, 1) := by decide +kernel
theorem dX8_trips_5 : decode cX8_trips 5 = .ok (.invokevirtual 202, 3) := by decide +kernel
theorem dX8_trips_8 : decode cX8_trips 8 = .ok (.ifCond .eq 14, 3) := by decide +kernel
theorem dX8_trips_11 : decode cX8_trips 11 = .ok (.aload_n 0, 1) := by decide +kernel
theorem dX8_trips_12 : decode cX8_trips 12 = .ok (.getfield 19, 3) := by decide +kernel
theorem dX8_trips_15 : decode cX8_trips 15 = .ok (.iload_n 2, 1) := by decide +kernel
theorem dX8_trips_16 : decode cX8_trips 16 = .ok (.invokevirtual 173, 3) := by decide +kernel
theorem dX8_trips_19 : decode cX8_trips 19 = .ok (.ifCond .ne 6, 3) := by decide +kernel
theorem dX8_trips_22 : decode cX8_trips 22 = .ok (.ldc 129, 2) := by decide +kernel
theorem dX8_trips_24 : decode cX8_trips 24 = .ok (.ireturn, 1) := by decide +kernel
theorem dX8_trips_25 : decode cX8_trips 25 = .ok (.aload_n 0, 1) := by decide +kernel
theorem dX8_trips_26 : decode cX8_trips 26 = .ok (.getfield 50, 3) := by decide +kernel
theorem dX8_trips_29 : decode cX8_trips 29 = .ok (.aload_n 0, 1) := by decide +kernel
theorem dX8_trips_30 : decode cX8_trips 30 = .ok (.getfield 19, 3) := by decide +kernel
theorem dX8_trips_33 : decode cX8_trips 33 = .ok (.aload_n 0, 1) := by decide +kernel
theorem dX8_trips_34 : decode cX8_trips 34 = .ok (.getfield 29, 3) := by decide +kernel
theorem dX8_trips_37 : decode cX8_trips 37 = .ok (.iload_n 1, 1) := by decide +kernel
theorem dX8_trips_38 : decode cX8_trips 38 = .ok (.aload_n 0, 1) := by decide +kernel
theorem dX8_trips_39 : decode cX8_trips 39 = .ok (.getfield 19, 3) := by decide +kernel
theorem dX8_trips_42 : decode cX8_trips 42 = .ok (.getfield 176, 3) := by decide +kernel
theorem dX8_trips_45 : decode cX8_trips 45 = .ok (.iload_n 2, 1) := by decide +kernel
theorem dX8_trips_46 : decode cX8_trips 46 = .ok (.iaload, 1) := by decide +kernel
theorem dX8_trips_47 : decode cX8_trips 47 = .ok (.invokevirtual 215, 3) := by decide +kernel
theorem dX8_trips_50 : decode cX8_trips 50 = .ok (.iload_n 3, 1) := by decide +kernel
theorem dX8_trips_51 : decode cX8_trips 51 = .ok (.iconst (-1), 1) := by decide +kernel
theorem dX8_trips_52 : decode cX8_trips 52 = .ok (.if_icmp .ne 15, 3) := by decide +kernel
theorem dX8_trips_55 : decode cX8_trips 55 = .ok (.aload_n 0, 1) := by decide +kernel
theorem dX8_trips_56 : decode cX8_trips 56 = .ok (.getfield 50, 3) := by decide +kernel
theorem dX8_trips_59 : decode cX8_trips 59 = .ok (.getfield 219, 3) := by decide +kernel
theorem dX8_trips_62 : decode cX8_trips 62 = .ok (.iload_n 1, 1) := by decide +kernel
theorem dX8_trips_63 : decode cX8_trips 63 = .ok (.iaload, 1) := by decide +kernel
theorem dX8_trips_64 : decode cX8_trips 64 = .ok (.goto 12, 3) := by decide +kernel
theorem dX8_trips_67 : decode cX8_trips 67 = .ok (.aload_n 0, 1) := by decide +kernel
theorem dX8_trips_68 : decode cX8_trips 68 = .ok (.getfield 50, 3) := by decide +kernel
theorem dX8_trips_71 : decode cX8_trips 71 = .ok (.iload_n 1, 1) := by decide +kernel
theorem dX8_trips_72 : decode cX8_trips 72 = .ok (.iload_n 3, 1) := by decide +kernel
theorem dX8_trips_73 : decode cX8_trips 73 = .ok (.invokevirtual 222, 3) := by decide +kernel
theorem dX8_trips_76 : decode cX8_trips 76 = .ok (.ireturn, 1) := by decide +kernel
theorem dX8_counted_0 : decode cX8_counted 0 = .ok (.aload_n 0, 1) := by decide +kernel
theorem dX8_counted_1 : decode cX8_counted 1 = .ok (.getfield 19, 3) := by decide +kernel
theorem dX8_counted_4 : decode cX8_counted 4 = .ok (.iload_n 1, 1) := by decide +kernel
theorem dX8_counted_5 : decode cX8_counted 5 = .ok (.invokevirtual 147, 3) := by decide +kernel
theorem dX8_counted_8 : decode cX8_counted 8 = .ok (.ifCond .eq 14, 3) := by decide +kernel
theorem dX8_counted_11 : decode cX8_counted 11 = .ok (.aload_n 0, 1) := by decide +kernel
theorem dX8_counted_12 : decode cX8_counted 12 = .ok (.getfield 19, 3) := by decide +kernel
theorem dX8_counted_15 : decode cX8_counted 15 = .ok (.iload_n 3, 1) := by decide +kernel
theorem dX8_counted_16 : decode cX8_counted 16 = .ok (.invokevirtual 205, 3) := by decide +kernel
theorem dX8_counted_19 : decode cX8_counted 19 = .ok (.ifCond .ne 6, 3) := by decide +kernel
theorem dX8_counted_22 : decode cX8_counted 22 = .ok (.ldc 129, 2) := by decide +kernel
theorem dX8_counted_24 : decode cX8_counted 24 = .ok (.ireturn, 1) := by decide +kernel
theorem dX8_counted_25 : decode cX8_counted 25 = .ok (.iload_n 2, 1) := by decide +kernel
theorem dX8_counted_26 : decode cX8_counted 26 = .ok (.invokestatic 225, 3) := by decide +kernel
theorem dX8_counted_29 : decode cX8_counted 29 = .ok (.ifCond .eq 14, 3) := by decide +kernel
theorem dX8_counted_32 : decode cX8_counted 32 = .ok (.iload 4, 2) := by decide +kernel
theorem dX8_counted_34 : decode cX8_counted 34 = .ok (.ifCond .lt 9, 3) := by decide +kernel
theorem dX8_counted_37 : decode cX8_counted 37 = .ok (.iload 4, 2) := by decide +kernel
theorem dX8_counted_39 : decode cX8_counted 39 = .ok (.iconst 1, 1) := by decide +kernel
theorem dX8_counted_40 : decode cX8_counted 40 = .ok (.if_icmp .le 6, 3) := by decide +kernel
theorem dX8_counted_43 : decode cX8_counted 43 = .ok (.ldc 75, 2) := by decide +kernel
theorem dX8_counted_45 : decode cX8_counted 45 = .ok (.ireturn, 1) := by decide +kernel
theorem dX8_counted_46 : decode cX8_counted 46 = .ok (.iload_n 3, 1) := by decide +kernel
theorem dX8_counted_47 : decode cX8_counted 47 = .ok (.iconst (-1), 1) := by decide +kernel
theorem dX8_counted_48 : decode cX8_counted 48 = .ok (.if_icmp .ne 32, 3) := by decide +kernel
theorem dX8_counted_51 : decode cX8_counted 51 = .ok (.aload_n 0, 1) := by decide +kernel
theorem dX8_counted_52 : decode cX8_counted 52 = .ok (.getfield 57, 3) := by decide +kernel
theorem dX8_counted_55 : decode cX8_counted 55 = .ok (.aload_n 0, 1) := by decide +kernel
theorem dX8_counted_56 : decode cX8_counted 56 = .ok (.getfield 19, 3) := by decide +kernel
theorem dX8_counted_59 : decode cX8_counted 59 = .ok (.aload_n 0, 1) := by decide +kernel
theorem dX8_counted_60 : decode cX8_counted 60 = .ok (.getfield 19, 3) := by decide +kernel
theorem dX8_counted_63 : decode cX8_counted 63 = .ok (.getfield 153, 3) := by decide +kernel
theorem dX8_counted_66 : decode cX8_counted 66 = .ok (.iload_n 1, 1) := by decide +kernel
theorem dX8_counted_67 : decode cX8_counted 67 = .ok (.iaload, 1) := by decide +kernel
theorem dX8_counted_68 : decode cX8_counted 68 = .ok (.invokevirtual 228, 3) := by decide +kernel
theorem dX8_counted_71 : decode cX8_counted 71 = .ok (.aload_n 0, 1) := by decide +kernel
theorem dX8_counted_72 : decode cX8_counted 72 = .ok (.getfield 57, 3) := by decide +kernel
theorem dX8_counted_75 : decode cX8_counted 75 = .ok (.iload_n 2, 1) := by decide +kernel
theorem dX8_counted_76 : decode cX8_counted 76 = .ok (.invokevirtual 232, 3) := by decide +kernel
theorem dX8_counted_79 : decode cX8_counted 79 = .ok (.ireturn, 1) := by decide +kernel
theorem dX8_counted_80 : decode cX8_counted 80 = .ok (.aload_n 0, 1) := by decide +kernel
theorem dX8_counted_81 : decode cX8_counted 81 = .ok (.getfield 19, 3) := by decide +kernel
theorem dX8_counted_84 : decode cX8_counted 84 = .ok (.getfield 130, 3) := by decide +kernel
theorem dX8_counted_87 : decode cX8_counted 87 = .ok (.iload_n 3, 1) := by decide +kernel
theorem dX8_counted_88 : decode cX8_counted 88 = .ok (.iaload, 1) := by decide +kernel
theorem dX8_counted_89 : decode cX8_counted 89 = .ok (.iload_n 1, 1) := by decide +kernel
theorem dX8_counted_90 : decode cX8_counted 90 = .ok (.if_icmp .eq 5, 3) := by decide +kernel
theorem dX8_counted_93 : decode cX8_counted 93 = .ok (.iconst (-1), 1) := by decide +kernel
theorem dX8_counted_94 : decode cX8_counted 94 = .ok (.ireturn, 1) := by decide +kernel
theorem dX8_counted_95 : decode cX8_counted 95 = .ok (.aload_n 0, 1) := by decide +kernel
theorem dX8_counted_96 : decode cX8_counted 96 = .ok (.getfield 57, 3) := by decide +kernel
theorem dX8_counted_99 : decode cX8_counted 99 = .ok (.aload_n 0, 1) := by decide +kernel
theorem dX8_counted_100 : decode cX8_counted 100 = .ok (.getfield 19, 3) := by decide +kernel
theorem dX8_counted_103 : decode cX8_counted 103 = .ok (.aload_n 0, 1) := by decide +kernel
theorem dX8_counted_104 : decode cX8_counted 104 = .ok (.getfield 19, 3) := by decide +kernel
theorem dX8_counted_107 : decode cX8_counted 107 = .ok (.getfield 153, 3) := by decide +kernel
theorem dX8_counted_110 : decode cX8_counted 110 = .ok (.iload_n 1, 1) := by decide +kernel
theorem dX8_counted_111 : decode cX8_counted 111 = .ok (.iaload, 1) := by decide +kernel
theorem dX8_counted_112 : decode cX8_counted 112 = .ok (.iconst 1, 1) := by decide +kernel
theorem dX8_counted_113 : decode cX8_counted 113 = .ok (.iload_n 3, 1) := by decide +kernel
theorem dX8_counted_114 : decode cX8_counted 114 = .ok (.ishl, 1) := by decide +kernel
theorem dX8_counted_115 : decode cX8_counted 115 = .ok (.iconst (-1), 1) := by decide +kernel
theorem dX8_counted_116 : decode cX8_counted 116 = .ok (.ixor, 1) := by decide +kernel
theorem dX8_counted_117 : decode cX8_counted 117 = .ok (.iand, 1) := by decide +kernel
theorem dX8_counted_118 : decode cX8_counted 118 = .ok (.invokevirtual 228, 3) := by decide +kernel
theorem dX8_counted_121 : decode cX8_counted 121 = .ok (.iload 4, 2) := by decide +kernel
theorem dX8_counted_123 : decode cX8_counted 123 = .ok (.ifCond .ne 19, 3) := by decide +kernel
theorem dX8_counted_126 : decode cX8_counted 126 = .ok (.aload_n 0, 1) := by decide +kernel
theorem dX8_counted_127 : decode cX8_counted 127 = .ok (.getfield 57, 3) := by decide +kernel
theorem dX8_counted_130 : decode cX8_counted 130 = .ok (.aload_n 0, 1) := by decide +kernel
theorem dX8_counted_131 : decode cX8_counted 131 = .ok (.getfield 19, 3) := by decide +kernel
theorem dX8_counted_134 : decode cX8_counted 134 = .ok (.iload_n 3, 1) := by decide +kernel
theorem dX8_counted_135 : decode cX8_counted 135 = .ok (.iload_n 2, 1) := by decide +kernel
theorem dX8_counted_136 : decode cX8_counted 136 = .ok (.invokevirtual 235, 3) := by decide +kernel
theorem dX8_counted_139 : decode cX8_counted 139 = .ok (.goto 16, 3) := by decide +kernel
theorem dX8_counted_142 : decode cX8_counted 142 = .ok (.aload_n 0, 1) := by decide +kernel
theorem dX8_counted_143 : decode cX8_counted 143 = .ok (.getfield 57, 3) := by decide +kernel
theorem dX8_counted_146 : decode cX8_counted 146 = .ok (.aload_n 0, 1) := by decide +kernel
theorem dX8_counted_147 : decode cX8_counted 147 = .ok (.getfield 19, 3) := by decide +kernel
theorem dX8_counted_150 : decode cX8_counted 150 = .ok (.iload_n 3, 1) := by decide +kernel
theorem dX8_counted_151 : decode cX8_counted 151 = .ok (.iload_n 2, 1) := by decide +kernel
theorem dX8_counted_152 : decode cX8_counted 152 = .ok (.invokevirtual 239, 3) := by decide +kernel
theorem dX8_counted_155 : decode cX8_counted 155 = .ok (.ireturn, 1) := by decide +kernel
theorem dX8_lies_0 : decode cX8_lies 0 = .ok (.aload_n 0, 1) := by decide +kernel
theorem dX8_lies_1 : decode cX8_lies 1 = .ok (.getfield 19, 3) := by decide +kernel
theorem dX8_lies_4 : decode cX8_lies 4 = .ok (.iload_n 1, 1) := by decide +kernel
theorem dX8_lies_5 : decode cX8_lies 5 = .ok (.invokevirtual 147, 3) := by decide +kernel
theorem dX8_lies_8 : decode cX8_lies 8 = .ok (.ifCond .ne 6, 3) := by decide +kernel
theorem dX8_lies_11 : decode cX8_lies 11 = .ok (.ldc 129, 2) := by decide +kernel
theorem dX8_lies_13 : decode cX8_lies 13 = .ok (.ireturn, 1) := by decide +kernel
theorem dX8_lies_14 : decode cX8_lies 14 = .ok (.iload_n 2, 1) := by decide +kernel
theorem dX8_lies_15 : decode cX8_lies 15 = .ok (.invokestatic 225, 3) := by decide +kernel
theorem dX8_lies_18 : decode cX8_lies 18 = .ok (.ifCond .eq 12, 3) := by decide +kernel
theorem dX8_lies_21 : decode cX8_lies 21 = .ok (.iload_n 3, 1) := by decide +kernel
theorem dX8_lies_22 : decode cX8_lies 22 = .ok (.ifCond .lt 8, 3) := by decide +kernel
theorem dX8_lies_25 : decode cX8_lies 25 = .ok (.iload_n 3, 1) := by decide +kernel
theorem dX8_lies_26 : decode cX8_lies 26 = .ok (.iconst 2, 1) := by decide +kernel
theorem dX8_lies_27 : decode cX8_lies 27 = .ok (.if_icmp .le 6, 3) := by decide +kernel
theorem dX8_lies_30 : decode cX8_lies 30 = .ok (.ldc 75, 2) := by decide +kernel
theorem dX8_lies_32 : decode cX8_lies 32 = .ok (.ireturn, 1) := by decide +kernel
theorem dX8_lies_33 : decode cX8_lies 33 = .ok (.aload_n 0, 1) := by decide +kernel
theorem dX8_lies_34 : decode cX8_lies 34 = .ok (.getfield 19, 3) := by decide +kernel
theorem dX8_lies_37 : decode cX8_lies 37 = .ok (.getfield 153, 3) := by decide +kernel
theorem dX8_lies_40 : decode cX8_lies 40 = .ok (.iload_n 1, 1) := by decide +kernel
theorem dX8_lies_41 : decode cX8_lies 41 = .ok (.iaload, 1) := by decide +kernel
theorem dX8_lies_42 : decode cX8_lies 42 = .ok (.istore 4, 2) := by decide +kernel
theorem dX8_lies_44 : decode cX8_lies 44 = .ok (.aload_n 0, 1) := by decide +kernel
theorem dX8_lies_45 : decode cX8_lies 45 = .ok (.getfield 29, 3) := by decide +kernel
theorem dX8_lies_48 : decode cX8_lies 48 = .ok (.aload_n 0, 1) := by decide +kernel
theorem dX8_lies_49 : decode cX8_lies 49 = .ok (.getfield 19, 3) := by decide +kernel
theorem dX8_lies_52 : decode cX8_lies 52 = .ok (.iload 4, 2) := by decide +kernel
theorem dX8_lies_54 : decode cX8_lies 54 = .ok (.invokevirtual 242, 3) := by decide +kernel
theorem dX8_lies_57 : decode cX8_lies 57 = .ok (.istore 5, 2) := by decide +kernel
theorem dX8_lies_59 : decode cX8_lies 59 = .ok (.iconst 0, 1) := by decide +kernel
theorem dX8_lies_60 : decode cX8_lies 60 = .ok (.istore 6, 2) := by decide +kernel
theorem dX8_lies_62 : decode cX8_lies 62 = .ok (.iconst (-1), 1) := by decide +kernel
theorem dX8_lies_63 : decode cX8_lies 63 = .ok (.istore 7, 2) := by decide +kernel
theorem dX8_lies_65 : decode cX8_lies 65 = .ok (.iload 4, 2) := by decide +kernel
theorem dX8_lies_67 : decode cX8_lies 67 = .ok (.istore 8, 2) := by decide +kernel
theorem dX8_lies_69 : decode cX8_lies 69 = .ok (.iconst 0, 1) := by decide +kernel
theorem dX8_lies_70 : decode cX8_lies 70 = .ok (.istore 9, 2) := by decide +kernel
theorem dX8_lies_72 : decode cX8_lies 72 = .ok (.iload 9, 2) := by decide +kernel
theorem dX8_lies_74 : decode cX8_lies 74 = .ok (.iload 4, 2) := by decide +kernel
theorem dX8_lies_76 : decode cX8_lies 76 = .ok (.if_icmp .gt 65, 3) := by decide +kernel
theorem dX8_lies_79 : decode cX8_lies 79 = .ok (.iload 9, 2) := by decide +kernel
theorem dX8_lies_81 : decode cX8_lies 81 = .ok (.iload 4, 2) := by decide +kernel
theorem dX8_lies_83 : decode cX8_lies 83 = .ok (.iconst (-1), 1) := by decide +kernel
theorem dX8_lies_84 : decode cX8_lies 84 = .ok (.ixor, 1) := by decide +kernel
theorem dX8_lies_85 : decode cX8_lies 85 = .ok (.iand, 1) := by decide +kernel
theorem dX8_lies_86 : decode cX8_lies 86 = .ok (.ifCond .ne 49, 3) := by decide +kernel
theorem dX8_lies_89 : decode cX8_lies 89 = .ok (.iload 5, 2) := by decide +kernel
theorem dX8_lies_91 : decode cX8_lies 91 = .ok (.iconst 2, 1) := by decide +kernel
theorem dX8_lies_92 : decode cX8_lies 92 = .ok (.aload_n 0, 1) := by decide +kernel
theorem dX8_lies_93 : decode cX8_lies 93 = .ok (.getfield 29, 3) := by decide +kernel
theorem dX8_lies_96 : decode cX8_lies 96 = .ok (.aload_n 0, 1) := by decide +kernel
theorem dX8_lies_97 : decode cX8_lies 97 = .ok (.getfield 19, 3) := by decide +kernel
theorem dX8_lies_100 : decode cX8_lies 100 = .ok (.iload 9, 2) := by decide +kernel
theorem dX8_lies_102 : decode cX8_lies 102 = .ok (.invokevirtual 242, 3) := by decide +kernel
theorem dX8_lies_105 : decode cX8_lies 105 = .ok (.imul, 1) := by decide +kernel
theorem dX8_lies_106 : decode cX8_lies 106 = .ok (.isub, 1) := by decide +kernel
theorem dX8_lies_107 : decode cX8_lies 107 = .ok (.iload_n 2, 1) := by decide +kernel
theorem dX8_lies_108 : decode cX8_lies 108 = .ok (.if_icmp .ne 27, 3) := by decide +kernel
theorem dX8_lies_111 : decode cX8_lies 111 = .ok (.iload 6, 2) := by decide +kernel
theorem dX8_lies_113 : decode cX8_lies 113 = .ok (.ifCond .ne 8, 3) := by decide +kernel
theorem dX8_lies_116 : decode cX8_lies 116 = .ok (.iload 9, 2) := by decide +kernel
theorem dX8_lies_118 : decode cX8_lies 118 = .ok (.goto 5, 3) := by decide +kernel
theorem dX8_lies_121 : decode cX8_lies 121 = .ok (.iload 7, 2) := by decide +kernel
theorem dX8_lies_123 : decode cX8_lies 123 = .ok (.istore 7, 2) := by decide +kernel
theorem dX8_lies_125 : decode cX8_lies 125 = .ok (.iload 8, 2) := by decide +kernel
theorem dX8_lies_127 : decode cX8_lies 127 = .ok (.iload 9, 2) := by decide +kernel
theorem dX8_lies_129 : decode cX8_lies 129 = .ok (.iand, 1) := by decide +kernel
theorem dX8_lies_130 : decode cX8_lies 130 = .ok (.istore 8, 2) := by decide +kernel
theorem dX8_lies_132 : decode cX8_lies 132 = .ok (.iinc 6 1, 3) := by decide +kernel
theorem dX8_lies_135 : decode cX8_lies 135 = .ok (.iinc 9 1, 3) := by decide +kernel
theorem dX8_lies_138 : decode cX8_lies 138 = .ok (.goto (-66), 3) := by decide +kernel
theorem dX8_lies_141 : decode cX8_lies 141 = .ok (.iload_n 3, 1) := by decide +kernel
theorem dX8_lies_142 : decode cX8_lies 142 = .ok (.ifCond .ne 6, 3) := by decide +kernel
theorem dX8_lies_145 : decode cX8_lies 145 = .ok (.iload 6, 2) := by decide +kernel
theorem dX8_lies_147 : decode cX8_lies 147 = .ok (.ireturn, 1) := by decide +kernel
theorem dX8_lies_148 : decode cX8_lies 148 = .ok (.iload_n 3, 1) := by decide +kernel
theorem dX8_lies_149 : decode cX8_lies 149 = .ok (.iconst 1, 1) := by decide +kernel
theorem dX8_lies_150 : decode cX8_lies 150 = .ok (.if_icmp .ne 6, 3) := by decide +kernel
theorem dX8_lies_153 : decode cX8_lies 153 = .ok (.iload 7, 2) := by decide +kernel
theorem dX8_lies_155 : decode cX8_lies 155 = .ok (.ireturn, 1) := by decide +kernel
theorem dX8_lies_156 : decode cX8_lies 156 = .ok (.iload 6, 2) := by decide +kernel
theorem dX8_lies_158 : decode cX8_lies 158 = .ok (.ifCond .ne 7, 3) := by decide +kernel
theorem dX8_lies_161 : decode cX8_lies 161 = .ok (.iconst 0, 1) := by decide +kernel
theorem dX8_lies_162 : decode cX8_lies 162 = .ok (.goto 5, 3) := by decide +kernel
theorem dX8_lies_165 : decode cX8_lies 165 = .ok (.iload 8, 2) := by decide +kernel
theorem dX8_lies_167 : decode cX8_lies 167 = .ok (.ireturn, 1) := by decide +kernel
theorem dX8_canWeigh_0 : decode cX8_canWeigh 0 = .ok (.iload_n 0, 1) := by decide +kernel
theorem dX8_canWeigh_1 : decode cX8_canWeigh 1 = .ok (.sipush (-999), 3) := by decide +kernel
theorem dX8_canWeigh_4 : decode cX8_canWeigh 4 = .ok (.if_icmp .lt 14, 3) := by decide +kernel
theorem dX8_canWeigh_7 : decode cX8_canWeigh 7 = .ok (.iload_n 0, 1) := by decide +kernel
theorem dX8_canWeigh_8 : decode cX8_canWeigh 8 = .ok (.sipush 999, 3) := by decide +kernel
theorem dX8_canWeigh_11 : decode cX8_canWeigh 11 = .ok (.if_icmp .gt 7, 3) := by decide +kernel
theorem dX8_canWeigh_14 : decode cX8_canWeigh 14 = .ok (.iconst 1, 1) := by decide +kernel
theorem dX8_canWeigh_15 : decode cX8_canWeigh 15 = .ok (.goto 4, 3) := by decide +kernel
theorem dX8_canWeigh_18 : decode cX8_canWeigh 18 = .ok (.iconst 0, 1) := by decide +kernel
theorem dX8_canWeigh_19 : decode cX8_canWeigh 19 = .ok (.ireturn, 1) := by decide +kernel
theorem dX8_apart_0 : decode cX8_apart 0 = .ok (.aload_n 0, 1) := by decide +kernel
theorem dX8_apart_1 : decode cX8_apart 1 = .ok (.getfield 19, 3) := by decide +kernel
theorem dX8_apart_4 : decode cX8_apart 4 = .ok (.iload_n 1, 1) := by decide +kernel
theorem dX8_apart_5 : decode cX8_apart 5 = .ok (.invokevirtual 125, 3) := by decide +kernel
theorem dX8_apart_8 : decode cX8_apart 8 = .ok (.ifCond .eq 14, 3) := by decide +kernel
theorem dX8_apart_11 : decode cX8_apart 11 = .ok (.aload_n 0, 1) := by decide +kernel
theorem dX8_apart_12 : decode cX8_apart 12 = .ok (.getfield 19, 3) := by decide +kernel
theorem dX8_apart_15 : decode cX8_apart 15 = .ok (.iload_n 2, 1) := by decide +kernel
theorem dX8_apart_16 : decode cX8_apart 16 = .ok (.invokevirtual 147, 3) := by decide +kernel
theorem dX8_apart_19 : decode cX8_apart 19 = .ok (.ifCond .ne 6, 3) := by decide +kernel
theorem dX8_apart_22 : decode cX8_apart 22 = .ok (.ldc 129, 2) := by decide +kernel
theorem dX8_apart_24 : decode cX8_apart 24 = .ok (.ireturn, 1) := by decide +kernel
theorem dX8_apart_25 : decode cX8_apart 25 = .ok (.iload_n 3, 1) := by decide +kernel
theorem dX8_apart_26 : decode cX8_apart 26 = .ok (.ifCond .lt 8, 3) := by decide +kernel
theorem dX8_apart_29 : decode cX8_apart 29 = .ok (.iload_n 3, 1) := by decide +kernel
theorem dX8_apart_30 : decode cX8_apart 30 = .ok (.iconst 1, 1) := by decide +kernel
theorem dX8_apart_31 : decode cX8_apart 31 = .ok (.if_icmp .le 6, 3) := by decide +kernel
theorem dX8_apart_34 : decode cX8_apart 34 = .ok (.ldc 75, 2) := by decide +kernel
theorem dX8_apart_36 : decode cX8_apart 36 = .ok (.ireturn, 1) := by decide +kernel
theorem dX8_apart_37 : decode cX8_apart 37 = .ok (.aload_n 0, 1) := by decide +kernel
theorem dX8_apart_38 : decode cX8_apart 38 = .ok (.getfield 29, 3) := by decide +kernel
theorem dX8_apart_41 : decode cX8_apart 41 = .ok (.iload_n 2, 1) := by decide +kernel
theorem dX8_apart_42 : decode cX8_apart 42 = .ok (.iload_n 1, 1) := by decide +kernel
theorem dX8_apart_43 : decode cX8_apart 43 = .ok (.invokevirtual 162, 3) := by decide +kernel
theorem dX8_apart_46 : decode cX8_apart 46 = .ok (.ifCond .eq 6, 3) := by decide +kernel
theorem dX8_apart_49 : decode cX8_apart 49 = .ok (.ldc 179, 2) := by decide +kernel
theorem dX8_apart_51 : decode cX8_apart 51 = .ok (.ireturn, 1) := by decide +kernel
theorem dX8_apart_52 : decode cX8_apart 52 = .ok (.aload_n 0, 1) := by decide +kernel
theorem dX8_apart_53 : decode cX8_apart 53 = .ok (.aload_n 0, 1) := by decide +kernel
theorem dX8_apart_54 : decode cX8_apart 54 = .ok (.getfield 29, 3) := by decide +kernel
theorem dX8_apart_57 : decode cX8_apart 57 = .ok (.getfield 140, 3) := by decide +kernel
theorem dX8_apart_60 : decode cX8_apart 60 = .ok (.iload_n 1, 1) := by decide +kernel
theorem dX8_apart_61 : decode cX8_apart 61 = .ok (.iaload, 1) := by decide +kernel
theorem dX8_apart_62 : decode cX8_apart 62 = .ok (.iload_n 2, 1) := by decide +kernel
theorem dX8_apart_63 : decode cX8_apart 63 = .ok (.invokevirtual 245, 3) := by decide +kernel
theorem dX8_apart_66 : decode cX8_apart 66 = .ok (.istore 4, 2) := by decide +kernel
theorem dX8_apart_68 : decode cX8_apart 68 = .ok (.iload_n 3, 1) := by decide +kernel
theorem dX8_apart_69 : decode cX8_apart 69 = .ok (.ifCond .ne 11, 3) := by decide +kernel
theorem dX8_apart_72 : decode cX8_apart 72 = .ok (.iload 4, 2) := by decide +kernel
theorem dX8_apart_74 : decode cX8_apart 74 = .ok (.invokestatic 248, 3) := by decide +kernel
theorem dX8_apart_77 : decode cX8_apart 77 = .ok (.goto 5, 3) := by decide +kernel
theorem dX8_apart_80 : decode cX8_apart 80 = .ok (.iload 4, 2) := by decide +kernel
theorem dX8_apart_82 : decode cX8_apart 82 = .ok (.ireturn, 1) := by decide +kernel
theorem dX8_fewestToBreak_0 : decode cX8_fewestToBreak 0 = .ok (.iconst 1, 1) := by decide +kernel
theorem dX8_fewestToBreak_1 : decode cX8_fewestToBreak 1 = .ok (.aload_n 0, 1) := by decide +kernel
theorem dX8_fewestToBreak_2 : decode cX8_fewestToBreak 2 = .ok (.getfield 19, 3) := by decide +kernel
theorem dX8_fewestToBreak_5 : decode cX8_fewestToBreak 5 = .ok (.getfield 107, 3) := by decide +kernel
theorem dX8_fewestToBreak_8 : decode cX8_fewestToBreak 8 = .ok (.ishl, 1) := by decide +kernel
theorem dX8_fewestToBreak_9 : decode cX8_fewestToBreak 9 = .ok (.iconst 1, 1) := by decide +kernel
theorem dX8_fewestToBreak_10 : decode cX8_fewestToBreak 10 = .ok (.isub, 1) := by decide +kernel
theorem dX8_fewestToBreak_11 : decode cX8_fewestToBreak 11 = .ok (.istore_n 3, 1) := by decide +kernel
theorem dX8_fewestToBreak_12 : decode cX8_fewestToBreak 12 = .ok (.iconst 0, 1) := by decide +kernel
theorem dX8_fewestToBreak_13 : decode cX8_fewestToBreak 13 = .ok (.istore 4, 2) := by decide +kernel
theorem dX8_fewestToBreak_15 : decode cX8_fewestToBreak 15 = .ok (.iload 4, 2) := by decide +kernel
theorem dX8_fewestToBreak_17 : decode cX8_fewestToBreak 17 = .ok (.iconst 1, 1) := by decide +kernel
theorem dX8_fewestToBreak_18 : decode cX8_fewestToBreak 18 = .ok (.aload_n 0, 1) := by decide +kernel
theorem dX8_fewestToBreak_19 : decode cX8_fewestToBreak 19 = .ok (.getfield 19, 3) := by decide +kernel
theorem dX8_fewestToBreak_22 : decode cX8_fewestToBreak 22 = .ok (.getfield 98, 3) := by decide +kernel
theorem dX8_fewestToBreak_25 : decode cX8_fewestToBreak 25 = .ok (.ishl, 1) := by decide +kernel
theorem dX8_fewestToBreak_26 : decode cX8_fewestToBreak 26 = .ok (.if_icmp .ge 69, 3) := by decide +kernel
theorem dX8_fewestToBreak_29 : decode cX8_fewestToBreak 29 = .ok (.iload_n 1, 1) := by decide +kernel
theorem dX8_fewestToBreak_30 : decode cX8_fewestToBreak 30 = .ok (.iload 4, 2) := by decide +kernel
theorem dX8_fewestToBreak_32 : decode cX8_fewestToBreak 32 = .ok (.iconst (-1), 1) := by decide +kernel
theorem dX8_fewestToBreak_33 : decode cX8_fewestToBreak 33 = .ok (.ixor, 1) := by decide +kernel
theorem dX8_fewestToBreak_34 : decode cX8_fewestToBreak 34 = .ok (.iand, 1) := by decide +kernel
theorem dX8_fewestToBreak_35 : decode cX8_fewestToBreak 35 = .ok (.ifCond .ne 54, 3) := by decide +kernel
theorem dX8_fewestToBreak_38 : decode cX8_fewestToBreak 38 = .ok (.iload 4, 2) := by decide +kernel
theorem dX8_fewestToBreak_40 : decode cX8_fewestToBreak 40 = .ok (.iload_n 2, 1) := by decide +kernel
theorem dX8_fewestToBreak_41 : decode cX8_fewestToBreak 41 = .ok (.ishr, 1) := by decide +kernel
theorem dX8_fewestToBreak_42 : decode cX8_fewestToBreak 42 = .ok (.iconst 1, 1) := by decide +kernel
theorem dX8_fewestToBreak_43 : decode cX8_fewestToBreak 43 = .ok (.iand, 1) := by decide +kernel
theorem dX8_fewestToBreak_44 : decode cX8_fewestToBreak 44 = .ok (.ifCond .ne 45, 3) := by decide +kernel
theorem dX8_fewestToBreak_47 : decode cX8_fewestToBreak 47 = .ok (.aload_n 0, 1) := by decide +kernel
theorem dX8_fewestToBreak_48 : decode cX8_fewestToBreak 48 = .ok (.getfield 19, 3) := by decide +kernel
theorem dX8_fewestToBreak_51 : decode cX8_fewestToBreak 51 = .ok (.iload 4, 2) := by decide +kernel
theorem dX8_fewestToBreak_53 : decode cX8_fewestToBreak 53 = .ok (.invokevirtual 253, 3) := by decide +kernel
theorem dX8_fewestToBreak_56 : decode cX8_fewestToBreak 56 = .ok (.istore 5, 2) := by decide +kernel
theorem dX8_fewestToBreak_58 : decode cX8_fewestToBreak 58 = .ok (.iload 5, 2) := by decide +kernel
theorem dX8_fewestToBreak_60 : decode cX8_fewestToBreak 60 = .ok (.invokestatic 248, 3) := by decide +kernel
theorem dX8_fewestToBreak_63 : decode cX8_fewestToBreak 63 = .ok (.iload_n 3, 1) := by decide +kernel
theorem dX8_fewestToBreak_64 : decode cX8_fewestToBreak 64 = .ok (.invokestatic 248, 3) := by decide +kernel
theorem dX8_fewestToBreak_67 : decode cX8_fewestToBreak 67 = .ok (.isub, 1) := by decide +kernel
theorem dX8_fewestToBreak_68 : decode cX8_fewestToBreak 68 = .ok (.istore 6, 2) := by decide +kernel
theorem dX8_fewestToBreak_70 : decode cX8_fewestToBreak 70 = .ok (.iload 6, 2) := by decide +kernel
theorem dX8_fewestToBreak_72 : decode cX8_fewestToBreak 72 = .ok (.ifCond .lt 14, 3) := by decide +kernel
theorem dX8_fewestToBreak_75 : decode cX8_fewestToBreak 75 = .ok (.iload 6, 2) := by decide +kernel
theorem dX8_fewestToBreak_77 : decode cX8_fewestToBreak 77 = .ok (.ifCond .ne 12, 3) := by decide +kernel
theorem dX8_fewestToBreak_80 : decode cX8_fewestToBreak 80 = .ok (.iload 5, 2) := by decide +kernel
theorem dX8_fewestToBreak_82 : decode cX8_fewestToBreak 82 = .ok (.iload_n 3, 1) := by decide +kernel
theorem dX8_fewestToBreak_83 : decode cX8_fewestToBreak 83 = .ok (.if_icmp .ge 6, 3) := by decide +kernel
theorem dX8_fewestToBreak_86 : decode cX8_fewestToBreak 86 = .ok (.iload 5, 2) := by decide +kernel
theorem dX8_fewestToBreak_88 : decode cX8_fewestToBreak 88 = .ok (.istore_n 3, 1) := by decide +kernel
theorem dX8_fewestToBreak_89 : decode cX8_fewestToBreak 89 = .ok (.iinc 4 1, 3) := by decide +kernel
theorem dX8_fewestToBreak_92 : decode cX8_fewestToBreak 92 = .ok (.goto (-77), 3) := by decide +kernel
theorem dX8_fewestToBreak_95 : decode cX8_fewestToBreak 95 = .ok (.iload_n 3, 1) := by decide +kernel
theorem dX8_fewestToBreak_96 : decode cX8_fewestToBreak 96 = .ok (.ireturn, 1) := by decide +kernel
theorem dX8_treaty_0 : decode cX8_treaty 0 = .ok (.aload_n 0, 1) := by decide +kernel
theorem dX8_treaty_1 : decode cX8_treaty 1 = .ok (.getfield 19, 3) := by decide +kernel
theorem dX8_treaty_4 : decode cX8_treaty 4 = .ok (.iload_n 1, 1) := by decide +kernel
theorem dX8_treaty_5 : decode cX8_treaty 5 = .ok (.invokevirtual 147, 3) := by decide +kernel
theorem dX8_treaty_8 : decode cX8_treaty 8 = .ok (.ifCond .eq 19, 3) := by decide +kernel
theorem dX8_treaty_11 : decode cX8_treaty 11 = .ok (.aload_n 0, 1) := by decide +kernel
theorem dX8_treaty_12 : decode cX8_treaty 12 = .ok (.getfield 19, 3) := by decide +kernel
theorem dX8_treaty_15 : decode cX8_treaty 15 = .ok (.iload_n 2, 1) := by decide +kernel
theorem dX8_treaty_16 : decode cX8_treaty 16 = .ok (.invokevirtual 147, 3) := by decide +kernel
theorem dX8_treaty_19 : decode cX8_treaty 19 = .ok (.ifCond .eq 8, 3) := by decide +kernel
theorem dX8_treaty_22 : decode cX8_treaty 22 = .ok (.iload_n 1, 1) := by decide +kernel
theorem dX8_treaty_23 : decode cX8_treaty 23 = .ok (.iload_n 2, 1) := by decide +kernel
theorem dX8_treaty_24 : decode cX8_treaty 24 = .ok (.if_icmp .ne 6, 3) := by decide +kernel
theorem dX8_treaty_27 : decode cX8_treaty 27 = .ok (.ldc 129, 2) := by decide +kernel
theorem dX8_treaty_29 : decode cX8_treaty 29 = .ok (.ireturn, 1) := by decide +kernel
theorem dX8_treaty_30 : decode cX8_treaty 30 = .ok (.iload_n 3, 1) := by decide +kernel
theorem dX8_treaty_31 : decode cX8_treaty 31 = .ok (.ifCond .lt 8, 3) := by decide +kernel
theorem dX8_treaty_34 : decode cX8_treaty 34 = .ok (.iload_n 3, 1) := by decide +kernel
theorem dX8_treaty_35 : decode cX8_treaty 35 = .ok (.iconst 2, 1) := by decide +kernel
theorem dX8_treaty_36 : decode cX8_treaty 36 = .ok (.if_icmp .le 6, 3) := by decide +kernel
theorem dX8_treaty_39 : decode cX8_treaty 39 = .ok (.ldc 75, 2) := by decide +kernel
theorem dX8_treaty_41 : decode cX8_treaty 41 = .ok (.ireturn, 1) := by decide +kernel
theorem dX8_treaty_42 : decode cX8_treaty 42 = .ok (.aload_n 0, 1) := by decide +kernel
theorem dX8_treaty_43 : decode cX8_treaty 43 = .ok (.getfield 71, 3) := by decide +kernel
theorem dX8_treaty_46 : decode cX8_treaty 46 = .ok (.aload_n 0, 1) := by decide +kernel
theorem dX8_treaty_47 : decode cX8_treaty 47 = .ok (.getfield 19, 3) := by decide +kernel
theorem dX8_treaty_50 : decode cX8_treaty 50 = .ok (.aload_n 0, 1) := by decide +kernel
theorem dX8_treaty_51 : decode cX8_treaty 51 = .ok (.iload_n 1, 1) := by decide +kernel
theorem dX8_treaty_52 : decode cX8_treaty 52 = .ok (.iload_n 2, 1) := by decide +kernel
theorem dX8_treaty_53 : decode cX8_treaty 53 = .ok (.invokevirtual 256, 3) := by decide +kernel
theorem dX8_treaty_56 : decode cX8_treaty 56 = .ok (.aload_n 0, 1) := by decide +kernel
theorem dX8_treaty_57 : decode cX8_treaty 57 = .ok (.iload_n 2, 1) := by decide +kernel
theorem dX8_treaty_58 : decode cX8_treaty 58 = .ok (.iload_n 1, 1) := by decide +kernel
theorem dX8_treaty_59 : decode cX8_treaty 59 = .ok (.invokevirtual 256, 3) := by decide +kernel
theorem dX8_treaty_62 : decode cX8_treaty 62 = .ok (.invokevirtual 259, 3) := by decide +kernel
theorem dX8_treaty_65 : decode cX8_treaty 65 = .ok (.istore 4, 2) := by decide +kernel
theorem dX8_treaty_67 : decode cX8_treaty 67 = .ok (.iload_n 3, 1) := by decide +kernel
theorem dX8_treaty_68 : decode cX8_treaty 68 = .ok (.lookupswitch 50 #[(1, 28), (2, 39)], 28) := by decide +kernel
theorem dX8_treaty_96 : decode cX8_treaty 96 = .ok (.aload_n 0, 1) := by decide +kernel
theorem dX8_treaty_97 : decode cX8_treaty 97 = .ok (.getfield 71, 3) := by decide +kernel
theorem dX8_treaty_100 : decode cX8_treaty 100 = .ok (.getfield 262, 3) := by decide +kernel
theorem dX8_treaty_103 : decode cX8_treaty 103 = .ok (.iload 4, 2) := by decide +kernel
theorem dX8_treaty_105 : decode cX8_treaty 105 = .ok (.iaload, 1) := by decide +kernel
theorem dX8_treaty_106 : decode cX8_treaty 106 = .ok (.ireturn, 1) := by decide +kernel
theorem dX8_treaty_107 : decode cX8_treaty 107 = .ok (.aload_n 0, 1) := by decide +kernel
theorem dX8_treaty_108 : decode cX8_treaty 108 = .ok (.getfield 71, 3) := by decide +kernel
theorem dX8_treaty_111 : decode cX8_treaty 111 = .ok (.getfield 265, 3) := by decide +kernel
theorem dX8_treaty_114 : decode cX8_treaty 114 = .ok (.iload 4, 2) := by decide +kernel
theorem dX8_treaty_116 : decode cX8_treaty 116 = .ok (.iaload, 1) := by decide +kernel
theorem dX8_treaty_117 : decode cX8_treaty 117 = .ok (.ireturn, 1) := by decide +kernel
theorem dX8_treaty_118 : decode cX8_treaty 118 = .ok (.iload 4, 2) := by decide +kernel
theorem dX8_treaty_120 : decode cX8_treaty 120 = .ok (.ireturn, 1) := by decide +kernel
theorem dX8_factsToForget_0 : decode cX8_factsToForget 0 = .ok (.aload_n 0, 1) := by decide +kernel
theorem dX8_factsToForget_1 : decode cX8_factsToForget 1 = .ok (.getfield 19, 3) := by decide +kernel
theorem dX8_factsToForget_4 : decode cX8_factsToForget 4 = .ok (.getfield 153, 3) := by decide +kernel
theorem dX8_factsToForget_7 : decode cX8_factsToForget 7 = .ok (.iload_n 2, 1) := by decide +kernel
theorem dX8_factsToForget_8 : decode cX8_factsToForget 8 = .ok (.iaload, 1) := by decide +kernel
theorem dX8_factsToForget_9 : decode cX8_factsToForget 9 = .ok (.aload_n 0, 1) := by decide +kernel
theorem dX8_factsToForget_10 : decode cX8_factsToForget 10 = .ok (.getfield 29, 3) := by decide +kernel
theorem dX8_factsToForget_13 : decode cX8_factsToForget 13 = .ok (.iload_n 1, 1) := by decide +kernel
theorem dX8_factsToForget_14 : decode cX8_factsToForget 14 = .ok (.invokevirtual 156, 3) := by decide +kernel
theorem dX8_factsToForget_17 : decode cX8_factsToForget 17 = .ok (.iand, 1) := by decide +kernel
theorem dX8_factsToForget_18 : decode cX8_factsToForget 18 = .ok (.aload_n 0, 1) := by decide +kernel
theorem dX8_factsToForget_19 : decode cX8_factsToForget 19 = .ok (.getfield 19, 3) := by decide +kernel
theorem dX8_factsToForget_22 : decode cX8_factsToForget 22 = .ok (.getfield 268, 3) := by decide +kernel
theorem dX8_factsToForget_25 : decode cX8_factsToForget 25 = .ok (.iconst (-1), 1) := by decide +kernel
theorem dX8_factsToForget_26 : decode cX8_factsToForget 26 = .ok (.ixor, 1) := by decide +kernel
theorem dX8_factsToForget_27 : decode cX8_factsToForget 27 = .ok (.iand, 1) := by decide +kernel
theorem dX8_factsToForget_28 : decode cX8_factsToForget 28 = .ok (.ireturn, 1) := by decide +kernel
theorem dX8_odds_0 : decode cX8_odds 0 = .ok (.aload_n 0, 1) := by decide +kernel
theorem dX8_odds_1 : decode cX8_odds 1 = .ok (.getfield 19, 3) := by decide +kernel
theorem dX8_odds_4 : decode cX8_odds 4 = .ok (.iload_n 1, 1) := by decide +kernel
theorem dX8_odds_5 : decode cX8_odds 5 = .ok (.invokevirtual 147, 3) := by decide +kernel
theorem dX8_odds_8 : decode cX8_odds 8 = .ok (.ifCond .eq 14, 3) := by decide +kernel
theorem dX8_odds_11 : decode cX8_odds 11 = .ok (.aload_n 0, 1) := by decide +kernel
theorem dX8_odds_12 : decode cX8_odds 12 = .ok (.getfield 19, 3) := by decide +kernel
theorem dX8_odds_15 : decode cX8_odds 15 = .ok (.iload_n 2, 1) := by decide +kernel
theorem dX8_odds_16 : decode cX8_odds 16 = .ok (.invokevirtual 173, 3) := by decide +kernel
theorem dX8_odds_19 : decode cX8_odds 19 = .ok (.ifCond .ne 6, 3) := by decide +kernel
theorem dX8_odds_22 : decode cX8_odds 22 = .ok (.ldc 129, 2) := by decide +kernel
theorem dX8_odds_24 : decode cX8_odds 24 = .ok (.ireturn, 1) := by decide +kernel
theorem dX8_odds_25 : decode cX8_odds 25 = .ok (.iload_n 3, 1) := by decide +kernel
theorem dX8_odds_26 : decode cX8_odds 26 = .ok (.ifCond .lt 9, 3) := by decide +kernel
theorem dX8_odds_29 : decode cX8_odds 29 = .ok (.iload_n 3, 1) := by decide +kernel
theorem dX8_odds_30 : decode cX8_odds 30 = .ok (.bipush 100, 2) := by decide +kernel
theorem dX8_odds_32 : decode cX8_odds 32 = .ok (.if_icmp .le 6, 3) := by decide +kernel
theorem dX8_odds_35 : decode cX8_odds 35 = .ok (.ldc 75, 2) := by decide +kernel
theorem dX8_odds_37 : decode cX8_odds 37 = .ok (.ireturn, 1) := by decide +kernel
theorem dX8_odds_38 : decode cX8_odds 38 = .ok (.aload_n 0, 1) := by decide +kernel
theorem dX8_odds_39 : decode cX8_odds 39 = .ok (.getfield 64, 3) := by decide +kernel
theorem dX8_odds_42 : decode cX8_odds 42 = .ok (.aload_n 0, 1) := by decide +kernel
theorem dX8_odds_43 : decode cX8_odds 43 = .ok (.getfield 19, 3) := by decide +kernel
theorem dX8_odds_46 : decode cX8_odds 46 = .ok (.aload_n 0, 1) := by decide +kernel
theorem dX8_odds_47 : decode cX8_odds 47 = .ok (.getfield 29, 3) := by decide +kernel
theorem dX8_odds_50 : decode cX8_odds 50 = .ok (.iload_n 1, 1) := by decide +kernel
theorem dX8_odds_51 : decode cX8_odds 51 = .ok (.iload_n 3, 1) := by decide +kernel
theorem dX8_odds_52 : decode cX8_odds 52 = .ok (.invokevirtual 271, 3) := by decide +kernel
theorem dX8_odds_55 : decode cX8_odds 55 = .ok (.aload_n 0, 1) := by decide +kernel
theorem dX8_odds_56 : decode cX8_odds 56 = .ok (.getfield 64, 3) := by decide +kernel
theorem dX8_odds_59 : decode cX8_odds 59 = .ok (.aload_n 0, 1) := by decide +kernel
theorem dX8_odds_60 : decode cX8_odds 60 = .ok (.getfield 19, 3) := by decide +kernel
theorem dX8_odds_63 : decode cX8_odds 63 = .ok (.getfield 176, 3) := by decide +kernel
theorem dX8_odds_66 : decode cX8_odds 66 = .ok (.iload_n 2, 1) := by decide +kernel
theorem dX8_odds_67 : decode cX8_odds 67 = .ok (.iaload, 1) := by decide +kernel
theorem dX8_odds_68 : decode cX8_odds 68 = .ok (.invokevirtual 273, 3) := by decide +kernel
theorem dX8_odds_71 : decode cX8_odds 71 = .ok (.ireturn, 1) := by decide +kernel
theorem dX8_write_0 : decode cX8_write 0 = .ok (.aload_n 0, 1) := by decide +kernel
theorem dX8_write_1 : decode cX8_write 1 = .ok (.getfield 19, 3) := by decide +kernel
theorem dX8_write_4 : decode cX8_write 4 = .ok (.iload_n 1, 1) := by decide +kernel
theorem dX8_write_5 : decode cX8_write 5 = .ok (.invokevirtual 147, 3) := by decide +kernel
theorem dX8_write_8 : decode cX8_write 8 = .ok (.ifCond .ne 6, 3) := by decide +kernel
theorem dX8_write_11 : decode cX8_write 11 = .ok (.ldc 129, 2) := by decide +kernel
theorem dX8_write_13 : decode cX8_write 13 = .ok (.ireturn, 1) := by decide +kernel
theorem dX8_write_14 : decode cX8_write 14 = .ok (.iload_n 2, 1) := by decide +kernel
theorem dX8_write_15 : decode cX8_write 15 = .ok (.invokestatic 225, 3) := by decide +kernel
theorem dX8_write_18 : decode cX8_write 18 = .ok (.ifCond .ne 6, 3) := by decide +kernel
theorem dX8_write_21 : decode cX8_write 21 = .ok (.ldc 75, 2) := by decide +kernel
theorem dX8_write_23 : decode cX8_write 23 = .ok (.ireturn, 1) := by decide +kernel
theorem dX8_write_24 : decode cX8_write 24 = .ok (.aload_n 0, 1) := by decide +kernel
theorem dX8_write_25 : decode cX8_write 25 = .ok (.getfield 43, 3) := by decide +kernel
theorem dX8_write_28 : decode cX8_write 28 = .ok (.iload_n 1, 1) := by decide +kernel
theorem dX8_write_29 : decode cX8_write 29 = .ok (.iload_n 2, 1) := by decide +kernel
theorem dX8_write_30 : decode cX8_write 30 = .ok (.invokevirtual 276, 3) := by decide +kernel
theorem dX8_write_33 : decode cX8_write 33 = .ok (.ireturn, 1) := by decide +kernel
theorem dX8_tear_0 : decode cX8_tear 0 = .ok (.aload_n 0, 1) := by decide +kernel
theorem dX8_tear_1 : decode cX8_tear 1 = .ok (.getfield 43, 3) := by decide +kernel
theorem dX8_tear_4 : decode cX8_tear 4 = .ok (.getfield 92, 3) := by decide +kernel
theorem dX8_tear_7 : decode cX8_tear 7 = .ok (.istore_n 1, 1) := by decide +kernel
theorem dX8_tear_8 : decode cX8_tear 8 = .ok (.aload_n 0, 1) := by decide +kernel
theorem dX8_tear_9 : decode cX8_tear 9 = .ok (.getfield 43, 3) := by decide +kernel
theorem dX8_tear_12 : decode cX8_tear 12 = .ok (.iconst 0, 1) := by decide +kernel
theorem dX8_tear_13 : decode cX8_tear 13 = .ok (.putfield 92, 3) := by decide +kernel
theorem dX8_tear_16 : decode cX8_tear 16 = .ok (.iload_n 1, 1) := by decide +kernel
theorem dX8_tear_17 : decode cX8_tear 17 = .ok (.ireturn, 1) := by decide +kernel
theorem dX8_judge_0 : decode cX8_judge 0 = .ok (.aload_n 0, 1) := by decide +kernel
theorem dX8_judge_1 : decode cX8_judge 1 = .ok (.getfield 43, 3) := by decide +kernel
theorem dX8_judge_4 : decode cX8_judge 4 = .ok (.aload_n 0, 1) := by decide +kernel
theorem dX8_judge_5 : decode cX8_judge 5 = .ok (.getfield 19, 3) := by decide +kernel
theorem dX8_judge_8 : decode cX8_judge 8 = .ok (.aload_n 0, 1) := by decide +kernel
theorem dX8_judge_9 : decode cX8_judge 9 = .ok (.getfield 29, 3) := by decide +kernel
theorem dX8_judge_12 : decode cX8_judge 12 = .ok (.invokevirtual 278, 3) := by decide +kernel
theorem dX8_judge_15 : decode cX8_judge 15 = .ok (.ireturn, 1) := by decide +kernel
theorem dX8_seed_0 : decode cX8_seed 0 = .ok (.iload_n 1, 1) := by decide +kernel
theorem dX8_seed_1 : decode cX8_seed 1 = .ok (.ifCond .ge 6, 3) := by decide +kernel
theorem dX8_seed_4 : decode cX8_seed 4 = .ok (.ldc 75, 2) := by decide +kernel
theorem dX8_seed_6 : decode cX8_seed 6 = .ok (.ireturn, 1) := by decide +kernel
theorem dX8_seed_7 : decode cX8_seed 7 = .ok (.aload_n 0, 1) := by decide +kernel
theorem dX8_seed_8 : decode cX8_seed 8 = .ok (.getfield 29, 3) := by decide +kernel
theorem dX8_seed_11 : decode cX8_seed 11 = .ok (.getfield 282, 3) := by decide +kernel
theorem dX8_seed_14 : decode cX8_seed 14 = .ok (.istore_n 2, 1) := by decide +kernel
theorem dX8_seed_15 : decode cX8_seed 15 = .ok (.aload_n 0, 1) := by decide +kernel
theorem dX8_seed_16 : decode cX8_seed 16 = .ok (.getfield 29, 3) := by decide +kernel
theorem dX8_seed_19 : decode cX8_seed 19 = .ok (.iload_n 1, 1) := by decide +kernel
theorem dX8_seed_20 : decode cX8_seed 20 = .ok (.putfield 282, 3) := by decide +kernel
theorem dX8_seed_23 : decode cX8_seed 23 = .ok (.iload_n 2, 1) := by decide +kernel
theorem dX8_seed_24 : decode cX8_seed 24 = .ok (.ireturn, 1) := by decide +kernel
theorem dX8_keep_0 : decode cX8_keep 0 = .ok (.iload_n 1, 1) := by decide +kernel
theorem dX8_keep_1 : decode cX8_keep 1 = .ok (.ifCond .lt 8, 3) := by decide +kernel
theorem dX8_keep_4 : decode cX8_keep 4 = .ok (.iload_n 1, 1) := by decide +kernel
theorem dX8_keep_5 : decode cX8_keep 5 = .ok (.iconst 2, 1) := by decide +kernel
theorem dX8_keep_6 : decode cX8_keep 6 = .ok (.if_icmp .lt 6, 3) := by decide +kernel
theorem dX8_keep_9 : decode cX8_keep 9 = .ok (.ldc 129, 2) := by decide +kernel
theorem dX8_keep_11 : decode cX8_keep 11 = .ok (.ireturn, 1) := by decide +kernel
theorem dX8_keep_12 : decode cX8_keep 12 = .ok (.aload_n 0, 1) := by decide +kernel
theorem dX8_keep_13 : decode cX8_keep 13 = .ok (.getfield 36, 3) := by decide +kernel
theorem dX8_keep_16 : decode cX8_keep 16 = .ok (.iload_n 1, 1) := by decide +kernel
theorem dX8_keep_17 : decode cX8_keep 17 = .ok (.aaload, 1) := by decide +kernel
theorem dX8_keep_18 : decode cX8_keep 18 = .ok (.aload_n 0, 1) := by decide +kernel
theorem dX8_keep_19 : decode cX8_keep 19 = .ok (.getfield 29, 3) := by decide +kernel
theorem dX8_keep_22 : decode cX8_keep 22 = .ok (.invokevirtual 198, 3) := by decide +kernel
theorem dX8_keep_25 : decode cX8_keep 25 = .ok (.aload_n 0, 1) := by decide +kernel
theorem dX8_keep_26 : decode cX8_keep 26 = .ok (.dup, 1) := by decide +kernel
theorem dX8_keep_27 : decode cX8_keep 27 = .ok (.getfield 95, 3) := by decide +kernel
theorem dX8_keep_30 : decode cX8_keep 30 = .ok (.iconst 1, 1) := by decide +kernel
theorem dX8_keep_31 : decode cX8_keep 31 = .ok (.iload_n 1, 1) := by decide +kernel
theorem dX8_keep_32 : decode cX8_keep 32 = .ok (.ishl, 1) := by decide +kernel
theorem dX8_keep_33 : decode cX8_keep 33 = .ok (.ior, 1) := by decide +kernel
theorem dX8_keep_34 : decode cX8_keep 34 = .ok (.putfield 95, 3) := by decide +kernel
theorem dX8_keep_37 : decode cX8_keep 37 = .ok (.iconst 1, 1) := by decide +kernel
theorem dX8_keep_38 : decode cX8_keep 38 = .ok (.ireturn, 1) := by decide +kernel
theorem dX8_goBack_0 : decode cX8_goBack 0 = .ok (.iload_n 1, 1) := by decide +kernel
theorem dX8_goBack_1 : decode cX8_goBack 1 = .ok (.ifCond .lt 8, 3) := by decide +kernel
theorem dX8_goBack_4 : decode cX8_goBack 4 = .ok (.iload_n 1, 1) := by decide +kernel
theorem dX8_goBack_5 : decode cX8_goBack 5 = .ok (.iconst 2, 1) := by decide +kernel
theorem dX8_goBack_6 : decode cX8_goBack 6 = .ok (.if_icmp .lt 6, 3) := by decide +kernel
theorem dX8_goBack_9 : decode cX8_goBack 9 = .ok (.ldc 129, 2) := by decide +kernel
theorem dX8_goBack_11 : decode cX8_goBack 11 = .ok (.ireturn, 1) := by decide +kernel
theorem dX8_goBack_12 : decode cX8_goBack 12 = .ok (.aload_n 0, 1) := by decide +kernel
theorem dX8_goBack_13 : decode cX8_goBack 13 = .ok (.getfield 95, 3) := by decide +kernel
theorem dX8_goBack_16 : decode cX8_goBack 16 = .ok (.iload_n 1, 1) := by decide +kernel
theorem dX8_goBack_17 : decode cX8_goBack 17 = .ok (.ishr, 1) := by decide +kernel
theorem dX8_goBack_18 : decode cX8_goBack 18 = .ok (.iconst 1, 1) := by decide +kernel
theorem dX8_goBack_19 : decode cX8_goBack 19 = .ok (.iand, 1) := by decide +kernel
theorem dX8_goBack_20 : decode cX8_goBack 20 = .ok (.ifCond .ne 6, 3) := by decide +kernel
theorem dX8_goBack_23 : decode cX8_goBack 23 = .ok (.ldc 179, 2) := by decide +kernel
theorem dX8_goBack_25 : decode cX8_goBack 25 = .ok (.ireturn, 1) := by decide +kernel
theorem dX8_goBack_26 : decode cX8_goBack 26 = .ok (.aload_n 0, 1) := by decide +kernel
theorem dX8_goBack_27 : decode cX8_goBack 27 = .ok (.getfield 29, 3) := by decide +kernel
theorem dX8_goBack_30 : decode cX8_goBack 30 = .ok (.aload_n 0, 1) := by decide +kernel
theorem dX8_goBack_31 : decode cX8_goBack 31 = .ok (.getfield 36, 3) := by decide +kernel
theorem dX8_goBack_34 : decode cX8_goBack 34 = .ok (.iload_n 1, 1) := by decide +kernel
theorem dX8_goBack_35 : decode cX8_goBack 35 = .ok (.aaload, 1) := by decide +kernel
theorem dX8_goBack_36 : decode cX8_goBack 36 = .ok (.invokevirtual 198, 3) := by decide +kernel
theorem dX8_goBack_39 : decode cX8_goBack 39 = .ok (.iconst 1, 1) := by decide +kernel
theorem dX8_goBack_40 : decode cX8_goBack 40 = .ok (.ireturn, 1) := by decide +kernel
theorem dX9_init_0 : decode cX9_init 0 = .ok (.aload_n 0, 1) := by decide +kernel
theorem dX9_init_1 : decode cX9_init 1 = .ok (.invokespecial 1, 3) := by decide +kernel
theorem dX9_init_4 : decode cX9_init 4 = .ok (.aload_n 0, 1) := by decide +kernel
theorem dX9_init_5 : decode cX9_init 5 = .ok (.sipush 250, 3) := by decide +kernel
theorem dX9_init_8 : decode cX9_init 8 = .ok (.newarray .int, 2) := by decide +kernel
theorem dX9_init_10 : decode cX9_init 10 = .ok (.putfield 7, 3) := by decide +kernel
theorem dX9_init_13 : decode cX9_init 13 = .ok (.aload_n 0, 1) := by decide +kernel
theorem dX9_init_14 : decode cX9_init 14 = .ok (.iconst (-1), 1) := by decide +kernel
theorem dX9_init_15 : decode cX9_init 15 = .ok (.putfield 13, 3) := by decide +kernel
theorem dX9_init_18 : decode cX9_init 18 = .ok (.aload_n 0, 1) := by decide +kernel
theorem dX9_init_19 : decode cX9_init 19 = .ok (.bipush 32, 2) := by decide +kernel
theorem dX9_init_21 : decode cX9_init 21 = .ok (.newarray .int, 2) := by decide +kernel
theorem dX9_init_23 : decode cX9_init 23 = .ok (.putfield 17, 3) := by decide +kernel
theorem dX9_init_26 : decode cX9_init 26 = .ok (.aload_n 0, 1) := by decide +kernel
theorem dX9_init_27 : decode cX9_init 27 = .ok (.bipush 24, 2) := by decide +kernel
theorem dX9_init_29 : decode cX9_init 29 = .ok (.newarray .int, 2) := by decide +kernel
theorem dX9_init_31 : decode cX9_init 31 = .ok (.putfield 20, 3) := by decide +kernel
theorem dX9_init_34 : decode cX9_init 34 = .ok (.aload_n 0, 1) := by decide +kernel
theorem dX9_init_35 : decode cX9_init 35 = .ok (.iconst 4, 1) := by decide +kernel
theorem dX9_init_36 : decode cX9_init 36 = .ok (.newarray .int, 2) := by decide +kernel
theorem dX9_init_38 : decode cX9_init 38 = .ok (.putfield 23, 3) := by decide +kernel
theorem dX9_init_41 : decode cX9_init 41 = .ok (.aload_n 0, 1) := by decide +kernel
theorem dX9_init_42 : decode cX9_init 42 = .ok (.bipush 32, 2) := by decide +kernel
theorem dX9_init_44 : decode cX9_init 44 = .ok (.newarray .int, 2) := by decide +kernel
theorem dX9_init_46 : decode cX9_init 46 = .ok (.putfield 26, 3) := by decide +kernel
theorem dX9_init_49 : decode cX9_init 49 = .ok (.aload_n 0, 1) := by decide +kernel
theorem dX9_init_50 : decode cX9_init 50 = .ok (.bipush 24, 2) := by decide +kernel
theorem dX9_init_52 : decode cX9_init 52 = .ok (.newarray .int, 2) := by decide +kernel
theorem dX9_init_54 : decode cX9_init 54 = .ok (.putfield 29, 3) := by decide +kernel
theorem dX9_init_57 : decode cX9_init 57 = .ok (.aload_n 0, 1) := by decide +kernel
theorem dX9_init_58 : decode cX9_init 58 = .ok (.iconst 4, 1) := by decide +kernel
theorem dX9_init_59 : decode cX9_init 59 = .ok (.newarray .int, 2) := by decide +kernel
theorem dX9_init_61 : decode cX9_init 61 = .ok (.putfield 32, 3) := by decide +kernel
theorem dX9_init_64 : decode cX9_init 64 = .ok (.aload_n 0, 1) := by decide +kernel
theorem dX9_init_65 : decode cX9_init 65 = .ok (.bipush 58, 2) := by decide +kernel
theorem dX9_init_67 : decode cX9_init 67 = .ok (.newarray .int, 2) := by decide +kernel
theorem dX9_init_69 : decode cX9_init 69 = .ok (.putfield 35, 3) := by decide +kernel
theorem dX9_init_72 : decode cX9_init 72 = .ok (.aload_n 0, 1) := by decide +kernel
theorem dX9_init_73 : decode cX9_init 73 = .ok (.bipush 58, 2) := by decide +kernel
theorem dX9_init_75 : decode cX9_init 75 = .ok (.newarray .int, 2) := by decide +kernel
theorem dX9_init_77 : decode cX9_init 77 = .ok (.putfield 38, 3) := by decide +kernel
theorem dX9_init_80 : decode cX9_init 80 = .ok (.aload_n 0, 1) := by decide +kernel
theorem dX9_init_81 : decode cX9_init 81 = .ok (.bipush 58, 2) := by decide +kernel
theorem dX9_init_83 : decode cX9_init 83 = .ok (.newarray .int, 2) := by decide +kernel
theorem dX9_init_85 : decode cX9_init 85 = .ok (.putfield 41, 3) := by decide +kernel
theorem dX9_init_88 : decode cX9_init 88 = .ok (.aload_n 0, 1) := by decide +kernel
theorem dX9_init_89 : decode cX9_init 89 = .ok (.bipush 116, 2) := by decide +kernel
theorem dX9_init_91 : decode cX9_init 91 = .ok (.newarray .int, 2) := by decide +kernel
theorem dX9_init_93 : decode cX9_init 93 = .ok (.putfield 44, 3) := by decide +kernel
theorem dX9_init_96 : decode cX9_init 96 = .ok (.aload_n 0, 1) := by decide +kernel
theorem dX9_init_97 : decode cX9_init 97 = .ok (.iconst 2, 1) := by decide +kernel
theorem dX9_init_98 : decode cX9_init 98 = .ok (.newarray .boolean, 2) := by decide +kernel
theorem dX9_init_100 : decode cX9_init 100 = .ok (.putfield 47, 3) := by decide +kernel
theorem dX9_init_103 : decode cX9_init 103 = .ok (.aload_n 0, 1) := by decide +kernel
theorem dX9_init_104 : decode cX9_init 104 = .ok (.bipush 30, 2) := by decide +kernel
theorem dX9_init_106 : decode cX9_init 106 = .ok (.newarray .int, 2) := by decide +kernel
theorem dX9_init_108 : decode cX9_init 108 = .ok (.putfield 51, 3) := by decide +kernel
theorem dX9_init_111 : decode cX9_init 111 = .ok (.aload_n 0, 1) := by decide +kernel
theorem dX9_init_112 : decode cX9_init 112 = .ok (.bipush 8, 2) := by decide +kernel
theorem dX9_init_114 : decode cX9_init 114 = .ok (.newarray .int, 2) := by decide +kernel
theorem dX9_init_116 : decode cX9_init 116 = .ok (.putfield 54, 3) := by decide +kernel
theorem dX9_init_119 : decode cX9_init 119 = .ok (.aload_n 0, 1) := by decide +kernel
theorem dX9_init_120 : decode cX9_init 120 = .ok (.sipush 128, 3) := by decide +kernel
theorem dX9_init_123 : decode cX9_init 123 = .ok (.newarray .int, 2) := by decide +kernel
theorem dX9_init_125 : decode cX9_init 125 = .ok (.putfield 57, 3) := by decide +kernel
theorem dX9_init_128 : decode cX9_init 128 = .ok (.aload_n 0, 1) := by decide +kernel
theorem dX9_init_129 : decode cX9_init 129 = .ok (.sipush 1200, 3) := by decide +kernel
theorem dX9_init_132 : decode cX9_init 132 = .ok (.newarray .long, 2) := by decide +kernel
theorem dX9_init_134 : decode cX9_init 134 = .ok (.putfield 60, 3) := by decide +kernel
theorem dX9_init_137 : decode cX9_init 137 = .ok (.aload_n 0, 1) := by decide +kernel
theorem dX9_init_138 : decode cX9_init 138 = .ok (.sipush 1200, 3) := by decide +kernel
theorem dX9_init_141 : decode cX9_init 141 = .ok (.newarray .long, 2) := by decide +kernel
theorem dX9_init_143 : decode cX9_init 143 = .ok (.putfield 64, 3) := by decide +kernel
theorem dX9_init_146 : decode cX9_init 146 = .ok (.aload_n 0, 1) := by decide +kernel
theorem dX9_init_147 : decode cX9_init 147 = .ok (.bipush 7, 2) := by decide +kernel
theorem dX9_init_149 : decode cX9_init 149 = .ok (.newarray .int, 2) := by decide +kernel
theorem dX9_init_151 : decode cX9_init 151 = .ok (.putfield 67, 3) := by decide +kernel
theorem dX9_init_154 : decode cX9_init 154 = .ok (.aload_n 0, 1) := by decide +kernel
theorem dX9_init_155 : decode cX9_init 155 = .ok (.invokevirtual 70, 3) := by decide +kernel
theorem dX9_init_158 : decode cX9_init 158 = .ok (.return_, 1) := by decide +kernel
theorem dX9_in_0 : decode cX9_in 0 = .ok (.iload_n 0, 1) := by decide +kernel
theorem dX9_in_1 : decode cX9_in 1 = .ok (.iload_n 1, 1) := by decide +kernel
theorem dX9_in_2 : decode cX9_in 2 = .ok (.if_icmp .lt 12, 3) := by decide +kernel
theorem dX9_in_5 : decode cX9_in 5 = .ok (.iload_n 0, 1) := by decide +kernel
theorem dX9_in_6 : decode cX9_in 6 = .ok (.iload_n 2, 1) := by decide +kernel
theorem dX9_in_7 : decode cX9_in 7 = .ok (.if_icmp .gt 7, 3) := by decide +kernel
theorem dX9_in_10 : decode cX9_in 10 = .ok (.iconst 1, 1) := by decide +kernel
theorem dX9_in_11 : decode cX9_in 11 = .ok (.goto 4, 3) := by decide +kernel
theorem dX9_in_14 : decode cX9_in 14 = .ok (.iconst 0, 1) := by decide +kernel
theorem dX9_in_15 : decode cX9_in 15 = .ok (.ireturn, 1) := by decide +kernel
theorem dX9_has_0 : decode cX9_has 0 = .ok (.iload_n 0, 1) := by decide +kernel
theorem dX9_has_1 : decode cX9_has 1 = .ok (.iload_n 1, 1) := by decide +kernel
theorem dX9_has_2 : decode cX9_has 2 = .ok (.ishr, 1) := by decide +kernel
theorem dX9_has_3 : decode cX9_has 3 = .ok (.iconst 1, 1) := by decide +kernel
theorem dX9_has_4 : decode cX9_has 4 = .ok (.iand, 1) := by decide +kernel
theorem dX9_has_5 : decode cX9_has 5 = .ok (.iconst 1, 1) := by decide +kernel
theorem dX9_has_6 : decode cX9_has 6 = .ok (.if_icmp .ne 7, 3) := by decide +kernel
theorem dX9_has_9 : decode cX9_has 9 = .ok (.iconst 1, 1) := by decide +kernel
theorem dX9_has_10 : decode cX9_has 10 = .ok (.goto 4, 3) := by decide +kernel
theorem dX9_has_13 : decode cX9_has 13 = .ok (.iconst 0, 1) := by decide +kernel
theorem dX9_has_14 : decode cX9_has 14 = .ok (.ireturn, 1) := by decide +kernel
theorem dX9_begin_0 : decode cX9_begin 0 = .ok (.iconst 0, 1) := by decide +kernel
theorem dX9_begin_1 : decode cX9_begin 1 = .ok (.istore_n 1, 1) := by decide +kernel
theorem dX9_begin_2 : decode cX9_begin 2 = .ok (.iload_n 1, 1) := by decide +kernel
theorem dX9_begin_3 : decode cX9_begin 3 = .ok (.bipush 56, 2) := by decide +kernel
theorem dX9_begin_5 : decode cX9_begin 5 = .ok (.if_icmp .ge 16, 3) := by decide +kernel
theorem dX9_begin_8 : decode cX9_begin 8 = .ok (.aload_n 0, 1) := by decide +kernel
theorem dX9_begin_9 : decode cX9_begin 9 = .ok (.getfield 35, 3) := by decide +kernel
theorem dX9_begin_12 : decode cX9_begin 12 = .ok (.iload_n 1, 1) := by decide +kernel
theorem dX9_begin_13 : decode cX9_begin 13 = .ok (.iconst (-1), 1) := by decide +kernel
theorem dX9_begin_14 : decode cX9_begin 14 = .ok (.iastore, 1) := by decide +kernel
theorem dX9_begin_15 : decode cX9_begin 15 = .ok (.iinc 1 1, 3) := by decide +kernel
theorem dX9_begin_18 : decode cX9_begin 18 = .ok (.goto (-16), 3) := by decide +kernel
theorem dX9_begin_21 : decode cX9_begin 21 = .ok (.aload_n 0, 1) := by decide +kernel
theorem dX9_begin_22 : decode cX9_begin 22 = .ok (.getfield 35, 3) := by decide +kernel
theorem dX9_begin_25 : decode cX9_begin 25 = .ok (.bipush 56, 2) := by decide +kernel
theorem dX9_begin_27 : decode cX9_begin 27 = .ok (.iconst 0, 1) := by decide +kernel
theorem dX9_begin_28 : decode cX9_begin 28 = .ok (.iastore, 1) := by decide +kernel
theorem dX9_begin_29 : decode cX9_begin 29 = .ok (.aload_n 0, 1) := by decide +kernel
theorem dX9_begin_30 : decode cX9_begin 30 = .ok (.getfield 47, 3) := by decide +kernel
theorem dX9_begin_33 : decode cX9_begin 33 = .ok (.iconst 0, 1) := by decide +kernel
theorem dX9_begin_34 : decode cX9_begin 34 = .ok (.iconst 0, 1) := by decide +kernel
theorem dX9_begin_35 : decode cX9_begin 35 = .ok (.bastore, 1) := by decide +kernel
theorem dX9_begin_36 : decode cX9_begin 36 = .ok (.aload_n 0, 1) := by decide +kernel
theorem dX9_begin_37 : decode cX9_begin 37 = .ok (.getfield 47, 3) := by decide +kernel
theorem dX9_begin_40 : decode cX9_begin 40 = .ok (.iconst 1, 1) := by decide +kernel
theorem dX9_begin_41 : decode cX9_begin 41 = .ok (.iconst 0, 1) := by decide +kernel
theorem dX9_begin_42 : decode cX9_begin 42 = .ok (.bastore, 1) := by decide +kernel
theorem dX9_begin_43 : decode cX9_begin 43 = .ok (.aload_n 0, 1) := by decide +kernel
theorem dX9_begin_44 : decode cX9_begin 44 = .ok (.iconst 0, 1) := by decide +kernel
theorem dX9_begin_45 : decode cX9_begin 45 = .ok (.putfield 73, 3) := by decide +kernel
theorem dX9_begin_48 : decode cX9_begin 48 = .ok (.return_, 1) := by decide +kernel
theorem dX9_isOne_0 : decode cX9_isOne 0 = .ok (.iload_n 1, 1) := by decide +kernel
theorem dX9_isOne_1 : decode cX9_isOne 1 = .ok (.iconst 0, 1) := by decide +kernel
theorem dX9_isOne_2 : decode cX9_isOne 2 = .ok (.aload_n 0, 1) := by decide +kernel
theorem dX9_isOne_3 : decode cX9_isOne 3 = .ok (.getfield 76, 3) := by decide +kernel
theorem dX9_isOne_6 : decode cX9_isOne 6 = .ok (.iconst 1, 1) := by decide +kernel
theorem dX9_isOne_7 : decode cX9_isOne 7 = .ok (.isub, 1) := by decide +kernel
theorem dX9_isOne_8 : decode cX9_isOne 8 = .ok (.invokestatic 79, 3) := by decide +kernel
theorem dX9_isOne_11 : decode cX9_isOne 11 = .ok (.ireturn, 1) := by decide +kernel
theorem dX9_isFact_0 : decode cX9_isFact 0 = .ok (.iload_n 1, 1) := by decide +kernel
theorem dX9_isFact_1 : decode cX9_isFact 1 = .ok (.iconst 0, 1) := by decide +kernel
theorem dX9_isFact_2 : decode cX9_isFact 2 = .ok (.aload_n 0, 1) := by decide +kernel
theorem dX9_isFact_3 : decode cX9_isFact 3 = .ok (.getfield 83, 3) := by decide +kernel
theorem dX9_isFact_6 : decode cX9_isFact 6 = .ok (.iconst 1, 1) := by decide +kernel
theorem dX9_isFact_7 : decode cX9_isFact 7 = .ok (.isub, 1) := by decide +kernel
theorem dX9_isFact_8 : decode cX9_isFact 8 = .ok (.invokestatic 79, 3) := by decide +kernel
theorem dX9_isFact_11 : decode cX9_isFact 11 = .ok (.ireturn, 1) := by decide +kernel
theorem dX9_isBridge_0 : decode cX9_isBridge 0 = .ok (.iload_n 1, 1) := by decide +kernel
theorem dX9_isBridge_1 : decode cX9_isBridge 1 = .ok (.iconst 0, 1) := by decide +kernel
theorem dX9_isBridge_2 : decode cX9_isBridge 2 = .ok (.aload_n 0, 1) := by decide +kernel
theorem dX9_isBridge_3 : decode cX9_isBridge 3 = .ok (.getfield 86, 3) := by decide +kernel
theorem dX9_isBridge_6 : decode cX9_isBridge 6 = .ok (.iconst 1, 1) := by decide +kernel
theorem dX9_isBridge_7 : decode cX9_isBridge 7 = .ok (.isub, 1) := by decide +kernel
theorem dX9_isBridge_8 : decode cX9_isBridge 8 = .ok (.invokestatic 79, 3) := by decide +kernel
theorem dX9_isBridge_11 : decode cX9_isBridge 11 = .ok (.ireturn, 1) := by decide +kernel
theorem dX9_isSet_0 : decode cX9_isSet 0 = .ok (.iload_n 1, 1) := by decide +kernel
theorem dX9_isSet_1 : decode cX9_isSet 1 = .ok (.iconst 0, 1) := by decide +kernel
theorem dX9_isSet_2 : decode cX9_isSet 2 = .ok (.iconst 1, 1) := by decide +kernel
theorem dX9_isSet_3 : decode cX9_isSet 3 = .ok (.aload_n 0, 1) := by decide +kernel
theorem dX9_isSet_4 : decode cX9_isSet 4 = .ok (.getfield 76, 3) := by decide +kernel
theorem dX9_isSet_7 : decode cX9_isSet 7 = .ok (.ishl, 1) := by decide +kernel
theorem dX9_isSet_8 : decode cX9_isSet 8 = .ok (.iconst 1, 1) := by decide +kernel
theorem dX9_isSet_9 : decode cX9_isSet 9 = .ok (.isub, 1) := by decide +kernel
theorem dX9_isSet_10 : decode cX9_isSet 10 = .ok (.invokestatic 79, 3) := by decide +kernel
theorem dX9_isSet_13 : decode cX9_isSet 13 = .ok (.ireturn, 1) := by decide +kernel
theorem dX9_feed_0 : decode cX9_feed 0 = .ok (.iload_n 1, 1) := by decide +kernel
theorem dX9_feed_1 : decode cX9_feed 1 = .ok (.iconst 0, 1) := by decide +kernel
theorem dX9_feed_2 : decode cX9_feed 2 = .ok (.sipush 255, 3) := by decide +kernel
theorem dX9_feed_5 : decode cX9_feed 5 = .ok (.invokestatic 79, 3) := by decide +kernel
theorem dX9_feed_8 : decode cX9_feed 8 = .ok (.ifCond .ne 6, 3) := by decide +kernel
theorem dX9_feed_11 : decode cX9_feed 11 = .ok (.ldc 89, 2) := by decide +kernel
theorem dX9_feed_13 : decode cX9_feed 13 = .ok (.ireturn, 1) := by decide +kernel
theorem dX9_feed_14 : decode cX9_feed 14 = .ok (.aload_n 0, 1) := by decide +kernel
theorem dX9_feed_15 : decode cX9_feed 15 = .ok (.getfield 90, 3) := by decide +kernel
theorem dX9_feed_18 : decode cX9_feed 18 = .ok (.sipush 250, 3) := by decide +kernel
theorem dX9_feed_21 : decode cX9_feed 21 = .ok (.if_icmp .ne 6, 3) := by decide +kernel
theorem dX9_feed_24 : decode cX9_feed 24 = .ok (.ldc 93, 2) := by decide +kernel
theorem dX9_feed_26 : decode cX9_feed 26 = .ok (.ireturn, 1) := by decide +kernel
theorem dX9_feed_27 : decode cX9_feed 27 = .ok (.aload_n 0, 1) := by decide +kernel
theorem dX9_feed_28 : decode cX9_feed 28 = .ok (.getfield 7, 3) := by decide +kernel
theorem dX9_feed_31 : decode cX9_feed 31 = .ok (.aload_n 0, 1) := by decide +kernel
theorem dX9_feed_32 : decode cX9_feed 32 = .ok (.getfield 90, 3) := by decide +kernel
theorem dX9_feed_35 : decode cX9_feed 35 = .ok (.iload_n 1, 1) := by decide +kernel
theorem dX9_feed_36 : decode cX9_feed 36 = .ok (.iastore, 1) := by decide +kernel
theorem dX9_feed_37 : decode cX9_feed 37 = .ok (.aload_n 0, 1) := by decide +kernel
theorem dX9_feed_38 : decode cX9_feed 38 = .ok (.dup, 1) := by decide +kernel
theorem dX9_feed_39 : decode cX9_feed 39 = .ok (.getfield 90, 3) := by decide +kernel
theorem dX9_feed_42 : decode cX9_feed 42 = .ok (.iconst 1, 1) := by decide +kernel
theorem dX9_feed_43 : decode cX9_feed 43 = .ok (.iadd, 1) := by decide +kernel
theorem dX9_feed_44 : decode cX9_feed 44 = .ok (.putfield 90, 3) := by decide +kernel
theorem dX9_feed_47 : decode cX9_feed 47 = .ok (.aload_n 0, 1) := by decide +kernel
theorem dX9_feed_48 : decode cX9_feed 48 = .ok (.getfield 90, 3) := by decide +kernel
theorem dX9_feed_51 : decode cX9_feed 51 = .ok (.ireturn, 1) := by decide +kernel
theorem dX9_nextToken_0 : decode cX9_nextToken 0 = .ok (.aload_n 0, 1) := by decide +kernel
theorem dX9_nextToken_1 : decode cX9_nextToken 1 = .ok (.getfield 94, 3) := by decide +kernel
theorem dX9_nextToken_4 : decode cX9_nextToken 4 = .ok (.aload_n 0, 1) := by decide +kernel
theorem dX9_nextToken_5 : decode cX9_nextToken 5 = .ok (.getfield 90, 3) := by decide +kernel
theorem dX9_nextToken_8 : decode cX9_nextToken 8 = .ok (.if_icmp .ge 30, 3) := by decide +kernel
theorem dX9_nextToken_11 : decode cX9_nextToken 11 = .ok (.aload_n 0, 1) := by decide +kernel
theorem dX9_nextToken_12 : decode cX9_nextToken 12 = .ok (.getfield 7, 3) := by decide +kernel
theorem dX9_nextToken_15 : decode cX9_nextToken 15 = .ok (.aload_n 0, 1) := by decide +kernel
theorem dX9_nextToken_16 : decode cX9_nextToken 16 = .ok (.getfield 94, 3) := by decide +kernel
theorem dX9_nextToken_19 : decode cX9_nextToken 19 = .ok (.iaload, 1) := by decide +kernel
theorem dX9_nextToken_20 : decode cX9_nextToken 20 = .ok (.bipush 32, 2) := by decide +kernel
theorem dX9_nextToken_22 : decode cX9_nextToken 22 = .ok (.if_icmp .ne 16, 3) := by decide +kernel
theorem dX9_nextToken_25 : decode cX9_nextToken 25 = .ok (.aload_n 0, 1) := by decide +kernel
theorem dX9_nextToken_26 : decode cX9_nextToken 26 = .ok (.dup, 1) := by decide +kernel
theorem dX9_nextToken_27 : decode cX9_nextToken 27 = .ok (.getfield 94, 3) := by decide +kernel
theorem dX9_nextToken_30 : decode cX9_nextToken 30 = .ok (.iconst 1, 1) := by decide +kernel
theorem dX9_nextToken_31 : decode cX9_nextToken 31 = .ok (.iadd, 1) := by decide +kernel
theorem dX9_nextToken_32 : decode cX9_nextToken 32 = .ok (.putfield 94, 3) := by decide +kernel
theorem dX9_nextToken_35 : decode cX9_nextToken 35 = .ok (.goto (-35), 3) := by decide +kernel
theorem dX9_nextToken_38 : decode cX9_nextToken 38 = .ok (.aload_n 0, 1) := by decide +kernel
theorem dX9_nextToken_39 : decode cX9_nextToken 39 = .ok (.aload_n 0, 1) := by decide +kernel
theorem dX9_nextToken_40 : decode cX9_nextToken 40 = .ok (.getfield 94, 3) := by decide +kernel
theorem dX9_nextToken_43 : decode cX9_nextToken 43 = .ok (.putfield 97, 3) := by decide +kernel
theorem dX9_nextToken_46 : decode cX9_nextToken 46 = .ok (.aload_n 0, 1) := by decide +kernel
theorem dX9_nextToken_47 : decode cX9_nextToken 47 = .ok (.iconst 0, 1) := by decide +kernel
theorem dX9_nextToken_48 : decode cX9_nextToken 48 = .ok (.putfield 100, 3) := by decide +kernel
theorem dX9_nextToken_51 : decode cX9_nextToken 51 = .ok (.aload_n 0, 1) := by decide +kernel
theorem dX9_nextToken_52 : decode cX9_nextToken 52 = .ok (.getfield 94, 3) := by decide +kernel
theorem dX9_nextToken_55 : decode cX9_nextToken 55 = .ok (.aload_n 0, 1) := by decide +kernel
theorem dX9_nextToken_56 : decode cX9_nextToken 56 = .ok (.getfield 90, 3) := by decide +kernel
theorem dX9_nextToken_59 : decode cX9_nextToken 59 = .ok (.if_icmp .ne 12, 3) := by decide +kernel
theorem dX9_nextToken_62 : decode cX9_nextToken 62 = .ok (.aload_n 0, 1) := by decide +kernel
theorem dX9_nextToken_63 : decode cX9_nextToken 63 = .ok (.bipush (-2), 2) := by decide +kernel
theorem dX9_nextToken_65 : decode cX9_nextToken 65 = .ok (.putfield 103, 3) := by decide +kernel
theorem dX9_nextToken_68 : decode cX9_nextToken 68 = .ok (.goto 158, 3) := by decide +kernel
theorem dX9_nextToken_71 : decode cX9_nextToken 71 = .ok (.aload_n 0, 1) := by decide +kernel
theorem dX9_nextToken_72 : decode cX9_nextToken 72 = .ok (.getfield 7, 3) := by decide +kernel
theorem dX9_nextToken_75 : decode cX9_nextToken 75 = .ok (.aload_n 0, 1) := by decide +kernel
theorem dX9_nextToken_76 : decode cX9_nextToken 76 = .ok (.getfield 94, 3) := by decide +kernel
theorem dX9_nextToken_79 : decode cX9_nextToken 79 = .ok (.iaload, 1) := by decide +kernel
theorem dX9_nextToken_80 : decode cX9_nextToken 80 = .ok (.bipush 48, 2) := by decide +kernel
theorem dX9_nextToken_82 : decode cX9_nextToken 82 = .ok (.bipush 57, 2) := by decide +kernel
theorem dX9_nextToken_84 : decode cX9_nextToken 84 = .ok (.invokestatic 79, 3) := by decide +kernel
theorem dX9_nextToken_87 : decode cX9_nextToken 87 = .ok (.ifCond .eq 116, 3) := by decide +kernel
theorem dX9_nextToken_90 : decode cX9_nextToken 90 = .ok (.aload_n 0, 1) := by decide +kernel
theorem dX9_nextToken_91 : decode cX9_nextToken 91 = .ok (.getfield 94, 3) := by decide +kernel
theorem dX9_nextToken_94 : decode cX9_nextToken 94 = .ok (.aload_n 0, 1) := by decide +kernel
theorem dX9_nextToken_95 : decode cX9_nextToken 95 = .ok (.getfield 90, 3) := by decide +kernel
theorem dX9_nextToken_98 : decode cX9_nextToken 98 = .ok (.if_icmp .ge 79, 3) := by decide +kernel
theorem dX9_nextToken_101 : decode cX9_nextToken 101 = .ok (.aload_n 0, 1) := by decide +kernel
theorem dX9_nextToken_102 : decode cX9_nextToken 102 = .ok (.getfield 7, 3) := by decide +kernel
theorem dX9_nextToken_105 : decode cX9_nextToken 105 = .ok (.aload_n 0, 1) := by decide +kernel
theorem dX9_nextToken_106 : decode cX9_nextToken 106 = .ok (.getfield 94, 3) := by decide +kernel
theorem dX9_nextToken_109 : decode cX9_nextToken 109 = .ok (.iaload, 1) := by decide +kernel
theorem dX9_nextToken_110 : decode cX9_nextToken 110 = .ok (.bipush 48, 2) := by decide +kernel
theorem dX9_nextToken_112 : decode cX9_nextToken 112 = .ok (.bipush 57, 2) := by decide +kernel
theorem dX9_nextToken_114 : decode cX9_nextToken 114 = .ok (.invokestatic 79, 3) := by decide +kernel
theorem dX9_nextToken_117 : decode cX9_nextToken 117 = .ok (.ifCond .eq 60, 3) := by decide +kernel
theorem dX9_nextToken_120 : decode cX9_nextToken 120 = .ok (.aload_n 0, 1) := by decide +kernel
theorem dX9_nextToken_121 : decode cX9_nextToken 121 = .ok (.aload_n 0, 1) := by decide +kernel
theorem dX9_nextToken_122 : decode cX9_nextToken 122 = .ok (.getfield 94, 3) := by decide +kernel
theorem dX9_nextToken_125 : decode cX9_nextToken 125 = .ok (.aload_n 0, 1) := by decide +kernel
theorem dX9_nextToken_126 : decode cX9_nextToken 126 = .ok (.getfield 97, 3) := by decide +kernel
theorem dX9_nextToken_129 : decode cX9_nextToken 129 = .ok (.isub, 1) := by decide +kernel
theorem dX9_nextToken_130 : decode cX9_nextToken 130 = .ok (.iconst 3, 1) := by decide +kernel
theorem dX9_nextToken_131 : decode cX9_nextToken 131 = .ok (.if_icmp .ge 26, 3) := by decide +kernel
theorem dX9_nextToken_134 : decode cX9_nextToken 134 = .ok (.bipush 10, 2) := by decide +kernel
theorem dX9_nextToken_136 : decode cX9_nextToken 136 = .ok (.aload_n 0, 1) := by decide +kernel
theorem dX9_nextToken_137 : decode cX9_nextToken 137 = .ok (.getfield 100, 3) := by decide +kernel
theorem dX9_nextToken_140 : decode cX9_nextToken 140 = .ok (.imul, 1) := by decide +kernel
theorem dX9_nextToken_141 : decode cX9_nextToken 141 = .ok (.aload_n 0, 1) := by decide +kernel
theorem dX9_nextToken_142 : decode cX9_nextToken 142 = .ok (.getfield 7, 3) := by decide +kernel
theorem dX9_nextToken_145 : decode cX9_nextToken 145 = .ok (.aload_n 0, 1) := by decide +kernel
theorem dX9_nextToken_146 : decode cX9_nextToken 146 = .ok (.getfield 94, 3) := by decide +kernel
theorem dX9_nextToken_149 : decode cX9_nextToken 149 = .ok (.iaload, 1) := by decide +kernel
theorem dX9_nextToken_150 : decode cX9_nextToken 150 = .ok (.iadd, 1) := by decide +kernel
theorem dX9_nextToken_151 : decode cX9_nextToken 151 = .ok (.bipush 48, 2) := by decide +kernel
theorem dX9_nextToken_153 : decode cX9_nextToken 153 = .ok (.isub, 1) := by decide +kernel
theorem dX9_nextToken_154 : decode cX9_nextToken 154 = .ok (.goto 7, 3) := by decide +kernel
theorem dX9_nextToken_157 : decode cX9_nextToken 157 = .ok (.aload_n 0, 1) := by decide +kernel
theorem dX9_nextToken_158 : decode cX9_nextToken 158 = .ok (.getfield 100, 3) := by decide +kernel
theorem dX9_nextToken_161 : decode cX9_nextToken 161 = .ok (.putfield 100, 3) := by decide +kernel
theorem dX9_nextToken_164 : decode cX9_nextToken 164 = .ok (.aload_n 0, 1) := by decide +kernel
theorem dX9_nextToken_165 : decode cX9_nextToken 165 = .ok (.dup, 1) := by decide +kernel
theorem dX9_nextToken_166 : decode cX9_nextToken 166 = .ok (.getfield 94, 3) := by decide +kernel
theorem dX9_nextToken_169 : decode cX9_nextToken 169 = .ok (.iconst 1, 1) := by decide +kernel
theorem dX9_nextToken_170 : decode cX9_nextToken 170 = .ok (.iadd, 1) := by decide +kernel
theorem dX9_nextToken_171 : decode cX9_nextToken 171 = .ok (.putfield 94, 3) := by decide +kernel
theorem dX9_nextToken_174 : decode cX9_nextToken 174 = .ok (.goto (-84), 3) := by decide +kernel
theorem dX9_nextToken_177 : decode cX9_nextToken 177 = .ok (.aload_n 0, 1) := by decide +kernel
theorem dX9_nextToken_178 : decode cX9_nextToken 178 = .ok (.aload_n 0, 1) := by decide +kernel
theorem dX9_nextToken_179 : decode cX9_nextToken 179 = .ok (.getfield 94, 3) := by decide +kernel
theorem dX9_nextToken_182 : decode cX9_nextToken 182 = .ok (.aload_n 0, 1) := by decide +kernel
theorem dX9_nextToken_183 : decode cX9_nextToken 183 = .ok (.getfield 97, 3) := by decide +kernel
theorem dX9_nextToken_186 : decode cX9_nextToken 186 = .ok (.isub, 1) := by decide +kernel
theorem dX9_nextToken_187 : decode cX9_nextToken 187 = .ok (.iconst 3, 1) := by decide +kernel
theorem dX9_nextToken_188 : decode cX9_nextToken 188 = .ok (.if_icmp .le 8, 3) := by decide +kernel
theorem dX9_nextToken_191 : decode cX9_nextToken 191 = .ok (.bipush (-3), 2) := by decide +kernel
theorem dX9_nextToken_193 : decode cX9_nextToken 193 = .ok (.goto 4, 3) := by decide +kernel
theorem dX9_nextToken_196 : decode cX9_nextToken 196 = .ok (.iconst (-1), 1) := by decide +kernel
theorem dX9_nextToken_197 : decode cX9_nextToken 197 = .ok (.putfield 103, 3) := by decide +kernel
theorem dX9_nextToken_200 : decode cX9_nextToken 200 = .ok (.goto 26, 3) := by decide +kernel
theorem dX9_nextToken_203 : decode cX9_nextToken 203 = .ok (.aload_n 0, 1) := by decide +kernel
theorem dX9_nextToken_204 : decode cX9_nextToken 204 = .ok (.aload_n 0, 1) := by decide +kernel
theorem dX9_nextToken_205 : decode cX9_nextToken 205 = .ok (.getfield 7, 3) := by decide +kernel
theorem dX9_nextToken_208 : decode cX9_nextToken 208 = .ok (.aload_n 0, 1) := by decide +kernel
theorem dX9_nextToken_209 : decode cX9_nextToken 209 = .ok (.getfield 94, 3) := by decide +kernel
theorem dX9_nextToken_212 : decode cX9_nextToken 212 = .ok (.iaload, 1) := by decide +kernel
theorem dX9_nextToken_213 : decode cX9_nextToken 213 = .ok (.putfield 103, 3) := by decide +kernel
theorem dX9_nextToken_216 : decode cX9_nextToken 216 = .ok (.aload_n 0, 1) := by decide +kernel
theorem dX9_nextToken_217 : decode cX9_nextToken 217 = .ok (.dup, 1) := by decide +kernel
theorem dX9_nextToken_218 : decode cX9_nextToken 218 = .ok (.getfield 94, 3) := by decide +kernel
theorem dX9_nextToken_221 : decode cX9_nextToken 221 = .ok (.iconst 1, 1) := by decide +kernel
theorem dX9_nextToken_222 : decode cX9_nextToken 222 = .ok (.iadd, 1) := by decide +kernel
theorem dX9_nextToken_223 : decode cX9_nextToken 223 = .ok (.putfield 94, 3) := by decide +kernel
theorem dX9_nextToken_226 : decode cX9_nextToken 226 = .ok (.return_, 1) := by decide +kernel
theorem dX9_fails_0 : decode cX9_fails 0 = .ok (.aload_n 0, 1) := by decide +kernel
theorem dX9_fails_1 : decode cX9_fails 1 = .ok (.iload_n 1, 1) := by decide +kernel
theorem dX9_fails_2 : decode cX9_fails 2 = .ok (.putfield 106, 3) := by decide +kernel
theorem dX9_fails_5 : decode cX9_fails 5 = .ok (.aload_n 0, 1) := by decide +kernel
theorem dX9_fails_6 : decode cX9_fails 6 = .ok (.aload_n 0, 1) := by decide +kernel
theorem dX9_fails_7 : decode cX9_fails 7 = .ok (.getfield 97, 3) := by decide +kernel
theorem dX9_fails_10 : decode cX9_fails 10 = .ok (.putfield 13, 3) := by decide +kernel
theorem dX9_fails_13 : decode cX9_fails 13 = .ok (.iconst 0, 1) := by decide +kernel
theorem dX9_fails_14 : decode cX9_fails 14 = .ok (.ireturn, 1) := by decide +kernel
theorem dX9_isNumber_0 : decode cX9_isNumber 0 = .ok (.aload_n 0, 1) := by decide +kernel
theorem dX9_isNumber_1 : decode cX9_isNumber 1 = .ok (.invokevirtual 109, 3) := by decide +kernel
theorem dX9_isNumber_4 : decode cX9_isNumber 4 = .ok (.aload_n 0, 1) := by decide +kernel
theorem dX9_isNumber_5 : decode cX9_isNumber 5 = .ok (.getfield 103, 3) := by decide +kernel
theorem dX9_isNumber_8 : decode cX9_isNumber 8 = .ok (.iconst (-1), 1) := by decide +kernel
theorem dX9_isNumber_9 : decode cX9_isNumber 9 = .ok (.if_icmp .eq 18, 3) := by decide +kernel
theorem dX9_isNumber_12 : decode cX9_isNumber 12 = .ok (.aload_n 0, 1) := by decide +kernel
theorem dX9_isNumber_13 : decode cX9_isNumber 13 = .ok (.getfield 103, 3) := by decide +kernel
theorem dX9_isNumber_16 : decode cX9_isNumber 16 = .ok (.bipush (-3), 2) := by decide +kernel
theorem dX9_isNumber_18 : decode cX9_isNumber 18 = .ok (.if_icmp .eq 9, 3) := by decide +kernel
theorem dX9_isNumber_21 : decode cX9_isNumber 21 = .ok (.aload_n 0, 1) := by decide +kernel
theorem dX9_isNumber_22 : decode cX9_isNumber 22 = .ok (.iconst 1, 1) := by decide +kernel
theorem dX9_isNumber_23 : decode cX9_isNumber 23 = .ok (.invokevirtual 112, 3) := by decide +kernel
theorem dX9_isNumber_26 : decode cX9_isNumber 26 = .ok (.ireturn, 1) := by decide +kernel
theorem dX9_isNumber_27 : decode cX9_isNumber 27 = .ok (.aload_n 0, 1) := by decide +kernel
theorem dX9_isNumber_28 : decode cX9_isNumber 28 = .ok (.getfield 103, 3) := by decide +kernel
theorem dX9_isNumber_31 : decode cX9_isNumber 31 = .ok (.iconst (-1), 1) := by decide +kernel
theorem dX9_isNumber_32 : decode cX9_isNumber 32 = .ok (.if_icmp .ne 15, 3) := by decide +kernel
theorem dX9_isNumber_35 : decode cX9_isNumber 35 = .ok (.aload_n 0, 1) := by decide +kernel
theorem dX9_isNumber_36 : decode cX9_isNumber 36 = .ok (.getfield 100, 3) := by decide +kernel
theorem dX9_isNumber_39 : decode cX9_isNumber 39 = .ok (.iload_n 1, 1) := by decide +kernel
theorem dX9_isNumber_40 : decode cX9_isNumber 40 = .ok (.iload_n 2, 1) := by decide +kernel
theorem dX9_isNumber_41 : decode cX9_isNumber 41 = .ok (.invokestatic 79, 3) := by decide +kernel
theorem dX9_isNumber_44 : decode cX9_isNumber 44 = .ok (.ifCond .ne 11, 3) := by decide +kernel
theorem dX9_isNumber_47 : decode cX9_isNumber 47 = .ok (.aload_n 0, 1) := by decide +kernel
theorem dX9_isNumber_48 : decode cX9_isNumber 48 = .ok (.iconst 2, 1) := by decide +kernel
theorem dX9_isNumber_49 : decode cX9_isNumber 49 = .ok (.invokevirtual 112, 3) := by decide +kernel
theorem dX9_isNumber_52 : decode cX9_isNumber 52 = .ok (.ifCond .eq 7, 3) := by decide +kernel
theorem dX9_isNumber_55 : decode cX9_isNumber 55 = .ok (.iconst 1, 1) := by decide +kernel
theorem dX9_isNumber_56 : decode cX9_isNumber 56 = .ok (.goto 4, 3) := by decide +kernel
theorem dX9_isNumber_59 : decode cX9_isNumber 59 = .ok (.iconst 0, 1) := by decide +kernel
theorem dX9_isNumber_60 : decode cX9_isNumber 60 = .ok (.ireturn, 1) := by decide +kernel
theorem dX9_isEnd_0 : decode cX9_isEnd 0 = .ok (.aload_n 0, 1) := by decide +kernel
theorem dX9_isEnd_1 : decode cX9_isEnd 1 = .ok (.invokevirtual 109, 3) := by decide +kernel
theorem dX9_isEnd_4 : decode cX9_isEnd 4 = .ok (.aload_n 0, 1) := by decide +kernel
theorem dX9_isEnd_5 : decode cX9_isEnd 5 = .ok (.getfield 103, 3) := by decide +kernel
theorem dX9_isEnd_8 : decode cX9_isEnd 8 = .ok (.bipush 59, 2) := by decide +kernel
theorem dX9_isEnd_10 : decode cX9_isEnd 10 = .ok (.if_icmp .eq 11, 3) := by decide +kernel
theorem dX9_isEnd_13 : decode cX9_isEnd 13 = .ok (.aload_n 0, 1) := by decide +kernel
theorem dX9_isEnd_14 : decode cX9_isEnd 14 = .ok (.iconst 1, 1) := by decide +kernel
theorem dX9_isEnd_15 : decode cX9_isEnd 15 = .ok (.invokevirtual 112, 3) := by decide +kernel
theorem dX9_isEnd_18 : decode cX9_isEnd 18 = .ok (.ifCond .eq 7, 3) := by decide +kernel
theorem dX9_isEnd_21 : decode cX9_isEnd 21 = .ok (.iconst 1, 1) := by decide +kernel
theorem dX9_isEnd_22 : decode cX9_isEnd 22 = .ok (.goto 4, 3) := by decide +kernel
theorem dX9_isEnd_25 : decode cX9_isEnd 25 = .ok (.iconst 0, 1) := by decide +kernel
theorem dX9_isEnd_26 : decode cX9_isEnd 26 = .ok (.ireturn, 1) := by decide +kernel
theorem dX9_isPeopleLine_0 : decode cX9_isPeopleLine 0 = .ok (.aload_n 0, 1) := by decide +kernel
theorem dX9_isPeopleLine_1 : decode cX9_isPeopleLine 1 = .ok (.getfield 116, 3) := by decide +kernel
theorem dX9_isPeopleLine_4 : decode cX9_isPeopleLine 4 = .ok (.ifCond .le 9, 3) := by decide +kernel
theorem dX9_isPeopleLine_7 : decode cX9_isPeopleLine 7 = .ok (.aload_n 0, 1) := by decide +kernel
theorem dX9_isPeopleLine_8 : decode cX9_isPeopleLine 8 = .ok (.iconst 3, 1) := by decide +kernel
theorem dX9_isPeopleLine_9 : decode cX9_isPeopleLine 9 = .ok (.invokevirtual 112, 3) := by decide +kernel
theorem dX9_isPeopleLine_12 : decode cX9_isPeopleLine 12 = .ok (.ireturn, 1) := by decide +kernel
theorem dX9_isPeopleLine_13 : decode cX9_isPeopleLine 13 = .ok (.aload_n 0, 1) := by decide +kernel
theorem dX9_isPeopleLine_14 : decode cX9_isPeopleLine 14 = .ok (.iconst 1, 1) := by decide +kernel
theorem dX9_isPeopleLine_15 : decode cX9_isPeopleLine 15 = .ok (.bipush 7, 2) := by decide +kernel
theorem dX9_isPeopleLine_17 : decode cX9_isPeopleLine 17 = .ok (.invokevirtual 119, 3) := by decide +kernel
theorem dX9_isPeopleLine_20 : decode cX9_isPeopleLine 20 = .ok (.ifCond .ne 5, 3) := by decide +kernel
theorem dX9_isPeopleLine_23 : decode cX9_isPeopleLine 23 = .ok (.iconst 0, 1) := by decide +kernel
theorem dX9_isPeopleLine_24 : decode cX9_isPeopleLine 24 = .ok (.ireturn, 1) := by decide +kernel
theorem dX9_isPeopleLine_25 : decode cX9_isPeopleLine 25 = .ok (.aload_n 0, 1) := by decide +kernel
theorem dX9_isPeopleLine_26 : decode cX9_isPeopleLine 26 = .ok (.aload_n 0, 1) := by decide +kernel
theorem dX9_isPeopleLine_27 : decode cX9_isPeopleLine 27 = .ok (.getfield 100, 3) := by decide +kernel
theorem dX9_isPeopleLine_30 : decode cX9_isPeopleLine 30 = .ok (.putfield 116, 3) := by decide +kernel
theorem dX9_isPeopleLine_33 : decode cX9_isPeopleLine 33 = .ok (.aload_n 0, 1) := by decide +kernel
theorem dX9_isPeopleLine_34 : decode cX9_isPeopleLine 34 = .ok (.invokevirtual 123, 3) := by decide +kernel
theorem dX9_isPeopleLine_37 : decode cX9_isPeopleLine 37 = .ok (.ireturn, 1) := by decide +kernel
theorem dX9_isFactLine_0 : decode cX9_isFactLine 0 = .ok (.aload_n 0, 1) := by decide +kernel
theorem dX9_isFactLine_1 : decode cX9_isFactLine 1 = .ok (.getfield 127, 3) := by decide +kernel
theorem dX9_isFactLine_4 : decode cX9_isFactLine 4 = .ok (.bipush 8, 2) := by decide +kernel
theorem dX9_isFactLine_6 : decode cX9_isFactLine 6 = .ok (.if_icmp .ne 9, 3) := by decide +kernel
theorem dX9_isFactLine_9 : decode cX9_isFactLine 9 = .ok (.aload_n 0, 1) := by decide +kernel
theorem dX9_isFactLine_10 : decode cX9_isFactLine 10 = .ok (.iconst 3, 1) := by decide +kernel
theorem dX9_isFactLine_11 : decode cX9_isFactLine 11 = .ok (.invokevirtual 112, 3) := by decide +kernel
theorem dX9_isFactLine_14 : decode cX9_isFactLine 14 = .ok (.ireturn, 1) := by decide +kernel
theorem dX9_isFactLine_15 : decode cX9_isFactLine 15 = .ok (.iconst 4, 1) := by decide +kernel
theorem dX9_isFactLine_16 : decode cX9_isFactLine 16 = .ok (.aload_n 0, 1) := by decide +kernel
theorem dX9_isFactLine_17 : decode cX9_isFactLine 17 = .ok (.getfield 127, 3) := by decide +kernel
theorem dX9_isFactLine_20 : decode cX9_isFactLine 20 = .ok (.imul, 1) := by decide +kernel
theorem dX9_isFactLine_21 : decode cX9_isFactLine 21 = .ok (.istore_n 1, 1) := by decide +kernel
theorem dX9_isFactLine_22 : decode cX9_isFactLine 22 = .ok (.iconst 0, 1) := by decide +kernel
theorem dX9_isFactLine_23 : decode cX9_isFactLine 23 = .ok (.istore_n 2, 1) := by decide +kernel
theorem dX9_isFactLine_24 : decode cX9_isFactLine 24 = .ok (.iload_n 2, 1) := by decide +kernel
theorem dX9_isFactLine_25 : decode cX9_isFactLine 25 = .ok (.iconst 3, 1) := by decide +kernel
theorem dX9_isFactLine_26 : decode cX9_isFactLine 26 = .ok (.if_icmp .ge 64, 3) := by decide +kernel
theorem dX9_isFactLine_29 : decode cX9_isFactLine 29 = .ok (.aload_n 0, 1) := by decide +kernel
theorem dX9_isFactLine_30 : decode cX9_isFactLine 30 = .ok (.iload_n 2, 1) := by decide +kernel
theorem dX9_isFactLine_31 : decode cX9_isFactLine 31 = .ok (.iconst 1, 1) := by decide +kernel
theorem dX9_isFactLine_32 : decode cX9_isFactLine 32 = .ok (.if_icmp .ne 7, 3) := by decide +kernel
theorem dX9_isFactLine_35 : decode cX9_isFactLine 35 = .ok (.iconst 1, 1) := by decide +kernel
theorem dX9_isFactLine_36 : decode cX9_isFactLine 36 = .ok (.goto 4, 3) := by decide +kernel
theorem dX9_isFactLine_39 : decode cX9_isFactLine 39 = .ok (.iconst 0, 1) := by decide +kernel
theorem dX9_isFactLine_40 : decode cX9_isFactLine 40 = .ok (.iload_n 2, 1) := by decide +kernel
theorem dX9_isFactLine_41 : decode cX9_isFactLine 41 = .ok (.ifCond .ne 12, 3) := by decide +kernel
theorem dX9_isFactLine_44 : decode cX9_isFactLine 44 = .ok (.aload_n 0, 1) := by decide +kernel
theorem dX9_isFactLine_45 : decode cX9_isFactLine 45 = .ok (.getfield 116, 3) := by decide +kernel
theorem dX9_isFactLine_48 : decode cX9_isFactLine 48 = .ok (.iconst 1, 1) := by decide +kernel
theorem dX9_isFactLine_49 : decode cX9_isFactLine 49 = .ok (.isub, 1) := by decide +kernel
theorem dX9_isFactLine_50 : decode cX9_isFactLine 50 = .ok (.goto 14, 3) := by decide +kernel
theorem dX9_isFactLine_53 : decode cX9_isFactLine 53 = .ok (.iload_n 2, 1) := by decide +kernel
theorem dX9_isFactLine_54 : decode cX9_isFactLine 54 = .ok (.iconst 1, 1) := by decide +kernel
theorem dX9_isFactLine_55 : decode cX9_isFactLine 55 = .ok (.if_icmp .ne 8, 3) := by decide +kernel
theorem dX9_isFactLine_58 : decode cX9_isFactLine 58 = .ok (.bipush 9, 2) := by decide +kernel
theorem dX9_isFactLine_60 : decode cX9_isFactLine 60 = .ok (.goto 4, 3) := by decide +kernel
theorem dX9_isFactLine_63 : decode cX9_isFactLine 63 = .ok (.iconst 1, 1) := by decide +kernel
theorem dX9_isFactLine_64 : decode cX9_isFactLine 64 = .ok (.invokevirtual 119, 3) := by decide +kernel
theorem dX9_isFactLine_67 : decode cX9_isFactLine 67 = .ok (.ifCond .ne 5, 3) := by decide +kernel
theorem dX9_isFactLine_70 : decode cX9_isFactLine 70 = .ok (.iconst 0, 1) := by decide +kernel
theorem dX9_isFactLine_71 : decode cX9_isFactLine 71 = .ok (.ireturn, 1) := by decide +kernel
theorem dX9_isFactLine_72 : decode cX9_isFactLine 72 = .ok (.aload_n 0, 1) := by decide +kernel
theorem dX9_isFactLine_73 : decode cX9_isFactLine 73 = .ok (.getfield 17, 3) := by decide +kernel
theorem dX9_isFactLine_76 : decode cX9_isFactLine 76 = .ok (.iload_n 1, 1) := by decide +kernel
theorem dX9_isFactLine_77 : decode cX9_isFactLine 77 = .ok (.iload_n 2, 1) := by decide +kernel
theorem dX9_isFactLine_78 : decode cX9_isFactLine 78 = .ok (.iadd, 1) := by decide +kernel
theorem dX9_isFactLine_79 : decode cX9_isFactLine 79 = .ok (.aload_n 0, 1) := by decide +kernel
theorem dX9_isFactLine_80 : decode cX9_isFactLine 80 = .ok (.getfield 100, 3) := by decide +kernel
theorem dX9_isFactLine_83 : decode cX9_isFactLine 83 = .ok (.iastore, 1) := by decide +kernel
theorem dX9_isFactLine_84 : decode cX9_isFactLine 84 = .ok (.iinc 2 1, 3) := by decide +kernel
theorem dX9_isFactLine_87 : decode cX9_isFactLine 87 = .ok (.goto (-63), 3) := by decide +kernel
theorem dX9_isFactLine_90 : decode cX9_isFactLine 90 = .ok (.aload_n 0, 1) := by decide +kernel
theorem dX9_isFactLine_91 : decode cX9_isFactLine 91 = .ok (.getfield 17, 3) := by decide +kernel
theorem dX9_isFactLine_94 : decode cX9_isFactLine 94 = .ok (.iload_n 1, 1) := by decide +kernel
theorem dX9_isFactLine_95 : decode cX9_isFactLine 95 = .ok (.iconst 3, 1) := by decide +kernel
theorem dX9_isFactLine_96 : decode cX9_isFactLine 96 = .ok (.iadd, 1) := by decide +kernel
theorem dX9_isFactLine_97 : decode cX9_isFactLine 97 = .ok (.iconst (-1), 1) := by decide +kernel
theorem dX9_isFactLine_98 : decode cX9_isFactLine 98 = .ok (.iastore, 1) := by decide +kernel
theorem dX9_isFactLine_99 : decode cX9_isFactLine 99 = .ok (.aload_n 0, 1) := by decide +kernel
theorem dX9_isFactLine_100 : decode cX9_isFactLine 100 = .ok (.dup, 1) := by decide +kernel
theorem dX9_isFactLine_101 : decode cX9_isFactLine 101 = .ok (.getfield 127, 3) := by decide +kernel
theorem dX9_isFactLine_104 : decode cX9_isFactLine 104 = .ok (.iconst 1, 1) := by decide +kernel
theorem dX9_isFactLine_105 : decode cX9_isFactLine 105 = .ok (.iadd, 1) := by decide +kernel
theorem dX9_isFactLine_106 : decode cX9_isFactLine 106 = .ok (.putfield 127, 3) := by decide +kernel
theorem dX9_isFactLine_109 : decode cX9_isFactLine 109 = .ok (.aload_n 0, 1) := by decide +kernel
theorem dX9_isFactLine_110 : decode cX9_isFactLine 110 = .ok (.invokevirtual 123, 3) := by decide +kernel
theorem dX9_isFactLine_113 : decode cX9_isFactLine 113 = .ok (.ireturn, 1) := by decide +kernel
theorem dX9_isKnownLine_0 : decode cX9_isKnownLine 0 = .ok (.aload_n 0, 1) := by decide +kernel
theorem dX9_isKnownLine_1 : decode cX9_isKnownLine 1 = .ok (.iconst 0, 1) := by decide +kernel
theorem dX9_isKnownLine_2 : decode cX9_isKnownLine 2 = .ok (.aload_n 0, 1) := by decide +kernel
theorem dX9_isKnownLine_3 : decode cX9_isKnownLine 3 = .ok (.getfield 127, 3) := by decide +kernel
theorem dX9_isKnownLine_6 : decode cX9_isKnownLine 6 = .ok (.iconst 1, 1) := by decide +kernel
theorem dX9_isKnownLine_7 : decode cX9_isKnownLine 7 = .ok (.isub, 1) := by decide +kernel
theorem dX9_isKnownLine_8 : decode cX9_isKnownLine 8 = .ok (.invokevirtual 119, 3) := by decide +kernel
theorem dX9_isKnownLine_11 : decode cX9_isKnownLine 11 = .ok (.ifCond .ne 5, 3) := by decide +kernel
theorem dX9_isKnownLine_14 : decode cX9_isKnownLine 14 = .ok (.iconst 0, 1) := by decide +kernel
theorem dX9_isKnownLine_15 : decode cX9_isKnownLine 15 = .ok (.ireturn, 1) := by decide +kernel
theorem dX9_isKnownLine_16 : decode cX9_isKnownLine 16 = .ok (.aload_n 0, 1) := by decide +kernel
theorem dX9_isKnownLine_17 : decode cX9_isKnownLine 17 = .ok (.getfield 100, 3) := by decide +kernel
theorem dX9_isKnownLine_20 : decode cX9_isKnownLine 20 = .ok (.istore_n 1, 1) := by decide +kernel
theorem dX9_isKnownLine_21 : decode cX9_isKnownLine 21 = .ok (.aload_n 0, 1) := by decide +kernel
theorem dX9_isKnownLine_22 : decode cX9_isKnownLine 22 = .ok (.getfield 17, 3) := by decide +kernel
theorem dX9_isKnownLine_25 : decode cX9_isKnownLine 25 = .ok (.iconst 4, 1) := by decide +kernel
theorem dX9_isKnownLine_26 : decode cX9_isKnownLine 26 = .ok (.iload_n 1, 1) := by decide +kernel
theorem dX9_isKnownLine_27 : decode cX9_isKnownLine 27 = .ok (.imul, 1) := by decide +kernel
theorem dX9_isKnownLine_28 : decode cX9_isKnownLine 28 = .ok (.iconst 3, 1) := by decide +kernel
theorem dX9_isKnownLine_29 : decode cX9_isKnownLine 29 = .ok (.iadd, 1) := by decide +kernel
theorem dX9_isKnownLine_30 : decode cX9_isKnownLine 30 = .ok (.iaload, 1) := by decide +kernel
theorem dX9_isKnownLine_31 : decode cX9_isKnownLine 31 = .ok (.iconst (-1), 1) := by decide +kernel
theorem dX9_isKnownLine_32 : decode cX9_isKnownLine 32 = .ok (.if_icmp .eq 9, 3) := by decide +kernel
theorem dX9_isKnownLine_35 : decode cX9_isKnownLine 35 = .ok (.aload_n 0, 1) := by decide +kernel
theorem dX9_isKnownLine_36 : decode cX9_isKnownLine 36 = .ok (.iconst 4, 1) := by decide +kernel
theorem dX9_isKnownLine_37 : decode cX9_isKnownLine 37 = .ok (.invokevirtual 112, 3) := by decide +kernel
theorem dX9_isKnownLine_40 : decode cX9_isKnownLine 40 = .ok (.ireturn, 1) := by decide +kernel
theorem dX9_isKnownLine_41 : decode cX9_isKnownLine 41 = .ok (.aload_n 0, 1) := by decide +kernel
theorem dX9_isKnownLine_42 : decode cX9_isKnownLine 42 = .ok (.iconst 0, 1) := by decide +kernel
theorem dX9_isKnownLine_43 : decode cX9_isKnownLine 43 = .ok (.iconst 1, 1) := by decide +kernel
theorem dX9_isKnownLine_44 : decode cX9_isKnownLine 44 = .ok (.aload_n 0, 1) := by decide +kernel
theorem dX9_isKnownLine_45 : decode cX9_isKnownLine 45 = .ok (.getfield 116, 3) := by decide +kernel
theorem dX9_isKnownLine_48 : decode cX9_isKnownLine 48 = .ok (.ishl, 1) := by decide +kernel
theorem dX9_isKnownLine_49 : decode cX9_isKnownLine 49 = .ok (.iconst 1, 1) := by decide +kernel
theorem dX9_isKnownLine_50 : decode cX9_isKnownLine 50 = .ok (.isub, 1) := by decide +kernel
theorem dX9_isKnownLine_51 : decode cX9_isKnownLine 51 = .ok (.invokevirtual 119, 3) := by decide +kernel
theorem dX9_isKnownLine_54 : decode cX9_isKnownLine 54 = .ok (.ifCond .ne 5, 3) := by decide +kernel
theorem dX9_isKnownLine_57 : decode cX9_isKnownLine 57 = .ok (.iconst 0, 1) := by decide +kernel
theorem dX9_isKnownLine_58 : decode cX9_isKnownLine 58 = .ok (.ireturn, 1) := by decide +kernel
theorem dX9_isKnownLine_59 : decode cX9_isKnownLine 59 = .ok (.aload_n 0, 1) := by decide +kernel
theorem dX9_isKnownLine_60 : decode cX9_isKnownLine 60 = .ok (.getfield 17, 3) := by decide +kernel
theorem dX9_isKnownLine_63 : decode cX9_isKnownLine 63 = .ok (.iconst 4, 1) := by decide +kernel
theorem dX9_isKnownLine_64 : decode cX9_isKnownLine 64 = .ok (.iload_n 1, 1) := by decide +kernel
theorem dX9_isKnownLine_65 : decode cX9_isKnownLine 65 = .ok (.imul, 1) := by decide +kernel
theorem dX9_isKnownLine_66 : decode cX9_isKnownLine 66 = .ok (.iconst 3, 1) := by decide +kernel
theorem dX9_isKnownLine_67 : decode cX9_isKnownLine 67 = .ok (.iadd, 1) := by decide +kernel
theorem dX9_isKnownLine_68 : decode cX9_isKnownLine 68 = .ok (.aload_n 0, 1) := by decide +kernel
theorem dX9_isKnownLine_69 : decode cX9_isKnownLine 69 = .ok (.getfield 100, 3) := by decide +kernel
theorem dX9_isKnownLine_72 : decode cX9_isKnownLine 72 = .ok (.iastore, 1) := by decide +kernel
theorem dX9_isKnownLine_73 : decode cX9_isKnownLine 73 = .ok (.aload_n 0, 1) := by decide +kernel
theorem dX9_isKnownLine_74 : decode cX9_isKnownLine 74 = .ok (.invokevirtual 123, 3) := by decide +kernel
theorem dX9_isKnownLine_77 : decode cX9_isKnownLine 77 = .ok (.ireturn, 1) := by decide +kernel
theorem dX9_isPairLine_0 : decode cX9_isPairLine 0 = .ok (.aload_n 0, 1) := by decide +kernel
theorem dX9_isPairLine_1 : decode cX9_isPairLine 1 = .ok (.getfield 130, 3) := by decide +kernel
theorem dX9_isPairLine_4 : decode cX9_isPairLine 4 = .ok (.bipush 12, 2) := by decide +kernel
theorem dX9_isPairLine_6 : decode cX9_isPairLine 6 = .ok (.if_icmp .ne 9, 3) := by decide +kernel
theorem dX9_isPairLine_9 : decode cX9_isPairLine 9 = .ok (.aload_n 0, 1) := by decide +kernel
theorem dX9_isPairLine_10 : decode cX9_isPairLine 10 = .ok (.iconst 3, 1) := by decide +kernel
theorem dX9_isPairLine_11 : decode cX9_isPairLine 11 = .ok (.invokevirtual 112, 3) := by decide +kernel
theorem dX9_isPairLine_14 : decode cX9_isPairLine 14 = .ok (.ireturn, 1) := by decide +kernel
theorem dX9_isPairLine_15 : decode cX9_isPairLine 15 = .ok (.aload_n 0, 1) := by decide +kernel
theorem dX9_isPairLine_16 : decode cX9_isPairLine 16 = .ok (.iconst 0, 1) := by decide +kernel
theorem dX9_isPairLine_17 : decode cX9_isPairLine 17 = .ok (.aload_n 0, 1) := by decide +kernel
theorem dX9_isPairLine_18 : decode cX9_isPairLine 18 = .ok (.getfield 116, 3) := by decide +kernel
theorem dX9_isPairLine_21 : decode cX9_isPairLine 21 = .ok (.iconst 1, 1) := by decide +kernel
theorem dX9_isPairLine_22 : decode cX9_isPairLine 22 = .ok (.isub, 1) := by decide +kernel
theorem dX9_isPairLine_23 : decode cX9_isPairLine 23 = .ok (.invokevirtual 119, 3) := by decide +kernel
theorem dX9_isPairLine_26 : decode cX9_isPairLine 26 = .ok (.ifCond .ne 5, 3) := by decide +kernel
theorem dX9_isPairLine_29 : decode cX9_isPairLine 29 = .ok (.iconst 0, 1) := by decide +kernel
theorem dX9_isPairLine_30 : decode cX9_isPairLine 30 = .ok (.ireturn, 1) := by decide +kernel
theorem dX9_isPairLine_31 : decode cX9_isPairLine 31 = .ok (.aload_n 0, 1) := by decide +kernel
theorem dX9_isPairLine_32 : decode cX9_isPairLine 32 = .ok (.getfield 100, 3) := by decide +kernel
theorem dX9_isPairLine_35 : decode cX9_isPairLine 35 = .ok (.istore_n 1, 1) := by decide +kernel
theorem dX9_isPairLine_36 : decode cX9_isPairLine 36 = .ok (.aload_n 0, 1) := by decide +kernel
theorem dX9_isPairLine_37 : decode cX9_isPairLine 37 = .ok (.iconst 0, 1) := by decide +kernel
theorem dX9_isPairLine_38 : decode cX9_isPairLine 38 = .ok (.aload_n 0, 1) := by decide +kernel
theorem dX9_isPairLine_39 : decode cX9_isPairLine 39 = .ok (.getfield 116, 3) := by decide +kernel
theorem dX9_isPairLine_42 : decode cX9_isPairLine 42 = .ok (.iconst 1, 1) := by decide +kernel
theorem dX9_isPairLine_43 : decode cX9_isPairLine 43 = .ok (.isub, 1) := by decide +kernel
theorem dX9_isPairLine_44 : decode cX9_isPairLine 44 = .ok (.invokevirtual 119, 3) := by decide +kernel
theorem dX9_isPairLine_47 : decode cX9_isPairLine 47 = .ok (.ifCond .ne 5, 3) := by decide +kernel
theorem dX9_isPairLine_50 : decode cX9_isPairLine 50 = .ok (.iconst 0, 1) := by decide +kernel
theorem dX9_isPairLine_51 : decode cX9_isPairLine 51 = .ok (.ireturn, 1) := by decide +kernel
theorem dX9_isPairLine_52 : decode cX9_isPairLine 52 = .ok (.iload_n 1, 1) := by decide +kernel
theorem dX9_isPairLine_53 : decode cX9_isPairLine 53 = .ok (.aload_n 0, 1) := by decide +kernel
theorem dX9_isPairLine_54 : decode cX9_isPairLine 54 = .ok (.getfield 100, 3) := by decide +kernel
theorem dX9_isPairLine_57 : decode cX9_isPairLine 57 = .ok (.if_icmp .ne 7, 3) := by decide +kernel
theorem dX9_isPairLine_60 : decode cX9_isPairLine 60 = .ok (.iconst 1, 1) := by decide +kernel
theorem dX9_isPairLine_61 : decode cX9_isPairLine 61 = .ok (.goto 4, 3) := by decide +kernel
theorem dX9_isPairLine_64 : decode cX9_isPairLine 64 = .ok (.iconst 0, 1) := by decide +kernel
theorem dX9_isPairLine_65 : decode cX9_isPairLine 65 = .ok (.istore_n 2, 1) := by decide +kernel
theorem dX9_isPairLine_66 : decode cX9_isPairLine 66 = .ok (.iconst 0, 1) := by decide +kernel
theorem dX9_isPairLine_67 : decode cX9_isPairLine 67 = .ok (.istore_n 3, 1) := by decide +kernel
theorem dX9_isPairLine_68 : decode cX9_isPairLine 68 = .ok (.iload_n 3, 1) := by decide +kernel
theorem dX9_isPairLine_69 : decode cX9_isPairLine 69 = .ok (.aload_n 0, 1) := by decide +kernel
theorem dX9_isPairLine_70 : decode cX9_isPairLine 70 = .ok (.getfield 130, 3) := by decide +kernel
theorem dX9_isPairLine_73 : decode cX9_isPairLine 73 = .ok (.if_icmp .ge 71, 3) := by decide +kernel
theorem dX9_isPairLine_76 : decode cX9_isPairLine 76 = .ok (.aload_n 0, 1) := by decide +kernel
theorem dX9_isPairLine_77 : decode cX9_isPairLine 77 = .ok (.getfield 20, 3) := by decide +kernel
theorem dX9_isPairLine_80 : decode cX9_isPairLine 80 = .ok (.iconst 2, 1) := by decide +kernel
theorem dX9_isPairLine_81 : decode cX9_isPairLine 81 = .ok (.iload_n 3, 1) := by decide +kernel
theorem dX9_isPairLine_82 : decode cX9_isPairLine 82 = .ok (.imul, 1) := by decide +kernel
theorem dX9_isPairLine_83 : decode cX9_isPairLine 83 = .ok (.iaload, 1) := by decide +kernel
theorem dX9_isPairLine_84 : decode cX9_isPairLine 84 = .ok (.istore 4, 2) := by decide +kernel
theorem dX9_isPairLine_86 : decode cX9_isPairLine 86 = .ok (.aload_n 0, 1) := by decide +kernel
theorem dX9_isPairLine_87 : decode cX9_isPairLine 87 = .ok (.getfield 20, 3) := by decide +kernel
theorem dX9_isPairLine_90 : decode cX9_isPairLine 90 = .ok (.iconst 2, 1) := by decide +kernel
theorem dX9_isPairLine_91 : decode cX9_isPairLine 91 = .ok (.iload_n 3, 1) := by decide +kernel
theorem dX9_isPairLine_92 : decode cX9_isPairLine 92 = .ok (.imul, 1) := by decide +kernel
theorem dX9_isPairLine_93 : decode cX9_isPairLine 93 = .ok (.iconst 1, 1) := by decide +kernel
theorem dX9_isPairLine_94 : decode cX9_isPairLine 94 = .ok (.iadd, 1) := by decide +kernel
theorem dX9_isPairLine_95 : decode cX9_isPairLine 95 = .ok (.iaload, 1) := by decide +kernel
theorem dX9_isPairLine_96 : decode cX9_isPairLine 96 = .ok (.istore 5, 2) := by decide +kernel
theorem dX9_isPairLine_98 : decode cX9_isPairLine 98 = .ok (.iload_n 2, 1) := by decide +kernel
theorem dX9_isPairLine_99 : decode cX9_isPairLine 99 = .ok (.ifCond .ne 33, 3) := by decide +kernel
theorem dX9_isPairLine_102 : decode cX9_isPairLine 102 = .ok (.iload 4, 2) := by decide +kernel
theorem dX9_isPairLine_104 : decode cX9_isPairLine 104 = .ok (.iload_n 1, 1) := by decide +kernel
theorem dX9_isPairLine_105 : decode cX9_isPairLine 105 = .ok (.if_icmp .ne 12, 3) := by decide +kernel
theorem dX9_isPairLine_108 : decode cX9_isPairLine 108 = .ok (.iload 5, 2) := by decide +kernel
theorem dX9_isPairLine_110 : decode cX9_isPairLine 110 = .ok (.aload_n 0, 1) := by decide +kernel
theorem dX9_isPairLine_111 : decode cX9_isPairLine 111 = .ok (.getfield 100, 3) := by decide +kernel
theorem dX9_isPairLine_114 : decode cX9_isPairLine 114 = .ok (.if_icmp .eq 18, 3) := by decide +kernel
theorem dX9_isPairLine_117 : decode cX9_isPairLine 117 = .ok (.iload 5, 2) := by decide +kernel
theorem dX9_isPairLine_119 : decode cX9_isPairLine 119 = .ok (.iload_n 1, 1) := by decide +kernel
theorem dX9_isPairLine_120 : decode cX9_isPairLine 120 = .ok (.if_icmp .ne 16, 3) := by decide +kernel
theorem dX9_isPairLine_123 : decode cX9_isPairLine 123 = .ok (.iload 4, 2) := by decide +kernel
theorem dX9_isPairLine_125 : decode cX9_isPairLine 125 = .ok (.aload_n 0, 1) := by decide +kernel
theorem dX9_isPairLine_126 : decode cX9_isPairLine 126 = .ok (.getfield 100, 3) := by decide +kernel
theorem dX9_isPairLine_129 : decode cX9_isPairLine 129 = .ok (.if_icmp .ne 7, 3) := by decide +kernel
theorem dX9_isPairLine_132 : decode cX9_isPairLine 132 = .ok (.iconst 1, 1) := by decide +kernel
theorem dX9_isPairLine_133 : decode cX9_isPairLine 133 = .ok (.goto 4, 3) := by decide +kernel
theorem dX9_isPairLine_136 : decode cX9_isPairLine 136 = .ok (.iconst 0, 1) := by decide +kernel
theorem dX9_isPairLine_137 : decode cX9_isPairLine 137 = .ok (.istore_n 2, 1) := by decide +kernel
theorem dX9_isPairLine_138 : decode cX9_isPairLine 138 = .ok (.iinc 3 1, 3) := by decide +kernel
theorem dX9_isPairLine_141 : decode cX9_isPairLine 141 = .ok (.goto (-73), 3) := by decide +kernel
theorem dX9_isPairLine_144 : decode cX9_isPairLine 144 = .ok (.iload_n 2, 1) := by decide +kernel
theorem dX9_isPairLine_145 : decode cX9_isPairLine 145 = .ok (.ifCond .eq 9, 3) := by decide +kernel
theorem dX9_isPairLine_148 : decode cX9_isPairLine 148 = .ok (.aload_n 0, 1) := by decide +kernel
theorem dX9_isPairLine_149 : decode cX9_isPairLine 149 = .ok (.iconst 4, 1) := by decide +kernel
theorem dX9_isPairLine_150 : decode cX9_isPairLine 150 = .ok (.invokevirtual 112, 3) := by decide +kernel
theorem dX9_isPairLine_153 : decode cX9_isPairLine 153 = .ok (.ireturn, 1) := by decide +kernel
theorem dX9_isPairLine_154 : decode cX9_isPairLine 154 = .ok (.aload_n 0, 1) := by decide +kernel
theorem dX9_isPairLine_155 : decode cX9_isPairLine 155 = .ok (.getfield 20, 3) := by decide +kernel
theorem dX9_isPairLine_158 : decode cX9_isPairLine 158 = .ok (.iconst 2, 1) := by decide +kernel
theorem dX9_isPairLine_159 : decode cX9_isPairLine 159 = .ok (.aload_n 0, 1) := by decide +kernel
theorem dX9_isPairLine_160 : decode cX9_isPairLine 160 = .ok (.getfield 130, 3) := by decide +kernel
theorem dX9_isPairLine_163 : decode cX9_isPairLine 163 = .ok (.imul, 1) := by decide +kernel
theorem dX9_isPairLine_164 : decode cX9_isPairLine 164 = .ok (.iload_n 1, 1) := by decide +kernel
theorem dX9_isPairLine_165 : decode cX9_isPairLine 165 = .ok (.iastore, 1) := by decide +kernel
theorem dX9_isPairLine_166 : decode cX9_isPairLine 166 = .ok (.aload_n 0, 1) := by decide +kernel
theorem dX9_isPairLine_167 : decode cX9_isPairLine 167 = .ok (.getfield 20, 3) := by decide +kernel
theorem dX9_isPairLine_170 : decode cX9_isPairLine 170 = .ok (.iconst 2, 1) := by decide +kernel
theorem dX9_isPairLine_171 : decode cX9_isPairLine 171 = .ok (.aload_n 0, 1) := by decide +kernel
theorem dX9_isPairLine_172 : decode cX9_isPairLine 172 = .ok (.getfield 130, 3) := by decide +kernel
theorem dX9_isPairLine_175 : decode cX9_isPairLine 175 = .ok (.imul, 1) := by decide +kernel
theorem dX9_isPairLine_176 : decode cX9_isPairLine 176 = .ok (.iconst 1, 1) := by decide +kernel
theorem dX9_isPairLine_177 : decode cX9_isPairLine 177 = .ok (.iadd, 1) := by decide +kernel
theorem dX9_isPairLine_178 : decode cX9_isPairLine 178 = .ok (.aload_n 0, 1) := by decide +kernel
theorem dX9_isPairLine_179 : decode cX9_isPairLine 179 = .ok (.getfield 100, 3) := by decide +kernel
theorem dX9_isPairLine_182 : decode cX9_isPairLine 182 = .ok (.iastore, 1) := by decide +kernel
theorem dX9_isPairLine_183 : decode cX9_isPairLine 183 = .ok (.aload_n 0, 1) := by decide +kernel
theorem dX9_isPairLine_184 : decode cX9_isPairLine 184 = .ok (.dup, 1) := by decide +kernel
theorem dX9_isPairLine_185 : decode cX9_isPairLine 185 = .ok (.getfield 130, 3) := by decide +kernel
theorem dX9_isPairLine_188 : decode cX9_isPairLine 188 = .ok (.iconst 1, 1) := by decide +kernel
theorem dX9_isPairLine_189 : decode cX9_isPairLine 189 = .ok (.iadd, 1) := by decide +kernel
theorem dX9_isPairLine_190 : decode cX9_isPairLine 190 = .ok (.putfield 130, 3) := by decide +kernel
theorem dX9_isPairLine_193 : decode cX9_isPairLine 193 = .ok (.aload_n 0, 1) := by decide +kernel
theorem dX9_isPairLine_194 : decode cX9_isPairLine 194 = .ok (.invokevirtual 123, 3) := by decide +kernel
theorem dX9_isPairLine_197 : decode cX9_isPairLine 197 = .ok (.ireturn, 1) := by decide +kernel
theorem dX9_isQuietLine_0 : decode cX9_isQuietLine 0 = .ok (.aload_n 0, 1) := by decide +kernel
theorem dX9_isQuietLine_1 : decode cX9_isQuietLine 1 = .ok (.iconst 0, 1) := by decide +kernel
theorem dX9_isQuietLine_2 : decode cX9_isQuietLine 2 = .ok (.aload_n 0, 1) := by decide +kernel
theorem dX9_isQuietLine_3 : decode cX9_isQuietLine 3 = .ok (.getfield 116, 3) := by decide +kernel
theorem dX9_isQuietLine_6 : decode cX9_isQuietLine 6 = .ok (.iconst 1, 1) := by decide +kernel
theorem dX9_isQuietLine_7 : decode cX9_isQuietLine 7 = .ok (.isub, 1) := by decide +kernel
theorem dX9_isQuietLine_8 : decode cX9_isQuietLine 8 = .ok (.invokevirtual 119, 3) := by decide +kernel
theorem dX9_isQuietLine_11 : decode cX9_isQuietLine 11 = .ok (.ifCond .ne 5, 3) := by decide +kernel
theorem dX9_isQuietLine_14 : decode cX9_isQuietLine 14 = .ok (.iconst 0, 1) := by decide +kernel
theorem dX9_isQuietLine_15 : decode cX9_isQuietLine 15 = .ok (.ireturn, 1) := by decide +kernel
theorem dX9_isQuietLine_16 : decode cX9_isQuietLine 16 = .ok (.aload_n 0, 1) := by decide +kernel
theorem dX9_isQuietLine_17 : decode cX9_isQuietLine 17 = .ok (.getfield 133, 3) := by decide +kernel
theorem dX9_isQuietLine_20 : decode cX9_isQuietLine 20 = .ok (.aload_n 0, 1) := by decide +kernel
theorem dX9_isQuietLine_21 : decode cX9_isQuietLine 21 = .ok (.getfield 100, 3) := by decide +kernel
theorem dX9_isQuietLine_24 : decode cX9_isQuietLine 24 = .ok (.invokestatic 136, 3) := by decide +kernel
theorem dX9_isQuietLine_27 : decode cX9_isQuietLine 27 = .ok (.ifCond .eq 9, 3) := by decide +kernel
theorem dX9_isQuietLine_30 : decode cX9_isQuietLine 30 = .ok (.aload_n 0, 1) := by decide +kernel
theorem dX9_isQuietLine_31 : decode cX9_isQuietLine 31 = .ok (.iconst 4, 1) := by decide +kernel
theorem dX9_isQuietLine_32 : decode cX9_isQuietLine 32 = .ok (.invokevirtual 112, 3) := by decide +kernel
theorem dX9_isQuietLine_35 : decode cX9_isQuietLine 35 = .ok (.ireturn, 1) := by decide +kernel
theorem dX9_isQuietLine_36 : decode cX9_isQuietLine 36 = .ok (.aload_n 0, 1) := by decide +kernel
theorem dX9_isQuietLine_37 : decode cX9_isQuietLine 37 = .ok (.aload_n 0, 1) := by decide +kernel
theorem dX9_isQuietLine_38 : decode cX9_isQuietLine 38 = .ok (.getfield 133, 3) := by decide +kernel
theorem dX9_isQuietLine_41 : decode cX9_isQuietLine 41 = .ok (.iconst 1, 1) := by decide +kernel
theorem dX9_isQuietLine_42 : decode cX9_isQuietLine 42 = .ok (.aload_n 0, 1) := by decide +kernel
theorem dX9_isQuietLine_43 : decode cX9_isQuietLine 43 = .ok (.getfield 100, 3) := by decide +kernel
theorem dX9_isQuietLine_46 : decode cX9_isQuietLine 46 = .ok (.ishl, 1) := by decide +kernel
theorem dX9_isQuietLine_47 : decode cX9_isQuietLine 47 = .ok (.ior, 1) := by decide +kernel
theorem dX9_isQuietLine_48 : decode cX9_isQuietLine 48 = .ok (.putfield 133, 3) := by decide +kernel
theorem dX9_isQuietLine_51 : decode cX9_isQuietLine 51 = .ok (.aload_n 0, 1) := by decide +kernel
theorem dX9_isQuietLine_52 : decode cX9_isQuietLine 52 = .ok (.invokevirtual 123, 3) := by decide +kernel
theorem dX9_isQuietLine_55 : decode cX9_isQuietLine 55 = .ok (.ireturn, 1) := by decide +kernel
theorem dX9_isBridgeLine_0 : decode cX9_isBridgeLine 0 = .ok (.aload_n 0, 1) := by decide +kernel
theorem dX9_isBridgeLine_1 : decode cX9_isBridgeLine 1 = .ok (.getfield 139, 3) := by decide +kernel
theorem dX9_isBridgeLine_4 : decode cX9_isBridgeLine 4 = .ok (.iconst 4, 1) := by decide +kernel
theorem dX9_isBridgeLine_5 : decode cX9_isBridgeLine 5 = .ok (.if_icmp .ne 9, 3) := by decide +kernel
theorem dX9_isBridgeLine_8 : decode cX9_isBridgeLine 8 = .ok (.aload_n 0, 1) := by decide +kernel
theorem dX9_isBridgeLine_9 : decode cX9_isBridgeLine 9 = .ok (.iconst 3, 1) := by decide +kernel
theorem dX9_isBridgeLine_10 : decode cX9_isBridgeLine 10 = .ok (.invokevirtual 112, 3) := by decide +kernel
theorem dX9_isBridgeLine_13 : decode cX9_isBridgeLine 13 = .ok (.ireturn, 1) := by decide +kernel
theorem dX9_isBridgeLine_14 : decode cX9_isBridgeLine 14 = .ok (.aload_n 0, 1) := by decide +kernel
theorem dX9_isBridgeLine_15 : decode cX9_isBridgeLine 15 = .ok (.iconst 0, 1) := by decide +kernel
theorem dX9_isBridgeLine_16 : decode cX9_isBridgeLine 16 = .ok (.sipush 999, 3) := by decide +kernel
theorem dX9_isBridgeLine_19 : decode cX9_isBridgeLine 19 = .ok (.invokevirtual 119, 3) := by decide +kernel
theorem dX9_isBridgeLine_22 : decode cX9_isBridgeLine 22 = .ok (.ifCond .ne 5, 3) := by decide +kernel
theorem dX9_isBridgeLine_25 : decode cX9_isBridgeLine 25 = .ok (.iconst 0, 1) := by decide +kernel
theorem dX9_isBridgeLine_26 : decode cX9_isBridgeLine 26 = .ok (.ireturn, 1) := by decide +kernel
theorem dX9_isBridgeLine_27 : decode cX9_isBridgeLine 27 = .ok (.aload_n 0, 1) := by decide +kernel
theorem dX9_isBridgeLine_28 : decode cX9_isBridgeLine 28 = .ok (.getfield 23, 3) := by decide +kernel
theorem dX9_isBridgeLine_31 : decode cX9_isBridgeLine 31 = .ok (.aload_n 0, 1) := by decide +kernel
theorem dX9_isBridgeLine_32 : decode cX9_isBridgeLine 32 = .ok (.getfield 139, 3) := by decide +kernel
theorem dX9_isBridgeLine_35 : decode cX9_isBridgeLine 35 = .ok (.aload_n 0, 1) := by decide +kernel
theorem dX9_isBridgeLine_36 : decode cX9_isBridgeLine 36 = .ok (.getfield 100, 3) := by decide +kernel
theorem dX9_isBridgeLine_39 : decode cX9_isBridgeLine 39 = .ok (.iastore, 1) := by decide +kernel
theorem dX9_isBridgeLine_40 : decode cX9_isBridgeLine 40 = .ok (.aload_n 0, 1) := by decide +kernel
theorem dX9_isBridgeLine_41 : decode cX9_isBridgeLine 41 = .ok (.dup, 1) := by decide +kernel
theorem dX9_isBridgeLine_42 : decode cX9_isBridgeLine 42 = .ok (.getfield 139, 3) := by decide +kernel
theorem dX9_isBridgeLine_45 : decode cX9_isBridgeLine 45 = .ok (.iconst 1, 1) := by decide +kernel
theorem dX9_isBridgeLine_46 : decode cX9_isBridgeLine 46 = .ok (.iadd, 1) := by decide +kernel
theorem dX9_isBridgeLine_47 : decode cX9_isBridgeLine 47 = .ok (.putfield 139, 3) := by decide +kernel
theorem dX9_isBridgeLine_50 : decode cX9_isBridgeLine 50 = .ok (.aload_n 0, 1) := by decide +kernel
theorem dX9_isBridgeLine_51 : decode cX9_isBridgeLine 51 = .ok (.invokevirtual 123, 3) := by decide +kernel
theorem dX9_isBridgeLine_54 : decode cX9_isBridgeLine 54 = .ok (.ireturn, 1) := by decide +kernel
theorem dX9_isHoursLine_0 : decode cX9_isHoursLine 0 = .ok (.aload_n 0, 1) := by decide +kernel
theorem dX9_isHoursLine_1 : decode cX9_isHoursLine 1 = .ok (.getfield 142, 3) := by decide +kernel
theorem dX9_isHoursLine_4 : decode cX9_isHoursLine 4 = .ok (.ifCond .le 9, 3) := by decide +kernel
theorem dX9_isHoursLine_7 : decode cX9_isHoursLine 7 = .ok (.aload_n 0, 1) := by decide +kernel
theorem dX9_isHoursLine_8 : decode cX9_isHoursLine 8 = .ok (.iconst 3, 1) := by decide +kernel
theorem dX9_isHoursLine_9 : decode cX9_isHoursLine 9 = .ok (.invokevirtual 112, 3) := by decide +kernel
theorem dX9_isHoursLine_12 : decode cX9_isHoursLine 12 = .ok (.ireturn, 1) := by decide +kernel
theorem dX9_isHoursLine_13 : decode cX9_isHoursLine 13 = .ok (.aload_n 0, 1) := by decide +kernel
theorem dX9_isHoursLine_14 : decode cX9_isHoursLine 14 = .ok (.iconst 1, 1) := by decide +kernel
theorem dX9_isHoursLine_15 : decode cX9_isHoursLine 15 = .ok (.bipush 99, 2) := by decide +kernel
theorem dX9_isHoursLine_17 : decode cX9_isHoursLine 17 = .ok (.invokevirtual 119, 3) := by decide +kernel
theorem dX9_isHoursLine_20 : decode cX9_isHoursLine 20 = .ok (.ifCond .ne 5, 3) := by decide +kernel
theorem dX9_isHoursLine_23 : decode cX9_isHoursLine 23 = .ok (.iconst 0, 1) := by decide +kernel
theorem dX9_isHoursLine_24 : decode cX9_isHoursLine 24 = .ok (.ireturn, 1) := by decide +kernel
theorem dX9_isHoursLine_25 : decode cX9_isHoursLine 25 = .ok (.aload_n 0, 1) := by decide +kernel
theorem dX9_isHoursLine_26 : decode cX9_isHoursLine 26 = .ok (.aload_n 0, 1) := by decide +kernel
theorem dX9_isHoursLine_27 : decode cX9_isHoursLine 27 = .ok (.getfield 100, 3) := by decide +kernel
theorem dX9_isHoursLine_30 : decode cX9_isHoursLine 30 = .ok (.putfield 142, 3) := by decide +kernel
theorem dX9_isHoursLine_33 : decode cX9_isHoursLine 33 = .ok (.aload_n 0, 1) := by decide +kernel
theorem dX9_isHoursLine_34 : decode cX9_isHoursLine 34 = .ok (.invokevirtual 123, 3) := by decide +kernel
theorem dX9_isHoursLine_37 : decode cX9_isHoursLine 37 = .ok (.ireturn, 1) := by decide +kernel
theorem dX9_isRead_0 : decode cX9_isRead 0 = .ok (.aload_n 0, 1) := by decide +kernel
theorem dX9_isRead_1 : decode cX9_isRead 1 = .ok (.iconst 0, 1) := by decide +kernel
theorem dX9_isRead_2 : decode cX9_isRead 2 = .ok (.putfield 94, 3) := by decide +kernel
theorem dX9_isRead_5 : decode cX9_isRead 5 = .ok (.aload_n 0, 1) := by decide +kernel
theorem dX9_isRead_6 : decode cX9_isRead 6 = .ok (.iconst 0, 1) := by decide +kernel
theorem dX9_isRead_7 : decode cX9_isRead 7 = .ok (.putfield 116, 3) := by decide +kernel
theorem dX9_isRead_10 : decode cX9_isRead 10 = .ok (.aload_n 0, 1) := by decide +kernel
theorem dX9_isRead_11 : decode cX9_isRead 11 = .ok (.iconst 0, 1) := by decide +kernel
theorem dX9_isRead_12 : decode cX9_isRead 12 = .ok (.putfield 127, 3) := by decide +kernel
theorem dX9_isRead_15 : decode cX9_isRead 15 = .ok (.aload_n 0, 1) := by decide +kernel
theorem dX9_isRead_16 : decode cX9_isRead 16 = .ok (.iconst 0, 1) := by decide +kernel
theorem dX9_isRead_17 : decode cX9_isRead 17 = .ok (.putfield 130, 3) := by decide +kernel
theorem dX9_isRead_20 : decode cX9_isRead 20 = .ok (.aload_n 0, 1) := by decide +kernel
theorem dX9_isRead_21 : decode cX9_isRead 21 = .ok (.iconst 0, 1) := by decide +kernel
theorem dX9_isRead_22 : decode cX9_isRead 22 = .ok (.putfield 133, 3) := by decide +kernel
theorem dX9_isRead_25 : decode cX9_isRead 25 = .ok (.aload_n 0, 1) := by decide +kernel
theorem dX9_isRead_26 : decode cX9_isRead 26 = .ok (.iconst 0, 1) := by decide +kernel
theorem dX9_isRead_27 : decode cX9_isRead 27 = .ok (.putfield 139, 3) := by decide +kernel
theorem dX9_isRead_30 : decode cX9_isRead 30 = .ok (.aload_n 0, 1) := by decide +kernel
theorem dX9_isRead_31 : decode cX9_isRead 31 = .ok (.iconst 0, 1) := by decide +kernel
theorem dX9_isRead_32 : decode cX9_isRead 32 = .ok (.putfield 142, 3) := by decide +kernel
theorem dX9_isRead_35 : decode cX9_isRead 35 = .ok (.iconst 1, 1) := by decide +kernel
theorem dX9_isRead_36 : decode cX9_isRead 36 = .ok (.istore_n 1, 1) := by decide +kernel
theorem dX9_isRead_37 : decode cX9_isRead 37 = .ok (.iload_n 1, 1) := by decide +kernel
theorem dX9_isRead_38 : decode cX9_isRead 38 = .ok (.ifCond .eq 164, 3) := by decide +kernel
theorem dX9_isRead_41 : decode cX9_isRead 41 = .ok (.aload_n 0, 1) := by decide +kernel
theorem dX9_isRead_42 : decode cX9_isRead 42 = .ok (.invokevirtual 109, 3) := by decide +kernel
theorem dX9_isRead_45 : decode cX9_isRead 45 = .ok (.aload_n 0, 1) := by decide +kernel
theorem dX9_isRead_46 : decode cX9_isRead 46 = .ok (.getfield 103, 3) := by decide +kernel
theorem dX9_isRead_49 : decode cX9_isRead 49 = .ok (.bipush (-2), 2) := by decide +kernel
theorem dX9_isRead_51 : decode cX9_isRead 51 = .ok (.if_icmp .ne 8, 3) := by decide +kernel
theorem dX9_isRead_54 : decode cX9_isRead 54 = .ok (.iconst 0, 1) := by decide +kernel
theorem dX9_isRead_55 : decode cX9_isRead 55 = .ok (.istore_n 1, 1) := by decide +kernel
theorem dX9_isRead_56 : decode cX9_isRead 56 = .ok (.goto (-19), 3) := by decide +kernel
theorem dX9_isRead_59 : decode cX9_isRead 59 = .ok (.aload_n 0, 1) := by decide +kernel
theorem dX9_isRead_60 : decode cX9_isRead 60 = .ok (.getfield 103, 3) := by decide +kernel
theorem dX9_isRead_63 : decode cX9_isRead 63 = .ok (.bipush 116, 2) := by decide +kernel
theorem dX9_isRead_65 : decode cX9_isRead 65 = .ok (.if_icmp .ne 11, 3) := by decide +kernel
theorem dX9_isRead_68 : decode cX9_isRead 68 = .ok (.aload_n 0, 1) := by decide +kernel
theorem dX9_isRead_69 : decode cX9_isRead 69 = .ok (.invokevirtual 145, 3) := by decide +kernel
theorem dX9_isRead_72 : decode cX9_isRead 72 = .ok (.istore_n 1, 1) := by decide +kernel
theorem dX9_isRead_73 : decode cX9_isRead 73 = .ok (.goto (-36), 3) := by decide +kernel
theorem dX9_isRead_76 : decode cX9_isRead 76 = .ok (.aload_n 0, 1) := by decide +kernel
theorem dX9_isRead_77 : decode cX9_isRead 77 = .ok (.getfield 116, 3) := by decide +kernel
theorem dX9_isRead_80 : decode cX9_isRead 80 = .ok (.ifCond .ne 12, 3) := by decide +kernel
theorem dX9_isRead_83 : decode cX9_isRead 83 = .ok (.aload_n 0, 1) := by decide +kernel
theorem dX9_isRead_84 : decode cX9_isRead 84 = .ok (.iconst 1, 1) := by decide +kernel
theorem dX9_isRead_85 : decode cX9_isRead 85 = .ok (.invokevirtual 112, 3) := by decide +kernel
theorem dX9_isRead_88 : decode cX9_isRead 88 = .ok (.istore_n 1, 1) := by decide +kernel
theorem dX9_isRead_89 : decode cX9_isRead 89 = .ok (.goto (-52), 3) := by decide +kernel
theorem dX9_isRead_92 : decode cX9_isRead 92 = .ok (.aload_n 0, 1) := by decide +kernel
theorem dX9_isRead_93 : decode cX9_isRead 93 = .ok (.getfield 103, 3) := by decide +kernel
theorem dX9_isRead_96 : decode cX9_isRead 96 = .ok (.bipush 102, 2) := by decide +kernel
theorem dX9_isRead_98 : decode cX9_isRead 98 = .ok (.if_icmp .ne 11, 3) := by decide +kernel
theorem dX9_isRead_101 : decode cX9_isRead 101 = .ok (.aload_n 0, 1) := by decide +kernel
theorem dX9_isRead_102 : decode cX9_isRead 102 = .ok (.invokevirtual 148, 3) := by decide +kernel
theorem dX9_isRead_105 : decode cX9_isRead 105 = .ok (.istore_n 1, 1) := by decide +kernel
theorem dX9_isRead_106 : decode cX9_isRead 106 = .ok (.goto (-69), 3) := by decide +kernel
theorem dX9_isRead_109 : decode cX9_isRead 109 = .ok (.aload_n 0, 1) := by decide +kernel
theorem dX9_isRead_110 : decode cX9_isRead 110 = .ok (.getfield 103, 3) := by decide +kernel
theorem dX9_isRead_113 : decode cX9_isRead 113 = .ok (.bipush 107, 2) := by decide +kernel
theorem dX9_isRead_115 : decode cX9_isRead 115 = .ok (.if_icmp .ne 11, 3) := by decide +kernel
theorem dX9_isRead_118 : decode cX9_isRead 118 = .ok (.aload_n 0, 1) := by decide +kernel
theorem dX9_isRead_119 : decode cX9_isRead 119 = .ok (.invokevirtual 151, 3) := by decide +kernel
theorem dX9_isRead_122 : decode cX9_isRead 122 = .ok (.istore_n 1, 1) := by decide +kernel
theorem dX9_isRead_123 : decode cX9_isRead 123 = .ok (.goto (-86), 3) := by decide +kernel
theorem dX9_isRead_126 : decode cX9_isRead 126 = .ok (.aload_n 0, 1) := by decide +kernel
theorem dX9_isRead_127 : decode cX9_isRead 127 = .ok (.getfield 103, 3) := by decide +kernel
theorem dX9_isRead_130 : decode cX9_isRead 130 = .ok (.bipush 119, 2) := by decide +kernel
theorem dX9_isRead_132 : decode cX9_isRead 132 = .ok (.if_icmp .ne 11, 3) := by decide +kernel
theorem dX9_isRead_135 : decode cX9_isRead 135 = .ok (.aload_n 0, 1) := by decide +kernel
theorem dX9_isRead_136 : decode cX9_isRead 136 = .ok (.invokevirtual 154, 3) := by decide +kernel
theorem dX9_isRead_139 : decode cX9_isRead 139 = .ok (.istore_n 1, 1) := by decide +kernel
theorem dX9_isRead_140 : decode cX9_isRead 140 = .ok (.goto (-103), 3) := by decide +kernel
theorem dX9_isRead_143 : decode cX9_isRead 143 = .ok (.aload_n 0, 1) := by decide +kernel
theorem dX9_isRead_144 : decode cX9_isRead 144 = .ok (.getfield 103, 3) := by decide +kernel
theorem dX9_isRead_147 : decode cX9_isRead 147 = .ok (.bipush 109, 2) := by decide +kernel
theorem dX9_isRead_149 : decode cX9_isRead 149 = .ok (.if_icmp .ne 11, 3) := by decide +kernel
theorem dX9_isRead_152 : decode cX9_isRead 152 = .ok (.aload_n 0, 1) := by decide +kernel
theorem dX9_isRead_153 : decode cX9_isRead 153 = .ok (.invokevirtual 157, 3) := by decide +kernel
theorem dX9_isRead_156 : decode cX9_isRead 156 = .ok (.istore_n 1, 1) := by decide +kernel
theorem dX9_isRead_157 : decode cX9_isRead 157 = .ok (.goto (-120), 3) := by decide +kernel
theorem dX9_isRead_160 : decode cX9_isRead 160 = .ok (.aload_n 0, 1) := by decide +kernel
theorem dX9_isRead_161 : decode cX9_isRead 161 = .ok (.getfield 103, 3) := by decide +kernel
theorem dX9_isRead_164 : decode cX9_isRead 164 = .ok (.bipush 98, 2) := by decide +kernel
theorem dX9_isRead_166 : decode cX9_isRead 166 = .ok (.if_icmp .ne 11, 3) := by decide +kernel
theorem dX9_isRead_169 : decode cX9_isRead 169 = .ok (.aload_n 0, 1) := by decide +kernel
theorem dX9_isRead_170 : decode cX9_isRead 170 = .ok (.invokevirtual 160, 3) := by decide +kernel
theorem dX9_isRead_173 : decode cX9_isRead 173 = .ok (.istore_n 1, 1) := by decide +kernel
theorem dX9_isRead_174 : decode cX9_isRead 174 = .ok (.goto (-137), 3) := by decide +kernel
theorem dX9_isRead_177 : decode cX9_isRead 177 = .ok (.aload_n 0, 1) := by decide +kernel
theorem dX9_isRead_178 : decode cX9_isRead 178 = .ok (.getfield 103, 3) := by decide +kernel
theorem dX9_isRead_181 : decode cX9_isRead 181 = .ok (.bipush 103, 2) := by decide +kernel
theorem dX9_isRead_183 : decode cX9_isRead 183 = .ok (.if_icmp .ne 10, 3) := by decide +kernel
theorem dX9_isRead_186 : decode cX9_isRead 186 = .ok (.aload_n 0, 1) := by decide +kernel
theorem dX9_isRead_187 : decode cX9_isRead 187 = .ok (.invokevirtual 163, 3) := by decide +kernel
theorem dX9_isRead_190 : decode cX9_isRead 190 = .ok (.goto 8, 3) := by decide +kernel
theorem dX9_isRead_193 : decode cX9_isRead 193 = .ok (.aload_n 0, 1) := by decide +kernel
theorem dX9_isRead_194 : decode cX9_isRead 194 = .ok (.iconst 1, 1) := by decide +kernel
theorem dX9_isRead_195 : decode cX9_isRead 195 = .ok (.invokevirtual 112, 3) := by decide +kernel
theorem dX9_isRead_198 : decode cX9_isRead 198 = .ok (.istore_n 1, 1) := by decide +kernel
theorem dX9_isRead_199 : decode cX9_isRead 199 = .ok (.goto (-162), 3) := by decide +kernel
theorem dX9_isRead_202 : decode cX9_isRead 202 = .ok (.aload_n 0, 1) := by decide +kernel
theorem dX9_isRead_203 : decode cX9_isRead 203 = .ok (.getfield 13, 3) := by decide +kernel
theorem dX9_isRead_206 : decode cX9_isRead 206 = .ok (.iconst (-1), 1) := by decide +kernel
theorem dX9_isRead_207 : decode cX9_isRead 207 = .ok (.if_icmp .ne 7, 3) := by decide +kernel
theorem dX9_isRead_210 : decode cX9_isRead 210 = .ok (.iconst 1, 1) := by decide +kernel
theorem dX9_isRead_211 : decode cX9_isRead 211 = .ok (.goto 4, 3) := by decide +kernel
theorem dX9_isRead_214 : decode cX9_isRead 214 = .ok (.iconst 0, 1) := by decide +kernel
theorem dX9_isRead_215 : decode cX9_isRead 215 = .ok (.ireturn, 1) := by decide +kernel
theorem dX9_land_0 : decode cX9_land 0 = .ok (.aload_n 0, 1) := by decide +kernel
theorem dX9_land_1 : decode cX9_land 1 = .ok (.iconst (-1), 1) := by decide +kernel
theorem dX9_land_2 : decode cX9_land 2 = .ok (.putfield 13, 3) := by decide +kernel
theorem dX9_land_5 : decode cX9_land 5 = .ok (.aload_n 0, 1) := by decide +kernel
theorem dX9_land_6 : decode cX9_land 6 = .ok (.invokevirtual 166, 3) := by decide +kernel
theorem dX9_land_9 : decode cX9_land 9 = .ok (.istore_n 1, 1) := by decide +kernel
theorem dX9_land_10 : decode cX9_land 10 = .ok (.aload_n 0, 1) := by decide +kernel
theorem dX9_land_11 : decode cX9_land 11 = .ok (.iconst 0, 1) := by decide +kernel
theorem dX9_land_12 : decode cX9_land 12 = .ok (.putfield 90, 3) := by decide +kernel
theorem dX9_land_15 : decode cX9_land 15 = .ok (.iload_n 1, 1) := by decide +kernel
theorem dX9_land_16 : decode cX9_land 16 = .ok (.ifCond .ne 11, 3) := by decide +kernel
theorem dX9_land_19 : decode cX9_land 19 = .ok (.bipush (-10), 2) := by decide +kernel
theorem dX9_land_21 : decode cX9_land 21 = .ok (.aload_n 0, 1) := by decide +kernel
theorem dX9_land_22 : decode cX9_land 22 = .ok (.getfield 106, 3) := by decide +kernel
theorem dX9_land_25 : decode cX9_land 25 = .ok (.isub, 1) := by decide +kernel
theorem dX9_land_26 : decode cX9_land 26 = .ok (.ireturn, 1) := by decide +kernel
theorem dX9_land_27 : decode cX9_land 27 = .ok (.aload_n 0, 1) := by decide +kernel
theorem dX9_land_28 : decode cX9_land 28 = .ok (.aload_n 0, 1) := by decide +kernel
theorem dX9_land_29 : decode cX9_land 29 = .ok (.getfield 116, 3) := by decide +kernel
theorem dX9_land_32 : decode cX9_land 32 = .ok (.putfield 76, 3) := by decide +kernel
theorem dX9_land_35 : decode cX9_land 35 = .ok (.aload_n 0, 1) := by decide +kernel
theorem dX9_land_36 : decode cX9_land 36 = .ok (.aload_n 0, 1) := by decide +kernel
theorem dX9_land_37 : decode cX9_land 37 = .ok (.getfield 127, 3) := by decide +kernel
theorem dX9_land_40 : decode cX9_land 40 = .ok (.putfield 83, 3) := by decide +kernel
theorem dX9_land_43 : decode cX9_land 43 = .ok (.aload_n 0, 1) := by decide +kernel
theorem dX9_land_44 : decode cX9_land 44 = .ok (.aload_n 0, 1) := by decide +kernel
theorem dX9_land_45 : decode cX9_land 45 = .ok (.getfield 130, 3) := by decide +kernel
theorem dX9_land_48 : decode cX9_land 48 = .ok (.putfield 169, 3) := by decide +kernel
theorem dX9_land_51 : decode cX9_land 51 = .ok (.aload_n 0, 1) := by decide +kernel
theorem dX9_land_52 : decode cX9_land 52 = .ok (.aload_n 0, 1) := by decide +kernel
theorem dX9_land_53 : decode cX9_land 53 = .ok (.getfield 133, 3) := by decide +kernel
theorem dX9_land_56 : decode cX9_land 56 = .ok (.putfield 172, 3) := by decide +kernel
theorem dX9_land_59 : decode cX9_land 59 = .ok (.aload_n 0, 1) := by decide +kernel
theorem dX9_land_60 : decode cX9_land 60 = .ok (.aload_n 0, 1) := by decide +kernel
theorem dX9_land_61 : decode cX9_land 61 = .ok (.getfield 139, 3) := by decide +kernel
theorem dX9_land_64 : decode cX9_land 64 = .ok (.putfield 86, 3) := by decide +kernel
theorem dX9_land_67 : decode cX9_land 67 = .ok (.aload_n 0, 1) := by decide +kernel
theorem dX9_land_68 : decode cX9_land 68 = .ok (.aload_n 0, 1) := by decide +kernel
theorem dX9_land_69 : decode cX9_land 69 = .ok (.getfield 142, 3) := by decide +kernel
theorem dX9_land_72 : decode cX9_land 72 = .ok (.putfield 175, 3) := by decide +kernel
theorem dX9_land_75 : decode cX9_land 75 = .ok (.iconst 0, 1) := by decide +kernel
theorem dX9_land_76 : decode cX9_land 76 = .ok (.istore_n 2, 1) := by decide +kernel
theorem dX9_land_77 : decode cX9_land 77 = .ok (.iload_n 2, 1) := by decide +kernel
theorem dX9_land_78 : decode cX9_land 78 = .ok (.iconst 4, 1) := by decide +kernel
theorem dX9_land_79 : decode cX9_land 79 = .ok (.aload_n 0, 1) := by decide +kernel
theorem dX9_land_80 : decode cX9_land 80 = .ok (.getfield 83, 3) := by decide +kernel
theorem dX9_land_83 : decode cX9_land 83 = .ok (.imul, 1) := by decide +kernel
theorem dX9_land_84 : decode cX9_land 84 = .ok (.if_icmp .ge 21, 3) := by decide +kernel
theorem dX9_land_87 : decode cX9_land 87 = .ok (.aload_n 0, 1) := by decide +kernel
theorem dX9_land_88 : decode cX9_land 88 = .ok (.getfield 26, 3) := by decide +kernel
theorem dX9_land_91 : decode cX9_land 91 = .ok (.iload_n 2, 1) := by decide +kernel
theorem dX9_land_92 : decode cX9_land 92 = .ok (.aload_n 0, 1) := by decide +kernel
theorem dX9_land_93 : decode cX9_land 93 = .ok (.getfield 17, 3) := by decide +kernel
theorem dX9_land_96 : decode cX9_land 96 = .ok (.iload_n 2, 1) := by decide +kernel
theorem dX9_land_97 : decode cX9_land 97 = .ok (.iaload, 1) := by decide +kernel
theorem dX9_land_98 : decode cX9_land 98 = .ok (.iastore, 1) := by decide +kernel
theorem dX9_land_99 : decode cX9_land 99 = .ok (.iinc 2 1, 3) := by decide +kernel
theorem dX9_land_102 : decode cX9_land 102 = .ok (.goto (-25), 3) := by decide +kernel
theorem dX9_land_105 : decode cX9_land 105 = .ok (.iconst 0, 1) := by decide +kernel
theorem dX9_land_106 : decode cX9_land 106 = .ok (.istore_n 2, 1) := by decide +kernel
theorem dX9_land_107 : decode cX9_land 107 = .ok (.iload_n 2, 1) := by decide +kernel
theorem dX9_land_108 : decode cX9_land 108 = .ok (.iconst 2, 1) := by decide +kernel
theorem dX9_land_109 : decode cX9_land 109 = .ok (.aload_n 0, 1) := by decide +kernel
theorem dX9_land_110 : decode cX9_land 110 = .ok (.getfield 169, 3) := by decide +kernel
theorem dX9_land_113 : decode cX9_land 113 = .ok (.imul, 1) := by decide +kernel
theorem dX9_land_114 : decode cX9_land 114 = .ok (.if_icmp .ge 21, 3) := by decide +kernel
theorem dX9_land_117 : decode cX9_land 117 = .ok (.aload_n 0, 1) := by decide +kernel
theorem dX9_land_118 : decode cX9_land 118 = .ok (.getfield 29, 3) := by decide +kernel
theorem dX9_land_121 : decode cX9_land 121 = .ok (.iload_n 2, 1) := by decide +kernel
theorem dX9_land_122 : decode cX9_land 122 = .ok (.aload_n 0, 1) := by decide +kernel
theorem dX9_land_123 : decode cX9_land 123 = .ok (.getfield 20, 3) := by decide +kernel
theorem dX9_land_126 : decode cX9_land 126 = .ok (.iload_n 2, 1) := by decide +kernel
theorem dX9_land_127 : decode cX9_land 127 = .ok (.iaload, 1) := by decide +kernel
theorem dX9_land_128 : decode cX9_land 128 = .ok (.iastore, 1) := by decide +kernel
theorem dX9_land_129 : decode cX9_land 129 = .ok (.iinc 2 1, 3) := by decide +kernel
theorem dX9_land_132 : decode cX9_land 132 = .ok (.goto (-25), 3) := by decide +kernel
theorem dX9_land_135 : decode cX9_land 135 = .ok (.iconst 0, 1) := by decide +kernel
theorem dX9_land_136 : decode cX9_land 136 = .ok (.istore_n 2, 1) := by decide +kernel
theorem dX9_land_137 : decode cX9_land 137 = .ok (.iload_n 2, 1) := by decide +kernel
theorem dX9_land_138 : decode cX9_land 138 = .ok (.aload_n 0, 1) := by decide +kernel
theorem dX9_land_139 : decode cX9_land 139 = .ok (.getfield 86, 3) := by decide +kernel
theorem dX9_land_142 : decode cX9_land 142 = .ok (.if_icmp .ge 21, 3) := by decide +kernel
theorem dX9_land_145 : decode cX9_land 145 = .ok (.aload_n 0, 1) := by decide +kernel
theorem dX9_land_146 : decode cX9_land 146 = .ok (.getfield 32, 3) := by decide +kernel
theorem dX9_land_149 : decode cX9_land 149 = .ok (.iload_n 2, 1) := by decide +kernel
theorem dX9_land_150 : decode cX9_land 150 = .ok (.aload_n 0, 1) := by decide +kernel
theorem dX9_land_151 : decode cX9_land 151 = .ok (.getfield 23, 3) := by decide +kernel
theorem dX9_land_154 : decode cX9_land 154 = .ok (.iload_n 2, 1) := by decide +kernel
theorem dX9_land_155 : decode cX9_land 155 = .ok (.iaload, 1) := by decide +kernel
theorem dX9_land_156 : decode cX9_land 156 = .ok (.iastore, 1) := by decide +kernel
theorem dX9_land_157 : decode cX9_land 157 = .ok (.iinc 2 1, 3) := by decide +kernel
theorem dX9_land_160 : decode cX9_land 160 = .ok (.goto (-23), 3) := by decide +kernel
theorem dX9_land_163 : decode cX9_land 163 = .ok (.aload_n 0, 1) := by decide +kernel
theorem dX9_land_164 : decode cX9_land 164 = .ok (.invokevirtual 70, 3) := by decide +kernel
theorem dX9_land_167 : decode cX9_land 167 = .ok (.iconst 0, 1) := by decide +kernel
theorem dX9_land_168 : decode cX9_land 168 = .ok (.istore_n 2, 1) := by decide +kernel
theorem dX9_land_169 : decode cX9_land 169 = .ok (.iload_n 2, 1) := by decide +kernel
theorem dX9_land_170 : decode cX9_land 170 = .ok (.aload_n 0, 1) := by decide +kernel
theorem dX9_land_171 : decode cX9_land 171 = .ok (.getfield 83, 3) := by decide +kernel
theorem dX9_land_174 : decode cX9_land 174 = .ok (.if_icmp .ge 72, 3) := by decide +kernel
theorem dX9_land_177 : decode cX9_land 177 = .ok (.iconst 0, 1) := by decide +kernel
theorem dX9_land_178 : decode cX9_land 178 = .ok (.istore_n 3, 1) := by decide +kernel
theorem dX9_land_179 : decode cX9_land 179 = .ok (.iload_n 3, 1) := by decide +kernel
theorem dX9_land_180 : decode cX9_land 180 = .ok (.aload_n 0, 1) := by decide +kernel
theorem dX9_land_181 : decode cX9_land 181 = .ok (.getfield 76, 3) := by decide +kernel
theorem dX9_land_184 : decode cX9_land 184 = .ok (.if_icmp .ge 56, 3) := by decide +kernel
theorem dX9_land_187 : decode cX9_land 187 = .ok (.aload_n 0, 1) := by decide +kernel
theorem dX9_land_188 : decode cX9_land 188 = .ok (.getfield 26, 3) := by decide +kernel
theorem dX9_land_191 : decode cX9_land 191 = .ok (.iconst 4, 1) := by decide +kernel
theorem dX9_land_192 : decode cX9_land 192 = .ok (.iload_n 2, 1) := by decide +kernel
theorem dX9_land_193 : decode cX9_land 193 = .ok (.imul, 1) := by decide +kernel
theorem dX9_land_194 : decode cX9_land 194 = .ok (.iconst 3, 1) := by decide +kernel
theorem dX9_land_195 : decode cX9_land 195 = .ok (.iadd, 1) := by decide +kernel
theorem dX9_land_196 : decode cX9_land 196 = .ok (.iaload, 1) := by decide +kernel
theorem dX9_land_197 : decode cX9_land 197 = .ok (.iconst (-1), 1) := by decide +kernel
theorem dX9_land_198 : decode cX9_land 198 = .ok (.if_icmp .eq 42, 3) := by decide +kernel
theorem dX9_land_201 : decode cX9_land 201 = .ok (.aload_n 0, 1) := by decide +kernel
theorem dX9_land_202 : decode cX9_land 202 = .ok (.getfield 35, 3) := by decide +kernel
theorem dX9_land_205 : decode cX9_land 205 = .ok (.bipush 8, 2) := by decide +kernel
theorem dX9_land_207 : decode cX9_land 207 = .ok (.iload_n 3, 1) := by decide +kernel
theorem dX9_land_208 : decode cX9_land 208 = .ok (.imul, 1) := by decide +kernel
theorem dX9_land_209 : decode cX9_land 209 = .ok (.iload_n 2, 1) := by decide +kernel
theorem dX9_land_210 : decode cX9_land 210 = .ok (.iadd, 1) := by decide +kernel
theorem dX9_land_211 : decode cX9_land 211 = .ok (.aload_n 0, 1) := by decide +kernel
theorem dX9_land_212 : decode cX9_land 212 = .ok (.getfield 26, 3) := by decide +kernel
theorem dX9_land_215 : decode cX9_land 215 = .ok (.iconst 4, 1) := by decide +kernel
theorem dX9_land_216 : decode cX9_land 216 = .ok (.iload_n 2, 1) := by decide +kernel
theorem dX9_land_217 : decode cX9_land 217 = .ok (.imul, 1) := by decide +kernel
theorem dX9_land_218 : decode cX9_land 218 = .ok (.iconst 3, 1) := by decide +kernel
theorem dX9_land_219 : decode cX9_land 219 = .ok (.iadd, 1) := by decide +kernel
theorem dX9_land_220 : decode cX9_land 220 = .ok (.iaload, 1) := by decide +kernel
theorem dX9_land_221 : decode cX9_land 221 = .ok (.iload_n 3, 1) := by decide +kernel
theorem dX9_land_222 : decode cX9_land 222 = .ok (.invokestatic 136, 3) := by decide +kernel
theorem dX9_land_225 : decode cX9_land 225 = .ok (.ifCond .eq 7, 3) := by decide +kernel
theorem dX9_land_228 : decode cX9_land 228 = .ok (.iconst 0, 1) := by decide +kernel
theorem dX9_land_229 : decode cX9_land 229 = .ok (.goto 4, 3) := by decide +kernel
theorem dX9_land_232 : decode cX9_land 232 = .ok (.iconst (-1), 1) := by decide +kernel
theorem dX9_land_233 : decode cX9_land 233 = .ok (.iastore, 1) := by decide +kernel
theorem dX9_land_234 : decode cX9_land 234 = .ok (.iinc 3 1, 3) := by decide +kernel
theorem dX9_land_237 : decode cX9_land 237 = .ok (.goto (-58), 3) := by decide +kernel
theorem dX9_land_240 : decode cX9_land 240 = .ok (.iinc 2 1, 3) := by decide +kernel
theorem dX9_land_243 : decode cX9_land 243 = .ok (.goto (-74), 3) := by decide +kernel
theorem dX9_land_246 : decode cX9_land 246 = .ok (.aload_n 0, 1) := by decide +kernel
theorem dX9_land_247 : decode cX9_land 247 = .ok (.getfield 76, 3) := by decide +kernel
theorem dX9_land_250 : decode cX9_land 250 = .ok (.ireturn, 1) := by decide +kernel
theorem dX9_fault_0 : decode cX9_fault 0 = .ok (.aload_n 0, 1) := by decide +kernel
theorem dX9_fault_1 : decode cX9_fault 1 = .ok (.getfield 13, 3) := by decide +kernel
theorem dX9_fault_4 : decode cX9_fault 4 = .ok (.ireturn, 1) := by decide +kernel
theorem dX9_personOf_0 : decode cX9_personOf 0 = .ok (.aload_n 0, 1) := by decide +kernel
theorem dX9_personOf_1 : decode cX9_personOf 1 = .ok (.getfield 26, 3) := by decide +kernel
theorem dX9_personOf_4 : decode cX9_personOf 4 = .ok (.iconst 4, 1) := by decide +kernel
theorem dX9_personOf_5 : decode cX9_personOf 5 = .ok (.iload_n 1, 1) := by decide +kernel
theorem dX9_personOf_6 : decode cX9_personOf 6 = .ok (.imul, 1) := by decide +kernel
theorem dX9_personOf_7 : decode cX9_personOf 7 = .ok (.iaload, 1) := by decide +kernel
theorem dX9_personOf_8 : decode cX9_personOf 8 = .ok (.ireturn, 1) := by decide +kernel
theorem dX9_gramsOf_0 : decode cX9_gramsOf 0 = .ok (.aload_n 0, 1) := by decide +kernel
theorem dX9_gramsOf_1 : decode cX9_gramsOf 1 = .ok (.getfield 26, 3) := by decide +kernel
theorem dX9_gramsOf_4 : decode cX9_gramsOf 4 = .ok (.iconst 4, 1) := by decide +kernel
theorem dX9_gramsOf_5 : decode cX9_gramsOf 5 = .ok (.iload_n 1, 1) := by decide +kernel
theorem dX9_gramsOf_6 : decode cX9_gramsOf 6 = .ok (.imul, 1) := by decide +kernel
theorem dX9_gramsOf_7 : decode cX9_gramsOf 7 = .ok (.iconst 1, 1) := by decide +kernel
theorem dX9_gramsOf_8 : decode cX9_gramsOf 8 = .ok (.iadd, 1) := by decide +kernel
theorem dX9_gramsOf_9 : decode cX9_gramsOf 9 = .ok (.iaload, 1) := by decide +kernel
theorem dX9_gramsOf_10 : decode cX9_gramsOf 10 = .ok (.ireturn, 1) := by decide +kernel
theorem dX9_isLie_0 : decode cX9_isLie 0 = .ok (.aload_n 0, 1) := by decide +kernel
theorem dX9_isLie_1 : decode cX9_isLie 1 = .ok (.getfield 26, 3) := by decide +kernel
theorem dX9_isLie_4 : decode cX9_isLie 4 = .ok (.iconst 4, 1) := by decide +kernel
theorem dX9_isLie_5 : decode cX9_isLie 5 = .ok (.iload_n 1, 1) := by decide +kernel
theorem dX9_isLie_6 : decode cX9_isLie 6 = .ok (.imul, 1) := by decide +kernel
theorem dX9_isLie_7 : decode cX9_isLie 7 = .ok (.iconst 2, 1) := by decide +kernel
theorem dX9_isLie_8 : decode cX9_isLie 8 = .ok (.iadd, 1) := by decide +kernel
theorem dX9_isLie_9 : decode cX9_isLie 9 = .ok (.iaload, 1) := by decide +kernel
theorem dX9_isLie_10 : decode cX9_isLie 10 = .ok (.iconst 1, 1) := by decide +kernel
theorem dX9_isLie_11 : decode cX9_isLie 11 = .ok (.if_icmp .ne 7, 3) := by decide +kernel
theorem dX9_isLie_14 : decode cX9_isLie 14 = .ok (.iconst 1, 1) := by decide +kernel
theorem dX9_isLie_15 : decode cX9_isLie 15 = .ok (.goto 4, 3) := by decide +kernel
theorem dX9_isLie_18 : decode cX9_isLie 18 = .ok (.iconst 0, 1) := by decide +kernel
theorem dX9_isLie_19 : decode cX9_isLie 19 = .ok (.ireturn, 1) := by decide +kernel
theorem dX9_knows_0 : decode cX9_knows 0 = .ok (.aload_n 0, 1) := by decide +kernel
theorem dX9_knows_1 : decode cX9_knows 1 = .ok (.bipush 8, 2) := by decide +kernel
theorem dX9_knows_3 : decode cX9_knows 3 = .ok (.iload_n 1, 1) := by decide +kernel
theorem dX9_knows_4 : decode cX9_knows 4 = .ok (.imul, 1) := by decide +kernel
theorem dX9_knows_5 : decode cX9_knows 5 = .ok (.iload_n 2, 1) := by decide +kernel
theorem dX9_knows_6 : decode cX9_knows 6 = .ok (.iadd, 1) := by decide +kernel
theorem dX9_knows_7 : decode cX9_knows 7 = .ok (.iaload, 1) := by decide +kernel
theorem dX9_knows_8 : decode cX9_knows 8 = .ok (.iconst (-1), 1) := by decide +kernel
theorem dX9_knows_9 : decode cX9_knows 9 = .ok (.if_icmp .eq 7, 3) := by decide +kernel
theorem dX9_knows_12 : decode cX9_knows 12 = .ok (.iconst 1, 1) := by decide +kernel
theorem dX9_knows_13 : decode cX9_knows 13 = .ok (.goto 4, 3) := by decide +kernel
theorem dX9_knows_16 : decode cX9_knows 16 = .ok (.iconst 0, 1) := by decide +kernel
theorem dX9_knows_17 : decode cX9_knows 17 = .ok (.ireturn, 1) := by decide +kernel
theorem dX9_knowersOf_0 : decode cX9_knowersOf 0 = .ok (.iconst 0, 1) := by decide +kernel
theorem dX9_knowersOf_1 : decode cX9_knowersOf 1 = .ok (.istore_n 3, 1) := by decide +kernel
theorem dX9_knowersOf_2 : decode cX9_knowersOf 2 = .ok (.iconst 0, 1) := by decide +kernel
theorem dX9_knowersOf_3 : decode cX9_knowersOf 3 = .ok (.istore 4, 2) := by decide +kernel
theorem dX9_knowersOf_5 : decode cX9_knowersOf 5 = .ok (.iload 4, 2) := by decide +kernel
theorem dX9_knowersOf_7 : decode cX9_knowersOf 7 = .ok (.aload_n 0, 1) := by decide +kernel
theorem dX9_knowersOf_8 : decode cX9_knowersOf 8 = .ok (.getfield 76, 3) := by decide +kernel
theorem dX9_knowersOf_11 : decode cX9_knowersOf 11 = .ok (.if_icmp .ge 30, 3) := by decide +kernel
theorem dX9_knowersOf_14 : decode cX9_knowersOf 14 = .ok (.iload_n 3, 1) := by decide +kernel
theorem dX9_knowersOf_15 : decode cX9_knowersOf 15 = .ok (.aload_n 1, 1) := by decide +kernel
theorem dX9_knowersOf_16 : decode cX9_knowersOf 16 = .ok (.iload 4, 2) := by decide +kernel
theorem dX9_knowersOf_18 : decode cX9_knowersOf 18 = .ok (.iload_n 2, 1) := by decide +kernel
theorem dX9_knowersOf_19 : decode cX9_knowersOf 19 = .ok (.invokestatic 178, 3) := by decide +kernel
theorem dX9_knowersOf_22 : decode cX9_knowersOf 22 = .ok (.ifCond .eq 10, 3) := by decide +kernel
theorem dX9_knowersOf_25 : decode cX9_knowersOf 25 = .ok (.iconst 1, 1) := by decide +kernel
theorem dX9_knowersOf_26 : decode cX9_knowersOf 26 = .ok (.iload 4, 2) := by decide +kernel
theorem dX9_knowersOf_28 : decode cX9_knowersOf 28 = .ok (.ishl, 1) := by decide +kernel
theorem dX9_knowersOf_29 : decode cX9_knowersOf 29 = .ok (.goto 4, 3) := by decide +kernel
theorem dX9_knowersOf_32 : decode cX9_knowersOf 32 = .ok (.iconst 0, 1) := by decide +kernel
theorem dX9_knowersOf_33 : decode cX9_knowersOf 33 = .ok (.ior, 1) := by decide +kernel
theorem dX9_knowersOf_34 : decode cX9_knowersOf 34 = .ok (.istore_n 3, 1) := by decide +kernel
theorem dX9_knowersOf_35 : decode cX9_knowersOf 35 = .ok (.iinc 4 1, 3) := by decide +kernel
theorem dX9_knowersOf_38 : decode cX9_knowersOf 38 = .ok (.goto (-33), 3) := by decide +kernel
theorem dX9_knowersOf_41 : decode cX9_knowersOf 41 = .ok (.iload_n 3, 1) := by decide +kernel
theorem dX9_knowersOf_42 : decode cX9_knowersOf 42 = .ok (.ireturn, 1) := by decide +kernel
theorem dX9_headsOf_0 : decode cX9_headsOf 0 = .ok (.iconst 0, 1) := by decide +kernel
theorem dX9_headsOf_1 : decode cX9_headsOf 1 = .ok (.istore_n 3, 1) := by decide +kernel
theorem dX9_headsOf_2 : decode cX9_headsOf 2 = .ok (.iconst 0, 1) := by decide +kernel
theorem dX9_headsOf_3 : decode cX9_headsOf 3 = .ok (.istore 4, 2) := by decide +kernel
theorem dX9_headsOf_5 : decode cX9_headsOf 5 = .ok (.iload 4, 2) := by decide +kernel
theorem dX9_headsOf_7 : decode cX9_headsOf 7 = .ok (.aload_n 0, 1) := by decide +kernel
theorem dX9_headsOf_8 : decode cX9_headsOf 8 = .ok (.getfield 76, 3) := by decide +kernel
theorem dX9_headsOf_11 : decode cX9_headsOf 11 = .ok (.if_icmp .ge 37, 3) := by decide +kernel
theorem dX9_headsOf_14 : decode cX9_headsOf 14 = .ok (.iload_n 3, 1) := by decide +kernel
theorem dX9_headsOf_15 : decode cX9_headsOf 15 = .ok (.iload 4, 2) := by decide +kernel
theorem dX9_headsOf_17 : decode cX9_headsOf 17 = .ok (.aload_n 0, 1) := by decide +kernel
theorem dX9_headsOf_18 : decode cX9_headsOf 18 = .ok (.iload_n 2, 1) := by decide +kernel
theorem dX9_headsOf_19 : decode cX9_headsOf 19 = .ok (.invokevirtual 182, 3) := by decide +kernel
theorem dX9_headsOf_22 : decode cX9_headsOf 22 = .ok (.if_icmp .eq 17, 3) := by decide +kernel
theorem dX9_headsOf_25 : decode cX9_headsOf 25 = .ok (.aload_n 1, 1) := by decide +kernel
theorem dX9_headsOf_26 : decode cX9_headsOf 26 = .ok (.iload 4, 2) := by decide +kernel
theorem dX9_headsOf_28 : decode cX9_headsOf 28 = .ok (.iload_n 2, 1) := by decide +kernel
theorem dX9_headsOf_29 : decode cX9_headsOf 29 = .ok (.invokestatic 178, 3) := by decide +kernel
theorem dX9_headsOf_32 : decode cX9_headsOf 32 = .ok (.ifCond .eq 7, 3) := by decide +kernel
theorem dX9_headsOf_35 : decode cX9_headsOf 35 = .ok (.iconst 1, 1) := by decide +kernel
theorem dX9_headsOf_36 : decode cX9_headsOf 36 = .ok (.goto 4, 3) := by decide +kernel
theorem dX9_headsOf_39 : decode cX9_headsOf 39 = .ok (.iconst 0, 1) := by decide +kernel
theorem dX9_headsOf_40 : decode cX9_headsOf 40 = .ok (.iadd, 1) := by decide +kernel
theorem dX9_headsOf_41 : decode cX9_headsOf 41 = .ok (.istore_n 3, 1) := by decide +kernel
theorem dX9_headsOf_42 : decode cX9_headsOf 42 = .ok (.iinc 4 1, 3) := by decide +kernel
theorem dX9_headsOf_45 : decode cX9_headsOf 45 = .ok (.goto (-40), 3) := by decide +kernel
theorem dX9_headsOf_48 : decode cX9_headsOf 48 = .ok (.iload_n 3, 1) := by decide +kernel
theorem dX9_headsOf_49 : decode cX9_headsOf 49 = .ok (.ireturn, 1) := by decide +kernel
theorem dX9_weightOf_0 : decode cX9_weightOf 0 = .ok (.iconst 0, 1) := by decide +kernel
theorem dX9_weightOf_1 : decode cX9_weightOf 1 = .ok (.istore_n 3, 1) := by decide +kernel
theorem dX9_weightOf_2 : decode cX9_weightOf 2 = .ok (.iconst 0, 1) := by decide +kernel
theorem dX9_weightOf_3 : decode cX9_weightOf 3 = .ok (.istore 4, 2) := by decide +kernel
theorem dX9_weightOf_5 : decode cX9_weightOf 5 = .ok (.iload 4, 2) := by decide +kernel
theorem dX9_weightOf_7 : decode cX9_weightOf 7 = .ok (.aload_n 0, 1) := by decide +kernel
theorem dX9_weightOf_8 : decode cX9_weightOf 8 = .ok (.getfield 83, 3) := by decide +kernel
theorem dX9_weightOf_11 : decode cX9_weightOf 11 = .ok (.if_icmp .ge 59, 3) := by decide +kernel
theorem dX9_weightOf_14 : decode cX9_weightOf 14 = .ok (.aload_n 0, 1) := by decide +kernel
theorem dX9_weightOf_15 : decode cX9_weightOf 15 = .ok (.iload 4, 2) := by decide +kernel
theorem dX9_weightOf_17 : decode cX9_weightOf 17 = .ok (.invokevirtual 182, 3) := by decide +kernel
theorem dX9_weightOf_20 : decode cX9_weightOf 20 = .ok (.iload_n 2, 1) := by decide +kernel
theorem dX9_weightOf_21 : decode cX9_weightOf 21 = .ok (.if_icmp .ne 20, 3) := by decide +kernel
theorem dX9_weightOf_24 : decode cX9_weightOf 24 = .ok (.aload_n 0, 1) := by decide +kernel
theorem dX9_weightOf_25 : decode cX9_weightOf 25 = .ok (.iload 4, 2) := by decide +kernel
theorem dX9_weightOf_27 : decode cX9_weightOf 27 = .ok (.invokevirtual 186, 3) := by decide +kernel
theorem dX9_weightOf_30 : decode cX9_weightOf 30 = .ok (.aload_n 0, 1) := by decide +kernel
theorem dX9_weightOf_31 : decode cX9_weightOf 31 = .ok (.aload_n 1, 1) := by decide +kernel
theorem dX9_weightOf_32 : decode cX9_weightOf 32 = .ok (.iload 4, 2) := by decide +kernel
theorem dX9_weightOf_34 : decode cX9_weightOf 34 = .ok (.invokevirtual 189, 3) := by decide +kernel
theorem dX9_weightOf_37 : decode cX9_weightOf 37 = .ok (.imul, 1) := by decide +kernel
theorem dX9_weightOf_38 : decode cX9_weightOf 38 = .ok (.goto 4, 3) := by decide +kernel
theorem dX9_weightOf_41 : decode cX9_weightOf 41 = .ok (.iconst 0, 1) := by decide +kernel
theorem dX9_weightOf_42 : decode cX9_weightOf 42 = .ok (.istore 5, 2) := by decide +kernel
theorem dX9_weightOf_44 : decode cX9_weightOf 44 = .ok (.iload_n 3, 1) := by decide +kernel
theorem dX9_weightOf_45 : decode cX9_weightOf 45 = .ok (.aload_n 0, 1) := by decide +kernel
theorem dX9_weightOf_46 : decode cX9_weightOf 46 = .ok (.iload 4, 2) := by decide +kernel
theorem dX9_weightOf_48 : decode cX9_weightOf 48 = .ok (.invokevirtual 193, 3) := by decide +kernel
theorem dX9_weightOf_51 : decode cX9_weightOf 51 = .ok (.ifCond .eq 9, 3) := by decide +kernel
theorem dX9_weightOf_54 : decode cX9_weightOf 54 = .ok (.iload 5, 2) := by decide +kernel
theorem dX9_weightOf_56 : decode cX9_weightOf 56 = .ok (.ineg, 1) := by decide +kernel
theorem dX9_weightOf_57 : decode cX9_weightOf 57 = .ok (.goto 5, 3) := by decide +kernel
theorem dX9_weightOf_60 : decode cX9_weightOf 60 = .ok (.iload 5, 2) := by decide +kernel
theorem dX9_weightOf_62 : decode cX9_weightOf 62 = .ok (.iadd, 1) := by decide +kernel
theorem dX9_weightOf_63 : decode cX9_weightOf 63 = .ok (.istore_n 3, 1) := by decide +kernel
theorem dX9_weightOf_64 : decode cX9_weightOf 64 = .ok (.iinc 4 1, 3) := by decide +kernel
theorem dX9_weightOf_67 : decode cX9_weightOf 67 = .ok (.goto (-62), 3) := by decide +kernel
theorem dX9_weightOf_70 : decode cX9_weightOf 70 = .ok (.iload_n 3, 1) := by decide +kernel
theorem dX9_weightOf_71 : decode cX9_weightOf 71 = .ok (.ireturn, 1) := by decide +kernel
theorem dX9_friendsOf_0 : decode cX9_friendsOf 0 = .ok (.iconst 0, 1) := by decide +kernel
theorem dX9_friendsOf_1 : decode cX9_friendsOf 1 = .ok (.istore_n 2, 1) := by decide +kernel
theorem dX9_friendsOf_2 : decode cX9_friendsOf 2 = .ok (.iconst 0, 1) := by decide +kernel
theorem dX9_friendsOf_3 : decode cX9_friendsOf 3 = .ok (.istore_n 3, 1) := by decide +kernel
theorem dX9_friendsOf_4 : decode cX9_friendsOf 4 = .ok (.iload_n 3, 1) := by decide +kernel
theorem dX9_friendsOf_5 : decode cX9_friendsOf 5 = .ok (.aload_n 0, 1) := by decide +kernel
theorem dX9_friendsOf_6 : decode cX9_friendsOf 6 = .ok (.getfield 169, 3) := by decide +kernel
theorem dX9_friendsOf_9 : decode cX9_friendsOf 9 = .ok (.if_icmp .ge 71, 3) := by decide +kernel
theorem dX9_friendsOf_12 : decode cX9_friendsOf 12 = .ok (.iload_n 2, 1) := by decide +kernel
theorem dX9_friendsOf_13 : decode cX9_friendsOf 13 = .ok (.aload_n 0, 1) := by decide +kernel
theorem dX9_friendsOf_14 : decode cX9_friendsOf 14 = .ok (.getfield 29, 3) := by decide +kernel
theorem dX9_friendsOf_17 : decode cX9_friendsOf 17 = .ok (.iconst 2, 1) := by decide +kernel
theorem dX9_friendsOf_18 : decode cX9_friendsOf 18 = .ok (.iload_n 3, 1) := by decide +kernel
theorem dX9_friendsOf_19 : decode cX9_friendsOf 19 = .ok (.imul, 1) := by decide +kernel
theorem dX9_friendsOf_20 : decode cX9_friendsOf 20 = .ok (.iaload, 1) := by decide +kernel
theorem dX9_friendsOf_21 : decode cX9_friendsOf 21 = .ok (.iload_n 1, 1) := by decide +kernel
theorem dX9_friendsOf_22 : decode cX9_friendsOf 22 = .ok (.if_icmp .ne 18, 3) := by decide +kernel
theorem dX9_friendsOf_25 : decode cX9_friendsOf 25 = .ok (.iconst 1, 1) := by decide +kernel
theorem dX9_friendsOf_26 : decode cX9_friendsOf 26 = .ok (.aload_n 0, 1) := by decide +kernel
theorem dX9_friendsOf_27 : decode cX9_friendsOf 27 = .ok (.getfield 29, 3) := by decide +kernel
theorem dX9_friendsOf_30 : decode cX9_friendsOf 30 = .ok (.iconst 2, 1) := by decide +kernel
theorem dX9_friendsOf_31 : decode cX9_friendsOf 31 = .ok (.iload_n 3, 1) := by decide +kernel
theorem dX9_friendsOf_32 : decode cX9_friendsOf 32 = .ok (.imul, 1) := by decide +kernel
theorem dX9_friendsOf_33 : decode cX9_friendsOf 33 = .ok (.iconst 1, 1) := by decide +kernel
theorem dX9_friendsOf_34 : decode cX9_friendsOf 34 = .ok (.iadd, 1) := by decide +kernel
theorem dX9_friendsOf_35 : decode cX9_friendsOf 35 = .ok (.iaload, 1) := by decide +kernel
theorem dX9_friendsOf_36 : decode cX9_friendsOf 36 = .ok (.ishl, 1) := by decide +kernel
theorem dX9_friendsOf_37 : decode cX9_friendsOf 37 = .ok (.goto 4, 3) := by decide +kernel
theorem dX9_friendsOf_40 : decode cX9_friendsOf 40 = .ok (.iconst 0, 1) := by decide +kernel
theorem dX9_friendsOf_41 : decode cX9_friendsOf 41 = .ok (.ior, 1) := by decide +kernel
theorem dX9_friendsOf_42 : decode cX9_friendsOf 42 = .ok (.istore_n 2, 1) := by decide +kernel
theorem dX9_friendsOf_43 : decode cX9_friendsOf 43 = .ok (.iload_n 2, 1) := by decide +kernel
theorem dX9_friendsOf_44 : decode cX9_friendsOf 44 = .ok (.aload_n 0, 1) := by decide +kernel
theorem dX9_friendsOf_45 : decode cX9_friendsOf 45 = .ok (.getfield 29, 3) := by decide +kernel
theorem dX9_friendsOf_48 : decode cX9_friendsOf 48 = .ok (.iconst 2, 1) := by decide +kernel
theorem dX9_friendsOf_49 : decode cX9_friendsOf 49 = .ok (.iload_n 3, 1) := by decide +kernel
theorem dX9_friendsOf_50 : decode cX9_friendsOf 50 = .ok (.imul, 1) := by decide +kernel
theorem dX9_friendsOf_51 : decode cX9_friendsOf 51 = .ok (.iconst 1, 1) := by decide +kernel
theorem dX9_friendsOf_52 : decode cX9_friendsOf 52 = .ok (.iadd, 1) := by decide +kernel
theorem dX9_friendsOf_53 : decode cX9_friendsOf 53 = .ok (.iaload, 1) := by decide +kernel
theorem dX9_friendsOf_54 : decode cX9_friendsOf 54 = .ok (.iload_n 1, 1) := by decide +kernel
theorem dX9_friendsOf_55 : decode cX9_friendsOf 55 = .ok (.if_icmp .ne 16, 3) := by decide +kernel
theorem dX9_friendsOf_58 : decode cX9_friendsOf 58 = .ok (.iconst 1, 1) := by decide +kernel
theorem dX9_friendsOf_59 : decode cX9_friendsOf 59 = .ok (.aload_n 0, 1) := by decide +kernel
theorem dX9_friendsOf_60 : decode cX9_friendsOf 60 = .ok (.getfield 29, 3) := by decide +kernel
theorem dX9_friendsOf_63 : decode cX9_friendsOf 63 = .ok (.iconst 2, 1) := by decide +kernel
theorem dX9_friendsOf_64 : decode cX9_friendsOf 64 = .ok (.iload_n 3, 1) := by decide +kernel
theorem dX9_friendsOf_65 : decode cX9_friendsOf 65 = .ok (.imul, 1) := by decide +kernel
theorem dX9_friendsOf_66 : decode cX9_friendsOf 66 = .ok (.iaload, 1) := by decide +kernel
theorem dX9_friendsOf_67 : decode cX9_friendsOf 67 = .ok (.ishl, 1) := by decide +kernel
theorem dX9_friendsOf_68 : decode cX9_friendsOf 68 = .ok (.goto 4, 3) := by decide +kernel
theorem dX9_friendsOf_71 : decode cX9_friendsOf 71 = .ok (.iconst 0, 1) := by decide +kernel
theorem dX9_friendsOf_72 : decode cX9_friendsOf 72 = .ok (.ior, 1) := by decide +kernel
theorem dX9_friendsOf_73 : decode cX9_friendsOf 73 = .ok (.istore_n 2, 1) := by decide +kernel
theorem dX9_friendsOf_74 : decode cX9_friendsOf 74 = .ok (.iinc 3 1, 3) := by decide +kernel
theorem dX9_friendsOf_77 : decode cX9_friendsOf 77 = .ok (.goto (-73), 3) := by decide +kernel
theorem dX9_friendsOf_80 : decode cX9_friendsOf 80 = .ok (.iload_n 2, 1) := by decide +kernel
theorem dX9_friendsOf_81 : decode cX9_friendsOf 81 = .ok (.ireturn, 1) := by decide +kernel
theorem dX9_copy_0 : decode cX9_copy 0 = .ok (.iconst 0, 1) := by decide +kernel
theorem dX9_copy_1 : decode cX9_copy 1 = .ok (.istore 4, 2) := by decide +kernel
theorem dX9_copy_3 : decode cX9_copy 3 = .ok (.iload 4, 2) := by decide +kernel
theorem dX9_copy_5 : decode cX9_copy 5 = .ok (.bipush 58, 2) := by decide +kernel
theorem dX9_copy_7 : decode cX9_copy 7 = .ok (.if_icmp .ge 21, 3) := by decide +kernel
theorem dX9_copy_10 : decode cX9_copy 10 = .ok (.aload_n 2, 1) := by decide +kernel
theorem dX9_copy_11 : decode cX9_copy 11 = .ok (.iload_n 3, 1) := by decide +kernel
theorem dX9_copy_12 : decode cX9_copy 12 = .ok (.iload 4, 2) := by decide +kernel
theorem dX9_copy_14 : decode cX9_copy 14 = .ok (.iadd, 1) := by decide +kernel
theorem dX9_copy_15 : decode cX9_copy 15 = .ok (.aload_n 0, 1) := by decide +kernel
theorem dX9_copy_16 : decode cX9_copy 16 = .ok (.iload_n 1, 1) := by decide +kernel
theorem dX9_copy_17 : decode cX9_copy 17 = .ok (.iload 4, 2) := by decide +kernel
theorem dX9_copy_19 : decode cX9_copy 19 = .ok (.iadd, 1) := by decide +kernel
theorem dX9_copy_20 : decode cX9_copy 20 = .ok (.iaload, 1) := by decide +kernel
theorem dX9_copy_21 : decode cX9_copy 21 = .ok (.iastore, 1) := by decide +kernel
theorem dX9_copy_22 : decode cX9_copy 22 = .ok (.iinc 4 1, 3) := by decide +kernel
theorem dX9_copy_25 : decode cX9_copy 25 = .ok (.goto (-22), 3) := by decide +kernel
theorem dX9_copy_28 : decode cX9_copy 28 = .ok (.return_, 1) := by decide +kernel
theorem dX9_tells_0 : decode cX9_tells 0 = .ok (.aload_n 0, 1) := by decide +kernel
theorem dX9_tells_1 : decode cX9_tells 1 = .ok (.iload_n 1, 1) := by decide +kernel
theorem dX9_tells_2 : decode cX9_tells 2 = .ok (.invokevirtual 196, 3) := by decide +kernel
theorem dX9_tells_5 : decode cX9_tells 5 = .ok (.istore_n 2, 1) := by decide +kernel
theorem dX9_tells_6 : decode cX9_tells 6 = .ok (.iconst 0, 1) := by decide +kernel
theorem dX9_tells_7 : decode cX9_tells 7 = .ok (.istore_n 3, 1) := by decide +kernel
theorem dX9_tells_8 : decode cX9_tells 8 = .ok (.iload_n 3, 1) := by decide +kernel
theorem dX9_tells_9 : decode cX9_tells 9 = .ok (.aload_n 0, 1) := by decide +kernel
theorem dX9_tells_10 : decode cX9_tells 10 = .ok (.getfield 83, 3) := by decide +kernel
theorem dX9_tells_13 : decode cX9_tells 13 = .ok (.if_icmp .ge 84, 3) := by decide +kernel
theorem dX9_tells_16 : decode cX9_tells 16 = .ok (.aload_n 0, 1) := by decide +kernel
theorem dX9_tells_17 : decode cX9_tells 17 = .ok (.getfield 41, 3) := by decide +kernel
theorem dX9_tells_20 : decode cX9_tells 20 = .ok (.iload_n 1, 1) := by decide +kernel
theorem dX9_tells_21 : decode cX9_tells 21 = .ok (.iload_n 3, 1) := by decide +kernel
theorem dX9_tells_22 : decode cX9_tells 22 = .ok (.invokestatic 178, 3) := by decide +kernel
theorem dX9_tells_25 : decode cX9_tells 25 = .ok (.ifCond .eq 19, 3) := by decide +kernel
theorem dX9_tells_28 : decode cX9_tells 28 = .ok (.iload_n 2, 1) := by decide +kernel
theorem dX9_tells_29 : decode cX9_tells 29 = .ok (.aload_n 0, 1) := by decide +kernel
theorem dX9_tells_30 : decode cX9_tells 30 = .ok (.aload_n 0, 1) := by decide +kernel
theorem dX9_tells_31 : decode cX9_tells 31 = .ok (.getfield 41, 3) := by decide +kernel
theorem dX9_tells_34 : decode cX9_tells 34 = .ok (.iload_n 3, 1) := by decide +kernel
theorem dX9_tells_35 : decode cX9_tells 35 = .ok (.invokevirtual 199, 3) := by decide +kernel
theorem dX9_tells_38 : decode cX9_tells 38 = .ok (.iconst (-1), 1) := by decide +kernel
theorem dX9_tells_39 : decode cX9_tells 39 = .ok (.ixor, 1) := by decide +kernel
theorem dX9_tells_40 : decode cX9_tells 40 = .ok (.iand, 1) := by decide +kernel
theorem dX9_tells_41 : decode cX9_tells 41 = .ok (.goto 4, 3) := by decide +kernel
theorem dX9_tells_44 : decode cX9_tells 44 = .ok (.iconst 0, 1) := by decide +kernel
theorem dX9_tells_45 : decode cX9_tells 45 = .ok (.istore 4, 2) := by decide +kernel
theorem dX9_tells_47 : decode cX9_tells 47 = .ok (.iload 4, 2) := by decide +kernel
theorem dX9_tells_49 : decode cX9_tells 49 = .ok (.ifCond .eq 42, 3) := by decide +kernel
theorem dX9_tells_52 : decode cX9_tells 52 = .ok (.iconst 0, 1) := by decide +kernel
theorem dX9_tells_53 : decode cX9_tells 53 = .ok (.istore 5, 2) := by decide +kernel
theorem dX9_tells_55 : decode cX9_tells 55 = .ok (.iload 4, 2) := by decide +kernel
theorem dX9_tells_57 : decode cX9_tells 57 = .ok (.iload 5, 2) := by decide +kernel
theorem dX9_tells_59 : decode cX9_tells 59 = .ok (.invokestatic 136, 3) := by decide +kernel
theorem dX9_tells_62 : decode cX9_tells 62 = .ok (.ifCond .ne 9, 3) := by decide +kernel
theorem dX9_tells_65 : decode cX9_tells 65 = .ok (.iinc 5 1, 3) := by decide +kernel
theorem dX9_tells_68 : decode cX9_tells 68 = .ok (.goto (-13), 3) := by decide +kernel
theorem dX9_tells_71 : decode cX9_tells 71 = .ok (.aload_n 0, 1) := by decide +kernel
theorem dX9_tells_72 : decode cX9_tells 72 = .ok (.getfield 38, 3) := by decide +kernel
theorem dX9_tells_75 : decode cX9_tells 75 = .ok (.bipush 8, 2) := by decide +kernel
theorem dX9_tells_77 : decode cX9_tells 77 = .ok (.iload 5, 2) := by decide +kernel
theorem dX9_tells_79 : decode cX9_tells 79 = .ok (.imul, 1) := by decide +kernel
theorem dX9_tells_80 : decode cX9_tells 80 = .ok (.iload_n 3, 1) := by decide +kernel
theorem dX9_tells_81 : decode cX9_tells 81 = .ok (.iadd, 1) := by decide +kernel
theorem dX9_tells_82 : decode cX9_tells 82 = .ok (.aload_n 0, 1) := by decide +kernel
theorem dX9_tells_83 : decode cX9_tells 83 = .ok (.getfield 38, 3) := by decide +kernel
theorem dX9_tells_86 : decode cX9_tells 86 = .ok (.bipush 56, 2) := by decide +kernel
theorem dX9_tells_88 : decode cX9_tells 88 = .ok (.iaload, 1) := by decide +kernel
theorem dX9_tells_89 : decode cX9_tells 89 = .ok (.iastore, 1) := by decide +kernel
theorem dX9_tells_90 : decode cX9_tells 90 = .ok (.return_, 1) := by decide +kernel
theorem dX9_tells_91 : decode cX9_tells 91 = .ok (.iinc 3 1, 3) := by decide +kernel
theorem dX9_tells_94 : decode cX9_tells 94 = .ok (.goto (-86), 3) := by decide +kernel
theorem dX9_tells_97 : decode cX9_tells 97 = .ok (.return_, 1) := by decide +kernel
theorem dX9_pass_0 : decode cX9_pass 0 = .ok (.aload_n 0, 1) := by decide +kernel
theorem dX9_pass_1 : decode cX9_pass 1 = .ok (.getfield 38, 3) := by decide +kernel
theorem dX9_pass_4 : decode cX9_pass 4 = .ok (.bipush 56, 2) := by decide +kernel
theorem dX9_pass_6 : decode cX9_pass 6 = .ok (.dup2, 1) := by decide +kernel
theorem dX9_pass_7 : decode cX9_pass 7 = .ok (.iaload, 1) := by decide +kernel
theorem dX9_pass_8 : decode cX9_pass 8 = .ok (.iconst 1, 1) := by decide +kernel
theorem dX9_pass_9 : decode cX9_pass 9 = .ok (.iadd, 1) := by decide +kernel
theorem dX9_pass_10 : decode cX9_pass 10 = .ok (.iastore, 1) := by decide +kernel
theorem dX9_pass_11 : decode cX9_pass 11 = .ok (.iconst 0, 1) := by decide +kernel
theorem dX9_pass_12 : decode cX9_pass 12 = .ok (.istore_n 1, 1) := by decide +kernel
theorem dX9_pass_13 : decode cX9_pass 13 = .ok (.iload_n 1, 1) := by decide +kernel
theorem dX9_pass_14 : decode cX9_pass 14 = .ok (.bipush 56, 2) := by decide +kernel
theorem dX9_pass_16 : decode cX9_pass 16 = .ok (.if_icmp .ge 63, 3) := by decide +kernel
theorem dX9_pass_19 : decode cX9_pass 19 = .ok (.aload_n 0, 1) := by decide +kernel
theorem dX9_pass_20 : decode cX9_pass 20 = .ok (.getfield 38, 3) := by decide +kernel
theorem dX9_pass_23 : decode cX9_pass 23 = .ok (.iload_n 1, 1) := by decide +kernel
theorem dX9_pass_24 : decode cX9_pass 24 = .ok (.aload_n 0, 1) := by decide +kernel
theorem dX9_pass_25 : decode cX9_pass 25 = .ok (.getfield 175, 3) := by decide +kernel
theorem dX9_pass_28 : decode cX9_pass 28 = .ok (.ifCond .le 38, 3) := by decide +kernel
theorem dX9_pass_31 : decode cX9_pass 31 = .ok (.aload_n 0, 1) := by decide +kernel
theorem dX9_pass_32 : decode cX9_pass 32 = .ok (.getfield 38, 3) := by decide +kernel
theorem dX9_pass_35 : decode cX9_pass 35 = .ok (.iload_n 1, 1) := by decide +kernel
theorem dX9_pass_36 : decode cX9_pass 36 = .ok (.iaload, 1) := by decide +kernel
theorem dX9_pass_37 : decode cX9_pass 37 = .ok (.iconst (-1), 1) := by decide +kernel
theorem dX9_pass_38 : decode cX9_pass 38 = .ok (.if_icmp .eq 28, 3) := by decide +kernel
theorem dX9_pass_41 : decode cX9_pass 41 = .ok (.aload_n 0, 1) := by decide +kernel
theorem dX9_pass_42 : decode cX9_pass 42 = .ok (.getfield 38, 3) := by decide +kernel
theorem dX9_pass_45 : decode cX9_pass 45 = .ok (.bipush 56, 2) := by decide +kernel
theorem dX9_pass_47 : decode cX9_pass 47 = .ok (.iaload, 1) := by decide +kernel
theorem dX9_pass_48 : decode cX9_pass 48 = .ok (.aload_n 0, 1) := by decide +kernel
theorem dX9_pass_49 : decode cX9_pass 49 = .ok (.getfield 38, 3) := by decide +kernel
theorem dX9_pass_52 : decode cX9_pass 52 = .ok (.iload_n 1, 1) := by decide +kernel
theorem dX9_pass_53 : decode cX9_pass 53 = .ok (.iaload, 1) := by decide +kernel
theorem dX9_pass_54 : decode cX9_pass 54 = .ok (.isub, 1) := by decide +kernel
theorem dX9_pass_55 : decode cX9_pass 55 = .ok (.aload_n 0, 1) := by decide +kernel
theorem dX9_pass_56 : decode cX9_pass 56 = .ok (.getfield 175, 3) := by decide +kernel
theorem dX9_pass_59 : decode cX9_pass 59 = .ok (.if_icmp .lt 7, 3) := by decide +kernel
theorem dX9_pass_62 : decode cX9_pass 62 = .ok (.iconst (-1), 1) := by decide +kernel
theorem dX9_pass_63 : decode cX9_pass 63 = .ok (.goto 9, 3) := by decide +kernel
theorem dX9_pass_66 : decode cX9_pass 66 = .ok (.aload_n 0, 1) := by decide +kernel
theorem dX9_pass_67 : decode cX9_pass 67 = .ok (.getfield 38, 3) := by decide +kernel
theorem dX9_pass_70 : decode cX9_pass 70 = .ok (.iload_n 1, 1) := by decide +kernel
theorem dX9_pass_71 : decode cX9_pass 71 = .ok (.iaload, 1) := by decide +kernel
theorem dX9_pass_72 : decode cX9_pass 72 = .ok (.iastore, 1) := by decide +kernel
theorem dX9_pass_73 : decode cX9_pass 73 = .ok (.iinc 1 1, 3) := by decide +kernel
theorem dX9_pass_76 : decode cX9_pass 76 = .ok (.goto (-63), 3) := by decide +kernel
theorem dX9_pass_79 : decode cX9_pass 79 = .ok (.aload_n 0, 1) := by decide +kernel
theorem dX9_pass_80 : decode cX9_pass 80 = .ok (.getfield 38, 3) := by decide +kernel
theorem dX9_pass_83 : decode cX9_pass 83 = .ok (.iconst 0, 1) := by decide +kernel
theorem dX9_pass_84 : decode cX9_pass 84 = .ok (.aload_n 0, 1) := by decide +kernel
theorem dX9_pass_85 : decode cX9_pass 85 = .ok (.getfield 41, 3) := by decide +kernel
theorem dX9_pass_88 : decode cX9_pass 88 = .ok (.iconst 0, 1) := by decide +kernel
theorem dX9_pass_89 : decode cX9_pass 89 = .ok (.invokestatic 202, 3) := by decide +kernel
theorem dX9_pass_92 : decode cX9_pass 92 = .ok (.iconst 0, 1) := by decide +kernel
theorem dX9_pass_93 : decode cX9_pass 93 = .ok (.istore_n 1, 1) := by decide +kernel
theorem dX9_pass_94 : decode cX9_pass 94 = .ok (.iload_n 1, 1) := by decide +kernel
theorem dX9_pass_95 : decode cX9_pass 95 = .ok (.aload_n 0, 1) := by decide +kernel
theorem dX9_pass_96 : decode cX9_pass 96 = .ok (.getfield 76, 3) := by decide +kernel
theorem dX9_pass_99 : decode cX9_pass 99 = .ok (.if_icmp .ge 25, 3) := by decide +kernel
theorem dX9_pass_102 : decode cX9_pass 102 = .ok (.aload_n 0, 1) := by decide +kernel
theorem dX9_pass_103 : decode cX9_pass 103 = .ok (.getfield 172, 3) := by decide +kernel
theorem dX9_pass_106 : decode cX9_pass 106 = .ok (.iload_n 1, 1) := by decide +kernel
theorem dX9_pass_107 : decode cX9_pass 107 = .ok (.invokestatic 136, 3) := by decide +kernel
theorem dX9_pass_110 : decode cX9_pass 110 = .ok (.ifCond .ne 8, 3) := by decide +kernel
theorem dX9_pass_113 : decode cX9_pass 113 = .ok (.aload_n 0, 1) := by decide +kernel
theorem dX9_pass_114 : decode cX9_pass 114 = .ok (.iload_n 1, 1) := by decide +kernel
theorem dX9_pass_115 : decode cX9_pass 115 = .ok (.invokevirtual 206, 3) := by decide +kernel
theorem dX9_pass_118 : decode cX9_pass 118 = .ok (.iinc 1 1, 3) := by decide +kernel
theorem dX9_pass_121 : decode cX9_pass 121 = .ok (.goto (-27), 3) := by decide +kernel
theorem dX9_pass_124 : decode cX9_pass 124 = .ok (.return_, 1) := by decide +kernel
theorem dX9_told_0 : decode cX9_told 0 = .ok (.iconst 0, 1) := by decide +kernel
theorem dX9_told_1 : decode cX9_told 1 = .ok (.istore_n 2, 1) := by decide +kernel
theorem dX9_told_2 : decode cX9_told 2 = .ok (.iconst 0, 1) := by decide +kernel
theorem dX9_told_3 : decode cX9_told 3 = .ok (.istore_n 3, 1) := by decide +kernel
theorem dX9_told_4 : decode cX9_told 4 = .ok (.iload_n 3, 1) := by decide +kernel
theorem dX9_told_5 : decode cX9_told 5 = .ok (.aload_n 0, 1) := by decide +kernel
theorem dX9_told_6 : decode cX9_told 6 = .ok (.getfield 83, 3) := by decide +kernel
theorem dX9_told_9 : decode cX9_told 9 = .ok (.if_icmp .ge 21, 3) := by decide +kernel
theorem dX9_told_12 : decode cX9_told 12 = .ok (.iload_n 2, 1) := by decide +kernel
theorem dX9_told_13 : decode cX9_told 13 = .ok (.aload_n 0, 1) := by decide +kernel
theorem dX9_told_14 : decode cX9_told 14 = .ok (.aload_n 0, 1) := by decide +kernel
theorem dX9_told_15 : decode cX9_told 15 = .ok (.getfield 35, 3) := by decide +kernel
theorem dX9_told_18 : decode cX9_told 18 = .ok (.iload_n 3, 1) := by decide +kernel
theorem dX9_told_19 : decode cX9_told 19 = .ok (.invokevirtual 189, 3) := by decide +kernel
theorem dX9_told_22 : decode cX9_told 22 = .ok (.iadd, 1) := by decide +kernel
theorem dX9_told_23 : decode cX9_told 23 = .ok (.istore_n 2, 1) := by decide +kernel
theorem dX9_told_24 : decode cX9_told 24 = .ok (.iinc 3 1, 3) := by decide +kernel
theorem dX9_told_27 : decode cX9_told 27 = .ok (.goto (-23), 3) := by decide +kernel
theorem dX9_told_30 : decode cX9_told 30 = .ok (.iload_n 1, 1) := by decide +kernel
theorem dX9_told_31 : decode cX9_told 31 = .ok (.tableswitch 103 0 9 #[53, 58, 63, 68, 73, 78, 83, 91, 96, 98], 53) := by decide +kernel
theorem dX9_told_84 : decode cX9_told 84 = .ok (.aload_n 0, 1) := by decide +kernel
theorem dX9_told_85 : decode cX9_told 85 = .ok (.getfield 76, 3) := by decide +kernel
theorem dX9_told_88 : decode cX9_told 88 = .ok (.ireturn, 1) := by decide +kernel
theorem dX9_told_89 : decode cX9_told 89 = .ok (.aload_n 0, 1) := by decide +kernel
theorem dX9_told_90 : decode cX9_told 90 = .ok (.getfield 83, 3) := by decide +kernel
theorem dX9_told_93 : decode cX9_told 93 = .ok (.ireturn, 1) := by decide +kernel
theorem dX9_told_94 : decode cX9_told 94 = .ok (.aload_n 0, 1) := by decide +kernel
theorem dX9_told_95 : decode cX9_told 95 = .ok (.getfield 169, 3) := by decide +kernel
theorem dX9_told_98 : decode cX9_told 98 = .ok (.ireturn, 1) := by decide +kernel
theorem dX9_told_99 : decode cX9_told 99 = .ok (.aload_n 0, 1) := by decide +kernel
theorem dX9_told_100 : decode cX9_told 100 = .ok (.getfield 86, 3) := by decide +kernel
theorem dX9_told_103 : decode cX9_told 103 = .ok (.ireturn, 1) := by decide +kernel
theorem dX9_told_104 : decode cX9_told 104 = .ok (.aload_n 0, 1) := by decide +kernel
theorem dX9_told_105 : decode cX9_told 105 = .ok (.getfield 175, 3) := by decide +kernel
theorem dX9_told_108 : decode cX9_told 108 = .ok (.ireturn, 1) := by decide +kernel
theorem dX9_told_109 : decode cX9_told 109 = .ok (.aload_n 0, 1) := by decide +kernel
theorem dX9_told_110 : decode cX9_told 110 = .ok (.getfield 90, 3) := by decide +kernel
theorem dX9_told_113 : decode cX9_told 113 = .ok (.ireturn, 1) := by decide +kernel
theorem dX9_told_114 : decode cX9_told 114 = .ok (.aload_n 0, 1) := by decide +kernel
theorem dX9_told_115 : decode cX9_told 115 = .ok (.getfield 35, 3) := by decide +kernel
theorem dX9_told_118 : decode cX9_told 118 = .ok (.bipush 56, 2) := by decide +kernel
theorem dX9_told_120 : decode cX9_told 120 = .ok (.iaload, 1) := by decide +kernel
theorem dX9_told_121 : decode cX9_told 121 = .ok (.ireturn, 1) := by decide +kernel
theorem dX9_told_122 : decode cX9_told 122 = .ok (.aload_n 0, 1) := by decide +kernel
theorem dX9_told_123 : decode cX9_told 123 = .ok (.getfield 172, 3) := by decide +kernel
theorem dX9_told_126 : decode cX9_told 126 = .ok (.ireturn, 1) := by decide +kernel
theorem dX9_told_127 : decode cX9_told 127 = .ok (.iload_n 2, 1) := by decide +kernel
theorem dX9_told_128 : decode cX9_told 128 = .ok (.ireturn, 1) := by decide +kernel
theorem dX9_told_129 : decode cX9_told 129 = .ok (.aload_n 0, 1) := by decide +kernel
theorem dX9_told_130 : decode cX9_told 130 = .ok (.getfield 73, 3) := by decide +kernel
theorem dX9_told_133 : decode cX9_told 133 = .ok (.ireturn, 1) := by decide +kernel
theorem dX9_told_134 : decode cX9_told 134 = .ok (.ldc 89, 2) := by decide +kernel
theorem dX9_told_136 : decode cX9_told 136 = .ok (.ireturn, 1) := by decide +kernel
theorem dX9_fact_0 : decode cX9_fact 0 = .ok (.aload_n 0, 1) := by decide +kernel
theorem dX9_fact_1 : decode cX9_fact 1 = .ok (.iload_n 1, 1) := by decide +kernel
theorem dX9_fact_2 : decode cX9_fact 2 = .ok (.invokevirtual 210, 3) := by decide +kernel
theorem dX9_fact_5 : decode cX9_fact 5 = .ok (.ifCond .ne 6, 3) := by decide +kernel
theorem dX9_fact_8 : decode cX9_fact 8 = .ok (.ldc 213, 2) := by decide +kernel
theorem dX9_fact_10 : decode cX9_fact 10 = .ok (.ireturn, 1) := by decide +kernel
theorem dX9_fact_11 : decode cX9_fact 11 = .ok (.iload_n 2, 1) := by decide +kernel
theorem dX9_fact_12 : decode cX9_fact 12 = .ok (.tableswitch 67 0 4 #[36, 36, 36, 47, 57], 36) := by decide +kernel
theorem dX9_fact_48 : decode cX9_fact 48 = .ok (.aload_n 0, 1) := by decide +kernel
theorem dX9_fact_49 : decode cX9_fact 49 = .ok (.getfield 26, 3) := by decide +kernel
theorem dX9_fact_52 : decode cX9_fact 52 = .ok (.iconst 4, 1) := by decide +kernel
theorem dX9_fact_53 : decode cX9_fact 53 = .ok (.iload_n 1, 1) := by decide +kernel
theorem dX9_fact_54 : decode cX9_fact 54 = .ok (.imul, 1) := by decide +kernel
theorem dX9_fact_55 : decode cX9_fact 55 = .ok (.iload_n 2, 1) := by decide +kernel
theorem dX9_fact_56 : decode cX9_fact 56 = .ok (.iadd, 1) := by decide +kernel
theorem dX9_fact_57 : decode cX9_fact 57 = .ok (.iaload, 1) := by decide +kernel
theorem dX9_fact_58 : decode cX9_fact 58 = .ok (.ireturn, 1) := by decide +kernel
theorem dX9_fact_59 : decode cX9_fact 59 = .ok (.aload_n 0, 1) := by decide +kernel
theorem dX9_fact_60 : decode cX9_fact 60 = .ok (.aload_n 0, 1) := by decide +kernel
theorem dX9_fact_61 : decode cX9_fact 61 = .ok (.getfield 35, 3) := by decide +kernel
theorem dX9_fact_64 : decode cX9_fact 64 = .ok (.iload_n 1, 1) := by decide +kernel
theorem dX9_fact_65 : decode cX9_fact 65 = .ok (.invokevirtual 199, 3) := by decide +kernel
theorem dX9_fact_68 : decode cX9_fact 68 = .ok (.ireturn, 1) := by decide +kernel
theorem dX9_fact_69 : decode cX9_fact 69 = .ok (.aload_n 0, 1) := by decide +kernel
theorem dX9_fact_70 : decode cX9_fact 70 = .ok (.aload_n 0, 1) := by decide +kernel
theorem dX9_fact_71 : decode cX9_fact 71 = .ok (.getfield 35, 3) := by decide +kernel
theorem dX9_fact_74 : decode cX9_fact 74 = .ok (.iload_n 1, 1) := by decide +kernel
theorem dX9_fact_75 : decode cX9_fact 75 = .ok (.invokevirtual 189, 3) := by decide +kernel
theorem dX9_fact_78 : decode cX9_fact 78 = .ok (.ireturn, 1) := by decide +kernel
theorem dX9_fact_79 : decode cX9_fact 79 = .ok (.ldc 89, 2) := by decide +kernel
theorem dX9_fact_81 : decode cX9_fact 81 = .ok (.ireturn, 1) := by decide +kernel
theorem dX9_person_0 : decode cX9_person 0 = .ok (.aload_n 0, 1) := by decide +kernel
theorem dX9_person_1 : decode cX9_person 1 = .ok (.iload_n 1, 1) := by decide +kernel
theorem dX9_person_2 : decode cX9_person 2 = .ok (.invokevirtual 214, 3) := by decide +kernel
theorem dX9_person_5 : decode cX9_person 5 = .ok (.ifCond .ne 6, 3) := by decide +kernel
theorem dX9_person_8 : decode cX9_person 8 = .ok (.ldc 213, 2) := by decide +kernel
theorem dX9_person_10 : decode cX9_person 10 = .ok (.ireturn, 1) := by decide +kernel
theorem dX9_person_11 : decode cX9_person 11 = .ok (.iconst 0, 1) := by decide +kernel
theorem dX9_person_12 : decode cX9_person 12 = .ok (.istore_n 3, 1) := by decide +kernel
theorem dX9_person_13 : decode cX9_person 13 = .ok (.iconst 0, 1) := by decide +kernel
theorem dX9_person_14 : decode cX9_person 14 = .ok (.istore 4, 2) := by decide +kernel
theorem dX9_person_16 : decode cX9_person 16 = .ok (.iconst 0, 1) := by decide +kernel
theorem dX9_person_17 : decode cX9_person 17 = .ok (.istore 5, 2) := by decide +kernel
theorem dX9_person_19 : decode cX9_person 19 = .ok (.iload 5, 2) := by decide +kernel
theorem dX9_person_21 : decode cX9_person 21 = .ok (.aload_n 0, 1) := by decide +kernel
theorem dX9_person_22 : decode cX9_person 22 = .ok (.getfield 83, 3) := by decide +kernel
theorem dX9_person_25 : decode cX9_person 25 = .ok (.if_icmp .ge 56, 3) := by decide +kernel
theorem dX9_person_28 : decode cX9_person 28 = .ok (.iload_n 3, 1) := by decide +kernel
theorem dX9_person_29 : decode cX9_person 29 = .ok (.aload_n 0, 1) := by decide +kernel
theorem dX9_person_30 : decode cX9_person 30 = .ok (.iload 5, 2) := by decide +kernel
theorem dX9_person_32 : decode cX9_person 32 = .ok (.invokevirtual 182, 3) := by decide +kernel
theorem dX9_person_35 : decode cX9_person 35 = .ok (.iload_n 1, 1) := by decide +kernel
theorem dX9_person_36 : decode cX9_person 36 = .ok (.if_icmp .ne 10, 3) := by decide +kernel
theorem dX9_person_39 : decode cX9_person 39 = .ok (.iconst 1, 1) := by decide +kernel
theorem dX9_person_40 : decode cX9_person 40 = .ok (.iload 5, 2) := by decide +kernel
theorem dX9_person_42 : decode cX9_person 42 = .ok (.ishl, 1) := by decide +kernel
theorem dX9_person_43 : decode cX9_person 43 = .ok (.goto 4, 3) := by decide +kernel
theorem dX9_person_46 : decode cX9_person 46 = .ok (.iconst 0, 1) := by decide +kernel
theorem dX9_person_47 : decode cX9_person 47 = .ok (.ior, 1) := by decide +kernel
theorem dX9_person_48 : decode cX9_person 48 = .ok (.istore_n 3, 1) := by decide +kernel
theorem dX9_person_49 : decode cX9_person 49 = .ok (.iload 4, 2) := by decide +kernel
theorem dX9_person_51 : decode cX9_person 51 = .ok (.aload_n 0, 1) := by decide +kernel
theorem dX9_person_52 : decode cX9_person 52 = .ok (.getfield 35, 3) := by decide +kernel
theorem dX9_person_55 : decode cX9_person 55 = .ok (.iload_n 1, 1) := by decide +kernel
theorem dX9_person_56 : decode cX9_person 56 = .ok (.iload 5, 2) := by decide +kernel
theorem dX9_person_58 : decode cX9_person 58 = .ok (.invokestatic 178, 3) := by decide +kernel
theorem dX9_person_61 : decode cX9_person 61 = .ok (.ifCond .eq 10, 3) := by decide +kernel
theorem dX9_person_64 : decode cX9_person 64 = .ok (.iconst 1, 1) := by decide +kernel
theorem dX9_person_65 : decode cX9_person 65 = .ok (.iload 5, 2) := by decide +kernel
theorem dX9_person_67 : decode cX9_person 67 = .ok (.ishl, 1) := by decide +kernel
theorem dX9_person_68 : decode cX9_person 68 = .ok (.goto 4, 3) := by decide +kernel
theorem dX9_person_71 : decode cX9_person 71 = .ok (.iconst 0, 1) := by decide +kernel
theorem dX9_person_72 : decode cX9_person 72 = .ok (.ior, 1) := by decide +kernel
theorem dX9_person_73 : decode cX9_person 73 = .ok (.istore 4, 2) := by decide +kernel
theorem dX9_person_75 : decode cX9_person 75 = .ok (.iinc 5 1, 3) := by decide +kernel
theorem dX9_person_78 : decode cX9_person 78 = .ok (.goto (-59), 3) := by decide +kernel
theorem dX9_person_81 : decode cX9_person 81 = .ok (.iload_n 2, 1) := by decide +kernel
theorem dX9_person_82 : decode cX9_person 82 = .ok (.tableswitch 50 0 3 #[30, 36, 38, 41], 30) := by decide +kernel
theorem dX9_person_112 : decode cX9_person 112 = .ok (.aload_n 0, 1) := by decide +kernel
theorem dX9_person_113 : decode cX9_person 113 = .ok (.iload_n 1, 1) := by decide +kernel
theorem dX9_person_114 : decode cX9_person 114 = .ok (.invokevirtual 196, 3) := by decide +kernel
theorem dX9_person_117 : decode cX9_person 117 = .ok (.ireturn, 1) := by decide +kernel
theorem dX9_person_118 : decode cX9_person 118 = .ok (.iload_n 3, 1) := by decide +kernel
theorem dX9_person_119 : decode cX9_person 119 = .ok (.ireturn, 1) := by decide +kernel
theorem dX9_person_120 : decode cX9_person 120 = .ok (.iload 4, 2) := by decide +kernel
theorem dX9_person_122 : decode cX9_person 122 = .ok (.ireturn, 1) := by decide +kernel
theorem dX9_person_123 : decode cX9_person 123 = .ok (.aload_n 0, 1) := by decide +kernel
theorem dX9_person_124 : decode cX9_person 124 = .ok (.getfield 172, 3) := by decide +kernel
theorem dX9_person_127 : decode cX9_person 127 = .ok (.iload_n 1, 1) := by decide +kernel
theorem dX9_person_128 : decode cX9_person 128 = .ok (.ishr, 1) := by decide +kernel
theorem dX9_person_129 : decode cX9_person 129 = .ok (.iconst 1, 1) := by decide +kernel
theorem dX9_person_130 : decode cX9_person 130 = .ok (.iand, 1) := by decide +kernel
theorem dX9_person_131 : decode cX9_person 131 = .ok (.ireturn, 1) := by decide +kernel
theorem dX9_person_132 : decode cX9_person 132 = .ok (.ldc 89, 2) := by decide +kernel
theorem dX9_person_134 : decode cX9_person 134 = .ok (.ireturn, 1) := by decide +kernel
theorem dX9_since_0 : decode cX9_since 0 = .ok (.aload_n 0, 1) := by decide +kernel
theorem dX9_since_1 : decode cX9_since 1 = .ok (.iload_n 1, 1) := by decide +kernel
theorem dX9_since_2 : decode cX9_since 2 = .ok (.invokevirtual 214, 3) := by decide +kernel
theorem dX9_since_5 : decode cX9_since 5 = .ok (.ifCond .eq 25, 3) := by decide +kernel
theorem dX9_since_8 : decode cX9_since 8 = .ok (.aload_n 0, 1) := by decide +kernel
theorem dX9_since_9 : decode cX9_since 9 = .ok (.iload_n 2, 1) := by decide +kernel
theorem dX9_since_10 : decode cX9_since 10 = .ok (.invokevirtual 210, 3) := by decide +kernel
theorem dX9_since_13 : decode cX9_since 13 = .ok (.ifCond .eq 17, 3) := by decide +kernel
theorem dX9_since_16 : decode cX9_since 16 = .ok (.aload_n 0, 1) := by decide +kernel
theorem dX9_since_17 : decode cX9_since 17 = .ok (.getfield 35, 3) := by decide +kernel
theorem dX9_since_20 : decode cX9_since 20 = .ok (.bipush 8, 2) := by decide +kernel
theorem dX9_since_22 : decode cX9_since 22 = .ok (.iload_n 1, 1) := by decide +kernel
theorem dX9_since_23 : decode cX9_since 23 = .ok (.imul, 1) := by decide +kernel
theorem dX9_since_24 : decode cX9_since 24 = .ok (.iload_n 2, 1) := by decide +kernel
theorem dX9_since_25 : decode cX9_since 25 = .ok (.iadd, 1) := by decide +kernel
theorem dX9_since_26 : decode cX9_since 26 = .ok (.iaload, 1) := by decide +kernel
theorem dX9_since_27 : decode cX9_since 27 = .ok (.goto 5, 3) := by decide +kernel
theorem dX9_since_30 : decode cX9_since 30 = .ok (.ldc 213, 2) := by decide +kernel
theorem dX9_since_32 : decode cX9_since 32 = .ok (.ireturn, 1) := by decide +kernel
theorem dX9_weight_0 : decode cX9_weight 0 = .ok (.aload_n 0, 1) := by decide +kernel
theorem dX9_weight_1 : decode cX9_weight 1 = .ok (.iload_n 1, 1) := by decide +kernel
theorem dX9_weight_2 : decode cX9_weight 2 = .ok (.invokevirtual 214, 3) := by decide +kernel
theorem dX9_weight_5 : decode cX9_weight 5 = .ok (.ifCond .eq 15, 3) := by decide +kernel
theorem dX9_weight_8 : decode cX9_weight 8 = .ok (.aload_n 0, 1) := by decide +kernel
theorem dX9_weight_9 : decode cX9_weight 9 = .ok (.aload_n 0, 1) := by decide +kernel
theorem dX9_weight_10 : decode cX9_weight 10 = .ok (.getfield 35, 3) := by decide +kernel
theorem dX9_weight_13 : decode cX9_weight 13 = .ok (.iload_n 1, 1) := by decide +kernel
theorem dX9_weight_14 : decode cX9_weight 14 = .ok (.invokevirtual 217, 3) := by decide +kernel
theorem dX9_weight_17 : decode cX9_weight 17 = .ok (.goto 5, 3) := by decide +kernel
theorem dX9_weight_20 : decode cX9_weight 20 = .ok (.ldc 213, 2) := by decide +kernel
theorem dX9_weight_22 : decode cX9_weight 22 = .ok (.ireturn, 1) := by decide +kernel
theorem dX9_bridge_0 : decode cX9_bridge 0 = .ok (.aload_n 0, 1) := by decide +kernel
theorem dX9_bridge_1 : decode cX9_bridge 1 = .ok (.iload_n 1, 1) := by decide +kernel
theorem dX9_bridge_2 : decode cX9_bridge 2 = .ok (.invokevirtual 220, 3) := by decide +kernel
theorem dX9_bridge_5 : decode cX9_bridge 5 = .ok (.ifCond .eq 12, 3) := by decide +kernel
theorem dX9_bridge_8 : decode cX9_bridge 8 = .ok (.aload_n 0, 1) := by decide +kernel
theorem dX9_bridge_9 : decode cX9_bridge 9 = .ok (.getfield 32, 3) := by decide +kernel
theorem dX9_bridge_12 : decode cX9_bridge 12 = .ok (.iload_n 1, 1) := by decide +kernel
theorem dX9_bridge_13 : decode cX9_bridge 13 = .ok (.iaload, 1) := by decide +kernel
theorem dX9_bridge_14 : decode cX9_bridge 14 = .ok (.goto 5, 3) := by decide +kernel
theorem dX9_bridge_17 : decode cX9_bridge 17 = .ok (.ldc 213, 2) := by decide +kernel
theorem dX9_bridge_19 : decode cX9_bridge 19 = .ok (.ireturn, 1) := by decide +kernel
theorem dX9_tell_0 : decode cX9_tell 0 = .ok (.aload_n 0, 1) := by decide +kernel
theorem dX9_tell_1 : decode cX9_tell 1 = .ok (.iload_n 1, 1) := by decide +kernel
theorem dX9_tell_2 : decode cX9_tell 2 = .ok (.invokevirtual 214, 3) := by decide +kernel
theorem dX9_tell_5 : decode cX9_tell 5 = .ok (.ifCond .eq 11, 3) := by decide +kernel
theorem dX9_tell_8 : decode cX9_tell 8 = .ok (.aload_n 0, 1) := by decide +kernel
theorem dX9_tell_9 : decode cX9_tell 9 = .ok (.iload_n 2, 1) := by decide +kernel
theorem dX9_tell_10 : decode cX9_tell 10 = .ok (.invokevirtual 210, 3) := by decide +kernel
theorem dX9_tell_13 : decode cX9_tell 13 = .ok (.ifCond .ne 6, 3) := by decide +kernel
theorem dX9_tell_16 : decode cX9_tell 16 = .ok (.ldc 213, 2) := by decide +kernel
theorem dX9_tell_18 : decode cX9_tell 18 = .ok (.ireturn, 1) := by decide +kernel
theorem dX9_tell_19 : decode cX9_tell 19 = .ok (.aload_n 0, 1) := by decide +kernel
theorem dX9_tell_20 : decode cX9_tell 20 = .ok (.getfield 35, 3) := by decide +kernel
theorem dX9_tell_23 : decode cX9_tell 23 = .ok (.iload_n 1, 1) := by decide +kernel
theorem dX9_tell_24 : decode cX9_tell 24 = .ok (.iload_n 2, 1) := by decide +kernel
theorem dX9_tell_25 : decode cX9_tell 25 = .ok (.invokestatic 178, 3) := by decide +kernel
theorem dX9_tell_28 : decode cX9_tell 28 = .ok (.ifCond .eq 6, 3) := by decide +kernel
theorem dX9_tell_31 : decode cX9_tell 31 = .ok (.ldc 223, 2) := by decide +kernel
theorem dX9_tell_33 : decode cX9_tell 33 = .ok (.ireturn, 1) := by decide +kernel
theorem dX9_tell_34 : decode cX9_tell 34 = .ok (.aload_n 0, 1) := by decide +kernel
theorem dX9_tell_35 : decode cX9_tell 35 = .ok (.getfield 35, 3) := by decide +kernel
theorem dX9_tell_38 : decode cX9_tell 38 = .ok (.bipush 8, 2) := by decide +kernel
theorem dX9_tell_40 : decode cX9_tell 40 = .ok (.iload_n 1, 1) := by decide +kernel
theorem dX9_tell_41 : decode cX9_tell 41 = .ok (.imul, 1) := by decide +kernel
theorem dX9_tell_42 : decode cX9_tell 42 = .ok (.iload_n 2, 1) := by decide +kernel
theorem dX9_tell_43 : decode cX9_tell 43 = .ok (.iadd, 1) := by decide +kernel
theorem dX9_tell_44 : decode cX9_tell 44 = .ok (.aload_n 0, 1) := by decide +kernel
theorem dX9_tell_45 : decode cX9_tell 45 = .ok (.getfield 35, 3) := by decide +kernel
theorem dX9_tell_48 : decode cX9_tell 48 = .ok (.bipush 56, 2) := by decide +kernel
theorem dX9_tell_50 : decode cX9_tell 50 = .ok (.iaload, 1) := by decide +kernel
theorem dX9_tell_51 : decode cX9_tell 51 = .ok (.iastore, 1) := by decide +kernel
theorem dX9_tell_52 : decode cX9_tell 52 = .ok (.aload_n 0, 1) := by decide +kernel
theorem dX9_tell_53 : decode cX9_tell 53 = .ok (.aload_n 0, 1) := by decide +kernel
theorem dX9_tell_54 : decode cX9_tell 54 = .ok (.getfield 35, 3) := by decide +kernel
theorem dX9_tell_57 : decode cX9_tell 57 = .ok (.iload_n 2, 1) := by decide +kernel
theorem dX9_tell_58 : decode cX9_tell 58 = .ok (.invokevirtual 189, 3) := by decide +kernel
theorem dX9_tell_61 : decode cX9_tell 61 = .ok (.ireturn, 1) := by decide +kernel
theorem dX9_forget_0 : decode cX9_forget 0 = .ok (.aload_n 0, 1) := by decide +kernel
theorem dX9_forget_1 : decode cX9_forget 1 = .ok (.iload_n 1, 1) := by decide +kernel
theorem dX9_forget_2 : decode cX9_forget 2 = .ok (.invokevirtual 214, 3) := by decide +kernel
theorem dX9_forget_5 : decode cX9_forget 5 = .ok (.ifCond .eq 11, 3) := by decide +kernel
theorem dX9_forget_8 : decode cX9_forget 8 = .ok (.aload_n 0, 1) := by decide +kernel
theorem dX9_forget_9 : decode cX9_forget 9 = .ok (.iload_n 2, 1) := by decide +kernel
theorem dX9_forget_10 : decode cX9_forget 10 = .ok (.invokevirtual 210, 3) := by decide +kernel
theorem dX9_forget_13 : decode cX9_forget 13 = .ok (.ifCond .ne 6, 3) := by decide +kernel
theorem dX9_forget_16 : decode cX9_forget 16 = .ok (.ldc 213, 2) := by decide +kernel
theorem dX9_forget_18 : decode cX9_forget 18 = .ok (.ireturn, 1) := by decide +kernel
theorem dX9_forget_19 : decode cX9_forget 19 = .ok (.aload_n 0, 1) := by decide +kernel
theorem dX9_forget_20 : decode cX9_forget 20 = .ok (.getfield 35, 3) := by decide +kernel
theorem dX9_forget_23 : decode cX9_forget 23 = .ok (.iload_n 1, 1) := by decide +kernel
theorem dX9_forget_24 : decode cX9_forget 24 = .ok (.iload_n 2, 1) := by decide +kernel
theorem dX9_forget_25 : decode cX9_forget 25 = .ok (.invokestatic 178, 3) := by decide +kernel
theorem dX9_forget_28 : decode cX9_forget 28 = .ok (.ifCond .ne 6, 3) := by decide +kernel
theorem dX9_forget_31 : decode cX9_forget 31 = .ok (.ldc 223, 2) := by decide +kernel
theorem dX9_forget_33 : decode cX9_forget 33 = .ok (.ireturn, 1) := by decide +kernel
theorem dX9_forget_34 : decode cX9_forget 34 = .ok (.aload_n 0, 1) := by decide +kernel
theorem dX9_forget_35 : decode cX9_forget 35 = .ok (.getfield 35, 3) := by decide +kernel
theorem dX9_forget_38 : decode cX9_forget 38 = .ok (.bipush 8, 2) := by decide +kernel
theorem dX9_forget_40 : decode cX9_forget 40 = .ok (.iload_n 1, 1) := by decide +kernel
theorem dX9_forget_41 : decode cX9_forget 41 = .ok (.imul, 1) := by decide +kernel
theorem dX9_forget_42 : decode cX9_forget 42 = .ok (.iload_n 2, 1) := by decide +kernel
theorem dX9_forget_43 : decode cX9_forget 43 = .ok (.iadd, 1) := by decide +kernel
theorem dX9_forget_44 : decode cX9_forget 44 = .ok (.iconst (-1), 1) := by decide +kernel
theorem dX9_forget_45 : decode cX9_forget 45 = .ok (.iastore, 1) := by decide +kernel
theorem dX9_forget_46 : decode cX9_forget 46 = .ok (.aload_n 0, 1) := by decide +kernel
theorem dX9_forget_47 : decode cX9_forget 47 = .ok (.aload_n 0, 1) := by decide +kernel
theorem dX9_forget_48 : decode cX9_forget 48 = .ok (.getfield 35, 3) := by decide +kernel
theorem dX9_forget_51 : decode cX9_forget 51 = .ok (.iload_n 2, 1) := by decide +kernel
theorem dX9_forget_52 : decode cX9_forget 52 = .ok (.invokevirtual 189, 3) := by decide +kernel
theorem dX9_forget_55 : decode cX9_forget 55 = .ok (.ireturn, 1) := by decide +kernel
theorem dX9_barred_0 : decode cX9_barred 0 = .ok (.iload_n 1, 1) := by decide +kernel
theorem dX9_barred_1 : decode cX9_barred 1 = .ok (.iconst 1, 1) := by decide +kernel
theorem dX9_barred_2 : decode cX9_barred 2 = .ok (.bipush 99, 2) := by decide +kernel
theorem dX9_barred_4 : decode cX9_barred 4 = .ok (.invokestatic 79, 3) := by decide +kernel
theorem dX9_barred_7 : decode cX9_barred 7 = .ok (.ifCond .ne 8, 3) := by decide +kernel
theorem dX9_barred_10 : decode cX9_barred 10 = .ok (.ldc 89, 2) := by decide +kernel
theorem dX9_barred_12 : decode cX9_barred 12 = .ok (.goto 33, 3) := by decide +kernel
theorem dX9_barred_15 : decode cX9_barred 15 = .ok (.aload_n 0, 1) := by decide +kernel
theorem dX9_barred_16 : decode cX9_barred 16 = .ok (.getfield 76, 3) := by decide +kernel
theorem dX9_barred_19 : decode cX9_barred 19 = .ok (.ifCond .ne 8, 3) := by decide +kernel
theorem dX9_barred_22 : decode cX9_barred 22 = .ok (.ldc 223, 2) := by decide +kernel
theorem dX9_barred_24 : decode cX9_barred 24 = .ok (.goto 21, 3) := by decide +kernel
theorem dX9_barred_27 : decode cX9_barred 27 = .ok (.aload_n 0, 1) := by decide +kernel
theorem dX9_barred_28 : decode cX9_barred 28 = .ok (.getfield 35, 3) := by decide +kernel
theorem dX9_barred_31 : decode cX9_barred 31 = .ok (.bipush 56, 2) := by decide +kernel
theorem dX9_barred_33 : decode cX9_barred 33 = .ok (.iaload, 1) := by decide +kernel
theorem dX9_barred_34 : decode cX9_barred 34 = .ok (.ldc 224, 2) := by decide +kernel
theorem dX9_barred_36 : decode cX9_barred 36 = .ok (.if_icmp .le 8, 3) := by decide +kernel
theorem dX9_barred_39 : decode cX9_barred 39 = .ok (.ldc 93, 2) := by decide +kernel
theorem dX9_barred_41 : decode cX9_barred 41 = .ok (.goto 4, 3) := by decide +kernel
theorem dX9_barred_44 : decode cX9_barred 44 = .ok (.iconst 0, 1) := by decide +kernel
theorem dX9_barred_45 : decode cX9_barred 45 = .ok (.ireturn, 1) := by decide +kernel
theorem dX9_hour_0 : decode cX9_hour 0 = .ok (.aload_n 0, 1) := by decide +kernel
theorem dX9_hour_1 : decode cX9_hour 1 = .ok (.iload_n 1, 1) := by decide +kernel
theorem dX9_hour_2 : decode cX9_hour 2 = .ok (.invokevirtual 225, 3) := by decide +kernel
theorem dX9_hour_5 : decode cX9_hour 5 = .ok (.istore_n 2, 1) := by decide +kernel
theorem dX9_hour_6 : decode cX9_hour 6 = .ok (.iload_n 2, 1) := by decide +kernel
theorem dX9_hour_7 : decode cX9_hour 7 = .ok (.ifCond .ge 5, 3) := by decide +kernel
theorem dX9_hour_10 : decode cX9_hour 10 = .ok (.iload_n 2, 1) := by decide +kernel
theorem dX9_hour_11 : decode cX9_hour 11 = .ok (.ireturn, 1) := by decide +kernel
theorem dX9_hour_12 : decode cX9_hour 12 = .ok (.aload_n 0, 1) := by decide +kernel
theorem dX9_hour_13 : decode cX9_hour 13 = .ok (.getfield 35, 3) := by decide +kernel
theorem dX9_hour_16 : decode cX9_hour 16 = .ok (.iconst 0, 1) := by decide +kernel
theorem dX9_hour_17 : decode cX9_hour 17 = .ok (.aload_n 0, 1) := by decide +kernel
theorem dX9_hour_18 : decode cX9_hour 18 = .ok (.getfield 38, 3) := by decide +kernel
theorem dX9_hour_21 : decode cX9_hour 21 = .ok (.iconst 0, 1) := by decide +kernel
theorem dX9_hour_22 : decode cX9_hour 22 = .ok (.invokestatic 202, 3) := by decide +kernel
