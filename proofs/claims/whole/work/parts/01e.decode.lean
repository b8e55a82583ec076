section AM13e
theorem dX8_day_0 : decode cX8_day 0 = .ok (.iconst 0, 1) := by decide +kernel
theorem dX8_day_1 : decode cX8_day 1 = .ok (.istore_n 1, 1) := by decide +kernel
theorem dX8_day_2 : decode cX8_day 2 = .ok (.iload_n 1, 1) := by decide +kernel
theorem dX8_day_3 : decode cX8_day 3 = .ok (.aload_n 0, 1) := by decide +kernel
theorem dX8_day_4 : decode cX8_day 4 = .ok (.getfield 9, 3) := by decide +kernel
theorem dX8_day_7 : decode cX8_day 7 = .ok (.iconst 1, 1) := by decide +kernel
theorem dX8_day_8 : decode cX8_day 8 = .ok (.iaload, 1) := by decide +kernel
theorem dX8_day_9 : decode cX8_day 9 = .ok (.if_icmp .ge 87, 3) := by decide +kernel
theorem dX8_day_12 : decode cX8_day 12 = .ok (.aload_n 0, 1) := by decide +kernel
theorem dX8_day_13 : decode cX8_day 13 = .ok (.iload_n 1, 1) := by decide +kernel
theorem dX8_day_14 : decode cX8_day 14 = .ok (.iconst 2, 1) := by decide +kernel
theorem dX8_day_15 : decode cX8_day 15 = .ok (.invokevirtual 117, 3) := by decide +kernel
theorem dX8_day_18 : decode cX8_day 18 = .ok (.ifCond .le 72, 3) := by decide +kernel
theorem dX8_day_21 : decode cX8_day 21 = .ok (.aload_n 0, 1) := by decide +kernel
theorem dX8_day_22 : decode cX8_day 22 = .ok (.iload_n 1, 1) := by decide +kernel
theorem dX8_day_23 : decode cX8_day 23 = .ok (.aload_n 0, 1) := by decide +kernel
theorem dX8_day_24 : decode cX8_day 24 = .ok (.invokevirtual 150, 3) := by decide +kernel
theorem dX8_day_27 : decode cX8_day 27 = .ok (.bipush 10, 2) := by decide +kernel
theorem dX8_day_29 : decode cX8_day 29 = .ok (.irem, 1) := by decide +kernel
theorem dX8_day_30 : decode cX8_day 30 = .ok (.invokevirtual 146, 3) := by decide +kernel
theorem dX8_day_33 : decode cX8_day 33 = .ok (.iconst 0, 1) := by decide +kernel
theorem dX8_day_34 : decode cX8_day 34 = .ok (.aload_n 0, 1) := by decide +kernel
theorem dX8_day_35 : decode cX8_day 35 = .ok (.iload_n 1, 1) := by decide +kernel
theorem dX8_day_36 : decode cX8_day 36 = .ok (.iconst 2, 1) := by decide +kernel
theorem dX8_day_37 : decode cX8_day 37 = .ok (.invokevirtual 117, 3) := by decide +kernel
theorem dX8_day_40 : decode cX8_day 40 = .ok (.invokestatic 142, 3) := by decide +kernel
theorem dX8_day_43 : decode cX8_day 43 = .ok (.istore_n 2, 1) := by decide +kernel
theorem dX8_day_44 : decode cX8_day 44 = .ok (.aload_n 0, 1) := by decide +kernel
theorem dX8_day_45 : decode cX8_day 45 = .ok (.iload_n 1, 1) := by decide +kernel
theorem dX8_day_46 : decode cX8_day 46 = .ok (.iconst 2, 1) := by decide +kernel
theorem dX8_day_47 : decode cX8_day 47 = .ok (.aload_n 0, 1) := by decide +kernel
theorem dX8_day_48 : decode cX8_day 48 = .ok (.iload_n 1, 1) := by decide +kernel
theorem dX8_day_49 : decode cX8_day 49 = .ok (.iconst 2, 1) := by decide +kernel
theorem dX8_day_50 : decode cX8_day 50 = .ok (.invokevirtual 117, 3) := by decide +kernel
theorem dX8_day_53 : decode cX8_day 53 = .ok (.iload_n 2, 1) := by decide +kernel
theorem dX8_day_54 : decode cX8_day 54 = .ok (.isub, 1) := by decide +kernel
theorem dX8_day_55 : decode cX8_day 55 = .ok (.invokevirtual 96, 3) := by decide +kernel
theorem dX8_day_58 : decode cX8_day 58 = .ok (.aload_n 0, 1) := by decide +kernel
theorem dX8_day_59 : decode cX8_day 59 = .ok (.getfield 9, 3) := by decide +kernel
theorem dX8_day_62 : decode cX8_day 62 = .ok (.bipush 6, 2) := by decide +kernel
theorem dX8_day_64 : decode cX8_day 64 = .ok (.dup2, 1) := by decide +kernel
theorem dX8_day_65 : decode cX8_day 65 = .ok (.iaload, 1) := by decide +kernel
theorem dX8_day_66 : decode cX8_day 66 = .ok (.iload_n 2, 1) := by decide +kernel
theorem dX8_day_67 : decode cX8_day 67 = .ok (.iadd, 1) := by decide +kernel
theorem dX8_day_68 : decode cX8_day 68 = .ok (.iastore, 1) := by decide +kernel
theorem dX8_day_69 : decode cX8_day 69 = .ok (.aload_n 0, 1) := by decide +kernel
theorem dX8_day_70 : decode cX8_day 70 = .ok (.iload_n 1, 1) := by decide +kernel
theorem dX8_day_71 : decode cX8_day 71 = .ok (.iconst 4, 1) := by decide +kernel
theorem dX8_day_72 : decode cX8_day 72 = .ok (.aload_n 0, 1) := by decide +kernel
theorem dX8_day_73 : decode cX8_day 73 = .ok (.iload_n 1, 1) := by decide +kernel
theorem dX8_day_74 : decode cX8_day 74 = .ok (.iconst 4, 1) := by decide +kernel
theorem dX8_day_75 : decode cX8_day 75 = .ok (.invokevirtual 117, 3) := by decide +kernel
theorem dX8_day_78 : decode cX8_day 78 = .ok (.iconst 1, 1) := by decide +kernel
theorem dX8_day_79 : decode cX8_day 79 = .ok (.iadd, 1) := by decide +kernel
theorem dX8_day_80 : decode cX8_day 80 = .ok (.iconst 0, 1) := by decide +kernel
theorem dX8_day_81 : decode cX8_day 81 = .ok (.sipush 999, 3) := by decide +kernel
theorem dX8_day_84 : decode cX8_day 84 = .ok (.invokestatic 142, 3) := by decide +kernel
theorem dX8_day_87 : decode cX8_day 87 = .ok (.invokevirtual 96, 3) := by decide +kernel
theorem dX8_day_90 : decode cX8_day 90 = .ok (.iinc 1 1, 3) := by decide +kernel
theorem dX8_day_93 : decode cX8_day 93 = .ok (.goto (-91), 3) := by decide +kernel
theorem dX8_day_96 : decode cX8_day 96 = .ok (.aload_n 0, 1) := by decide +kernel
theorem dX8_day_97 : decode cX8_day 97 = .ok (.getfield 9, 3) := by decide +kernel
theorem dX8_day_100 : decode cX8_day 100 = .ok (.iconst 2, 1) := by decide +kernel
theorem dX8_day_101 : decode cX8_day 101 = .ok (.dup2, 1) := by decide +kernel
theorem dX8_day_102 : decode cX8_day 102 = .ok (.iaload, 1) := by decide +kernel
theorem dX8_day_103 : decode cX8_day 103 = .ok (.iconst 1, 1) := by decide +kernel
theorem dX8_day_104 : decode cX8_day 104 = .ok (.iadd, 1) := by decide +kernel
theorem dX8_day_105 : decode cX8_day 105 = .ok (.iastore, 1) := by decide +kernel
theorem dX8_day_106 : decode cX8_day 106 = .ok (.return_, 1) := by decide +kernel
theorem dX8_goesOn_0 : decode cX8_goesOn 0 = .ok (.iconst 0, 1) := by decide +kernel
theorem dX8_goesOn_1 : decode cX8_goesOn 1 = .ok (.istore_n 2, 1) := by decide +kernel
theorem dX8_goesOn_2 : decode cX8_goesOn 2 = .ok (.iload_n 2, 1) := by decide +kernel
theorem dX8_goesOn_3 : decode cX8_goesOn 3 = .ok (.iload_n 1, 1) := by decide +kernel
theorem dX8_goesOn_4 : decode cX8_goesOn 4 = .ok (.if_icmp .ge 13, 3) := by decide +kernel
theorem dX8_goesOn_7 : decode cX8_goesOn 7 = .ok (.aload_n 0, 1) := by decide +kernel
theorem dX8_goesOn_8 : decode cX8_goesOn 8 = .ok (.invokevirtual 188, 3) := by decide +kernel
theorem dX8_goesOn_11 : decode cX8_goesOn 11 = .ok (.iinc 2 1, 3) := by decide +kernel
theorem dX8_goesOn_14 : decode cX8_goesOn 14 = .ok (.goto (-12), 3) := by decide +kernel
theorem dX8_goesOn_17 : decode cX8_goesOn 17 = .ok (.return_, 1) := by decide +kernel
theorem dX8_days_0 : decode cX8_days 0 = .ok (.iload_n 1, 1) := by decide +kernel
theorem dX8_days_1 : decode cX8_days 1 = .ok (.iconst 1, 1) := by decide +kernel
theorem dX8_days_2 : decode cX8_days 2 = .ok (.bipush 100, 2) := by decide +kernel
theorem dX8_days_4 : decode cX8_days 4 = .ok (.invokestatic 92, 3) := by decide +kernel
theorem dX8_days_7 : decode cX8_days 7 = .ok (.ifCond .ne 6, 3) := by decide +kernel
theorem dX8_days_10 : decode cX8_days 10 = .ok (.ldc 111, 2) := by decide +kernel
theorem dX8_days_12 : decode cX8_days 12 = .ok (.ireturn, 1) := by decide +kernel
theorem dX8_days_13 : decode cX8_days 13 = .ok (.aload_n 0, 1) := by decide +kernel
theorem dX8_days_14 : decode cX8_days 14 = .ok (.sipush 9999, 3) := by decide +kernel
theorem dX8_days_17 : decode cX8_days 17 = .ok (.aload_n 0, 1) := by decide +kernel
theorem dX8_days_18 : decode cX8_days 18 = .ok (.getfield 9, 3) := by decide +kernel
theorem dX8_days_21 : decode cX8_days 21 = .ok (.iconst 2, 1) := by decide +kernel
theorem dX8_days_22 : decode cX8_days 22 = .ok (.iaload, 1) := by decide +kernel
theorem dX8_days_23 : decode cX8_days 23 = .ok (.isub, 1) := by decide +kernel
theorem dX8_days_24 : decode cX8_days 24 = .ok (.iconst 0, 1) := by decide +kernel
theorem dX8_days_25 : decode cX8_days 25 = .ok (.iload_n 1, 1) := by decide +kernel
theorem dX8_days_26 : decode cX8_days 26 = .ok (.invokestatic 142, 3) := by decide +kernel
theorem dX8_days_29 : decode cX8_days 29 = .ok (.invokevirtual 191, 3) := by decide +kernel
theorem dX8_days_32 : decode cX8_days 32 = .ok (.aload_n 0, 1) := by decide +kernel
theorem dX8_days_33 : decode cX8_days 33 = .ok (.invokevirtual 195, 3) := by decide +kernel
theorem dX8_days_36 : decode cX8_days 36 = .ok (.ireturn, 1) := by decide +kernel
theorem dX8_thinks_0 : decode cX8_thinks 0 = .ok (.iconst 0, 1) := by decide +kernel
theorem dX8_thinks_1 : decode cX8_thinks 1 = .ok (.istore_n 1, 1) := by decide +kernel
theorem dX8_thinks_2 : decode cX8_thinks 2 = .ok (.iload_n 1, 1) := by decide +kernel
theorem dX8_thinks_3 : decode cX8_thinks 3 = .ok (.bipush 76, 2) := by decide +kernel
theorem dX8_thinks_5 : decode cX8_thinks 5 = .ok (.if_icmp .ge 21, 3) := by decide +kernel
theorem dX8_thinks_8 : decode cX8_thinks 8 = .ok (.aload_n 0, 1) := by decide +kernel
theorem dX8_thinks_9 : decode cX8_thinks 9 = .ok (.getfield 32, 3) := by decide +kernel
theorem dX8_thinks_12 : decode cX8_thinks 12 = .ok (.iload_n 1, 1) := by decide +kernel
theorem dX8_thinks_13 : decode cX8_thinks 13 = .ok (.aload_n 0, 1) := by decide +kernel
theorem dX8_thinks_14 : decode cX8_thinks 14 = .ok (.getfield 9, 3) := by decide +kernel
theorem dX8_thinks_17 : decode cX8_thinks 17 = .ok (.iload_n 1, 1) := by decide +kernel
theorem dX8_thinks_18 : decode cX8_thinks 18 = .ok (.iaload, 1) := by decide +kernel
theorem dX8_thinks_19 : decode cX8_thinks 19 = .ok (.iastore, 1) := by decide +kernel
theorem dX8_thinks_20 : decode cX8_thinks 20 = .ok (.iinc 1 1, 3) := by decide +kernel
theorem dX8_thinks_23 : decode cX8_thinks 23 = .ok (.goto (-21), 3) := by decide +kernel
theorem dX8_thinks_26 : decode cX8_thinks 26 = .ok (.return_, 1) := by decide +kernel
theorem dX8_putsBack_0 : decode cX8_putsBack 0 = .ok (.iconst 0, 1) := by decide +kernel
theorem dX8_putsBack_1 : decode cX8_putsBack 1 = .ok (.istore_n 1, 1) := by decide +kernel
theorem dX8_putsBack_2 : decode cX8_putsBack 2 = .ok (.iload_n 1, 1) := by decide +kernel
theorem dX8_putsBack_3 : decode cX8_putsBack 3 = .ok (.bipush 76, 2) := by decide +kernel
theorem dX8_putsBack_5 : decode cX8_putsBack 5 = .ok (.if_icmp .ge 21, 3) := by decide +kernel
theorem dX8_putsBack_8 : decode cX8_putsBack 8 = .ok (.aload_n 0, 1) := by decide +kernel
theorem dX8_putsBack_9 : decode cX8_putsBack 9 = .ok (.getfield 9, 3) := by decide +kernel
theorem dX8_putsBack_12 : decode cX8_putsBack 12 = .ok (.iload_n 1, 1) := by decide +kernel
theorem dX8_putsBack_13 : decode cX8_putsBack 13 = .ok (.aload_n 0, 1) := by decide +kernel
theorem dX8_putsBack_14 : decode cX8_putsBack 14 = .ok (.getfield 32, 3) := by decide +kernel
theorem dX8_putsBack_17 : decode cX8_putsBack 17 = .ok (.iload_n 1, 1) := by decide +kernel
theorem dX8_putsBack_18 : decode cX8_putsBack 18 = .ok (.iaload, 1) := by decide +kernel
theorem dX8_putsBack_19 : decode cX8_putsBack 19 = .ok (.iastore, 1) := by decide +kernel
theorem dX8_putsBack_20 : decode cX8_putsBack 20 = .ok (.iinc 1 1, 3) := by decide +kernel
theorem dX8_putsBack_23 : decode cX8_putsBack 23 = .ok (.goto (-21), 3) := by decide +kernel
theorem dX8_putsBack_26 : decode cX8_putsBack 26 = .ok (.return_, 1) := by decide +kernel
theorem dX8_behind_0 : decode cX8_behind 0 = .ok (.iload_n 1, 1) := by decide +kernel
theorem dX8_behind_1 : decode cX8_behind 1 = .ok (.iconst 0, 1) := by decide +kernel
theorem dX8_behind_2 : decode cX8_behind 2 = .ok (.bipush 100, 2) := by decide +kernel
theorem dX8_behind_4 : decode cX8_behind 4 = .ok (.invokestatic 92, 3) := by decide +kernel
theorem dX8_behind_7 : decode cX8_behind 7 = .ok (.ifCond .eq 12, 3) := by decide +kernel
theorem dX8_behind_10 : decode cX8_behind 10 = .ok (.iload_n 2, 1) := by decide +kernel
theorem dX8_behind_11 : decode cX8_behind 11 = .ok (.iconst 0, 1) := by decide +kernel
theorem dX8_behind_12 : decode cX8_behind 12 = .ok (.iconst 2, 1) := by decide +kernel
theorem dX8_behind_13 : decode cX8_behind 13 = .ok (.invokestatic 92, 3) := by decide +kernel
theorem dX8_behind_16 : decode cX8_behind 16 = .ok (.ifCond .ne 6, 3) := by decide +kernel
theorem dX8_behind_19 : decode cX8_behind 19 = .ok (.ldc 111, 2) := by decide +kernel
theorem dX8_behind_21 : decode cX8_behind 21 = .ok (.ireturn, 1) := by decide +kernel
theorem dX8_behind_22 : decode cX8_behind 22 = .ok (.aload_n 0, 1) := by decide +kernel
theorem dX8_behind_23 : decode cX8_behind 23 = .ok (.invokevirtual 198, 3) := by decide +kernel
theorem dX8_behind_26 : decode cX8_behind 26 = .ok (.aload_n 0, 1) := by decide +kernel
theorem dX8_behind_27 : decode cX8_behind 27 = .ok (.iload_n 1, 1) := by decide +kernel
theorem dX8_behind_28 : decode cX8_behind 28 = .ok (.invokevirtual 191, 3) := by decide +kernel
theorem dX8_behind_31 : decode cX8_behind 31 = .ok (.iload_n 2, 1) := by decide +kernel
theorem dX8_behind_32 : decode cX8_behind 32 = .ok (.ifCond .ne 11, 3) := by decide +kernel
theorem dX8_behind_35 : decode cX8_behind 35 = .ok (.aload_n 0, 1) := by decide +kernel
theorem dX8_behind_36 : decode cX8_behind 36 = .ok (.iconst (-1), 1) := by decide +kernel
theorem dX8_behind_37 : decode cX8_behind 37 = .ok (.invokevirtual 179, 3) := by decide +kernel
theorem dX8_behind_40 : decode cX8_behind 40 = .ok (.goto 19, 3) := by decide +kernel
theorem dX8_behind_43 : decode cX8_behind 43 = .ok (.iload_n 2, 1) := by decide +kernel
theorem dX8_behind_44 : decode cX8_behind 44 = .ok (.iconst 1, 1) := by decide +kernel
theorem dX8_behind_45 : decode cX8_behind 45 = .ok (.if_icmp .ne 10, 3) := by decide +kernel
theorem dX8_behind_48 : decode cX8_behind 48 = .ok (.aload_n 0, 1) := by decide +kernel
theorem dX8_behind_49 : decode cX8_behind 49 = .ok (.invokevirtual 201, 3) := by decide +kernel
theorem dX8_behind_52 : decode cX8_behind 52 = .ok (.goto 7, 3) := by decide +kernel
theorem dX8_behind_55 : decode cX8_behind 55 = .ok (.aload_n 0, 1) := by decide +kernel
theorem dX8_behind_56 : decode cX8_behind 56 = .ok (.invokevirtual 195, 3) := by decide +kernel
theorem dX8_behind_59 : decode cX8_behind 59 = .ok (.istore_n 3, 1) := by decide +kernel
theorem dX8_behind_60 : decode cX8_behind 60 = .ok (.aload_n 0, 1) := by decide +kernel
theorem dX8_behind_61 : decode cX8_behind 61 = .ok (.invokevirtual 204, 3) := by decide +kernel
theorem dX8_behind_64 : decode cX8_behind 64 = .ok (.iload_n 3, 1) := by decide +kernel
theorem dX8_behind_65 : decode cX8_behind 65 = .ok (.ireturn, 1) := by decide +kernel
theorem dX8_paid_0 : decode cX8_paid 0 = .ok (.aload_n 0, 1) := by decide +kernel
theorem dX8_paid_1 : decode cX8_paid 1 = .ok (.invokevirtual 198, 3) := by decide +kernel
theorem dX8_paid_4 : decode cX8_paid 4 = .ok (.iconst 0, 1) := by decide +kernel
theorem dX8_paid_5 : decode cX8_paid 5 = .ok (.istore_n 1, 1) := by decide +kernel
theorem dX8_paid_6 : decode cX8_paid 6 = .ok (.iload_n 1, 1) := by decide +kernel
theorem dX8_paid_7 : decode cX8_paid 7 = .ok (.sipush 300, 3) := by decide +kernel
theorem dX8_paid_10 : decode cX8_paid 10 = .ok (.if_icmp .gt 26, 3) := by decide +kernel
theorem dX8_paid_13 : decode cX8_paid 13 = .ok (.aload_n 0, 1) := by decide +kernel
theorem dX8_paid_14 : decode cX8_paid 14 = .ok (.invokevirtual 195, 3) := by decide +kernel
theorem dX8_paid_17 : decode cX8_paid 17 = .ok (.aload_n 0, 1) := by decide +kernel
theorem dX8_paid_18 : decode cX8_paid 18 = .ok (.getfield 9, 3) := by decide +kernel
theorem dX8_paid_21 : decode cX8_paid 21 = .ok (.iconst 1, 1) := by decide +kernel
theorem dX8_paid_22 : decode cX8_paid 22 = .ok (.iaload, 1) := by decide +kernel
theorem dX8_paid_23 : decode cX8_paid 23 = .ok (.if_icmp .ge 13, 3) := by decide +kernel
theorem dX8_paid_26 : decode cX8_paid 26 = .ok (.aload_n 0, 1) := by decide +kernel
theorem dX8_paid_27 : decode cX8_paid 27 = .ok (.invokevirtual 188, 3) := by decide +kernel
theorem dX8_paid_30 : decode cX8_paid 30 = .ok (.iinc 1 1, 3) := by decide +kernel
theorem dX8_paid_33 : decode cX8_paid 33 = .ok (.goto (-27), 3) := by decide +kernel
theorem dX8_paid_36 : decode cX8_paid 36 = .ok (.aload_n 0, 1) := by decide +kernel
theorem dX8_paid_37 : decode cX8_paid 37 = .ok (.invokevirtual 204, 3) := by decide +kernel
theorem dX8_paid_40 : decode cX8_paid 40 = .ok (.iload_n 1, 1) := by decide +kernel
theorem dX8_paid_41 : decode cX8_paid 41 = .ok (.sipush 300, 3) := by decide +kernel
theorem dX8_paid_44 : decode cX8_paid 44 = .ok (.if_icmp .gt 7, 3) := by decide +kernel
theorem dX8_paid_47 : decode cX8_paid 47 = .ok (.iload_n 1, 1) := by decide +kernel
theorem dX8_paid_48 : decode cX8_paid 48 = .ok (.goto 5, 3) := by decide +kernel
theorem dX8_paid_51 : decode cX8_paid 51 = .ok (.ldc 91, 2) := by decide +kernel
theorem dX8_paid_53 : decode cX8_paid 53 = .ok (.ireturn, 1) := by decide +kernel
theorem dX8_best_0 : decode cX8_best 0 = .ok (.iload_n 1, 1) := by decide +kernel
theorem dX8_best_1 : decode cX8_best 1 = .ok (.iconst 0, 1) := by decide +kernel
theorem dX8_best_2 : decode cX8_best 2 = .ok (.bipush 30, 2) := by decide +kernel
theorem dX8_best_4 : decode cX8_best 4 = .ok (.invokestatic 92, 3) := by decide +kernel
theorem dX8_best_7 : decode cX8_best 7 = .ok (.ifCond .eq 12, 3) := by decide +kernel
theorem dX8_best_10 : decode cX8_best 10 = .ok (.iload_n 2, 1) := by decide +kernel
theorem dX8_best_11 : decode cX8_best 11 = .ok (.iconst 0, 1) := by decide +kernel
theorem dX8_best_12 : decode cX8_best 12 = .ok (.iconst 1, 1) := by decide +kernel
theorem dX8_best_13 : decode cX8_best 13 = .ok (.invokestatic 92, 3) := by decide +kernel
theorem dX8_best_16 : decode cX8_best 16 = .ok (.ifCond .ne 6, 3) := by decide +kernel
theorem dX8_best_19 : decode cX8_best 19 = .ok (.ldc 111, 2) := by decide +kernel
theorem dX8_best_21 : decode cX8_best 21 = .ok (.ireturn, 1) := by decide +kernel
theorem dX8_best_22 : decode cX8_best 22 = .ok (.aload_n 0, 1) := by decide +kernel
theorem dX8_best_23 : decode cX8_best 23 = .ok (.invokevirtual 198, 3) := by decide +kernel
theorem dX8_best_26 : decode cX8_best 26 = .ok (.iconst 0, 1) := by decide +kernel
theorem dX8_best_27 : decode cX8_best 27 = .ok (.istore_n 3, 1) := by decide +kernel
theorem dX8_best_28 : decode cX8_best 28 = .ok (.aload_n 0, 1) := by decide +kernel
theorem dX8_best_29 : decode cX8_best 29 = .ok (.iconst (-1), 1) := by decide +kernel
theorem dX8_best_30 : decode cX8_best 30 = .ok (.invokevirtual 179, 3) := by decide +kernel
theorem dX8_best_33 : decode cX8_best 33 = .ok (.istore 4, 2) := by decide +kernel
theorem dX8_best_35 : decode cX8_best 35 = .ok (.iconst 1, 1) := by decide +kernel
theorem dX8_best_36 : decode cX8_best 36 = .ok (.istore 5, 2) := by decide +kernel
theorem dX8_best_38 : decode cX8_best 38 = .ok (.iload 5, 2) := by decide +kernel
theorem dX8_best_40 : decode cX8_best 40 = .ok (.iload_n 1, 1) := by decide +kernel
theorem dX8_best_41 : decode cX8_best 41 = .ok (.if_icmp .gt 50, 3) := by decide +kernel
theorem dX8_best_44 : decode cX8_best 44 = .ok (.aload_n 0, 1) := by decide +kernel
theorem dX8_best_45 : decode cX8_best 45 = .ok (.invokevirtual 188, 3) := by decide +kernel
theorem dX8_best_48 : decode cX8_best 48 = .ok (.aload_n 0, 1) := by decide +kernel
theorem dX8_best_49 : decode cX8_best 49 = .ok (.iconst (-1), 1) := by decide +kernel
theorem dX8_best_50 : decode cX8_best 50 = .ok (.invokevirtual 179, 3) := by decide +kernel
theorem dX8_best_53 : decode cX8_best 53 = .ok (.istore 6, 2) := by decide +kernel
theorem dX8_best_55 : decode cX8_best 55 = .ok (.iload 6, 2) := by decide +kernel
theorem dX8_best_57 : decode cX8_best 57 = .ok (.iload 4, 2) := by decide +kernel
theorem dX8_best_59 : decode cX8_best 59 = .ok (.if_icmp .le 8, 3) := by decide +kernel
theorem dX8_best_62 : decode cX8_best 62 = .ok (.iload 5, 2) := by decide +kernel
theorem dX8_best_64 : decode cX8_best 64 = .ok (.goto 4, 3) := by decide +kernel
theorem dX8_best_67 : decode cX8_best 67 = .ok (.iload_n 3, 1) := by decide +kernel
theorem dX8_best_68 : decode cX8_best 68 = .ok (.istore_n 3, 1) := by decide +kernel
theorem dX8_best_69 : decode cX8_best 69 = .ok (.iload 6, 2) := by decide +kernel
theorem dX8_best_71 : decode cX8_best 71 = .ok (.iload 4, 2) := by decide +kernel
theorem dX8_best_73 : decode cX8_best 73 = .ok (.if_icmp .le 8, 3) := by decide +kernel
theorem dX8_best_76 : decode cX8_best 76 = .ok (.iload 6, 2) := by decide +kernel
theorem dX8_best_78 : decode cX8_best 78 = .ok (.goto 5, 3) := by decide +kernel
theorem dX8_best_81 : decode cX8_best 81 = .ok (.iload 4, 2) := by decide +kernel
theorem dX8_best_83 : decode cX8_best 83 = .ok (.istore 4, 2) := by decide +kernel
theorem dX8_best_85 : decode cX8_best 85 = .ok (.iinc 5 1, 3) := by decide +kernel
theorem dX8_best_88 : decode cX8_best 88 = .ok (.goto (-50), 3) := by decide +kernel
theorem dX8_best_91 : decode cX8_best 91 = .ok (.aload_n 0, 1) := by decide +kernel
theorem dX8_best_92 : decode cX8_best 92 = .ok (.invokevirtual 204, 3) := by decide +kernel
theorem dX8_best_95 : decode cX8_best 95 = .ok (.iload_n 2, 1) := by decide +kernel
theorem dX8_best_96 : decode cX8_best 96 = .ok (.ifCond .ne 7, 3) := by decide +kernel
theorem dX8_best_99 : decode cX8_best 99 = .ok (.iload_n 3, 1) := by decide +kernel
theorem dX8_best_100 : decode cX8_best 100 = .ok (.goto 5, 3) := by decide +kernel
theorem dX8_best_103 : decode cX8_best 103 = .ok (.iload 4, 2) := by decide +kernel
theorem dX8_best_105 : decode cX8_best 105 = .ok (.ireturn, 1) := by decide +kernel
theorem dX8_owedBy_0 : decode cX8_owedBy 0 = .ok (.iconst 0, 1) := by decide +kernel
theorem dX8_owedBy_1 : decode cX8_owedBy 1 = .ok (.istore_n 2, 1) := by decide +kernel
theorem dX8_owedBy_2 : decode cX8_owedBy 2 = .ok (.iconst 0, 1) := by decide +kernel
theorem dX8_owedBy_3 : decode cX8_owedBy 3 = .ok (.istore_n 3, 1) := by decide +kernel
theorem dX8_owedBy_4 : decode cX8_owedBy 4 = .ok (.iload_n 3, 1) := by decide +kernel
theorem dX8_owedBy_5 : decode cX8_owedBy 5 = .ok (.aload_n 0, 1) := by decide +kernel
theorem dX8_owedBy_6 : decode cX8_owedBy 6 = .ok (.getfield 9, 3) := by decide +kernel
theorem dX8_owedBy_9 : decode cX8_owedBy 9 = .ok (.iconst 1, 1) := by decide +kernel
theorem dX8_owedBy_10 : decode cX8_owedBy 10 = .ok (.iaload, 1) := by decide +kernel
theorem dX8_owedBy_11 : decode cX8_owedBy 11 = .ok (.if_icmp .ge 32, 3) := by decide +kernel
theorem dX8_owedBy_14 : decode cX8_owedBy 14 = .ok (.iload_n 2, 1) := by decide +kernel
theorem dX8_owedBy_15 : decode cX8_owedBy 15 = .ok (.aload_n 0, 1) := by decide +kernel
theorem dX8_owedBy_16 : decode cX8_owedBy 16 = .ok (.iload_n 3, 1) := by decide +kernel
theorem dX8_owedBy_17 : decode cX8_owedBy 17 = .ok (.iconst 3, 1) := by decide +kernel
theorem dX8_owedBy_18 : decode cX8_owedBy 18 = .ok (.invokevirtual 117, 3) := by decide +kernel
theorem dX8_owedBy_21 : decode cX8_owedBy 21 = .ok (.iload_n 1, 1) := by decide +kernel
theorem dX8_owedBy_22 : decode cX8_owedBy 22 = .ok (.if_icmp .ne 12, 3) := by decide +kernel
theorem dX8_owedBy_25 : decode cX8_owedBy 25 = .ok (.aload_n 0, 1) := by decide +kernel
theorem dX8_owedBy_26 : decode cX8_owedBy 26 = .ok (.iload_n 3, 1) := by decide +kernel
theorem dX8_owedBy_27 : decode cX8_owedBy 27 = .ok (.iconst 2, 1) := by decide +kernel
theorem dX8_owedBy_28 : decode cX8_owedBy 28 = .ok (.invokevirtual 117, 3) := by decide +kernel
theorem dX8_owedBy_31 : decode cX8_owedBy 31 = .ok (.goto 4, 3) := by decide +kernel
theorem dX8_owedBy_34 : decode cX8_owedBy 34 = .ok (.iconst 0, 1) := by decide +kernel
theorem dX8_owedBy_35 : decode cX8_owedBy 35 = .ok (.iadd, 1) := by decide +kernel
theorem dX8_owedBy_36 : decode cX8_owedBy 36 = .ok (.istore_n 2, 1) := by decide +kernel
theorem dX8_owedBy_37 : decode cX8_owedBy 37 = .ok (.iinc 3 1, 3) := by decide +kernel
theorem dX8_owedBy_40 : decode cX8_owedBy 40 = .ok (.goto (-36), 3) := by decide +kernel
theorem dX8_owedBy_43 : decode cX8_owedBy 43 = .ok (.iload_n 2, 1) := by decide +kernel
theorem dX8_owedBy_44 : decode cX8_owedBy 44 = .ok (.ireturn, 1) := by decide +kernel
theorem dX8_owes_0 : decode cX8_owes 0 = .ok (.iload_n 1, 1) := by decide +kernel
theorem dX8_owes_1 : decode cX8_owes 1 = .ok (.invokestatic 108, 3) := by decide +kernel
theorem dX8_owes_4 : decode cX8_owes 4 = .ok (.ifCond .eq 11, 3) := by decide +kernel
theorem dX8_owes_7 : decode cX8_owes 7 = .ok (.aload_n 0, 1) := by decide +kernel
theorem dX8_owes_8 : decode cX8_owes 8 = .ok (.iload_n 1, 1) := by decide +kernel
theorem dX8_owes_9 : decode cX8_owes 9 = .ok (.invokevirtual 207, 3) := by decide +kernel
theorem dX8_owes_12 : decode cX8_owes 12 = .ok (.goto 5, 3) := by decide +kernel
theorem dX8_owes_15 : decode cX8_owes 15 = .ok (.ldc 111, 2) := by decide +kernel
theorem dX8_owes_17 : decode cX8_owes 17 = .ok (.ireturn, 1) := by decide +kernel
theorem dX8_debtor_0 : decode cX8_debtor 0 = .ok (.iconst 0, 1) := by decide +kernel
theorem dX8_debtor_1 : decode cX8_debtor 1 = .ok (.istore_n 1, 1) := by decide +kernel
theorem dX8_debtor_2 : decode cX8_debtor 2 = .ok (.iconst 1, 1) := by decide +kernel
theorem dX8_debtor_3 : decode cX8_debtor 3 = .ok (.istore_n 2, 1) := by decide +kernel
theorem dX8_debtor_4 : decode cX8_debtor 4 = .ok (.iload_n 2, 1) := by decide +kernel
theorem dX8_debtor_5 : decode cX8_debtor 5 = .ok (.bipush 8, 2) := by decide +kernel
theorem dX8_debtor_7 : decode cX8_debtor 7 = .ok (.if_icmp .ge 28, 3) := by decide +kernel
theorem dX8_debtor_10 : decode cX8_debtor 10 = .ok (.aload_n 0, 1) := by decide +kernel
theorem dX8_debtor_11 : decode cX8_debtor 11 = .ok (.iload_n 2, 1) := by decide +kernel
theorem dX8_debtor_12 : decode cX8_debtor 12 = .ok (.invokevirtual 207, 3) := by decide +kernel
theorem dX8_debtor_15 : decode cX8_debtor 15 = .ok (.aload_n 0, 1) := by decide +kernel
theorem dX8_debtor_16 : decode cX8_debtor 16 = .ok (.iload_n 1, 1) := by decide +kernel
theorem dX8_debtor_17 : decode cX8_debtor 17 = .ok (.invokevirtual 207, 3) := by decide +kernel
theorem dX8_debtor_20 : decode cX8_debtor 20 = .ok (.if_icmp .le 7, 3) := by decide +kernel
theorem dX8_debtor_23 : decode cX8_debtor 23 = .ok (.iload_n 2, 1) := by decide +kernel
theorem dX8_debtor_24 : decode cX8_debtor 24 = .ok (.goto 4, 3) := by decide +kernel
theorem dX8_debtor_27 : decode cX8_debtor 27 = .ok (.iload_n 1, 1) := by decide +kernel
theorem dX8_debtor_28 : decode cX8_debtor 28 = .ok (.istore_n 1, 1) := by decide +kernel
theorem dX8_debtor_29 : decode cX8_debtor 29 = .ok (.iinc 2 1, 3) := by decide +kernel
theorem dX8_debtor_32 : decode cX8_debtor 32 = .ok (.goto (-28), 3) := by decide +kernel
theorem dX8_debtor_35 : decode cX8_debtor 35 = .ok (.iload_n 1, 1) := by decide +kernel
theorem dX8_debtor_36 : decode cX8_debtor 36 = .ok (.ireturn, 1) := by decide +kernel
theorem dX8_dug_0 : decode cX8_dug 0 = .ok (.iload_n 1, 1) := by decide +kernel
theorem dX8_dug_1 : decode cX8_dug 1 = .ok (.invokestatic 210, 3) := by decide +kernel
theorem dX8_dug_4 : decode cX8_dug 4 = .ok (.ifCond .eq 12, 3) := by decide +kernel
theorem dX8_dug_7 : decode cX8_dug 7 = .ok (.iload_n 2, 1) := by decide +kernel
theorem dX8_dug_8 : decode cX8_dug 8 = .ok (.iconst 0, 1) := by decide +kernel
theorem dX8_dug_9 : decode cX8_dug 9 = .ok (.iconst 1, 1) := by decide +kernel
theorem dX8_dug_10 : decode cX8_dug 10 = .ok (.invokestatic 92, 3) := by decide +kernel
theorem dX8_dug_13 : decode cX8_dug 13 = .ok (.ifCond .ne 6, 3) := by decide +kernel
theorem dX8_dug_16 : decode cX8_dug 16 = .ok (.ldc 111, 2) := by decide +kernel
theorem dX8_dug_18 : decode cX8_dug 18 = .ok (.ireturn, 1) := by decide +kernel
theorem dX8_dug_19 : decode cX8_dug 19 = .ok (.aload_n 0, 1) := by decide +kernel
theorem dX8_dug_20 : decode cX8_dug 20 = .ok (.getfield 64, 3) := by decide +kernel
theorem dX8_dug_23 : decode cX8_dug 23 = .ok (.iload_n 1, 1) := by decide +kernel
theorem dX8_dug_24 : decode cX8_dug 24 = .ok (.iaload, 1) := by decide +kernel
theorem dX8_dug_25 : decode cX8_dug 25 = .ok (.ifCond .ge 6, 3) := by decide +kernel
theorem dX8_dug_28 : decode cX8_dug 28 = .ok (.ldc 213, 2) := by decide +kernel
theorem dX8_dug_30 : decode cX8_dug 30 = .ok (.ireturn, 1) := by decide +kernel
theorem dX8_dug_31 : decode cX8_dug 31 = .ok (.iconst 0, 1) := by decide +kernel
theorem dX8_dug_32 : decode cX8_dug 32 = .ok (.istore_n 3, 1) := by decide +kernel
theorem dX8_dug_33 : decode cX8_dug 33 = .ok (.iload_n 3, 1) := by decide +kernel
theorem dX8_dug_34 : decode cX8_dug 34 = .ok (.bipush 10, 2) := by decide +kernel
theorem dX8_dug_36 : decode cX8_dug 36 = .ok (.if_icmp .ge 16, 3) := by decide +kernel
theorem dX8_dug_39 : decode cX8_dug 39 = .ok (.aload_n 0, 1) := by decide +kernel
theorem dX8_dug_40 : decode cX8_dug 40 = .ok (.getfield 35, 3) := by decide +kernel
theorem dX8_dug_43 : decode cX8_dug 43 = .ok (.iload_n 3, 1) := by decide +kernel
theorem dX8_dug_44 : decode cX8_dug 44 = .ok (.lconst 0, 1) := by decide +kernel
theorem dX8_dug_45 : decode cX8_dug 45 = .ok (.lastore, 1) := by decide +kernel
theorem dX8_dug_46 : decode cX8_dug 46 = .ok (.iinc 3 1, 3) := by decide +kernel
theorem dX8_dug_49 : decode cX8_dug 49 = .ok (.goto (-16), 3) := by decide +kernel
theorem dX8_dug_52 : decode cX8_dug 52 = .ok (.aload_n 0, 1) := by decide +kernel
theorem dX8_dug_53 : decode cX8_dug 53 = .ok (.invokevirtual 198, 3) := by decide +kernel
theorem dX8_dug_56 : decode cX8_dug 56 = .ok (.iconst 0, 1) := by decide +kernel
theorem dX8_dug_57 : decode cX8_dug 57 = .ok (.istore_n 3, 1) := by decide +kernel
theorem dX8_dug_58 : decode cX8_dug 58 = .ok (.iload_n 3, 1) := by decide +kernel
theorem dX8_dug_59 : decode cX8_dug 59 = .ok (.aload_n 0, 1) := by decide +kernel
theorem dX8_dug_60 : decode cX8_dug 60 = .ok (.getfield 67, 3) := by decide +kernel
theorem dX8_dug_63 : decode cX8_dug 63 = .ok (.iload_n 1, 1) := by decide +kernel
theorem dX8_dug_64 : decode cX8_dug 64 = .ok (.iaload, 1) := by decide +kernel
theorem dX8_dug_65 : decode cX8_dug 65 = .ok (.if_icmp .ge 92, 3) := by decide +kernel
theorem dX8_dug_68 : decode cX8_dug 68 = .ok (.aload_n 0, 1) := by decide +kernel
theorem dX8_dug_69 : decode cX8_dug 69 = .ok (.getfield 70, 3) := by decide +kernel
theorem dX8_dug_72 : decode cX8_dug 72 = .ok (.bipush 24, 2) := by decide +kernel
theorem dX8_dug_74 : decode cX8_dug 74 = .ok (.iload_n 1, 1) := by decide +kernel
theorem dX8_dug_75 : decode cX8_dug 75 = .ok (.imul, 1) := by decide +kernel
theorem dX8_dug_76 : decode cX8_dug 76 = .ok (.iload_n 3, 1) := by decide +kernel
theorem dX8_dug_77 : decode cX8_dug 77 = .ok (.iadd, 1) := by decide +kernel
theorem dX8_dug_78 : decode cX8_dug 78 = .ok (.iaload, 1) := by decide +kernel
theorem dX8_dug_79 : decode cX8_dug 79 = .ok (.istore 4, 2) := by decide +kernel
theorem dX8_dug_81 : decode cX8_dug 81 = .ok (.iconst 0, 1) := by decide +kernel
theorem dX8_dug_82 : decode cX8_dug 82 = .ok (.istore 5, 2) := by decide +kernel
theorem dX8_dug_84 : decode cX8_dug 84 = .ok (.iload 5, 2) := by decide +kernel
theorem dX8_dug_86 : decode cX8_dug 86 = .ok (.aload_n 0, 1) := by decide +kernel
theorem dX8_dug_87 : decode cX8_dug 87 = .ok (.getfield 9, 3) := by decide +kernel
theorem dX8_dug_90 : decode cX8_dug 90 = .ok (.iconst 1, 1) := by decide +kernel
theorem dX8_dug_91 : decode cX8_dug 91 = .ok (.iaload, 1) := by decide +kernel
theorem dX8_dug_92 : decode cX8_dug 92 = .ok (.if_icmp .ge 55, 3) := by decide +kernel
theorem dX8_dug_95 : decode cX8_dug 95 = .ok (.iload 4, 2) := by decide +kernel
theorem dX8_dug_97 : decode cX8_dug 97 = .ok (.ldc 91, 2) := by decide +kernel
theorem dX8_dug_99 : decode cX8_dug 99 = .ok (.if_icmp .eq 48, 3) := by decide +kernel
theorem dX8_dug_102 : decode cX8_dug 102 = .ok (.iload 4, 2) := by decide +kernel
theorem dX8_dug_104 : decode cX8_dug 104 = .ok (.i2l, 1) := by decide +kernel
theorem dX8_dug_105 : decode cX8_dug 105 = .ok (.aload_n 0, 1) := by decide +kernel
theorem dX8_dug_106 : decode cX8_dug 106 = .ok (.iload 5, 2) := by decide +kernel
theorem dX8_dug_108 : decode cX8_dug 108 = .ok (.iconst 2, 1) := by decide +kernel
theorem dX8_dug_109 : decode cX8_dug 109 = .ok (.invokevirtual 117, 3) := by decide +kernel
theorem dX8_dug_112 : decode cX8_dug 112 = .ok (.i2l, 1) := by decide +kernel
theorem dX8_dug_113 : decode cX8_dug 113 = .ok (.lsub, 1) := by decide +kernel
theorem dX8_dug_114 : decode cX8_dug 114 = .ok (.lstore 6, 2) := by decide +kernel
theorem dX8_dug_116 : decode cX8_dug 116 = .ok (.aload_n 0, 1) := by decide +kernel
theorem dX8_dug_117 : decode cX8_dug 117 = .ok (.getfield 35, 3) := by decide +kernel
theorem dX8_dug_120 : decode cX8_dug 120 = .ok (.iload 5, 2) := by decide +kernel
theorem dX8_dug_122 : decode cX8_dug 122 = .ok (.dup2, 1) := by decide +kernel
theorem dX8_dug_123 : decode cX8_dug 123 = .ok (.laload, 1) := by decide +kernel
theorem dX8_dug_124 : decode cX8_dug 124 = .ok (.lload 6, 2) := by decide +kernel
theorem dX8_dug_126 : decode cX8_dug 126 = .ok (.lconst 0, 1) := by decide +kernel
theorem dX8_dug_127 : decode cX8_dug 127 = .ok (.lcmp, 1) := by decide +kernel
theorem dX8_dug_128 : decode cX8_dug 128 = .ok (.ifCond .ge 9, 3) := by decide +kernel
theorem dX8_dug_131 : decode cX8_dug 131 = .ok (.lload 6, 2) := by decide +kernel
theorem dX8_dug_133 : decode cX8_dug 133 = .ok (.lneg, 1) := by decide +kernel
theorem dX8_dug_134 : decode cX8_dug 134 = .ok (.goto 5, 3) := by decide +kernel
theorem dX8_dug_137 : decode cX8_dug 137 = .ok (.lload 6, 2) := by decide +kernel
theorem dX8_dug_139 : decode cX8_dug 139 = .ok (.ladd, 1) := by decide +kernel
theorem dX8_dug_140 : decode cX8_dug 140 = .ok (.lastore, 1) := by decide +kernel
theorem dX8_dug_141 : decode cX8_dug 141 = .ok (.iinc 5 1, 3) := by decide +kernel
theorem dX8_dug_144 : decode cX8_dug 144 = .ok (.goto (-60), 3) := by decide +kernel
theorem dX8_dug_147 : decode cX8_dug 147 = .ok (.aload_n 0, 1) := by decide +kernel
theorem dX8_dug_148 : decode cX8_dug 148 = .ok (.invokevirtual 188, 3) := by decide +kernel
theorem dX8_dug_151 : decode cX8_dug 151 = .ok (.iinc 3 1, 3) := by decide +kernel
theorem dX8_dug_154 : decode cX8_dug 154 = .ok (.goto (-96), 3) := by decide +kernel
theorem dX8_dug_157 : decode cX8_dug 157 = .ok (.aload_n 0, 1) := by decide +kernel
theorem dX8_dug_158 : decode cX8_dug 158 = .ok (.invokevirtual 204, 3) := by decide +kernel
theorem dX8_dug_161 : decode cX8_dug 161 = .ok (.iconst (-1), 1) := by decide +kernel
theorem dX8_dug_162 : decode cX8_dug 162 = .ok (.istore_n 3, 1) := by decide +kernel
theorem dX8_dug_163 : decode cX8_dug 163 = .ok (.iconst 0, 1) := by decide +kernel
theorem dX8_dug_164 : decode cX8_dug 164 = .ok (.istore 4, 2) := by decide +kernel
theorem dX8_dug_166 : decode cX8_dug 166 = .ok (.iload 4, 2) := by decide +kernel
theorem dX8_dug_168 : decode cX8_dug 168 = .ok (.aload_n 0, 1) := by decide +kernel
theorem dX8_dug_169 : decode cX8_dug 169 = .ok (.getfield 9, 3) := by decide +kernel
theorem dX8_dug_172 : decode cX8_dug 172 = .ok (.iconst 1, 1) := by decide +kernel
theorem dX8_dug_173 : decode cX8_dug 173 = .ok (.iaload, 1) := by decide +kernel
theorem dX8_dug_174 : decode cX8_dug 174 = .ok (.if_icmp .ge 37, 3) := by decide +kernel
theorem dX8_dug_177 : decode cX8_dug 177 = .ok (.iload_n 3, 1) := by decide +kernel
theorem dX8_dug_178 : decode cX8_dug 178 = .ok (.ifCond .lt 20, 3) := by decide +kernel
theorem dX8_dug_181 : decode cX8_dug 181 = .ok (.aload_n 0, 1) := by decide +kernel
theorem dX8_dug_182 : decode cX8_dug 182 = .ok (.getfield 35, 3) := by decide +kernel
theorem dX8_dug_185 : decode cX8_dug 185 = .ok (.iload 4, 2) := by decide +kernel
theorem dX8_dug_187 : decode cX8_dug 187 = .ok (.laload, 1) := by decide +kernel
theorem dX8_dug_188 : decode cX8_dug 188 = .ok (.aload_n 0, 1) := by decide +kernel
theorem dX8_dug_189 : decode cX8_dug 189 = .ok (.getfield 35, 3) := by decide +kernel
theorem dX8_dug_192 : decode cX8_dug 192 = .ok (.iload_n 3, 1) := by decide +kernel
theorem dX8_dug_193 : decode cX8_dug 193 = .ok (.laload, 1) := by decide +kernel
theorem dX8_dug_194 : decode cX8_dug 194 = .ok (.lcmp, 1) := by decide +kernel
theorem dX8_dug_195 : decode cX8_dug 195 = .ok (.ifCond .ge 8, 3) := by decide +kernel
theorem dX8_dug_198 : decode cX8_dug 198 = .ok (.iload 4, 2) := by decide +kernel
theorem dX8_dug_200 : decode cX8_dug 200 = .ok (.goto 4, 3) := by decide +kernel
theorem dX8_dug_203 : decode cX8_dug 203 = .ok (.iload_n 3, 1) := by decide +kernel
theorem dX8_dug_204 : decode cX8_dug 204 = .ok (.istore_n 3, 1) := by decide +kernel
theorem dX8_dug_205 : decode cX8_dug 205 = .ok (.iinc 4 1, 3) := by decide +kernel
theorem dX8_dug_208 : decode cX8_dug 208 = .ok (.goto (-42), 3) := by decide +kernel
theorem dX8_dug_211 : decode cX8_dug 211 = .ok (.iload_n 3, 1) := by decide +kernel
theorem dX8_dug_212 : decode cX8_dug 212 = .ok (.ifCond .ge 8, 3) := by decide +kernel
theorem dX8_dug_215 : decode cX8_dug 215 = .ok (.ldc 91, 2) := by decide +kernel
theorem dX8_dug_217 : decode cX8_dug 217 = .ok (.goto 18, 3) := by decide +kernel
theorem dX8_dug_220 : decode cX8_dug 220 = .ok (.iload_n 2, 1) := by decide +kernel
theorem dX8_dug_221 : decode cX8_dug 221 = .ok (.ifCond .ne 7, 3) := by decide +kernel
theorem dX8_dug_224 : decode cX8_dug 224 = .ok (.iload_n 3, 1) := by decide +kernel
theorem dX8_dug_225 : decode cX8_dug 225 = .ok (.goto 10, 3) := by decide +kernel
theorem dX8_dug_228 : decode cX8_dug 228 = .ok (.aload_n 0, 1) := by decide +kernel
theorem dX8_dug_229 : decode cX8_dug 229 = .ok (.getfield 35, 3) := by decide +kernel
theorem dX8_dug_232 : decode cX8_dug 232 = .ok (.iload_n 3, 1) := by decide +kernel
theorem dX8_dug_233 : decode cX8_dug 233 = .ok (.laload, 1) := by decide +kernel
theorem dX8_dug_234 : decode cX8_dug 234 = .ok (.l2i, 1) := by decide +kernel
theorem dX8_dug_235 : decode cX8_dug 235 = .ok (.ireturn, 1) := by decide +kernel
theorem dX8_fine_0 : decode cX8_fine 0 = .ok (.iload_n 1, 1) := by decide +kernel
theorem dX8_fine_1 : decode cX8_fine 1 = .ok (.invokestatic 108, 3) := by decide +kernel
theorem dX8_fine_4 : decode cX8_fine 4 = .ok (.ifCond .ne 6, 3) := by decide +kernel
theorem dX8_fine_7 : decode cX8_fine 7 = .ok (.ldc 111, 2) := by decide +kernel
theorem dX8_fine_9 : decode cX8_fine 9 = .ok (.ireturn, 1) := by decide +kernel
theorem dX8_fine_10 : decode cX8_fine 10 = .ok (.aload_n 0, 1) := by decide +kernel
theorem dX8_fine_11 : decode cX8_fine 11 = .ok (.iconst 2, 1) := by decide +kernel
theorem dX8_fine_12 : decode cX8_fine 12 = .ok (.invokevirtual 136, 3) := by decide +kernel
theorem dX8_fine_15 : decode cX8_fine 15 = .ok (.istore_n 2, 1) := by decide +kernel
theorem dX8_fine_16 : decode cX8_fine 16 = .ok (.aload_n 0, 1) := by decide +kernel
theorem dX8_fine_17 : decode cX8_fine 17 = .ok (.getfield 61, 3) := by decide +kernel
theorem dX8_fine_20 : decode cX8_fine 20 = .ok (.iconst 0, 1) := by decide +kernel
theorem dX8_fine_21 : decode cX8_fine 21 = .ok (.aload_n 0, 1) := by decide +kernel
theorem dX8_fine_22 : decode cX8_fine 22 = .ok (.iload_n 1, 1) := by decide +kernel
theorem dX8_fine_23 : decode cX8_fine 23 = .ok (.invokevirtual 207, 3) := by decide +kernel
theorem dX8_fine_26 : decode cX8_fine 26 = .ok (.iastore, 1) := by decide +kernel
theorem dX8_fine_27 : decode cX8_fine 27 = .ok (.aload_n 0, 1) := by decide +kernel
theorem dX8_fine_28 : decode cX8_fine 28 = .ok (.getfield 61, 3) := by decide +kernel
theorem dX8_fine_31 : decode cX8_fine 31 = .ok (.iconst 1, 1) := by decide +kernel
theorem dX8_fine_32 : decode cX8_fine 32 = .ok (.aload_n 0, 1) := by decide +kernel
theorem dX8_fine_33 : decode cX8_fine 33 = .ok (.getfield 9, 3) := by decide +kernel
theorem dX8_fine_36 : decode cX8_fine 36 = .ok (.iconst 5, 1) := by decide +kernel
theorem dX8_fine_37 : decode cX8_fine 37 = .ok (.iaload, 1) := by decide +kernel
theorem dX8_fine_38 : decode cX8_fine 38 = .ok (.iastore, 1) := by decide +kernel
theorem dX8_fine_39 : decode cX8_fine 39 = .ok (.iload_n 2, 1) := by decide +kernel
theorem dX8_fine_40 : decode cX8_fine 40 = .ok (.ifCond .ge 11, 3) := by decide +kernel
theorem dX8_fine_43 : decode cX8_fine 43 = .ok (.aload_n 0, 1) := by decide +kernel
theorem dX8_fine_44 : decode cX8_fine 44 = .ok (.iload_n 1, 1) := by decide +kernel
theorem dX8_fine_45 : decode cX8_fine 45 = .ok (.invokevirtual 207, 3) := by decide +kernel
theorem dX8_fine_48 : decode cX8_fine 48 = .ok (.goto 8, 3) := by decide +kernel
theorem dX8_fine_51 : decode cX8_fine 51 = .ok (.aload_n 0, 1) := by decide +kernel
theorem dX8_fine_52 : decode cX8_fine 52 = .ok (.iload_n 2, 1) := by decide +kernel
theorem dX8_fine_53 : decode cX8_fine 53 = .ok (.invokevirtual 139, 3) := by decide +kernel
theorem dX8_fine_56 : decode cX8_fine 56 = .ok (.ireturn, 1) := by decide +kernel
theorem dX8_feed_0 : decode cX8_feed 0 = .ok (.aload_n 0, 1) := by decide +kernel
theorem dX8_feed_1 : decode cX8_feed 1 = .ok (.getfield 214, 3) := by decide +kernel
theorem dX8_feed_4 : decode cX8_feed 4 = .ok (.bipush 12, 2) := by decide +kernel
theorem dX8_feed_6 : decode cX8_feed 6 = .ok (.iadd, 1) := by decide +kernel
theorem dX8_feed_7 : decode cX8_feed 7 = .ok (.bipush 96, 2) := by decide +kernel
theorem dX8_feed_9 : decode cX8_feed 9 = .ok (.if_icmp .le 6, 3) := by decide +kernel
theorem dX8_feed_12 : decode cX8_feed 12 = .ok (.ldc 112, 2) := by decide +kernel
theorem dX8_feed_14 : decode cX8_feed 14 = .ok (.ireturn, 1) := by decide +kernel
theorem dX8_feed_15 : decode cX8_feed 15 = .ok (.iconst 0, 1) := by decide +kernel
theorem dX8_feed_16 : decode cX8_feed 16 = .ok (.istore 4, 2) := by decide +kernel
theorem dX8_feed_18 : decode cX8_feed 18 = .ok (.iload 4, 2) := by decide +kernel
theorem dX8_feed_20 : decode cX8_feed 20 = .ok (.bipush 12, 2) := by decide +kernel
theorem dX8_feed_22 : decode cX8_feed 22 = .ok (.if_icmp .ge 62, 3) := by decide +kernel
theorem dX8_feed_25 : decode cX8_feed 25 = .ok (.iload 4, 2) := by decide +kernel
theorem dX8_feed_27 : decode cX8_feed 27 = .ok (.iconst 4, 1) := by decide +kernel
theorem dX8_feed_28 : decode cX8_feed 28 = .ok (.if_icmp .ge 7, 3) := by decide +kernel
theorem dX8_feed_31 : decode cX8_feed 31 = .ok (.iload_n 1, 1) := by decide +kernel
theorem dX8_feed_32 : decode cX8_feed 32 = .ok (.goto 15, 3) := by decide +kernel
theorem dX8_feed_35 : decode cX8_feed 35 = .ok (.iload 4, 2) := by decide +kernel
theorem dX8_feed_37 : decode cX8_feed 37 = .ok (.bipush 8, 2) := by decide +kernel
theorem dX8_feed_39 : decode cX8_feed 39 = .ok (.if_icmp .ge 7, 3) := by decide +kernel
theorem dX8_feed_42 : decode cX8_feed 42 = .ok (.iload_n 2, 1) := by decide +kernel
theorem dX8_feed_43 : decode cX8_feed 43 = .ok (.goto 4, 3) := by decide +kernel
theorem dX8_feed_46 : decode cX8_feed 46 = .ok (.iload_n 3, 1) := by decide +kernel
theorem dX8_feed_47 : decode cX8_feed 47 = .ok (.istore 5, 2) := by decide +kernel
theorem dX8_feed_49 : decode cX8_feed 49 = .ok (.aload_n 0, 1) := by decide +kernel
theorem dX8_feed_50 : decode cX8_feed 50 = .ok (.getfield 39, 3) := by decide +kernel
theorem dX8_feed_53 : decode cX8_feed 53 = .ok (.aload_n 0, 1) := by decide +kernel
theorem dX8_feed_54 : decode cX8_feed 54 = .ok (.getfield 214, 3) := by decide +kernel
theorem dX8_feed_57 : decode cX8_feed 57 = .ok (.iload 4, 2) := by decide +kernel
theorem dX8_feed_59 : decode cX8_feed 59 = .ok (.iadd, 1) := by decide +kernel
theorem dX8_feed_60 : decode cX8_feed 60 = .ok (.iload 5, 2) := by decide +kernel
theorem dX8_feed_62 : decode cX8_feed 62 = .ok (.bipush 24, 2) := by decide +kernel
theorem dX8_feed_64 : decode cX8_feed 64 = .ok (.bipush 8, 2) := by decide +kernel
theorem dX8_feed_66 : decode cX8_feed 66 = .ok (.iload 4, 2) := by decide +kernel
theorem dX8_feed_68 : decode cX8_feed 68 = .ok (.iconst 4, 1) := by decide +kernel
theorem dX8_feed_69 : decode cX8_feed 69 = .ok (.irem, 1) := by decide +kernel
theorem dX8_feed_70 : decode cX8_feed 70 = .ok (.imul, 1) := by decide +kernel
theorem dX8_feed_71 : decode cX8_feed 71 = .ok (.isub, 1) := by decide +kernel
theorem dX8_feed_72 : decode cX8_feed 72 = .ok (.ishr, 1) := by decide +kernel
theorem dX8_feed_73 : decode cX8_feed 73 = .ok (.sipush 255, 3) := by decide +kernel
theorem dX8_feed_76 : decode cX8_feed 76 = .ok (.iand, 1) := by decide +kernel
theorem dX8_feed_77 : decode cX8_feed 77 = .ok (.iastore, 1) := by decide +kernel
theorem dX8_feed_78 : decode cX8_feed 78 = .ok (.iinc 4 1, 3) := by decide +kernel
theorem dX8_feed_81 : decode cX8_feed 81 = .ok (.goto (-63), 3) := by decide +kernel
theorem dX8_feed_84 : decode cX8_feed 84 = .ok (.aload_n 0, 1) := by decide +kernel
theorem dX8_feed_85 : decode cX8_feed 85 = .ok (.dup, 1) := by decide +kernel
theorem dX8_feed_86 : decode cX8_feed 86 = .ok (.getfield 214, 3) := by decide +kernel
theorem dX8_feed_89 : decode cX8_feed 89 = .ok (.bipush 12, 2) := by decide +kernel
theorem dX8_feed_91 : decode cX8_feed 91 = .ok (.iadd, 1) := by decide +kernel
theorem dX8_feed_92 : decode cX8_feed 92 = .ok (.putfield 214, 3) := by decide +kernel
theorem dX8_feed_95 : decode cX8_feed 95 = .ok (.aload_n 0, 1) := by decide +kernel
theorem dX8_feed_96 : decode cX8_feed 96 = .ok (.getfield 214, 3) := by decide +kernel
theorem dX8_feed_99 : decode cX8_feed 99 = .ok (.ireturn, 1) := by decide +kernel
theorem dX8_trim_0 : decode cX8_trim 0 = .ok (.iload_n 1, 1) := by decide +kernel
theorem dX8_trim_1 : decode cX8_trim 1 = .ok (.iconst 0, 1) := by decide +kernel
theorem dX8_trim_2 : decode cX8_trim 2 = .ok (.aload_n 0, 1) := by decide +kernel
theorem dX8_trim_3 : decode cX8_trim 3 = .ok (.getfield 214, 3) := by decide +kernel
theorem dX8_trim_6 : decode cX8_trim 6 = .ok (.invokestatic 92, 3) := by decide +kernel
theorem dX8_trim_9 : decode cX8_trim 9 = .ok (.ifCond .ne 6, 3) := by decide +kernel
theorem dX8_trim_12 : decode cX8_trim 12 = .ok (.ldc 111, 2) := by decide +kernel
theorem dX8_trim_14 : decode cX8_trim 14 = .ok (.ireturn, 1) := by decide +kernel
theorem dX8_trim_15 : decode cX8_trim 15 = .ok (.aload_n 0, 1) := by decide +kernel
theorem dX8_trim_16 : decode cX8_trim 16 = .ok (.iload_n 1, 1) := by decide +kernel
theorem dX8_trim_17 : decode cX8_trim 17 = .ok (.putfield 214, 3) := by decide +kernel
theorem dX8_trim_20 : decode cX8_trim 20 = .ok (.iload_n 1, 1) := by decide +kernel
theorem dX8_trim_21 : decode cX8_trim 21 = .ok (.ireturn, 1) := by decide +kernel
theorem dX8_isLetter_0 : decode cX8_isLetter 0 = .ok (.iload_n 1, 1) := by decide +kernel
theorem dX8_isLetter_1 : decode cX8_isLetter 1 = .ok (.aload_n 0, 1) := by decide +kernel
theorem dX8_isLetter_2 : decode cX8_isLetter 2 = .ok (.getfield 214, 3) := by decide +kernel
theorem dX8_isLetter_5 : decode cX8_isLetter 5 = .ok (.if_icmp .ge 29, 3) := by decide +kernel
theorem dX8_isLetter_8 : decode cX8_isLetter 8 = .ok (.aload_n 0, 1) := by decide +kernel
theorem dX8_isLetter_9 : decode cX8_isLetter 9 = .ok (.getfield 39, 3) := by decide +kernel
theorem dX8_isLetter_12 : decode cX8_isLetter 12 = .ok (.iload_n 1, 1) := by decide +kernel
theorem dX8_isLetter_13 : decode cX8_isLetter 13 = .ok (.iaload, 1) := by decide +kernel
theorem dX8_isLetter_14 : decode cX8_isLetter 14 = .ok (.bipush 97, 2) := by decide +kernel
theorem dX8_isLetter_16 : decode cX8_isLetter 16 = .ok (.if_icmp .lt 18, 3) := by decide +kernel
theorem dX8_isLetter_19 : decode cX8_isLetter 19 = .ok (.aload_n 0, 1) := by decide +kernel
theorem dX8_isLetter_20 : decode cX8_isLetter 20 = .ok (.getfield 39, 3) := by decide +kernel
theorem dX8_isLetter_23 : decode cX8_isLetter 23 = .ok (.iload_n 1, 1) := by decide +kernel
theorem dX8_isLetter_24 : decode cX8_isLetter 24 = .ok (.iaload, 1) := by decide +kernel
theorem dX8_isLetter_25 : decode cX8_isLetter 25 = .ok (.bipush 122, 2) := by decide +kernel
theorem dX8_isLetter_27 : decode cX8_isLetter 27 = .ok (.if_icmp .gt 7, 3) := by decide +kernel
theorem dX8_isLetter_30 : decode cX8_isLetter 30 = .ok (.iconst 1, 1) := by decide +kernel
theorem dX8_isLetter_31 : decode cX8_isLetter 31 = .ok (.goto 4, 3) := by decide +kernel
theorem dX8_isLetter_34 : decode cX8_isLetter 34 = .ok (.iconst 0, 1) := by decide +kernel
theorem dX8_isLetter_35 : decode cX8_isLetter 35 = .ok (.ireturn, 1) := by decide +kernel
theorem dX8_isFigure_0 : decode cX8_isFigure 0 = .ok (.iload_n 1, 1) := by decide +kernel
theorem dX8_isFigure_1 : decode cX8_isFigure 1 = .ok (.aload_n 0, 1) := by decide +kernel
theorem dX8_isFigure_2 : decode cX8_isFigure 2 = .ok (.getfield 214, 3) := by decide +kernel
theorem dX8_isFigure_5 : decode cX8_isFigure 5 = .ok (.if_icmp .ge 29, 3) := by decide +kernel
theorem dX8_isFigure_8 : decode cX8_isFigure 8 = .ok (.aload_n 0, 1) := by decide +kernel
theorem dX8_isFigure_9 : decode cX8_isFigure 9 = .ok (.getfield 39, 3) := by decide +kernel
theorem dX8_isFigure_12 : decode cX8_isFigure 12 = .ok (.iload_n 1, 1) := by decide +kernel
theorem dX8_isFigure_13 : decode cX8_isFigure 13 = .ok (.iaload, 1) := by decide +kernel
theorem dX8_isFigure_14 : decode cX8_isFigure 14 = .ok (.bipush 48, 2) := by decide +kernel
theorem dX8_isFigure_16 : decode cX8_isFigure 16 = .ok (.if_icmp .lt 18, 3) := by decide +kernel
theorem dX8_isFigure_19 : decode cX8_isFigure 19 = .ok (.aload_n 0, 1) := by decide +kernel
theorem dX8_isFigure_20 : decode cX8_isFigure 20 = .ok (.getfield 39, 3) := by decide +kernel
theorem dX8_isFigure_23 : decode cX8_isFigure 23 = .ok (.iload_n 1, 1) := by decide +kernel
theorem dX8_isFigure_24 : decode cX8_isFigure 24 = .ok (.iaload, 1) := by decide +kernel
theorem dX8_isFigure_25 : decode cX8_isFigure 25 = .ok (.bipush 57, 2) := by decide +kernel
theorem dX8_isFigure_27 : decode cX8_isFigure 27 = .ok (.if_icmp .gt 7, 3) := by decide +kernel
theorem dX8_isFigure_30 : decode cX8_isFigure 30 = .ok (.iconst 1, 1) := by decide +kernel
theorem dX8_isFigure_31 : decode cX8_isFigure 31 = .ok (.goto 4, 3) := by decide +kernel
theorem dX8_isFigure_34 : decode cX8_isFigure 34 = .ok (.iconst 0, 1) := by decide +kernel
theorem dX8_isFigure_35 : decode cX8_isFigure 35 = .ok (.ireturn, 1) := by decide +kernel
theorem dX8_go_0 : decode cX8_go 0 = .ok (.aload_n 0, 1) := by decide +kernel
theorem dX8_go_1 : decode cX8_go 1 = .ok (.getfield 218, 3) := by decide +kernel
theorem dX8_go_4 : decode cX8_go 4 = .ok (.aload_n 0, 1) := by decide +kernel
theorem dX8_go_5 : decode cX8_go 5 = .ok (.getfield 214, 3) := by decide +kernel
theorem dX8_go_8 : decode cX8_go 8 = .ok (.if_icmp .ge 30, 3) := by decide +kernel
theorem dX8_go_11 : decode cX8_go 11 = .ok (.aload_n 0, 1) := by decide +kernel
theorem dX8_go_12 : decode cX8_go 12 = .ok (.getfield 39, 3) := by decide +kernel
theorem dX8_go_15 : decode cX8_go 15 = .ok (.aload_n 0, 1) := by decide +kernel
theorem dX8_go_16 : decode cX8_go 16 = .ok (.getfield 218, 3) := by decide +kernel
theorem dX8_go_19 : decode cX8_go 19 = .ok (.iaload, 1) := by decide +kernel
theorem dX8_go_20 : decode cX8_go 20 = .ok (.bipush 32, 2) := by decide +kernel
theorem dX8_go_22 : decode cX8_go 22 = .ok (.if_icmp .ne 16, 3) := by decide +kernel
theorem dX8_go_25 : decode cX8_go 25 = .ok (.aload_n 0, 1) := by decide +kernel
theorem dX8_go_26 : decode cX8_go 26 = .ok (.dup, 1) := by decide +kernel
theorem dX8_go_27 : decode cX8_go 27 = .ok (.getfield 218, 3) := by decide +kernel
theorem dX8_go_30 : decode cX8_go 30 = .ok (.iconst 1, 1) := by decide +kernel
theorem dX8_go_31 : decode cX8_go 31 = .ok (.iadd, 1) := by decide +kernel
theorem dX8_go_32 : decode cX8_go 32 = .ok (.putfield 218, 3) := by decide +kernel
theorem dX8_go_35 : decode cX8_go 35 = .ok (.goto (-35), 3) := by decide +kernel
theorem dX8_go_38 : decode cX8_go 38 = .ok (.aload_n 0, 1) := by decide +kernel
theorem dX8_go_39 : decode cX8_go 39 = .ok (.aload_n 0, 1) := by decide +kernel
theorem dX8_go_40 : decode cX8_go 40 = .ok (.getfield 218, 3) := by decide +kernel
theorem dX8_go_43 : decode cX8_go 43 = .ok (.putfield 221, 3) := by decide +kernel
theorem dX8_go_46 : decode cX8_go 46 = .ok (.aload_n 0, 1) := by decide +kernel
theorem dX8_go_47 : decode cX8_go 47 = .ok (.getfield 221, 3) := by decide +kernel
theorem dX8_go_50 : decode cX8_go 50 = .ok (.aload_n 0, 1) := by decide +kernel
theorem dX8_go_51 : decode cX8_go 51 = .ok (.getfield 224, 3) := by decide +kernel
theorem dX8_go_54 : decode cX8_go 54 = .ok (.if_icmp .ne 7, 3) := by decide +kernel
theorem dX8_go_57 : decode cX8_go 57 = .ok (.iconst 1, 1) := by decide +kernel
theorem dX8_go_58 : decode cX8_go 58 = .ok (.goto 4, 3) := by decide +kernel
theorem dX8_go_61 : decode cX8_go 61 = .ok (.iconst 0, 1) := by decide +kernel
theorem dX8_go_62 : decode cX8_go 62 = .ok (.istore_n 1, 1) := by decide +kernel
theorem dX8_go_63 : decode cX8_go 63 = .ok (.aload_n 0, 1) := by decide +kernel
theorem dX8_go_64 : decode cX8_go 64 = .ok (.getfield 221, 3) := by decide +kernel
theorem dX8_go_67 : decode cX8_go 67 = .ok (.aload_n 0, 1) := by decide +kernel
theorem dX8_go_68 : decode cX8_go 68 = .ok (.getfield 214, 3) := by decide +kernel
theorem dX8_go_71 : decode cX8_go 71 = .ok (.if_icmp .ne 11, 3) := by decide +kernel
theorem dX8_go_74 : decode cX8_go 74 = .ok (.aload_n 0, 1) := by decide +kernel
theorem dX8_go_75 : decode cX8_go 75 = .ok (.iconst 0, 1) := by decide +kernel
theorem dX8_go_76 : decode cX8_go 76 = .ok (.putfield 227, 3) := by decide +kernel
theorem dX8_go_79 : decode cX8_go 79 = .ok (.goto 224, 3) := by decide +kernel
theorem dX8_go_82 : decode cX8_go 82 = .ok (.aload_n 0, 1) := by decide +kernel
theorem dX8_go_83 : decode cX8_go 83 = .ok (.aload_n 0, 1) := by decide +kernel
theorem dX8_go_84 : decode cX8_go 84 = .ok (.getfield 221, 3) := by decide +kernel
theorem dX8_go_87 : decode cX8_go 87 = .ok (.invokevirtual 230, 3) := by decide +kernel
theorem dX8_go_90 : decode cX8_go 90 = .ok (.ifCond .eq 64, 3) := by decide +kernel
theorem dX8_go_93 : decode cX8_go 93 = .ok (.aload_n 0, 1) := by decide +kernel
theorem dX8_go_94 : decode cX8_go 94 = .ok (.aload_n 0, 1) := by decide +kernel
theorem dX8_go_95 : decode cX8_go 95 = .ok (.getfield 218, 3) := by decide +kernel
theorem dX8_go_98 : decode cX8_go 98 = .ok (.invokevirtual 230, 3) := by decide +kernel
theorem dX8_go_101 : decode cX8_go 101 = .ok (.ifCond .eq 16, 3) := by decide +kernel
theorem dX8_go_104 : decode cX8_go 104 = .ok (.aload_n 0, 1) := by decide +kernel
theorem dX8_go_105 : decode cX8_go 105 = .ok (.dup, 1) := by decide +kernel
theorem dX8_go_106 : decode cX8_go 106 = .ok (.getfield 218, 3) := by decide +kernel
theorem dX8_go_109 : decode cX8_go 109 = .ok (.iconst 1, 1) := by decide +kernel
theorem dX8_go_110 : decode cX8_go 110 = .ok (.iadd, 1) := by decide +kernel
theorem dX8_go_111 : decode cX8_go 111 = .ok (.putfield 218, 3) := by decide +kernel
theorem dX8_go_114 : decode cX8_go 114 = .ok (.goto (-21), 3) := by decide +kernel
theorem dX8_go_117 : decode cX8_go 117 = .ok (.aload_n 0, 1) := by decide +kernel
theorem dX8_go_118 : decode cX8_go 118 = .ok (.iload_n 1, 1) := by decide +kernel
theorem dX8_go_119 : decode cX8_go 119 = .ok (.ifCond .eq 7, 3) := by decide +kernel
theorem dX8_go_122 : decode cX8_go 122 = .ok (.iconst 4, 1) := by decide +kernel
theorem dX8_go_123 : decode cX8_go 123 = .ok (.goto 4, 3) := by decide +kernel
theorem dX8_go_126 : decode cX8_go 126 = .ok (.iconst 1, 1) := by decide +kernel
theorem dX8_go_127 : decode cX8_go 127 = .ok (.putfield 227, 3) := by decide +kernel
theorem dX8_go_130 : decode cX8_go 130 = .ok (.aload_n 0, 1) := by decide +kernel
theorem dX8_go_131 : decode cX8_go 131 = .ok (.aload_n 0, 1) := by decide +kernel
theorem dX8_go_132 : decode cX8_go 132 = .ok (.getfield 39, 3) := by decide +kernel
theorem dX8_go_135 : decode cX8_go 135 = .ok (.aload_n 0, 1) := by decide +kernel
theorem dX8_go_136 : decode cX8_go 136 = .ok (.getfield 221, 3) := by decide +kernel
theorem dX8_go_139 : decode cX8_go 139 = .ok (.iaload, 1) := by decide +kernel
theorem dX8_go_140 : decode cX8_go 140 = .ok (.putfield 233, 3) := by decide +kernel
theorem dX8_go_143 : decode cX8_go 143 = .ok (.aload_n 0, 1) := by decide +kernel
theorem dX8_go_144 : decode cX8_go 144 = .ok (.aload_n 0, 1) := by decide +kernel
theorem dX8_go_145 : decode cX8_go 145 = .ok (.getfield 218, 3) := by decide +kernel
theorem dX8_go_148 : decode cX8_go 148 = .ok (.putfield 224, 3) := by decide +kernel
theorem dX8_go_151 : decode cX8_go 151 = .ok (.goto 152, 3) := by decide +kernel
theorem dX8_go_154 : decode cX8_go 154 = .ok (.aload_n 0, 1) := by decide +kernel
theorem dX8_go_155 : decode cX8_go 155 = .ok (.aload_n 0, 1) := by decide +kernel
theorem dX8_go_156 : decode cX8_go 156 = .ok (.getfield 221, 3) := by decide +kernel
theorem dX8_go_159 : decode cX8_go 159 = .ok (.invokevirtual 236, 3) := by decide +kernel
theorem dX8_go_162 : decode cX8_go 162 = .ok (.ifCond .eq 113, 3) := by decide +kernel
theorem dX8_go_165 : decode cX8_go 165 = .ok (.aload_n 0, 1) := by decide +kernel
theorem dX8_go_166 : decode cX8_go 166 = .ok (.iconst 0, 1) := by decide +kernel
theorem dX8_go_167 : decode cX8_go 167 = .ok (.putfield 233, 3) := by decide +kernel
theorem dX8_go_170 : decode cX8_go 170 = .ok (.aload_n 0, 1) := by decide +kernel
theorem dX8_go_171 : decode cX8_go 171 = .ok (.aload_n 0, 1) := by decide +kernel
theorem dX8_go_172 : decode cX8_go 172 = .ok (.getfield 218, 3) := by decide +kernel
theorem dX8_go_175 : decode cX8_go 175 = .ok (.invokevirtual 236, 3) := by decide +kernel
theorem dX8_go_178 : decode cX8_go 178 = .ok (.ifCond .eq 60, 3) := by decide +kernel
theorem dX8_go_181 : decode cX8_go 181 = .ok (.aload_n 0, 1) := by decide +kernel
theorem dX8_go_182 : decode cX8_go 182 = .ok (.aload_n 0, 1) := by decide +kernel
theorem dX8_go_183 : decode cX8_go 183 = .ok (.getfield 218, 3) := by decide +kernel
theorem dX8_go_186 : decode cX8_go 186 = .ok (.aload_n 0, 1) := by decide +kernel
theorem dX8_go_187 : decode cX8_go 187 = .ok (.getfield 221, 3) := by decide +kernel
theorem dX8_go_190 : decode cX8_go 190 = .ok (.isub, 1) := by decide +kernel
theorem dX8_go_191 : decode cX8_go 191 = .ok (.iconst 4, 1) := by decide +kernel
theorem dX8_go_192 : decode cX8_go 192 = .ok (.if_icmp .ge 26, 3) := by decide +kernel
theorem dX8_go_195 : decode cX8_go 195 = .ok (.bipush 10, 2) := by decide +kernel
theorem dX8_go_197 : decode cX8_go 197 = .ok (.aload_n 0, 1) := by decide +kernel
theorem dX8_go_198 : decode cX8_go 198 = .ok (.getfield 233, 3) := by decide +kernel
theorem dX8_go_201 : decode cX8_go 201 = .ok (.imul, 1) := by decide +kernel
theorem dX8_go_202 : decode cX8_go 202 = .ok (.aload_n 0, 1) := by decide +kernel
theorem dX8_go_203 : decode cX8_go 203 = .ok (.getfield 39, 3) := by decide +kernel
theorem dX8_go_206 : decode cX8_go 206 = .ok (.aload_n 0, 1) := by decide +kernel
theorem dX8_go_207 : decode cX8_go 207 = .ok (.getfield 218, 3) := by decide +kernel
theorem dX8_go_210 : decode cX8_go 210 = .ok (.iaload, 1) := by decide +kernel
theorem dX8_go_211 : decode cX8_go 211 = .ok (.iadd, 1) := by decide +kernel
theorem dX8_go_212 : decode cX8_go 212 = .ok (.bipush 48, 2) := by decide +kernel
theorem dX8_go_214 : decode cX8_go 214 = .ok (.isub, 1) := by decide +kernel
theorem dX8_go_215 : decode cX8_go 215 = .ok (.goto 7, 3) := by decide +kernel
theorem dX8_go_218 : decode cX8_go 218 = .ok (.aload_n 0, 1) := by decide +kernel
theorem dX8_go_219 : decode cX8_go 219 = .ok (.getfield 233, 3) := by decide +kernel
theorem dX8_go_222 : decode cX8_go 222 = .ok (.putfield 233, 3) := by decide +kernel
theorem dX8_go_225 : decode cX8_go 225 = .ok (.aload_n 0, 1) := by decide +kernel
theorem dX8_go_226 : decode cX8_go 226 = .ok (.dup, 1) := by decide +kernel
theorem dX8_go_227 : decode cX8_go 227 = .ok (.getfield 218, 3) := by decide +kernel
theorem dX8_go_230 : decode cX8_go 230 = .ok (.iconst 1, 1) := by decide +kernel
theorem dX8_go_231 : decode cX8_go 231 = .ok (.iadd, 1) := by decide +kernel
theorem dX8_go_232 : decode cX8_go 232 = .ok (.putfield 218, 3) := by decide +kernel
theorem dX8_go_235 : decode cX8_go 235 = .ok (.goto (-65), 3) := by decide +kernel
theorem dX8_go_238 : decode cX8_go 238 = .ok (.aload_n 0, 1) := by decide +kernel
theorem dX8_go_239 : decode cX8_go 239 = .ok (.iload_n 1, 1) := by decide +kernel
theorem dX8_go_240 : decode cX8_go 240 = .ok (.ifCond .ne 16, 3) := by decide +kernel
theorem dX8_go_243 : decode cX8_go 243 = .ok (.aload_n 0, 1) := by decide +kernel
theorem dX8_go_244 : decode cX8_go 244 = .ok (.getfield 218, 3) := by decide +kernel
theorem dX8_go_247 : decode cX8_go 247 = .ok (.aload_n 0, 1) := by decide +kernel
theorem dX8_go_248 : decode cX8_go 248 = .ok (.getfield 221, 3) := by decide +kernel
theorem dX8_go_251 : decode cX8_go 251 = .ok (.isub, 1) := by decide +kernel
theorem dX8_go_252 : decode cX8_go 252 = .ok (.iconst 4, 1) := by decide +kernel
theorem dX8_go_253 : decode cX8_go 253 = .ok (.if_icmp .le 7, 3) := by decide +kernel
theorem dX8_go_256 : decode cX8_go 256 = .ok (.iconst 4, 1) := by decide +kernel
theorem dX8_go_257 : decode cX8_go 257 = .ok (.goto 4, 3) := by decide +kernel
theorem dX8_go_260 : decode cX8_go 260 = .ok (.iconst 2, 1) := by decide +kernel
theorem dX8_go_261 : decode cX8_go 261 = .ok (.putfield 227, 3) := by decide +kernel
theorem dX8_go_264 : decode cX8_go 264 = .ok (.aload_n 0, 1) := by decide +kernel
theorem dX8_go_265 : decode cX8_go 265 = .ok (.aload_n 0, 1) := by decide +kernel
theorem dX8_go_266 : decode cX8_go 266 = .ok (.getfield 218, 3) := by decide +kernel
theorem dX8_go_269 : decode cX8_go 269 = .ok (.putfield 224, 3) := by decide +kernel
theorem dX8_go_272 : decode cX8_go 272 = .ok (.goto 31, 3) := by decide +kernel
theorem dX8_go_275 : decode cX8_go 275 = .ok (.aload_n 0, 1) := by decide +kernel
theorem dX8_go_276 : decode cX8_go 276 = .ok (.iconst 3, 1) := by decide +kernel
theorem dX8_go_277 : decode cX8_go 277 = .ok (.putfield 227, 3) := by decide +kernel
theorem dX8_go_280 : decode cX8_go 280 = .ok (.aload_n 0, 1) := by decide +kernel
theorem dX8_go_281 : decode cX8_go 281 = .ok (.aload_n 0, 1) := by decide +kernel
theorem dX8_go_282 : decode cX8_go 282 = .ok (.getfield 39, 3) := by decide +kernel
theorem dX8_go_285 : decode cX8_go 285 = .ok (.aload_n 0, 1) := by decide +kernel
theorem dX8_go_286 : decode cX8_go 286 = .ok (.getfield 221, 3) := by decide +kernel
theorem dX8_go_289 : decode cX8_go 289 = .ok (.iaload, 1) := by decide +kernel
theorem dX8_go_290 : decode cX8_go 290 = .ok (.putfield 233, 3) := by decide +kernel
theorem dX8_go_293 : decode cX8_go 293 = .ok (.aload_n 0, 1) := by decide +kernel
theorem dX8_go_294 : decode cX8_go 294 = .ok (.dup, 1) := by decide +kernel
theorem dX8_go_295 : decode cX8_go 295 = .ok (.getfield 218, 3) := by decide +kernel
theorem dX8_go_298 : decode cX8_go 298 = .ok (.iconst 1, 1) := by decide +kernel
theorem dX8_go_299 : decode cX8_go 299 = .ok (.iadd, 1) := by decide +kernel
theorem dX8_go_300 : decode cX8_go 300 = .ok (.putfield 218, 3) := by decide +kernel
theorem dX8_go_303 : decode cX8_go 303 = .ok (.return_, 1) := by decide +kernel
theorem dX8_takesKey_0 : decode cX8_takesKey 0 = .ok (.aload_n 0, 1) := by decide +kernel
theorem dX8_takesKey_1 : decode cX8_takesKey 1 = .ok (.getfield 227, 3) := by decide +kernel
theorem dX8_takesKey_4 : decode cX8_takesKey 4 = .ok (.iconst 1, 1) := by decide +kernel
theorem dX8_takesKey_5 : decode cX8_takesKey 5 = .ok (.if_icmp .eq 5, 3) := by decide +kernel
theorem dX8_takesKey_8 : decode cX8_takesKey 8 = .ok (.iconst 0, 1) := by decide +kernel
theorem dX8_takesKey_9 : decode cX8_takesKey 9 = .ok (.ireturn, 1) := by decide +kernel
theorem dX8_takesKey_10 : decode cX8_takesKey 10 = .ok (.iconst 0, 1) := by decide +kernel
theorem dX8_takesKey_11 : decode cX8_takesKey 11 = .ok (.istore_n 1, 1) := by decide +kernel
theorem dX8_takesKey_12 : decode cX8_takesKey 12 = .ok (.iload_n 1, 1) := by decide +kernel
theorem dX8_takesKey_13 : decode cX8_takesKey 13 = .ok (.iconst 3, 1) := by decide +kernel
theorem dX8_takesKey_14 : decode cX8_takesKey 14 = .ok (.if_icmp .ge 113, 3) := by decide +kernel
theorem dX8_takesKey_17 : decode cX8_takesKey 17 = .ok (.aload_n 0, 1) := by decide +kernel
theorem dX8_takesKey_18 : decode cX8_takesKey 18 = .ok (.getfield 46, 3) := by decide +kernel
theorem dX8_takesKey_21 : decode cX8_takesKey 21 = .ok (.iload_n 1, 1) := by decide +kernel
theorem dX8_takesKey_22 : decode cX8_takesKey 22 = .ok (.iconst 1, 1) := by decide +kernel
theorem dX8_takesKey_23 : decode cX8_takesKey 23 = .ok (.iadd, 1) := by decide +kernel
theorem dX8_takesKey_24 : decode cX8_takesKey 24 = .ok (.iaload, 1) := by decide +kernel
theorem dX8_takesKey_25 : decode cX8_takesKey 25 = .ok (.aload_n 0, 1) := by decide +kernel
theorem dX8_takesKey_26 : decode cX8_takesKey 26 = .ok (.getfield 46, 3) := by decide +kernel
theorem dX8_takesKey_29 : decode cX8_takesKey 29 = .ok (.iload_n 1, 1) := by decide +kernel
theorem dX8_takesKey_30 : decode cX8_takesKey 30 = .ok (.iaload, 1) := by decide +kernel
theorem dX8_takesKey_31 : decode cX8_takesKey 31 = .ok (.isub, 1) := by decide +kernel
theorem dX8_takesKey_32 : decode cX8_takesKey 32 = .ok (.istore_n 2, 1) := by decide +kernel
theorem dX8_takesKey_33 : decode cX8_takesKey 33 = .ok (.iload_n 2, 1) := by decide +kernel
theorem dX8_takesKey_34 : decode cX8_takesKey 34 = .ok (.aload_n 0, 1) := by decide +kernel
theorem dX8_takesKey_35 : decode cX8_takesKey 35 = .ok (.getfield 218, 3) := by decide +kernel
theorem dX8_takesKey_38 : decode cX8_takesKey 38 = .ok (.aload_n 0, 1) := by decide +kernel
theorem dX8_takesKey_39 : decode cX8_takesKey 39 = .ok (.getfield 221, 3) := by decide +kernel
theorem dX8_takesKey_42 : decode cX8_takesKey 42 = .ok (.isub, 1) := by decide +kernel
theorem dX8_takesKey_43 : decode cX8_takesKey 43 = .ok (.if_icmp .ne 7, 3) := by decide +kernel
theorem dX8_takesKey_46 : decode cX8_takesKey 46 = .ok (.iconst 1, 1) := by decide +kernel
theorem dX8_takesKey_47 : decode cX8_takesKey 47 = .ok (.goto 4, 3) := by decide +kernel
theorem dX8_takesKey_50 : decode cX8_takesKey 50 = .ok (.iconst 0, 1) := by decide +kernel
theorem dX8_takesKey_51 : decode cX8_takesKey 51 = .ok (.istore_n 3, 1) := by decide +kernel
theorem dX8_takesKey_52 : decode cX8_takesKey 52 = .ok (.iconst 0, 1) := by decide +kernel
theorem dX8_takesKey_53 : decode cX8_takesKey 53 = .ok (.istore 4, 2) := by decide +kernel
theorem dX8_takesKey_55 : decode cX8_takesKey 55 = .ok (.iload 4, 2) := by decide +kernel
theorem dX8_takesKey_57 : decode cX8_takesKey 57 = .ok (.iload_n 2, 1) := by decide +kernel
theorem dX8_takesKey_58 : decode cX8_takesKey 58 = .ok (.if_icmp .ge 48, 3) := by decide +kernel
theorem dX8_takesKey_61 : decode cX8_takesKey 61 = .ok (.iload_n 3, 1) := by decide +kernel
theorem dX8_takesKey_62 : decode cX8_takesKey 62 = .ok (.ifCond .eq 44, 3) := by decide +kernel
theorem dX8_takesKey_65 : decode cX8_takesKey 65 = .ok (.aload_n 0, 1) := by decide +kernel
theorem dX8_takesKey_66 : decode cX8_takesKey 66 = .ok (.getfield 39, 3) := by decide +kernel
theorem dX8_takesKey_69 : decode cX8_takesKey 69 = .ok (.aload_n 0, 1) := by decide +kernel
theorem dX8_takesKey_70 : decode cX8_takesKey 70 = .ok (.getfield 221, 3) := by decide +kernel
theorem dX8_takesKey_73 : decode cX8_takesKey 73 = .ok (.iload 4, 2) := by decide +kernel
theorem dX8_takesKey_75 : decode cX8_takesKey 75 = .ok (.iadd, 1) := by decide +kernel
theorem dX8_takesKey_76 : decode cX8_takesKey 76 = .ok (.iaload, 1) := by decide +kernel
theorem dX8_takesKey_77 : decode cX8_takesKey 77 = .ok (.aload_n 0, 1) := by decide +kernel
theorem dX8_takesKey_78 : decode cX8_takesKey 78 = .ok (.getfield 42, 3) := by decide +kernel
theorem dX8_takesKey_81 : decode cX8_takesKey 81 = .ok (.aload_n 0, 1) := by decide +kernel
theorem dX8_takesKey_82 : decode cX8_takesKey 82 = .ok (.getfield 46, 3) := by decide +kernel
theorem dX8_takesKey_85 : decode cX8_takesKey 85 = .ok (.iload_n 1, 1) := by decide +kernel
theorem dX8_takesKey_86 : decode cX8_takesKey 86 = .ok (.iaload, 1) := by decide +kernel
theorem dX8_takesKey_87 : decode cX8_takesKey 87 = .ok (.iload 4, 2) := by decide +kernel
theorem dX8_takesKey_89 : decode cX8_takesKey 89 = .ok (.iadd, 1) := by decide +kernel
theorem dX8_takesKey_90 : decode cX8_takesKey 90 = .ok (.caload, 1) := by decide +kernel
theorem dX8_takesKey_91 : decode cX8_takesKey 91 = .ok (.if_icmp .ne 7, 3) := by decide +kernel
theorem dX8_takesKey_94 : decode cX8_takesKey 94 = .ok (.iconst 1, 1) := by decide +kernel
theorem dX8_takesKey_95 : decode cX8_takesKey 95 = .ok (.goto 4, 3) := by decide +kernel
theorem dX8_takesKey_98 : decode cX8_takesKey 98 = .ok (.iconst 0, 1) := by decide +kernel
theorem dX8_takesKey_99 : decode cX8_takesKey 99 = .ok (.istore_n 3, 1) := by decide +kernel
theorem dX8_takesKey_100 : decode cX8_takesKey 100 = .ok (.iinc 4 1, 3) := by decide +kernel
theorem dX8_takesKey_103 : decode cX8_takesKey 103 = .ok (.goto (-48), 3) := by decide +kernel
theorem dX8_takesKey_106 : decode cX8_takesKey 106 = .ok (.iload_n 3, 1) := by decide +kernel
theorem dX8_takesKey_107 : decode cX8_takesKey 107 = .ok (.ifCond .eq 14, 3) := by decide +kernel
theorem dX8_takesKey_110 : decode cX8_takesKey 110 = .ok (.aload_n 0, 1) := by decide +kernel
theorem dX8_takesKey_111 : decode cX8_takesKey 111 = .ok (.iload_n 1, 1) := by decide +kernel
theorem dX8_takesKey_112 : decode cX8_takesKey 112 = .ok (.putfield 239, 3) := by decide +kernel
theorem dX8_takesKey_115 : decode cX8_takesKey 115 = .ok (.aload_n 0, 1) := by decide +kernel
theorem dX8_takesKey_116 : decode cX8_takesKey 116 = .ok (.invokevirtual 242, 3) := by decide +kernel
theorem dX8_takesKey_119 : decode cX8_takesKey 119 = .ok (.iconst 1, 1) := by decide +kernel
theorem dX8_takesKey_120 : decode cX8_takesKey 120 = .ok (.ireturn, 1) := by decide +kernel
theorem dX8_takesKey_121 : decode cX8_takesKey 121 = .ok (.iinc 1 1, 3) := by decide +kernel
theorem dX8_takesKey_124 : decode cX8_takesKey 124 = .ok (.goto (-112), 3) := by decide +kernel
theorem dX8_takesKey_127 : decode cX8_takesKey 127 = .ok (.iconst 0, 1) := by decide +kernel
theorem dX8_takesKey_128 : decode cX8_takesKey 128 = .ok (.ireturn, 1) := by decide +kernel
theorem dX8_nameOf_0 : decode cX8_nameOf 0 = .ok (.aload_n 0, 1) := by decide +kernel
theorem dX8_nameOf_1 : decode cX8_nameOf 1 = .ok (.getfield 239, 3) := by decide +kernel
theorem dX8_nameOf_4 : decode cX8_nameOf 4 = .ok (.lookupswitch 82 #[(0, 28), (1, 50)], 28) := by decide +kernel
theorem dX8_nameOf_32 : decode cX8_nameOf 32 = .ok (.iload_n 1, 1) := by decide +kernel
theorem dX8_nameOf_33 : decode cX8_nameOf 33 = .ok (.bipush 100, 2) := by decide +kernel
theorem dX8_nameOf_35 : decode cX8_nameOf 35 = .ok (.if_icmp .ne 7, 3) := by decide +kernel
theorem dX8_nameOf_38 : decode cX8_nameOf 38 = .ok (.iconst 0, 1) := by decide +kernel
theorem dX8_nameOf_39 : decode cX8_nameOf 39 = .ok (.goto 14, 3) := by decide +kernel
theorem dX8_nameOf_42 : decode cX8_nameOf 42 = .ok (.iload_n 1, 1) := by decide +kernel
theorem dX8_nameOf_43 : decode cX8_nameOf 43 = .ok (.bipush 111, 2) := by decide +kernel
theorem dX8_nameOf_45 : decode cX8_nameOf 45 = .ok (.if_icmp .ne 7, 3) := by decide +kernel
theorem dX8_nameOf_48 : decode cX8_nameOf 48 = .ok (.iconst 1, 1) := by decide +kernel
theorem dX8_nameOf_49 : decode cX8_nameOf 49 = .ok (.goto 4, 3) := by decide +kernel
theorem dX8_nameOf_52 : decode cX8_nameOf 52 = .ok (.iconst (-1), 1) := by decide +kernel
theorem dX8_nameOf_53 : decode cX8_nameOf 53 = .ok (.ireturn, 1) := by decide +kernel
theorem dX8_nameOf_54 : decode cX8_nameOf 54 = .ok (.iload_n 1, 1) := by decide +kernel
theorem dX8_nameOf_55 : decode cX8_nameOf 55 = .ok (.bipush 120, 2) := by decide +kernel
theorem dX8_nameOf_57 : decode cX8_nameOf 57 = .ok (.if_icmp .ne 7, 3) := by decide +kernel
theorem dX8_nameOf_60 : decode cX8_nameOf 60 = .ok (.iconst 0, 1) := by decide +kernel
theorem dX8_nameOf_61 : decode cX8_nameOf 61 = .ok (.goto 24, 3) := by decide +kernel
theorem dX8_nameOf_64 : decode cX8_nameOf 64 = .ok (.iload_n 1, 1) := by decide +kernel
theorem dX8_nameOf_65 : decode cX8_nameOf 65 = .ok (.bipush 100, 2) := by decide +kernel
theorem dX8_nameOf_67 : decode cX8_nameOf 67 = .ok (.if_icmp .ne 7, 3) := by decide +kernel
theorem dX8_nameOf_70 : decode cX8_nameOf 70 = .ok (.iconst 1, 1) := by decide +kernel
theorem dX8_nameOf_71 : decode cX8_nameOf 71 = .ok (.goto 14, 3) := by decide +kernel
theorem dX8_nameOf_74 : decode cX8_nameOf 74 = .ok (.iload_n 1, 1) := by decide +kernel
theorem dX8_nameOf_75 : decode cX8_nameOf 75 = .ok (.bipush 97, 2) := by decide +kernel
theorem dX8_nameOf_77 : decode cX8_nameOf 77 = .ok (.if_icmp .ne 7, 3) := by decide +kernel
theorem dX8_nameOf_80 : decode cX8_nameOf 80 = .ok (.iconst 2, 1) := by decide +kernel
theorem dX8_nameOf_81 : decode cX8_nameOf 81 = .ok (.goto 4, 3) := by decide +kernel
theorem dX8_nameOf_84 : decode cX8_nameOf 84 = .ok (.iconst (-1), 1) := by decide +kernel
theorem dX8_nameOf_85 : decode cX8_nameOf 85 = .ok (.ireturn, 1) := by decide +kernel
theorem dX8_nameOf_86 : decode cX8_nameOf 86 = .ok (.iload_n 1, 1) := by decide +kernel
theorem dX8_nameOf_87 : decode cX8_nameOf 87 = .ok (.bipush 101, 2) := by decide +kernel
theorem dX8_nameOf_89 : decode cX8_nameOf 89 = .ok (.if_icmp .ne 7, 3) := by decide +kernel
theorem dX8_nameOf_92 : decode cX8_nameOf 92 = .ok (.iconst 0, 1) := by decide +kernel
theorem dX8_nameOf_93 : decode cX8_nameOf 93 = .ok (.goto 14, 3) := by decide +kernel
theorem dX8_nameOf_96 : decode cX8_nameOf 96 = .ok (.iload_n 1, 1) := by decide +kernel
theorem dX8_nameOf_97 : decode cX8_nameOf 97 = .ok (.bipush 108, 2) := by decide +kernel
theorem dX8_nameOf_99 : decode cX8_nameOf 99 = .ok (.if_icmp .ne 7, 3) := by decide +kernel
theorem dX8_nameOf_102 : decode cX8_nameOf 102 = .ok (.iconst 1, 1) := by decide +kernel
theorem dX8_nameOf_103 : decode cX8_nameOf 103 = .ok (.goto 4, 3) := by decide +kernel
theorem dX8_nameOf_106 : decode cX8_nameOf 106 = .ok (.iconst (-1), 1) := by decide +kernel
theorem dX8_nameOf_107 : decode cX8_nameOf 107 = .ok (.ireturn, 1) := by decide +kernel
theorem dX8_rank_0 : decode cX8_rank 0 = .ok (.iload_n 0, 1) := by decide +kernel
theorem dX8_rank_1 : decode cX8_rank 1 = .ok (.iconst (-1), 1) := by decide +kernel
theorem dX8_rank_2 : decode cX8_rank 2 = .ok (.if_icmp .ne 7, 3) := by decide +kernel
theorem dX8_rank_5 : decode cX8_rank 5 = .ok (.iconst 1, 1) := by decide +kernel
theorem dX8_rank_6 : decode cX8_rank 6 = .ok (.goto 45, 3) := by decide +kernel
theorem dX8_rank_9 : decode cX8_rank 9 = .ok (.iload_n 0, 1) := by decide +kernel
theorem dX8_rank_10 : decode cX8_rank 10 = .ok (.bipush (-2), 2) := by decide +kernel
theorem dX8_rank_12 : decode cX8_rank 12 = .ok (.if_icmp .ne 7, 3) := by decide +kernel
theorem dX8_rank_15 : decode cX8_rank 15 = .ok (.iconst 2, 1) := by decide +kernel
theorem dX8_rank_16 : decode cX8_rank 16 = .ok (.goto 35, 3) := by decide +kernel
theorem dX8_rank_19 : decode cX8_rank 19 = .ok (.iload_n 0, 1) := by decide +kernel
theorem dX8_rank_20 : decode cX8_rank 20 = .ok (.bipush (-5), 2) := by decide +kernel
theorem dX8_rank_22 : decode cX8_rank 22 = .ok (.if_icmp .lt 7, 3) := by decide +kernel
theorem dX8_rank_25 : decode cX8_rank 25 = .ok (.iconst 3, 1) := by decide +kernel
theorem dX8_rank_26 : decode cX8_rank 26 = .ok (.goto 25, 3) := by decide +kernel
theorem dX8_rank_29 : decode cX8_rank 29 = .ok (.iload_n 0, 1) := by decide +kernel
theorem dX8_rank_30 : decode cX8_rank 30 = .ok (.bipush (-7), 2) := by decide +kernel
theorem dX8_rank_32 : decode cX8_rank 32 = .ok (.if_icmp .lt 7, 3) := by decide +kernel
theorem dX8_rank_35 : decode cX8_rank 35 = .ok (.iconst 4, 1) := by decide +kernel
theorem dX8_rank_36 : decode cX8_rank 36 = .ok (.goto 15, 3) := by decide +kernel
theorem dX8_rank_39 : decode cX8_rank 39 = .ok (.iload_n 0, 1) := by decide +kernel
theorem dX8_rank_40 : decode cX8_rank 40 = .ok (.bipush (-9), 2) := by decide +kernel
theorem dX8_rank_42 : decode cX8_rank 42 = .ok (.if_icmp .lt 7, 3) := by decide +kernel
theorem dX8_rank_45 : decode cX8_rank 45 = .ok (.iconst 5, 1) := by decide +kernel
theorem dX8_rank_46 : decode cX8_rank 46 = .ok (.goto 5, 3) := by decide +kernel
theorem dX8_rank_49 : decode cX8_rank 49 = .ok (.bipush 6, 2) := by decide +kernel
theorem dX8_rank_51 : decode cX8_rank 51 = .ok (.ireturn, 1) := by decide +kernel
theorem dX8_settle_0 : decode cX8_settle 0 = .ok (.aload_n 0, 1) := by decide +kernel
theorem dX8_settle_1 : decode cX8_settle 1 = .ok (.getfield 245, 3) := by decide +kernel
theorem dX8_settle_4 : decode cX8_settle 4 = .ok (.ifCond .le 78, 3) := by decide +kernel
theorem dX8_settle_7 : decode cX8_settle 7 = .ok (.aload_n 0, 1) := by decide +kernel
theorem dX8_settle_8 : decode cX8_settle 8 = .ok (.getfield 52, 3) := by decide +kernel
theorem dX8_settle_11 : decode cX8_settle 11 = .ok (.aload_n 0, 1) := by decide +kernel
theorem dX8_settle_12 : decode cX8_settle 12 = .ok (.getfield 245, 3) := by decide +kernel
theorem dX8_settle_15 : decode cX8_settle 15 = .ok (.iconst 1, 1) := by decide +kernel
theorem dX8_settle_16 : decode cX8_settle 16 = .ok (.isub, 1) := by decide +kernel
theorem dX8_settle_17 : decode cX8_settle 17 = .ok (.iaload, 1) := by decide +kernel
theorem dX8_settle_18 : decode cX8_settle 18 = .ok (.bipush (-11), 2) := by decide +kernel
theorem dX8_settle_20 : decode cX8_settle 20 = .ok (.if_icmp .eq 62, 3) := by decide +kernel
theorem dX8_settle_23 : decode cX8_settle 23 = .ok (.aload_n 0, 1) := by decide +kernel
theorem dX8_settle_24 : decode cX8_settle 24 = .ok (.getfield 52, 3) := by decide +kernel
theorem dX8_settle_27 : decode cX8_settle 27 = .ok (.aload_n 0, 1) := by decide +kernel
theorem dX8_settle_28 : decode cX8_settle 28 = .ok (.getfield 245, 3) := by decide +kernel
theorem dX8_settle_31 : decode cX8_settle 31 = .ok (.iconst 1, 1) := by decide +kernel
theorem dX8_settle_32 : decode cX8_settle 32 = .ok (.isub, 1) := by decide +kernel
theorem dX8_settle_33 : decode cX8_settle 33 = .ok (.iaload, 1) := by decide +kernel
theorem dX8_settle_34 : decode cX8_settle 34 = .ok (.invokestatic 248, 3) := by decide +kernel
theorem dX8_settle_37 : decode cX8_settle 37 = .ok (.iload_n 1, 1) := by decide +kernel
theorem dX8_settle_38 : decode cX8_settle 38 = .ok (.if_icmp .lt 44, 3) := by decide +kernel
theorem dX8_settle_41 : decode cX8_settle 41 = .ok (.aload_n 0, 1) := by decide +kernel
theorem dX8_settle_42 : decode cX8_settle 42 = .ok (.dup, 1) := by decide +kernel
theorem dX8_settle_43 : decode cX8_settle 43 = .ok (.getfield 245, 3) := by decide +kernel
theorem dX8_settle_46 : decode cX8_settle 46 = .ok (.iconst 1, 1) := by decide +kernel
theorem dX8_settle_47 : decode cX8_settle 47 = .ok (.isub, 1) := by decide +kernel
theorem dX8_settle_48 : decode cX8_settle 48 = .ok (.putfield 245, 3) := by decide +kernel
theorem dX8_settle_51 : decode cX8_settle 51 = .ok (.aload_n 0, 1) := by decide +kernel
theorem dX8_settle_52 : decode cX8_settle 52 = .ok (.getfield 49, 3) := by decide +kernel
theorem dX8_settle_55 : decode cX8_settle 55 = .ok (.aload_n 0, 1) := by decide +kernel
theorem dX8_settle_56 : decode cX8_settle 56 = .ok (.getfield 251, 3) := by decide +kernel
theorem dX8_settle_59 : decode cX8_settle 59 = .ok (.aload_n 0, 1) := by decide +kernel
theorem dX8_settle_60 : decode cX8_settle 60 = .ok (.getfield 52, 3) := by decide +kernel
theorem dX8_settle_63 : decode cX8_settle 63 = .ok (.aload_n 0, 1) := by decide +kernel
theorem dX8_settle_64 : decode cX8_settle 64 = .ok (.getfield 245, 3) := by decide +kernel
theorem dX8_settle_67 : decode cX8_settle 67 = .ok (.iaload, 1) := by decide +kernel
theorem dX8_settle_68 : decode cX8_settle 68 = .ok (.iastore, 1) := by decide +kernel
theorem dX8_settle_69 : decode cX8_settle 69 = .ok (.aload_n 0, 1) := by decide +kernel
theorem dX8_settle_70 : decode cX8_settle 70 = .ok (.dup, 1) := by decide +kernel
theorem dX8_settle_71 : decode cX8_settle 71 = .ok (.getfield 251, 3) := by decide +kernel
theorem dX8_settle_74 : decode cX8_settle 74 = .ok (.iconst 1, 1) := by decide +kernel
theorem dX8_settle_75 : decode cX8_settle 75 = .ok (.iadd, 1) := by decide +kernel
theorem dX8_settle_76 : decode cX8_settle 76 = .ok (.putfield 251, 3) := by decide +kernel
theorem dX8_settle_79 : decode cX8_settle 79 = .ok (.goto (-79), 3) := by decide +kernel
theorem dX8_settle_82 : decode cX8_settle 82 = .ok (.return_, 1) := by decide +kernel
theorem dX8_signHere_0 : decode cX8_signHere 0 = .ok (.aload_n 0, 1) := by decide +kernel
theorem dX8_signHere_1 : decode cX8_signHere 1 = .ok (.getfield 227, 3) := by decide +kernel
theorem dX8_signHere_4 : decode cX8_signHere 4 = .ok (.iconst 3, 1) := by decide +kernel
theorem dX8_signHere_5 : decode cX8_signHere 5 = .ok (.if_icmp .eq 5, 3) := by decide +kernel
theorem dX8_signHere_8 : decode cX8_signHere 8 = .ok (.iconst 0, 1) := by decide +kernel
theorem dX8_signHere_9 : decode cX8_signHere 9 = .ok (.ireturn, 1) := by decide +kernel
theorem dX8_signHere_10 : decode cX8_signHere 10 = .ok (.aload_n 0, 1) := by decide +kernel
theorem dX8_signHere_11 : decode cX8_signHere 11 = .ok (.getfield 233, 3) := by decide +kernel
theorem dX8_signHere_14 : decode cX8_signHere 14 = .ok (.lookupswitch 108 #[(38, 84), (42, 102), (43, 96), (45, 99), (47, 105), (60, 87), (61, 90), (62, 93), (124, 82)], 82) := by decide +kernel
theorem dX8_signHere_96 : decode cX8_signHere 96 = .ok (.iconst (-1), 1) := by decide +kernel
theorem dX8_signHere_97 : decode cX8_signHere 97 = .ok (.ireturn, 1) := by decide +kernel
theorem dX8_signHere_98 : decode cX8_signHere 98 = .ok (.bipush (-2), 2) := by decide +kernel
theorem dX8_signHere_100 : decode cX8_signHere 100 = .ok (.ireturn, 1) := by decide +kernel
theorem dX8_signHere_101 : decode cX8_signHere 101 = .ok (.bipush (-3), 2) := by decide +kernel
theorem dX8_signHere_103 : decode cX8_signHere 103 = .ok (.ireturn, 1) := by decide +kernel
theorem dX8_signHere_104 : decode cX8_signHere 104 = .ok (.bipush (-4), 2) := by decide +kernel
theorem dX8_signHere_106 : decode cX8_signHere 106 = .ok (.ireturn, 1) := by decide +kernel
theorem dX8_signHere_107 : decode cX8_signHere 107 = .ok (.bipush (-5), 2) := by decide +kernel
theorem dX8_signHere_109 : decode cX8_signHere 109 = .ok (.ireturn, 1) := by decide +kernel
theorem dX8_signHere_110 : decode cX8_signHere 110 = .ok (.bipush (-6), 2) := by decide +kernel
theorem dX8_signHere_112 : decode cX8_signHere 112 = .ok (.ireturn, 1) := by decide +kernel
theorem dX8_signHere_113 : decode cX8_signHere 113 = .ok (.bipush (-7), 2) := by decide +kernel
theorem dX8_signHere_115 : decode cX8_signHere 115 = .ok (.ireturn, 1) := by decide +kernel
theorem dX8_signHere_116 : decode cX8_signHere 116 = .ok (.bipush (-8), 2) := by decide +kernel
theorem dX8_signHere_118 : decode cX8_signHere 118 = .ok (.ireturn, 1) := by decide +kernel
theorem dX8_signHere_119 : decode cX8_signHere 119 = .ok (.bipush (-9), 2) := by decide +kernel
theorem dX8_signHere_121 : decode cX8_signHere 121 = .ok (.ireturn, 1) := by decide +kernel
theorem dX8_signHere_122 : decode cX8_signHere 122 = .ok (.iconst 0, 1) := by decide +kernel
theorem dX8_signHere_123 : decode cX8_signHere 123 = .ok (.ireturn, 1) := by decide +kernel
theorem dX8_takesPart_0 : decode cX8_takesPart 0 = .ok (.aload_n 0, 1) := by decide +kernel
theorem dX8_takesPart_1 : decode cX8_takesPart 1 = .ok (.getfield 227, 3) := by decide +kernel
theorem dX8_takesPart_4 : decode cX8_takesPart 4 = .ok (.iconst 1, 1) := by decide +kernel
theorem dX8_takesPart_5 : decode cX8_takesPart 5 = .ok (.if_icmp .ne 31, 3) := by decide +kernel
theorem dX8_takesPart_8 : decode cX8_takesPart 8 = .ok (.aload_n 0, 1) := by decide +kernel
theorem dX8_takesPart_9 : decode cX8_takesPart 9 = .ok (.getfield 218, 3) := by decide +kernel
theorem dX8_takesPart_12 : decode cX8_takesPart 12 = .ok (.aload_n 0, 1) := by decide +kernel
theorem dX8_takesPart_13 : decode cX8_takesPart 13 = .ok (.getfield 221, 3) := by decide +kernel
theorem dX8_takesPart_16 : decode cX8_takesPart 16 = .ok (.isub, 1) := by decide +kernel
theorem dX8_takesPart_17 : decode cX8_takesPart 17 = .ok (.iconst 1, 1) := by decide +kernel
theorem dX8_takesPart_18 : decode cX8_takesPart 18 = .ok (.if_icmp .ne 18, 3) := by decide +kernel
theorem dX8_takesPart_21 : decode cX8_takesPart 21 = .ok (.aload_n 0, 1) := by decide +kernel
theorem dX8_takesPart_22 : decode cX8_takesPart 22 = .ok (.aload_n 0, 1) := by decide +kernel
theorem dX8_takesPart_23 : decode cX8_takesPart 23 = .ok (.getfield 233, 3) := by decide +kernel
theorem dX8_takesPart_26 : decode cX8_takesPart 26 = .ok (.invokevirtual 254, 3) := by decide +kernel
theorem dX8_takesPart_29 : decode cX8_takesPart 29 = .ok (.ifCond .lt 7, 3) := by decide +kernel
theorem dX8_takesPart_32 : decode cX8_takesPart 32 = .ok (.iconst 1, 1) := by decide +kernel
theorem dX8_takesPart_33 : decode cX8_takesPart 33 = .ok (.goto 4, 3) := by decide +kernel
theorem dX8_takesPart_36 : decode cX8_takesPart 36 = .ok (.iconst 0, 1) := by decide +kernel
theorem dX8_takesPart_37 : decode cX8_takesPart 37 = .ok (.istore_n 1, 1) := by decide +kernel
theorem dX8_takesPart_38 : decode cX8_takesPart 38 = .ok (.aload_n 0, 1) := by decide +kernel
theorem dX8_takesPart_39 : decode cX8_takesPart 39 = .ok (.getfield 227, 3) := by decide +kernel
theorem dX8_takesPart_42 : decode cX8_takesPart 42 = .ok (.iconst 2, 1) := by decide +kernel
theorem dX8_takesPart_43 : decode cX8_takesPart 43 = .ok (.if_icmp .eq 9, 3) := by decide +kernel
theorem dX8_takesPart_46 : decode cX8_takesPart 46 = .ok (.iload_n 1, 1) := by decide +kernel
theorem dX8_takesPart_47 : decode cX8_takesPart 47 = .ok (.ifCond .ne 5, 3) := by decide +kernel
theorem dX8_takesPart_50 : decode cX8_takesPart 50 = .ok (.iconst 0, 1) := by decide +kernel
theorem dX8_takesPart_51 : decode cX8_takesPart 51 = .ok (.ireturn, 1) := by decide +kernel
theorem dX8_takesPart_52 : decode cX8_takesPart 52 = .ok (.aload_n 0, 1) := by decide +kernel
theorem dX8_takesPart_53 : decode cX8_takesPart 53 = .ok (.getfield 49, 3) := by decide +kernel
theorem dX8_takesPart_56 : decode cX8_takesPart 56 = .ok (.aload_n 0, 1) := by decide +kernel
theorem dX8_takesPart_57 : decode cX8_takesPart 57 = .ok (.getfield 251, 3) := by decide +kernel
theorem dX8_takesPart_60 : decode cX8_takesPart 60 = .ok (.aload_n 0, 1) := by decide +kernel
theorem dX8_takesPart_61 : decode cX8_takesPart 61 = .ok (.getfield 227, 3) := by decide +kernel
theorem dX8_takesPart_64 : decode cX8_takesPart 64 = .ok (.iconst 2, 1) := by decide +kernel
theorem dX8_takesPart_65 : decode cX8_takesPart 65 = .ok (.if_icmp .ne 10, 3) := by decide +kernel
theorem dX8_takesPart_68 : decode cX8_takesPart 68 = .ok (.aload_n 0, 1) := by decide +kernel
theorem dX8_takesPart_69 : decode cX8_takesPart 69 = .ok (.getfield 233, 3) := by decide +kernel
theorem dX8_takesPart_72 : decode cX8_takesPart 72 = .ok (.goto 15, 3) := by decide +kernel
theorem dX8_takesPart_75 : decode cX8_takesPart 75 = .ok (.sipush 10000, 3) := by decide +kernel
theorem dX8_takesPart_78 : decode cX8_takesPart 78 = .ok (.aload_n 0, 1) := by decide +kernel
theorem dX8_takesPart_79 : decode cX8_takesPart 79 = .ok (.aload_n 0, 1) := by decide +kernel
theorem dX8_takesPart_80 : decode cX8_takesPart 80 = .ok (.getfield 233, 3) := by decide +kernel
theorem dX8_takesPart_83 : decode cX8_takesPart 83 = .ok (.invokevirtual 254, 3) := by decide +kernel
theorem dX8_takesPart_86 : decode cX8_takesPart 86 = .ok (.iadd, 1) := by decide +kernel
theorem dX8_takesPart_87 : decode cX8_takesPart 87 = .ok (.iastore, 1) := by decide +kernel
theorem dX8_takesPart_88 : decode cX8_takesPart 88 = .ok (.aload_n 0, 1) := by decide +kernel
theorem dX8_takesPart_89 : decode cX8_takesPart 89 = .ok (.dup, 1) := by decide +kernel
theorem dX8_takesPart_90 : decode cX8_takesPart 90 = .ok (.getfield 251, 3) := by decide +kernel
theorem dX8_takesPart_93 : decode cX8_takesPart 93 = .ok (.iconst 1, 1) := by decide +kernel
theorem dX8_takesPart_94 : decode cX8_takesPart 94 = .ok (.iadd, 1) := by decide +kernel
theorem dX8_takesPart_95 : decode cX8_takesPart 95 = .ok (.putfield 251, 3) := by decide +kernel
theorem dX8_takesPart_98 : decode cX8_takesPart 98 = .ok (.aload_n 0, 1) := by decide +kernel
theorem dX8_takesPart_99 : decode cX8_takesPart 99 = .ok (.dup, 1) := by decide +kernel
theorem dX8_takesPart_100 : decode cX8_takesPart 100 = .ok (.getfield 257, 3) := by decide +kernel
theorem dX8_takesPart_103 : decode cX8_takesPart 103 = .ok (.iconst 1, 1) := by decide +kernel
theorem dX8_takesPart_104 : decode cX8_takesPart 104 = .ok (.iadd, 1) := by decide +kernel
theorem dX8_takesPart_105 : decode cX8_takesPart 105 = .ok (.putfield 257, 3) := by decide +kernel
theorem dX8_takesPart_108 : decode cX8_takesPart 108 = .ok (.aload_n 0, 1) := by decide +kernel
theorem dX8_takesPart_109 : decode cX8_takesPart 109 = .ok (.bipush 6, 2) := by decide +kernel
theorem dX8_takesPart_111 : decode cX8_takesPart 111 = .ok (.invokevirtual 260, 3) := by decide +kernel
theorem dX8_takesPart_114 : decode cX8_takesPart 114 = .ok (.aload_n 0, 1) := by decide +kernel
theorem dX8_takesPart_115 : decode cX8_takesPart 115 = .ok (.invokevirtual 242, 3) := by decide +kernel
theorem dX8_takesPart_118 : decode cX8_takesPart 118 = .ok (.iconst 1, 1) := by decide +kernel
theorem dX8_takesPart_119 : decode cX8_takesPart 119 = .ok (.ireturn, 1) := by decide +kernel
theorem dX8_takesE_0 : decode cX8_takesE 0 = .ok (.iconst 0, 1) := by decide +kernel
theorem dX8_takesE_1 : decode cX8_takesE 1 = .ok (.istore_n 1, 1) := by decide +kernel
theorem dX8_takesE_2 : decode cX8_takesE 2 = .ok (.iconst 0, 1) := by decide +kernel
theorem dX8_takesE_3 : decode cX8_takesE 3 = .ok (.istore_n 2, 1) := by decide +kernel
theorem dX8_takesE_4 : decode cX8_takesE 4 = .ok (.iconst 1, 1) := by decide +kernel
theorem dX8_takesE_5 : decode cX8_takesE 5 = .ok (.istore_n 3, 1) := by decide +kernel
theorem dX8_takesE_6 : decode cX8_takesE 6 = .ok (.aload_n 0, 1) := by decide +kernel
theorem dX8_takesE_7 : decode cX8_takesE 7 = .ok (.iconst 0, 1) := by decide +kernel
theorem dX8_takesE_8 : decode cX8_takesE 8 = .ok (.putfield 251, 3) := by decide +kernel
theorem dX8_takesE_11 : decode cX8_takesE 11 = .ok (.aload_n 0, 1) := by decide +kernel
theorem dX8_takesE_12 : decode cX8_takesE 12 = .ok (.iconst 0, 1) := by decide +kernel
theorem dX8_takesE_13 : decode cX8_takesE 13 = .ok (.putfield 257, 3) := by decide +kernel
theorem dX8_takesE_16 : decode cX8_takesE 16 = .ok (.aload_n 0, 1) := by decide +kernel
theorem dX8_takesE_17 : decode cX8_takesE 17 = .ok (.iconst 0, 1) := by decide +kernel
theorem dX8_takesE_18 : decode cX8_takesE 18 = .ok (.putfield 245, 3) := by decide +kernel
theorem dX8_takesE_21 : decode cX8_takesE 21 = .ok (.aload_n 0, 1) := by decide +kernel
theorem dX8_takesE_22 : decode cX8_takesE 22 = .ok (.getfield 55, 3) := by decide +kernel
theorem dX8_takesE_25 : decode cX8_takesE 25 = .ok (.iconst 0, 1) := by decide +kernel
theorem dX8_takesE_26 : decode cX8_takesE 26 = .ok (.iconst 0, 1) := by decide +kernel
theorem dX8_takesE_27 : decode cX8_takesE 27 = .ok (.bastore, 1) := by decide +kernel
theorem dX8_takesE_28 : decode cX8_takesE 28 = .ok (.iload_n 3, 1) := by decide +kernel
theorem dX8_takesE_29 : decode cX8_takesE 29 = .ok (.ifCond .ne 10, 3) := by decide +kernel
theorem dX8_takesE_32 : decode cX8_takesE 32 = .ok (.aload_n 0, 1) := by decide +kernel
theorem dX8_takesE_33 : decode cX8_takesE 33 = .ok (.getfield 227, 3) := by decide +kernel
theorem dX8_takesE_36 : decode cX8_takesE 36 = .ok (.ifCond .eq 309, 3) := by decide +kernel
theorem dX8_takesE_39 : decode cX8_takesE 39 = .ok (.iload_n 3, 1) := by decide +kernel
theorem dX8_takesE_40 : decode cX8_takesE 40 = .ok (.ifCond .eq 140, 3) := by decide +kernel
theorem dX8_takesE_43 : decode cX8_takesE 43 = .ok (.aload_n 0, 1) := by decide +kernel
theorem dX8_takesE_44 : decode cX8_takesE 44 = .ok (.getfield 227, 3) := by decide +kernel
theorem dX8_takesE_47 : decode cX8_takesE 47 = .ok (.iconst 3, 1) := by decide +kernel
theorem dX8_takesE_48 : decode cX8_takesE 48 = .ok (.if_icmp .ne 49, 3) := by decide +kernel
theorem dX8_takesE_51 : decode cX8_takesE 51 = .ok (.aload_n 0, 1) := by decide +kernel
theorem dX8_takesE_52 : decode cX8_takesE 52 = .ok (.getfield 233, 3) := by decide +kernel
theorem dX8_takesE_55 : decode cX8_takesE 55 = .ok (.bipush 33, 2) := by decide +kernel
theorem dX8_takesE_57 : decode cX8_takesE 57 = .ok (.if_icmp .ne 40, 3) := by decide +kernel
theorem dX8_takesE_60 : decode cX8_takesE 60 = .ok (.iload_n 2, 1) := by decide +kernel
theorem dX8_takesE_61 : decode cX8_takesE 61 = .ok (.bipush 8, 2) := by decide +kernel
theorem dX8_takesE_63 : decode cX8_takesE 63 = .ok (.if_icmp .ge 34, 3) := by decide +kernel
theorem dX8_takesE_66 : decode cX8_takesE 66 = .ok (.aload_n 0, 1) := by decide +kernel
theorem dX8_takesE_67 : decode cX8_takesE 67 = .ok (.getfield 52, 3) := by decide +kernel
theorem dX8_takesE_70 : decode cX8_takesE 70 = .ok (.aload_n 0, 1) := by decide +kernel
theorem dX8_takesE_71 : decode cX8_takesE 71 = .ok (.getfield 245, 3) := by decide +kernel
theorem dX8_takesE_74 : decode cX8_takesE 74 = .ok (.bipush (-10), 2) := by decide +kernel
theorem dX8_takesE_76 : decode cX8_takesE 76 = .ok (.iastore, 1) := by decide +kernel
theorem dX8_takesE_77 : decode cX8_takesE 77 = .ok (.aload_n 0, 1) := by decide +kernel
theorem dX8_takesE_78 : decode cX8_takesE 78 = .ok (.dup, 1) := by decide +kernel
theorem dX8_takesE_79 : decode cX8_takesE 79 = .ok (.getfield 245, 3) := by decide +kernel
theorem dX8_takesE_82 : decode cX8_takesE 82 = .ok (.iconst 1, 1) := by decide +kernel
theorem dX8_takesE_83 : decode cX8_takesE 83 = .ok (.iadd, 1) := by decide +kernel
theorem dX8_takesE_84 : decode cX8_takesE 84 = .ok (.putfield 245, 3) := by decide +kernel
theorem dX8_takesE_87 : decode cX8_takesE 87 = .ok (.iinc 2 1, 3) := by decide +kernel
theorem dX8_takesE_90 : decode cX8_takesE 90 = .ok (.aload_n 0, 1) := by decide +kernel
theorem dX8_takesE_91 : decode cX8_takesE 91 = .ok (.invokevirtual 242, 3) := by decide +kernel
theorem dX8_takesE_94 : decode cX8_takesE 94 = .ok (.goto 78, 3) := by decide +kernel
theorem dX8_takesE_97 : decode cX8_takesE 97 = .ok (.aload_n 0, 1) := by decide +kernel
theorem dX8_takesE_98 : decode cX8_takesE 98 = .ok (.getfield 227, 3) := by decide +kernel
theorem dX8_takesE_101 : decode cX8_takesE 101 = .ok (.iconst 3, 1) := by decide +kernel
theorem dX8_takesE_102 : decode cX8_takesE 102 = .ok (.if_icmp .ne 56, 3) := by decide +kernel
theorem dX8_takesE_105 : decode cX8_takesE 105 = .ok (.aload_n 0, 1) := by decide +kernel
theorem dX8_takesE_106 : decode cX8_takesE 106 = .ok (.getfield 233, 3) := by decide +kernel
theorem dX8_takesE_109 : decode cX8_takesE 109 = .ok (.bipush 40, 2) := by decide +kernel
theorem dX8_takesE_111 : decode cX8_takesE 111 = .ok (.if_icmp .ne 47, 3) := by decide +kernel
theorem dX8_takesE_114 : decode cX8_takesE 114 = .ok (.iload_n 1, 1) := by decide +kernel
theorem dX8_takesE_115 : decode cX8_takesE 115 = .ok (.bipush 8, 2) := by decide +kernel
theorem dX8_takesE_117 : decode cX8_takesE 117 = .ok (.if_icmp .ge 41, 3) := by decide +kernel
theorem dX8_takesE_120 : decode cX8_takesE 120 = .ok (.aload_n 0, 1) := by decide +kernel
theorem dX8_takesE_121 : decode cX8_takesE 121 = .ok (.getfield 52, 3) := by decide +kernel
theorem dX8_takesE_124 : decode cX8_takesE 124 = .ok (.aload_n 0, 1) := by decide +kernel
theorem dX8_takesE_125 : decode cX8_takesE 125 = .ok (.getfield 245, 3) := by decide +kernel
theorem dX8_takesE_128 : decode cX8_takesE 128 = .ok (.bipush (-11), 2) := by decide +kernel
theorem dX8_takesE_130 : decode cX8_takesE 130 = .ok (.iastore, 1) := by decide +kernel
theorem dX8_takesE_131 : decode cX8_takesE 131 = .ok (.aload_n 0, 1) := by decide +kernel
theorem dX8_takesE_132 : decode cX8_takesE 132 = .ok (.dup, 1) := by decide +kernel
theorem dX8_takesE_133 : decode cX8_takesE 133 = .ok (.getfield 245, 3) := by decide +kernel
theorem dX8_takesE_136 : decode cX8_takesE 136 = .ok (.iconst 1, 1) := by decide +kernel
theorem dX8_takesE_137 : decode cX8_takesE 137 = .ok (.iadd, 1) := by decide +kernel
theorem dX8_takesE_138 : decode cX8_takesE 138 = .ok (.putfield 245, 3) := by decide +kernel
theorem dX8_takesE_141 : decode cX8_takesE 141 = .ok (.iinc 1 1, 3) := by decide +kernel
theorem dX8_takesE_144 : decode cX8_takesE 144 = .ok (.aload_n 0, 1) := by decide +kernel
theorem dX8_takesE_145 : decode cX8_takesE 145 = .ok (.getfield 55, 3) := by decide +kernel
theorem dX8_takesE_148 : decode cX8_takesE 148 = .ok (.iload_n 1, 1) := by decide +kernel
theorem dX8_takesE_149 : decode cX8_takesE 149 = .ok (.iconst 0, 1) := by decide +kernel
theorem dX8_takesE_150 : decode cX8_takesE 150 = .ok (.bastore, 1) := by decide +kernel
theorem dX8_takesE_151 : decode cX8_takesE 151 = .ok (.aload_n 0, 1) := by decide +kernel
theorem dX8_takesE_152 : decode cX8_takesE 152 = .ok (.invokevirtual 242, 3) := by decide +kernel
theorem dX8_takesE_155 : decode cX8_takesE 155 = .ok (.goto 17, 3) := by decide +kernel
theorem dX8_takesE_158 : decode cX8_takesE 158 = .ok (.aload_n 0, 1) := by decide +kernel
theorem dX8_takesE_159 : decode cX8_takesE 159 = .ok (.invokevirtual 263, 3) := by decide +kernel
theorem dX8_takesE_162 : decode cX8_takesE 162 = .ok (.ifCond .eq 8, 3) := by decide +kernel
theorem dX8_takesE_165 : decode cX8_takesE 165 = .ok (.iconst 0, 1) := by decide +kernel
theorem dX8_takesE_166 : decode cX8_takesE 166 = .ok (.istore_n 3, 1) := by decide +kernel
theorem dX8_takesE_167 : decode cX8_takesE 167 = .ok (.goto 5, 3) := by decide +kernel
theorem dX8_takesE_170 : decode cX8_takesE 170 = .ok (.iconst 0, 1) := by decide +kernel
theorem dX8_takesE_171 : decode cX8_takesE 171 = .ok (.ireturn, 1) := by decide +kernel
theorem dX8_takesE_172 : decode cX8_takesE 172 = .ok (.aload_n 0, 1) := by decide +kernel
theorem dX8_takesE_173 : decode cX8_takesE 173 = .ok (.invokevirtual 267, 3) := by decide +kernel
theorem dX8_takesE_176 : decode cX8_takesE 176 = .ok (.istore_n 2, 1) := by decide +kernel
theorem dX8_takesE_177 : decode cX8_takesE 177 = .ok (.goto (-149), 3) := by decide +kernel
theorem dX8_takesE_180 : decode cX8_takesE 180 = .ok (.aload_n 0, 1) := by decide +kernel
theorem dX8_takesE_181 : decode cX8_takesE 181 = .ok (.getfield 227, 3) := by decide +kernel
theorem dX8_takesE_184 : decode cX8_takesE 184 = .ok (.iconst 3, 1) := by decide +kernel
theorem dX8_takesE_185 : decode cX8_takesE 185 = .ok (.if_icmp .ne 52, 3) := by decide +kernel
theorem dX8_takesE_188 : decode cX8_takesE 188 = .ok (.aload_n 0, 1) := by decide +kernel
theorem dX8_takesE_189 : decode cX8_takesE 189 = .ok (.getfield 233, 3) := by decide +kernel
theorem dX8_takesE_192 : decode cX8_takesE 192 = .ok (.bipush 41, 2) := by decide +kernel
theorem dX8_takesE_194 : decode cX8_takesE 194 = .ok (.if_icmp .ne 43, 3) := by decide +kernel
theorem dX8_takesE_197 : decode cX8_takesE 197 = .ok (.iload_n 1, 1) := by decide +kernel
theorem dX8_takesE_198 : decode cX8_takesE 198 = .ok (.ifCond .le 39, 3) := by decide +kernel
theorem dX8_takesE_201 : decode cX8_takesE 201 = .ok (.aload_n 0, 1) := by decide +kernel
theorem dX8_takesE_202 : decode cX8_takesE 202 = .ok (.iconst 0, 1) := by decide +kernel
theorem dX8_takesE_203 : decode cX8_takesE 203 = .ok (.invokevirtual 260, 3) := by decide +kernel
theorem dX8_takesE_206 : decode cX8_takesE 206 = .ok (.aload_n 0, 1) := by decide +kernel
theorem dX8_takesE_207 : decode cX8_takesE 207 = .ok (.dup, 1) := by decide +kernel
theorem dX8_takesE_208 : decode cX8_takesE 208 = .ok (.getfield 245, 3) := by decide +kernel
theorem dX8_takesE_211 : decode cX8_takesE 211 = .ok (.iconst 1, 1) := by decide +kernel
theorem dX8_takesE_212 : decode cX8_takesE 212 = .ok (.isub, 1) := by decide +kernel
theorem dX8_takesE_213 : decode cX8_takesE 213 = .ok (.putfield 245, 3) := by decide +kernel
theorem dX8_takesE_216 : decode cX8_takesE 216 = .ok (.iinc 1 (-1), 3) := by decide +kernel
theorem dX8_takesE_219 : decode cX8_takesE 219 = .ok (.aload_n 0, 1) := by decide +kernel
theorem dX8_takesE_220 : decode cX8_takesE 220 = .ok (.bipush 6, 2) := by decide +kernel
theorem dX8_takesE_222 : decode cX8_takesE 222 = .ok (.invokevirtual 260, 3) := by decide +kernel
theorem dX8_takesE_225 : decode cX8_takesE 225 = .ok (.aload_n 0, 1) := by decide +kernel
theorem dX8_takesE_226 : decode cX8_takesE 226 = .ok (.invokevirtual 267, 3) := by decide +kernel
theorem dX8_takesE_229 : decode cX8_takesE 229 = .ok (.istore_n 2, 1) := by decide +kernel
theorem dX8_takesE_230 : decode cX8_takesE 230 = .ok (.aload_n 0, 1) := by decide +kernel
theorem dX8_takesE_231 : decode cX8_takesE 231 = .ok (.invokevirtual 242, 3) := by decide +kernel
theorem dX8_takesE_234 : decode cX8_takesE 234 = .ok (.goto (-206), 3) := by decide +kernel
theorem dX8_takesE_237 : decode cX8_takesE 237 = .ok (.aload_n 0, 1) := by decide +kernel
theorem dX8_takesE_238 : decode cX8_takesE 238 = .ok (.invokevirtual 270, 3) := by decide +kernel
theorem dX8_takesE_241 : decode cX8_takesE 241 = .ok (.istore 4, 2) := by decide +kernel
theorem dX8_takesE_243 : decode cX8_takesE 243 = .ok (.iload 4, 2) := by decide +kernel
theorem dX8_takesE_245 : decode cX8_takesE 245 = .ok (.ifCond .eq 21, 3) := by decide +kernel
theorem dX8_takesE_248 : decode cX8_takesE 248 = .ok (.iload 4, 2) := by decide +kernel
theorem dX8_takesE_250 : decode cX8_takesE 250 = .ok (.invokestatic 248, 3) := by decide +kernel
theorem dX8_takesE_253 : decode cX8_takesE 253 = .ok (.iconst 3, 1) := by decide +kernel
theorem dX8_takesE_254 : decode cX8_takesE 254 = .ok (.if_icmp .ne 14, 3) := by decide +kernel
theorem dX8_takesE_257 : decode cX8_takesE 257 = .ok (.aload_n 0, 1) := by decide +kernel
theorem dX8_takesE_258 : decode cX8_takesE 258 = .ok (.getfield 55, 3) := by decide +kernel
theorem dX8_takesE_261 : decode cX8_takesE 261 = .ok (.iload_n 1, 1) := by decide +kernel
theorem dX8_takesE_262 : decode cX8_takesE 262 = .ok (.baload, 1) := by decide +kernel
theorem dX8_takesE_263 : decode cX8_takesE 263 = .ok (.ifCond .eq 5, 3) := by decide +kernel
theorem dX8_takesE_266 : decode cX8_takesE 266 = .ok (.iconst 0, 1) := by decide +kernel
theorem dX8_takesE_267 : decode cX8_takesE 267 = .ok (.ireturn, 1) := by decide +kernel
theorem dX8_takesE_268 : decode cX8_takesE 268 = .ok (.aload_n 0, 1) := by decide +kernel
theorem dX8_takesE_269 : decode cX8_takesE 269 = .ok (.getfield 55, 3) := by decide +kernel
theorem dX8_takesE_272 : decode cX8_takesE 272 = .ok (.iload_n 1, 1) := by decide +kernel
theorem dX8_takesE_273 : decode cX8_takesE 273 = .ok (.iload 4, 2) := by decide +kernel
theorem dX8_takesE_275 : decode cX8_takesE 275 = .ok (.invokestatic 248, 3) := by decide +kernel
theorem dX8_takesE_278 : decode cX8_takesE 278 = .ok (.iconst 3, 1) := by decide +kernel
theorem dX8_takesE_279 : decode cX8_takesE 279 = .ok (.if_icmp .eq 21, 3) := by decide +kernel
theorem dX8_takesE_282 : decode cX8_takesE 282 = .ok (.iload 4, 2) := by decide +kernel
theorem dX8_takesE_284 : decode cX8_takesE 284 = .ok (.invokestatic 248, 3) := by decide +kernel
theorem dX8_takesE_287 : decode cX8_takesE 287 = .ok (.iconst 3, 1) := by decide +kernel
theorem dX8_takesE_288 : decode cX8_takesE 288 = .ok (.if_icmp .le 16, 3) := by decide +kernel
theorem dX8_takesE_291 : decode cX8_takesE 291 = .ok (.aload_n 0, 1) := by decide +kernel
theorem dX8_takesE_292 : decode cX8_takesE 292 = .ok (.getfield 55, 3) := by decide +kernel
theorem dX8_takesE_295 : decode cX8_takesE 295 = .ok (.iload_n 1, 1) := by decide +kernel
theorem dX8_takesE_296 : decode cX8_takesE 296 = .ok (.baload, 1) := by decide +kernel
theorem dX8_takesE_297 : decode cX8_takesE 297 = .ok (.ifCond .eq 7, 3) := by decide +kernel
theorem dX8_takesE_300 : decode cX8_takesE 300 = .ok (.iconst 1, 1) := by decide +kernel
theorem dX8_takesE_301 : decode cX8_takesE 301 = .ok (.goto 4, 3) := by decide +kernel
theorem dX8_takesE_304 : decode cX8_takesE 304 = .ok (.iconst 0, 1) := by decide +kernel
theorem dX8_takesE_305 : decode cX8_takesE 305 = .ok (.bastore, 1) := by decide +kernel
theorem dX8_takesE_306 : decode cX8_takesE 306 = .ok (.aload_n 0, 1) := by decide +kernel
theorem dX8_takesE_307 : decode cX8_takesE 307 = .ok (.iload 4, 2) := by decide +kernel
theorem dX8_takesE_309 : decode cX8_takesE 309 = .ok (.invokestatic 248, 3) := by decide +kernel
theorem dX8_takesE_312 : decode cX8_takesE 312 = .ok (.invokevirtual 260, 3) := by decide +kernel
theorem dX8_takesE_315 : decode cX8_takesE 315 = .ok (.aload_n 0, 1) := by decide +kernel
theorem dX8_takesE_316 : decode cX8_takesE 316 = .ok (.getfield 52, 3) := by decide +kernel
theorem dX8_takesE_319 : decode cX8_takesE 319 = .ok (.aload_n 0, 1) := by decide +kernel
theorem dX8_takesE_320 : decode cX8_takesE 320 = .ok (.getfield 245, 3) := by decide +kernel
theorem dX8_takesE_323 : decode cX8_takesE 323 = .ok (.iload 4, 2) := by decide +kernel
theorem dX8_takesE_325 : decode cX8_takesE 325 = .ok (.iastore, 1) := by decide +kernel
theorem dX8_takesE_326 : decode cX8_takesE 326 = .ok (.aload_n 0, 1) := by decide +kernel
theorem dX8_takesE_327 : decode cX8_takesE 327 = .ok (.dup, 1) := by decide +kernel
theorem dX8_takesE_328 : decode cX8_takesE 328 = .ok (.getfield 245, 3) := by decide +kernel
theorem dX8_takesE_331 : decode cX8_takesE 331 = .ok (.iconst 1, 1) := by decide +kernel
theorem dX8_takesE_332 : decode cX8_takesE 332 = .ok (.iadd, 1) := by decide +kernel
theorem dX8_takesE_333 : decode cX8_takesE 333 = .ok (.putfield 245, 3) := by decide +kernel
theorem dX8_takesE_336 : decode cX8_takesE 336 = .ok (.iconst 1, 1) := by decide +kernel
theorem dX8_takesE_337 : decode cX8_takesE 337 = .ok (.istore_n 3, 1) := by decide +kernel
theorem dX8_takesE_338 : decode cX8_takesE 338 = .ok (.aload_n 0, 1) := by decide +kernel
theorem dX8_takesE_339 : decode cX8_takesE 339 = .ok (.invokevirtual 242, 3) := by decide +kernel
theorem dX8_takesE_342 : decode cX8_takesE 342 = .ok (.goto (-314), 3) := by decide +kernel
theorem dX8_takesE_345 : decode cX8_takesE 345 = .ok (.aload_n 0, 1) := by decide +kernel
theorem dX8_takesE_346 : decode cX8_takesE 346 = .ok (.iconst 0, 1) := by decide +kernel
theorem dX8_takesE_347 : decode cX8_takesE 347 = .ok (.invokevirtual 260, 3) := by decide +kernel
theorem dX8_takesE_350 : decode cX8_takesE 350 = .ok (.iload_n 1, 1) := by decide +kernel
theorem dX8_takesE_351 : decode cX8_takesE 351 = .ok (.ifCond .ne 7, 3) := by decide +kernel
theorem dX8_takesE_354 : decode cX8_takesE 354 = .ok (.iconst 1, 1) := by decide +kernel
theorem dX8_takesE_355 : decode cX8_takesE 355 = .ok (.goto 4, 3) := by decide +kernel
theorem dX8_takesE_358 : decode cX8_takesE 358 = .ok (.iconst 0, 1) := by decide +kernel
theorem dX8_takesE_359 : decode cX8_takesE 359 = .ok (.ireturn, 1) := by decide +kernel
theorem dX8_notsOpen_0 : decode cX8_notsOpen 0 = .ok (.iconst 0, 1) := by decide +kernel
theorem dX8_notsOpen_1 : decode cX8_notsOpen 1 = .ok (.istore_n 1, 1) := by decide +kernel
theorem dX8_notsOpen_2 : decode cX8_notsOpen 2 = .ok (.iconst 0, 1) := by decide +kernel
theorem dX8_notsOpen_3 : decode cX8_notsOpen 3 = .ok (.istore_n 2, 1) := by decide +kernel
theorem dX8_notsOpen_4 : decode cX8_notsOpen 4 = .ok (.iload_n 2, 1) := by decide +kernel
theorem dX8_notsOpen_5 : decode cX8_notsOpen 5 = .ok (.aload_n 0, 1) := by decide +kernel
theorem dX8_notsOpen_6 : decode cX8_notsOpen 6 = .ok (.getfield 245, 3) := by decide +kernel
theorem dX8_notsOpen_9 : decode cX8_notsOpen 9 = .ok (.if_icmp .ge 28, 3) := by decide +kernel
theorem dX8_notsOpen_12 : decode cX8_notsOpen 12 = .ok (.iload_n 1, 1) := by decide +kernel
theorem dX8_notsOpen_13 : decode cX8_notsOpen 13 = .ok (.aload_n 0, 1) := by decide +kernel
theorem dX8_notsOpen_14 : decode cX8_notsOpen 14 = .ok (.getfield 52, 3) := by decide +kernel
theorem dX8_notsOpen_17 : decode cX8_notsOpen 17 = .ok (.iload_n 2, 1) := by decide +kernel
theorem dX8_notsOpen_18 : decode cX8_notsOpen 18 = .ok (.iaload, 1) := by decide +kernel
theorem dX8_notsOpen_19 : decode cX8_notsOpen 19 = .ok (.bipush (-10), 2) := by decide +kernel
theorem dX8_notsOpen_21 : decode cX8_notsOpen 21 = .ok (.if_icmp .ne 7, 3) := by decide +kernel
theorem dX8_notsOpen_24 : decode cX8_notsOpen 24 = .ok (.iconst 1, 1) := by decide +kernel
theorem dX8_notsOpen_25 : decode cX8_notsOpen 25 = .ok (.goto 4, 3) := by decide +kernel
theorem dX8_notsOpen_28 : decode cX8_notsOpen 28 = .ok (.iconst 0, 1) := by decide +kernel
theorem dX8_notsOpen_29 : decode cX8_notsOpen 29 = .ok (.iadd, 1) := by decide +kernel
theorem dX8_notsOpen_30 : decode cX8_notsOpen 30 = .ok (.istore_n 1, 1) := by decide +kernel
theorem dX8_notsOpen_31 : decode cX8_notsOpen 31 = .ok (.iinc 2 1, 3) := by decide +kernel
theorem dX8_notsOpen_34 : decode cX8_notsOpen 34 = .ok (.goto (-30), 3) := by decide +kernel
theorem dX8_notsOpen_37 : decode cX8_notsOpen 37 = .ok (.iload_n 1, 1) := by decide +kernel
theorem dX8_notsOpen_38 : decode cX8_notsOpen 38 = .ok (.ireturn, 1) := by decide +kernel
theorem dX8_text_0 : decode cX8_text 0 = .ok (.aload_n 0, 1) := by decide +kernel
theorem dX8_text_1 : decode cX8_text 1 = .ok (.iconst 0, 1) := by decide +kernel
theorem dX8_text_2 : decode cX8_text 2 = .ok (.putfield 218, 3) := by decide +kernel
theorem dX8_text_5 : decode cX8_text 5 = .ok (.aload_n 0, 1) := by decide +kernel
theorem dX8_text_6 : decode cX8_text 6 = .ok (.iconst (-1), 1) := by decide +kernel
theorem dX8_text_7 : decode cX8_text 7 = .ok (.putfield 224, 3) := by decide +kernel
theorem dX8_text_10 : decode cX8_text 10 = .ok (.aload_n 0, 1) := by decide +kernel
theorem dX8_text_11 : decode cX8_text 11 = .ok (.invokevirtual 242, 3) := by decide +kernel
theorem dX8_text_14 : decode cX8_text 14 = .ok (.aload_n 0, 1) := by decide +kernel
theorem dX8_text_15 : decode cX8_text 15 = .ok (.invokevirtual 273, 3) := by decide +kernel
theorem dX8_text_18 : decode cX8_text 18 = .ok (.ifCond .eq 14, 3) := by decide +kernel
theorem dX8_text_21 : decode cX8_text 21 = .ok (.aload_n 0, 1) := by decide +kernel
theorem dX8_text_22 : decode cX8_text 22 = .ok (.invokevirtual 276, 3) := by decide +kernel
theorem dX8_text_25 : decode cX8_text 25 = .ok (.ifCond .eq 7, 3) := by decide +kernel
theorem dX8_text_28 : decode cX8_text 28 = .ok (.iconst 1, 1) := by decide +kernel
theorem dX8_text_29 : decode cX8_text 29 = .ok (.goto 4, 3) := by decide +kernel
theorem dX8_text_32 : decode cX8_text 32 = .ok (.iconst 0, 1) := by decide +kernel
theorem dX8_text_33 : decode cX8_text 33 = .ok (.istore_n 1, 1) := by decide +kernel
theorem dX8_text_34 : decode cX8_text 34 = .ok (.aload_n 0, 1) := by decide +kernel
theorem dX8_text_35 : decode cX8_text 35 = .ok (.iconst 0, 1) := by decide +kernel
theorem dX8_text_36 : decode cX8_text 36 = .ok (.putfield 214, 3) := by decide +kernel
theorem dX8_text_39 : decode cX8_text 39 = .ok (.iload_n 1, 1) := by decide +kernel
theorem dX8_text_40 : decode cX8_text 40 = .ok (.ifCond .ne 11, 3) := by decide +kernel
theorem dX8_text_43 : decode cX8_text 43 = .ok (.bipush (-100), 2) := by decide +kernel
theorem dX8_text_45 : decode cX8_text 45 = .ok (.aload_n 0, 1) := by decide +kernel
theorem dX8_text_46 : decode cX8_text 46 = .ok (.getfield 221, 3) := by decide +kernel
theorem dX8_text_49 : decode cX8_text 49 = .ok (.isub, 1) := by decide +kernel
theorem dX8_text_50 : decode cX8_text 50 = .ok (.ireturn, 1) := by decide +kernel
theorem dX8_text_51 : decode cX8_text 51 = .ok (.aload_n 0, 1) := by decide +kernel
theorem dX8_text_52 : decode cX8_text 52 = .ok (.getfield 9, 3) := by decide +kernel
theorem dX8_text_55 : decode cX8_text 55 = .ok (.bipush 8, 2) := by decide +kernel
theorem dX8_text_57 : decode cX8_text 57 = .ok (.iaload, 1) := by decide +kernel
theorem dX8_text_58 : decode cX8_text 58 = .ok (.bipush 14, 2) := by decide +kernel
theorem dX8_text_60 : decode cX8_text 60 = .ok (.if_icmp .ne 6, 3) := by decide +kernel
theorem dX8_text_63 : decode cX8_text 63 = .ok (.ldc 112, 2) := by decide +kernel
theorem dX8_text_65 : decode cX8_text 65 = .ok (.ireturn, 1) := by decide +kernel
theorem dX8_text_66 : decode cX8_text 66 = .ok (.aload_n 0, 1) := by decide +kernel
theorem dX8_text_67 : decode cX8_text 67 = .ok (.getfield 9, 3) := by decide +kernel
theorem dX8_text_70 : decode cX8_text 70 = .ok (.bipush 8, 2) := by decide +kernel
theorem dX8_text_72 : decode cX8_text 72 = .ok (.iaload, 1) := by decide +kernel
theorem dX8_text_73 : decode cX8_text 73 = .ok (.istore_n 2, 1) := by decide +kernel
theorem dX8_text_74 : decode cX8_text 74 = .ok (.aload_n 0, 1) := by decide +kernel
theorem dX8_text_75 : decode cX8_text 75 = .ok (.getfield 9, 3) := by decide +kernel
theorem dX8_text_78 : decode cX8_text 78 = .ok (.bipush 76, 2) := by decide +kernel
theorem dX8_text_80 : decode cX8_text 80 = .ok (.iconst 2, 1) := by decide +kernel
theorem dX8_text_81 : decode cX8_text 81 = .ok (.iload_n 2, 1) := by decide +kernel
theorem dX8_text_82 : decode cX8_text 82 = .ok (.imul, 1) := by decide +kernel
theorem dX8_text_83 : decode cX8_text 83 = .ok (.iadd, 1) := by decide +kernel
theorem dX8_text_84 : decode cX8_text 84 = .ok (.sipush 1000, 3) := by decide +kernel
theorem dX8_text_87 : decode cX8_text 87 = .ok (.aload_n 0, 1) := by decide +kernel
theorem dX8_text_88 : decode cX8_text 88 = .ok (.getfield 239, 3) := by decide +kernel
theorem dX8_text_91 : decode cX8_text 91 = .ok (.imul, 1) := by decide +kernel
theorem dX8_text_92 : decode cX8_text 92 = .ok (.aload_n 0, 1) := by decide +kernel
theorem dX8_text_93 : decode cX8_text 93 = .ok (.getfield 251, 3) := by decide +kernel
theorem dX8_text_96 : decode cX8_text 96 = .ok (.iadd, 1) := by decide +kernel
theorem dX8_text_97 : decode cX8_text 97 = .ok (.iastore, 1) := by decide +kernel
theorem dX8_text_98 : decode cX8_text 98 = .ok (.aload_n 0, 1) := by decide +kernel
theorem dX8_text_99 : decode cX8_text 99 = .ok (.getfield 9, 3) := by decide +kernel
theorem dX8_text_102 : decode cX8_text 102 = .ok (.bipush 76, 2) := by decide +kernel
theorem dX8_text_104 : decode cX8_text 104 = .ok (.iconst 2, 1) := by decide +kernel
theorem dX8_text_105 : decode cX8_text 105 = .ok (.iload_n 2, 1) := by decide +kernel
theorem dX8_text_106 : decode cX8_text 106 = .ok (.imul, 1) := by decide +kernel
theorem dX8_text_107 : decode cX8_text 107 = .ok (.iadd, 1) := by decide +kernel
theorem dX8_text_108 : decode cX8_text 108 = .ok (.iconst 1, 1) := by decide +kernel
theorem dX8_text_109 : decode cX8_text 109 = .ok (.iadd, 1) := by decide +kernel
theorem dX8_text_110 : decode cX8_text 110 = .ok (.aload_n 0, 1) := by decide +kernel
theorem dX8_text_111 : decode cX8_text 111 = .ok (.getfield 257, 3) := by decide +kernel
theorem dX8_text_114 : decode cX8_text 114 = .ok (.iastore, 1) := by decide +kernel
theorem dX8_text_115 : decode cX8_text 115 = .ok (.iconst 0, 1) := by decide +kernel
theorem dX8_text_116 : decode cX8_text 116 = .ok (.istore_n 3, 1) := by decide +kernel
theorem dX8_text_117 : decode cX8_text 117 = .ok (.iload_n 3, 1) := by decide +kernel
theorem dX8_text_118 : decode cX8_text 118 = .ok (.aload_n 0, 1) := by decide +kernel
theorem dX8_text_119 : decode cX8_text 119 = .ok (.getfield 251, 3) := by decide +kernel
theorem dX8_text_122 : decode cX8_text 122 = .ok (.if_icmp .ge 29, 3) := by decide +kernel
theorem dX8_text_125 : decode cX8_text 125 = .ok (.aload_n 0, 1) := by decide +kernel
theorem dX8_text_126 : decode cX8_text 126 = .ok (.getfield 9, 3) := by decide +kernel
theorem dX8_text_129 : decode cX8_text 129 = .ok (.bipush 104, 2) := by decide +kernel
theorem dX8_text_131 : decode cX8_text 131 = .ok (.bipush 96, 2) := by decide +kernel
theorem dX8_text_133 : decode cX8_text 133 = .ok (.iload_n 2, 1) := by decide +kernel
theorem dX8_text_134 : decode cX8_text 134 = .ok (.imul, 1) := by decide +kernel
theorem dX8_text_135 : decode cX8_text 135 = .ok (.iadd, 1) := by decide +kernel
theorem dX8_text_136 : decode cX8_text 136 = .ok (.iload_n 3, 1) := by decide +kernel
theorem dX8_text_137 : decode cX8_text 137 = .ok (.iadd, 1) := by decide +kernel
theorem dX8_text_138 : decode cX8_text 138 = .ok (.aload_n 0, 1) := by decide +kernel
theorem dX8_text_139 : decode cX8_text 139 = .ok (.getfield 49, 3) := by decide +kernel
theorem dX8_text_142 : decode cX8_text 142 = .ok (.iload_n 3, 1) := by decide +kernel
theorem dX8_text_143 : decode cX8_text 143 = .ok (.iaload, 1) := by decide +kernel
theorem dX8_text_144 : decode cX8_text 144 = .ok (.iastore, 1) := by decide +kernel
theorem dX8_text_145 : decode cX8_text 145 = .ok (.iinc 3 1, 3) := by decide +kernel
theorem dX8_text_148 : decode cX8_text 148 = .ok (.goto (-31), 3) := by decide +kernel
theorem dX8_text_151 : decode cX8_text 151 = .ok (.aload_n 0, 1) := by decide +kernel
theorem dX8_text_152 : decode cX8_text 152 = .ok (.getfield 9, 3) := by decide +kernel
theorem dX8_text_155 : decode cX8_text 155 = .ok (.bipush 8, 2) := by decide +kernel
theorem dX8_text_157 : decode cX8_text 157 = .ok (.dup2, 1) := by decide +kernel
theorem dX8_text_158 : decode cX8_text 158 = .ok (.iaload, 1) := by decide +kernel
theorem dX8_text_159 : decode cX8_text 159 = .ok (.iconst 1, 1) := by decide +kernel
theorem dX8_text_160 : decode cX8_text 160 = .ok (.iadd, 1) := by decide +kernel
theorem dX8_text_161 : decode cX8_text 161 = .ok (.iastore, 1) := by decide +kernel
theorem dX8_text_162 : decode cX8_text 162 = .ok (.iload_n 2, 1) := by decide +kernel
theorem dX8_text_163 : decode cX8_text 163 = .ok (.ireturn, 1) := by decide +kernel
theorem dX8_textTold_0 : decode cX8_textTold 0 = .ok (.iload_n 1, 1) := by decide +kernel
theorem dX8_textTold_1 : decode cX8_textTold 1 = .ok (.iconst 0, 1) := by decide +kernel
theorem dX8_textTold_2 : decode cX8_textTold 2 = .ok (.aload_n 0, 1) := by decide +kernel
theorem dX8_textTold_3 : decode cX8_textTold 3 = .ok (.getfield 9, 3) := by decide +kernel
theorem dX8_textTold_6 : decode cX8_textTold 6 = .ok (.bipush 8, 2) := by decide +kernel
theorem dX8_textTold_8 : decode cX8_textTold 8 = .ok (.iaload, 1) := by decide +kernel
theorem dX8_textTold_9 : decode cX8_textTold 9 = .ok (.iconst 1, 1) := by decide +kernel
theorem dX8_textTold_10 : decode cX8_textTold 10 = .ok (.isub, 1) := by decide +kernel
theorem dX8_textTold_11 : decode cX8_textTold 11 = .ok (.invokestatic 92, 3) := by decide +kernel
theorem dX8_textTold_14 : decode cX8_textTold 14 = .ok (.ifCond .eq 12, 3) := by decide +kernel
theorem dX8_textTold_17 : decode cX8_textTold 17 = .ok (.iload_n 2, 1) := by decide +kernel
theorem dX8_textTold_18 : decode cX8_textTold 18 = .ok (.iconst 0, 1) := by decide +kernel
theorem dX8_textTold_19 : decode cX8_textTold 19 = .ok (.iconst 1, 1) := by decide +kernel
theorem dX8_textTold_20 : decode cX8_textTold 20 = .ok (.invokestatic 92, 3) := by decide +kernel
theorem dX8_textTold_23 : decode cX8_textTold 23 = .ok (.ifCond .ne 6, 3) := by decide +kernel
theorem dX8_textTold_26 : decode cX8_textTold 26 = .ok (.ldc 111, 2) := by decide +kernel
theorem dX8_textTold_28 : decode cX8_textTold 28 = .ok (.ireturn, 1) := by decide +kernel
theorem dX8_textTold_29 : decode cX8_textTold 29 = .ok (.iload_n 2, 1) := by decide +kernel
theorem dX8_textTold_30 : decode cX8_textTold 30 = .ok (.ifCond .ne 21, 3) := by decide +kernel
theorem dX8_textTold_33 : decode cX8_textTold 33 = .ok (.aload_n 0, 1) := by decide +kernel
theorem dX8_textTold_34 : decode cX8_textTold 34 = .ok (.getfield 9, 3) := by decide +kernel
theorem dX8_textTold_37 : decode cX8_textTold 37 = .ok (.bipush 76, 2) := by decide +kernel
theorem dX8_textTold_39 : decode cX8_textTold 39 = .ok (.iconst 2, 1) := by decide +kernel
theorem dX8_textTold_40 : decode cX8_textTold 40 = .ok (.iload_n 1, 1) := by decide +kernel
theorem dX8_textTold_41 : decode cX8_textTold 41 = .ok (.imul, 1) := by decide +kernel
theorem dX8_textTold_42 : decode cX8_textTold 42 = .ok (.iadd, 1) := by decide +kernel
theorem dX8_textTold_43 : decode cX8_textTold 43 = .ok (.iaload, 1) := by decide +kernel
theorem dX8_textTold_44 : decode cX8_textTold 44 = .ok (.sipush 1000, 3) := by decide +kernel
theorem dX8_textTold_47 : decode cX8_textTold 47 = .ok (.idiv, 1) := by decide +kernel
theorem dX8_textTold_48 : decode cX8_textTold 48 = .ok (.goto 16, 3) := by decide +kernel
theorem dX8_textTold_51 : decode cX8_textTold 51 = .ok (.aload_n 0, 1) := by decide +kernel
theorem dX8_textTold_52 : decode cX8_textTold 52 = .ok (.getfield 9, 3) := by decide +kernel
theorem dX8_textTold_55 : decode cX8_textTold 55 = .ok (.bipush 76, 2) := by decide +kernel
theorem dX8_textTold_57 : decode cX8_textTold 57 = .ok (.iconst 2, 1) := by decide +kernel
theorem dX8_textTold_58 : decode cX8_textTold 58 = .ok (.iload_n 1, 1) := by decide +kernel
theorem dX8_textTold_59 : decode cX8_textTold 59 = .ok (.imul, 1) := by decide +kernel
theorem dX8_textTold_60 : decode cX8_textTold 60 = .ok (.iadd, 1) := by decide +kernel
theorem dX8_textTold_61 : decode cX8_textTold 61 = .ok (.iconst 1, 1) := by decide +kernel
theorem dX8_textTold_62 : decode cX8_textTold 62 = .ok (.iadd, 1) := by decide +kernel
theorem dX8_textTold_63 : decode cX8_textTold 63 = .ok (.iaload, 1) := by decide +kernel
theorem dX8_textTold_64 : decode cX8_textTold 64 = .ok (.ireturn, 1) := by decide +kernel
theorem dX8_counts_0 : decode cX8_counts 0 = .ok (.aload_n 0, 1) := by decide +kernel
theorem dX8_counts_1 : decode cX8_counts 1 = .ok (.getfield 9, 3) := by decide +kernel
theorem dX8_counts_4 : decode cX8_counts 4 = .ok (.bipush 8, 2) := by decide +kernel
theorem dX8_counts_6 : decode cX8_counts 6 = .ok (.iaload, 1) := by decide +kernel
theorem dX8_counts_7 : decode cX8_counts 7 = .ok (.iconst 1, 1) := by decide +kernel
theorem dX8_counts_8 : decode cX8_counts 8 = .ok (.isub, 1) := by decide +kernel
theorem dX8_counts_9 : decode cX8_counts 9 = .ok (.istore_n 2, 1) := by decide +kernel
theorem dX8_counts_10 : decode cX8_counts 10 = .ok (.iload_n 2, 1) := by decide +kernel
theorem dX8_counts_11 : decode cX8_counts 11 = .ok (.ifCond .lt 30, 3) := by decide +kernel
theorem dX8_counts_14 : decode cX8_counts 14 = .ok (.aload_n 0, 1) := by decide +kernel
theorem dX8_counts_15 : decode cX8_counts 15 = .ok (.getfield 9, 3) := by decide +kernel
theorem dX8_counts_18 : decode cX8_counts 18 = .ok (.bipush 76, 2) := by decide +kernel
theorem dX8_counts_20 : decode cX8_counts 20 = .ok (.iconst 2, 1) := by decide +kernel
theorem dX8_counts_21 : decode cX8_counts 21 = .ok (.iload_n 2, 1) := by decide +kernel
theorem dX8_counts_22 : decode cX8_counts 22 = .ok (.imul, 1) := by decide +kernel
theorem dX8_counts_23 : decode cX8_counts 23 = .ok (.iadd, 1) := by decide +kernel
theorem dX8_counts_24 : decode cX8_counts 24 = .ok (.iaload, 1) := by decide +kernel
theorem dX8_counts_25 : decode cX8_counts 25 = .ok (.sipush 1000, 3) := by decide +kernel
theorem dX8_counts_28 : decode cX8_counts 28 = .ok (.idiv, 1) := by decide +kernel
theorem dX8_counts_29 : decode cX8_counts 29 = .ok (.iload_n 1, 1) := by decide +kernel
theorem dX8_counts_30 : decode cX8_counts 30 = .ok (.if_icmp .ne 5, 3) := by decide +kernel
theorem dX8_counts_33 : decode cX8_counts 33 = .ok (.iload_n 2, 1) := by decide +kernel
theorem dX8_counts_34 : decode cX8_counts 34 = .ok (.ireturn, 1) := by decide +kernel
theorem dX8_counts_35 : decode cX8_counts 35 = .ok (.iinc 2 (-1), 3) := by decide +kernel
theorem dX8_counts_38 : decode cX8_counts 38 = .ok (.goto (-28), 3) := by decide +kernel
theorem dX8_counts_41 : decode cX8_counts 41 = .ok (.iconst (-1), 1) := by decide +kernel
theorem dX8_counts_42 : decode cX8_counts 42 = .ok (.ireturn, 1) := by decide +kernel
theorem dX8_why_0 : decode cX8_why 0 = .ok (.iload_n 1, 1) := by decide +kernel
theorem dX8_why_1 : decode cX8_why 1 = .ok (.iconst 0, 1) := by decide +kernel
theorem dX8_why_2 : decode cX8_why 2 = .ok (.iconst 2, 1) := by decide +kernel
theorem dX8_why_3 : decode cX8_why 3 = .ok (.invokestatic 92, 3) := by decide +kernel
theorem dX8_why_6 : decode cX8_why 6 = .ok (.ifCond .ne 6, 3) := by decide +kernel
theorem dX8_why_9 : decode cX8_why 9 = .ok (.ldc 111, 2) := by decide +kernel
theorem dX8_why_11 : decode cX8_why 11 = .ok (.ireturn, 1) := by decide +kernel
theorem dX8_why_12 : decode cX8_why 12 = .ok (.aload_n 0, 1) := by decide +kernel
theorem dX8_why_13 : decode cX8_why 13 = .ok (.iload_n 1, 1) := by decide +kernel
theorem dX8_why_14 : decode cX8_why 14 = .ok (.invokevirtual 136, 3) := by decide +kernel
theorem dX8_why_17 : decode cX8_why 17 = .ok (.istore_n 2, 1) := by decide +kernel
theorem dX8_why_18 : decode cX8_why 18 = .ok (.iload_n 2, 1) := by decide +kernel
theorem dX8_why_19 : decode cX8_why 19 = .ok (.ifCond .ge 8, 3) := by decide +kernel
theorem dX8_why_22 : decode cX8_why 22 = .ok (.ldc 91, 2) := by decide +kernel
theorem dX8_why_24 : decode cX8_why 24 = .ok (.goto 4, 3) := by decide +kernel
theorem dX8_why_27 : decode cX8_why 27 = .ok (.iload_n 2, 1) := by decide +kernel
theorem dX8_why_28 : decode cX8_why 28 = .ok (.ireturn, 1) := by decide +kernel
theorem dX8_two_0 : decode cX8_two 0 = .ok (.iload_n 0, 1) := by decide +kernel
theorem dX8_two_1 : decode cX8_two 1 = .ok (.tableswitch 120 (-8) (-1) #[116, 112, 108, 97, 86, 75, 61, 47], 47) := by decide +kernel
theorem dX8_two_48 : decode cX8_two 48 = .ok (.iload_n 1, 1) := by decide +kernel
theorem dX8_two_49 : decode cX8_two 49 = .ok (.ifCond .ne 7, 3) := by decide +kernel
theorem dX8_two_52 : decode cX8_two 52 = .ok (.iload_n 2, 1) := by decide +kernel
theorem dX8_two_53 : decode cX8_two 53 = .ok (.ifCond .eq 7, 3) := by decide +kernel
theorem dX8_two_56 : decode cX8_two 56 = .ok (.iconst 1, 1) := by decide +kernel
theorem dX8_two_57 : decode cX8_two 57 = .ok (.goto 4, 3) := by decide +kernel
theorem dX8_two_60 : decode cX8_two 60 = .ok (.iconst 0, 1) := by decide +kernel
theorem dX8_two_61 : decode cX8_two 61 = .ok (.ireturn, 1) := by decide +kernel
theorem dX8_two_62 : decode cX8_two 62 = .ok (.iload_n 1, 1) := by decide +kernel
theorem dX8_two_63 : decode cX8_two 63 = .ok (.ifCond .eq 11, 3) := by decide +kernel
theorem dX8_two_66 : decode cX8_two 66 = .ok (.iload_n 2, 1) := by decide +kernel
theorem dX8_two_67 : decode cX8_two 67 = .ok (.ifCond .eq 7, 3) := by decide +kernel
theorem dX8_two_70 : decode cX8_two 70 = .ok (.iconst 1, 1) := by decide +kernel
theorem dX8_two_71 : decode cX8_two 71 = .ok (.goto 4, 3) := by decide +kernel
theorem dX8_two_74 : decode cX8_two 74 = .ok (.iconst 0, 1) := by decide +kernel
theorem dX8_two_75 : decode cX8_two 75 = .ok (.ireturn, 1) := by decide +kernel
theorem dX8_two_76 : decode cX8_two 76 = .ok (.iload_n 1, 1) := by decide +kernel
theorem dX8_two_77 : decode cX8_two 77 = .ok (.iload_n 2, 1) := by decide +kernel
theorem dX8_two_78 : decode cX8_two 78 = .ok (.if_icmp .ge 7, 3) := by decide +kernel
theorem dX8_two_81 : decode cX8_two 81 = .ok (.iconst 1, 1) := by decide +kernel
theorem dX8_two_82 : decode cX8_two 82 = .ok (.goto 4, 3) := by decide +kernel
theorem dX8_two_85 : decode cX8_two 85 = .ok (.iconst 0, 1) := by decide +kernel
theorem dX8_two_86 : decode cX8_two 86 = .ok (.ireturn, 1) := by decide +kernel
theorem dX8_two_87 : decode cX8_two 87 = .ok (.iload_n 1, 1) := by decide +kernel
theorem dX8_two_88 : decode cX8_two 88 = .ok (.iload_n 2, 1) := by decide +kernel
theorem dX8_two_89 : decode cX8_two 89 = .ok (.if_icmp .ne 7, 3) := by decide +kernel
theorem dX8_two_92 : decode cX8_two 92 = .ok (.iconst 1, 1) := by decide +kernel
theorem dX8_two_93 : decode cX8_two 93 = .ok (.goto 4, 3) := by decide +kernel
theorem dX8_two_96 : decode cX8_two 96 = .ok (.iconst 0, 1) := by decide +kernel
theorem dX8_two_97 : decode cX8_two 97 = .ok (.ireturn, 1) := by decide +kernel
theorem dX8_two_98 : decode cX8_two 98 = .ok (.iload_n 1, 1) := by decide +kernel
theorem dX8_two_99 : decode cX8_two 99 = .ok (.iload_n 2, 1) := by decide +kernel
theorem dX8_two_100 : decode cX8_two 100 = .ok (.if_icmp .le 7, 3) := by decide +kernel
theorem dX8_two_103 : decode cX8_two 103 = .ok (.iconst 1, 1) := by decide +kernel
theorem dX8_two_104 : decode cX8_two 104 = .ok (.goto 4, 3) := by decide +kernel
theorem dX8_two_107 : decode cX8_two 107 = .ok (.iconst 0, 1) := by decide +kernel
theorem dX8_two_108 : decode cX8_two 108 = .ok (.ireturn, 1) := by decide +kernel
theorem dX8_two_109 : decode cX8_two 109 = .ok (.iload_n 1, 1) := by decide +kernel
theorem dX8_two_110 : decode cX8_two 110 = .ok (.iload_n 2, 1) := by decide +kernel
theorem dX8_two_111 : decode cX8_two 111 = .ok (.iadd, 1) := by decide +kernel
theorem dX8_two_112 : decode cX8_two 112 = .ok (.ireturn, 1) := by decide +kernel
theorem dX8_two_113 : decode cX8_two 113 = .ok (.iload_n 1, 1) := by decide +kernel
theorem dX8_two_114 : decode cX8_two 114 = .ok (.iload_n 2, 1) := by decide +kernel
theorem dX8_two_115 : decode cX8_two 115 = .ok (.isub, 1) := by decide +kernel
theorem dX8_two_116 : decode cX8_two 116 = .ok (.ireturn, 1) := by decide +kernel
theorem dX8_two_117 : decode cX8_two 117 = .ok (.iload_n 1, 1) := by decide +kernel
theorem dX8_two_118 : decode cX8_two 118 = .ok (.iload_n 2, 1) := by decide +kernel
theorem dX8_two_119 : decode cX8_two 119 = .ok (.imul, 1) := by decide +kernel
theorem dX8_two_120 : decode cX8_two 120 = .ok (.ireturn, 1) := by decide +kernel
theorem dX8_two_121 : decode cX8_two 121 = .ok (.iload_n 2, 1) := by decide +kernel
theorem dX8_two_122 : decode cX8_two 122 = .ok (.ifCond .ne 7, 3) := by decide +kernel
theorem dX8_two_125 : decode cX8_two 125 = .ok (.iconst 0, 1) := by decide +kernel
theorem dX8_two_126 : decode cX8_two 126 = .ok (.goto 6, 3) := by decide +kernel
theorem dX8_two_129 : decode cX8_two 129 = .ok (.iload_n 1, 1) := by decide +kernel
theorem dX8_two_130 : decode cX8_two 130 = .ok (.iload_n 2, 1) := by decide +kernel
theorem dX8_two_131 : decode cX8_two 131 = .ok (.idiv, 1) := by decide +kernel
theorem dX8_two_132 : decode cX8_two 132 = .ok (.ireturn, 1) := by decide +kernel
theorem dX8_worksOut_0 : decode cX8_worksOut 0 = .ok (.iconst 0, 1) := by decide +kernel
theorem dX8_worksOut_1 : decode cX8_worksOut 1 = .ok (.istore_n 2, 1) := by decide +kernel
theorem dX8_worksOut_2 : decode cX8_worksOut 2 = .ok (.aload_n 0, 1) := by decide +kernel
theorem dX8_worksOut_3 : decode cX8_worksOut 3 = .ok (.getfield 9, 3) := by decide +kernel
theorem dX8_worksOut_6 : decode cX8_worksOut 6 = .ok (.bipush 76, 2) := by decide +kernel
theorem dX8_worksOut_8 : decode cX8_worksOut 8 = .ok (.iconst 2, 1) := by decide +kernel
theorem dX8_worksOut_9 : decode cX8_worksOut 9 = .ok (.iload_n 1, 1) := by decide +kernel
theorem dX8_worksOut_10 : decode cX8_worksOut 10 = .ok (.imul, 1) := by decide +kernel
theorem dX8_worksOut_11 : decode cX8_worksOut 11 = .ok (.iadd, 1) := by decide +kernel
theorem dX8_worksOut_12 : decode cX8_worksOut 12 = .ok (.iaload, 1) := by decide +kernel
theorem dX8_worksOut_13 : decode cX8_worksOut 13 = .ok (.sipush 1000, 3) := by decide +kernel
theorem dX8_worksOut_16 : decode cX8_worksOut 16 = .ok (.irem, 1) := by decide +kernel
theorem dX8_worksOut_17 : decode cX8_worksOut 17 = .ok (.istore_n 3, 1) := by decide +kernel
theorem dX8_worksOut_18 : decode cX8_worksOut 18 = .ok (.iconst 0, 1) := by decide +kernel
theorem dX8_worksOut_19 : decode cX8_worksOut 19 = .ok (.istore 4, 2) := by decide +kernel
theorem dX8_worksOut_21 : decode cX8_worksOut 21 = .ok (.iload 4, 2) := by decide +kernel
theorem dX8_worksOut_23 : decode cX8_worksOut 23 = .ok (.iload_n 3, 1) := by decide +kernel
theorem dX8_worksOut_24 : decode cX8_worksOut 24 = .ok (.if_icmp .ge 131, 3) := by decide +kernel
theorem dX8_worksOut_27 : decode cX8_worksOut 27 = .ok (.aload_n 0, 1) := by decide +kernel
theorem dX8_worksOut_28 : decode cX8_worksOut 28 = .ok (.getfield 9, 3) := by decide +kernel
theorem dX8_worksOut_31 : decode cX8_worksOut 31 = .ok (.bipush 104, 2) := by decide +kernel
theorem dX8_worksOut_33 : decode cX8_worksOut 33 = .ok (.bipush 96, 2) := by decide +kernel
theorem dX8_worksOut_35 : decode cX8_worksOut 35 = .ok (.iload_n 1, 1) := by decide +kernel
theorem dX8_worksOut_36 : decode cX8_worksOut 36 = .ok (.imul, 1) := by decide +kernel
theorem dX8_worksOut_37 : decode cX8_worksOut 37 = .ok (.iadd, 1) := by decide +kernel
theorem dX8_worksOut_38 : decode cX8_worksOut 38 = .ok (.iload 4, 2) := by decide +kernel
theorem dX8_worksOut_40 : decode cX8_worksOut 40 = .ok (.iadd, 1) := by decide +kernel
theorem dX8_worksOut_41 : decode cX8_worksOut 41 = .ok (.iaload, 1) := by decide +kernel
theorem dX8_worksOut_42 : decode cX8_worksOut 42 = .ok (.istore 5, 2) := by decide +kernel
theorem dX8_worksOut_44 : decode cX8_worksOut 44 = .ok (.iload 5, 2) := by decide +kernel
theorem dX8_worksOut_46 : decode cX8_worksOut 46 = .ok (.ifCond .lt 39, 3) := by decide +kernel
theorem dX8_worksOut_49 : decode cX8_worksOut 49 = .ok (.aload_n 0, 1) := by decide +kernel
theorem dX8_worksOut_50 : decode cX8_worksOut 50 = .ok (.getfield 58, 3) := by decide +kernel
theorem dX8_worksOut_53 : decode cX8_worksOut 53 = .ok (.iload_n 2, 1) := by decide +kernel
theorem dX8_worksOut_54 : decode cX8_worksOut 54 = .ok (.iload 5, 2) := by decide +kernel
theorem dX8_worksOut_56 : decode cX8_worksOut 56 = .ok (.sipush 10000, 3) := by decide +kernel
theorem dX8_worksOut_59 : decode cX8_worksOut 59 = .ok (.if_icmp .ge 8, 3) := by decide +kernel
theorem dX8_worksOut_62 : decode cX8_worksOut 62 = .ok (.iload 5, 2) := by decide +kernel
theorem dX8_worksOut_64 : decode cX8_worksOut 64 = .ok (.goto 14, 3) := by decide +kernel
theorem dX8_worksOut_67 : decode cX8_worksOut 67 = .ok (.aload_n 0, 1) := by decide +kernel
theorem dX8_worksOut_68 : decode cX8_worksOut 68 = .ok (.getfield 61, 3) := by decide +kernel
theorem dX8_worksOut_71 : decode cX8_worksOut 71 = .ok (.iload 5, 2) := by decide +kernel
theorem dX8_worksOut_73 : decode cX8_worksOut 73 = .ok (.sipush 10000, 3) := by decide +kernel
theorem dX8_worksOut_76 : decode cX8_worksOut 76 = .ok (.isub, 1) := by decide +kernel
theorem dX8_worksOut_77 : decode cX8_worksOut 77 = .ok (.iaload, 1) := by decide +kernel
theorem dX8_worksOut_78 : decode cX8_worksOut 78 = .ok (.iastore, 1) := by decide +kernel
theorem dX8_worksOut_79 : decode cX8_worksOut 79 = .ok (.iinc 2 1, 3) := by decide +kernel
theorem dX8_worksOut_82 : decode cX8_worksOut 82 = .ok (.goto 67, 3) := by decide +kernel
theorem dX8_worksOut_85 : decode cX8_worksOut 85 = .ok (.iload 5, 2) := by decide +kernel
theorem dX8_worksOut_87 : decode cX8_worksOut 87 = .ok (.bipush (-10), 2) := by decide +kernel
theorem dX8_worksOut_89 : decode cX8_worksOut 89 = .ok (.if_icmp .ne 30, 3) := by decide +kernel
theorem dX8_worksOut_92 : decode cX8_worksOut 92 = .ok (.aload_n 0, 1) := by decide +kernel
theorem dX8_worksOut_93 : decode cX8_worksOut 93 = .ok (.getfield 58, 3) := by decide +kernel
theorem dX8_worksOut_96 : decode cX8_worksOut 96 = .ok (.iload_n 2, 1) := by decide +kernel
theorem dX8_worksOut_97 : decode cX8_worksOut 97 = .ok (.iconst 1, 1) := by decide +kernel
theorem dX8_worksOut_98 : decode cX8_worksOut 98 = .ok (.isub, 1) := by decide +kernel
theorem dX8_worksOut_99 : decode cX8_worksOut 99 = .ok (.aload_n 0, 1) := by decide +kernel
theorem dX8_worksOut_100 : decode cX8_worksOut 100 = .ok (.getfield 58, 3) := by decide +kernel
theorem dX8_worksOut_103 : decode cX8_worksOut 103 = .ok (.iload_n 2, 1) := by decide +kernel
theorem dX8_worksOut_104 : decode cX8_worksOut 104 = .ok (.iconst 1, 1) := by decide +kernel
theorem dX8_worksOut_105 : decode cX8_worksOut 105 = .ok (.isub, 1) := by decide +kernel
theorem dX8_worksOut_106 : decode cX8_worksOut 106 = .ok (.iaload, 1) := by decide +kernel
theorem dX8_worksOut_107 : decode cX8_worksOut 107 = .ok (.ifCond .ne 7, 3) := by decide +kernel
theorem dX8_worksOut_110 : decode cX8_worksOut 110 = .ok (.iconst 1, 1) := by decide +kernel
theorem dX8_worksOut_111 : decode cX8_worksOut 111 = .ok (.goto 4, 3) := by decide +kernel
theorem dX8_worksOut_114 : decode cX8_worksOut 114 = .ok (.iconst 0, 1) := by decide +kernel
theorem dX8_worksOut_115 : decode cX8_worksOut 115 = .ok (.iastore, 1) := by decide +kernel
theorem dX8_worksOut_116 : decode cX8_worksOut 116 = .ok (.goto 33, 3) := by decide +kernel
theorem dX8_worksOut_119 : decode cX8_worksOut 119 = .ok (.iinc 2 (-1), 3) := by decide +kernel
theorem dX8_worksOut_122 : decode cX8_worksOut 122 = .ok (.aload_n 0, 1) := by decide +kernel
theorem dX8_worksOut_123 : decode cX8_worksOut 123 = .ok (.getfield 58, 3) := by decide +kernel
theorem dX8_worksOut_126 : decode cX8_worksOut 126 = .ok (.iload_n 2, 1) := by decide +kernel
theorem dX8_worksOut_127 : decode cX8_worksOut 127 = .ok (.iconst 1, 1) := by decide +kernel
theorem dX8_worksOut_128 : decode cX8_worksOut 128 = .ok (.isub, 1) := by decide +kernel
theorem dX8_worksOut_129 : decode cX8_worksOut 129 = .ok (.iload 5, 2) := by decide +kernel
theorem dX8_worksOut_131 : decode cX8_worksOut 131 = .ok (.aload_n 0, 1) := by decide +kernel
theorem dX8_worksOut_132 : decode cX8_worksOut 132 = .ok (.getfield 58, 3) := by decide +kernel
theorem dX8_worksOut_135 : decode cX8_worksOut 135 = .ok (.iload_n 2, 1) := by decide +kernel
theorem dX8_worksOut_136 : decode cX8_worksOut 136 = .ok (.iconst 1, 1) := by decide +kernel
theorem dX8_worksOut_137 : decode cX8_worksOut 137 = .ok (.isub, 1) := by decide +kernel
theorem dX8_worksOut_138 : decode cX8_worksOut 138 = .ok (.iaload, 1) := by decide +kernel
theorem dX8_worksOut_139 : decode cX8_worksOut 139 = .ok (.aload_n 0, 1) := by decide +kernel
theorem dX8_worksOut_140 : decode cX8_worksOut 140 = .ok (.getfield 58, 3) := by decide +kernel
theorem dX8_worksOut_143 : decode cX8_worksOut 143 = .ok (.iload_n 2, 1) := by decide +kernel
theorem dX8_worksOut_144 : decode cX8_worksOut 144 = .ok (.iaload, 1) := by decide +kernel
theorem dX8_worksOut_145 : decode cX8_worksOut 145 = .ok (.invokestatic 279, 3) := by decide +kernel
theorem dX8_worksOut_148 : decode cX8_worksOut 148 = .ok (.iastore, 1) := by decide +kernel
theorem dX8_worksOut_149 : decode cX8_worksOut 149 = .ok (.iinc 4 1, 3) := by decide +kernel
theorem dX8_worksOut_152 : decode cX8_worksOut 152 = .ok (.goto (-131), 3) := by decide +kernel
theorem dX8_worksOut_155 : decode cX8_worksOut 155 = .ok (.aload_n 0, 1) := by decide +kernel
theorem dX8_worksOut_156 : decode cX8_worksOut 156 = .ok (.getfield 58, 3) := by decide +kernel
theorem dX8_worksOut_159 : decode cX8_worksOut 159 = .ok (.iconst 0, 1) := by decide +kernel
theorem dX8_worksOut_160 : decode cX8_worksOut 160 = .ok (.iaload, 1) := by decide +kernel
theorem dX8_worksOut_161 : decode cX8_worksOut 161 = .ok (.ireturn, 1) := by decide +kernel
theorem dX8_isSheet_0 : decode cX8_isSheet 0 = .ok (.iload_n 0, 1) := by decide +kernel
theorem dX8_isSheet_1 : decode cX8_isSheet 1 = .ok (.iconst 0, 1) := by decide +kernel
theorem dX8_isSheet_2 : decode cX8_isSheet 2 = .ok (.iconst 3, 1) := by decide +kernel
theorem dX8_isSheet_3 : decode cX8_isSheet 3 = .ok (.invokestatic 92, 3) := by decide +kernel
theorem dX8_isSheet_6 : decode cX8_isSheet 6 = .ok (.ireturn, 1) := by decide +kernel
theorem dX8_isSlot_0 : decode cX8_isSlot 0 = .ok (.iload_n 0, 1) := by decide +kernel
theorem dX8_isSlot_1 : decode cX8_isSlot 1 = .ok (.iconst 0, 1) := by decide +kernel
theorem dX8_isSlot_2 : decode cX8_isSlot 2 = .ok (.iconst 4, 1) := by decide +kernel
theorem dX8_isSlot_3 : decode cX8_isSlot 3 = .ok (.invokestatic 92, 3) := by decide +kernel
theorem dX8_isSlot_6 : decode cX8_isSlot 6 = .ok (.ireturn, 1) := by decide +kernel
theorem dX8_sheet_0 : decode cX8_sheet 0 = .ok (.iload_n 1, 1) := by decide +kernel
theorem dX8_sheet_1 : decode cX8_sheet 1 = .ok (.invokestatic 210, 3) := by decide +kernel
theorem dX8_sheet_4 : decode cX8_sheet 4 = .ok (.ifCond .eq 22, 3) := by decide +kernel
theorem dX8_sheet_7 : decode cX8_sheet 7 = .ok (.iload_n 2, 1) := by decide +kernel
theorem dX8_sheet_8 : decode cX8_sheet 8 = .ok (.iconst (-1), 1) := by decide +kernel
theorem dX8_sheet_9 : decode cX8_sheet 9 = .ok (.iconst 1, 1) := by decide +kernel
theorem dX8_sheet_10 : decode cX8_sheet 10 = .ok (.invokestatic 92, 3) := by decide +kernel
theorem dX8_sheet_13 : decode cX8_sheet 13 = .ok (.ifCond .eq 13, 3) := by decide +kernel
theorem dX8_sheet_16 : decode cX8_sheet 16 = .ok (.iload_n 2, 1) := by decide +kernel
theorem dX8_sheet_17 : decode cX8_sheet 17 = .ok (.ifCond .lt 12, 3) := by decide +kernel
theorem dX8_sheet_20 : decode cX8_sheet 20 = .ok (.iload_n 3, 1) := by decide +kernel
theorem dX8_sheet_21 : decode cX8_sheet 21 = .ok (.bipush 24, 2) := by decide +kernel
theorem dX8_sheet_23 : decode cX8_sheet 23 = .ok (.if_icmp .le 6, 3) := by decide +kernel
theorem dX8_sheet_26 : decode cX8_sheet 26 = .ok (.ldc 111, 2) := by decide +kernel
theorem dX8_sheet_28 : decode cX8_sheet 28 = .ok (.ireturn, 1) := by decide +kernel
theorem dX8_sheet_29 : decode cX8_sheet 29 = .ok (.iload_n 2, 1) := by decide +kernel
theorem dX8_sheet_30 : decode cX8_sheet 30 = .ok (.ifCond .lt 11, 3) := by decide +kernel
theorem dX8_sheet_33 : decode cX8_sheet 33 = .ok (.iload_n 3, 1) := by decide +kernel
theorem dX8_sheet_34 : decode cX8_sheet 34 = .ok (.ifCond .ge 7, 3) := by decide +kernel
theorem dX8_sheet_37 : decode cX8_sheet 37 = .ok (.ldc_w 282, 3) := by decide +kernel
theorem dX8_sheet_40 : decode cX8_sheet 40 = .ok (.ireturn, 1) := by decide +kernel
theorem dX8_sheet_41 : decode cX8_sheet 41 = .ok (.aload_n 0, 1) := by decide +kernel
theorem dX8_sheet_42 : decode cX8_sheet 42 = .ok (.getfield 64, 3) := by decide +kernel
theorem dX8_sheet_45 : decode cX8_sheet 45 = .ok (.iload_n 1, 1) := by decide +kernel
theorem dX8_sheet_46 : decode cX8_sheet 46 = .ok (.iload_n 2, 1) := by decide +kernel
theorem dX8_sheet_47 : decode cX8_sheet 47 = .ok (.iastore, 1) := by decide +kernel
theorem dX8_sheet_48 : decode cX8_sheet 48 = .ok (.aload_n 0, 1) := by decide +kernel
theorem dX8_sheet_49 : decode cX8_sheet 49 = .ok (.getfield 67, 3) := by decide +kernel
theorem dX8_sheet_52 : decode cX8_sheet 52 = .ok (.iload_n 1, 1) := by decide +kernel
theorem dX8_sheet_53 : decode cX8_sheet 53 = .ok (.iload_n 2, 1) := by decide +kernel
theorem dX8_sheet_54 : decode cX8_sheet 54 = .ok (.ifCond .ge 7, 3) := by decide +kernel
theorem dX8_sheet_57 : decode cX8_sheet 57 = .ok (.iconst 0, 1) := by decide +kernel
theorem dX8_sheet_58 : decode cX8_sheet 58 = .ok (.goto 4, 3) := by decide +kernel
theorem dX8_sheet_61 : decode cX8_sheet 61 = .ok (.iload_n 3, 1) := by decide +kernel
theorem dX8_sheet_62 : decode cX8_sheet 62 = .ok (.iastore, 1) := by decide +kernel
theorem dX8_sheet_63 : decode cX8_sheet 63 = .ok (.iconst 0, 1) := by decide +kernel
theorem dX8_sheet_64 : decode cX8_sheet 64 = .ok (.istore 4, 2) := by decide +kernel
theorem dX8_sheet_66 : decode cX8_sheet 66 = .ok (.iload 4, 2) := by decide +kernel
theorem dX8_sheet_68 : decode cX8_sheet 68 = .ok (.bipush 24, 2) := by decide +kernel
theorem dX8_sheet_70 : decode cX8_sheet 70 = .ok (.if_icmp .ge 22, 3) := by decide +kernel
theorem dX8_sheet_73 : decode cX8_sheet 73 = .ok (.aload_n 0, 1) := by decide +kernel
theorem dX8_sheet_74 : decode cX8_sheet 74 = .ok (.getfield 70, 3) := by decide +kernel
theorem dX8_sheet_77 : decode cX8_sheet 77 = .ok (.bipush 24, 2) := by decide +kernel
theorem dX8_sheet_79 : decode cX8_sheet 79 = .ok (.iload_n 1, 1) := by decide +kernel
theorem dX8_sheet_80 : decode cX8_sheet 80 = .ok (.imul, 1) := by decide +kernel
theorem dX8_sheet_81 : decode cX8_sheet 81 = .ok (.iload 4, 2) := by decide +kernel
theorem dX8_sheet_83 : decode cX8_sheet 83 = .ok (.iadd, 1) := by decide +kernel
theorem dX8_sheet_84 : decode cX8_sheet 84 = .ok (.iconst 0, 1) := by decide +kernel
theorem dX8_sheet_85 : decode cX8_sheet 85 = .ok (.iastore, 1) := by decide +kernel
theorem dX8_sheet_86 : decode cX8_sheet 86 = .ok (.iinc 4 1, 3) := by decide +kernel
theorem dX8_sheet_89 : decode cX8_sheet 89 = .ok (.goto (-23), 3) := by decide +kernel
theorem dX8_sheet_92 : decode cX8_sheet 92 = .ok (.aload_n 0, 1) := by decide +kernel
theorem dX8_sheet_93 : decode cX8_sheet 93 = .ok (.getfield 67, 3) := by decide +kernel
theorem dX8_sheet_96 : decode cX8_sheet 96 = .ok (.iload_n 1, 1) := by decide +kernel
theorem dX8_sheet_97 : decode cX8_sheet 97 = .ok (.iaload, 1) := by decide +kernel
theorem dX8_sheet_98 : decode cX8_sheet 98 = .ok (.ireturn, 1) := by decide +kernel
theorem dX8_mark_0 : decode cX8_mark 0 = .ok (.iload_n 1, 1) := by decide +kernel
theorem dX8_mark_1 : decode cX8_mark 1 = .ok (.invokestatic 210, 3) := by decide +kernel
theorem dX8_mark_4 : decode cX8_mark 4 = .ok (.ifCond .ne 6, 3) := by decide +kernel
theorem dX8_mark_7 : decode cX8_mark 7 = .ok (.ldc 111, 2) := by decide +kernel
theorem dX8_mark_9 : decode cX8_mark 9 = .ok (.ireturn, 1) := by decide +kernel
theorem dX8_mark_10 : decode cX8_mark 10 = .ok (.aload_n 0, 1) := by decide +kernel
theorem dX8_mark_11 : decode cX8_mark 11 = .ok (.getfield 64, 3) := by decide +kernel
theorem dX8_mark_14 : decode cX8_mark 14 = .ok (.iload_n 1, 1) := by decide +kernel
theorem dX8_mark_15 : decode cX8_mark 15 = .ok (.iaload, 1) := by decide +kernel
theorem dX8_mark_16 : decode cX8_mark 16 = .ok (.ifCond .ge 6, 3) := by decide +kernel
theorem dX8_mark_19 : decode cX8_mark 19 = .ok (.ldc 213, 2) := by decide +kernel
theorem dX8_mark_21 : decode cX8_mark 21 = .ok (.ireturn, 1) := by decide +kernel
theorem dX8_mark_22 : decode cX8_mark 22 = .ok (.iload_n 2, 1) := by decide +kernel
theorem dX8_mark_23 : decode cX8_mark 23 = .ok (.iconst 0, 1) := by decide +kernel
theorem dX8_mark_24 : decode cX8_mark 24 = .ok (.aload_n 0, 1) := by decide +kernel
theorem dX8_mark_25 : decode cX8_mark 25 = .ok (.getfield 67, 3) := by decide +kernel
theorem dX8_mark_28 : decode cX8_mark 28 = .ok (.iload_n 1, 1) := by decide +kernel
theorem dX8_mark_29 : decode cX8_mark 29 = .ok (.iaload, 1) := by decide +kernel
theorem dX8_mark_30 : decode cX8_mark 30 = .ok (.iconst 1, 1) := by decide +kernel
theorem dX8_mark_31 : decode cX8_mark 31 = .ok (.isub, 1) := by decide +kernel
theorem dX8_mark_32 : decode cX8_mark 32 = .ok (.invokestatic 92, 3) := by decide +kernel
theorem dX8_mark_35 : decode cX8_mark 35 = .ok (.ifCond .ne 7, 3) := by decide +kernel
theorem dX8_mark_38 : decode cX8_mark 38 = .ok (.ldc_w 283, 3) := by decide +kernel
theorem dX8_mark_41 : decode cX8_mark 41 = .ok (.ireturn, 1) := by decide +kernel
theorem dX8_mark_42 : decode cX8_mark 42 = .ok (.aload_n 0, 1) := by decide +kernel
theorem dX8_mark_43 : decode cX8_mark 43 = .ok (.getfield 64, 3) := by decide +kernel
theorem dX8_mark_46 : decode cX8_mark 46 = .ok (.iload_n 1, 1) := by decide +kernel
theorem dX8_mark_47 : decode cX8_mark 47 = .ok (.iaload, 1) := by decide +kernel
theorem dX8_mark_48 : decode cX8_mark 48 = .ok (.ifCond .ne 12, 3) := by decide +kernel
theorem dX8_mark_51 : decode cX8_mark 51 = .ok (.iload_n 3, 1) := by decide +kernel
theorem dX8_mark_52 : decode cX8_mark 52 = .ok (.ldc 91, 2) := by decide +kernel
theorem dX8_mark_54 : decode cX8_mark 54 = .ok (.if_icmp .ne 6, 3) := by decide +kernel
theorem dX8_mark_57 : decode cX8_mark 57 = .ok (.ldc 132, 2) := by decide +kernel
theorem dX8_mark_59 : decode cX8_mark 59 = .ok (.ireturn, 1) := by decide +kernel
theorem dX8_mark_60 : decode cX8_mark 60 = .ok (.aload_n 0, 1) := by decide +kernel
theorem dX8_mark_61 : decode cX8_mark 61 = .ok (.getfield 64, 3) := by decide +kernel
theorem dX8_mark_64 : decode cX8_mark 64 = .ok (.iload_n 1, 1) := by decide +kernel
theorem dX8_mark_65 : decode cX8_mark 65 = .ok (.iaload, 1) := by decide +kernel
theorem dX8_mark_66 : decode cX8_mark 66 = .ok (.iconst 1, 1) := by decide +kernel
theorem dX8_mark_67 : decode cX8_mark 67 = .ok (.if_icmp .ne 25, 3) := by decide +kernel
theorem dX8_mark_70 : decode cX8_mark 70 = .ok (.iload_n 3, 1) := by decide +kernel
theorem dX8_mark_71 : decode cX8_mark 71 = .ok (.ldc 91, 2) := by decide +kernel
theorem dX8_mark_73 : decode cX8_mark 73 = .ok (.if_icmp .eq 19, 3) := by decide +kernel
theorem dX8_mark_76 : decode cX8_mark 76 = .ok (.iload_n 3, 1) := by decide +kernel
theorem dX8_mark_77 : decode cX8_mark 77 = .ok (.ldc_w 284, 3) := by decide +kernel
theorem dX8_mark_80 : decode cX8_mark 80 = .ok (.ldc_w 285, 3) := by decide +kernel
theorem dX8_mark_83 : decode cX8_mark 83 = .ok (.invokestatic 92, 3) := by decide +kernel
theorem dX8_mark_86 : decode cX8_mark 86 = .ok (.ifCond .ne 6, 3) := by decide +kernel
theorem dX8_mark_89 : decode cX8_mark 89 = .ok (.ldc 111, 2) := by decide +kernel
theorem dX8_mark_91 : decode cX8_mark 91 = .ok (.ireturn, 1) := by decide +kernel
theorem dX8_mark_92 : decode cX8_mark 92 = .ok (.aload_n 0, 1) := by decide +kernel
theorem dX8_mark_93 : decode cX8_mark 93 = .ok (.getfield 70, 3) := by decide +kernel
theorem dX8_mark_96 : decode cX8_mark 96 = .ok (.bipush 24, 2) := by decide +kernel
theorem dX8_mark_98 : decode cX8_mark 98 = .ok (.iload_n 1, 1) := by decide +kernel
theorem dX8_mark_99 : decode cX8_mark 99 = .ok (.imul, 1) := by decide +kernel
theorem dX8_mark_100 : decode cX8_mark 100 = .ok (.iload_n 2, 1) := by decide +kernel
theorem dX8_mark_101 : decode cX8_mark 101 = .ok (.iadd, 1) := by decide +kernel
theorem dX8_mark_102 : decode cX8_mark 102 = .ok (.aload_n 0, 1) := by decide +kernel
theorem dX8_mark_103 : decode cX8_mark 103 = .ok (.getfield 64, 3) := by decide +kernel
theorem dX8_mark_106 : decode cX8_mark 106 = .ok (.iload_n 1, 1) := by decide +kernel
theorem dX8_mark_107 : decode cX8_mark 107 = .ok (.iaload, 1) := by decide +kernel
theorem dX8_mark_108 : decode cX8_mark 108 = .ok (.ifCond .ne 8, 3) := by decide +kernel
theorem dX8_mark_111 : decode cX8_mark 111 = .ok (.iload_n 3, 1) := by decide +kernel
theorem dX8_mark_112 : decode cX8_mark 112 = .ok (.i2s, 1) := by decide +kernel
theorem dX8_mark_113 : decode cX8_mark 113 = .ok (.goto 4, 3) := by decide +kernel
theorem dX8_mark_116 : decode cX8_mark 116 = .ok (.iload_n 3, 1) := by decide +kernel
theorem dX8_mark_117 : decode cX8_mark 117 = .ok (.iastore, 1) := by decide +kernel
theorem dX8_mark_118 : decode cX8_mark 118 = .ok (.iconst 1, 1) := by decide +kernel
theorem dX8_mark_119 : decode cX8_mark 119 = .ok (.ireturn, 1) := by decide +kernel
theorem dX8_pour_0 : decode cX8_pour 0 = .ok (.iload_n 1, 1) := by decide +kernel
theorem dX8_pour_1 : decode cX8_pour 1 = .ok (.invokestatic 210, 3) := by decide +kernel
theorem dX8_pour_4 : decode cX8_pour 4 = .ok (.ifCond .ne 6, 3) := by decide +kernel
theorem dX8_pour_7 : decode cX8_pour 7 = .ok (.ldc 111, 2) := by decide +kernel
theorem dX8_pour_9 : decode cX8_pour 9 = .ok (.ireturn, 1) := by decide +kernel
theorem dX8_pour_10 : decode cX8_pour 10 = .ok (.aload_n 0, 1) := by decide +kernel
theorem dX8_pour_11 : decode cX8_pour 11 = .ok (.getfield 64, 3) := by decide +kernel
theorem dX8_pour_14 : decode cX8_pour 14 = .ok (.iload_n 1, 1) := by decide +kernel
theorem dX8_pour_15 : decode cX8_pour 15 = .ok (.iaload, 1) := by decide +kernel
theorem dX8_pour_16 : decode cX8_pour 16 = .ok (.ifCond .ge 6, 3) := by decide +kernel
theorem dX8_pour_19 : decode cX8_pour 19 = .ok (.ldc 213, 2) := by decide +kernel
theorem dX8_pour_21 : decode cX8_pour 21 = .ok (.ireturn, 1) := by decide +kernel
theorem dX8_pour_22 : decode cX8_pour 22 = .ok (.iconst 0, 1) := by decide +kernel
theorem dX8_pour_23 : decode cX8_pour 23 = .ok (.istore_n 2, 1) := by decide +kernel
theorem dX8_pour_24 : decode cX8_pour 24 = .ok (.iconst 0, 1) := by decide +kernel
theorem dX8_pour_25 : decode cX8_pour 25 = .ok (.istore_n 3, 1) := by decide +kernel
theorem dX8_pour_26 : decode cX8_pour 26 = .ok (.iload_n 3, 1) := by decide +kernel
theorem dX8_pour_27 : decode cX8_pour 27 = .ok (.aload_n 0, 1) := by decide +kernel
theorem dX8_pour_28 : decode cX8_pour 28 = .ok (.getfield 67, 3) := by decide +kernel
theorem dX8_pour_31 : decode cX8_pour 31 = .ok (.iload_n 1, 1) := by decide +kernel
theorem dX8_pour_32 : decode cX8_pour 32 = .ok (.iaload, 1) := by decide +kernel
theorem dX8_pour_33 : decode cX8_pour 33 = .ok (.if_icmp .ge 85, 3) := by decide +kernel
theorem dX8_pour_36 : decode cX8_pour 36 = .ok (.iload_n 3, 1) := by decide +kernel
theorem dX8_pour_37 : decode cX8_pour 37 = .ok (.aload_n 0, 1) := by decide +kernel
theorem dX8_pour_38 : decode cX8_pour 38 = .ok (.getfield 9, 3) := by decide +kernel
theorem dX8_pour_41 : decode cX8_pour 41 = .ok (.iconst 1, 1) := by decide +kernel
theorem dX8_pour_42 : decode cX8_pour 42 = .ok (.iaload, 1) := by decide +kernel
theorem dX8_pour_43 : decode cX8_pour 43 = .ok (.if_icmp .ge 75, 3) := by decide +kernel
theorem dX8_pour_46 : decode cX8_pour 46 = .ok (.aload_n 0, 1) := by decide +kernel
theorem dX8_pour_47 : decode cX8_pour 47 = .ok (.getfield 70, 3) := by decide +kernel
theorem dX8_pour_50 : decode cX8_pour 50 = .ok (.bipush 24, 2) := by decide +kernel
theorem dX8_pour_52 : decode cX8_pour 52 = .ok (.iload_n 1, 1) := by decide +kernel
theorem dX8_pour_53 : decode cX8_pour 53 = .ok (.imul, 1) := by decide +kernel
theorem dX8_pour_54 : decode cX8_pour 54 = .ok (.iload_n 3, 1) := by decide +kernel
theorem dX8_pour_55 : decode cX8_pour 55 = .ok (.iadd, 1) := by decide +kernel
theorem dX8_pour_56 : decode cX8_pour 56 = .ok (.iaload, 1) := by decide +kernel
theorem dX8_pour_57 : decode cX8_pour 57 = .ok (.istore 4, 2) := by decide +kernel
theorem dX8_pour_59 : decode cX8_pour 59 = .ok (.iload 4, 2) := by decide +kernel
theorem dX8_pour_61 : decode cX8_pour 61 = .ok (.ldc 91, 2) := by decide +kernel
theorem dX8_pour_63 : decode cX8_pour 63 = .ok (.if_icmp .ne 12, 3) := by decide +kernel
theorem dX8_pour_66 : decode cX8_pour 66 = .ok (.aload_n 0, 1) := by decide +kernel
theorem dX8_pour_67 : decode cX8_pour 67 = .ok (.iload_n 3, 1) := by decide +kernel
theorem dX8_pour_68 : decode cX8_pour 68 = .ok (.iconst 2, 1) := by decide +kernel
theorem dX8_pour_69 : decode cX8_pour 69 = .ok (.invokevirtual 117, 3) := by decide +kernel
theorem dX8_pour_72 : decode cX8_pour 72 = .ok (.goto 11, 3) := by decide +kernel
theorem dX8_pour_75 : decode cX8_pour 75 = .ok (.iload 4, 2) := by decide +kernel
theorem dX8_pour_77 : decode cX8_pour 77 = .ok (.iconst 0, 1) := by decide +kernel
theorem dX8_pour_78 : decode cX8_pour 78 = .ok (.bipush 99, 2) := by decide +kernel
theorem dX8_pour_80 : decode cX8_pour 80 = .ok (.invokestatic 142, 3) := by decide +kernel
theorem dX8_pour_83 : decode cX8_pour 83 = .ok (.istore 5, 2) := by decide +kernel
theorem dX8_pour_85 : decode cX8_pour 85 = .ok (.iload_n 2, 1) := by decide +kernel
theorem dX8_pour_86 : decode cX8_pour 86 = .ok (.aload_n 0, 1) := by decide +kernel
theorem dX8_pour_87 : decode cX8_pour 87 = .ok (.bipush 21, 2) := by decide +kernel
theorem dX8_pour_89 : decode cX8_pour 89 = .ok (.iconst 5, 1) := by decide +kernel
theorem dX8_pour_90 : decode cX8_pour 90 = .ok (.iload_n 3, 1) := by decide +kernel
theorem dX8_pour_91 : decode cX8_pour 91 = .ok (.imul, 1) := by decide +kernel
theorem dX8_pour_92 : decode cX8_pour 92 = .ok (.iadd, 1) := by decide +kernel
theorem dX8_pour_93 : decode cX8_pour 93 = .ok (.iconst 2, 1) := by decide +kernel
theorem dX8_pour_94 : decode cX8_pour 94 = .ok (.iadd, 1) := by decide +kernel
theorem dX8_pour_95 : decode cX8_pour 95 = .ok (.iload 5, 2) := by decide +kernel
theorem dX8_pour_97 : decode cX8_pour 97 = .ok (.invokevirtual 133, 3) := by decide +kernel
theorem dX8_pour_100 : decode cX8_pour 100 = .ok (.iload 5, 2) := by decide +kernel
theorem dX8_pour_102 : decode cX8_pour 102 = .ok (.if_icmp .ne 7, 3) := by decide +kernel
theorem dX8_pour_105 : decode cX8_pour 105 = .ok (.iconst 0, 1) := by decide +kernel
theorem dX8_pour_106 : decode cX8_pour 106 = .ok (.goto 4, 3) := by decide +kernel
theorem dX8_pour_109 : decode cX8_pour 109 = .ok (.iconst 1, 1) := by decide +kernel
theorem dX8_pour_110 : decode cX8_pour 110 = .ok (.iadd, 1) := by decide +kernel
theorem dX8_pour_111 : decode cX8_pour 111 = .ok (.istore_n 2, 1) := by decide +kernel
theorem dX8_pour_112 : decode cX8_pour 112 = .ok (.iinc 3 1, 3) := by decide +kernel
theorem dX8_pour_115 : decode cX8_pour 115 = .ok (.goto (-89), 3) := by decide +kernel
theorem dX8_pour_118 : decode cX8_pour 118 = .ok (.iload_n 2, 1) := by decide +kernel
theorem dX8_pour_119 : decode cX8_pour 119 = .ok (.ireturn, 1) := by decide +kernel
theorem dX8_reads_0 : decode cX8_reads 0 = .ok (.iload_n 1, 1) := by decide +kernel
theorem dX8_reads_1 : decode cX8_reads 1 = .ok (.invokestatic 210, 3) := by decide +kernel
theorem dX8_reads_4 : decode cX8_reads 4 = .ok (.ifCond .ne 6, 3) := by decide +kernel
theorem dX8_reads_7 : decode cX8_reads 7 = .ok (.ldc 111, 2) := by decide +kernel
theorem dX8_reads_9 : decode cX8_reads 9 = .ok (.ireturn, 1) := by decide +kernel
theorem dX8_reads_10 : decode cX8_reads 10 = .ok (.aload_n 0, 1) := by decide +kernel
theorem dX8_reads_11 : decode cX8_reads 11 = .ok (.getfield 64, 3) := by decide +kernel
theorem dX8_reads_14 : decode cX8_reads 14 = .ok (.iload_n 1, 1) := by decide +kernel
theorem dX8_reads_15 : decode cX8_reads 15 = .ok (.iaload, 1) := by decide +kernel
theorem dX8_reads_16 : decode cX8_reads 16 = .ok (.ifCond .ge 6, 3) := by decide +kernel
theorem dX8_reads_19 : decode cX8_reads 19 = .ok (.ldc 213, 2) := by decide +kernel
theorem dX8_reads_21 : decode cX8_reads 21 = .ok (.ireturn, 1) := by decide +kernel
theorem dX8_reads_22 : decode cX8_reads 22 = .ok (.iconst 0, 1) := by decide +kernel
theorem dX8_reads_23 : decode cX8_reads 23 = .ok (.istore_n 2, 1) := by decide +kernel
theorem dX8_reads_24 : decode cX8_reads 24 = .ok (.iload_n 2, 1) := by decide +kernel
theorem dX8_reads_25 : decode cX8_reads 25 = .ok (.aload_n 0, 1) := by decide +kernel
theorem dX8_reads_26 : decode cX8_reads 26 = .ok (.getfield 67, 3) := by decide +kernel
theorem dX8_reads_29 : decode cX8_reads 29 = .ok (.iload_n 1, 1) := by decide +kernel
theorem dX8_reads_30 : decode cX8_reads 30 = .ok (.iaload, 1) := by decide +kernel
theorem dX8_reads_31 : decode cX8_reads 31 = .ok (.if_icmp .ge 47, 3) := by decide +kernel
theorem dX8_reads_34 : decode cX8_reads 34 = .ok (.aload_n 0, 1) := by decide +kernel
theorem dX8_reads_35 : decode cX8_reads 35 = .ok (.getfield 70, 3) := by decide +kernel
theorem dX8_reads_38 : decode cX8_reads 38 = .ok (.bipush 24, 2) := by decide +kernel
theorem dX8_reads_40 : decode cX8_reads 40 = .ok (.iload_n 1, 1) := by decide +kernel
theorem dX8_reads_41 : decode cX8_reads 41 = .ok (.imul, 1) := by decide +kernel
theorem dX8_reads_42 : decode cX8_reads 42 = .ok (.iload_n 2, 1) := by decide +kernel
theorem dX8_reads_43 : decode cX8_reads 43 = .ok (.iadd, 1) := by decide +kernel
theorem dX8_reads_44 : decode cX8_reads 44 = .ok (.iaload, 1) := by decide +kernel
theorem dX8_reads_45 : decode cX8_reads 45 = .ok (.istore_n 3, 1) := by decide +kernel
theorem dX8_reads_46 : decode cX8_reads 46 = .ok (.iload_n 3, 1) := by decide +kernel
theorem dX8_reads_47 : decode cX8_reads 47 = .ok (.ldc 91, 2) := by decide +kernel
theorem dX8_reads_49 : decode cX8_reads 49 = .ok (.if_icmp .eq 23, 3) := by decide +kernel
theorem dX8_reads_52 : decode cX8_reads 52 = .ok (.aload_n 0, 1) := by decide +kernel
theorem dX8_reads_53 : decode cX8_reads 53 = .ok (.iload_n 2, 1) := by decide +kernel
theorem dX8_reads_54 : decode cX8_reads 54 = .ok (.invokevirtual 121, 3) := by decide +kernel
theorem dX8_reads_57 : decode cX8_reads 57 = .ok (.ifCond .eq 13, 3) := by decide +kernel
theorem dX8_reads_60 : decode cX8_reads 60 = .ok (.iload_n 3, 1) := by decide +kernel
theorem dX8_reads_61 : decode cX8_reads 61 = .ok (.aload_n 0, 1) := by decide +kernel
theorem dX8_reads_62 : decode cX8_reads 62 = .ok (.iload_n 2, 1) := by decide +kernel
theorem dX8_reads_63 : decode cX8_reads 63 = .ok (.iconst 2, 1) := by decide +kernel
theorem dX8_reads_64 : decode cX8_reads 64 = .ok (.invokevirtual 117, 3) := by decide +kernel
theorem dX8_reads_67 : decode cX8_reads 67 = .ok (.if_icmp .eq 5, 3) := by decide +kernel
theorem dX8_reads_70 : decode cX8_reads 70 = .ok (.iload_n 2, 1) := by decide +kernel
theorem dX8_reads_71 : decode cX8_reads 71 = .ok (.ireturn, 1) := by decide +kernel
theorem dX8_reads_72 : decode cX8_reads 72 = .ok (.iinc 2 1, 3) := by decide +kernel
theorem dX8_reads_75 : decode cX8_reads 75 = .ok (.goto (-51), 3) := by decide +kernel
theorem dX8_reads_78 : decode cX8_reads 78 = .ok (.ldc 91, 2) := by decide +kernel
theorem dX8_reads_80 : decode cX8_reads 80 = .ok (.ireturn, 1) := by decide +kernel
theorem dX8_copy_0 : decode cX8_copy 0 = .ok (.iload_n 1, 1) := by decide +kernel
theorem dX8_copy_1 : decode cX8_copy 1 = .ok (.invokestatic 210, 3) := by decide +kernel
theorem dX8_copy_4 : decode cX8_copy 4 = .ok (.ifCond .eq 10, 3) := by decide +kernel
theorem dX8_copy_7 : decode cX8_copy 7 = .ok (.iload_n 3, 1) := by decide +kernel
theorem dX8_copy_8 : decode cX8_copy 8 = .ok (.invokestatic 210, 3) := by decide +kernel
theorem dX8_copy_11 : decode cX8_copy 11 = .ok (.ifCond .ne 6, 3) := by decide +kernel
theorem dX8_copy_14 : decode cX8_copy 14 = .ok (.ldc 111, 2) := by decide +kernel
theorem dX8_copy_16 : decode cX8_copy 16 = .ok (.ireturn, 1) := by decide +kernel
theorem dX8_copy_17 : decode cX8_copy 17 = .ok (.aload_n 0, 1) := by decide +kernel
theorem dX8_copy_18 : decode cX8_copy 18 = .ok (.getfield 64, 3) := by decide +kernel
theorem dX8_copy_21 : decode cX8_copy 21 = .ok (.iload_n 1, 1) := by decide +kernel
theorem dX8_copy_22 : decode cX8_copy 22 = .ok (.iaload, 1) := by decide +kernel
theorem dX8_copy_23 : decode cX8_copy 23 = .ok (.ifCond .lt 12, 3) := by decide +kernel
theorem dX8_copy_26 : decode cX8_copy 26 = .ok (.aload_n 0, 1) := by decide +kernel
theorem dX8_copy_27 : decode cX8_copy 27 = .ok (.getfield 64, 3) := by decide +kernel
theorem dX8_copy_30 : decode cX8_copy 30 = .ok (.iload_n 3, 1) := by decide +kernel
theorem dX8_copy_31 : decode cX8_copy 31 = .ok (.iaload, 1) := by decide +kernel
theorem dX8_copy_32 : decode cX8_copy 32 = .ok (.ifCond .ge 6, 3) := by decide +kernel
theorem dX8_copy_35 : decode cX8_copy 35 = .ok (.ldc 213, 2) := by decide +kernel
theorem dX8_copy_37 : decode cX8_copy 37 = .ok (.ireturn, 1) := by decide +kernel
theorem dX8_copy_38 : decode cX8_copy 38 = .ok (.aload_n 0, 1) := by decide +kernel
theorem dX8_copy_39 : decode cX8_copy 39 = .ok (.getfield 64, 3) := by decide +kernel
theorem dX8_copy_42 : decode cX8_copy 42 = .ok (.iload_n 1, 1) := by decide +kernel
theorem dX8_copy_43 : decode cX8_copy 43 = .ok (.iaload, 1) := by decide +kernel
theorem dX8_copy_44 : decode cX8_copy 44 = .ok (.aload_n 0, 1) := by decide +kernel
theorem dX8_copy_45 : decode cX8_copy 45 = .ok (.getfield 64, 3) := by decide +kernel
theorem dX8_copy_48 : decode cX8_copy 48 = .ok (.iload_n 3, 1) := by decide +kernel
theorem dX8_copy_49 : decode cX8_copy 49 = .ok (.iaload, 1) := by decide +kernel
theorem dX8_copy_50 : decode cX8_copy 50 = .ok (.if_icmp .eq 6, 3) := by decide +kernel
theorem dX8_copy_53 : decode cX8_copy 53 = .ok (.ldc 132, 2) := by decide +kernel
theorem dX8_copy_55 : decode cX8_copy 55 = .ok (.ireturn, 1) := by decide +kernel
theorem dX8_copy_56 : decode cX8_copy 56 = .ok (.iload_n 2, 1) := by decide +kernel
theorem dX8_copy_57 : decode cX8_copy 57 = .ok (.ifCond .lt 40, 3) := by decide +kernel
theorem dX8_copy_60 : decode cX8_copy 60 = .ok (.iload 4, 2) := by decide +kernel
theorem dX8_copy_62 : decode cX8_copy 62 = .ok (.ifCond .lt 35, 3) := by decide +kernel
theorem dX8_copy_65 : decode cX8_copy 65 = .ok (.iload 5, 2) := by decide +kernel
theorem dX8_copy_67 : decode cX8_copy 67 = .ok (.ifCond .lt 30, 3) := by decide +kernel
theorem dX8_copy_70 : decode cX8_copy 70 = .ok (.iload_n 2, 1) := by decide +kernel
theorem dX8_copy_71 : decode cX8_copy 71 = .ok (.aload_n 0, 1) := by decide +kernel
theorem dX8_copy_72 : decode cX8_copy 72 = .ok (.getfield 67, 3) := by decide +kernel
theorem dX8_copy_75 : decode cX8_copy 75 = .ok (.iload_n 1, 1) := by decide +kernel
theorem dX8_copy_76 : decode cX8_copy 76 = .ok (.iaload, 1) := by decide +kernel
theorem dX8_copy_77 : decode cX8_copy 77 = .ok (.iload 5, 2) := by decide +kernel
theorem dX8_copy_79 : decode cX8_copy 79 = .ok (.isub, 1) := by decide +kernel
theorem dX8_copy_80 : decode cX8_copy 80 = .ok (.if_icmp .gt 17, 3) := by decide +kernel
theorem dX8_copy_83 : decode cX8_copy 83 = .ok (.iload 4, 2) := by decide +kernel
theorem dX8_copy_85 : decode cX8_copy 85 = .ok (.aload_n 0, 1) := by decide +kernel
theorem dX8_copy_86 : decode cX8_copy 86 = .ok (.getfield 67, 3) := by decide +kernel
theorem dX8_copy_89 : decode cX8_copy 89 = .ok (.iload_n 3, 1) := by decide +kernel
theorem dX8_copy_90 : decode cX8_copy 90 = .ok (.iaload, 1) := by decide +kernel
theorem dX8_copy_91 : decode cX8_copy 91 = .ok (.iload 5, 2) := by decide +kernel
theorem dX8_copy_93 : decode cX8_copy 93 = .ok (.isub, 1) := by decide +kernel
theorem dX8_copy_94 : decode cX8_copy 94 = .ok (.if_icmp .le 7, 3) := by decide +kernel
theorem dX8_copy_97 : decode cX8_copy 97 = .ok (.ldc_w 283, 3) := by decide +kernel
theorem dX8_copy_100 : decode cX8_copy 100 = .ok (.ireturn, 1) := by decide +kernel
theorem dX8_copy_101 : decode cX8_copy 101 = .ok (.iconst 0, 1) := by decide +kernel
theorem dX8_copy_102 : decode cX8_copy 102 = .ok (.istore 6, 2) := by decide +kernel
theorem dX8_copy_104 : decode cX8_copy 104 = .ok (.iload 6, 2) := by decide +kernel
theorem dX8_copy_106 : decode cX8_copy 106 = .ok (.iload 5, 2) := by decide +kernel
theorem dX8_copy_108 : decode cX8_copy 108 = .ok (.if_icmp .ge 30, 3) := by decide +kernel
theorem dX8_copy_111 : decode cX8_copy 111 = .ok (.aload_n 0, 1) := by decide +kernel
theorem dX8_copy_112 : decode cX8_copy 112 = .ok (.getfield 85, 3) := by decide +kernel
theorem dX8_copy_115 : decode cX8_copy 115 = .ok (.iload 6, 2) := by decide +kernel
theorem dX8_copy_117 : decode cX8_copy 117 = .ok (.aload_n 0, 1) := by decide +kernel
theorem dX8_copy_118 : decode cX8_copy 118 = .ok (.getfield 70, 3) := by decide +kernel
theorem dX8_copy_121 : decode cX8_copy 121 = .ok (.bipush 24, 2) := by decide +kernel
theorem dX8_copy_123 : decode cX8_copy 123 = .ok (.iload_n 1, 1) := by decide +kernel
theorem dX8_copy_124 : decode cX8_copy 124 = .ok (.imul, 1) := by decide +kernel
theorem dX8_copy_125 : decode cX8_copy 125 = .ok (.iload_n 2, 1) := by decide +kernel
theorem dX8_copy_126 : decode cX8_copy 126 = .ok (.iadd, 1) := by decide +kernel
theorem dX8_copy_127 : decode cX8_copy 127 = .ok (.iload 6, 2) := by decide +kernel
theorem dX8_copy_129 : decode cX8_copy 129 = .ok (.iadd, 1) := by decide +kernel
theorem dX8_copy_130 : decode cX8_copy 130 = .ok (.iaload, 1) := by decide +kernel
theorem dX8_copy_131 : decode cX8_copy 131 = .ok (.iastore, 1) := by decide +kernel
theorem dX8_copy_132 : decode cX8_copy 132 = .ok (.iinc 6 1, 3) := by decide +kernel
theorem dX8_copy_135 : decode cX8_copy 135 = .ok (.goto (-31), 3) := by decide +kernel
theorem dX8_copy_138 : decode cX8_copy 138 = .ok (.iconst 0, 1) := by decide +kernel
theorem dX8_copy_139 : decode cX8_copy 139 = .ok (.istore 6, 2) := by decide +kernel
theorem dX8_copy_141 : decode cX8_copy 141 = .ok (.iload 6, 2) := by decide +kernel
theorem dX8_copy_143 : decode cX8_copy 143 = .ok (.iload 5, 2) := by decide +kernel
theorem dX8_copy_145 : decode cX8_copy 145 = .ok (.if_icmp .ge 31, 3) := by decide +kernel
theorem dX8_copy_148 : decode cX8_copy 148 = .ok (.aload_n 0, 1) := by decide +kernel
theorem dX8_copy_149 : decode cX8_copy 149 = .ok (.getfield 70, 3) := by decide +kernel
theorem dX8_copy_152 : decode cX8_copy 152 = .ok (.bipush 24, 2) := by decide +kernel
theorem dX8_copy_154 : decode cX8_copy 154 = .ok (.iload_n 3, 1) := by decide +kernel
theorem dX8_copy_155 : decode cX8_copy 155 = .ok (.imul, 1) := by decide +kernel
theorem dX8_copy_156 : decode cX8_copy 156 = .ok (.iload 4, 2) := by decide +kernel
theorem dX8_copy_158 : decode cX8_copy 158 = .ok (.iadd, 1) := by decide +kernel
theorem dX8_copy_159 : decode cX8_copy 159 = .ok (.iload 6, 2) := by decide +kernel
theorem dX8_copy_161 : decode cX8_copy 161 = .ok (.iadd, 1) := by decide +kernel
theorem dX8_copy_162 : decode cX8_copy 162 = .ok (.aload_n 0, 1) := by decide +kernel
theorem dX8_copy_163 : decode cX8_copy 163 = .ok (.getfield 85, 3) := by decide +kernel
theorem dX8_copy_166 : decode cX8_copy 166 = .ok (.iload 6, 2) := by decide +kernel
theorem dX8_copy_168 : decode cX8_copy 168 = .ok (.iaload, 1) := by decide +kernel
theorem dX8_copy_169 : decode cX8_copy 169 = .ok (.iastore, 1) := by decide +kernel
theorem dX8_copy_170 : decode cX8_copy 170 = .ok (.iinc 6 1, 3) := by decide +kernel
theorem dX8_copy_173 : decode cX8_copy 173 = .ok (.goto (-32), 3) := by decide +kernel
theorem dX8_copy_176 : decode cX8_copy 176 = .ok (.iload 5, 2) := by decide +kernel
theorem dX8_copy_178 : decode cX8_copy 178 = .ok (.ireturn, 1) := by decide +kernel
theorem dX8_lay_0 : decode cX8_lay 0 = .ok (.iload_n 1, 1) := by decide +kernel
theorem dX8_lay_1 : decode cX8_lay 1 = .ok (.invokestatic 286, 3) := by decide +kernel
theorem dX8_lay_4 : decode cX8_lay 4 = .ok (.ifCond .eq 37, 3) := by decide +kernel
theorem dX8_lay_7 : decode cX8_lay 7 = .ok (.iload_n 2, 1) := by decide +kernel
theorem dX8_lay_8 : decode cX8_lay 8 = .ok (.iconst 0, 1) := by decide +kernel
theorem dX8_lay_9 : decode cX8_lay 9 = .ok (.iconst 3, 1) := by decide +kernel
theorem dX8_lay_10 : decode cX8_lay 10 = .ok (.invokestatic 92, 3) := by decide +kernel
theorem dX8_lay_13 : decode cX8_lay 13 = .ok (.ifCond .eq 28, 3) := by decide +kernel
theorem dX8_lay_16 : decode cX8_lay 16 = .ok (.iload_n 2, 1) := by decide +kernel
theorem dX8_lay_17 : decode cX8_lay 17 = .ok (.iconst 1, 1) := by decide +kernel
theorem dX8_lay_18 : decode cX8_lay 18 = .ok (.if_icmp .ne 11, 3) := by decide +kernel
theorem dX8_lay_21 : decode cX8_lay 21 = .ok (.aload_n 0, 1) := by decide +kernel
theorem dX8_lay_22 : decode cX8_lay 22 = .ok (.iload_n 3, 1) := by decide +kernel
theorem dX8_lay_23 : decode cX8_lay 23 = .ok (.invokevirtual 121, 3) := by decide +kernel
theorem dX8_lay_26 : decode cX8_lay 26 = .ok (.ifCond .eq 15, 3) := by decide +kernel
theorem dX8_lay_29 : decode cX8_lay 29 = .ok (.iload_n 2, 1) := by decide +kernel
theorem dX8_lay_30 : decode cX8_lay 30 = .ok (.iconst 2, 1) := by decide +kernel
theorem dX8_lay_31 : decode cX8_lay 31 = .ok (.if_icmp .ne 13, 3) := by decide +kernel
theorem dX8_lay_34 : decode cX8_lay 34 = .ok (.iload_n 3, 1) := by decide +kernel
theorem dX8_lay_35 : decode cX8_lay 35 = .ok (.invokestatic 210, 3) := by decide +kernel
theorem dX8_lay_38 : decode cX8_lay 38 = .ok (.ifCond .ne 6, 3) := by decide +kernel
theorem dX8_lay_41 : decode cX8_lay 41 = .ok (.ldc 111, 2) := by decide +kernel
theorem dX8_lay_43 : decode cX8_lay 43 = .ok (.ireturn, 1) := by decide +kernel
theorem dX8_lay_44 : decode cX8_lay 44 = .ok (.iload_n 2, 1) := by decide +kernel
theorem dX8_lay_45 : decode cX8_lay 45 = .ok (.iconst 2, 1) := by decide +kernel
theorem dX8_lay_46 : decode cX8_lay 46 = .ok (.if_icmp .ne 15, 3) := by decide +kernel
theorem dX8_lay_49 : decode cX8_lay 49 = .ok (.aload_n 0, 1) := by decide +kernel
theorem dX8_lay_50 : decode cX8_lay 50 = .ok (.getfield 64, 3) := by decide +kernel
theorem dX8_lay_53 : decode cX8_lay 53 = .ok (.iload_n 3, 1) := by decide +kernel
theorem dX8_lay_54 : decode cX8_lay 54 = .ok (.iaload, 1) := by decide +kernel
theorem dX8_lay_55 : decode cX8_lay 55 = .ok (.ifCond .ge 6, 3) := by decide +kernel
theorem dX8_lay_58 : decode cX8_lay 58 = .ok (.ldc 213, 2) := by decide +kernel
theorem dX8_lay_60 : decode cX8_lay 60 = .ok (.ireturn, 1) := by decide +kernel
theorem dX8_lay_61 : decode cX8_lay 61 = .ok (.aload_n 0, 1) := by decide +kernel
theorem dX8_lay_62 : decode cX8_lay 62 = .ok (.getfield 73, 3) := by decide +kernel
theorem dX8_lay_65 : decode cX8_lay 65 = .ok (.iload_n 1, 1) := by decide +kernel
theorem dX8_lay_66 : decode cX8_lay 66 = .ok (.iaload, 1) := by decide +kernel
theorem dX8_lay_67 : decode cX8_lay 67 = .ok (.istore 4, 2) := by decide +kernel
theorem dX8_lay_69 : decode cX8_lay 69 = .ok (.aload_n 0, 1) := by decide +kernel
theorem dX8_lay_70 : decode cX8_lay 70 = .ok (.getfield 73, 3) := by decide +kernel
theorem dX8_lay_73 : decode cX8_lay 73 = .ok (.iload_n 1, 1) := by decide +kernel
theorem dX8_lay_74 : decode cX8_lay 74 = .ok (.iload_n 2, 1) := by decide +kernel
theorem dX8_lay_75 : decode cX8_lay 75 = .ok (.iastore, 1) := by decide +kernel
theorem dX8_lay_76 : decode cX8_lay 76 = .ok (.aload_n 0, 1) := by decide +kernel
theorem dX8_lay_77 : decode cX8_lay 77 = .ok (.getfield 76, 3) := by decide +kernel
theorem dX8_lay_80 : decode cX8_lay 80 = .ok (.iload_n 1, 1) := by decide +kernel
theorem dX8_lay_81 : decode cX8_lay 81 = .ok (.iload_n 2, 1) := by decide +kernel
theorem dX8_lay_82 : decode cX8_lay 82 = .ok (.iconst 1, 1) := by decide +kernel
theorem dX8_lay_83 : decode cX8_lay 83 = .ok (.if_icmp .ne 12, 3) := by decide +kernel
theorem dX8_lay_86 : decode cX8_lay 86 = .ok (.aload_n 0, 1) := by decide +kernel
theorem dX8_lay_87 : decode cX8_lay 87 = .ok (.iload_n 3, 1) := by decide +kernel
theorem dX8_lay_88 : decode cX8_lay 88 = .ok (.iconst 0, 1) := by decide +kernel
theorem dX8_lay_89 : decode cX8_lay 89 = .ok (.invokevirtual 117, 3) := by decide +kernel
theorem dX8_lay_92 : decode cX8_lay 92 = .ok (.goto 18, 3) := by decide +kernel
theorem dX8_lay_95 : decode cX8_lay 95 = .ok (.iload_n 2, 1) := by decide +kernel
theorem dX8_lay_96 : decode cX8_lay 96 = .ok (.iconst 2, 1) := by decide +kernel
theorem dX8_lay_97 : decode cX8_lay 97 = .ok (.if_icmp .ne 12, 3) := by decide +kernel
theorem dX8_lay_100 : decode cX8_lay 100 = .ok (.aload_n 0, 1) := by decide +kernel
theorem dX8_lay_101 : decode cX8_lay 101 = .ok (.getfield 67, 3) := by decide +kernel
theorem dX8_lay_104 : decode cX8_lay 104 = .ok (.iload_n 3, 1) := by decide +kernel
theorem dX8_lay_105 : decode cX8_lay 105 = .ok (.iaload, 1) := by decide +kernel
theorem dX8_lay_106 : decode cX8_lay 106 = .ok (.goto 4, 3) := by decide +kernel
theorem dX8_lay_109 : decode cX8_lay 109 = .ok (.iload_n 3, 1) := by decide +kernel
theorem dX8_lay_110 : decode cX8_lay 110 = .ok (.iastore, 1) := by decide +kernel
theorem dX8_lay_111 : decode cX8_lay 111 = .ok (.aload_n 0, 1) := by decide +kernel
theorem dX8_lay_112 : decode cX8_lay 112 = .ok (.getfield 79, 3) := by decide +kernel
theorem dX8_lay_115 : decode cX8_lay 115 = .ok (.iload_n 1, 1) := by decide +kernel
theorem dX8_lay_116 : decode cX8_lay 116 = .ok (.iload_n 2, 1) := by decide +kernel
theorem dX8_lay_117 : decode cX8_lay 117 = .ok (.iconst 1, 1) := by decide +kernel
theorem dX8_lay_118 : decode cX8_lay 118 = .ok (.if_icmp .ne 11, 3) := by decide +kernel
theorem dX8_lay_121 : decode cX8_lay 121 = .ok (.aload_n 0, 1) := by decide +kernel
theorem dX8_lay_122 : decode cX8_lay 122 = .ok (.iload_n 3, 1) := by decide +kernel
theorem dX8_lay_123 : decode cX8_lay 123 = .ok (.invokevirtual 124, 3) := by decide +kernel
theorem dX8_lay_126 : decode cX8_lay 126 = .ok (.goto 4, 3) := by decide +kernel
theorem dX8_lay_129 : decode cX8_lay 129 = .ok (.iconst 0, 1) := by decide +kernel
theorem dX8_lay_130 : decode cX8_lay 130 = .ok (.iastore, 1) := by decide +kernel
theorem dX8_lay_131 : decode cX8_lay 131 = .ok (.iconst 0, 1) := by decide +kernel
theorem dX8_lay_132 : decode cX8_lay 132 = .ok (.istore 5, 2) := by decide +kernel
theorem dX8_lay_134 : decode cX8_lay 134 = .ok (.iload 5, 2) := by decide +kernel
theorem dX8_lay_136 : decode cX8_lay 136 = .ok (.bipush 24, 2) := by decide +kernel
theorem dX8_lay_138 : decode cX8_lay 138 = .ok (.if_icmp .ge 38, 3) := by decide +kernel
theorem dX8_lay_141 : decode cX8_lay 141 = .ok (.iload_n 2, 1) := by decide +kernel
theorem dX8_lay_142 : decode cX8_lay 142 = .ok (.iconst 2, 1) := by decide +kernel
theorem dX8_lay_143 : decode cX8_lay 143 = .ok (.if_icmp .ne 33, 3) := by decide +kernel
theorem dX8_lay_146 : decode cX8_lay 146 = .ok (.aload_n 0, 1) := by decide +kernel
theorem dX8_lay_147 : decode cX8_lay 147 = .ok (.getfield 82, 3) := by decide +kernel
theorem dX8_lay_150 : decode cX8_lay 150 = .ok (.bipush 24, 2) := by decide +kernel
theorem dX8_lay_152 : decode cX8_lay 152 = .ok (.iload_n 1, 1) := by decide +kernel
theorem dX8_lay_153 : decode cX8_lay 153 = .ok (.imul, 1) := by decide +kernel
theorem dX8_lay_154 : decode cX8_lay 154 = .ok (.iload 5, 2) := by decide +kernel
theorem dX8_lay_156 : decode cX8_lay 156 = .ok (.iadd, 1) := by decide +kernel
theorem dX8_lay_157 : decode cX8_lay 157 = .ok (.aload_n 0, 1) := by decide +kernel
theorem dX8_lay_158 : decode cX8_lay 158 = .ok (.getfield 70, 3) := by decide +kernel
theorem dX8_lay_161 : decode cX8_lay 161 = .ok (.bipush 24, 2) := by decide +kernel
theorem dX8_lay_163 : decode cX8_lay 163 = .ok (.iload_n 3, 1) := by decide +kernel
theorem dX8_lay_164 : decode cX8_lay 164 = .ok (.imul, 1) := by decide +kernel
theorem dX8_lay_165 : decode cX8_lay 165 = .ok (.iload 5, 2) := by decide +kernel
theorem dX8_lay_167 : decode cX8_lay 167 = .ok (.iadd, 1) := by decide +kernel
theorem dX8_lay_168 : decode cX8_lay 168 = .ok (.iaload, 1) := by decide +kernel
theorem dX8_lay_169 : decode cX8_lay 169 = .ok (.iastore, 1) := by decide +kernel
theorem dX8_lay_170 : decode cX8_lay 170 = .ok (.iinc 5 1, 3) := by decide +kernel
theorem dX8_lay_173 : decode cX8_lay 173 = .ok (.goto (-39), 3) := by decide +kernel
theorem dX8_lay_176 : decode cX8_lay 176 = .ok (.iload 4, 2) := by decide +kernel
theorem dX8_lay_178 : decode cX8_lay 178 = .ok (.ireturn, 1) := by decide +kernel
theorem dX8_ask_0 : decode cX8_ask 0 = .ok (.iload_n 1, 1) := by decide +kernel
theorem dX8_ask_1 : decode cX8_ask 1 = .ok (.invokestatic 286, 3) := by decide +kernel
theorem dX8_ask_4 : decode cX8_ask 4 = .ok (.ifCond .eq 12, 3) := by decide +kernel
theorem dX8_ask_7 : decode cX8_ask 7 = .ok (.iload_n 2, 1) := by decide +kernel
theorem dX8_ask_8 : decode cX8_ask 8 = .ok (.iconst 0, 1) := by decide +kernel
theorem dX8_ask_9 : decode cX8_ask 9 = .ok (.iconst 5, 1) := by decide +kernel
theorem dX8_ask_10 : decode cX8_ask 10 = .ok (.invokestatic 92, 3) := by decide +kernel
theorem dX8_ask_13 : decode cX8_ask 13 = .ok (.ifCond .ne 6, 3) := by decide +kernel
theorem dX8_ask_16 : decode cX8_ask 16 = .ok (.ldc 111, 2) := by decide +kernel
theorem dX8_ask_18 : decode cX8_ask 18 = .ok (.ireturn, 1) := by decide +kernel
theorem dX8_ask_19 : decode cX8_ask 19 = .ok (.aload_n 0, 1) := by decide +kernel
theorem dX8_ask_20 : decode cX8_ask 20 = .ok (.getfield 73, 3) := by decide +kernel
theorem dX8_ask_23 : decode cX8_ask 23 = .ok (.iload_n 1, 1) := by decide +kernel
theorem dX8_ask_24 : decode cX8_ask 24 = .ok (.iaload, 1) := by decide +kernel
theorem dX8_ask_25 : decode cX8_ask 25 = .ok (.ifCond .ne 6, 3) := by decide +kernel
theorem dX8_ask_28 : decode cX8_ask 28 = .ok (.ldc 213, 2) := by decide +kernel
theorem dX8_ask_30 : decode cX8_ask 30 = .ok (.ireturn, 1) := by decide +kernel
theorem dX8_ask_31 : decode cX8_ask 31 = .ok (.aload_n 0, 1) := by decide +kernel
theorem dX8_ask_32 : decode cX8_ask 32 = .ok (.getfield 73, 3) := by decide +kernel
theorem dX8_ask_35 : decode cX8_ask 35 = .ok (.iload_n 1, 1) := by decide +kernel
theorem dX8_ask_36 : decode cX8_ask 36 = .ok (.iaload, 1) := by decide +kernel
theorem dX8_ask_37 : decode cX8_ask 37 = .ok (.iconst 1, 1) := by decide +kernel
theorem dX8_ask_38 : decode cX8_ask 38 = .ok (.if_icmp .ne 25, 3) := by decide +kernel
theorem dX8_ask_41 : decode cX8_ask 41 = .ok (.aload_n 0, 1) := by decide +kernel
theorem dX8_ask_42 : decode cX8_ask 42 = .ok (.getfield 76, 3) := by decide +kernel
theorem dX8_ask_45 : decode cX8_ask 45 = .ok (.iload_n 1, 1) := by decide +kernel
theorem dX8_ask_46 : decode cX8_ask 46 = .ok (.iaload, 1) := by decide +kernel
theorem dX8_ask_47 : decode cX8_ask 47 = .ok (.iload_n 2, 1) := by decide +kernel
theorem dX8_ask_48 : decode cX8_ask 48 = .ok (.invokestatic 128, 3) := by decide +kernel
theorem dX8_ask_51 : decode cX8_ask 51 = .ok (.ifCond .eq 12, 3) := by decide +kernel
theorem dX8_ask_54 : decode cX8_ask 54 = .ok (.aload_n 0, 1) := by decide +kernel
theorem dX8_ask_55 : decode cX8_ask 55 = .ok (.getfield 79, 3) := by decide +kernel
theorem dX8_ask_58 : decode cX8_ask 58 = .ok (.iload_n 1, 1) := by decide +kernel
theorem dX8_ask_59 : decode cX8_ask 59 = .ok (.iaload, 1) := by decide +kernel
theorem dX8_ask_60 : decode cX8_ask 60 = .ok (.goto 5, 3) := by decide +kernel
theorem dX8_ask_63 : decode cX8_ask 63 = .ok (.ldc 132, 2) := by decide +kernel
theorem dX8_ask_65 : decode cX8_ask 65 = .ok (.ireturn, 1) := by decide +kernel
theorem dX8_item_0 : decode cX8_item 0 = .ok (.iload_n 1, 1) := by decide +kernel
theorem dX8_item_1 : decode cX8_item 1 = .ok (.invokestatic 286, 3) := by decide +kernel
theorem dX8_item_4 : decode cX8_item 4 = .ok (.ifCond .ne 6, 3) := by decide +kernel
theorem dX8_item_7 : decode cX8_item 7 = .ok (.ldc 111, 2) := by decide +kernel
theorem dX8_item_9 : decode cX8_item 9 = .ok (.ireturn, 1) := by decide +kernel
theorem dX8_item_10 : decode cX8_item 10 = .ok (.aload_n 0, 1) := by decide +kernel
theorem dX8_item_11 : decode cX8_item 11 = .ok (.getfield 73, 3) := by decide +kernel
theorem dX8_item_14 : decode cX8_item 14 = .ok (.iload_n 1, 1) := by decide +kernel
theorem dX8_item_15 : decode cX8_item 15 = .ok (.iaload, 1) := by decide +kernel
theorem dX8_item_16 : decode cX8_item 16 = .ok (.ifCond .ne 6, 3) := by decide +kernel
theorem dX8_item_19 : decode cX8_item 19 = .ok (.ldc 213, 2) := by decide +kernel
theorem dX8_item_21 : decode cX8_item 21 = .ok (.ireturn, 1) := by decide +kernel
theorem dX8_item_22 : decode cX8_item 22 = .ok (.aload_n 0, 1) := by decide +kernel
theorem dX8_item_23 : decode cX8_item 23 = .ok (.getfield 73, 3) := by decide +kernel
theorem dX8_item_26 : decode cX8_item 26 = .ok (.iload_n 1, 1) := by decide +kernel
theorem dX8_item_27 : decode cX8_item 27 = .ok (.iaload, 1) := by decide +kernel
theorem dX8_item_28 : decode cX8_item 28 = .ok (.iconst 2, 1) := by decide +kernel
theorem dX8_item_29 : decode cX8_item 29 = .ok (.if_icmp .eq 6, 3) := by decide +kernel
theorem dX8_item_32 : decode cX8_item 32 = .ok (.ldc 132, 2) := by decide +kernel
theorem dX8_item_34 : decode cX8_item 34 = .ok (.ireturn, 1) := by decide +kernel
theorem dX8_item_35 : decode cX8_item 35 = .ok (.iload_n 2, 1) := by decide +kernel
theorem dX8_item_36 : decode cX8_item 36 = .ok (.iconst 0, 1) := by decide +kernel
theorem dX8_item_37 : decode cX8_item 37 = .ok (.aload_n 0, 1) := by decide +kernel
theorem dX8_item_38 : decode cX8_item 38 = .ok (.getfield 76, 3) := by decide +kernel
theorem dX8_item_41 : decode cX8_item 41 = .ok (.iload_n 1, 1) := by decide +kernel
theorem dX8_item_42 : decode cX8_item 42 = .ok (.iaload, 1) := by decide +kernel
theorem dX8_item_43 : decode cX8_item 43 = .ok (.iconst 1, 1) := by decide +kernel
theorem dX8_item_44 : decode cX8_item 44 = .ok (.isub, 1) := by decide +kernel
theorem dX8_item_45 : decode cX8_item 45 = .ok (.invokestatic 92, 3) := by decide +kernel
theorem dX8_item_48 : decode cX8_item 48 = .ok (.ifCond .ne 7, 3) := by decide +kernel
theorem dX8_item_51 : decode cX8_item 51 = .ok (.ldc_w 283, 3) := by decide +kernel
theorem dX8_item_54 : decode cX8_item 54 = .ok (.ireturn, 1) := by decide +kernel
theorem dX8_item_55 : decode cX8_item 55 = .ok (.aload_n 0, 1) := by decide +kernel
theorem dX8_item_56 : decode cX8_item 56 = .ok (.getfield 82, 3) := by decide +kernel
theorem dX8_item_59 : decode cX8_item 59 = .ok (.bipush 24, 2) := by decide +kernel
theorem dX8_item_61 : decode cX8_item 61 = .ok (.iload_n 1, 1) := by decide +kernel
theorem dX8_item_62 : decode cX8_item 62 = .ok (.imul, 1) := by decide +kernel
theorem dX8_item_63 : decode cX8_item 63 = .ok (.iload_n 2, 1) := by decide +kernel
theorem dX8_item_64 : decode cX8_item 64 = .ok (.iadd, 1) := by decide +kernel
theorem dX8_item_65 : decode cX8_item 65 = .ok (.iaload, 1) := by decide +kernel
theorem dX8_item_66 : decode cX8_item 66 = .ok (.istore_n 3, 1) := by decide +kernel
theorem dX8_item_67 : decode cX8_item 67 = .ok (.iload_n 3, 1) := by decide +kernel
theorem dX8_item_68 : decode cX8_item 68 = .ok (.ldc 91, 2) := by decide +kernel
theorem dX8_item_70 : decode cX8_item 70 = .ok (.if_icmp .ne 8, 3) := by decide +kernel
theorem dX8_item_73 : decode cX8_item 73 = .ok (.ldc 132, 2) := by decide +kernel
theorem dX8_item_75 : decode cX8_item 75 = .ok (.goto 4, 3) := by decide +kernel
theorem dX8_item_78 : decode cX8_item 78 = .ok (.iload_n 3, 1) := by decide +kernel
theorem dX8_item_79 : decode cX8_item 79 = .ok (.ireturn, 1) := by decide +kernel
theorem dX8_rest_0 : decode cX8_rest 0 = .ok (.iload_n 1, 1) := by decide +kernel
theorem dX8_rest_1 : decode cX8_rest 1 = .ok (.invokestatic 286, 3) := by decide +kernel
theorem dX8_rest_4 : decode cX8_rest 4 = .ok (.ifCond .ne 6, 3) := by decide +kernel
theorem dX8_rest_7 : decode cX8_rest 7 = .ok (.ldc 111, 2) := by decide +kernel
theorem dX8_rest_9 : decode cX8_rest 9 = .ok (.ireturn, 1) := by decide +kernel
theorem dX8_rest_10 : decode cX8_rest 10 = .ok (.aload_n 0, 1) := by decide +kernel
theorem dX8_rest_11 : decode cX8_rest 11 = .ok (.getfield 73, 3) := by decide +kernel
theorem dX8_rest_14 : decode cX8_rest 14 = .ok (.iload_n 1, 1) := by decide +kernel
theorem dX8_rest_15 : decode cX8_rest 15 = .ok (.iaload, 1) := by decide +kernel
theorem dX8_rest_16 : decode cX8_rest 16 = .ok (.ifCond .ne 6, 3) := by decide +kernel
theorem dX8_rest_19 : decode cX8_rest 19 = .ok (.ldc 213, 2) := by decide +kernel
theorem dX8_rest_21 : decode cX8_rest 21 = .ok (.ireturn, 1) := by decide +kernel
theorem dX8_rest_22 : decode cX8_rest 22 = .ok (.aload_n 0, 1) := by decide +kernel
theorem dX8_rest_23 : decode cX8_rest 23 = .ok (.getfield 73, 3) := by decide +kernel
theorem dX8_rest_26 : decode cX8_rest 26 = .ok (.iload_n 1, 1) := by decide +kernel
theorem dX8_rest_27 : decode cX8_rest 27 = .ok (.iaload, 1) := by decide +kernel
theorem dX8_rest_28 : decode cX8_rest 28 = .ok (.iconst 3, 1) := by decide +kernel
theorem dX8_rest_29 : decode cX8_rest 29 = .ok (.if_icmp .eq 6, 3) := by decide +kernel
theorem dX8_rest_32 : decode cX8_rest 32 = .ok (.ldc 132, 2) := by decide +kernel
theorem dX8_rest_34 : decode cX8_rest 34 = .ok (.ireturn, 1) := by decide +kernel
theorem dX8_rest_35 : decode cX8_rest 35 = .ok (.iload_n 2, 1) := by decide +kernel
theorem dX8_rest_36 : decode cX8_rest 36 = .ok (.ifCond .ne 8, 3) := by decide +kernel
theorem dX8_rest_39 : decode cX8_rest 39 = .ok (.ldc 169, 2) := by decide +kernel
theorem dX8_rest_41 : decode cX8_rest 41 = .ok (.goto 20, 3) := by decide +kernel
theorem dX8_rest_44 : decode cX8_rest 44 = .ok (.iload_n 2, 1) := by decide +kernel
theorem dX8_rest_45 : decode cX8_rest 45 = .ok (.iconst (-1), 1) := by decide +kernel
theorem dX8_rest_46 : decode cX8_rest 46 = .ok (.if_icmp .ne 7, 3) := by decide +kernel
theorem dX8_rest_49 : decode cX8_rest 49 = .ok (.iconst 0, 1) := by decide +kernel
theorem dX8_rest_50 : decode cX8_rest 50 = .ok (.goto 11, 3) := by decide +kernel
theorem dX8_rest_53 : decode cX8_rest 53 = .ok (.aload_n 0, 1) := by decide +kernel
theorem dX8_rest_54 : decode cX8_rest 54 = .ok (.getfield 76, 3) := by decide +kernel
theorem dX8_rest_57 : decode cX8_rest 57 = .ok (.iload_n 1, 1) := by decide +kernel
theorem dX8_rest_58 : decode cX8_rest 58 = .ok (.iaload, 1) := by decide +kernel
theorem dX8_rest_59 : decode cX8_rest 59 = .ok (.iload_n 2, 1) := by decide +kernel
theorem dX8_rest_60 : decode cX8_rest 60 = .ok (.irem, 1) := by decide +kernel
theorem dX8_rest_61 : decode cX8_rest 61 = .ok (.ireturn, 1) := by decide +kernel
theorem dX8_tell_0 : decode cX8_tell 0 = .ok (.aload_n 0, 1) := by decide +kernel
theorem dX8_tell_1 : decode cX8_tell 1 = .ok (.getfield 289, 3) := by decide +kernel
theorem dX8_tell_4 : decode cX8_tell 4 = .ok (.bipush 60, 2) := by decide +kernel
theorem dX8_tell_6 : decode cX8_tell 6 = .ok (.if_icmp .ne 6, 3) := by decide +kernel
theorem dX8_tell_9 : decode cX8_tell 9 = .ok (.ldc 112, 2) := by decide +kernel
theorem dX8_tell_11 : decode cX8_tell 11 = .ok (.ireturn, 1) := by decide +kernel
theorem dX8_tell_12 : decode cX8_tell 12 = .ok (.aload_n 0, 1) := by decide +kernel
theorem dX8_tell_13 : decode cX8_tell 13 = .ok (.getfield 88, 3) := by decide +kernel
theorem dX8_tell_16 : decode cX8_tell 16 = .ok (.aload_n 0, 1) := by decide +kernel
theorem dX8_tell_17 : decode cX8_tell 17 = .ok (.getfield 289, 3) := by decide +kernel
theorem dX8_tell_20 : decode cX8_tell 20 = .ok (.iload_n 1, 1) := by decide +kernel
theorem dX8_tell_21 : decode cX8_tell 21 = .ok (.iastore, 1) := by decide +kernel
theorem dX8_tell_22 : decode cX8_tell 22 = .ok (.aload_n 0, 1) := by decide +kernel
theorem dX8_tell_23 : decode cX8_tell 23 = .ok (.dup, 1) := by decide +kernel
theorem dX8_tell_24 : decode cX8_tell 24 = .ok (.getfield 289, 3) := by decide +kernel
theorem dX8_tell_27 : decode cX8_tell 27 = .ok (.iconst 1, 1) := by decide +kernel
theorem dX8_tell_28 : decode cX8_tell 28 = .ok (.iadd, 1) := by decide +kernel
theorem dX8_tell_29 : decode cX8_tell 29 = .ok (.putfield 289, 3) := by decide +kernel
theorem dX8_tell_32 : decode cX8_tell 32 = .ok (.aload_n 0, 1) := by decide +kernel
theorem dX8_tell_33 : decode cX8_tell 33 = .ok (.getfield 289, 3) := by decide +kernel
theorem dX8_tell_36 : decode cX8_tell 36 = .ok (.ireturn, 1) := by decide +kernel
theorem dX8_check_0 : decode cX8_check 0 = .ok (.aload_n 0, 1) := by decide +kernel
theorem dX8_check_1 : decode cX8_check 1 = .ok (.getfield 289, 3) := by decide +kernel
theorem dX8_check_4 : decode cX8_check 4 = .ok (.istore_n 2, 1) := by decide +kernel
theorem dX8_check_5 : decode cX8_check 5 = .ok (.aload_n 0, 1) := by decide +kernel
theorem dX8_check_6 : decode cX8_check 6 = .ok (.iconst 0, 1) := by decide +kernel
theorem dX8_check_7 : decode cX8_check 7 = .ok (.putfield 289, 3) := by decide +kernel
theorem dX8_check_10 : decode cX8_check 10 = .ok (.iload_n 1, 1) := by decide +kernel
theorem dX8_check_11 : decode cX8_check 11 = .ok (.iconst 1, 1) := by decide +kernel
theorem dX8_check_12 : decode cX8_check 12 = .ok (.bipush 30, 2) := by decide +kernel
theorem dX8_check_14 : decode cX8_check 14 = .ok (.invokestatic 92, 3) := by decide +kernel
theorem dX8_check_17 : decode cX8_check 17 = .ok (.ifCond .ne 6, 3) := by decide +kernel
theorem dX8_check_20 : decode cX8_check 20 = .ok (.ldc 111, 2) := by decide +kernel
theorem dX8_check_22 : decode cX8_check 22 = .ok (.ireturn, 1) := by decide +kernel
theorem dX8_check_23 : decode cX8_check 23 = .ok (.aload_n 0, 1) := by decide +kernel
theorem dX8_check_24 : decode cX8_check 24 = .ok (.getfield 292, 3) := by decide +kernel
theorem dX8_check_27 : decode cX8_check 27 = .ok (.ifCond .ne 6, 3) := by decide +kernel
theorem dX8_check_30 : decode cX8_check 30 = .ok (.ldc 169, 2) := by decide +kernel
theorem dX8_check_32 : decode cX8_check 32 = .ok (.ireturn, 1) := by decide +kernel
theorem dX8_check_33 : decode cX8_check 33 = .ok (.aload_n 0, 1) := by decide +kernel
theorem dX8_check_34 : decode cX8_check 34 = .ok (.getfield 9, 3) := by decide +kernel
theorem dX8_check_37 : decode cX8_check 37 = .ok (.aload_n 0, 1) := by decide +kernel
theorem dX8_check_38 : decode cX8_check 38 = .ok (.getfield 16, 3) := by decide +kernel
theorem dX8_check_41 : decode cX8_check 41 = .ok (.invokestatic 296, 3) := by decide +kernel
theorem dX8_check_44 : decode cX8_check 44 = .ok (.aload_n 0, 1) := by decide +kernel
theorem dX8_check_45 : decode cX8_check 45 = .ok (.getfield 13, 3) := by decide +kernel
theorem dX8_check_48 : decode cX8_check 48 = .ok (.aload_n 0, 1) := by decide +kernel
theorem dX8_check_49 : decode cX8_check 49 = .ok (.getfield 9, 3) := by decide +kernel
theorem dX8_check_52 : decode cX8_check 52 = .ok (.invokestatic 296, 3) := by decide +kernel
theorem dX8_check_55 : decode cX8_check 55 = .ok (.iconst 2, 1) := by decide +kernel
theorem dX8_check_56 : decode cX8_check 56 = .ok (.sipush 9999, 3) := by decide +kernel
theorem dX8_check_59 : decode cX8_check 59 = .ok (.aload_n 0, 1) := by decide +kernel
theorem dX8_check_60 : decode cX8_check 60 = .ok (.getfield 9, 3) := by decide +kernel
theorem dX8_check_63 : decode cX8_check 63 = .ok (.iconst 2, 1) := by decide +kernel
theorem dX8_check_64 : decode cX8_check 64 = .ok (.iaload, 1) := by decide +kernel
theorem dX8_check_65 : decode cX8_check 65 = .ok (.isub, 1) := by decide +kernel
theorem dX8_check_66 : decode cX8_check 66 = .ok (.iconst 0, 1) := by decide +kernel
theorem dX8_check_67 : decode cX8_check 67 = .ok (.iload_n 1, 1) := by decide +kernel
theorem dX8_check_68 : decode cX8_check 68 = .ok (.invokestatic 142, 3) := by decide +kernel
theorem dX8_check_71 : decode cX8_check 71 = .ok (.imul, 1) := by decide +kernel
theorem dX8_check_72 : decode cX8_check 72 = .ok (.istore_n 3, 1) := by decide +kernel
theorem dX8_check_73 : decode cX8_check 73 = .ok (.iconst 0, 1) := by decide +kernel
theorem dX8_check_74 : decode cX8_check 74 = .ok (.istore 4, 2) := by decide +kernel
theorem dX8_check_76 : decode cX8_check 76 = .ok (.iconst 0, 1) := by decide +kernel
theorem dX8_check_77 : decode cX8_check 77 = .ok (.istore 5, 2) := by decide +kernel
theorem dX8_check_79 : decode cX8_check 79 = .ok (.iconst 2, 1) := by decide +kernel
theorem dX8_check_80 : decode cX8_check 80 = .ok (.iload 5, 2) := by decide +kernel
theorem dX8_check_82 : decode cX8_check 82 = .ok (.imul, 1) := by decide +kernel
theorem dX8_check_83 : decode cX8_check 83 = .ok (.iload_n 3, 1) := by decide +kernel
theorem dX8_check_84 : decode cX8_check 84 = .ok (.if_icmp .ge 93, 3) := by decide +kernel
theorem dX8_check_87 : decode cX8_check 87 = .ok (.iload 4, 2) := by decide +kernel
theorem dX8_check_89 : decode cX8_check 89 = .ok (.iconst 2, 1) := by decide +kernel
theorem dX8_check_90 : decode cX8_check 90 = .ok (.iload 5, 2) := by decide +kernel
theorem dX8_check_92 : decode cX8_check 92 = .ok (.imul, 1) := by decide +kernel
theorem dX8_check_93 : decode cX8_check 93 = .ok (.if_icmp .ne 84, 3) := by decide +kernel
theorem dX8_check_96 : decode cX8_check 96 = .ok (.aload_n 0, 1) := by decide +kernel
theorem dX8_check_97 : decode cX8_check 97 = .ok (.invokevirtual 188, 3) := by decide +kernel
theorem dX8_check_100 : decode cX8_check 100 = .ok (.iload 4, 2) := by decide +kernel
theorem dX8_check_102 : decode cX8_check 102 = .ok (.iload 4, 2) := by decide +kernel
theorem dX8_check_104 : decode cX8_check 104 = .ok (.iload_n 2, 1) := by decide +kernel
theorem dX8_check_105 : decode cX8_check 105 = .ok (.if_icmp .ge 21, 3) := by decide +kernel
theorem dX8_check_108 : decode cX8_check 108 = .ok (.aload_n 0, 1) := by decide +kernel
theorem dX8_check_109 : decode cX8_check 109 = .ok (.getfield 88, 3) := by decide +kernel
theorem dX8_check_112 : decode cX8_check 112 = .ok (.iload 4, 2) := by decide +kernel
theorem dX8_check_114 : decode cX8_check 114 = .ok (.iaload, 1) := by decide +kernel
theorem dX8_check_115 : decode cX8_check 115 = .ok (.aload_n 0, 1) := by decide +kernel
theorem dX8_check_116 : decode cX8_check 116 = .ok (.invokevirtual 201, 3) := by decide +kernel
theorem dX8_check_119 : decode cX8_check 119 = .ok (.if_icmp .ne 7, 3) := by decide +kernel
theorem dX8_check_122 : decode cX8_check 122 = .ok (.iconst 1, 1) := by decide +kernel
theorem dX8_check_123 : decode cX8_check 123 = .ok (.goto 4, 3) := by decide +kernel
theorem dX8_check_126 : decode cX8_check 126 = .ok (.iconst 0, 1) := by decide +kernel
theorem dX8_check_127 : decode cX8_check 127 = .ok (.iadd, 1) := by decide +kernel
theorem dX8_check_128 : decode cX8_check 128 = .ok (.istore 4, 2) := by decide +kernel
theorem dX8_check_130 : decode cX8_check 130 = .ok (.iload 4, 2) := by decide +kernel
theorem dX8_check_132 : decode cX8_check 132 = .ok (.iload 4, 2) := by decide +kernel
theorem dX8_check_134 : decode cX8_check 134 = .ok (.iconst 2, 1) := by decide +kernel
theorem dX8_check_135 : decode cX8_check 135 = .ok (.iload 5, 2) := by decide +kernel
theorem dX8_check_137 : decode cX8_check 137 = .ok (.imul, 1) := by decide +kernel
theorem dX8_check_138 : decode cX8_check 138 = .ok (.iconst 1, 1) := by decide +kernel
theorem dX8_check_139 : decode cX8_check 139 = .ok (.iadd, 1) := by decide +kernel
theorem dX8_check_140 : decode cX8_check 140 = .ok (.if_icmp .ne 27, 3) := by decide +kernel
theorem dX8_check_143 : decode cX8_check 143 = .ok (.iload 4, 2) := by decide +kernel
theorem dX8_check_145 : decode cX8_check 145 = .ok (.iload_n 2, 1) := by decide +kernel
theorem dX8_check_146 : decode cX8_check 146 = .ok (.if_icmp .ge 21, 3) := by decide +kernel
theorem dX8_check_149 : decode cX8_check 149 = .ok (.aload_n 0, 1) := by decide +kernel
theorem dX8_check_150 : decode cX8_check 150 = .ok (.getfield 88, 3) := by decide +kernel
theorem dX8_check_153 : decode cX8_check 153 = .ok (.iload 4, 2) := by decide +kernel
theorem dX8_check_155 : decode cX8_check 155 = .ok (.iaload, 1) := by decide +kernel
theorem dX8_check_156 : decode cX8_check 156 = .ok (.aload_n 0, 1) := by decide +kernel
theorem dX8_check_157 : decode cX8_check 157 = .ok (.invokevirtual 195, 3) := by decide +kernel
theorem dX8_check_160 : decode cX8_check 160 = .ok (.if_icmp .ne 7, 3) := by decide +kernel
theorem dX8_check_163 : decode cX8_check 163 = .ok (.iconst 1, 1) := by decide +kernel
theorem dX8_check_164 : decode cX8_check 164 = .ok (.goto 4, 3) := by decide +kernel
theorem dX8_check_167 : decode cX8_check 167 = .ok (.iconst 0, 1) := by decide +kernel
theorem dX8_check_168 : decode cX8_check 168 = .ok (.iadd, 1) := by decide +kernel
theorem dX8_check_169 : decode cX8_check 169 = .ok (.istore 4, 2) := by decide +kernel
theorem dX8_check_171 : decode cX8_check 171 = .ok (.iinc 5 1, 3) := by decide +kernel
theorem dX8_check_174 : decode cX8_check 174 = .ok (.goto (-95), 3) := by decide +kernel
theorem dX8_check_177 : decode cX8_check 177 = .ok (.aload_n 0, 1) := by decide +kernel
theorem dX8_check_178 : decode cX8_check 178 = .ok (.getfield 16, 3) := by decide +kernel
theorem dX8_check_181 : decode cX8_check 181 = .ok (.aload_n 0, 1) := by decide +kernel
theorem dX8_check_182 : decode cX8_check 182 = .ok (.getfield 9, 3) := by decide +kernel
theorem dX8_check_185 : decode cX8_check 185 = .ok (.invokestatic 296, 3) := by decide +kernel
theorem dX8_check_188 : decode cX8_check 188 = .ok (.iload 4, 2) := by decide +kernel
theorem dX8_check_190 : decode cX8_check 190 = .ok (.iload_n 2, 1) := by decide +kernel
theorem dX8_check_191 : decode cX8_check 191 = .ok (.if_icmp .ne 13, 3) := by decide +kernel
theorem dX8_check_194 : decode cX8_check 194 = .ok (.iload 4, 2) := by decide +kernel
theorem dX8_check_196 : decode cX8_check 196 = .ok (.iload_n 3, 1) := by decide +kernel
theorem dX8_check_197 : decode cX8_check 197 = .ok (.if_icmp .ne 7, 3) := by decide +kernel
theorem dX8_check_200 : decode cX8_check 200 = .ok (.iconst 0, 1) := by decide +kernel
theorem dX8_check_201 : decode cX8_check 201 = .ok (.goto 7, 3) := by decide +kernel
theorem dX8_check_204 : decode cX8_check 204 = .ok (.iconst 1, 1) := by decide +kernel
theorem dX8_check_205 : decode cX8_check 205 = .ok (.iload 4, 2) := by decide +kernel
theorem dX8_check_207 : decode cX8_check 207 = .ok (.iadd, 1) := by decide +kernel
theorem dX8_check_208 : decode cX8_check 208 = .ok (.ireturn, 1) := by decide +kernel
theorem dX8_keep_0 : decode cX8_keep 0 = .ok (.aload_n 0, 1) := by decide +kernel
theorem dX8_keep_1 : decode cX8_keep 1 = .ok (.getfield 9, 3) := by decide +kernel
theorem dX8_keep_4 : decode cX8_keep 4 = .ok (.aload_n 0, 1) := by decide +kernel
theorem dX8_keep_5 : decode cX8_keep 5 = .ok (.getfield 13, 3) := by decide +kernel
theorem dX8_keep_8 : decode cX8_keep 8 = .ok (.invokestatic 296, 3) := by decide +kernel
theorem dX8_keep_11 : decode cX8_keep 11 = .ok (.aload_n 0, 1) := by decide +kernel
theorem dX8_keep_12 : decode cX8_keep 12 = .ok (.iconst 1, 1) := by decide +kernel
theorem dX8_keep_13 : decode cX8_keep 13 = .ok (.putfield 292, 3) := by decide +kernel
theorem dX8_keep_16 : decode cX8_keep 16 = .ok (.aload_n 0, 1) := by decide +kernel
theorem dX8_keep_17 : decode cX8_keep 17 = .ok (.getfield 9, 3) := by decide +kernel
theorem dX8_keep_20 : decode cX8_keep 20 = .ok (.iconst 1, 1) := by decide +kernel
theorem dX8_keep_21 : decode cX8_keep 21 = .ok (.iaload, 1) := by decide +kernel
theorem dX8_keep_22 : decode cX8_keep 22 = .ok (.ireturn, 1) := by decide +kernel
theorem dX8_back_0 : decode cX8_back 0 = .ok (.aload_n 0, 1) := by decide +kernel
theorem dX8_back_1 : decode cX8_back 1 = .ok (.getfield 292, 3) := by decide +kernel
theorem dX8_back_4 : decode cX8_back 4 = .ok (.ifCond .ne 6, 3) := by decide +kernel
theorem dX8_back_7 : decode cX8_back 7 = .ok (.ldc 169, 2) := by decide +kernel
theorem dX8_back_9 : decode cX8_back 9 = .ok (.ireturn, 1) := by decide +kernel
theorem dX8_back_10 : decode cX8_back 10 = .ok (.aload_n 0, 1) := by decide +kernel
theorem dX8_back_11 : decode cX8_back 11 = .ok (.getfield 13, 3) := by decide +kernel
theorem dX8_back_14 : decode cX8_back 14 = .ok (.aload_n 0, 1) := by decide +kernel
theorem dX8_back_15 : decode cX8_back 15 = .ok (.getfield 9, 3) := by decide +kernel
theorem dX8_back_18 : decode cX8_back 18 = .ok (.invokestatic 296, 3) := by decide +kernel
theorem dX8_back_21 : decode cX8_back 21 = .ok (.aload_n 0, 1) := by decide +kernel
theorem dX8_back_22 : decode cX8_back 22 = .ok (.getfield 9, 3) := by decide +kernel
theorem dX8_back_25 : decode cX8_back 25 = .ok (.iconst 1, 1) := by decide +kernel
theorem dX8_back_26 : decode cX8_back 26 = .ok (.iaload, 1) := by decide +kernel
theorem dX8_back_27 : decode cX8_back 27 = .ok (.ireturn, 1) := by decide +kernel
theorem dX8_count_0 : decode cX8_count 0 = .ok (.iload_n 1, 1) := by decide +kernel
theorem dX8_count_1 : decode cX8_count 1 = .ok (.tableswitch 153 0 12 #[67, 74, 79, 87, 94, 99, 106, 114, 121, 128, 136, 141, 146], 67) := by decide +kernel
theorem dX8_count_68 : decode cX8_count 68 = .ok (.aload_n 0, 1) := by decide +kernel
theorem dX8_count_69 : decode cX8_count 69 = .ok (.getfield 9, 3) := by decide +kernel
theorem dX8_count_72 : decode cX8_count 72 = .ok (.iconst 1, 1) := by decide +kernel
theorem dX8_count_73 : decode cX8_count 73 = .ok (.iaload, 1) := by decide +kernel
theorem dX8_count_74 : decode cX8_count 74 = .ok (.ireturn, 1) := by decide +kernel
theorem dX8_count_75 : decode cX8_count 75 = .ok (.aload_n 0, 1) := by decide +kernel
theorem dX8_count_76 : decode cX8_count 76 = .ok (.invokevirtual 195, 3) := by decide +kernel
theorem dX8_count_79 : decode cX8_count 79 = .ok (.ireturn, 1) := by decide +kernel
theorem dX8_count_80 : decode cX8_count 80 = .ok (.aload_n 0, 1) := by decide +kernel
theorem dX8_count_81 : decode cX8_count 81 = .ok (.getfield 9, 3) := by decide +kernel
theorem dX8_count_84 : decode cX8_count 84 = .ok (.bipush 7, 2) := by decide +kernel
theorem dX8_count_86 : decode cX8_count 86 = .ok (.iaload, 1) := by decide +kernel
theorem dX8_count_87 : decode cX8_count 87 = .ok (.ireturn, 1) := by decide +kernel
theorem dX8_count_88 : decode cX8_count 88 = .ok (.aload_n 0, 1) := by decide +kernel
theorem dX8_count_89 : decode cX8_count 89 = .ok (.getfield 9, 3) := by decide +kernel
theorem dX8_count_92 : decode cX8_count 92 = .ok (.iconst 2, 1) := by decide +kernel
theorem dX8_count_93 : decode cX8_count 93 = .ok (.iaload, 1) := by decide +kernel
theorem dX8_count_94 : decode cX8_count 94 = .ok (.ireturn, 1) := by decide +kernel
theorem dX8_count_95 : decode cX8_count 95 = .ok (.aload_n 0, 1) := by decide +kernel
theorem dX8_count_96 : decode cX8_count 96 = .ok (.invokevirtual 201, 3) := by decide +kernel
theorem dX8_count_99 : decode cX8_count 99 = .ok (.ireturn, 1) := by decide +kernel
theorem dX8_count_100 : decode cX8_count 100 = .ok (.aload_n 0, 1) := by decide +kernel
theorem dX8_count_101 : decode cX8_count 101 = .ok (.getfield 9, 3) := by decide +kernel
theorem dX8_count_104 : decode cX8_count 104 = .ok (.iconst 5, 1) := by decide +kernel
theorem dX8_count_105 : decode cX8_count 105 = .ok (.iaload, 1) := by decide +kernel
theorem dX8_count_106 : decode cX8_count 106 = .ok (.ireturn, 1) := by decide +kernel
theorem dX8_count_107 : decode cX8_count 107 = .ok (.aload_n 0, 1) := by decide +kernel
theorem dX8_count_108 : decode cX8_count 108 = .ok (.getfield 9, 3) := by decide +kernel
theorem dX8_count_111 : decode cX8_count 111 = .ok (.bipush 6, 2) := by decide +kernel
theorem dX8_count_113 : decode cX8_count 113 = .ok (.iaload, 1) := by decide +kernel
theorem dX8_count_114 : decode cX8_count 114 = .ok (.ireturn, 1) := by decide +kernel
theorem dX8_count_115 : decode cX8_count 115 = .ok (.aload_n 0, 1) := by decide +kernel
theorem dX8_count_116 : decode cX8_count 116 = .ok (.getfield 9, 3) := by decide +kernel
theorem dX8_count_119 : decode cX8_count 119 = .ok (.iconst 3, 1) := by decide +kernel
theorem dX8_count_120 : decode cX8_count 120 = .ok (.iaload, 1) := by decide +kernel
theorem dX8_count_121 : decode cX8_count 121 = .ok (.ireturn, 1) := by decide +kernel
theorem dX8_count_122 : decode cX8_count 122 = .ok (.aload_n 0, 1) := by decide +kernel
theorem dX8_count_123 : decode cX8_count 123 = .ok (.getfield 9, 3) := by decide +kernel
theorem dX8_count_126 : decode cX8_count 126 = .ok (.iconst 4, 1) := by decide +kernel
theorem dX8_count_127 : decode cX8_count 127 = .ok (.iaload, 1) := by decide +kernel
theorem dX8_count_128 : decode cX8_count 128 = .ok (.ireturn, 1) := by decide +kernel
theorem dX8_count_129 : decode cX8_count 129 = .ok (.aload_n 0, 1) := by decide +kernel
theorem dX8_count_130 : decode cX8_count 130 = .ok (.getfield 9, 3) := by decide +kernel
theorem dX8_count_133 : decode cX8_count 133 = .ok (.bipush 8, 2) := by decide +kernel
theorem dX8_count_135 : decode cX8_count 135 = .ok (.iaload, 1) := by decide +kernel
theorem dX8_count_136 : decode cX8_count 136 = .ok (.ireturn, 1) := by decide +kernel
theorem dX8_count_137 : decode cX8_count 137 = .ok (.aload_n 0, 1) := by decide +kernel
theorem dX8_count_138 : decode cX8_count 138 = .ok (.getfield 289, 3) := by decide +kernel
theorem dX8_count_141 : decode cX8_count 141 = .ok (.ireturn, 1) := by decide +kernel
theorem dX8_count_142 : decode cX8_count 142 = .ok (.aload_n 0, 1) := by decide +kernel
theorem dX8_count_143 : decode cX8_count 143 = .ok (.getfield 214, 3) := by decide +kernel
theorem dX8_count_146 : decode cX8_count 146 = .ok (.ireturn, 1) := by decide +kernel
theorem dX8_count_147 : decode cX8_count 147 = .ok (.aload_n 0, 1) := by decide +kernel
theorem dX8_count_148 : decode cX8_count 148 = .ok (.getfield 9, 3) := by decide +kernel
theorem dX8_count_151 : decode cX8_count 151 = .ok (.iconst 0, 1) := by decide +kernel
theorem dX8_count_152 : decode cX8_count 152 = .ok (.iaload, 1) := by decide +kernel
theorem dX8_count_153 : decode cX8_count 153 = .ok (.ireturn, 1) := by decide +kernel
theorem dX8_count_154 : decode cX8_count 154 = .ok (.ldc 111, 2) := by decide +kernel
theorem dX8_count_156 : decode cX8_count 156 = .ok (.ireturn, 1) := by decide +kernel
end AM13e
