section AM13a
theorem dX0_init_0 : decode cX0_init 0 = .ok (.aload_n 0, 1) := by decide +kernel
theorem dX0_init_1 : decode cX0_init 1 = .ok (.invokespecial 5, 3) := by decide +kernel
theorem dX0_init_4 : decode cX0_init 4 = .ok (.aload_n 0, 1) := by decide +kernel
theorem dX0_init_5 : decode cX0_init 5 = .ok (.bipush 64, 2) := by decide +kernel
theorem dX0_init_7 : decode cX0_init 7 = .ok (.newarray .long, 2) := by decide +kernel
theorem dX0_init_9 : decode cX0_init 9 = .ok (.putfield 11, 3) := by decide +kernel
theorem dX0_init_12 : decode cX0_init 12 = .ok (.aload_n 0, 1) := by decide +kernel
theorem dX0_init_13 : decode cX0_init 13 = .ok (.bipush 6, 2) := by decide +kernel
theorem dX0_init_15 : decode cX0_init 15 = .ok (.newarray .long, 2) := by decide +kernel
theorem dX0_init_17 : decode cX0_init 17 = .ok (.putfield 15, 3) := by decide +kernel
theorem dX0_init_20 : decode cX0_init 20 = .ok (.aload_n 0, 1) := by decide +kernel
theorem dX0_init_21 : decode cX0_init 21 = .ok (.iconst 0, 1) := by decide +kernel
theorem dX0_init_22 : decode cX0_init 22 = .ok (.putfield 18, 3) := by decide +kernel
theorem dX0_init_25 : decode cX0_init 25 = .ok (.aload_n 0, 1) := by decide +kernel
theorem dX0_init_26 : decode cX0_init 26 = .ok (.lconst 0, 1) := by decide +kernel
theorem dX0_init_27 : decode cX0_init 27 = .ok (.putfield 22, 3) := by decide +kernel
theorem dX0_init_30 : decode cX0_init 30 = .ok (.return_, 1) := by decide +kernel
theorem dX0_solve_0 : decode cX0_solve 0 = .ok (.aload_n 0, 1) := by decide +kernel
theorem dX0_solve_1 : decode cX0_solve 1 = .ok (.aload_n 1, 1) := by decide +kernel
theorem dX0_solve_2 : decode cX0_solve 2 = .ok (.getfield 26, 3) := by decide +kernel
theorem dX0_solve_5 : decode cX0_solve 5 = .ok (.putfield 18, 3) := by decide +kernel
theorem dX0_solve_8 : decode cX0_solve 8 = .ok (.aload_n 0, 1) := by decide +kernel
theorem dX0_solve_9 : decode cX0_solve 9 = .ok (.getfield 11, 3) := by decide +kernel
theorem dX0_solve_12 : decode cX0_solve 12 = .ok (.ldc2_w 31, 3) := by decide +kernel
theorem dX0_solve_15 : decode cX0_solve 15 = .ok (.invokestatic 33, 3) := by decide +kernel
theorem dX0_solve_18 : decode cX0_solve 18 = .ok (.aload_n 0, 1) := by decide +kernel
theorem dX0_solve_19 : decode cX0_solve 19 = .ok (.getfield 11, 3) := by decide +kernel
theorem dX0_solve_22 : decode cX0_solve 22 = .ok (.iconst 0, 1) := by decide +kernel
theorem dX0_solve_23 : decode cX0_solve 23 = .ok (.lconst 0, 1) := by decide +kernel
theorem dX0_solve_24 : decode cX0_solve 24 = .ok (.lastore, 1) := by decide +kernel
theorem dX0_solve_25 : decode cX0_solve 25 = .ok (.iconst 0, 1) := by decide +kernel
theorem dX0_solve_26 : decode cX0_solve 26 = .ok (.istore 4, 2) := by decide +kernel
theorem dX0_solve_28 : decode cX0_solve 28 = .ok (.iload 4, 2) := by decide +kernel
theorem dX0_solve_30 : decode cX0_solve 30 = .ok (.aload_n 0, 1) := by decide +kernel
theorem dX0_solve_31 : decode cX0_solve 31 = .ok (.getfield 18, 3) := by decide +kernel
theorem dX0_solve_34 : decode cX0_solve 34 = .ok (.if_icmp .ge 32, 3) := by decide +kernel
theorem dX0_solve_37 : decode cX0_solve 37 = .ok (.aload_n 0, 1) := by decide +kernel
theorem dX0_solve_38 : decode cX0_solve 38 = .ok (.getfield 11, 3) := by decide +kernel
theorem dX0_solve_41 : decode cX0_solve 41 = .ok (.iconst 0, 1) := by decide +kernel
theorem dX0_solve_42 : decode cX0_solve 42 = .ok (.dup2, 1) := by decide +kernel
theorem dX0_solve_43 : decode cX0_solve 43 = .ok (.laload, 1) := by decide +kernel
theorem dX0_solve_44 : decode cX0_solve 44 = .ok (.ldc2_w 39, 3) := by decide +kernel
theorem dX0_solve_47 : decode cX0_solve 47 = .ok (.ldc2_w 41, 3) := by decide +kernel
theorem dX0_solve_50 : decode cX0_solve 50 = .ok (.getstatic 43, 3) := by decide +kernel
theorem dX0_solve_53 : decode cX0_solve 53 = .ok (.iload 4, 2) := by decide +kernel
theorem dX0_solve_55 : decode cX0_solve 55 = .ok (.laload, 1) := by decide +kernel
theorem dX0_solve_56 : decode cX0_solve 56 = .ok (.lmul, 1) := by decide +kernel
theorem dX0_solve_57 : decode cX0_solve 57 = .ok (.ladd, 1) := by decide +kernel
theorem dX0_solve_58 : decode cX0_solve 58 = .ok (.ladd, 1) := by decide +kernel
theorem dX0_solve_59 : decode cX0_solve 59 = .ok (.lastore, 1) := by decide +kernel
theorem dX0_solve_60 : decode cX0_solve 60 = .ok (.iinc 4 1, 3) := by decide +kernel
theorem dX0_solve_63 : decode cX0_solve 63 = .ok (.goto (-35), 3) := by decide +kernel
theorem dX0_solve_66 : decode cX0_solve 66 = .ok (.iconst 0, 1) := by decide +kernel
theorem dX0_solve_67 : decode cX0_solve 67 = .ok (.istore 4, 2) := by decide +kernel
theorem dX0_solve_69 : decode cX0_solve 69 = .ok (.iload 4, 2) := by decide +kernel
theorem dX0_solve_71 : decode cX0_solve 71 = .ok (.aload_n 1, 1) := by decide +kernel
theorem dX0_solve_72 : decode cX0_solve 72 = .ok (.getfield 46, 3) := by decide +kernel
theorem dX0_solve_75 : decode cX0_solve 75 = .ok (.if_icmp .ge 27, 3) := by decide +kernel
theorem dX0_solve_78 : decode cX0_solve 78 = .ok (.iload 4, 2) := by decide +kernel
theorem dX0_solve_80 : decode cX0_solve 80 = .ok (.iload_n 2, 1) := by decide +kernel
theorem dX0_solve_81 : decode cX0_solve 81 = .ok (.if_icmp .eq 15, 3) := by decide +kernel
theorem dX0_solve_84 : decode cX0_solve 84 = .ok (.aload_n 0, 1) := by decide +kernel
theorem dX0_solve_85 : decode cX0_solve 85 = .ok (.aload_n 1, 1) := by decide +kernel
theorem dX0_solve_86 : decode cX0_solve 86 = .ok (.iload 4, 2) := by decide +kernel
theorem dX0_solve_88 : decode cX0_solve 88 = .ok (.iload_n 3, 1) := by decide +kernel
theorem dX0_solve_89 : decode cX0_solve 89 = .ok (.invokevirtual 49, 3) := by decide +kernel
theorem dX0_solve_92 : decode cX0_solve 92 = .ok (.aload_n 0, 1) := by decide +kernel
theorem dX0_solve_93 : decode cX0_solve 93 = .ok (.invokevirtual 53, 3) := by decide +kernel
theorem dX0_solve_96 : decode cX0_solve 96 = .ok (.iinc 4 1, 3) := by decide +kernel
theorem dX0_solve_99 : decode cX0_solve 99 = .ok (.goto (-30), 3) := by decide +kernel
theorem dX0_solve_102 : decode cX0_solve 102 = .ok (.aload_n 0, 1) := by decide +kernel
theorem dX0_solve_103 : decode cX0_solve 103 = .ok (.ldc2_w 31, 3) := by decide +kernel
theorem dX0_solve_106 : decode cX0_solve 106 = .ok (.putfield 22, 3) := by decide +kernel
theorem dX0_solve_109 : decode cX0_solve 109 = .ok (.iconst 0, 1) := by decide +kernel
theorem dX0_solve_110 : decode cX0_solve 110 = .ok (.istore 4, 2) := by decide +kernel
theorem dX0_solve_112 : decode cX0_solve 112 = .ok (.iload 4, 2) := by decide +kernel
theorem dX0_solve_114 : decode cX0_solve 114 = .ok (.aload_n 0, 1) := by decide +kernel
theorem dX0_solve_115 : decode cX0_solve 115 = .ok (.getfield 11, 3) := by decide +kernel
theorem dX0_solve_118 : decode cX0_solve 118 = .ok (.arraylength, 1) := by decide +kernel
theorem dX0_solve_119 : decode cX0_solve 119 = .ok (.if_icmp .ge 27, 3) := by decide +kernel
theorem dX0_solve_122 : decode cX0_solve 122 = .ok (.aload_n 0, 1) := by decide +kernel
theorem dX0_solve_123 : decode cX0_solve 123 = .ok (.aload_n 0, 1) := by decide +kernel
theorem dX0_solve_124 : decode cX0_solve 124 = .ok (.getfield 22, 3) := by decide +kernel
theorem dX0_solve_127 : decode cX0_solve 127 = .ok (.aload_n 0, 1) := by decide +kernel
theorem dX0_solve_128 : decode cX0_solve 128 = .ok (.getfield 11, 3) := by decide +kernel
theorem dX0_solve_131 : decode cX0_solve 131 = .ok (.iload 4, 2) := by decide +kernel
theorem dX0_solve_133 : decode cX0_solve 133 = .ok (.laload, 1) := by decide +kernel
theorem dX0_solve_134 : decode cX0_solve 134 = .ok (.invokestatic 56, 3) := by decide +kernel
theorem dX0_solve_137 : decode cX0_solve 137 = .ok (.putfield 22, 3) := by decide +kernel
theorem dX0_solve_140 : decode cX0_solve 140 = .ok (.iinc 4 1, 3) := by decide +kernel
theorem dX0_solve_143 : decode cX0_solve 143 = .ok (.goto (-31), 3) := by decide +kernel
theorem dX0_solve_146 : decode cX0_solve 146 = .ok (.aload_n 0, 1) := by decide +kernel
theorem dX0_solve_147 : decode cX0_solve 147 = .ok (.getfield 18, 3) := by decide +kernel
theorem dX0_solve_150 : decode cX0_solve 150 = .ok (.aload_n 0, 1) := by decide +kernel
theorem dX0_solve_151 : decode cX0_solve 151 = .ok (.getfield 22, 3) := by decide +kernel
theorem dX0_solve_154 : decode cX0_solve 154 = .ok (.ldc2_w 39, 3) := by decide +kernel
theorem dX0_solve_157 : decode cX0_solve 157 = .ok (.ldiv, 1) := by decide +kernel
theorem dX0_solve_158 : decode cX0_solve 158 = .ok (.l2i, 1) := by decide +kernel
theorem dX0_solve_159 : decode cX0_solve 159 = .ok (.isub, 1) := by decide +kernel
theorem dX0_solve_160 : decode cX0_solve 160 = .ok (.ireturn, 1) := by decide +kernel
theorem dX0_price_0 : decode cX0_price 0 = .ok (.iconst 0, 1) := by decide +kernel
theorem dX0_price_1 : decode cX0_price 1 = .ok (.istore 4, 2) := by decide +kernel
theorem dX0_price_3 : decode cX0_price 3 = .ok (.iload 4, 2) := by decide +kernel
theorem dX0_price_5 : decode cX0_price 5 = .ok (.aload_n 0, 1) := by decide +kernel
theorem dX0_price_6 : decode cX0_price 6 = .ok (.getfield 18, 3) := by decide +kernel
theorem dX0_price_9 : decode cX0_price 9 = .ok (.if_icmp .ge 112, 3) := by decide +kernel
theorem dX0_price_12 : decode cX0_price 12 = .ok (.aload_n 1, 1) := by decide +kernel
theorem dX0_price_13 : decode cX0_price 13 = .ok (.getfield 62, 3) := by decide +kernel
theorem dX0_price_16 : decode cX0_price 16 = .ok (.iload 4, 2) := by decide +kernel
theorem dX0_price_18 : decode cX0_price 18 = .ok (.iaload, 1) := by decide +kernel
theorem dX0_price_19 : decode cX0_price 19 = .ok (.istore 5, 2) := by decide +kernel
theorem dX0_price_21 : decode cX0_price 21 = .ok (.aload_n 1, 1) := by decide +kernel
theorem dX0_price_22 : decode cX0_price 22 = .ok (.aload_n 1, 1) := by decide +kernel
theorem dX0_price_23 : decode cX0_price 23 = .ok (.getfield 66, 3) := by decide +kernel
theorem dX0_price_26 : decode cX0_price 26 = .ok (.iload 4, 2) := by decide +kernel
theorem dX0_price_28 : decode cX0_price 28 = .ok (.iaload, 1) := by decide +kernel
theorem dX0_price_29 : decode cX0_price 29 = .ok (.invokevirtual 69, 3) := by decide +kernel
theorem dX0_price_32 : decode cX0_price 32 = .ok (.istore 6, 2) := by decide +kernel
theorem dX0_price_34 : decode cX0_price 34 = .ok (.aload_n 0, 1) := by decide +kernel
theorem dX0_price_35 : decode cX0_price 35 = .ok (.getfield 15, 3) := by decide +kernel
theorem dX0_price_38 : decode cX0_price 38 = .ok (.iload 4, 2) := by decide +kernel
theorem dX0_price_40 : decode cX0_price 40 = .ok (.ldc2_w 31, 3) := by decide +kernel
theorem dX0_price_43 : decode cX0_price 43 = .ok (.lastore, 1) := by decide +kernel
theorem dX0_price_44 : decode cX0_price 44 = .ok (.iload 4, 2) := by decide +kernel
theorem dX0_price_46 : decode cX0_price 46 = .ok (.iload_n 3, 1) := by decide +kernel
theorem dX0_price_47 : decode cX0_price 47 = .ok (.if_icmp .eq 68, 3) := by decide +kernel
theorem dX0_price_50 : decode cX0_price 50 = .ok (.aload_n 1, 1) := by decide +kernel
theorem dX0_price_51 : decode cX0_price 51 = .ok (.aload_n 1, 1) := by decide +kernel
theorem dX0_price_52 : decode cX0_price 52 = .ok (.getfield 73, 3) := by decide +kernel
theorem dX0_price_55 : decode cX0_price 55 = .ok (.iload_n 2, 1) := by decide +kernel
theorem dX0_price_56 : decode cX0_price 56 = .ok (.aaload, 1) := by decide +kernel
theorem dX0_price_57 : decode cX0_price 57 = .ok (.iload 6, 2) := by decide +kernel
theorem dX0_price_59 : decode cX0_price 59 = .ok (.iload 5, 2) := by decide +kernel
theorem dX0_price_61 : decode cX0_price 61 = .ok (.invokevirtual 77, 3) := by decide +kernel
theorem dX0_price_64 : decode cX0_price 64 = .ok (.ifCond .eq 51, 3) := by decide +kernel
theorem dX0_price_67 : decode cX0_price 67 = .ok (.iload 5, 2) := by decide +kernel
theorem dX0_price_69 : decode cX0_price 69 = .ok (.aload_n 1, 1) := by decide +kernel
theorem dX0_price_70 : decode cX0_price 70 = .ok (.getfield 73, 3) := by decide +kernel
theorem dX0_price_73 : decode cX0_price 73 = .ok (.iload_n 2, 1) := by decide +kernel
theorem dX0_price_74 : decode cX0_price 74 = .ok (.aaload, 1) := by decide +kernel
theorem dX0_price_75 : decode cX0_price 75 = .ok (.getfield 81, 3) := by decide +kernel
theorem dX0_price_78 : decode cX0_price 78 = .ok (.isub, 1) := by decide +kernel
theorem dX0_price_79 : decode cX0_price 79 = .ok (.invokestatic 86, 3) := by decide +kernel
theorem dX0_price_82 : decode cX0_price 82 = .ok (.istore 7, 2) := by decide +kernel
theorem dX0_price_84 : decode cX0_price 84 = .ok (.aload_n 0, 1) := by decide +kernel
theorem dX0_price_85 : decode cX0_price 85 = .ok (.getfield 15, 3) := by decide +kernel
theorem dX0_price_88 : decode cX0_price 88 = .ok (.iload 4, 2) := by decide +kernel
theorem dX0_price_90 : decode cX0_price 90 = .ok (.iload 7, 2) := by decide +kernel
theorem dX0_price_92 : decode cX0_price 92 = .ok (.i2l, 1) := by decide +kernel
theorem dX0_price_93 : decode cX0_price 93 = .ok (.ldc2_w 89, 3) := by decide +kernel
theorem dX0_price_96 : decode cX0_price 96 = .ok (.lmul, 1) := by decide +kernel
theorem dX0_price_97 : decode cX0_price 97 = .ok (.ldc2_w 39, 3) := by decide +kernel
theorem dX0_price_100 : decode cX0_price 100 = .ok (.lsub, 1) := by decide +kernel
theorem dX0_price_101 : decode cX0_price 101 = .ok (.iload_n 2, 1) := by decide +kernel
theorem dX0_price_102 : decode cX0_price 102 = .ok (.bipush 10, 2) := by decide +kernel
theorem dX0_price_104 : decode cX0_price 104 = .ok (.isub, 1) := by decide +kernel
theorem dX0_price_105 : decode cX0_price 105 = .ok (.i2l, 1) := by decide +kernel
theorem dX0_price_106 : decode cX0_price 106 = .ok (.getstatic 43, 3) := by decide +kernel
theorem dX0_price_109 : decode cX0_price 109 = .ok (.iload 4, 2) := by decide +kernel
theorem dX0_price_111 : decode cX0_price 111 = .ok (.laload, 1) := by decide +kernel
theorem dX0_price_112 : decode cX0_price 112 = .ok (.lmul, 1) := by decide +kernel
theorem dX0_price_113 : decode cX0_price 113 = .ok (.ladd, 1) := by decide +kernel
theorem dX0_price_114 : decode cX0_price 114 = .ok (.lastore, 1) := by decide +kernel
theorem dX0_price_115 : decode cX0_price 115 = .ok (.iinc 4 1, 3) := by decide +kernel
theorem dX0_price_118 : decode cX0_price 118 = .ok (.goto (-115), 3) := by decide +kernel
theorem dX0_price_121 : decode cX0_price 121 = .ok (.return_, 1) := by decide +kernel
theorem dX0_offer_0 : decode cX0_offer 0 = .ok (.aload_n 0, 1) := by decide +kernel
theorem dX0_offer_1 : decode cX0_offer 1 = .ok (.getfield 11, 3) := by decide +kernel
theorem dX0_offer_4 : decode cX0_offer 4 = .ok (.arraylength, 1) := by decide +kernel
theorem dX0_offer_5 : decode cX0_offer 5 = .ok (.iconst 1, 1) := by decide +kernel
theorem dX0_offer_6 : decode cX0_offer 6 = .ok (.isub, 1) := by decide +kernel
theorem dX0_offer_7 : decode cX0_offer 7 = .ok (.istore_n 1, 1) := by decide +kernel
theorem dX0_offer_8 : decode cX0_offer 8 = .ok (.iload_n 1, 1) := by decide +kernel
theorem dX0_offer_9 : decode cX0_offer 9 = .ok (.ifCond .lt 90, 3) := by decide +kernel
theorem dX0_offer_12 : decode cX0_offer 12 = .ok (.iconst 0, 1) := by decide +kernel
theorem dX0_offer_13 : decode cX0_offer 13 = .ok (.istore_n 2, 1) := by decide +kernel
theorem dX0_offer_14 : decode cX0_offer 14 = .ok (.iload_n 2, 1) := by decide +kernel
theorem dX0_offer_15 : decode cX0_offer 15 = .ok (.aload_n 0, 1) := by decide +kernel
theorem dX0_offer_16 : decode cX0_offer 16 = .ok (.getfield 18, 3) := by decide +kernel
theorem dX0_offer_19 : decode cX0_offer 19 = .ok (.if_icmp .ge 74, 3) := by decide +kernel
theorem dX0_offer_22 : decode cX0_offer 22 = .ok (.aload_n 0, 1) := by decide +kernel
theorem dX0_offer_23 : decode cX0_offer 23 = .ok (.getfield 11, 3) := by decide +kernel
theorem dX0_offer_26 : decode cX0_offer 26 = .ok (.iload_n 1, 1) := by decide +kernel
theorem dX0_offer_27 : decode cX0_offer 27 = .ok (.laload, 1) := by decide +kernel
theorem dX0_offer_28 : decode cX0_offer 28 = .ok (.ldc2_w 31, 3) := by decide +kernel
theorem dX0_offer_31 : decode cX0_offer 31 = .ok (.lcmp, 1) := by decide +kernel
theorem dX0_offer_32 : decode cX0_offer 32 = .ok (.ifCond .eq 61, 3) := by decide +kernel
theorem dX0_offer_35 : decode cX0_offer 35 = .ok (.iload_n 1, 1) := by decide +kernel
theorem dX0_offer_36 : decode cX0_offer 36 = .ok (.iconst 1, 1) := by decide +kernel
theorem dX0_offer_37 : decode cX0_offer 37 = .ok (.iload_n 2, 1) := by decide +kernel
theorem dX0_offer_38 : decode cX0_offer 38 = .ok (.ishl, 1) := by decide +kernel
theorem dX0_offer_39 : decode cX0_offer 39 = .ok (.ior, 1) := by decide +kernel
theorem dX0_offer_40 : decode cX0_offer 40 = .ok (.istore_n 3, 1) := by decide +kernel
theorem dX0_offer_41 : decode cX0_offer 41 = .ok (.iload_n 3, 1) := by decide +kernel
theorem dX0_offer_42 : decode cX0_offer 42 = .ok (.iload_n 1, 1) := by decide +kernel
theorem dX0_offer_43 : decode cX0_offer 43 = .ok (.if_icmp .eq 44, 3) := by decide +kernel
theorem dX0_offer_46 : decode cX0_offer 46 = .ok (.aload_n 0, 1) := by decide +kernel
theorem dX0_offer_47 : decode cX0_offer 47 = .ok (.getfield 15, 3) := by decide +kernel
theorem dX0_offer_50 : decode cX0_offer 50 = .ok (.iload_n 2, 1) := by decide +kernel
theorem dX0_offer_51 : decode cX0_offer 51 = .ok (.laload, 1) := by decide +kernel
theorem dX0_offer_52 : decode cX0_offer 52 = .ok (.ldc2_w 31, 3) := by decide +kernel
theorem dX0_offer_55 : decode cX0_offer 55 = .ok (.lcmp, 1) := by decide +kernel
theorem dX0_offer_56 : decode cX0_offer 56 = .ok (.ifCond .eq 31, 3) := by decide +kernel
theorem dX0_offer_59 : decode cX0_offer 59 = .ok (.aload_n 0, 1) := by decide +kernel
theorem dX0_offer_60 : decode cX0_offer 60 = .ok (.getfield 11, 3) := by decide +kernel
theorem dX0_offer_63 : decode cX0_offer 63 = .ok (.iload_n 3, 1) := by decide +kernel
theorem dX0_offer_64 : decode cX0_offer 64 = .ok (.aload_n 0, 1) := by decide +kernel
theorem dX0_offer_65 : decode cX0_offer 65 = .ok (.getfield 11, 3) := by decide +kernel
theorem dX0_offer_68 : decode cX0_offer 68 = .ok (.iload_n 3, 1) := by decide +kernel
theorem dX0_offer_69 : decode cX0_offer 69 = .ok (.laload, 1) := by decide +kernel
theorem dX0_offer_70 : decode cX0_offer 70 = .ok (.aload_n 0, 1) := by decide +kernel
theorem dX0_offer_71 : decode cX0_offer 71 = .ok (.getfield 11, 3) := by decide +kernel
theorem dX0_offer_74 : decode cX0_offer 74 = .ok (.iload_n 1, 1) := by decide +kernel
theorem dX0_offer_75 : decode cX0_offer 75 = .ok (.laload, 1) := by decide +kernel
theorem dX0_offer_76 : decode cX0_offer 76 = .ok (.aload_n 0, 1) := by decide +kernel
theorem dX0_offer_77 : decode cX0_offer 77 = .ok (.getfield 15, 3) := by decide +kernel
theorem dX0_offer_80 : decode cX0_offer 80 = .ok (.iload_n 2, 1) := by decide +kernel
theorem dX0_offer_81 : decode cX0_offer 81 = .ok (.laload, 1) := by decide +kernel
theorem dX0_offer_82 : decode cX0_offer 82 = .ok (.ladd, 1) := by decide +kernel
theorem dX0_offer_83 : decode cX0_offer 83 = .ok (.invokestatic 56, 3) := by decide +kernel
theorem dX0_offer_86 : decode cX0_offer 86 = .ok (.lastore, 1) := by decide +kernel
theorem dX0_offer_87 : decode cX0_offer 87 = .ok (.iinc 2 1, 3) := by decide +kernel
theorem dX0_offer_90 : decode cX0_offer 90 = .ok (.goto (-76), 3) := by decide +kernel
theorem dX0_offer_93 : decode cX0_offer 93 = .ok (.iinc 1 (-1), 3) := by decide +kernel
theorem dX0_offer_96 : decode cX0_offer 96 = .ok (.goto (-88), 3) := by decide +kernel
theorem dX0_offer_99 : decode cX0_offer 99 = .ok (.return_, 1) := by decide +kernel
theorem dX0_miles_0 : decode cX0_miles 0 = .ok (.aload_n 0, 1) := by decide +kernel
theorem dX0_miles_1 : decode cX0_miles 1 = .ok (.getfield 22, 3) := by decide +kernel
theorem dX0_miles_4 : decode cX0_miles 4 = .ok (.ldc2_w 39, 3) := by decide +kernel
theorem dX0_miles_7 : decode cX0_miles 7 = .ok (.lrem, 1) := by decide +kernel
theorem dX0_miles_8 : decode cX0_miles 8 = .ok (.ldc2_w 89, 3) := by decide +kernel
theorem dX0_miles_11 : decode cX0_miles 11 = .ok (.ldiv, 1) := by decide +kernel
theorem dX0_miles_12 : decode cX0_miles 12 = .ok (.l2i, 1) := by decide +kernel
theorem dX0_miles_13 : decode cX0_miles 13 = .ok (.ireturn, 1) := by decide +kernel
theorem dX0_holeOf_0 : decode cX0_holeOf 0 = .ok (.iload_n 1, 1) := by decide +kernel
theorem dX0_holeOf_1 : decode cX0_holeOf 1 = .ok (.ifCond .lt 11, 3) := by decide +kernel
theorem dX0_holeOf_4 : decode cX0_holeOf 4 = .ok (.iload_n 1, 1) := by decide +kernel
theorem dX0_holeOf_5 : decode cX0_holeOf 5 = .ok (.aload_n 0, 1) := by decide +kernel
theorem dX0_holeOf_6 : decode cX0_holeOf 6 = .ok (.getfield 18, 3) := by decide +kernel
theorem dX0_holeOf_9 : decode cX0_holeOf 9 = .ok (.if_icmp .lt 6, 3) := by decide +kernel
theorem dX0_holeOf_12 : decode cX0_holeOf 12 = .ok (.ldc 91, 2) := by decide +kernel
theorem dX0_holeOf_14 : decode cX0_holeOf 14 = .ok (.ireturn, 1) := by decide +kernel
theorem dX0_holeOf_15 : decode cX0_holeOf 15 = .ok (.aload_n 0, 1) := by decide +kernel
theorem dX0_holeOf_16 : decode cX0_holeOf 16 = .ok (.getfield 22, 3) := by decide +kernel
theorem dX0_holeOf_19 : decode cX0_holeOf 19 = .ok (.ldc2_w 89, 3) := by decide +kernel
theorem dX0_holeOf_22 : decode cX0_holeOf 22 = .ok (.lrem, 1) := by decide +kernel
theorem dX0_holeOf_23 : decode cX0_holeOf 23 = .ok (.getstatic 43, 3) := by decide +kernel
theorem dX0_holeOf_26 : decode cX0_holeOf 26 = .ok (.iload_n 1, 1) := by decide +kernel
theorem dX0_holeOf_27 : decode cX0_holeOf 27 = .ok (.laload, 1) := by decide +kernel
theorem dX0_holeOf_28 : decode cX0_holeOf 28 = .ok (.ldiv, 1) := by decide +kernel
theorem dX0_holeOf_29 : decode cX0_holeOf 29 = .ok (.ldc2_w 92, 3) := by decide +kernel
theorem dX0_holeOf_32 : decode cX0_holeOf 32 = .ok (.lrem, 1) := by decide +kernel
theorem dX0_holeOf_33 : decode cX0_holeOf 33 = .ok (.l2i, 1) := by decide +kernel
theorem dX0_holeOf_34 : decode cX0_holeOf 34 = .ok (.istore_n 2, 1) := by decide +kernel
theorem dX0_holeOf_35 : decode cX0_holeOf 35 = .ok (.iload_n 2, 1) := by decide +kernel
theorem dX0_holeOf_36 : decode cX0_holeOf 36 = .ok (.bipush 10, 2) := by decide +kernel
theorem dX0_holeOf_38 : decode cX0_holeOf 38 = .ok (.if_icmp .ne 8, 3) := by decide +kernel
theorem dX0_holeOf_41 : decode cX0_holeOf 41 = .ok (.ldc 91, 2) := by decide +kernel
theorem dX0_holeOf_43 : decode cX0_holeOf 43 = .ok (.goto 4, 3) := by decide +kernel
theorem dX0_holeOf_46 : decode cX0_holeOf 46 = .ok (.iload_n 2, 1) := by decide +kernel
theorem dX0_holeOf_47 : decode cX0_holeOf 47 = .ok (.ireturn, 1) := by decide +kernel
theorem dX1_init_0 : decode cX1_init 0 = .ok (.aload_n 0, 1) := by decide +kernel
theorem dX1_init_1 : decode cX1_init 1 = .ok (.invokespecial 3, 3) := by decide +kernel
theorem dX1_init_4 : decode cX1_init 4 = .ok (.aload_n 0, 1) := by decide +kernel
theorem dX1_init_5 : decode cX1_init 5 = .ok (.iconst 0, 1) := by decide +kernel
theorem dX1_init_6 : decode cX1_init 6 = .ok (.putfield 9, 3) := by decide +kernel
theorem dX1_init_9 : decode cX1_init 9 = .ok (.aload_n 0, 1) := by decide +kernel
theorem dX1_init_10 : decode cX1_init 10 = .ok (.iconst 0, 1) := by decide +kernel
theorem dX1_init_11 : decode cX1_init 11 = .ok (.putfield 15, 3) := by decide +kernel
theorem dX1_init_14 : decode cX1_init 14 = .ok (.aload_n 0, 1) := by decide +kernel
theorem dX1_init_15 : decode cX1_init 15 = .ok (.iconst 0, 1) := by decide +kernel
theorem dX1_init_16 : decode cX1_init 16 = .ok (.putfield 18, 3) := by decide +kernel
theorem dX1_init_19 : decode cX1_init 19 = .ok (.aload_n 0, 1) := by decide +kernel
theorem dX1_init_20 : decode cX1_init 20 = .ok (.iconst 0, 1) := by decide +kernel
theorem dX1_init_21 : decode cX1_init 21 = .ok (.putfield 21, 3) := by decide +kernel
theorem dX1_init_24 : decode cX1_init 24 = .ok (.aload_n 0, 1) := by decide +kernel
theorem dX1_init_25 : decode cX1_init 25 = .ok (.iconst 0, 1) := by decide +kernel
theorem dX1_init_26 : decode cX1_init 26 = .ok (.putfield 24, 3) := by decide +kernel
theorem dX1_init_29 : decode cX1_init 29 = .ok (.return_, 1) := by decide +kernel
theorem dX1_start_0 : decode cX1_start 0 = .ok (.aload_n 0, 1) := by decide +kernel
theorem dX1_start_1 : decode cX1_start 1 = .ok (.iload_n 1, 1) := by decide +kernel
theorem dX1_start_2 : decode cX1_start 2 = .ok (.putfield 9, 3) := by decide +kernel
theorem dX1_start_5 : decode cX1_start 5 = .ok (.aload_n 0, 1) := by decide +kernel
theorem dX1_start_6 : decode cX1_start 6 = .ok (.iload_n 2, 1) := by decide +kernel
theorem dX1_start_7 : decode cX1_start 7 = .ok (.putfield 15, 3) := by decide +kernel
theorem dX1_start_10 : decode cX1_start 10 = .ok (.aload_n 0, 1) := by decide +kernel
theorem dX1_start_11 : decode cX1_start 11 = .ok (.iload_n 3, 1) := by decide +kernel
theorem dX1_start_12 : decode cX1_start 12 = .ok (.putfield 18, 3) := by decide +kernel
theorem dX1_start_15 : decode cX1_start 15 = .ok (.aload_n 0, 1) := by decide +kernel
theorem dX1_start_16 : decode cX1_start 16 = .ok (.iload 4, 2) := by decide +kernel
theorem dX1_start_18 : decode cX1_start 18 = .ok (.putfield 21, 3) := by decide +kernel
theorem dX1_start_21 : decode cX1_start 21 = .ok (.aload_n 0, 1) := by decide +kernel
theorem dX1_start_22 : decode cX1_start 22 = .ok (.iconst 0, 1) := by decide +kernel
theorem dX1_start_23 : decode cX1_start 23 = .ok (.putfield 24, 3) := by decide +kernel
theorem dX1_start_26 : decode cX1_start 26 = .ok (.return_, 1) := by decide +kernel
theorem dX1_become_0 : decode cX1_become 0 = .ok (.aload_n 0, 1) := by decide +kernel
theorem dX1_become_1 : decode cX1_become 1 = .ok (.aload_n 1, 1) := by decide +kernel
theorem dX1_become_2 : decode cX1_become 2 = .ok (.getfield 9, 3) := by decide +kernel
theorem dX1_become_5 : decode cX1_become 5 = .ok (.aload_n 1, 1) := by decide +kernel
theorem dX1_become_6 : decode cX1_become 6 = .ok (.getfield 15, 3) := by decide +kernel
theorem dX1_become_9 : decode cX1_become 9 = .ok (.aload_n 1, 1) := by decide +kernel
theorem dX1_become_10 : decode cX1_become 10 = .ok (.getfield 18, 3) := by decide +kernel
theorem dX1_become_13 : decode cX1_become 13 = .ok (.aload_n 1, 1) := by decide +kernel
theorem dX1_become_14 : decode cX1_become 14 = .ok (.getfield 21, 3) := by decide +kernel
theorem dX1_become_17 : decode cX1_become 17 = .ok (.invokevirtual 27, 3) := by decide +kernel
theorem dX1_become_20 : decode cX1_become 20 = .ok (.aload_n 0, 1) := by decide +kernel
theorem dX1_become_21 : decode cX1_become 21 = .ok (.aload_n 1, 1) := by decide +kernel
theorem dX1_become_22 : decode cX1_become 22 = .ok (.getfield 24, 3) := by decide +kernel
theorem dX1_become_25 : decode cX1_become 25 = .ok (.putfield 24, 3) := by decide +kernel
theorem dX1_become_28 : decode cX1_become 28 = .ok (.return_, 1) := by decide +kernel
theorem dX1_part_0 : decode cX1_part 0 = .ok (.iload_n 1, 1) := by decide +kernel
theorem dX1_part_1 : decode cX1_part 1 = .ok (.tableswitch 60 0 4 #[35, 40, 45, 50, 55], 35) := by decide +kernel
theorem dX1_part_36 : decode cX1_part 36 = .ok (.aload_n 0, 1) := by decide +kernel
theorem dX1_part_37 : decode cX1_part 37 = .ok (.getfield 9, 3) := by decide +kernel
theorem dX1_part_40 : decode cX1_part 40 = .ok (.ireturn, 1) := by decide +kernel
theorem dX1_part_41 : decode cX1_part 41 = .ok (.aload_n 0, 1) := by decide +kernel
theorem dX1_part_42 : decode cX1_part 42 = .ok (.getfield 15, 3) := by decide +kernel
theorem dX1_part_45 : decode cX1_part 45 = .ok (.ireturn, 1) := by decide +kernel
theorem dX1_part_46 : decode cX1_part 46 = .ok (.aload_n 0, 1) := by decide +kernel
theorem dX1_part_47 : decode cX1_part 47 = .ok (.getfield 18, 3) := by decide +kernel
theorem dX1_part_50 : decode cX1_part 50 = .ok (.ireturn, 1) := by decide +kernel
theorem dX1_part_51 : decode cX1_part 51 = .ok (.aload_n 0, 1) := by decide +kernel
theorem dX1_part_52 : decode cX1_part 52 = .ok (.getfield 21, 3) := by decide +kernel
theorem dX1_part_55 : decode cX1_part 55 = .ok (.ireturn, 1) := by decide +kernel
theorem dX1_part_56 : decode cX1_part 56 = .ok (.aload_n 0, 1) := by decide +kernel
theorem dX1_part_57 : decode cX1_part 57 = .ok (.getfield 24, 3) := by decide +kernel
theorem dX1_part_60 : decode cX1_part 60 = .ok (.ireturn, 1) := by decide +kernel
theorem dX1_part_61 : decode cX1_part 61 = .ok (.aload_n 0, 1) := by decide +kernel
theorem dX1_part_62 : decode cX1_part 62 = .ok (.invokevirtual 31, 3) := by decide +kernel
theorem dX1_part_65 : decode cX1_part 65 = .ok (.ireturn, 1) := by decide +kernel
theorem dX1_change_0 : decode cX1_change 0 = .ok (.iload_n 1, 1) := by decide +kernel
theorem dX1_change_1 : decode cX1_change 1 = .ok (.tableswitch 63 1 4 #[31, 39, 47, 55], 31) := by decide +kernel
theorem dX1_change_32 : decode cX1_change 32 = .ok (.aload_n 0, 1) := by decide +kernel
theorem dX1_change_33 : decode cX1_change 33 = .ok (.iload_n 2, 1) := by decide +kernel
theorem dX1_change_34 : decode cX1_change 34 = .ok (.putfield 15, 3) := by decide +kernel
theorem dX1_change_37 : decode cX1_change 37 = .ok (.goto 27, 3) := by decide +kernel
theorem dX1_change_40 : decode cX1_change 40 = .ok (.aload_n 0, 1) := by decide +kernel
theorem dX1_change_41 : decode cX1_change 41 = .ok (.iload_n 2, 1) := by decide +kernel
theorem dX1_change_42 : decode cX1_change 42 = .ok (.putfield 18, 3) := by decide +kernel
theorem dX1_change_45 : decode cX1_change 45 = .ok (.goto 19, 3) := by decide +kernel
theorem dX1_change_48 : decode cX1_change 48 = .ok (.aload_n 0, 1) := by decide +kernel
theorem dX1_change_49 : decode cX1_change 49 = .ok (.iload_n 2, 1) := by decide +kernel
theorem dX1_change_50 : decode cX1_change 50 = .ok (.putfield 21, 3) := by decide +kernel
theorem dX1_change_53 : decode cX1_change 53 = .ok (.goto 11, 3) := by decide +kernel
theorem dX1_change_56 : decode cX1_change 56 = .ok (.aload_n 0, 1) := by decide +kernel
theorem dX1_change_57 : decode cX1_change 57 = .ok (.iload_n 2, 1) := by decide +kernel
theorem dX1_change_58 : decode cX1_change 58 = .ok (.putfield 24, 3) := by decide +kernel
theorem dX1_change_61 : decode cX1_change 61 = .ok (.goto 3, 3) := by decide +kernel
theorem dX1_change_64 : decode cX1_change 64 = .ok (.return_, 1) := by decide +kernel
theorem dX1_isOf_0 : decode cX1_isOf 0 = .ok (.aload_n 0, 1) := by decide +kernel
theorem dX1_isOf_1 : decode cX1_isOf 1 = .ok (.getfield 9, 3) := by decide +kernel
theorem dX1_isOf_4 : decode cX1_isOf 4 = .ok (.istore_n 2, 1) := by decide +kernel
theorem dX1_isOf_5 : decode cX1_isOf 5 = .ok (.iconst 0, 1) := by decide +kernel
theorem dX1_isOf_6 : decode cX1_isOf 6 = .ok (.istore_n 3, 1) := by decide +kernel
theorem dX1_isOf_7 : decode cX1_isOf 7 = .ok (.iload_n 3, 1) := by decide +kernel
theorem dX1_isOf_8 : decode cX1_isOf 8 = .ok (.getstatic 35, 3) := by decide +kernel
theorem dX1_isOf_11 : decode cX1_isOf 11 = .ok (.arraylength, 1) := by decide +kernel
theorem dX1_isOf_12 : decode cX1_isOf 12 = .ok (.if_icmp .ge 34, 3) := by decide +kernel
theorem dX1_isOf_15 : decode cX1_isOf 15 = .ok (.iload_n 2, 1) := by decide +kernel
theorem dX1_isOf_16 : decode cX1_isOf 16 = .ok (.ifCond .lt 30, 3) := by decide +kernel
theorem dX1_isOf_19 : decode cX1_isOf 19 = .ok (.iload_n 2, 1) := by decide +kernel
theorem dX1_isOf_20 : decode cX1_isOf 20 = .ok (.getstatic 35, 3) := by decide +kernel
theorem dX1_isOf_23 : decode cX1_isOf 23 = .ok (.arraylength, 1) := by decide +kernel
theorem dX1_isOf_24 : decode cX1_isOf 24 = .ok (.if_icmp .ge 22, 3) := by decide +kernel
theorem dX1_isOf_27 : decode cX1_isOf 27 = .ok (.iload_n 2, 1) := by decide +kernel
theorem dX1_isOf_28 : decode cX1_isOf 28 = .ok (.iload_n 1, 1) := by decide +kernel
theorem dX1_isOf_29 : decode cX1_isOf 29 = .ok (.if_icmp .ne 5, 3) := by decide +kernel
theorem dX1_isOf_32 : decode cX1_isOf 32 = .ok (.iconst 1, 1) := by decide +kernel
theorem dX1_isOf_33 : decode cX1_isOf 33 = .ok (.ireturn, 1) := by decide +kernel
theorem dX1_isOf_34 : decode cX1_isOf 34 = .ok (.getstatic 35, 3) := by decide +kernel
theorem dX1_isOf_37 : decode cX1_isOf 37 = .ok (.iload_n 2, 1) := by decide +kernel
theorem dX1_isOf_38 : decode cX1_isOf 38 = .ok (.iaload, 1) := by decide +kernel
theorem dX1_isOf_39 : decode cX1_isOf 39 = .ok (.istore_n 2, 1) := by decide +kernel
theorem dX1_isOf_40 : decode cX1_isOf 40 = .ok (.iinc 3 1, 3) := by decide +kernel
theorem dX1_isOf_43 : decode cX1_isOf 43 = .ok (.goto (-36), 3) := by decide +kernel
theorem dX1_isOf_46 : decode cX1_isOf 46 = .ok (.iconst 0, 1) := by decide +kernel
theorem dX1_isOf_47 : decode cX1_isOf 47 = .ok (.ireturn, 1) := by decide +kernel
theorem dX1_worth_0 : decode cX1_worth 0 = .ok (.aload_n 0, 1) := by decide +kernel
theorem dX1_worth_1 : decode cX1_worth 1 = .ok (.getfield 9, 3) := by decide +kernel
theorem dX1_worth_4 : decode cX1_worth 4 = .ok (.tableswitch 82 1 5 #[36, 58, 46, 66, 77], 36) := by decide +kernel
theorem dX1_worth_40 : decode cX1_worth 40 = .ok (.aload_n 0, 1) := by decide +kernel
theorem dX1_worth_41 : decode cX1_worth 41 = .ok (.getfield 18, 3) := by decide +kernel
theorem dX1_worth_44 : decode cX1_worth 44 = .ok (.aload_n 0, 1) := by decide +kernel
theorem dX1_worth_45 : decode cX1_worth 45 = .ok (.getfield 21, 3) := by decide +kernel
theorem dX1_worth_48 : decode cX1_worth 48 = .ok (.iadd, 1) := by decide +kernel
theorem dX1_worth_49 : decode cX1_worth 49 = .ok (.ireturn, 1) := by decide +kernel
theorem dX1_worth_50 : decode cX1_worth 50 = .ok (.iconst 2, 1) := by decide +kernel
theorem dX1_worth_51 : decode cX1_worth 51 = .ok (.aload_n 0, 1) := by decide +kernel
theorem dX1_worth_52 : decode cX1_worth 52 = .ok (.getfield 18, 3) := by decide +kernel
theorem dX1_worth_55 : decode cX1_worth 55 = .ok (.aload_n 0, 1) := by decide +kernel
theorem dX1_worth_56 : decode cX1_worth 56 = .ok (.getfield 21, 3) := by decide +kernel
theorem dX1_worth_59 : decode cX1_worth 59 = .ok (.iadd, 1) := by decide +kernel
theorem dX1_worth_60 : decode cX1_worth 60 = .ok (.imul, 1) := by decide +kernel
theorem dX1_worth_61 : decode cX1_worth 61 = .ok (.ireturn, 1) := by decide +kernel
theorem dX1_worth_62 : decode cX1_worth 62 = .ok (.bipush 120, 2) := by decide +kernel
theorem dX1_worth_64 : decode cX1_worth 64 = .ok (.aload_n 0, 1) := by decide +kernel
theorem dX1_worth_65 : decode cX1_worth 65 = .ok (.getfield 18, 3) := by decide +kernel
theorem dX1_worth_68 : decode cX1_worth 68 = .ok (.isub, 1) := by decide +kernel
theorem dX1_worth_69 : decode cX1_worth 69 = .ok (.ireturn, 1) := by decide +kernel
theorem dX1_worth_70 : decode cX1_worth 70 = .ok (.bipush 120, 2) := by decide +kernel
theorem dX1_worth_72 : decode cX1_worth 72 = .ok (.aload_n 0, 1) := by decide +kernel
theorem dX1_worth_73 : decode cX1_worth 73 = .ok (.getfield 18, 3) := by decide +kernel
theorem dX1_worth_76 : decode cX1_worth 76 = .ok (.isub, 1) := by decide +kernel
theorem dX1_worth_77 : decode cX1_worth 77 = .ok (.bipush 9, 2) := by decide +kernel
theorem dX1_worth_79 : decode cX1_worth 79 = .ok (.isub, 1) := by decide +kernel
theorem dX1_worth_80 : decode cX1_worth 80 = .ok (.ireturn, 1) := by decide +kernel
theorem dX1_worth_81 : decode cX1_worth 81 = .ok (.aload_n 0, 1) := by decide +kernel
theorem dX1_worth_82 : decode cX1_worth 82 = .ok (.getfield 15, 3) := by decide +kernel
theorem dX1_worth_85 : decode cX1_worth 85 = .ok (.ireturn, 1) := by decide +kernel
theorem dX1_worth_86 : decode cX1_worth 86 = .ok (.aload_n 0, 1) := by decide +kernel
theorem dX1_worth_87 : decode cX1_worth 87 = .ok (.getfield 18, 3) := by decide +kernel
theorem dX1_worth_90 : decode cX1_worth 90 = .ok (.ireturn, 1) := by decide +kernel
theorem dX2_init_0 : decode cX2_init 0 = .ok (.aload_n 0, 1) := by decide +kernel
theorem dX2_init_1 : decode cX2_init 1 = .ok (.invokespecial 3, 3) := by decide +kernel
theorem dX2_init_4 : decode cX2_init 4 = .ok (.aload_n 0, 1) := by decide +kernel
theorem dX2_init_5 : decode cX2_init 5 = .ok (.bipush 10, 2) := by decide +kernel
theorem dX2_init_7 : decode cX2_init 7 = .ok (.anewarray 9, 3) := by decide +kernel
theorem dX2_init_10 : decode cX2_init 10 = .ok (.putfield 11, 3) := by decide +kernel
theorem dX2_init_13 : decode cX2_init 13 = .ok (.aload_n 0, 1) := by decide +kernel
theorem dX2_init_14 : decode cX2_init 14 = .ok (.iconst 0, 1) := by decide +kernel
theorem dX2_init_15 : decode cX2_init 15 = .ok (.putfield 17, 3) := by decide +kernel
theorem dX2_init_18 : decode cX2_init 18 = .ok (.aload_n 0, 1) := by decide +kernel
theorem dX2_init_19 : decode cX2_init 19 = .ok (.bipush 6, 2) := by decide +kernel
theorem dX2_init_21 : decode cX2_init 21 = .ok (.newarray .int, 2) := by decide +kernel
theorem dX2_init_23 : decode cX2_init 23 = .ok (.putfield 21, 3) := by decide +kernel
theorem dX2_init_26 : decode cX2_init 26 = .ok (.aload_n 0, 1) := by decide +kernel
theorem dX2_init_27 : decode cX2_init 27 = .ok (.bipush 6, 2) := by decide +kernel
theorem dX2_init_29 : decode cX2_init 29 = .ok (.newarray .int, 2) := by decide +kernel
theorem dX2_init_31 : decode cX2_init 31 = .ok (.putfield 25, 3) := by decide +kernel
theorem dX2_init_34 : decode cX2_init 34 = .ok (.aload_n 0, 1) := by decide +kernel
theorem dX2_init_35 : decode cX2_init 35 = .ok (.iconst 0, 1) := by decide +kernel
theorem dX2_init_36 : decode cX2_init 36 = .ok (.putfield 28, 3) := by decide +kernel
theorem dX2_init_39 : decode cX2_init 39 = .ok (.aload_n 0, 1) := by decide +kernel
theorem dX2_init_40 : decode cX2_init 40 = .ok (.bipush 14, 2) := by decide +kernel
theorem dX2_init_42 : decode cX2_init 42 = .ok (.anewarray 31, 3) := by decide +kernel
theorem dX2_init_45 : decode cX2_init 45 = .ok (.putfield 33, 3) := by decide +kernel
theorem dX2_init_48 : decode cX2_init 48 = .ok (.aload_n 0, 1) := by decide +kernel
theorem dX2_init_49 : decode cX2_init 49 = .ok (.iconst 0, 1) := by decide +kernel
theorem dX2_init_50 : decode cX2_init 50 = .ok (.putfield 37, 3) := by decide +kernel
theorem dX2_init_53 : decode cX2_init 53 = .ok (.aload_n 0, 1) := by decide +kernel
theorem dX2_init_54 : decode cX2_init 54 = .ok (.iconst 3, 1) := by decide +kernel
theorem dX2_init_55 : decode cX2_init 55 = .ok (.newarray .int, 2) := by decide +kernel
theorem dX2_init_57 : decode cX2_init 57 = .ok (.dup, 1) := by decide +kernel
theorem dX2_init_58 : decode cX2_init 58 = .ok (.iconst 0, 1) := by decide +kernel
theorem dX2_init_59 : decode cX2_init 59 = .ok (.iconst (-1), 1) := by decide +kernel
theorem dX2_init_60 : decode cX2_init 60 = .ok (.iastore, 1) := by decide +kernel
theorem dX2_init_61 : decode cX2_init 61 = .ok (.dup, 1) := by decide +kernel
theorem dX2_init_62 : decode cX2_init 62 = .ok (.iconst 1, 1) := by decide +kernel
theorem dX2_init_63 : decode cX2_init 63 = .ok (.iconst (-1), 1) := by decide +kernel
theorem dX2_init_64 : decode cX2_init 64 = .ok (.iastore, 1) := by decide +kernel
theorem dX2_init_65 : decode cX2_init 65 = .ok (.dup, 1) := by decide +kernel
theorem dX2_init_66 : decode cX2_init 66 = .ok (.iconst 2, 1) := by decide +kernel
theorem dX2_init_67 : decode cX2_init 67 = .ok (.iconst (-1), 1) := by decide +kernel
theorem dX2_init_68 : decode cX2_init 68 = .ok (.iastore, 1) := by decide +kernel
theorem dX2_init_69 : decode cX2_init 69 = .ok (.putfield 40, 3) := by decide +kernel
theorem dX2_init_72 : decode cX2_init 72 = .ok (.aload_n 0, 1) := by decide +kernel
theorem dX2_init_73 : decode cX2_init 73 = .ok (.bipush 10, 2) := by decide +kernel
theorem dX2_init_75 : decode cX2_init 75 = .ok (.putfield 43, 3) := by decide +kernel
theorem dX2_init_78 : decode cX2_init 78 = .ok (.aload_n 0, 1) := by decide +kernel
theorem dX2_init_79 : decode cX2_init 79 = .ok (.bipush 120, 2) := by decide +kernel
theorem dX2_init_81 : decode cX2_init 81 = .ok (.putfield 46, 3) := by decide +kernel
theorem dX2_init_84 : decode cX2_init 84 = .ok (.aload_n 0, 1) := by decide +kernel
theorem dX2_init_85 : decode cX2_init 85 = .ok (.iconst 0, 1) := by decide +kernel
theorem dX2_init_86 : decode cX2_init 86 = .ok (.putfield 49, 3) := by decide +kernel
theorem dX2_init_89 : decode cX2_init 89 = .ok (.aload_n 0, 1) := by decide +kernel
theorem dX2_init_90 : decode cX2_init 90 = .ok (.iconst 0, 1) := by decide +kernel
theorem dX2_init_91 : decode cX2_init 91 = .ok (.putfield 52, 3) := by decide +kernel
theorem dX2_init_94 : decode cX2_init 94 = .ok (.aload_n 0, 1) := by decide +kernel
theorem dX2_init_95 : decode cX2_init 95 = .ok (.iconst 0, 1) := by decide +kernel
theorem dX2_init_96 : decode cX2_init 96 = .ok (.putfield 55, 3) := by decide +kernel
theorem dX2_init_99 : decode cX2_init 99 = .ok (.aload_n 0, 1) := by decide +kernel
theorem dX2_init_100 : decode cX2_init 100 = .ok (.iconst 1, 1) := by decide +kernel
theorem dX2_init_101 : decode cX2_init 101 = .ok (.putfield 58, 3) := by decide +kernel
theorem dX2_init_104 : decode cX2_init 104 = .ok (.iconst 0, 1) := by decide +kernel
theorem dX2_init_105 : decode cX2_init 105 = .ok (.istore_n 1, 1) := by decide +kernel
theorem dX2_init_106 : decode cX2_init 106 = .ok (.iload_n 1, 1) := by decide +kernel
theorem dX2_init_107 : decode cX2_init 107 = .ok (.bipush 10, 2) := by decide +kernel
theorem dX2_init_109 : decode cX2_init 109 = .ok (.if_icmp .ge 22, 3) := by decide +kernel
theorem dX2_init_112 : decode cX2_init 112 = .ok (.aload_n 0, 1) := by decide +kernel
theorem dX2_init_113 : decode cX2_init 113 = .ok (.getfield 11, 3) := by decide +kernel
theorem dX2_init_116 : decode cX2_init 116 = .ok (.iload_n 1, 1) := by decide +kernel
theorem dX2_init_117 : decode cX2_init 117 = .ok (.new 9, 3) := by decide +kernel
theorem dX2_init_120 : decode cX2_init 120 = .ok (.dup, 1) := by decide +kernel
theorem dX2_init_121 : decode cX2_init 121 = .ok (.invokespecial 61, 3) := by decide +kernel
theorem dX2_init_124 : decode cX2_init 124 = .ok (.aastore, 1) := by decide +kernel
theorem dX2_init_125 : decode cX2_init 125 = .ok (.iinc 1 1, 3) := by decide +kernel
theorem dX2_init_128 : decode cX2_init 128 = .ok (.goto (-22), 3) := by decide +kernel
theorem dX2_init_131 : decode cX2_init 131 = .ok (.return_, 1) := by decide +kernel
theorem dX2_become_0 : decode cX2_become 0 = .ok (.iconst 0, 1) := by decide +kernel
theorem dX2_become_1 : decode cX2_become 1 = .ok (.istore_n 2, 1) := by decide +kernel
theorem dX2_become_2 : decode cX2_become 2 = .ok (.iload_n 2, 1) := by decide +kernel
theorem dX2_become_3 : decode cX2_become 3 = .ok (.aload_n 1, 1) := by decide +kernel
theorem dX2_become_4 : decode cX2_become 4 = .ok (.getfield 17, 3) := by decide +kernel
theorem dX2_become_7 : decode cX2_become 7 = .ok (.if_icmp .ge 24, 3) := by decide +kernel
theorem dX2_become_10 : decode cX2_become 10 = .ok (.aload_n 0, 1) := by decide +kernel
theorem dX2_become_11 : decode cX2_become 11 = .ok (.getfield 11, 3) := by decide +kernel
theorem dX2_become_14 : decode cX2_become 14 = .ok (.iload_n 2, 1) := by decide +kernel
theorem dX2_become_15 : decode cX2_become 15 = .ok (.aaload, 1) := by decide +kernel
theorem dX2_become_16 : decode cX2_become 16 = .ok (.aload_n 1, 1) := by decide +kernel
theorem dX2_become_17 : decode cX2_become 17 = .ok (.getfield 11, 3) := by decide +kernel
theorem dX2_become_20 : decode cX2_become 20 = .ok (.iload_n 2, 1) := by decide +kernel
theorem dX2_become_21 : decode cX2_become 21 = .ok (.aaload, 1) := by decide +kernel
theorem dX2_become_22 : decode cX2_become 22 = .ok (.invokevirtual 62, 3) := by decide +kernel
theorem dX2_become_25 : decode cX2_become 25 = .ok (.iinc 2 1, 3) := by decide +kernel
theorem dX2_become_28 : decode cX2_become 28 = .ok (.goto (-26), 3) := by decide +kernel
theorem dX2_become_31 : decode cX2_become 31 = .ok (.aload_n 0, 1) := by decide +kernel
theorem dX2_become_32 : decode cX2_become 32 = .ok (.aload_n 1, 1) := by decide +kernel
theorem dX2_become_33 : decode cX2_become 33 = .ok (.getfield 17, 3) := by decide +kernel
theorem dX2_become_36 : decode cX2_become 36 = .ok (.putfield 17, 3) := by decide +kernel
theorem dX2_become_39 : decode cX2_become 39 = .ok (.aload_n 1, 1) := by decide +kernel
theorem dX2_become_40 : decode cX2_become 40 = .ok (.getfield 21, 3) := by decide +kernel
theorem dX2_become_43 : decode cX2_become 43 = .ok (.iconst 0, 1) := by decide +kernel
theorem dX2_become_44 : decode cX2_become 44 = .ok (.aload_n 0, 1) := by decide +kernel
theorem dX2_become_45 : decode cX2_become 45 = .ok (.getfield 21, 3) := by decide +kernel
theorem dX2_become_48 : decode cX2_become 48 = .ok (.iconst 0, 1) := by decide +kernel
theorem dX2_become_49 : decode cX2_become 49 = .ok (.bipush 6, 2) := by decide +kernel
theorem dX2_become_51 : decode cX2_become 51 = .ok (.invokestatic 66, 3) := by decide +kernel
theorem dX2_become_54 : decode cX2_become 54 = .ok (.aload_n 1, 1) := by decide +kernel
theorem dX2_become_55 : decode cX2_become 55 = .ok (.getfield 25, 3) := by decide +kernel
theorem dX2_become_58 : decode cX2_become 58 = .ok (.iconst 0, 1) := by decide +kernel
theorem dX2_become_59 : decode cX2_become 59 = .ok (.aload_n 0, 1) := by decide +kernel
theorem dX2_become_60 : decode cX2_become 60 = .ok (.getfield 25, 3) := by decide +kernel
theorem dX2_become_63 : decode cX2_become 63 = .ok (.iconst 0, 1) := by decide +kernel
theorem dX2_become_64 : decode cX2_become 64 = .ok (.bipush 6, 2) := by decide +kernel
theorem dX2_become_66 : decode cX2_become 66 = .ok (.invokestatic 66, 3) := by decide +kernel
theorem dX2_become_69 : decode cX2_become 69 = .ok (.aload_n 0, 1) := by decide +kernel
theorem dX2_become_70 : decode cX2_become 70 = .ok (.aload_n 1, 1) := by decide +kernel
theorem dX2_become_71 : decode cX2_become 71 = .ok (.getfield 28, 3) := by decide +kernel
theorem dX2_become_74 : decode cX2_become 74 = .ok (.putfield 28, 3) := by decide +kernel
theorem dX2_become_77 : decode cX2_become 77 = .ok (.iconst 0, 1) := by decide +kernel
theorem dX2_become_78 : decode cX2_become 78 = .ok (.istore_n 2, 1) := by decide +kernel
theorem dX2_become_79 : decode cX2_become 79 = .ok (.iload_n 2, 1) := by decide +kernel
theorem dX2_become_80 : decode cX2_become 80 = .ok (.aload_n 1, 1) := by decide +kernel
theorem dX2_become_81 : decode cX2_become 81 = .ok (.getfield 37, 3) := by decide +kernel
theorem dX2_become_84 : decode cX2_become 84 = .ok (.if_icmp .ge 21, 3) := by decide +kernel
theorem dX2_become_87 : decode cX2_become 87 = .ok (.aload_n 0, 1) := by decide +kernel
theorem dX2_become_88 : decode cX2_become 88 = .ok (.getfield 33, 3) := by decide +kernel
theorem dX2_become_91 : decode cX2_become 91 = .ok (.iload_n 2, 1) := by decide +kernel
theorem dX2_become_92 : decode cX2_become 92 = .ok (.aload_n 1, 1) := by decide +kernel
theorem dX2_become_93 : decode cX2_become 93 = .ok (.getfield 33, 3) := by decide +kernel
theorem dX2_become_96 : decode cX2_become 96 = .ok (.iload_n 2, 1) := by decide +kernel
theorem dX2_become_97 : decode cX2_become 97 = .ok (.aaload, 1) := by decide +kernel
theorem dX2_become_98 : decode cX2_become 98 = .ok (.aastore, 1) := by decide +kernel
theorem dX2_become_99 : decode cX2_become 99 = .ok (.iinc 2 1, 3) := by decide +kernel
theorem dX2_become_102 : decode cX2_become 102 = .ok (.goto (-23), 3) := by decide +kernel
theorem dX2_become_105 : decode cX2_become 105 = .ok (.aload_n 0, 1) := by decide +kernel
theorem dX2_become_106 : decode cX2_become 106 = .ok (.aload_n 1, 1) := by decide +kernel
theorem dX2_become_107 : decode cX2_become 107 = .ok (.getfield 37, 3) := by decide +kernel
theorem dX2_become_110 : decode cX2_become 110 = .ok (.putfield 37, 3) := by decide +kernel
theorem dX2_become_113 : decode cX2_become 113 = .ok (.aload_n 1, 1) := by decide +kernel
theorem dX2_become_114 : decode cX2_become 114 = .ok (.getfield 40, 3) := by decide +kernel
theorem dX2_become_117 : decode cX2_become 117 = .ok (.iconst 0, 1) := by decide +kernel
theorem dX2_become_118 : decode cX2_become 118 = .ok (.aload_n 0, 1) := by decide +kernel
theorem dX2_become_119 : decode cX2_become 119 = .ok (.getfield 40, 3) := by decide +kernel
theorem dX2_become_122 : decode cX2_become 122 = .ok (.iconst 0, 1) := by decide +kernel
theorem dX2_become_123 : decode cX2_become 123 = .ok (.iconst 3, 1) := by decide +kernel
theorem dX2_become_124 : decode cX2_become 124 = .ok (.invokestatic 66, 3) := by decide +kernel
theorem dX2_become_127 : decode cX2_become 127 = .ok (.aload_n 0, 1) := by decide +kernel
theorem dX2_become_128 : decode cX2_become 128 = .ok (.aload_n 1, 1) := by decide +kernel
theorem dX2_become_129 : decode cX2_become 129 = .ok (.getfield 43, 3) := by decide +kernel
theorem dX2_become_132 : decode cX2_become 132 = .ok (.putfield 43, 3) := by decide +kernel
theorem dX2_become_135 : decode cX2_become 135 = .ok (.aload_n 0, 1) := by decide +kernel
theorem dX2_become_136 : decode cX2_become 136 = .ok (.aload_n 1, 1) := by decide +kernel
theorem dX2_become_137 : decode cX2_become 137 = .ok (.getfield 46, 3) := by decide +kernel
theorem dX2_become_140 : decode cX2_become 140 = .ok (.putfield 46, 3) := by decide +kernel
theorem dX2_become_143 : decode cX2_become 143 = .ok (.aload_n 0, 1) := by decide +kernel
theorem dX2_become_144 : decode cX2_become 144 = .ok (.aload_n 1, 1) := by decide +kernel
theorem dX2_become_145 : decode cX2_become 145 = .ok (.getfield 49, 3) := by decide +kernel
theorem dX2_become_148 : decode cX2_become 148 = .ok (.putfield 49, 3) := by decide +kernel
theorem dX2_become_151 : decode cX2_become 151 = .ok (.aload_n 0, 1) := by decide +kernel
theorem dX2_become_152 : decode cX2_become 152 = .ok (.aload_n 1, 1) := by decide +kernel
theorem dX2_become_153 : decode cX2_become 153 = .ok (.getfield 52, 3) := by decide +kernel
theorem dX2_become_156 : decode cX2_become 156 = .ok (.putfield 52, 3) := by decide +kernel
theorem dX2_become_159 : decode cX2_become 159 = .ok (.aload_n 0, 1) := by decide +kernel
theorem dX2_become_160 : decode cX2_become 160 = .ok (.aload_n 1, 1) := by decide +kernel
theorem dX2_become_161 : decode cX2_become 161 = .ok (.getfield 55, 3) := by decide +kernel
theorem dX2_become_164 : decode cX2_become 164 = .ok (.putfield 55, 3) := by decide +kernel
theorem dX2_become_167 : decode cX2_become 167 = .ok (.aload_n 0, 1) := by decide +kernel
theorem dX2_become_168 : decode cX2_become 168 = .ok (.aload_n 1, 1) := by decide +kernel
theorem dX2_become_169 : decode cX2_become 169 = .ok (.getfield 58, 3) := by decide +kernel
theorem dX2_become_172 : decode cX2_become 172 = .ok (.putfield 58, 3) := by decide +kernel
theorem dX2_become_175 : decode cX2_become 175 = .ok (.return_, 1) := by decide +kernel
theorem dX2_find_0 : decode cX2_find 0 = .ok (.iload_n 1, 1) := by decide +kernel
theorem dX2_find_1 : decode cX2_find 1 = .ok (.ifCond .lt 20, 3) := by decide +kernel
theorem dX2_find_4 : decode cX2_find 4 = .ok (.iload_n 1, 1) := by decide +kernel
theorem dX2_find_5 : decode cX2_find 5 = .ok (.aload_n 0, 1) := by decide +kernel
theorem dX2_find_6 : decode cX2_find 6 = .ok (.getfield 17, 3) := by decide +kernel
theorem dX2_find_9 : decode cX2_find 9 = .ok (.if_icmp .ge 12, 3) := by decide +kernel
theorem dX2_find_12 : decode cX2_find 12 = .ok (.aload_n 0, 1) := by decide +kernel
theorem dX2_find_13 : decode cX2_find 13 = .ok (.getfield 11, 3) := by decide +kernel
theorem dX2_find_16 : decode cX2_find 16 = .ok (.iload_n 1, 1) := by decide +kernel
theorem dX2_find_17 : decode cX2_find 17 = .ok (.aaload, 1) := by decide +kernel
theorem dX2_find_18 : decode cX2_find 18 = .ok (.goto 4, 3) := by decide +kernel
theorem dX2_find_21 : decode cX2_find 21 = .ok (.aconst_null, 1) := by decide +kernel
theorem dX2_find_22 : decode cX2_find 22 = .ok (.areturn, 1) := by decide +kernel
theorem dX2_open_0 : decode cX2_open 0 = .ok (.aload_n 0, 1) := by decide +kernel
theorem dX2_open_1 : decode cX2_open 1 = .ok (.getfield 17, 3) := by decide +kernel
theorem dX2_open_4 : decode cX2_open 4 = .ok (.istore 5, 2) := by decide +kernel
theorem dX2_open_6 : decode cX2_open 6 = .ok (.iload 5, 2) := by decide +kernel
theorem dX2_open_8 : decode cX2_open 8 = .ok (.bipush 10, 2) := by decide +kernel
theorem dX2_open_10 : decode cX2_open 10 = .ok (.if_icmp .lt 6, 3) := by decide +kernel
theorem dX2_open_13 : decode cX2_open 13 = .ok (.ldc 72, 2) := by decide +kernel
theorem dX2_open_15 : decode cX2_open 15 = .ok (.ireturn, 1) := by decide +kernel
theorem dX2_open_16 : decode cX2_open 16 = .ok (.aload_n 0, 1) := by decide +kernel
theorem dX2_open_17 : decode cX2_open 17 = .ok (.getfield 11, 3) := by decide +kernel
theorem dX2_open_20 : decode cX2_open 20 = .ok (.iload 5, 2) := by decide +kernel
theorem dX2_open_22 : decode cX2_open 22 = .ok (.aaload, 1) := by decide +kernel
theorem dX2_open_23 : decode cX2_open 23 = .ok (.iload_n 1, 1) := by decide +kernel
theorem dX2_open_24 : decode cX2_open 24 = .ok (.iload_n 2, 1) := by decide +kernel
theorem dX2_open_25 : decode cX2_open 25 = .ok (.iload_n 3, 1) := by decide +kernel
theorem dX2_open_26 : decode cX2_open 26 = .ok (.iload 4, 2) := by decide +kernel
theorem dX2_open_28 : decode cX2_open 28 = .ok (.invokevirtual 73, 3) := by decide +kernel
theorem dX2_open_31 : decode cX2_open 31 = .ok (.aload_n 0, 1) := by decide +kernel
theorem dX2_open_32 : decode cX2_open 32 = .ok (.iload 5, 2) := by decide +kernel
theorem dX2_open_34 : decode cX2_open 34 = .ok (.iconst 1, 1) := by decide +kernel
theorem dX2_open_35 : decode cX2_open 35 = .ok (.iadd, 1) := by decide +kernel
theorem dX2_open_36 : decode cX2_open 36 = .ok (.putfield 17, 3) := by decide +kernel
theorem dX2_open_39 : decode cX2_open 39 = .ok (.iload 5, 2) := by decide +kernel
theorem dX2_open_41 : decode cX2_open 41 = .ok (.ireturn, 1) := by decide +kernel
theorem dX2_openByLot_0 : decode cX2_openByLot 0 = .ok (.aload_n 0, 1) := by decide +kernel
theorem dX2_openByLot_1 : decode cX2_openByLot 1 = .ok (.invokevirtual 77, 3) := by decide +kernel
theorem dX2_openByLot_4 : decode cX2_openByLot 4 = .ok (.bipush 6, 2) := by decide +kernel
theorem dX2_openByLot_6 : decode cX2_openByLot 6 = .ok (.irem, 1) := by decide +kernel
theorem dX2_openByLot_7 : decode cX2_openByLot 7 = .ok (.istore_n 1, 1) := by decide +kernel
theorem dX2_openByLot_8 : decode cX2_openByLot 8 = .ok (.aload_n 0, 1) := by decide +kernel
theorem dX2_openByLot_9 : decode cX2_openByLot 9 = .ok (.invokevirtual 77, 3) := by decide +kernel
theorem dX2_openByLot_12 : decode cX2_openByLot 12 = .ok (.bipush 30, 2) := by decide +kernel
theorem dX2_openByLot_14 : decode cX2_openByLot 14 = .ok (.irem, 1) := by decide +kernel
theorem dX2_openByLot_15 : decode cX2_openByLot 15 = .ok (.istore_n 2, 1) := by decide +kernel
theorem dX2_openByLot_16 : decode cX2_openByLot 16 = .ok (.iconst 1, 1) := by decide +kernel
theorem dX2_openByLot_17 : decode cX2_openByLot 17 = .ok (.aload_n 0, 1) := by decide +kernel
theorem dX2_openByLot_18 : decode cX2_openByLot 18 = .ok (.invokevirtual 77, 3) := by decide +kernel
theorem dX2_openByLot_21 : decode cX2_openByLot 21 = .ok (.bipush 60, 2) := by decide +kernel
theorem dX2_openByLot_23 : decode cX2_openByLot 23 = .ok (.irem, 1) := by decide +kernel
theorem dX2_openByLot_24 : decode cX2_openByLot 24 = .ok (.iadd, 1) := by decide +kernel
theorem dX2_openByLot_25 : decode cX2_openByLot 25 = .ok (.istore_n 3, 1) := by decide +kernel
theorem dX2_openByLot_26 : decode cX2_openByLot 26 = .ok (.aload_n 0, 1) := by decide +kernel
theorem dX2_openByLot_27 : decode cX2_openByLot 27 = .ok (.invokevirtual 77, 3) := by decide +kernel
theorem dX2_openByLot_30 : decode cX2_openByLot 30 = .ok (.bipush 8, 2) := by decide +kernel
theorem dX2_openByLot_32 : decode cX2_openByLot 32 = .ok (.irem, 1) := by decide +kernel
theorem dX2_openByLot_33 : decode cX2_openByLot 33 = .ok (.istore 4, 2) := by decide +kernel
theorem dX2_openByLot_35 : decode cX2_openByLot 35 = .ok (.aload_n 0, 1) := by decide +kernel
theorem dX2_openByLot_36 : decode cX2_openByLot 36 = .ok (.iload_n 1, 1) := by decide +kernel
theorem dX2_openByLot_37 : decode cX2_openByLot 37 = .ok (.iload_n 2, 1) := by decide +kernel
theorem dX2_openByLot_38 : decode cX2_openByLot 38 = .ok (.iload_n 3, 1) := by decide +kernel
theorem dX2_openByLot_39 : decode cX2_openByLot 39 = .ok (.iload 4, 2) := by decide +kernel
theorem dX2_openByLot_41 : decode cX2_openByLot 41 = .ok (.invokevirtual 81, 3) := by decide +kernel
theorem dX2_openByLot_44 : decode cX2_openByLot 44 = .ok (.pop, 1) := by decide +kernel
theorem dX2_openByLot_45 : decode cX2_openByLot 45 = .ok (.return_, 1) := by decide +kernel
theorem dX2_draw_0 : decode cX2_draw 0 = .ok (.aload_n 0, 1) := by decide +kernel
theorem dX2_draw_1 : decode cX2_draw 1 = .ok (.aload_n 0, 1) := by decide +kernel
theorem dX2_draw_2 : decode cX2_draw 2 = .ok (.getfield 58, 3) := by decide +kernel
theorem dX2_draw_5 : decode cX2_draw 5 = .ok (.ldc 85, 2) := by decide +kernel
theorem dX2_draw_7 : decode cX2_draw 7 = .ok (.imul, 1) := by decide +kernel
theorem dX2_draw_8 : decode cX2_draw 8 = .ok (.sipush 12345, 3) := by decide +kernel
theorem dX2_draw_11 : decode cX2_draw 11 = .ok (.iadd, 1) := by decide +kernel
theorem dX2_draw_12 : decode cX2_draw 12 = .ok (.putfield 58, 3) := by decide +kernel
theorem dX2_draw_15 : decode cX2_draw 15 = .ok (.aload_n 0, 1) := by decide +kernel
theorem dX2_draw_16 : decode cX2_draw 16 = .ok (.getfield 58, 3) := by decide +kernel
theorem dX2_draw_19 : decode cX2_draw 19 = .ok (.bipush 8, 2) := by decide +kernel
theorem dX2_draw_21 : decode cX2_draw 21 = .ok (.iushr, 1) := by decide +kernel
theorem dX2_draw_22 : decode cX2_draw 22 = .ok (.ireturn, 1) := by decide +kernel
theorem dX2_roomAfter_0 : decode cX2_roomAfter 0 = .ok (.aload_n 0, 1) := by decide +kernel
theorem dX2_roomAfter_1 : decode cX2_roomAfter 1 = .ok (.getfield 17, 3) := by decide +kernel
theorem dX2_roomAfter_4 : decode cX2_roomAfter 4 = .ok (.bipush 10, 2) := by decide +kernel
theorem dX2_roomAfter_6 : decode cX2_roomAfter 6 = .ok (.if_icmp .ge 8, 3) := by decide +kernel
theorem dX2_roomAfter_9 : decode cX2_roomAfter 9 = .ok (.aload_n 0, 1) := by decide +kernel
theorem dX2_roomAfter_10 : decode cX2_roomAfter 10 = .ok (.getfield 17, 3) := by decide +kernel
theorem dX2_roomAfter_13 : decode cX2_roomAfter 13 = .ok (.ireturn, 1) := by decide +kernel
theorem dX2_roomAfter_14 : decode cX2_roomAfter 14 = .ok (.iconst 0, 1) := by decide +kernel
theorem dX2_roomAfter_15 : decode cX2_roomAfter 15 = .ok (.istore_n 3, 1) := by decide +kernel
theorem dX2_roomAfter_16 : decode cX2_roomAfter 16 = .ok (.iload_n 3, 1) := by decide +kernel
theorem dX2_roomAfter_17 : decode cX2_roomAfter 17 = .ok (.aload_n 0, 1) := by decide +kernel
theorem dX2_roomAfter_18 : decode cX2_roomAfter 18 = .ok (.getfield 17, 3) := by decide +kernel
theorem dX2_roomAfter_21 : decode cX2_roomAfter 21 = .ok (.if_icmp .ge 43, 3) := by decide +kernel
theorem dX2_roomAfter_24 : decode cX2_roomAfter 24 = .ok (.aload_n 0, 1) := by decide +kernel
theorem dX2_roomAfter_25 : decode cX2_roomAfter 25 = .ok (.getfield 11, 3) := by decide +kernel
theorem dX2_roomAfter_28 : decode cX2_roomAfter 28 = .ok (.iload_n 3, 1) := by decide +kernel
theorem dX2_roomAfter_29 : decode cX2_roomAfter 29 = .ok (.aaload, 1) := by decide +kernel
theorem dX2_roomAfter_30 : decode cX2_roomAfter 30 = .ok (.getfield 86, 3) := by decide +kernel
theorem dX2_roomAfter_33 : decode cX2_roomAfter 33 = .ok (.aload_n 0, 1) := by decide +kernel
theorem dX2_roomAfter_34 : decode cX2_roomAfter 34 = .ok (.getfield 11, 3) := by decide +kernel
theorem dX2_roomAfter_37 : decode cX2_roomAfter 37 = .ok (.iload_n 3, 1) := by decide +kernel
theorem dX2_roomAfter_38 : decode cX2_roomAfter 38 = .ok (.aaload, 1) := by decide +kernel
theorem dX2_roomAfter_39 : decode cX2_roomAfter 39 = .ok (.aload_n 1, 1) := by decide +kernel
theorem dX2_roomAfter_40 : decode cX2_roomAfter 40 = .ok (.if_acmp .ne 7, 3) := by decide +kernel
theorem dX2_roomAfter_43 : decode cX2_roomAfter 43 = .ok (.iload_n 2, 1) := by decide +kernel
theorem dX2_roomAfter_44 : decode cX2_roomAfter 44 = .ok (.goto 4, 3) := by decide +kernel
theorem dX2_roomAfter_47 : decode cX2_roomAfter 47 = .ok (.iconst 0, 1) := by decide +kernel
theorem dX2_roomAfter_48 : decode cX2_roomAfter 48 = .ok (.isub, 1) := by decide +kernel
theorem dX2_roomAfter_49 : decode cX2_roomAfter 49 = .ok (.istore 4, 2) := by decide +kernel
theorem dX2_roomAfter_51 : decode cX2_roomAfter 51 = .ok (.iload 4, 2) := by decide +kernel
theorem dX2_roomAfter_53 : decode cX2_roomAfter 53 = .ok (.ifCond .ne 5, 3) := by decide +kernel
theorem dX2_roomAfter_56 : decode cX2_roomAfter 56 = .ok (.iload_n 3, 1) := by decide +kernel
theorem dX2_roomAfter_57 : decode cX2_roomAfter 57 = .ok (.ireturn, 1) := by decide +kernel
theorem dX2_roomAfter_58 : decode cX2_roomAfter 58 = .ok (.iinc 3 1, 3) := by decide +kernel
theorem dX2_roomAfter_61 : decode cX2_roomAfter 61 = .ok (.goto (-45), 3) := by decide +kernel
theorem dX2_roomAfter_64 : decode cX2_roomAfter 64 = .ok (.iconst (-1), 1) := by decide +kernel
theorem dX2_roomAfter_65 : decode cX2_roomAfter 65 = .ok (.ireturn, 1) := by decide +kernel
theorem dX2_earthOf_0 : decode cX2_earthOf 0 = .ok (.iload_n 1, 1) := by decide +kernel
theorem dX2_earthOf_1 : decode cX2_earthOf 1 = .ok (.aload_n 0, 1) := by decide +kernel
theorem dX2_earthOf_2 : decode cX2_earthOf 2 = .ok (.getfield 46, 3) := by decide +kernel
theorem dX2_earthOf_5 : decode cX2_earthOf 5 = .ok (.imul, 1) := by decide +kernel
theorem dX2_earthOf_6 : decode cX2_earthOf 6 = .ok (.bipush 100, 2) := by decide +kernel
theorem dX2_earthOf_8 : decode cX2_earthOf 8 = .ok (.idiv, 1) := by decide +kernel
theorem dX2_earthOf_9 : decode cX2_earthOf 9 = .ok (.ireturn, 1) := by decide +kernel
theorem dX2_canFill_0 : decode cX2_canFill 0 = .ok (.iload_n 2, 1) := by decide +kernel
theorem dX2_canFill_1 : decode cX2_canFill 1 = .ok (.aload_n 1, 1) := by decide +kernel
theorem dX2_canFill_2 : decode cX2_canFill 2 = .ok (.getfield 86, 3) := by decide +kernel
theorem dX2_canFill_5 : decode cX2_canFill 5 = .ok (.if_icmp .gt 7, 3) := by decide +kernel
theorem dX2_canFill_8 : decode cX2_canFill 8 = .ok (.iconst 1, 1) := by decide +kernel
theorem dX2_canFill_9 : decode cX2_canFill 9 = .ok (.goto 4, 3) := by decide +kernel
theorem dX2_canFill_12 : decode cX2_canFill 12 = .ok (.iconst 0, 1) := by decide +kernel
theorem dX2_canFill_13 : decode cX2_canFill 13 = .ok (.istore 4, 2) := by decide +kernel
theorem dX2_canFill_15 : decode cX2_canFill 15 = .ok (.iload_n 3, 1) := by decide +kernel
theorem dX2_canFill_16 : decode cX2_canFill 16 = .ok (.aload_n 1, 1) := by decide +kernel
theorem dX2_canFill_17 : decode cX2_canFill 17 = .ok (.getfield 89, 3) := by decide +kernel
theorem dX2_canFill_20 : decode cX2_canFill 20 = .ok (.isub, 1) := by decide +kernel
theorem dX2_canFill_21 : decode cX2_canFill 21 = .ok (.invokestatic 92, 3) := by decide +kernel
theorem dX2_canFill_24 : decode cX2_canFill 24 = .ok (.aload_n 0, 1) := by decide +kernel
theorem dX2_canFill_25 : decode cX2_canFill 25 = .ok (.getfield 43, 3) := by decide +kernel
theorem dX2_canFill_28 : decode cX2_canFill 28 = .ok (.if_icmp .gt 7, 3) := by decide +kernel
theorem dX2_canFill_31 : decode cX2_canFill 31 = .ok (.iconst 1, 1) := by decide +kernel
theorem dX2_canFill_32 : decode cX2_canFill 32 = .ok (.goto 4, 3) := by decide +kernel
theorem dX2_canFill_35 : decode cX2_canFill 35 = .ok (.iconst 0, 1) := by decide +kernel
theorem dX2_canFill_36 : decode cX2_canFill 36 = .ok (.istore 5, 2) := by decide +kernel
theorem dX2_canFill_38 : decode cX2_canFill 38 = .ok (.iload_n 2, 1) := by decide +kernel
theorem dX2_canFill_39 : decode cX2_canFill 39 = .ok (.iconst 2, 1) := by decide +kernel
theorem dX2_canFill_40 : decode cX2_canFill 40 = .ok (.irem, 1) := by decide +kernel
theorem dX2_canFill_41 : decode cX2_canFill 41 = .ok (.ifCond .ne 7, 3) := by decide +kernel
theorem dX2_canFill_44 : decode cX2_canFill 44 = .ok (.iconst 1, 1) := by decide +kernel
theorem dX2_canFill_45 : decode cX2_canFill 45 = .ok (.goto 4, 3) := by decide +kernel
theorem dX2_canFill_48 : decode cX2_canFill 48 = .ok (.iconst 0, 1) := by decide +kernel
theorem dX2_canFill_49 : decode cX2_canFill 49 = .ok (.istore 6, 2) := by decide +kernel
theorem dX2_canFill_51 : decode cX2_canFill 51 = .ok (.aload_n 1, 1) := by decide +kernel
theorem dX2_canFill_52 : decode cX2_canFill 52 = .ok (.getfield 98, 3) := by decide +kernel
theorem dX2_canFill_55 : decode cX2_canFill 55 = .ok (.tableswitch 137 1 5 #[33, 84, 57, 105, 134], 33) := by decide +kernel
theorem dX2_canFill_88 : decode cX2_canFill 88 = .ok (.iload 4, 2) := by decide +kernel
theorem dX2_canFill_90 : decode cX2_canFill 90 = .ok (.ifCond .eq 20, 3) := by decide +kernel
theorem dX2_canFill_93 : decode cX2_canFill 93 = .ok (.iload 5, 2) := by decide +kernel
theorem dX2_canFill_95 : decode cX2_canFill 95 = .ok (.ifCond .eq 15, 3) := by decide +kernel
theorem dX2_canFill_98 : decode cX2_canFill 98 = .ok (.aload_n 0, 1) := by decide +kernel
theorem dX2_canFill_99 : decode cX2_canFill 99 = .ok (.aload_n 1, 1) := by decide +kernel
theorem dX2_canFill_100 : decode cX2_canFill 100 = .ok (.invokevirtual 101, 3) := by decide +kernel
theorem dX2_canFill_103 : decode cX2_canFill 103 = .ok (.ifCond .eq 7, 3) := by decide +kernel
theorem dX2_canFill_106 : decode cX2_canFill 106 = .ok (.iconst 1, 1) := by decide +kernel
theorem dX2_canFill_107 : decode cX2_canFill 107 = .ok (.goto 4, 3) := by decide +kernel
theorem dX2_canFill_110 : decode cX2_canFill 110 = .ok (.iconst 0, 1) := by decide +kernel
theorem dX2_canFill_111 : decode cX2_canFill 111 = .ok (.ireturn, 1) := by decide +kernel
theorem dX2_canFill_112 : decode cX2_canFill 112 = .ok (.iload_n 2, 1) := by decide +kernel
theorem dX2_canFill_113 : decode cX2_canFill 113 = .ok (.aload_n 1, 1) := by decide +kernel
theorem dX2_canFill_114 : decode cX2_canFill 114 = .ok (.getfield 86, 3) := by decide +kernel
theorem dX2_canFill_117 : decode cX2_canFill 117 = .ok (.if_icmp .ne 20, 3) := by decide +kernel
theorem dX2_canFill_120 : decode cX2_canFill 120 = .ok (.iload 5, 2) := by decide +kernel
theorem dX2_canFill_122 : decode cX2_canFill 122 = .ok (.ifCond .eq 15, 3) := by decide +kernel
theorem dX2_canFill_125 : decode cX2_canFill 125 = .ok (.aload_n 0, 1) := by decide +kernel
theorem dX2_canFill_126 : decode cX2_canFill 126 = .ok (.aload_n 1, 1) := by decide +kernel
theorem dX2_canFill_127 : decode cX2_canFill 127 = .ok (.invokevirtual 101, 3) := by decide +kernel
theorem dX2_canFill_130 : decode cX2_canFill 130 = .ok (.ifCond .eq 7, 3) := by decide +kernel
theorem dX2_canFill_133 : decode cX2_canFill 133 = .ok (.iconst 1, 1) := by decide +kernel
theorem dX2_canFill_134 : decode cX2_canFill 134 = .ok (.goto 4, 3) := by decide +kernel
theorem dX2_canFill_137 : decode cX2_canFill 137 = .ok (.iconst 0, 1) := by decide +kernel
theorem dX2_canFill_138 : decode cX2_canFill 138 = .ok (.ireturn, 1) := by decide +kernel
theorem dX2_canFill_139 : decode cX2_canFill 139 = .ok (.iload 4, 2) := by decide +kernel
theorem dX2_canFill_141 : decode cX2_canFill 141 = .ok (.ifCond .eq 17, 3) := by decide +kernel
theorem dX2_canFill_144 : decode cX2_canFill 144 = .ok (.iload 5, 2) := by decide +kernel
theorem dX2_canFill_146 : decode cX2_canFill 146 = .ok (.ifCond .eq 12, 3) := by decide +kernel
theorem dX2_canFill_149 : decode cX2_canFill 149 = .ok (.iload 6, 2) := by decide +kernel
theorem dX2_canFill_151 : decode cX2_canFill 151 = .ok (.ifCond .eq 7, 3) := by decide +kernel
theorem dX2_canFill_154 : decode cX2_canFill 154 = .ok (.iconst 1, 1) := by decide +kernel
theorem dX2_canFill_155 : decode cX2_canFill 155 = .ok (.goto 4, 3) := by decide +kernel
theorem dX2_canFill_158 : decode cX2_canFill 158 = .ok (.iconst 0, 1) := by decide +kernel
theorem dX2_canFill_159 : decode cX2_canFill 159 = .ok (.ireturn, 1) := by decide +kernel
theorem dX2_canFill_160 : decode cX2_canFill 160 = .ok (.iload 4, 2) := by decide +kernel
theorem dX2_canFill_162 : decode cX2_canFill 162 = .ok (.ifCond .eq 25, 3) := by decide +kernel
theorem dX2_canFill_165 : decode cX2_canFill 165 = .ok (.iload 5, 2) := by decide +kernel
theorem dX2_canFill_167 : decode cX2_canFill 167 = .ok (.ifCond .eq 8, 3) := by decide +kernel
theorem dX2_canFill_170 : decode cX2_canFill 170 = .ok (.iload 6, 2) := by decide +kernel
theorem dX2_canFill_172 : decode cX2_canFill 172 = .ok (.ifCond .ne 11, 3) := by decide +kernel
theorem dX2_canFill_175 : decode cX2_canFill 175 = .ok (.iload_n 3, 1) := by decide +kernel
theorem dX2_canFill_176 : decode cX2_canFill 176 = .ok (.aload_n 1, 1) := by decide +kernel
theorem dX2_canFill_177 : decode cX2_canFill 177 = .ok (.getfield 89, 3) := by decide +kernel
theorem dX2_canFill_180 : decode cX2_canFill 180 = .ok (.if_icmp .ne 7, 3) := by decide +kernel
theorem dX2_canFill_183 : decode cX2_canFill 183 = .ok (.iconst 1, 1) := by decide +kernel
theorem dX2_canFill_184 : decode cX2_canFill 184 = .ok (.goto 4, 3) := by decide +kernel
theorem dX2_canFill_187 : decode cX2_canFill 187 = .ok (.iconst 0, 1) := by decide +kernel
theorem dX2_canFill_188 : decode cX2_canFill 188 = .ok (.ireturn, 1) := by decide +kernel
theorem dX2_canFill_189 : decode cX2_canFill 189 = .ok (.iload 4, 2) := by decide +kernel
theorem dX2_canFill_191 : decode cX2_canFill 191 = .ok (.ireturn, 1) := by decide +kernel
theorem dX2_canFill_192 : decode cX2_canFill 192 = .ok (.iload 4, 2) := by decide +kernel
theorem dX2_canFill_194 : decode cX2_canFill 194 = .ok (.ifCond .eq 12, 3) := by decide +kernel
theorem dX2_canFill_197 : decode cX2_canFill 197 = .ok (.iload 5, 2) := by decide +kernel
theorem dX2_canFill_199 : decode cX2_canFill 199 = .ok (.ifCond .eq 7, 3) := by decide +kernel
theorem dX2_canFill_202 : decode cX2_canFill 202 = .ok (.iconst 1, 1) := by decide +kernel
theorem dX2_canFill_203 : decode cX2_canFill 203 = .ok (.goto 4, 3) := by decide +kernel
theorem dX2_canFill_206 : decode cX2_canFill 206 = .ok (.iconst 0, 1) := by decide +kernel
theorem dX2_canFill_207 : decode cX2_canFill 207 = .ok (.ireturn, 1) := by decide +kernel
theorem dX2_isOldEnough_0 : decode cX2_isOldEnough 0 = .ok (.aload_n 0, 1) := by decide +kernel
theorem dX2_isOldEnough_1 : decode cX2_isOldEnough 1 = .ok (.iconst 0, 1) := by decide +kernel
theorem dX2_isOldEnough_2 : decode cX2_isOldEnough 2 = .ok (.invokevirtual 105, 3) := by decide +kernel
theorem dX2_isOldEnough_5 : decode cX2_isOldEnough 5 = .ok (.astore_n 2, 1) := by decide +kernel
theorem dX2_isOldEnough_6 : decode cX2_isOldEnough 6 = .ok (.aload_n 1, 1) := by decide +kernel
theorem dX2_isOldEnough_7 : decode cX2_isOldEnough 7 = .ok (.getfield 109, 3) := by decide +kernel
theorem dX2_isOldEnough_10 : decode cX2_isOldEnough 10 = .ok (.aload_n 2, 1) := by decide +kernel
theorem dX2_isOldEnough_11 : decode cX2_isOldEnough 11 = .ok (.ifnonnull 7, 3) := by decide +kernel
theorem dX2_isOldEnough_14 : decode cX2_isOldEnough 14 = .ok (.iconst 3, 1) := by decide +kernel
theorem dX2_isOldEnough_15 : decode cX2_isOldEnough 15 = .ok (.goto 21, 3) := by decide +kernel
theorem dX2_isOldEnough_18 : decode cX2_isOldEnough 18 = .ok (.aload_n 2, 1) := by decide +kernel
theorem dX2_isOldEnough_19 : decode cX2_isOldEnough 19 = .ok (.aload_n 1, 1) := by decide +kernel
theorem dX2_isOldEnough_20 : decode cX2_isOldEnough 20 = .ok (.getfield 86, 3) := by decide +kernel
theorem dX2_isOldEnough_23 : decode cX2_isOldEnough 23 = .ok (.aload_n 1, 1) := by decide +kernel
theorem dX2_isOldEnough_24 : decode cX2_isOldEnough 24 = .ok (.getfield 112, 3) := by decide +kernel
theorem dX2_isOldEnough_27 : decode cX2_isOldEnough 27 = .ok (.iconst 0, 1) := by decide +kernel
theorem dX2_isOldEnough_28 : decode cX2_isOldEnough 28 = .ok (.invokevirtual 115, 3) := by decide +kernel
theorem dX2_isOldEnough_31 : decode cX2_isOldEnough 31 = .ok (.bipush 99, 2) := by decide +kernel
theorem dX2_isOldEnough_33 : decode cX2_isOldEnough 33 = .ok (.invokestatic 119, 3) := by decide +kernel
theorem dX2_isOldEnough_36 : decode cX2_isOldEnough 36 = .ok (.if_icmp .lt 7, 3) := by decide +kernel
theorem dX2_isOldEnough_39 : decode cX2_isOldEnough 39 = .ok (.iconst 1, 1) := by decide +kernel
theorem dX2_isOldEnough_40 : decode cX2_isOldEnough 40 = .ok (.goto 4, 3) := by decide +kernel
theorem dX2_isOldEnough_43 : decode cX2_isOldEnough 43 = .ok (.iconst 0, 1) := by decide +kernel
theorem dX2_isOldEnough_44 : decode cX2_isOldEnough 44 = .ok (.ireturn, 1) := by decide +kernel
theorem dX2_sinks_0 : decode cX2_sinks 0 = .ok (.aload_n 1, 1) := by decide +kernel
theorem dX2_sinks_1 : decode cX2_sinks 1 = .ok (.getfield 98, 3) := by decide +kernel
theorem dX2_sinks_4 : decode cX2_sinks 4 = .ok (.tableswitch 82 1 5 #[36, 47, 45, 61, 77], 36) := by decide +kernel
theorem dX2_sinks_40 : decode cX2_sinks 40 = .ok (.aload_n 0, 1) := by decide +kernel
theorem dX2_sinks_41 : decode cX2_sinks 41 = .ok (.aload_n 1, 1) := by decide +kernel
theorem dX2_sinks_42 : decode cX2_sinks 42 = .ok (.iload_n 2, 1) := by decide +kernel
theorem dX2_sinks_43 : decode cX2_sinks 43 = .ok (.invokevirtual 123, 3) := by decide +kernel
theorem dX2_sinks_46 : decode cX2_sinks 46 = .ok (.iconst 1, 1) := by decide +kernel
theorem dX2_sinks_47 : decode cX2_sinks 47 = .ok (.iadd, 1) := by decide +kernel
theorem dX2_sinks_48 : decode cX2_sinks 48 = .ok (.ireturn, 1) := by decide +kernel
theorem dX2_sinks_49 : decode cX2_sinks 49 = .ok (.iconst 0, 1) := by decide +kernel
theorem dX2_sinks_50 : decode cX2_sinks 50 = .ok (.ireturn, 1) := by decide +kernel
theorem dX2_sinks_51 : decode cX2_sinks 51 = .ok (.bipush 9, 2) := by decide +kernel
theorem dX2_sinks_53 : decode cX2_sinks 53 = .ok (.iconst 2, 1) := by decide +kernel
theorem dX2_sinks_54 : decode cX2_sinks 54 = .ok (.aload_n 0, 1) := by decide +kernel
theorem dX2_sinks_55 : decode cX2_sinks 55 = .ok (.aload_n 1, 1) := by decide +kernel
theorem dX2_sinks_56 : decode cX2_sinks 56 = .ok (.iload_n 2, 1) := by decide +kernel
theorem dX2_sinks_57 : decode cX2_sinks 57 = .ok (.invokevirtual 123, 3) := by decide +kernel
theorem dX2_sinks_60 : decode cX2_sinks 60 = .ok (.imul, 1) := by decide +kernel
theorem dX2_sinks_61 : decode cX2_sinks 61 = .ok (.invokestatic 127, 3) := by decide +kernel
theorem dX2_sinks_64 : decode cX2_sinks 64 = .ok (.ireturn, 1) := by decide +kernel
theorem dX2_sinks_65 : decode cX2_sinks 65 = .ok (.bipush 9, 2) := by decide +kernel
theorem dX2_sinks_67 : decode cX2_sinks 67 = .ok (.iconst 2, 1) := by decide +kernel
theorem dX2_sinks_68 : decode cX2_sinks 68 = .ok (.aload_n 0, 1) := by decide +kernel
theorem dX2_sinks_69 : decode cX2_sinks 69 = .ok (.aload_n 1, 1) := by decide +kernel
theorem dX2_sinks_70 : decode cX2_sinks 70 = .ok (.iload_n 2, 1) := by decide +kernel
theorem dX2_sinks_71 : decode cX2_sinks 71 = .ok (.invokevirtual 123, 3) := by decide +kernel
theorem dX2_sinks_74 : decode cX2_sinks 74 = .ok (.imul, 1) := by decide +kernel
theorem dX2_sinks_75 : decode cX2_sinks 75 = .ok (.invokestatic 127, 3) := by decide +kernel
theorem dX2_sinks_78 : decode cX2_sinks 78 = .ok (.iconst 2, 1) := by decide +kernel
theorem dX2_sinks_79 : decode cX2_sinks 79 = .ok (.idiv, 1) := by decide +kernel
theorem dX2_sinks_80 : decode cX2_sinks 80 = .ok (.ireturn, 1) := by decide +kernel
theorem dX2_sinks_81 : decode cX2_sinks 81 = .ok (.iload_n 2, 1) := by decide +kernel
theorem dX2_sinks_82 : decode cX2_sinks 82 = .ok (.bipush 9, 2) := by decide +kernel
theorem dX2_sinks_84 : decode cX2_sinks 84 = .ok (.idiv, 1) := by decide +kernel
theorem dX2_sinks_85 : decode cX2_sinks 85 = .ok (.ireturn, 1) := by decide +kernel
theorem dX2_sinks_86 : decode cX2_sinks 86 = .ok (.aload_n 0, 1) := by decide +kernel
theorem dX2_sinks_87 : decode cX2_sinks 87 = .ok (.aload_n 1, 1) := by decide +kernel
theorem dX2_sinks_88 : decode cX2_sinks 88 = .ok (.iload_n 2, 1) := by decide +kernel
theorem dX2_sinks_89 : decode cX2_sinks 89 = .ok (.invokevirtual 123, 3) := by decide +kernel
theorem dX2_sinks_92 : decode cX2_sinks 92 = .ok (.ireturn, 1) := by decide +kernel
theorem dX2_sinksPlain_0 : decode cX2_sinksPlain 0 = .ok (.aload_n 0, 1) := by decide +kernel
theorem dX2_sinksPlain_1 : decode cX2_sinksPlain 1 = .ok (.iconst 1, 1) := by decide +kernel
theorem dX2_sinksPlain_2 : decode cX2_sinksPlain 2 = .ok (.invokevirtual 105, 3) := by decide +kernel
theorem dX2_sinksPlain_5 : decode cX2_sinksPlain 5 = .ok (.astore_n 3, 1) := by decide +kernel
theorem dX2_sinksPlain_6 : decode cX2_sinksPlain 6 = .ok (.aload_n 3, 1) := by decide +kernel
theorem dX2_sinksPlain_7 : decode cX2_sinksPlain 7 = .ok (.ifnonnull 9, 3) := by decide +kernel
theorem dX2_sinksPlain_10 : decode cX2_sinksPlain 10 = .ok (.iload_n 2, 1) := by decide +kernel
theorem dX2_sinksPlain_11 : decode cX2_sinksPlain 11 = .ok (.iconst 5, 1) := by decide +kernel
theorem dX2_sinksPlain_12 : decode cX2_sinksPlain 12 = .ok (.idiv, 1) := by decide +kernel
theorem dX2_sinksPlain_13 : decode cX2_sinksPlain 13 = .ok (.goto 21, 3) := by decide +kernel
theorem dX2_sinksPlain_16 : decode cX2_sinksPlain 16 = .ok (.aload_n 3, 1) := by decide +kernel
theorem dX2_sinksPlain_17 : decode cX2_sinksPlain 17 = .ok (.iload_n 2, 1) := by decide +kernel
theorem dX2_sinksPlain_18 : decode cX2_sinksPlain 18 = .ok (.aload_n 1, 1) := by decide +kernel
theorem dX2_sinksPlain_19 : decode cX2_sinksPlain 19 = .ok (.getfield 86, 3) := by decide +kernel
theorem dX2_sinksPlain_22 : decode cX2_sinksPlain 22 = .ok (.aload_n 1, 1) := by decide +kernel
theorem dX2_sinksPlain_23 : decode cX2_sinksPlain 23 = .ok (.getfield 109, 3) := by decide +kernel
theorem dX2_sinksPlain_26 : decode cX2_sinksPlain 26 = .ok (.invokevirtual 115, 3) := by decide +kernel
theorem dX2_sinksPlain_29 : decode cX2_sinksPlain 29 = .ok (.bipush 9, 2) := by decide +kernel
theorem dX2_sinksPlain_31 : decode cX2_sinksPlain 31 = .ok (.invokestatic 119, 3) := by decide +kernel
theorem dX2_sinksPlain_34 : decode cX2_sinksPlain 34 = .ok (.ireturn, 1) := by decide +kernel
theorem dX2_passDay_0 : decode cX2_passDay 0 = .ok (.iconst 0, 1) := by decide +kernel
theorem dX2_passDay_1 : decode cX2_passDay 1 = .ok (.istore_n 1, 1) := by decide +kernel
theorem dX2_passDay_2 : decode cX2_passDay 2 = .ok (.iload_n 1, 1) := by decide +kernel
theorem dX2_passDay_3 : decode cX2_passDay 3 = .ok (.aload_n 0, 1) := by decide +kernel
theorem dX2_passDay_4 : decode cX2_passDay 4 = .ok (.getfield 17, 3) := by decide +kernel
theorem dX2_passDay_7 : decode cX2_passDay 7 = .ok (.if_icmp .ge 79, 3) := by decide +kernel
theorem dX2_passDay_10 : decode cX2_passDay 10 = .ok (.aload_n 0, 1) := by decide +kernel
theorem dX2_passDay_11 : decode cX2_passDay 11 = .ok (.getfield 11, 3) := by decide +kernel
theorem dX2_passDay_14 : decode cX2_passDay 14 = .ok (.iload_n 1, 1) := by decide +kernel
theorem dX2_passDay_15 : decode cX2_passDay 15 = .ok (.aaload, 1) := by decide +kernel
theorem dX2_passDay_16 : decode cX2_passDay 16 = .ok (.astore_n 2, 1) := by decide +kernel
theorem dX2_passDay_17 : decode cX2_passDay 17 = .ok (.aload_n 2, 1) := by decide +kernel
theorem dX2_passDay_18 : decode cX2_passDay 18 = .ok (.getfield 86, 3) := by decide +kernel
theorem dX2_passDay_21 : decode cX2_passDay 21 = .ok (.ifCond .le 59, 3) := by decide +kernel
theorem dX2_passDay_24 : decode cX2_passDay 24 = .ok (.aload_n 2, 1) := by decide +kernel
theorem dX2_passDay_25 : decode cX2_passDay 25 = .ok (.getfield 86, 3) := by decide +kernel
theorem dX2_passDay_28 : decode cX2_passDay 28 = .ok (.aload_n 0, 1) := by decide +kernel
theorem dX2_passDay_29 : decode cX2_passDay 29 = .ok (.aload_n 2, 1) := by decide +kernel
theorem dX2_passDay_30 : decode cX2_passDay 30 = .ok (.aload_n 0, 1) := by decide +kernel
theorem dX2_passDay_31 : decode cX2_passDay 31 = .ok (.invokevirtual 77, 3) := by decide +kernel
theorem dX2_passDay_34 : decode cX2_passDay 34 = .ok (.bipush 10, 2) := by decide +kernel
theorem dX2_passDay_36 : decode cX2_passDay 36 = .ok (.irem, 1) := by decide +kernel
theorem dX2_passDay_37 : decode cX2_passDay 37 = .ok (.invokevirtual 130, 3) := by decide +kernel
theorem dX2_passDay_40 : decode cX2_passDay 40 = .ok (.invokestatic 127, 3) := by decide +kernel
theorem dX2_passDay_43 : decode cX2_passDay 43 = .ok (.istore_n 3, 1) := by decide +kernel
theorem dX2_passDay_44 : decode cX2_passDay 44 = .ok (.aload_n 2, 1) := by decide +kernel
theorem dX2_passDay_45 : decode cX2_passDay 45 = .ok (.dup, 1) := by decide +kernel
theorem dX2_passDay_46 : decode cX2_passDay 46 = .ok (.getfield 86, 3) := by decide +kernel
theorem dX2_passDay_49 : decode cX2_passDay 49 = .ok (.iload_n 3, 1) := by decide +kernel
theorem dX2_passDay_50 : decode cX2_passDay 50 = .ok (.isub, 1) := by decide +kernel
theorem dX2_passDay_51 : decode cX2_passDay 51 = .ok (.putfield 86, 3) := by decide +kernel
theorem dX2_passDay_54 : decode cX2_passDay 54 = .ok (.aload_n 0, 1) := by decide +kernel
theorem dX2_passDay_55 : decode cX2_passDay 55 = .ok (.dup, 1) := by decide +kernel
theorem dX2_passDay_56 : decode cX2_passDay 56 = .ok (.getfield 55, 3) := by decide +kernel
theorem dX2_passDay_59 : decode cX2_passDay 59 = .ok (.iload_n 3, 1) := by decide +kernel
theorem dX2_passDay_60 : decode cX2_passDay 60 = .ok (.iadd, 1) := by decide +kernel
theorem dX2_passDay_61 : decode cX2_passDay 61 = .ok (.putfield 55, 3) := by decide +kernel
theorem dX2_passDay_64 : decode cX2_passDay 64 = .ok (.aload_n 2, 1) := by decide +kernel
theorem dX2_passDay_65 : decode cX2_passDay 65 = .ok (.sipush 999, 3) := by decide +kernel
theorem dX2_passDay_68 : decode cX2_passDay 68 = .ok (.aload_n 2, 1) := by decide +kernel
theorem dX2_passDay_69 : decode cX2_passDay 69 = .ok (.getfield 109, 3) := by decide +kernel
theorem dX2_passDay_72 : decode cX2_passDay 72 = .ok (.iconst 1, 1) := by decide +kernel
theorem dX2_passDay_73 : decode cX2_passDay 73 = .ok (.iadd, 1) := by decide +kernel
theorem dX2_passDay_74 : decode cX2_passDay 74 = .ok (.invokestatic 127, 3) := by decide +kernel
theorem dX2_passDay_77 : decode cX2_passDay 77 = .ok (.putfield 109, 3) := by decide +kernel
theorem dX2_passDay_80 : decode cX2_passDay 80 = .ok (.iinc 1 1, 3) := by decide +kernel
theorem dX2_passDay_83 : decode cX2_passDay 83 = .ok (.goto (-81), 3) := by decide +kernel
theorem dX2_passDay_86 : decode cX2_passDay 86 = .ok (.aload_n 0, 1) := by decide +kernel
theorem dX2_passDay_87 : decode cX2_passDay 87 = .ok (.dup, 1) := by decide +kernel
theorem dX2_passDay_88 : decode cX2_passDay 88 = .ok (.getfield 49, 3) := by decide +kernel
theorem dX2_passDay_91 : decode cX2_passDay 91 = .ok (.iconst 1, 1) := by decide +kernel
theorem dX2_passDay_92 : decode cX2_passDay 92 = .ok (.iadd, 1) := by decide +kernel
theorem dX2_passDay_93 : decode cX2_passDay 93 = .ok (.putfield 49, 3) := by decide +kernel
theorem dX2_passDay_96 : decode cX2_passDay 96 = .ok (.return_, 1) := by decide +kernel
theorem dX2_filledCount_0 : decode cX2_filledCount 0 = .ok (.iconst 0, 1) := by decide +kernel
theorem dX2_filledCount_1 : decode cX2_filledCount 1 = .ok (.istore_n 1, 1) := by decide +kernel
theorem dX2_filledCount_2 : decode cX2_filledCount 2 = .ok (.iconst 0, 1) := by decide +kernel
theorem dX2_filledCount_3 : decode cX2_filledCount 3 = .ok (.istore_n 2, 1) := by decide +kernel
theorem dX2_filledCount_4 : decode cX2_filledCount 4 = .ok (.iload_n 2, 1) := by decide +kernel
theorem dX2_filledCount_5 : decode cX2_filledCount 5 = .ok (.aload_n 0, 1) := by decide +kernel
theorem dX2_filledCount_6 : decode cX2_filledCount 6 = .ok (.getfield 17, 3) := by decide +kernel
theorem dX2_filledCount_9 : decode cX2_filledCount 9 = .ok (.if_icmp .ge 24, 3) := by decide +kernel
theorem dX2_filledCount_12 : decode cX2_filledCount 12 = .ok (.aload_n 0, 1) := by decide +kernel
theorem dX2_filledCount_13 : decode cX2_filledCount 13 = .ok (.getfield 11, 3) := by decide +kernel
theorem dX2_filledCount_16 : decode cX2_filledCount 16 = .ok (.iload_n 2, 1) := by decide +kernel
theorem dX2_filledCount_17 : decode cX2_filledCount 17 = .ok (.aaload, 1) := by decide +kernel
theorem dX2_filledCount_18 : decode cX2_filledCount 18 = .ok (.getfield 86, 3) := by decide +kernel
theorem dX2_filledCount_21 : decode cX2_filledCount 21 = .ok (.ifCond .ne 6, 3) := by decide +kernel
theorem dX2_filledCount_24 : decode cX2_filledCount 24 = .ok (.iinc 1 1, 3) := by decide +kernel
theorem dX2_filledCount_27 : decode cX2_filledCount 27 = .ok (.iinc 2 1, 3) := by decide +kernel
theorem dX2_filledCount_30 : decode cX2_filledCount 30 = .ok (.goto (-26), 3) := by decide +kernel
theorem dX2_filledCount_33 : decode cX2_filledCount 33 = .ok (.iload_n 1, 1) := by decide +kernel
theorem dX2_filledCount_34 : decode cX2_filledCount 34 = .ok (.ireturn, 1) := by decide +kernel
theorem dX2_depthSum_0 : decode cX2_depthSum 0 = .ok (.iconst 0, 1) := by decide +kernel
theorem dX2_depthSum_1 : decode cX2_depthSum 1 = .ok (.istore_n 1, 1) := by decide +kernel
theorem dX2_depthSum_2 : decode cX2_depthSum 2 = .ok (.iconst 0, 1) := by decide +kernel
theorem dX2_depthSum_3 : decode cX2_depthSum 3 = .ok (.istore_n 2, 1) := by decide +kernel
theorem dX2_depthSum_4 : decode cX2_depthSum 4 = .ok (.iload_n 2, 1) := by decide +kernel
theorem dX2_depthSum_5 : decode cX2_depthSum 5 = .ok (.aload_n 0, 1) := by decide +kernel
theorem dX2_depthSum_6 : decode cX2_depthSum 6 = .ok (.getfield 17, 3) := by decide +kernel
theorem dX2_depthSum_9 : decode cX2_depthSum 9 = .ok (.if_icmp .ge 21, 3) := by decide +kernel
theorem dX2_depthSum_12 : decode cX2_depthSum 12 = .ok (.iload_n 1, 1) := by decide +kernel
theorem dX2_depthSum_13 : decode cX2_depthSum 13 = .ok (.aload_n 0, 1) := by decide +kernel
theorem dX2_depthSum_14 : decode cX2_depthSum 14 = .ok (.getfield 11, 3) := by decide +kernel
theorem dX2_depthSum_17 : decode cX2_depthSum 17 = .ok (.iload_n 2, 1) := by decide +kernel
theorem dX2_depthSum_18 : decode cX2_depthSum 18 = .ok (.aaload, 1) := by decide +kernel
theorem dX2_depthSum_19 : decode cX2_depthSum 19 = .ok (.getfield 86, 3) := by decide +kernel
theorem dX2_depthSum_22 : decode cX2_depthSum 22 = .ok (.iadd, 1) := by decide +kernel
theorem dX2_depthSum_23 : decode cX2_depthSum 23 = .ok (.istore_n 1, 1) := by decide +kernel
theorem dX2_depthSum_24 : decode cX2_depthSum 24 = .ok (.iinc 2 1, 3) := by decide +kernel
theorem dX2_depthSum_27 : decode cX2_depthSum 27 = .ok (.goto (-23), 3) := by decide +kernel
theorem dX2_depthSum_30 : decode cX2_depthSum 30 = .ok (.iload_n 1, 1) := by decide +kernel
theorem dX2_depthSum_31 : decode cX2_depthSum 31 = .ok (.ireturn, 1) := by decide +kernel
theorem dX2_debtOf_0 : decode cX2_debtOf 0 = .ok (.iconst 0, 1) := by decide +kernel
theorem dX2_debtOf_1 : decode cX2_debtOf 1 = .ok (.istore_n 2, 1) := by decide +kernel
theorem dX2_debtOf_2 : decode cX2_debtOf 2 = .ok (.iconst 0, 1) := by decide +kernel
theorem dX2_debtOf_3 : decode cX2_debtOf 3 = .ok (.istore_n 3, 1) := by decide +kernel
theorem dX2_debtOf_4 : decode cX2_debtOf 4 = .ok (.iload_n 3, 1) := by decide +kernel
theorem dX2_debtOf_5 : decode cX2_debtOf 5 = .ok (.aload_n 0, 1) := by decide +kernel
theorem dX2_debtOf_6 : decode cX2_debtOf 6 = .ok (.getfield 17, 3) := by decide +kernel
theorem dX2_debtOf_9 : decode cX2_debtOf 9 = .ok (.if_icmp .ge 34, 3) := by decide +kernel
theorem dX2_debtOf_12 : decode cX2_debtOf 12 = .ok (.aload_n 0, 1) := by decide +kernel
theorem dX2_debtOf_13 : decode cX2_debtOf 13 = .ok (.getfield 11, 3) := by decide +kernel
theorem dX2_debtOf_16 : decode cX2_debtOf 16 = .ok (.iload_n 3, 1) := by decide +kernel
theorem dX2_debtOf_17 : decode cX2_debtOf 17 = .ok (.aaload, 1) := by decide +kernel
theorem dX2_debtOf_18 : decode cX2_debtOf 18 = .ok (.getfield 112, 3) := by decide +kernel
theorem dX2_debtOf_21 : decode cX2_debtOf 21 = .ok (.iload_n 1, 1) := by decide +kernel
theorem dX2_debtOf_22 : decode cX2_debtOf 22 = .ok (.if_icmp .ne 15, 3) := by decide +kernel
theorem dX2_debtOf_25 : decode cX2_debtOf 25 = .ok (.iload_n 2, 1) := by decide +kernel
theorem dX2_debtOf_26 : decode cX2_debtOf 26 = .ok (.aload_n 0, 1) := by decide +kernel
theorem dX2_debtOf_27 : decode cX2_debtOf 27 = .ok (.getfield 11, 3) := by decide +kernel
theorem dX2_debtOf_30 : decode cX2_debtOf 30 = .ok (.iload_n 3, 1) := by decide +kernel
theorem dX2_debtOf_31 : decode cX2_debtOf 31 = .ok (.aaload, 1) := by decide +kernel
theorem dX2_debtOf_32 : decode cX2_debtOf 32 = .ok (.getfield 86, 3) := by decide +kernel
theorem dX2_debtOf_35 : decode cX2_debtOf 35 = .ok (.iadd, 1) := by decide +kernel
theorem dX2_debtOf_36 : decode cX2_debtOf 36 = .ok (.istore_n 2, 1) := by decide +kernel
theorem dX2_debtOf_37 : decode cX2_debtOf 37 = .ok (.iinc 3 1, 3) := by decide +kernel
theorem dX2_debtOf_40 : decode cX2_debtOf 40 = .ok (.goto (-36), 3) := by decide +kernel
theorem dX2_debtOf_43 : decode cX2_debtOf 43 = .ok (.iload_n 2, 1) := by decide +kernel
theorem dX2_debtOf_44 : decode cX2_debtOf 44 = .ok (.ireturn, 1) := by decide +kernel
theorem dX2_fineOf_0 : decode cX2_fineOf 0 = .ok (.aload_n 0, 1) := by decide +kernel
theorem dX2_fineOf_1 : decode cX2_fineOf 1 = .ok (.iconst 2, 1) := by decide +kernel
theorem dX2_fineOf_2 : decode cX2_fineOf 2 = .ok (.invokevirtual 105, 3) := by decide +kernel
theorem dX2_fineOf_5 : decode cX2_fineOf 5 = .ok (.astore_n 2, 1) := by decide +kernel
theorem dX2_fineOf_6 : decode cX2_fineOf 6 = .ok (.aload_n 2, 1) := by decide +kernel
theorem dX2_fineOf_7 : decode cX2_fineOf 7 = .ok (.ifnonnull 11, 3) := by decide +kernel
theorem dX2_fineOf_10 : decode cX2_fineOf 10 = .ok (.aload_n 0, 1) := by decide +kernel
theorem dX2_fineOf_11 : decode cX2_fineOf 11 = .ok (.iload_n 1, 1) := by decide +kernel
theorem dX2_fineOf_12 : decode cX2_fineOf 12 = .ok (.invokevirtual 133, 3) := by decide +kernel
theorem dX2_fineOf_15 : decode cX2_fineOf 15 = .ok (.goto 17, 3) := by decide +kernel
theorem dX2_fineOf_18 : decode cX2_fineOf 18 = .ok (.aload_n 2, 1) := by decide +kernel
theorem dX2_fineOf_19 : decode cX2_fineOf 19 = .ok (.aload_n 0, 1) := by decide +kernel
theorem dX2_fineOf_20 : decode cX2_fineOf 20 = .ok (.iload_n 1, 1) := by decide +kernel
theorem dX2_fineOf_21 : decode cX2_fineOf 21 = .ok (.invokevirtual 133, 3) := by decide +kernel
theorem dX2_fineOf_24 : decode cX2_fineOf 24 = .ok (.aload_n 0, 1) := by decide +kernel
theorem dX2_fineOf_25 : decode cX2_fineOf 25 = .ok (.getfield 52, 3) := by decide +kernel
theorem dX2_fineOf_28 : decode cX2_fineOf 28 = .ok (.iconst 0, 1) := by decide +kernel
theorem dX2_fineOf_29 : decode cX2_fineOf 29 = .ok (.invokevirtual 115, 3) := by decide +kernel
theorem dX2_fineOf_32 : decode cX2_fineOf 32 = .ok (.ireturn, 1) := by decide +kernel
theorem dX2_findText_0 : decode cX2_findText 0 = .ok (.iload_n 1, 1) := by decide +kernel
theorem dX2_findText_1 : decode cX2_findText 1 = .ok (.ifCond .lt 20, 3) := by decide +kernel
theorem dX2_findText_4 : decode cX2_findText 4 = .ok (.iload_n 1, 1) := by decide +kernel
theorem dX2_findText_5 : decode cX2_findText 5 = .ok (.aload_n 0, 1) := by decide +kernel
theorem dX2_findText_6 : decode cX2_findText 6 = .ok (.getfield 37, 3) := by decide +kernel
theorem dX2_findText_9 : decode cX2_findText 9 = .ok (.if_icmp .ge 12, 3) := by decide +kernel
theorem dX2_findText_12 : decode cX2_findText 12 = .ok (.aload_n 0, 1) := by decide +kernel
theorem dX2_findText_13 : decode cX2_findText 13 = .ok (.getfield 33, 3) := by decide +kernel
theorem dX2_findText_16 : decode cX2_findText 16 = .ok (.iload_n 1, 1) := by decide +kernel
theorem dX2_findText_17 : decode cX2_findText 17 = .ok (.aaload, 1) := by decide +kernel
theorem dX2_findText_18 : decode cX2_findText 18 = .ok (.goto 4, 3) := by decide +kernel
theorem dX2_findText_21 : decode cX2_findText 21 = .ok (.aconst_null, 1) := by decide +kernel
theorem dX2_findText_22 : decode cX2_findText 22 = .ok (.areturn, 1) := by decide +kernel
theorem dX2_textFor_0 : decode cX2_textFor 0 = .ok (.aload_n 0, 1) := by decide +kernel
theorem dX2_textFor_1 : decode cX2_textFor 1 = .ok (.aload_n 0, 1) := by decide +kernel
theorem dX2_textFor_2 : decode cX2_textFor 2 = .ok (.getfield 40, 3) := by decide +kernel
theorem dX2_textFor_5 : decode cX2_textFor 5 = .ok (.iload_n 1, 1) := by decide +kernel
theorem dX2_textFor_6 : decode cX2_textFor 6 = .ok (.iaload, 1) := by decide +kernel
theorem dX2_textFor_7 : decode cX2_textFor 7 = .ok (.invokevirtual 136, 3) := by decide +kernel
theorem dX2_textFor_10 : decode cX2_textFor 10 = .ok (.areturn, 1) := by decide +kernel
theorem dX2_addText_0 : decode cX2_addText 0 = .ok (.aload_n 0, 1) := by decide +kernel
theorem dX2_addText_1 : decode cX2_addText 1 = .ok (.getfield 37, 3) := by decide +kernel
theorem dX2_addText_4 : decode cX2_addText 4 = .ok (.istore_n 2, 1) := by decide +kernel
theorem dX2_addText_5 : decode cX2_addText 5 = .ok (.iload_n 2, 1) := by decide +kernel
theorem dX2_addText_6 : decode cX2_addText 6 = .ok (.bipush 14, 2) := by decide +kernel
theorem dX2_addText_8 : decode cX2_addText 8 = .ok (.if_icmp .ge 18, 3) := by decide +kernel
theorem dX2_addText_11 : decode cX2_addText 11 = .ok (.aload_n 1, 1) := by decide +kernel
theorem dX2_addText_12 : decode cX2_addText 12 = .ok (.getfield 139, 3) := by decide +kernel
theorem dX2_addText_15 : decode cX2_addText 15 = .ok (.ifCond .lt 11, 3) := by decide +kernel
theorem dX2_addText_18 : decode cX2_addText 18 = .ok (.aload_n 1, 1) := by decide +kernel
theorem dX2_addText_19 : decode cX2_addText 19 = .ok (.getfield 139, 3) := by decide +kernel
theorem dX2_addText_22 : decode cX2_addText 22 = .ok (.iconst 3, 1) := by decide +kernel
theorem dX2_addText_23 : decode cX2_addText 23 = .ok (.if_icmp .lt 6, 3) := by decide +kernel
theorem dX2_addText_26 : decode cX2_addText 26 = .ok (.ldc 72, 2) := by decide +kernel
theorem dX2_addText_28 : decode cX2_addText 28 = .ok (.ireturn, 1) := by decide +kernel
theorem dX2_addText_29 : decode cX2_addText 29 = .ok (.aload_n 0, 1) := by decide +kernel
theorem dX2_addText_30 : decode cX2_addText 30 = .ok (.getfield 33, 3) := by decide +kernel
theorem dX2_addText_33 : decode cX2_addText 33 = .ok (.iload_n 2, 1) := by decide +kernel
theorem dX2_addText_34 : decode cX2_addText 34 = .ok (.aload_n 1, 1) := by decide +kernel
theorem dX2_addText_35 : decode cX2_addText 35 = .ok (.aastore, 1) := by decide +kernel
theorem dX2_addText_36 : decode cX2_addText 36 = .ok (.aload_n 0, 1) := by decide +kernel
theorem dX2_addText_37 : decode cX2_addText 37 = .ok (.getfield 40, 3) := by decide +kernel
theorem dX2_addText_40 : decode cX2_addText 40 = .ok (.aload_n 1, 1) := by decide +kernel
theorem dX2_addText_41 : decode cX2_addText 41 = .ok (.getfield 139, 3) := by decide +kernel
theorem dX2_addText_44 : decode cX2_addText 44 = .ok (.iload_n 2, 1) := by decide +kernel
theorem dX2_addText_45 : decode cX2_addText 45 = .ok (.iastore, 1) := by decide +kernel
theorem dX2_addText_46 : decode cX2_addText 46 = .ok (.aload_n 0, 1) := by decide +kernel
theorem dX2_addText_47 : decode cX2_addText 47 = .ok (.iload_n 2, 1) := by decide +kernel
theorem dX2_addText_48 : decode cX2_addText 48 = .ok (.iconst 1, 1) := by decide +kernel
theorem dX2_addText_49 : decode cX2_addText 49 = .ok (.iadd, 1) := by decide +kernel
theorem dX2_addText_50 : decode cX2_addText 50 = .ok (.putfield 37, 3) := by decide +kernel
theorem dX2_addText_53 : decode cX2_addText 53 = .ok (.iload_n 2, 1) := by decide +kernel
theorem dX2_addText_54 : decode cX2_addText 54 = .ok (.ireturn, 1) := by decide +kernel
theorem dX3_init_0 : decode cX3_init 0 = .ok (.aload_n 0, 1) := by decide +kernel
theorem dX3_init_1 : decode cX3_init 1 = .ok (.invokespecial 3, 3) := by decide +kernel
theorem dX3_init_4 : decode cX3_init 4 = .ok (.aload_n 0, 1) := by decide +kernel
theorem dX3_init_5 : decode cX3_init 5 = .ok (.iconst (-1), 1) := by decide +kernel
theorem dX3_init_6 : decode cX3_init 6 = .ok (.putfield 9, 3) := by decide +kernel
theorem dX3_init_9 : decode cX3_init 9 = .ok (.aload_n 0, 1) := by decide +kernel
theorem dX3_init_10 : decode cX3_init 10 = .ok (.iconst 0, 1) := by decide +kernel
theorem dX3_init_11 : decode cX3_init 11 = .ok (.putfield 15, 3) := by decide +kernel
theorem dX3_init_14 : decode cX3_init 14 = .ok (.aload_n 0, 1) := by decide +kernel
theorem dX3_init_15 : decode cX3_init 15 = .ok (.bipush 24, 2) := by decide +kernel
theorem dX3_init_17 : decode cX3_init 17 = .ok (.newarray .int, 2) := by decide +kernel
theorem dX3_init_19 : decode cX3_init 19 = .ok (.putfield 18, 3) := by decide +kernel
theorem dX3_init_22 : decode cX3_init 22 = .ok (.return_, 1) := by decide +kernel
theorem dX3_clear_0 : decode cX3_clear 0 = .ok (.aload_n 0, 1) := by decide +kernel
theorem dX3_clear_1 : decode cX3_clear 1 = .ok (.iload_n 1, 1) := by decide +kernel
theorem dX3_clear_2 : decode cX3_clear 2 = .ok (.putfield 9, 3) := by decide +kernel
theorem dX3_clear_5 : decode cX3_clear 5 = .ok (.aload_n 0, 1) := by decide +kernel
theorem dX3_clear_6 : decode cX3_clear 6 = .ok (.iload_n 2, 1) := by decide +kernel
theorem dX3_clear_7 : decode cX3_clear 7 = .ok (.putfield 15, 3) := by decide +kernel
theorem dX3_clear_10 : decode cX3_clear 10 = .ok (.aload_n 0, 1) := by decide +kernel
theorem dX3_clear_11 : decode cX3_clear 11 = .ok (.getfield 18, 3) := by decide +kernel
theorem dX3_clear_14 : decode cX3_clear 14 = .ok (.iconst 0, 1) := by decide +kernel
theorem dX3_clear_15 : decode cX3_clear 15 = .ok (.invokestatic 22, 3) := by decide +kernel
theorem dX3_clear_18 : decode cX3_clear 18 = .ok (.return_, 1) := by decide +kernel
theorem dX3_become_0 : decode cX3_become 0 = .ok (.aload_n 0, 1) := by decide +kernel
theorem dX3_become_1 : decode cX3_become 1 = .ok (.aload_n 1, 1) := by decide +kernel
theorem dX3_become_2 : decode cX3_become 2 = .ok (.getfield 9, 3) := by decide +kernel
theorem dX3_become_5 : decode cX3_become 5 = .ok (.putfield 9, 3) := by decide +kernel
theorem dX3_become_8 : decode cX3_become 8 = .ok (.aload_n 0, 1) := by decide +kernel
theorem dX3_become_9 : decode cX3_become 9 = .ok (.aload_n 1, 1) := by decide +kernel
theorem dX3_become_10 : decode cX3_become 10 = .ok (.getfield 15, 3) := by decide +kernel
theorem dX3_become_13 : decode cX3_become 13 = .ok (.putfield 15, 3) := by decide +kernel
theorem dX3_become_16 : decode cX3_become 16 = .ok (.aload_n 1, 1) := by decide +kernel
theorem dX3_become_17 : decode cX3_become 17 = .ok (.getfield 18, 3) := by decide +kernel
theorem dX3_become_20 : decode cX3_become 20 = .ok (.iconst 0, 1) := by decide +kernel
theorem dX3_become_21 : decode cX3_become 21 = .ok (.aload_n 0, 1) := by decide +kernel
theorem dX3_become_22 : decode cX3_become 22 = .ok (.getfield 18, 3) := by decide +kernel
theorem dX3_become_25 : decode cX3_become 25 = .ok (.iconst 0, 1) := by decide +kernel
theorem dX3_become_26 : decode cX3_become 26 = .ok (.bipush 24, 2) := by decide +kernel
theorem dX3_become_28 : decode cX3_become 28 = .ok (.invokestatic 28, 3) := by decide +kernel
theorem dX3_become_31 : decode cX3_become 31 = .ok (.return_, 1) := by decide +kernel
theorem dX3_has_0 : decode cX3_has 0 = .ok (.iload_n 1, 1) := by decide +kernel
theorem dX3_has_1 : decode cX3_has 1 = .ok (.ifCond .lt 15, 3) := by decide +kernel
theorem dX3_has_4 : decode cX3_has 4 = .ok (.iload_n 1, 1) := by decide +kernel
theorem dX3_has_5 : decode cX3_has 5 = .ok (.aload_n 0, 1) := by decide +kernel
theorem dX3_has_6 : decode cX3_has 6 = .ok (.getfield 15, 3) := by decide +kernel
theorem dX3_has_9 : decode cX3_has 9 = .ok (.if_icmp .ge 7, 3) := by decide +kernel
theorem dX3_has_12 : decode cX3_has 12 = .ok (.iconst 1, 1) := by decide +kernel
theorem dX3_has_13 : decode cX3_has 13 = .ok (.goto 4, 3) := by decide +kernel
theorem dX3_has_16 : decode cX3_has 16 = .ok (.iconst 0, 1) := by decide +kernel
theorem dX3_has_17 : decode cX3_has 17 = .ok (.ireturn, 1) := by decide +kernel
theorem dX3_hasAll_0 : decode cX3_hasAll 0 = .ok (.iload_n 1, 1) := by decide +kernel
theorem dX3_hasAll_1 : decode cX3_hasAll 1 = .ok (.ifCond .lt 29, 3) := by decide +kernel
theorem dX3_hasAll_4 : decode cX3_hasAll 4 = .ok (.iload_n 2, 1) := by decide +kernel
theorem dX3_hasAll_5 : decode cX3_hasAll 5 = .ok (.ifCond .lt 25, 3) := by decide +kernel
theorem dX3_hasAll_8 : decode cX3_hasAll 8 = .ok (.iload_n 1, 1) := by decide +kernel
theorem dX3_hasAll_9 : decode cX3_hasAll 9 = .ok (.aload_n 0, 1) := by decide +kernel
theorem dX3_hasAll_10 : decode cX3_hasAll 10 = .ok (.getfield 15, 3) := by decide +kernel
theorem dX3_hasAll_13 : decode cX3_hasAll 13 = .ok (.if_icmp .gt 17, 3) := by decide +kernel
theorem dX3_hasAll_16 : decode cX3_hasAll 16 = .ok (.iload_n 2, 1) := by decide +kernel
theorem dX3_hasAll_17 : decode cX3_hasAll 17 = .ok (.aload_n 0, 1) := by decide +kernel
theorem dX3_hasAll_18 : decode cX3_hasAll 18 = .ok (.getfield 15, 3) := by decide +kernel
theorem dX3_hasAll_21 : decode cX3_hasAll 21 = .ok (.iload_n 1, 1) := by decide +kernel
theorem dX3_hasAll_22 : decode cX3_hasAll 22 = .ok (.isub, 1) := by decide +kernel
theorem dX3_hasAll_23 : decode cX3_hasAll 23 = .ok (.if_icmp .gt 7, 3) := by decide +kernel
theorem dX3_hasAll_26 : decode cX3_hasAll 26 = .ok (.iconst 1, 1) := by decide +kernel
theorem dX3_hasAll_27 : decode cX3_hasAll 27 = .ok (.goto 4, 3) := by decide +kernel
theorem dX3_hasAll_30 : decode cX3_hasAll 30 = .ok (.iconst 0, 1) := by decide +kernel
theorem dX3_hasAll_31 : decode cX3_hasAll 31 = .ok (.ireturn, 1) := by decide +kernel
theorem dX3_isNumber_0 : decode cX3_isNumber 0 = .ok (.aload_n 0, 1) := by decide +kernel
theorem dX3_isNumber_1 : decode cX3_isNumber 1 = .ok (.iload_n 1, 1) := by decide +kernel
theorem dX3_isNumber_2 : decode cX3_isNumber 2 = .ok (.invokevirtual 34, 3) := by decide +kernel
theorem dX3_isNumber_5 : decode cX3_isNumber 5 = .ok (.ifCond .eq 18, 3) := by decide +kernel
theorem dX3_isNumber_8 : decode cX3_isNumber 8 = .ok (.aload_n 0, 1) := by decide +kernel
theorem dX3_isNumber_9 : decode cX3_isNumber 9 = .ok (.getfield 18, 3) := by decide +kernel
theorem dX3_isNumber_12 : decode cX3_isNumber 12 = .ok (.iload_n 1, 1) := by decide +kernel
theorem dX3_isNumber_13 : decode cX3_isNumber 13 = .ok (.iaload, 1) := by decide +kernel
theorem dX3_isNumber_14 : decode cX3_isNumber 14 = .ok (.ldc 38, 2) := by decide +kernel
theorem dX3_isNumber_16 : decode cX3_isNumber 16 = .ok (.if_icmp .eq 7, 3) := by decide +kernel
theorem dX3_isNumber_19 : decode cX3_isNumber 19 = .ok (.iconst 1, 1) := by decide +kernel
theorem dX3_isNumber_20 : decode cX3_isNumber 20 = .ok (.goto 4, 3) := by decide +kernel
theorem dX3_isNumber_23 : decode cX3_isNumber 23 = .ok (.iconst 0, 1) := by decide +kernel
theorem dX3_isNumber_24 : decode cX3_isNumber 24 = .ok (.ireturn, 1) := by decide +kernel
theorem dX4_init_0 : decode cX4_init 0 = .ok (.aload_n 0, 1) := by decide +kernel
theorem dX4_init_1 : decode cX4_init 1 = .ok (.invokespecial 3, 3) := by decide +kernel
theorem dX4_init_4 : decode cX4_init 4 = .ok (.aload_n 0, 1) := by decide +kernel
theorem dX4_init_5 : decode cX4_init 5 = .ok (.iconst 0, 1) := by decide +kernel
theorem dX4_init_6 : decode cX4_init 6 = .ok (.putfield 9, 3) := by decide +kernel
theorem dX4_init_9 : decode cX4_init 9 = .ok (.aload_n 0, 1) := by decide +kernel
theorem dX4_init_10 : decode cX4_init 10 = .ok (.iconst 0, 1) := by decide +kernel
theorem dX4_init_11 : decode cX4_init 11 = .ok (.putfield 15, 3) := by decide +kernel
theorem dX4_init_14 : decode cX4_init 14 = .ok (.aload_n 0, 1) := by decide +kernel
theorem dX4_init_15 : decode cX4_init 15 = .ok (.new 18, 3) := by decide +kernel
theorem dX4_init_18 : decode cX4_init 18 = .ok (.dup, 1) := by decide +kernel
theorem dX4_init_19 : decode cX4_init 19 = .ok (.invokespecial 20, 3) := by decide +kernel
theorem dX4_init_22 : decode cX4_init 22 = .ok (.putfield 21, 3) := by decide +kernel
theorem dX4_init_25 : decode cX4_init 25 = .ok (.aload_n 0, 1) := by decide +kernel
theorem dX4_init_26 : decode cX4_init 26 = .ok (.new 25, 3) := by decide +kernel
theorem dX4_init_29 : decode cX4_init 29 = .ok (.dup, 1) := by decide +kernel
theorem dX4_init_30 : decode cX4_init 30 = .ok (.invokespecial 27, 3) := by decide +kernel
theorem dX4_init_33 : decode cX4_init 33 = .ok (.putfield 28, 3) := by decide +kernel
theorem dX4_init_36 : decode cX4_init 36 = .ok (.return_, 1) := by decide +kernel
theorem dJ0_length_8abf5_0 : decode cJ0_length_8abf5 0 = .ok (.aload_n 0, 1) := by decide +kernel
theorem dJ0_length_8abf5_1 : decode cJ0_length_8abf5 1 = .ok (.getfield 9, 3) := by decide +kernel
theorem dJ0_length_8abf5_4 : decode cJ0_length_8abf5 4 = .ok (.arraylength, 1) := by decide +kernel
theorem dJ0_length_8abf5_5 : decode cJ0_length_8abf5 5 = .ok (.aload_n 0, 1) := by decide +kernel
theorem dJ0_length_8abf5_6 : decode cJ0_length_8abf5 6 = .ok (.invokevirtual 335, 3) := by decide +kernel
theorem dJ0_length_8abf5_9 : decode cJ0_length_8abf5 9 = .ok (.ishr, 1) := by decide +kernel
theorem dJ0_length_8abf5_10 : decode cJ0_length_8abf5 10 = .ok (.ireturn, 1) := by decide +kernel
theorem dJ0_charAt_5068e_0 : decode cJ0_charAt_5068e 0 = .ok (.aload_n 0, 1) := by decide +kernel
theorem dJ0_charAt_5068e_1 : decode cJ0_charAt_5068e 1 = .ok (.invokevirtual 492, 3) := by decide +kernel
theorem dJ0_charAt_5068e_4 : decode cJ0_charAt_5068e 4 = .ok (.ifCond .eq 12, 3) := by decide +kernel
theorem dJ0_charAt_5068e_7 : decode cJ0_charAt_5068e 7 = .ok (.aload_n 0, 1) := by decide +kernel
theorem dJ0_charAt_5068e_8 : decode cJ0_charAt_5068e 8 = .ok (.getfield 9, 3) := by decide +kernel
theorem dJ0_charAt_5068e_11 : decode cJ0_charAt_5068e 11 = .ok (.iload_n 1, 1) := by decide +kernel
theorem dJ0_charAt_5068e_12 : decode cJ0_charAt_5068e 12 = .ok (.invokestatic 495, 3) := by decide +kernel
theorem dJ0_charAt_5068e_15 : decode cJ0_charAt_5068e 15 = .ok (.ireturn, 1) := by decide +kernel
theorem dJ0_charAt_5068e_16 : decode cJ0_charAt_5068e 16 = .ok (.aload_n 0, 1) := by decide +kernel
theorem dJ0_charAt_5068e_17 : decode cJ0_charAt_5068e 17 = .ok (.getfield 9, 3) := by decide +kernel
theorem dJ0_charAt_5068e_20 : decode cJ0_charAt_5068e 20 = .ok (.iload_n 1, 1) := by decide +kernel
theorem dJ0_indexOf_0f7a4_0 : decode cJ0_indexOf_0f7a4 0 = .ok (.aload_n 0, 1) := by decide +kernel
theorem dJ0_indexOf_0f7a4_1 : decode cJ0_indexOf_0f7a4 1 = .ok (.iload_n 1, 1) := by decide +kernel
theorem dJ0_indexOf_0f7a4_2 : decode cJ0_indexOf_0f7a4 2 = .ok (.iconst 0, 1) := by decide +kernel
theorem dJ0_indexOf_0f7a4_3 : decode cJ0_indexOf_0f7a4 3 = .ok (.invokevirtual 633, 3) := by decide +kernel
theorem dJ0_indexOf_0f7a4_6 : decode cJ0_indexOf_0f7a4 6 = .ok (.ireturn, 1) := by decide +kernel
theorem dJ0_indexOf_7cf53_0 : decode cJ0_indexOf_7cf53 0 = .ok (.aload_n 0, 1) := by decide +kernel
theorem dJ0_indexOf_7cf53_1 : decode cJ0_indexOf_7cf53 1 = .ok (.invokevirtual 492, 3) := by decide +kernel
theorem dJ0_indexOf_7cf53_4 : decode cJ0_indexOf_7cf53 4 = .ok (.ifCond .eq 19, 3) := by decide +kernel
theorem dJ0_indexOf_7cf53_7 : decode cJ0_indexOf_7cf53 7 = .ok (.aload_n 0, 1) := by decide +kernel
theorem dJ0_indexOf_7cf53_8 : decode cJ0_indexOf_7cf53 8 = .ok (.getfield 9, 3) := by decide +kernel
theorem dJ0_indexOf_7cf53_11 : decode cJ0_indexOf_7cf53 11 = .ok (.iload_n 1, 1) := by decide +kernel
theorem dJ0_indexOf_7cf53_12 : decode cJ0_indexOf_7cf53 12 = .ok (.iload_n 2, 1) := by decide +kernel
theorem dJ0_indexOf_7cf53_13 : decode cJ0_indexOf_7cf53 13 = .ok (.aload_n 0, 1) := by decide +kernel
theorem dJ0_indexOf_7cf53_14 : decode cJ0_indexOf_7cf53 14 = .ok (.invokevirtual 505, 3) := by decide +kernel
theorem dJ0_indexOf_7cf53_17 : decode cJ0_indexOf_7cf53 17 = .ok (.invokestatic 637, 3) := by decide +kernel
theorem dJ0_indexOf_7cf53_20 : decode cJ0_indexOf_7cf53 20 = .ok (.goto 16, 3) := by decide +kernel
theorem dJ0_indexOf_7cf53_23 : decode cJ0_indexOf_7cf53 23 = .ok (.aload_n 0, 1) := by decide +kernel
theorem dJ0_indexOf_7cf53_24 : decode cJ0_indexOf_7cf53 24 = .ok (.getfield 9, 3) := by decide +kernel
theorem dJ0_indexOf_7cf53_27 : decode cJ0_indexOf_7cf53 27 = .ok (.iload_n 1, 1) := by decide +kernel
theorem dJ0_indexOf_7cf53_28 : decode cJ0_indexOf_7cf53 28 = .ok (.iload_n 2, 1) := by decide +kernel
theorem dJ0_indexOf_7cf53_29 : decode cJ0_indexOf_7cf53 29 = .ok (.aload_n 0, 1) := by decide +kernel
theorem dJ0_indexOf_7cf53_30 : decode cJ0_indexOf_7cf53 30 = .ok (.invokevirtual 505, 3) := by decide +kernel
theorem dJ0_indexOf_7cf53_36 : decode cJ0_indexOf_7cf53 36 = .ok (.ireturn, 1) := by decide +kernel
theorem dJ0_coder_7d493_0 : decode cJ0_coder_7d493 0 = .ok (.getstatic 38, 3) := by decide +kernel
theorem dJ0_coder_7d493_3 : decode cJ0_coder_7d493 3 = .ok (.ifCond .eq 10, 3) := by decide +kernel
theorem dJ0_coder_7d493_6 : decode cJ0_coder_7d493 6 = .ok (.aload_n 0, 1) := by decide +kernel
theorem dJ0_coder_7d493_7 : decode cJ0_coder_7d493 7 = .ok (.getfield 15, 3) := by decide +kernel
theorem dJ0_coder_7d493_10 : decode cJ0_coder_7d493 10 = .ok (.goto 4, 3) := by decide +kernel
theorem dJ0_coder_7d493_13 : decode cJ0_coder_7d493 13 = .ok (.iconst 1, 1) := by decide +kernel
theorem dJ0_coder_7d493_14 : decode cJ0_coder_7d493 14 = .ok (.ireturn, 1) := by decide +kernel
theorem dJ0_isLatin1_aae02_0 : decode cJ0_isLatin1_aae02 0 = .ok (.getstatic 38, 3) := by decide +kernel
theorem dJ0_isLatin1_aae02_3 : decode cJ0_isLatin1_aae02 3 = .ok (.ifCond .eq 14, 3) := by decide +kernel
theorem dJ0_isLatin1_aae02_6 : decode cJ0_isLatin1_aae02 6 = .ok (.aload_n 0, 1) := by decide +kernel
theorem dJ0_isLatin1_aae02_7 : decode cJ0_isLatin1_aae02 7 = .ok (.getfield 15, 3) := by decide +kernel
theorem dJ0_isLatin1_aae02_10 : decode cJ0_isLatin1_aae02 10 = .ok (.ifCond .ne 7, 3) := by decide +kernel
theorem dJ0_isLatin1_aae02_13 : decode cJ0_isLatin1_aae02 13 = .ok (.iconst 1, 1) := by decide +kernel
theorem dJ0_isLatin1_aae02_14 : decode cJ0_isLatin1_aae02 14 = .ok (.goto 4, 3) := by decide +kernel
theorem dJ0_isLatin1_aae02_17 : decode cJ0_isLatin1_aae02 17 = .ok (.iconst 0, 1) := by decide +kernel
theorem dJ0_isLatin1_aae02_18 : decode cJ0_isLatin1_aae02 18 = .ok (.ireturn, 1) := by decide +kernel
theorem dJ0_checkIndex_df160_0 : decode cJ0_checkIndex_df160 0 = .ok (.iload_n 0, 1) := by decide +kernel
theorem dJ0_checkIndex_df160_1 : decode cJ0_checkIndex_df160 1 = .ok (.iload_n 1, 1) := by decide +kernel
theorem dJ0_checkIndex_df160_2 : decode cJ0_checkIndex_df160 2 = .ok (.getstatic 1053, 3) := by decide +kernel
theorem dJ0_checkIndex_df160_5 : decode cJ0_checkIndex_df160 5 = .ok (.invokestatic 1059, 3) := by decide +kernel
theorem dJ0_checkIndex_df160_8 : decode cJ0_checkIndex_df160 8 = .ok (.pop, 1) := by decide +kernel
theorem dJ0_checkIndex_df160_9 : decode cJ0_checkIndex_df160 9 = .ok (.return_, 1) := by decide +kernel
theorem dJ1_charAt_3b067_0 : decode cJ1_charAt_3b067 0 = .ok (.iload_n 1, 1) := by decide +kernel
theorem dJ1_charAt_3b067_1 : decode cJ1_charAt_3b067 1 = .ok (.aload_n 0, 1) := by decide +kernel
theorem dJ1_charAt_3b067_2 : decode cJ1_charAt_3b067 2 = .ok (.arraylength, 1) := by decide +kernel
theorem dJ1_charAt_3b067_3 : decode cJ1_charAt_3b067 3 = .ok (.invokestatic 9, 3) := by decide +kernel
theorem dJ1_charAt_3b067_6 : decode cJ1_charAt_3b067 6 = .ok (.aload_n 0, 1) := by decide +kernel
theorem dJ1_charAt_3b067_7 : decode cJ1_charAt_3b067 7 = .ok (.iload_n 1, 1) := by decide +kernel
theorem dJ1_charAt_3b067_8 : decode cJ1_charAt_3b067 8 = .ok (.baload, 1) := by decide +kernel
theorem dJ1_charAt_3b067_9 : decode cJ1_charAt_3b067 9 = .ok (.sipush 255, 3) := by decide +kernel
theorem dJ1_charAt_3b067_12 : decode cJ1_charAt_3b067 12 = .ok (.iand, 1) := by decide +kernel
theorem dJ1_charAt_3b067_13 : decode cJ1_charAt_3b067 13 = .ok (.i2c, 1) := by decide +kernel
theorem dJ1_charAt_3b067_14 : decode cJ1_charAt_3b067 14 = .ok (.ireturn, 1) := by decide +kernel
theorem dJ1_canEncode_9a6ad_0 : decode cJ1_canEncode_9a6ad 0 = .ok (.iload_n 0, 1) := by decide +kernel
theorem dJ1_canEncode_9a6ad_1 : decode cJ1_canEncode_9a6ad 1 = .ok (.ifCond .lt 14, 3) := by decide +kernel
theorem dJ1_canEncode_9a6ad_4 : decode cJ1_canEncode_9a6ad 4 = .ok (.iload_n 0, 1) := by decide +kernel
theorem dJ1_canEncode_9a6ad_5 : decode cJ1_canEncode_9a6ad 5 = .ok (.sipush 255, 3) := by decide +kernel
theorem dJ1_canEncode_9a6ad_8 : decode cJ1_canEncode_9a6ad 8 = .ok (.if_icmp .gt 7, 3) := by decide +kernel
theorem dJ1_canEncode_9a6ad_11 : decode cJ1_canEncode_9a6ad 11 = .ok (.iconst 1, 1) := by decide +kernel
theorem dJ1_canEncode_9a6ad_12 : decode cJ1_canEncode_9a6ad 12 = .ok (.goto 4, 3) := by decide +kernel
theorem dJ1_canEncode_9a6ad_15 : decode cJ1_canEncode_9a6ad 15 = .ok (.iconst 0, 1) := by decide +kernel
theorem dJ1_canEncode_9a6ad_16 : decode cJ1_canEncode_9a6ad 16 = .ok (.ireturn, 1) := by decide +kernel
theorem dJ1_indexOf_4cfef_0 : decode cJ1_indexOf_4cfef 0 = .ok (.iload_n 1, 1) := by decide +kernel
theorem dJ1_indexOf_4cfef_1 : decode cJ1_indexOf_4cfef 1 = .ok (.invokestatic 88, 3) := by decide +kernel
theorem dJ1_indexOf_4cfef_4 : decode cJ1_indexOf_4cfef 4 = .ok (.ifCond .ne 5, 3) := by decide +kernel
theorem dJ1_indexOf_4cfef_7 : decode cJ1_indexOf_4cfef 7 = .ok (.iconst (-1), 1) := by decide +kernel
theorem dJ1_indexOf_4cfef_8 : decode cJ1_indexOf_4cfef 8 = .ok (.ireturn, 1) := by decide +kernel
theorem dJ1_indexOf_4cfef_9 : decode cJ1_indexOf_4cfef 9 = .ok (.iload_n 2, 1) := by decide +kernel
theorem dJ1_indexOf_4cfef_10 : decode cJ1_indexOf_4cfef 10 = .ok (.iconst 0, 1) := by decide +kernel
theorem dJ1_indexOf_4cfef_11 : decode cJ1_indexOf_4cfef 11 = .ok (.invokestatic 92, 3) := by decide +kernel
theorem dJ1_indexOf_4cfef_14 : decode cJ1_indexOf_4cfef 14 = .ok (.istore_n 2, 1) := by decide +kernel
theorem dJ1_indexOf_4cfef_15 : decode cJ1_indexOf_4cfef 15 = .ok (.iload_n 3, 1) := by decide +kernel
theorem dJ1_indexOf_4cfef_16 : decode cJ1_indexOf_4cfef 16 = .ok (.aload_n 0, 1) := by decide +kernel
theorem dJ1_indexOf_4cfef_17 : decode cJ1_indexOf_4cfef 17 = .ok (.arraylength, 1) := by decide +kernel
theorem dJ1_indexOf_4cfef_18 : decode cJ1_indexOf_4cfef 18 = .ok (.invokestatic 38, 3) := by decide +kernel
theorem dJ1_indexOf_4cfef_21 : decode cJ1_indexOf_4cfef 21 = .ok (.istore_n 3, 1) := by decide +kernel
theorem dJ1_indexOf_4cfef_22 : decode cJ1_indexOf_4cfef 22 = .ok (.iload_n 2, 1) := by decide +kernel
theorem dJ1_indexOf_4cfef_23 : decode cJ1_indexOf_4cfef 23 = .ok (.iload_n 3, 1) := by decide +kernel
theorem dJ1_indexOf_4cfef_24 : decode cJ1_indexOf_4cfef 24 = .ok (.if_icmp .lt 5, 3) := by decide +kernel
theorem dJ1_indexOf_4cfef_27 : decode cJ1_indexOf_4cfef 27 = .ok (.iconst (-1), 1) := by decide +kernel
theorem dJ1_indexOf_4cfef_28 : decode cJ1_indexOf_4cfef 28 = .ok (.ireturn, 1) := by decide +kernel
theorem dJ1_indexOf_4cfef_29 : decode cJ1_indexOf_4cfef 29 = .ok (.aload_n 0, 1) := by decide +kernel
theorem dJ1_indexOf_4cfef_30 : decode cJ1_indexOf_4cfef 30 = .ok (.iload_n 1, 1) := by decide +kernel
theorem dJ1_indexOf_4cfef_31 : decode cJ1_indexOf_4cfef 31 = .ok (.iload_n 2, 1) := by decide +kernel
theorem dJ1_indexOf_4cfef_32 : decode cJ1_indexOf_4cfef 32 = .ok (.iload_n 3, 1) := by decide +kernel
theorem dJ1_indexOf_4cfef_33 : decode cJ1_indexOf_4cfef 33 = .ok (.invokestatic 95, 3) := by decide +kernel
theorem dJ1_indexOf_4cfef_36 : decode cJ1_indexOf_4cfef 36 = .ok (.ireturn, 1) := by decide +kernel
theorem dJ1_indexOfChar_4cfef_0 : decode cJ1_indexOfChar_4cfef 0 = .ok (.iload_n 1, 1) := by decide +kernel
theorem dJ1_indexOfChar_4cfef_1 : decode cJ1_indexOfChar_4cfef 1 = .ok (.i2b, 1) := by decide +kernel
theorem dJ1_indexOfChar_4cfef_2 : decode cJ1_indexOfChar_4cfef 2 = .ok (.istore 4, 2) := by decide +kernel
theorem dJ1_indexOfChar_4cfef_4 : decode cJ1_indexOfChar_4cfef 4 = .ok (.iload_n 2, 1) := by decide +kernel
theorem dJ1_indexOfChar_4cfef_5 : decode cJ1_indexOfChar_4cfef 5 = .ok (.istore 5, 2) := by decide +kernel
theorem dJ1_indexOfChar_4cfef_7 : decode cJ1_indexOfChar_4cfef 7 = .ok (.iload 5, 2) := by decide +kernel
theorem dJ1_indexOfChar_4cfef_9 : decode cJ1_indexOfChar_4cfef 9 = .ok (.iload_n 3, 1) := by decide +kernel
theorem dJ1_indexOfChar_4cfef_10 : decode cJ1_indexOfChar_4cfef 10 = .ok (.if_icmp .ge 21, 3) := by decide +kernel
theorem dJ1_indexOfChar_4cfef_13 : decode cJ1_indexOfChar_4cfef 13 = .ok (.aload_n 0, 1) := by decide +kernel
theorem dJ1_indexOfChar_4cfef_14 : decode cJ1_indexOfChar_4cfef 14 = .ok (.iload 5, 2) := by decide +kernel
theorem dJ1_indexOfChar_4cfef_16 : decode cJ1_indexOfChar_4cfef 16 = .ok (.baload, 1) := by decide +kernel
theorem dJ1_indexOfChar_4cfef_17 : decode cJ1_indexOfChar_4cfef 17 = .ok (.iload 4, 2) := by decide +kernel
theorem dJ1_indexOfChar_4cfef_19 : decode cJ1_indexOfChar_4cfef 19 = .ok (.if_icmp .ne 6, 3) := by decide +kernel
theorem dJ1_indexOfChar_4cfef_22 : decode cJ1_indexOfChar_4cfef 22 = .ok (.iload 5, 2) := by decide +kernel
theorem dJ1_indexOfChar_4cfef_24 : decode cJ1_indexOfChar_4cfef 24 = .ok (.ireturn, 1) := by decide +kernel
theorem dJ1_indexOfChar_4cfef_25 : decode cJ1_indexOfChar_4cfef 25 = .ok (.iinc 5 1, 3) := by decide +kernel
theorem dJ1_indexOfChar_4cfef_28 : decode cJ1_indexOfChar_4cfef 28 = .ok (.goto (-21), 3) := by decide +kernel
theorem dJ1_indexOfChar_4cfef_31 : decode cJ1_indexOfChar_4cfef 31 = .ok (.iconst (-1), 1) := by decide +kernel
theorem dJ1_indexOfChar_4cfef_32 : decode cJ1_indexOfChar_4cfef 32 = .ok (.ireturn, 1) := by decide +kernel
theorem dJ7_fill_d0a16_0 : decode cJ7_fill_d0a16 0 = .ok (.iconst 0, 1) := by decide +kernel
theorem dJ7_fill_d0a16_1 : decode cJ7_fill_d0a16 1 = .ok (.istore_n 3, 1) := by decide +kernel
theorem dJ7_fill_d0a16_2 : decode cJ7_fill_d0a16 2 = .ok (.aload_n 0, 1) := by decide +kernel
theorem dJ7_fill_d0a16_3 : decode cJ7_fill_d0a16 3 = .ok (.arraylength, 1) := by decide +kernel
theorem dJ7_fill_d0a16_4 : decode cJ7_fill_d0a16 4 = .ok (.istore 4, 2) := by decide +kernel
theorem dJ7_fill_d0a16_6 : decode cJ7_fill_d0a16 6 = .ok (.iload_n 3, 1) := by decide +kernel
theorem dJ7_fill_d0a16_7 : decode cJ7_fill_d0a16 7 = .ok (.iload 4, 2) := by decide +kernel
theorem dJ7_fill_d0a16_9 : decode cJ7_fill_d0a16 9 = .ok (.if_icmp .ge 13, 3) := by decide +kernel
theorem dJ7_fill_d0a16_12 : decode cJ7_fill_d0a16 12 = .ok (.aload_n 0, 1) := by decide +kernel
theorem dJ7_fill_d0a16_13 : decode cJ7_fill_d0a16 13 = .ok (.iload_n 3, 1) := by decide +kernel
theorem dJ7_fill_d0a16_14 : decode cJ7_fill_d0a16 14 = .ok (.lload_n 1, 1) := by decide +kernel
theorem dJ7_fill_d0a16_15 : decode cJ7_fill_d0a16 15 = .ok (.lastore, 1) := by decide +kernel
theorem dJ7_fill_d0a16_16 : decode cJ7_fill_d0a16 16 = .ok (.iinc 3 1, 3) := by decide +kernel
theorem dJ7_fill_d0a16_19 : decode cJ7_fill_d0a16 19 = .ok (.goto (-13), 3) := by decide +kernel
theorem dJ7_fill_d0a16_22 : decode cJ7_fill_d0a16 22 = .ok (.return_, 1) := by decide +kernel
theorem dJ7_fill_53178_0 : decode cJ7_fill_53178 0 = .ok (.iconst 0, 1) := by decide +kernel
theorem dJ7_fill_53178_1 : decode cJ7_fill_53178 1 = .ok (.istore_n 2, 1) := by decide +kernel
theorem dJ7_fill_53178_2 : decode cJ7_fill_53178 2 = .ok (.aload_n 0, 1) := by decide +kernel
theorem dJ7_fill_53178_3 : decode cJ7_fill_53178 3 = .ok (.arraylength, 1) := by decide +kernel
theorem dJ7_fill_53178_4 : decode cJ7_fill_53178 4 = .ok (.istore_n 3, 1) := by decide +kernel
theorem dJ7_fill_53178_5 : decode cJ7_fill_53178 5 = .ok (.iload_n 2, 1) := by decide +kernel
theorem dJ7_fill_53178_6 : decode cJ7_fill_53178 6 = .ok (.iload_n 3, 1) := by decide +kernel
theorem dJ7_fill_53178_7 : decode cJ7_fill_53178 7 = .ok (.if_icmp .ge 13, 3) := by decide +kernel
theorem dJ7_fill_53178_10 : decode cJ7_fill_53178 10 = .ok (.aload_n 0, 1) := by decide +kernel
theorem dJ7_fill_53178_11 : decode cJ7_fill_53178 11 = .ok (.iload_n 2, 1) := by decide +kernel
theorem dJ7_fill_53178_12 : decode cJ7_fill_53178 12 = .ok (.iload_n 1, 1) := by decide +kernel
theorem dJ7_fill_53178_13 : decode cJ7_fill_53178 13 = .ok (.iastore, 1) := by decide +kernel
theorem dJ7_fill_53178_14 : decode cJ7_fill_53178 14 = .ok (.iinc 2 1, 3) := by decide +kernel
theorem dJ7_fill_53178_17 : decode cJ7_fill_53178 17 = .ok (.goto (-12), 3) := by decide +kernel
theorem dJ7_fill_53178_20 : decode cJ7_fill_53178 20 = .ok (.return_, 1) := by decide +kernel
theorem dJ7_copyOf_59c91_0 : decode cJ7_copyOf_59c91 0 = .ok (.iload_n 1, 1) := by decide +kernel
theorem dJ7_copyOf_59c91_1 : decode cJ7_copyOf_59c91 1 = .ok (.aload_n 0, 1) := by decide +kernel
theorem dJ7_copyOf_59c91_2 : decode cJ7_copyOf_59c91 2 = .ok (.arraylength, 1) := by decide +kernel
theorem dJ7_copyOf_59c91_3 : decode cJ7_copyOf_59c91 3 = .ok (.if_icmp .ne 11, 3) := by decide +kernel
theorem dJ7_copyOf_59c91_6 : decode cJ7_copyOf_59c91 6 = .ok (.aload_n 0, 1) := by decide +kernel
theorem dJ7_copyOf_59c91_14 : decode cJ7_copyOf_59c91 14 = .ok (.iload_n 1, 1) := by decide +kernel
theorem dJ7_copyOf_59c91_15 : decode cJ7_copyOf_59c91 15 = .ok (.newarray .int, 2) := by decide +kernel
theorem dJ7_copyOf_59c91_17 : decode cJ7_copyOf_59c91 17 = .ok (.astore_n 2, 1) := by decide +kernel
theorem dJ7_copyOf_59c91_18 : decode cJ7_copyOf_59c91 18 = .ok (.aload_n 0, 1) := by decide +kernel
theorem dJ7_copyOf_59c91_19 : decode cJ7_copyOf_59c91 19 = .ok (.iconst 0, 1) := by decide +kernel
theorem dJ7_copyOf_59c91_20 : decode cJ7_copyOf_59c91 20 = .ok (.aload_n 2, 1) := by decide +kernel
theorem dJ7_copyOf_59c91_21 : decode cJ7_copyOf_59c91 21 = .ok (.iconst 0, 1) := by decide +kernel
theorem dJ7_copyOf_59c91_22 : decode cJ7_copyOf_59c91 22 = .ok (.aload_n 0, 1) := by decide +kernel
theorem dJ7_copyOf_59c91_23 : decode cJ7_copyOf_59c91 23 = .ok (.arraylength, 1) := by decide +kernel
theorem dJ7_copyOf_59c91_24 : decode cJ7_copyOf_59c91 24 = .ok (.iload_n 1, 1) := by decide +kernel
theorem dJ7_copyOf_59c91_25 : decode cJ7_copyOf_59c91 25 = .ok (.invokestatic 304, 3) := by decide +kernel
theorem dJ7_copyOf_59c91_28 : decode cJ7_copyOf_59c91 28 = .ok (.invokestatic 150, 3) := by decide +kernel
theorem dJ7_copyOf_59c91_31 : decode cJ7_copyOf_59c91 31 = .ok (.aload_n 2, 1) := by decide +kernel
theorem dJ7_copyOf_59c91_32 : decode cJ7_copyOf_59c91 32 = .ok (.areturn, 1) := by decide +kernel
theorem dJ3_checkIndex_8e157_0 : decode cJ3_checkIndex_8e157 0 = .ok (.iload_n 0, 1) := by decide +kernel
theorem dJ3_checkIndex_8e157_1 : decode cJ3_checkIndex_8e157 1 = .ok (.ifCond .lt 8, 3) := by decide +kernel
theorem dJ3_checkIndex_8e157_4 : decode cJ3_checkIndex_8e157 4 = .ok (.iload_n 0, 1) := by decide +kernel
theorem dJ3_checkIndex_8e157_5 : decode cJ3_checkIndex_8e157 5 = .ok (.iload_n 1, 1) := by decide +kernel
theorem dJ3_checkIndex_8e157_6 : decode cJ3_checkIndex_8e157 6 = .ok (.if_icmp .lt 10, 3) := by decide +kernel
theorem dJ3_checkIndex_8e157_9 : decode cJ3_checkIndex_8e157 9 = .ok (.aload_n 2, 1) := by decide +kernel
theorem dJ3_checkIndex_8e157_10 : decode cJ3_checkIndex_8e157 10 = .ok (.iload_n 0, 1) := by decide +kernel
theorem dJ3_checkIndex_8e157_11 : decode cJ3_checkIndex_8e157 11 = .ok (.iload_n 1, 1) := by decide +kernel
theorem dJ3_checkIndex_8e157_16 : decode cJ3_checkIndex_8e157 16 = .ok (.iload_n 0, 1) := by decide +kernel
theorem dJ3_checkIndex_8e157_17 : decode cJ3_checkIndex_8e157 17 = .ok (.ireturn, 1) := by decide +kernel
end AM13a
