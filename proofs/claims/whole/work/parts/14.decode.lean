section AM13
theorem dX0_init_0 : decode cX0_init 0 = .ok (.aload_n 0, 1) := by decide +kernel
theorem dX0_init_1 : decode cX0_init 1 = .ok (.invokespecial 5, 3) := by decide +kernel
theorem dX0_init_4 : decode cX0_init 4 = .ok (.aload_n 0, 1) := by decide +kernel
theorem dX0_init_5 : decode cX0_init 5 = .ok (.bipush 64, 2) := by decide +kernel
theorem dX0_init_7 : decode cX0_init 7 = .ok (.newarray .long, 2) := by decide +kernel
theorem dX0_init_9 : decode cX0_init 9 = .ok (.putfield 11, 3) := by decide +kernel
theorem dX0_init_12 : decode cX0_init 12 = .ok (.aload_n 0, 1) := by decide +kernel
theorem dX0_init_13 : decode cX0_init 13 = .ok (.bipush 6, 2) := by decide +kernel
theorem dX0_init_15 : decode cX0_init 15 = .ok (.newarray .long, 2) := by decide +kernel
theorem dX0_init_17 : decode cX0_init 17 = .ok (.putfield 15, 3) := by decide +kernel
theorem dX0_init_20 : decode cX0_init 20 = .ok (.aload_n 0, 1) := by decide +kernel
theorem dX0_init_21 : decode cX0_init 21 = .ok (.iconst 0, 1) := by decide +kernel
theorem dX0_init_22 : decode cX0_init 22 = .ok (.putfield 18, 3) := by decide +kernel
theorem dX0_init_25 : decode cX0_init 25 = .ok (.aload_n 0, 1) := by decide +kernel
theorem dX0_init_26 : decode cX0_init 26 = .ok (.lconst 0, 1) := by decide +kernel
theorem dX0_init_27 : decode cX0_init 27 = .ok (.putfield 22, 3) := by decide +kernel
theorem dX0_init_30 : decode cX0_init 30 = .ok (.return_, 1) := by decide +kernel
theorem dX0_solve_0 : decode cX0_solve 0 = .ok (.aload_n 0, 1) := by decide +kernel
theorem dX0_solve_1 : decode cX0_solve 1 = .ok (.aload_n 1, 1) := by decide +kernel
theorem dX0_solve_2 : decode cX0_solve 2 = .ok (.getfield 26, 3) := by decide +kernel
theorem dX0_solve_5 : decode cX0_solve 5 = .ok (.putfield 18, 3) := by decide +kernel
theorem dX0_solve_8 : decode cX0_solve 8 = .ok (.aload_n 0, 1) := by decide +kernel
theorem dX0_solve_9 : decode cX0_solve 9 = .ok (.getfield 11, 3) := by decide +kernel
theorem dX0_solve_12 : decode cX0_solve 12 = .ok (.ldc2_w 31, 3) := by decide +kernel
theorem dX0_solve_15 : decode cX0_solve 15 = .ok (.invokestatic 33, 3) := by decide +kernel
theorem dX0_solve_18 : decode cX0_solve 18 = .ok (.aload_n 0, 1) := by decide +kernel
theorem dX0_solve_19 : decode cX0_solve 19 = .ok (.getfield 11, 3) := by decide +kernel
theorem dX0_solve_22 : decode cX0_solve 22 = .ok (.iconst 0, 1) := by decide +kernel
theorem dX0_solve_23 : decode cX0_solve 23 = .ok (.lconst 0, 1) := by decide +kernel
theorem dX0_solve_24 : decode cX0_solve 24 = .ok (.lastore, 1) := by decide +kernel
theorem dX0_solve_25 : decode cX0_solve 25 = .ok (.iconst 0, 1) := by decide +kernel
theorem dX0_solve_26 : decode cX0_solve 26 = .ok (.istore 4, 2) := by decide +kernel
theorem dX0_solve_28 : decode cX0_solve 28 = .ok (.iload 4, 2) := by decide +kernel
theorem dX0_solve_30 : decode cX0_solve 30 = .ok (.aload_n 0, 1) := by decide +kernel
theorem dX0_solve_31 : decode cX0_solve 31 = .ok (.getfield 18, 3) := by decide +kernel
theorem dX0_solve_34 : decode cX0_solve 34 = .ok (.if_icmp .ge 32, 3) := by decide +kernel
theorem dX0_solve_37 : decode cX0_solve 37 = .ok (.aload_n 0, 1) := by decide +kernel
theorem dX0_solve_38 : decode cX0_solve 38 = .ok (.getfield 11, 3) := by decide +kernel
theorem dX0_solve_41 : decode cX0_solve 41 = .ok (.iconst 0, 1) := by decide +kernel
theorem dX0_solve_42 : decode cX0_solve 42 = .ok (.dup2, 1) := by decide +kernel
theorem dX0_solve_43 : decode cX0_solve 43 = .ok (.laload, 1) := by decide +kernel
theorem dX0_solve_44 : decode cX0_solve 44 = .ok (.ldc2_w 39, 3) := by decide +kernel
theorem dX0_solve_47 : decode cX0_solve 47 = .ok (.ldc2_w 41, 3) := by decide +kernel
theorem dX0_solve_50 : decode cX0_solve 50 = .ok (.getstatic 43, 3) := by decide +kernel
theorem dX0_solve_53 : decode cX0_solve 53 = .ok (.iload 4, 2) := by decide +kernel
theorem dX0_solve_55 : decode cX0_solve 55 = .ok (.laload, 1) := by decide +kernel
theorem dX0_solve_56 : decode cX0_solve 56 = .ok (.lmul, 1) := by decide +kernel
theorem dX0_solve_57 : decode cX0_solve 57 = .ok (.ladd, 1) := by decide +kernel
theorem dX0_solve_58 : decode cX0_solve 58 = .ok (.ladd, 1) := by decide +kernel
theorem dX0_solve_59 : decode cX0_solve 59 = .ok (.lastore, 1) := by decide +kernel
theorem dX0_solve_60 : decode cX0_solve 60 = .ok (.iinc 4 1, 3) := by decide +kernel
theorem dX0_solve_63 : decode cX0_solve 63 = .ok (.goto (-35), 3) := by decide +kernel
theorem dX0_solve_66 : decode cX0_solve 66 = .ok (.iconst 0, 1) := by decide +kernel
theorem dX0_solve_67 : decode cX0_solve 67 = .ok (.istore 4, 2) := by decide +kernel
theorem dX0_solve_69 : decode cX0_solve 69 = .ok (.iload 4, 2) := by decide +kernel
theorem dX0_solve_71 : decode cX0_solve 71 = .ok (.aload_n 1, 1) := by decide +kernel
theorem dX0_solve_72 : decode cX0_solve 72 = .ok (.getfield 46, 3) := by decide +kernel
theorem dX0_solve_75 : decode cX0_solve 75 = .ok (.if_icmp .ge 27, 3) := by decide +kernel
theorem dX0_solve_78 : decode cX0_solve 78 = .ok (.iload 4, 2) := by decide +kernel
theorem dX0_solve_80 : decode cX0_solve 80 = .ok (.iload_n 2, 1) := by decide +kernel
theorem dX0_solve_81 : decode cX0_solve 81 = .ok (.if_icmp .eq 15, 3) := by decide +kernel
theorem dX0_solve_84 : decode cX0_solve 84 = .ok (.aload_n 0, 1) := by decide +kernel
theorem dX0_solve_85 : decode cX0_solve 85 = .ok (.aload_n 1, 1) := by decide +kernel
theorem dX0_solve_86 : decode cX0_solve 86 = .ok (.iload 4, 2) := by decide +kernel
theorem dX0_solve_88 : decode cX0_solve 88 = .ok (.iload_n 3, 1) := by decide +kernel
theorem dX0_solve_89 : decode cX0_solve 89 = .ok (.invokevirtual 49, 3) := by decide +kernel
theorem dX0_solve_92 : decode cX0_solve 92 = .ok (.aload_n 0, 1) := by decide +kernel
theorem dX0_solve_93 : decode cX0_solve 93 = .ok (.invokevirtual 53, 3) := by decide +kernel
theorem dX0_solve_96 : decode cX0_solve 96 = .ok (.iinc 4 1, 3) := by decide +kernel
theorem dX0_solve_99 : decode cX0_solve 99 = .ok (.goto (-30), 3) := by decide +kernel
theorem dX0_solve_102 : decode cX0_solve 102 = .ok (.aload_n 0, 1) := by decide +kernel
theorem dX0_solve_103 : decode cX0_solve 103 = .ok (.ldc2_w 31, 3) := by decide +kernel
theorem dX0_solve_106 : decode cX0_solve 106 = .ok (.putfield 22, 3) := by decide +kernel
theorem dX0_solve_109 : decode cX0_solve 109 = .ok (.iconst 0, 1) := by decide +kernel
theorem dX0_solve_110 : decode cX0_solve 110 = .ok (.istore 4, 2) := by decide +kernel
theorem dX0_solve_112 : decode cX0_solve 112 = .ok (.iload 4, 2) := by decide +kernel
theorem dX0_solve_114 : decode cX0_solve 114 = .ok (.aload_n 0, 1) := by decide +kernel
theorem dX0_solve_115 : decode cX0_solve 115 = .ok (.getfield 11, 3) := by decide +kernel
theorem dX0_solve_118 : decode cX0_solve 118 = .ok (.arraylength, 1) := by decide +kernel
theorem dX0_solve_119 : decode cX0_solve 119 = .ok (.if_icmp .ge 27, 3) := by decide +kernel
theorem dX0_solve_122 : decode cX0_solve 122 = .ok (.aload_n 0, 1) := by decide +kernel
theorem dX0_solve_123 : decode cX0_solve 123 = .ok (.aload_n 0, 1) := by decide +kernel
theorem dX0_solve_124 : decode cX0_solve 124 = .ok (.getfield 22, 3) := by decide +kernel
theorem dX0_solve_127 : decode cX0_solve 127 = .ok (.aload_n 0, 1) := by decide +kernel
theorem dX0_solve_128 : decode cX0_solve 128 = .ok (.getfield 11, 3) := by decide +kernel
theorem dX0_solve_131 : decode cX0_solve 131 = .ok (.iload 4, 2) := by decide +kernel
theorem dX0_solve_133 : decode cX0_solve 133 = .ok (.laload, 1) := by decide +kernel
theorem dX0_solve_134 : decode cX0_solve 134 = .ok (.invokestatic 56, 3) := by decide +kernel
theorem dX0_solve_137 : decode cX0_solve 137 = .ok (.putfield 22, 3) := by decide +kernel
theorem dX0_solve_140 : decode cX0_solve 140 = .ok (.iinc 4 1, 3) := by decide +kernel
theorem dX0_solve_143 : decode cX0_solve 143 = .ok (.goto (-31), 3) := by decide +kernel
theorem dX0_solve_146 : decode cX0_solve 146 = .ok (.aload_n 0, 1) := by decide +kernel
theorem dX0_solve_147 : decode cX0_solve 147 = .ok (.getfield 18, 3) := by decide +kernel
theorem dX0_solve_150 : decode cX0_solve 150 = .ok (.aload_n 0, 1) := by decide +kernel
theorem dX0_solve_151 : decode cX0_solve 151 = .ok (.getfield 22, 3) := by decide +kernel
theorem dX0_solve_154 : decode cX0_solve 154 = .ok (.ldc2_w 39, 3) := by decide +kernel
theorem dX0_solve_157 : decode cX0_solve 157 = .ok (.ldiv, 1) := by decide +kernel
theorem dX0_solve_158 : decode cX0_solve 158 = .ok (.l2i, 1) := by decide +kernel
theorem dX0_solve_159 : decode cX0_solve 159 = .ok (.isub, 1) := by decide +kernel
theorem dX0_solve_160 : decode cX0_solve 160 = .ok (.ireturn, 1) := by decide +kernel
theorem dX0_price_0 : decode cX0_price 0 = .ok (.iconst 0, 1) := by decide +kernel
theorem dX0_price_1 : decode cX0_price 1 = .ok (.istore 4, 2) := by decide +kernel
theorem dX0_price_3 : decode cX0_price 3 = .ok (.iload 4, 2) := by decide +kernel
theorem dX0_price_5 : decode cX0_price 5 = .ok (.aload_n 0, 1) := by decide +kernel
theorem dX0_price_6 : decode cX0_price 6 = .ok (.getfield 18, 3) := by decide +kernel
theorem dX0_price_9 : decode cX0_price 9 = .ok (.if_icmp .ge 112, 3) := by decide +kernel
theorem dX0_price_12 : decode cX0_price 12 = .ok (.aload_n 1, 1) := by decide +kernel
theorem dX0_price_13 : decode cX0_price 13 = .ok (.getfield 62, 3) := by decide +kernel
theorem dX0_price_16 : decode cX0_price 16 = .ok (.iload 4, 2) := by decide +kernel
theorem dX0_price_18 : decode cX0_price 18 = .ok (.iaload, 1) := by decide +kernel
theorem dX0_price_19 : decode cX0_price 19 = .ok (.istore 5, 2) := by decide +kernel
theorem dX0_price_21 : decode cX0_price 21 = .ok (.aload_n 1, 1) := by decide +kernel
theorem dX0_price_22 : decode cX0_price 22 = .ok (.aload_n 1, 1) := by decide +kernel
theorem dX0_price_23 : decode cX0_price 23 = .ok (.getfield 66, 3) := by decide +kernel
theorem dX0_price_26 : decode cX0_price 26 = .ok (.iload 4, 2) := by decide +kernel
theorem dX0_price_28 : decode cX0_price 28 = .ok (.iaload, 1) := by decide +kernel
theorem dX0_price_29 : decode cX0_price 29 = .ok (.invokevirtual 69, 3) := by decide +kernel
theorem dX0_price_32 : decode cX0_price 32 = .ok (.istore 6, 2) := by decide +kernel
theorem dX0_price_34 : decode cX0_price 34 = .ok (.aload_n 0, 1) := by decide +kernel
theorem dX0_price_35 : decode cX0_price 35 = .ok (.getfield 15, 3) := by decide +kernel
theorem dX0_price_38 : decode cX0_price 38 = .ok (.iload 4, 2) := by decide +kernel
theorem dX0_price_40 : decode cX0_price 40 = .ok (.ldc2_w 31, 3) := by decide +kernel
theorem dX0_price_43 : decode cX0_price 43 = .ok (.lastore, 1) := by decide +kernel
theorem dX0_price_44 : decode cX0_price 44 = .ok (.iload 4, 2) := by decide +kernel
theorem dX0_price_46 : decode cX0_price 46 = .ok (.iload_n 3, 1) := by decide +kernel
theorem dX0_price_47 : decode cX0_price 47 = .ok (.if_icmp .eq 68, 3) := by decide +kernel
theorem dX0_price_50 : decode cX0_price 50 = .ok (.aload_n 1, 1) := by decide +kernel
theorem dX0_price_51 : decode cX0_price 51 = .ok (.aload_n 1, 1) := by decide +kernel
theorem dX0_price_52 : decode cX0_price 52 = .ok (.getfield 73, 3) := by decide +kernel
theorem dX0_price_55 : decode cX0_price 55 = .ok (.iload_n 2, 1) := by decide +kernel
theorem dX0_price_56 : decode cX0_price 56 = .ok (.aaload, 1) := by decide +kernel
theorem dX0_price_57 : decode cX0_price 57 = .ok (.iload 6, 2) := by decide +kernel
theorem dX0_price_59 : decode cX0_price 59 = .ok (.iload 5, 2) := by decide +kernel
theorem dX0_price_61 : decode cX0_price 61 = .ok (.invokevirtual 77, 3) := by decide +kernel
theorem dX0_price_64 : decode cX0_price 64 = .ok (.ifCond .eq 51, 3) := by decide +kernel
theorem dX0_price_67 : decode cX0_price 67 = .ok (.iload 5, 2) := by decide +kernel
theorem dX0_price_69 : decode cX0_price 69 = .ok (.aload_n 1, 1) := by decide +kernel
theorem dX0_price_70 : decode cX0_price 70 = .ok (.getfield 73, 3) := by decide +kernel
theorem dX0_price_73 : decode cX0_price 73 = .ok (.iload_n 2, 1) := by decide +kernel
theorem dX0_price_74 : decode cX0_price 74 = .ok (.aaload, 1) := by decide +kernel
theorem dX0_price_75 : decode cX0_price 75 = .ok (.getfield 81, 3) := by decide +kernel
theorem dX0_price_78 : decode cX0_price 78 = .ok (.isub, 1) := by decide +kernel
theorem dX0_price_79 : decode cX0_price 79 = .ok (.invokestatic 86, 3) := by decide +kernel
theorem dX0_price_82 : decode cX0_price 82 = .ok (.istore 7, 2) := by decide +kernel
theorem dX0_price_84 : decode cX0_price 84 = .ok (.aload_n 0, 1) := by decide +kernel
theorem dX0_price_85 : decode cX0_price 85 = .ok (.getfield 15, 3) := by decide +kernel
theorem dX0_price_88 : decode cX0_price 88 = .ok (.iload 4, 2) := by decide +kernel
theorem dX0_price_90 : decode cX0_price 90 = .ok (.iload 7, 2) := by decide +kernel
theorem dX0_price_92 : decode cX0_price 92 = .ok (.i2l, 1) := by decide +kernel
theorem dX0_price_93 : decode cX0_price 93 = .ok (.ldc2_w 89, 3) := by decide +kernel
theorem dX0_price_96 : decode cX0_price 96 = .ok (.lmul, 1) := by decide +kernel
theorem dX0_price_97 : decode cX0_price 97 = .ok (.ldc2_w 39, 3) := by decide +kernel
theorem dX0_price_100 : decode cX0_price 100 = .ok (.lsub, 1) := by decide +kernel
theorem dX0_price_101 : decode cX0_price 101 = .ok (.iload_n 2, 1) := by decide +kernel
theorem dX0_price_102 : decode cX0_price 102 = .ok (.bipush 10, 2) := by decide +kernel
theorem dX0_price_104 : decode cX0_price 104 = .ok (.isub, 1) := by decide +kernel
theorem dX0_price_105 : decode cX0_price 105 = .ok (.i2l, 1) := by decide +kernel
theorem dX0_price_106 : decode cX0_price 106 = .ok (.getstatic 43, 3) := by decide +kernel
theorem dX0_price_109 : decode cX0_price 109 = .ok (.iload 4, 2) := by decide +kernel
theorem dX0_price_111 : decode cX0_price 111 = .ok (.laload, 1) := by decide +kernel
theorem dX0_price_112 : decode cX0_price 112 = .ok (.lmul, 1) := by decide +kernel
theorem dX0_price_113 : decode cX0_price 113 = .ok (.ladd, 1) := by decide +kernel
theorem dX0_price_114 : decode cX0_price 114 = .ok (.lastore, 1) := by decide +kernel
theorem dX0_price_115 : decode cX0_price 115 = .ok (.iinc 4 1, 3) := by decide +kernel
theorem dX0_price_118 : decode cX0_price 118 = .ok (.goto (-115), 3) := by decide +kernel
theorem dX0_price_121 : decode cX0_price 121 = .ok (.return_, 1) := by decide +kernel
theorem dX0_offer_0 : decode cX0_offer 0 = .ok (.aload_n 0, 1) := by decide +kernel
theorem dX0_offer_1 : decode cX0_offer 1 = .ok (.getfield 11, 3) := by decide +kernel
theorem dX0_offer_4 : decode cX0_offer 4 = .ok (.arraylength, 1) := by decide +kernel
theorem dX0_offer_5 : decode cX0_offer 5 = .ok (.iconst 1, 1) := by decide +kernel
theorem dX0_offer_6 : decode cX0_offer 6 = .ok (.isub, 1) := by decide +kernel
theorem dX0_offer_7 : decode cX0_offer 7 = .ok (.istore_n 1, 1) := by decide +kernel
theorem dX0_offer_8 : decode cX0_offer 8 = .ok (.iload_n 1, 1) := by decide +kernel
theorem dX0_offer_9 : decode cX0_offer 9 = .ok (.ifCond .lt 90, 3) := by decide +kernel
theorem dX0_offer_12 : decode cX0_offer 12 = .ok (.iconst 0, 1) := by decide +kernel
theorem dX0_offer_13 : decode cX0_offer 13 = .ok (.istore_n 2, 1) := by decide +kernel
theorem dX0_offer_14 : decode cX0_offer 14 = .ok (.iload_n 2, 1) := by decide +kernel
theorem dX0_offer_15 : decode cX0_offer 15 = .ok (.aload_n 0, 1) := by decide +kernel
theorem dX0_offer_16 : decode cX0_offer 16 = .ok (.getfield 18, 3) := by decide +kernel
theorem dX0_offer_19 : decode cX0_offer 19 = .ok (.if_icmp .ge 74, 3) := by decide +kernel
theorem dX0_offer_22 : decode cX0_offer 22 = .ok (.aload_n 0, 1) := by decide +kernel
theorem dX0_offer_23 : decode cX0_offer 23 = .ok (.getfield 11, 3) := by decide +kernel
theorem dX0_offer_26 : decode cX0_offer 26 = .ok (.iload_n 1, 1) := by decide +kernel
theorem dX0_offer_27 : decode cX0_offer 27 = .ok (.laload, 1) := by decide +kernel
theorem dX0_offer_28 : decode cX0_offer 28 = .ok (.ldc2_w 31, 3) := by decide +kernel
theorem dX0_offer_31 : decode cX0_offer 31 = .ok (.lcmp, 1) := by decide +kernel
theorem dX0_offer_32 : decode cX0_offer 32 = .ok (.ifCond .eq 61, 3) := by decide +kernel
theorem dX0_offer_35 : decode cX0_offer 35 = .ok (.iload_n 1, 1) := by decide +kernel
theorem dX0_offer_36 : decode cX0_offer 36 = .ok (.iconst 1, 1) := by decide +kernel
theorem dX0_offer_37 : decode cX0_offer 37 = .ok (.iload_n 2, 1) := by decide +kernel
theorem dX0_offer_38 : decode cX0_offer 38 = .ok (.ishl, 1) := by decide +kernel
theorem dX0_offer_39 : decode cX0_offer 39 = .ok (.ior, 1) := by decide +kernel
theorem dX0_offer_40 : decode cX0_offer 40 = .ok (.istore_n 3, 1) := by decide +kernel
theorem dX0_offer_41 : decode cX0_offer 41 = .ok (.iload_n 3, 1) := by decide +kernel
theorem dX0_offer_42 : decode cX0_offer 42 = .ok (.iload_n 1, 1) := by decide +kernel
theorem dX0_offer_43 : decode cX0_offer 43 = .ok (.if_icmp .eq 44, 3) := by decide +kernel
theorem dX0_offer_46 : decode cX0_offer 46 = .ok (.aload_n 0, 1) := by decide +kernel
theorem dX0_offer_47 : decode cX0_offer 47 = .ok (.getfield 15, 3) := by decide +kernel
theorem dX0_offer_50 : decode cX0_offer 50 = .ok (.iload_n 2, 1) := by decide +kernel
theorem dX0_offer_51 : decode cX0_offer 51 = .ok (.laload, 1) := by decide +kernel
theorem dX0_offer_52 : decode cX0_offer 52 = .ok (.ldc2_w 31, 3) := by decide +kernel
theorem dX0_offer_55 : decode cX0_offer 55 = .ok (.lcmp, 1) := by decide +kernel
theorem dX0_offer_56 : decode cX0_offer 56 = .ok (.ifCond .eq 31, 3) := by decide +kernel
theorem dX0_offer_59 : decode cX0_offer 59 = .ok (.aload_n 0, 1) := by decide +kernel
theorem dX0_offer_60 : decode cX0_offer 60 = .ok (.getfield 11, 3) := by decide +kernel
theorem dX0_offer_63 : decode cX0_offer 63 = .ok (.iload_n 3, 1) := by decide +kernel
theorem dX0_offer_64 : decode cX0_offer 64 = .ok (.aload_n 0, 1) := by decide +kernel
theorem dX0_offer_65 : decode cX0_offer 65 = .ok (.getfield 11, 3) := by decide +kernel
theorem dX0_offer_68 : decode cX0_offer 68 = .ok (.iload_n 3, 1) := by decide +kernel
theorem dX0_offer_69 : decode cX0_offer 69 = .ok (.laload, 1) := by decide +kernel
theorem dX0_offer_70 : decode cX0_offer 70 = .ok (.aload_n 0, 1) := by decide +kernel
theorem dX0_offer_71 : decode cX0_offer 71 = .ok (.getfield 11, 3) := by decide +kernel
theorem dX0_offer_74 : decode cX0_offer 74 = .ok (.iload_n 1, 1) := by decide +kernel
theorem dX0_offer_75 : decode cX0_offer 75 = .ok (.laload, 1) := by decide +kernel
theorem dX0_offer_76 : decode cX0_offer 76 = .ok (.aload_n 0, 1) := by decide +kernel
theorem dX0_offer_77 : decode cX0_offer 77 = .ok (.getfield 15, 3) := by decide +kernel
theorem dX0_offer_80 : decode cX0_offer 80 = .ok (.iload_n 2, 1) := by decide +kernel
theorem dX0_offer_81 : decode cX0_offer 81 = .ok (.laload, 1) := by decide +kernel
theorem dX0_offer_82 : decode cX0_offer 82 = .ok (.ladd, 1) := by decide +kernel
theorem dX0_offer_83 : decode cX0_offer 83 = .ok (.invokestatic 56, 3) := by decide +kernel
theorem dX0_offer_86 : decode cX0_offer 86 = .ok (.lastore, 1) := by decide +kernel
theorem dX0_offer_87 : decode cX0_offer 87 = .ok (.iinc 2 1, 3) := by decide +kernel
theorem dX0_offer_90 : decode cX0_offer 90 = .ok (.goto (-76), 3) := by decide +kernel
theorem dX0_offer_93 : decode cX0_offer 93 = .ok (.iinc 1 (-1), 3) := by decide +kernel
theorem dX0_offer_96 : decode cX0_offer 96 = .ok (.goto (-88), 3) := by decide +kernel
theorem dX0_offer_99 : decode cX0_offer 99 = .ok (.return_, 1) := by decide +kernel
theorem dX0_miles_0 : decode cX0_miles 0 = .ok (.aload_n 0, 1) := by decide +kernel
theorem dX0_miles_1 : decode cX0_miles 1 = .ok (.getfield 22, 3) := by decide +kernel
theorem dX0_miles_4 : decode cX0_miles 4 = .ok (.ldc2_w 39, 3) := by decide +kernel
theorem dX0_miles_7 : decode cX0_miles 7 = .ok (.lrem, 1) := by decide +kernel
theorem dX0_miles_8 : decode cX0_miles 8 = .ok (.ldc2_w 89, 3) := by decide +kernel
theorem dX0_miles_11 : decode cX0_miles 11 = .ok (.ldiv, 1) := by decide +kernel
theorem dX0_miles_12 : decode cX0_miles 12 = .ok (.l2i, 1) := by decide +kernel
theorem dX0_miles_13 : decode cX0_miles 13 = .ok (.ireturn, 1) := by decide +kernel
theorem dX0_holeOf_0 : decode cX0_holeOf 0 = .ok (.iload_n 1, 1) := by decide +kernel
theorem dX0_holeOf_1 : decode cX0_holeOf 1 = .ok (.ifCond .lt 11, 3) := by decide +kernel
theorem dX0_holeOf_4 : decode cX0_holeOf 4 = .ok (.iload_n 1, 1) := by decide +kernel
theorem dX0_holeOf_5 : decode cX0_holeOf 5 = .ok (.aload_n 0, 1) := by decide +kernel
theorem dX0_holeOf_6 : decode cX0_holeOf 6 = .ok (.getfield 18, 3) := by decide +kernel
theorem dX0_holeOf_9 : decode cX0_holeOf 9 = .ok (.if_icmp .lt 6, 3) := by decide +kernel
theorem dX0_holeOf_12 : decode cX0_holeOf 12 = .ok (.ldc 91, 2) := by decide +kernel
theorem dX0_holeOf_14 : decode cX0_holeOf 14 = .ok (.ireturn, 1) := by decide +kernel
theorem dX0_holeOf_15 : decode cX0_holeOf 15 = .ok (.aload_n 0, 1) := by decide +kernel
theorem dX0_holeOf_16 : decode cX0_holeOf 16 = .ok (.getfield 22, 3) := by decide +kernel
theorem dX0_holeOf_19 : decode cX0_holeOf 19 = .ok (.ldc2_w 89, 3) := by decide +kernel
theorem dX0_holeOf_22 : decode cX0_holeOf 22 = .ok (.lrem, 1) := by decide +kernel
theorem dX0_holeOf_23 : decode cX0_holeOf 23 = .ok (.getstatic 43, 3) := by decide +kernel
theorem dX0_holeOf_26 : decode cX0_holeOf 26 = .ok (.iload_n 1, 1) := by decide +kernel
theorem dX0_holeOf_27 : decode cX0_holeOf 27 = .ok (.laload, 1) := by decide +kernel
theorem dX0_holeOf_28 : decode cX0_holeOf 28 = .ok (.ldiv, 1) := by decide +kernel
theorem dX0_holeOf_29 : decode cX0_holeOf 29 = .ok (.ldc2_w 92, 3) := by decide +kernel
theorem dX0_holeOf_32 : decode cX0_holeOf 32 = .ok (.lrem, 1) := by decide +kernel
theorem dX0_holeOf_33 : decode cX0_holeOf 33 = .ok (.l2i, 1) := by decide +kernel
theorem dX0_holeOf_34 : decode cX0_holeOf 34 = .ok (.istore_n 2, 1) := by decide +kernel
theorem dX0_holeOf_35 : decode cX0_holeOf 35 = .ok (.iload_n 2, 1) := by decide +kernel
theorem dX0_holeOf_36 : decode cX0_holeOf 36 = .ok (.bipush 10, 2) := by decide +kernel
theorem dX0_holeOf_38 : decode cX0_holeOf 38 = .ok (.if_icmp .ne 8, 3) := by decide +kernel
theorem dX0_holeOf_41 : decode cX0_holeOf 41 = .ok (.ldc 91, 2) := by decide +kernel
theorem dX0_holeOf_43 : decode cX0_holeOf 43 = .ok (.goto 4, 3) := by decide +kernel
theorem dX0_holeOf_46 : decode cX0_holeOf 46 = .ok (.iload_n 2, 1) := by decide +kernel
theorem dX0_holeOf_47 : decode cX0_holeOf 47 = .ok (.ireturn, 1) := by decide +kernel
theorem dX1_init_0 : decode cX1_init 0 = .ok (.aload_n 0, 1) := by decide +kernel
theorem dX1_init_1 : decode cX1_init 1 = .ok (.invokespecial 3, 3) := by decide +kernel
theorem dX1_init_4 : decode cX1_init 4 = .ok (.aload_n 0, 1) := by decide +kernel
theorem dX1_init_5 : decode cX1_init 5 = .ok (.iconst 0, 1) := by decide +kernel
theorem dX1_init_6 : decode cX1_init 6 = .ok (.putfield 9, 3) := by decide +kernel
theorem dX1_init_9 : decode cX1_init 9 = .ok (.aload_n 0, 1) := by decide +kernel
theorem dX1_init_10 : decode cX1_init 10 = .ok (.iconst 0, 1) := by decide +kernel
theorem dX1_init_11 : decode cX1_init 11 = .ok (.putfield 15, 3) := by decide +kernel
theorem dX1_init_14 : decode cX1_init 14 = .ok (.aload_n 0, 1) := by decide +kernel
theorem dX1_init_15 : decode cX1_init 15 = .ok (.iconst 0, 1) := by decide +kernel
theorem dX1_init_16 : decode cX1_init 16 = .ok (.putfield 18, 3) := by decide +kernel
theorem dX1_init_19 : decode cX1_init 19 = .ok (.aload_n 0, 1) := by decide +kernel
theorem dX1_init_20 : decode cX1_init 20 = .ok (.iconst 0, 1) := by decide +kernel
theorem dX1_init_21 : decode cX1_init 21 = .ok (.putfield 21, 3) := by decide +kernel
theorem dX1_init_24 : decode cX1_init 24 = .ok (.aload_n 0, 1) := by decide +kernel
theorem dX1_init_25 : decode cX1_init 25 = .ok (.iconst 0, 1) := by decide +kernel
theorem dX1_init_26 : decode cX1_init 26 = .ok (.putfield 24, 3) := by decide +kernel
theorem dX1_init_29 : decode cX1_init 29 = .ok (.return_, 1) := by decide +kernel
theorem dX1_start_0 : decode cX1_start 0 = .ok (.aload_n 0, 1) := by decide +kernel
theorem dX1_start_1 : decode cX1_start 1 = .ok (.iload_n 1, 1) := by decide +kernel
theorem dX1_start_2 : decode cX1_start 2 = .ok (.putfield 9, 3) := by decide +kernel
theorem dX1_start_5 : decode cX1_start 5 = .ok (.aload_n 0, 1) := by decide +kernel
theorem dX1_start_6 : decode cX1_start 6 = .ok (.iload_n 2, 1) := by decide +kernel
theorem dX1_start_7 : decode cX1_start 7 = .ok (.putfield 15, 3) := by decide +kernel
theorem dX1_start_10 : decode cX1_start 10 = .ok (.aload_n 0, 1) := by decide +kernel
theorem dX1_start_11 : decode cX1_start 11 = .ok (.iload_n 3, 1) := by decide +kernel
theorem dX1_start_12 : decode cX1_start 12 = .ok (.putfield 18, 3) := by decide +kernel
theorem dX1_start_15 : decode cX1_start 15 = .ok (.aload_n 0, 1) := by decide +kernel
theorem dX1_start_16 : decode cX1_start 16 = .ok (.iload 4, 2) := by decide +kernel
theorem dX1_start_18 : decode cX1_start 18 = .ok (.putfield 21, 3) := by decide +kernel
theorem dX1_start_21 : decode cX1_start 21 = .ok (.aload_n 0, 1) := by decide +kernel
theorem dX1_start_22 : decode cX1_start 22 = .ok (.iconst 0, 1) := by decide +kernel
theorem dX1_start_23 : decode cX1_start 23 = .ok (.putfield 24, 3) := by decide +kernel
theorem dX1_start_26 : decode cX1_start 26 = .ok (.return_, 1) := by decide +kernel
theorem dX1_become_0 : decode cX1_become 0 = .ok (.aload_n 0, 1) := by decide +kernel
theorem dX1_become_1 : decode cX1_become 1 = .ok (.aload_n 1, 1) := by decide +kernel
theorem dX1_become_2 : decode cX1_become 2 = .ok (.getfield 9, 3) := by decide +kernel
theorem dX1_become_5 : decode cX1_become 5 = .ok (.aload_n 1, 1) := by decide +kernel
theorem dX1_become_6 : decode cX1_become 6 = .ok (.getfield 15, 3) := by decide +kernel
theorem dX1_become_9 : decode cX1_become 9 = .ok (.aload_n 1, 1) := by decide +kernel
theorem dX1_become_10 : decode cX1_become 10 = .ok (.getfield 18, 3) := by decide +kernel
theorem dX1_become_13 : decode cX1_become 13 = .ok (.aload_n 1, 1) := by decide +kernel
theorem dX1_become_14 : decode cX1_become 14 = .ok (.getfield 21, 3) := by decide +kernel
theorem dX1_become_17 : decode cX1_become 17 = .ok (.invokevirtual 27, 3) := by decide +kernel
theorem dX1_become_20 : decode cX1_become 20 = .ok (.aload_n 0, 1) := by decide +kernel
theorem dX1_become_21 : decode cX1_become 21 = .ok (.aload_n 1, 1) := by decide +kernel
theorem dX1_become_22 : decode cX1_become 22 = .ok (.getfield 24, 3) := by decide +kernel
theorem dX1_become_25 : decode cX1_become 25 = .ok (.putfield 24, 3) := by decide +kernel
theorem dX1_become_28 : decode cX1_become 28 = .ok (.return_, 1) := by decide +kernel
theorem dX1_part_0 : decode cX1_part 0 = .ok (.iload_n 1, 1) := by decide +kernel
theorem dX1_part_1 : decode cX1_part 1 = .ok (.tableswitch 60 0 4 #[35, 40, 45, 50, 55], 35) := by decide +kernel
theorem dX1_part_36 : decode cX1_part 36 = .ok (.aload_n 0, 1) := by decide +kernel
theorem dX1_part_37 : decode cX1_part 37 = .ok (.getfield 9, 3) := by decide +kernel
theorem dX1_part_40 : decode cX1_part 40 = .ok (.ireturn, 1) := by decide +kernel
theorem dX1_part_41 : decode cX1_part 41 = .ok (.aload_n 0, 1) := by decide +kernel
theorem dX1_part_42 : decode cX1_part 42 = .ok (.getfield 15, 3) := by decide +kernel
theorem dX1_part_45 : decode cX1_part 45 = .ok (.ireturn, 1) := by decide +kernel
theorem dX1_part_46 : decode cX1_part 46 = .ok (.aload_n 0, 1) := by decide +kernel
theorem dX1_part_47 : decode cX1_part 47 = .ok (.getfield 18, 3) := by decide +kernel
theorem dX1_part_50 : decode cX1_part 50 = .ok (.ireturn, 1) := by decide +kernel
theorem dX1_part_51 : decode cX1_part 51 = .ok (.aload_n 0, 1) := by decide +kernel
theorem dX1_part_52 : decode cX1_part 52 = .ok (.getfield 21, 3) := by decide +kernel
theorem dX1_part_55 : decode cX1_part 55 = .ok (.ireturn, 1) := by decide +kernel
theorem dX1_part_56 : decode cX1_part 56 = .ok (.aload_n 0, 1) := by decide +kernel
theorem dX1_part_57 : decode cX1_part 57 = .ok (.getfield 24, 3) := by decide +kernel
theorem dX1_part_60 : decode cX1_part 60 = .ok (.ireturn, 1) := by decide +kernel
theorem dX1_part_61 : decode cX1_part 61 = .ok (.aload_n 0, 1) := by decide +kernel
theorem dX1_part_62 : decode cX1_part 62 = .ok (.invokevirtual 31, 3) := by decide +kernel
theorem dX1_part_65 : decode cX1_part 65 = .ok (.ireturn, 1) := by decide +kernel
theorem dX1_change_0 : decode cX1_change 0 = .ok (.iload_n 1, 1) := by decide +kernel
theorem dX1_change_1 : decode cX1_change 1 = .ok (.tableswitch 63 1 4 #[31, 39, 47, 55], 31) := by decide +kernel
theorem dX1_change_32 : decode cX1_change 32 = .ok (.aload_n 0, 1) := by decide +kernel
theorem dX1_change_33 : decode cX1_change 33 = .ok (.iload_n 2, 1) := by decide +kernel
theorem dX1_change_34 : decode cX1_change 34 = .ok (.putfield 15, 3) := by decide +kernel
theorem dX1_change_37 : decode cX1_change 37 = .ok (.goto 27, 3) := by decide +kernel
theorem dX1_change_40 : decode cX1_change 40 = .ok (.aload_n 0, 1) := by decide +kernel
theorem dX1_change_41 : decode cX1_change 41 = .ok (.iload_n 2, 1) := by decide +kernel
theorem dX1_change_42 : decode cX1_change 42 = .ok (.putfield 18, 3) := by decide +kernel
theorem dX1_change_45 : decode cX1_change 45 = .ok (.goto 19, 3) := by decide +kernel
theorem dX1_change_48 : decode cX1_change 48 = .ok (.aload_n 0, 1) := by decide +kernel
theorem dX1_change_49 : decode cX1_change 49 = .ok (.iload_n 2, 1) := by decide +kernel
theorem dX1_change_50 : decode cX1_change 50 = .ok (.putfield 21, 3) := by decide +kernel
theorem dX1_change_53 : decode cX1_change 53 = .ok (.goto 11, 3) := by decide +kernel
theorem dX1_change_56 : decode cX1_change 56 = .ok (.aload_n 0, 1) := by decide +kernel
theorem dX1_change_57 : decode cX1_change 57 = .ok (.iload_n 2, 1) := by decide +kernel
theorem dX1_change_58 : decode cX1_change 58 = .ok (.putfield 24, 3) := by decide +kernel
theorem dX1_change_61 : decode cX1_change 61 = .ok (.goto 3, 3) := by decide +kernel
theorem dX1_change_64 : decode cX1_change 64 = .ok (.return_, 1) := by decide +kernel
theorem dX1_isOf_0 : decode cX1_isOf 0 = .ok (.aload_n 0, 1) := by decide +kernel
theorem dX1_isOf_1 : decode cX1_isOf 1 = .ok (.getfield 9, 3) := by decide +kernel
theorem dX1_isOf_4 : decode cX1_isOf 4 = .ok (.istore_n 2, 1) := by decide +kernel
theorem dX1_isOf_5 : decode cX1_isOf 5 = .ok (.iconst 0, 1) := by decide +kernel
theorem dX1_isOf_6 : decode cX1_isOf 6 = .ok (.istore_n 3, 1) := by decide +kernel
theorem dX1_isOf_7 : decode cX1_isOf 7 = .ok (.iload_n 3, 1) := by decide +kernel
theorem dX1_isOf_8 : decode cX1_isOf 8 = .ok (.getstatic 35, 3) := by decide +kernel
theorem dX1_isOf_11 : decode cX1_isOf 11 = .ok (.arraylength, 1) := by decide +kernel
theorem dX1_isOf_12 : decode cX1_isOf 12 = .ok (.if_icmp .ge 34, 3) := by decide +kernel
theorem dX1_isOf_15 : decode cX1_isOf 15 = .ok (.iload_n 2, 1) := by decide +kernel
theorem dX1_isOf_16 : decode cX1_isOf 16 = .ok (.ifCond .lt 30, 3) := by decide +kernel
theorem dX1_isOf_19 : decode cX1_isOf 19 = .ok (.iload_n 2, 1) := by decide +kernel
theorem dX1_isOf_20 : decode cX1_isOf 20 = .ok (.getstatic 35, 3) := by decide +kernel
theorem dX1_isOf_23 : decode cX1_isOf 23 = .ok (.arraylength, 1) := by decide +kernel
theorem dX1_isOf_24 : decode cX1_isOf 24 = .ok (.if_icmp .ge 22, 3) := by decide +kernel
theorem dX1_isOf_27 : decode cX1_isOf 27 = .ok (.iload_n 2, 1) := by decide +kernel
theorem dX1_isOf_28 : decode cX1_isOf 28 = .ok (.iload_n 1, 1) := by decide +kernel
theorem dX1_isOf_29 : decode cX1_isOf 29 = .ok (.if_icmp .ne 5, 3) := by decide +kernel
theorem dX1_isOf_32 : decode cX1_isOf 32 = .ok (.iconst 1, 1) := by decide +kernel
theorem dX1_isOf_33 : decode cX1_isOf 33 = .ok (.ireturn, 1) := by decide +kernel
theorem dX1_isOf_34 : decode cX1_isOf 34 = .ok (.getstatic 35, 3) := by decide +kernel
theorem dX1_isOf_37 : decode cX1_isOf 37 = .ok (.iload_n 2, 1) := by decide +kernel
theorem dX1_isOf_38 : decode cX1_isOf 38 = .ok (.iaload, 1) := by decide +kernel
theorem dX1_isOf_39 : decode cX1_isOf 39 = .ok (.istore_n 2, 1) := by decide +kernel
theorem dX1_isOf_40 : decode cX1_isOf 40 = .ok (.iinc 3 1, 3) := by decide +kernel
theorem dX1_isOf_43 : decode cX1_isOf 43 = .ok (.goto (-36), 3) := by decide +kernel
theorem dX1_isOf_46 : decode cX1_isOf 46 = .ok (.iconst 0, 1) := by decide +kernel
theorem dX1_isOf_47 : decode cX1_isOf 47 = .ok (.ireturn, 1) := by decide +kernel
theorem dX1_worth_0 : decode cX1_worth 0 = .ok (.aload_n 0, 1) := by decide +kernel
theorem dX1_worth_1 : decode cX1_worth 1 = .ok (.getfield 9, 3) := by decide +kernel
theorem dX1_worth_4 : decode cX1_worth 4 = .ok (.tableswitch 82 1 5 #[36, 58, 46, 66, 77], 36) := by decide +kernel
theorem dX1_worth_40 : decode cX1_worth 40 = .ok (.aload_n 0, 1) := by decide +kernel
theorem dX1_worth_41 : decode cX1_worth 41 = .ok (.getfield 18, 3) := by decide +kernel
theorem dX1_worth_44 : decode cX1_worth 44 = .ok (.aload_n 0, 1) := by decide +kernel
theorem dX1_worth_45 : decode cX1_worth 45 = .ok (.getfield 21, 3) := by decide +kernel
theorem dX1_worth_48 : decode cX1_worth 48 = .ok (.iadd, 1) := by decide +kernel
theorem dX1_worth_49 : decode cX1_worth 49 = .ok (.ireturn, 1) := by decide +kernel
theorem dX1_worth_50 : decode cX1_worth 50 = .ok (.iconst 2, 1) := by decide +kernel
theorem dX1_worth_51 : decode cX1_worth 51 = .ok (.aload_n 0, 1) := by decide +kernel
theorem dX1_worth_52 : decode cX1_worth 52 = .ok (.getfield 18, 3) := by decide +kernel
theorem dX1_worth_55 : decode cX1_worth 55 = .ok (.aload_n 0, 1) := by decide +kernel
theorem dX1_worth_56 : decode cX1_worth 56 = .ok (.getfield 21, 3) := by decide +kernel
theorem dX1_worth_59 : decode cX1_worth 59 = .ok (.iadd, 1) := by decide +kernel
theorem dX1_worth_60 : decode cX1_worth 60 = .ok (.imul, 1) := by decide +kernel
theorem dX1_worth_61 : decode cX1_worth 61 = .ok (.ireturn, 1) := by decide +kernel
theorem dX1_worth_62 : decode cX1_worth 62 = .ok (.bipush 120, 2) := by decide +kernel
theorem dX1_worth_64 : decode cX1_worth 64 = .ok (.aload_n 0, 1) := by decide +kernel
theorem dX1_worth_65 : decode cX1_worth 65 = .ok (.getfield 18, 3) := by decide +kernel
theorem dX1_worth_68 : decode cX1_worth 68 = .ok (.isub, 1) := by decide +kernel
theorem dX1_worth_69 : decode cX1_worth 69 = .ok (.ireturn, 1) := by decide +kernel
theorem dX1_worth_70 : decode cX1_worth 70 = .ok (.bipush 120, 2) := by decide +kernel
theorem dX1_worth_72 : decode cX1_worth 72 = .ok (.aload_n 0, 1) := by decide +kernel
theorem dX1_worth_73 : decode cX1_worth 73 = .ok (.getfield 18, 3) := by decide +kernel
theorem dX1_worth_76 : decode cX1_worth 76 = .ok (.isub, 1) := by decide +kernel
theorem dX1_worth_77 : decode cX1_worth 77 = .ok (.bipush 9, 2) := by decide +kernel
theorem dX1_worth_79 : decode cX1_worth 79 = .ok (.isub, 1) := by decide +kernel
theorem dX1_worth_80 : decode cX1_worth 80 = .ok (.ireturn, 1) := by decide +kernel
theorem dX1_worth_81 : decode cX1_worth 81 = .ok (.aload_n 0, 1) := by decide +kernel
theorem dX1_worth_82 : decode cX1_worth 82 = .ok (.getfield 15, 3) := by decide +kernel
theorem dX1_worth_85 : decode cX1_worth 85 = .ok (.ireturn, 1) := by decide +kernel
theorem dX1_worth_86 : decode cX1_worth 86 = .ok (.aload_n 0, 1) := by decide +kernel
theorem dX1_worth_87 : decode cX1_worth 87 = .ok (.getfield 18, 3) := by decide +kernel
theorem dX1_worth_90 : decode cX1_worth 90 = .ok (.ireturn, 1) := by decide +kernel
theorem dX2_init_0 : decode cX2_init 0 = .ok (.aload_n 0, 1) := by decide +kernel
theorem dX2_init_1 : decode cX2_init 1 = .ok (.invokespecial 3, 3) := by decide +kernel
theorem dX2_init_4 : decode cX2_init 4 = .ok (.aload_n 0, 1) := by decide +kernel
theorem dX2_init_5 : decode cX2_init 5 = .ok (.bipush 10, 2) := by decide +kernel
theorem dX2_init_7 : decode cX2_init 7 = .ok (.anewarray 9, 3) := by decide +kernel
theorem dX2_init_10 : decode cX2_init 10 = .ok (.putfield 11, 3) := by decide +kernel
theorem dX2_init_13 : decode cX2_init 13 = .ok (.aload_n 0, 1) := by decide +kernel
theorem dX2_init_14 : decode cX2_init 14 = .ok (.iconst 0, 1) := by decide +kernel
theorem dX2_init_15 : decode cX2_init 15 = .ok (.putfield 17, 3) := by decide +kernel
theorem dX2_init_18 : decode cX2_init 18 = .ok (.aload_n 0, 1) := by decide +kernel
theorem dX2_init_19 : decode cX2_init 19 = .ok (.bipush 6, 2) := by decide +kernel
theorem dX2_init_21 : decode cX2_init 21 = .ok (.newarray .int, 2) := by decide +kernel
theorem dX2_init_23 : decode cX2_init 23 = .ok (.putfield 21, 3) := by decide +kernel
theorem dX2_init_26 : decode cX2_init 26 = .ok (.aload_n 0, 1) := by decide +kernel
theorem dX2_init_27 : decode cX2_init 27 = .ok (.bipush 6, 2) := by decide +kernel
theorem dX2_init_29 : decode cX2_init 29 = .ok (.newarray .int, 2) := by decide +kernel
theorem dX2_init_31 : decode cX2_init 31 = .ok (.putfield 25, 3) := by decide +kernel
theorem dX2_init_34 : decode cX2_init 34 = .ok (.aload_n 0, 1) := by decide +kernel
theorem dX2_init_35 : decode cX2_init 35 = .ok (.iconst 0, 1) := by decide +kernel
theorem dX2_init_36 : decode cX2_init 36 = .ok (.putfield 28, 3) := by decide +kernel
theorem dX2_init_39 : decode cX2_init 39 = .ok (.aload_n 0, 1) := by decide +kernel
theorem dX2_init_40 : decode cX2_init 40 = .ok (.bipush 14, 2) := by decide +kernel
theorem dX2_init_42 : decode cX2_init 42 = .ok (.anewarray 31, 3) := by decide +kernel
theorem dX2_init_45 : decode cX2_init 45 = .ok (.putfield 33, 3) := by decide +kernel
theorem dX2_init_48 : decode cX2_init 48 = .ok (.aload_n 0, 1) := by decide +kernel
theorem dX2_init_49 : decode cX2_init 49 = .ok (.iconst 0, 1) := by decide +kernel
theorem dX2_init_50 : decode cX2_init 50 = .ok (.putfield 37, 3) := by decide +kernel
theorem dX2_init_53 : decode cX2_init 53 = .ok (.aload_n 0, 1) := by decide +kernel
theorem dX2_init_54 : decode cX2_init 54 = .ok (.iconst 3, 1) := by decide +kernel
theorem dX2_init_55 : decode cX2_init 55 = .ok (.newarray .int, 2) := by decide +kernel
theorem dX2_init_57 : decode cX2_init 57 = .ok (.dup, 1) := by decide +kernel
theorem dX2_init_58 : decode cX2_init 58 = .ok (.iconst 0, 1) := by decide +kernel
theorem dX2_init_59 : decode cX2_init 59 = .ok (.iconst (-1), 1) := by decide +kernel
theorem dX2_init_60 : decode cX2_init 60 = .ok (.iastore, 1) := by decide +kernel
theorem dX2_init_61 : decode cX2_init 61 = .ok (.dup, 1) := by decide +kernel
theorem dX2_init_62 : decode cX2_init 62 = .ok (.iconst 1, 1) := by decide +kernel
theorem dX2_init_63 : decode cX2_init 63 = .ok (.iconst (-1), 1) := by decide +kernel
theorem dX2_init_64 : decode cX2_init 64 = .ok (.iastore, 1) := by decide +kernel
theorem dX2_init_65 : decode cX2_init 65 = .ok (.dup, 1) := by decide +kernel
theorem dX2_init_66 : decode cX2_init 66 = .ok (.iconst 2, 1) := by decide +kernel
theorem dX2_init_67 : decode cX2_init 67 = .ok (.iconst (-1), 1) := by decide +kernel
theorem dX2_init_68 : decode cX2_init 68 = .ok (.iastore, 1) := by decide +kernel
theorem dX2_init_69 : decode cX2_init 69 = .ok (.putfield 40, 3) := by decide +kernel
theorem dX2_init_72 : decode cX2_init 72 = .ok (.aload_n 0, 1) := by decide +kernel
theorem dX2_init_73 : decode cX2_init 73 = .ok (.bipush 10, 2) := by decide +kernel
theorem dX2_init_75 : decode cX2_init 75 = .ok (.putfield 43, 3) := by decide +kernel
theorem dX2_init_78 : decode cX2_init 78 = .ok (.aload_n 0, 1) := by decide +kernel
theorem dX2_init_79 : decode cX2_init 79 = .ok (.bipush 120, 2) := by decide +kernel
theorem dX2_init_81 : decode cX2_init 81 = .ok (.putfield 46, 3) := by decide +kernel
theorem dX2_init_84 : decode cX2_init 84 = .ok (.aload_n 0, 1) := by decide +kernel
theorem dX2_init_85 : decode cX2_init 85 = .ok (.iconst 0, 1) := by decide +kernel
theorem dX2_init_86 : decode cX2_init 86 = .ok (.putfield 49, 3) := by decide +kernel
theorem dX2_init_89 : decode cX2_init 89 = .ok (.aload_n 0, 1) := by decide +kernel
theorem dX2_init_90 : decode cX2_init 90 = .ok (.iconst 0, 1) := by decide +kernel
theorem dX2_init_91 : decode cX2_init 91 = .ok (.putfield 52, 3) := by decide +kernel
theorem dX2_init_94 : decode cX2_init 94 = .ok (.aload_n 0, 1) := by decide +kernel
theorem dX2_init_95 : decode cX2_init 95 = .ok (.iconst 0, 1) := by decide +kernel
theorem dX2_init_96 : decode cX2_init 96 = .ok (.putfield 55, 3) := by decide +kernel
theorem dX2_init_99 : decode cX2_init 99 = .ok (.aload_n 0, 1) := by decide +kernel
theorem dX2_init_100 : decode cX2_init 100 = .ok (.iconst 1, 1) := by decide +kernel
theorem dX2_init_101 : decode cX2_init 101 = .ok (.putfield 58, 3) := by decide +kernel
theorem dX2_init_104 : decode cX2_init 104 = .ok (.iconst 0, 1) := by decide +kernel
theorem dX2_init_105 : decode cX2_init 105 = .ok (.istore_n 1, 1) := by decide +kernel
theorem dX2_init_106 : decode cX2_init 106 = .ok (.iload_n 1, 1) := by decide +kernel
theorem dX2_init_107 : decode cX2_init 107 = .ok (.bipush 10, 2) := by decide +kernel
theorem dX2_init_109 : decode cX2_init 109 = .ok (.if_icmp .ge 22, 3) := by decide +kernel
theorem dX2_init_112 : decode cX2_init 112 = .ok (.aload_n 0, 1) := by decide +kernel
theorem dX2_init_113 : decode cX2_init 113 = .ok (.getfield 11, 3) := by decide +kernel
theorem dX2_init_116 : decode cX2_init 116 = .ok (.iload_n 1, 1) := by decide +kernel
theorem dX2_init_117 : decode cX2_init 117 = .ok (.new 9, 3) := by decide +kernel
theorem dX2_init_120 : decode cX2_init 120 = .ok (.dup, 1) := by decide +kernel
theorem dX2_init_121 : decode cX2_init 121 = .ok (.invokespecial 61, 3) := by decide +kernel
theorem dX2_init_124 : decode cX2_init 124 = .ok (.aastore, 1) := by decide +kernel
theorem dX2_init_125 : decode cX2_init 125 = .ok (.iinc 1 1, 3) := by decide +kernel
theorem dX2_init_128 : decode cX2_init 128 = .ok (.goto (-22), 3) := by decide +kernel
theorem dX2_init_131 : decode cX2_init 131 = .ok (.return_, 1) := by decide +kernel
theorem dX2_become_0 : decode cX2_become 0 = .ok (.iconst 0, 1) := by decide +kernel
theorem dX2_become_1 : decode cX2_become 1 = .ok (.istore_n 2, 1) := by decide +kernel
theorem dX2_become_2 : decode cX2_become 2 = .ok (.iload_n 2, 1) := by decide +kernel
theorem dX2_become_3 : decode cX2_become 3 = .ok (.aload_n 1, 1) := by decide +kernel
theorem dX2_become_4 : decode cX2_become 4 = .ok (.getfield 17, 3) := by decide +kernel
theorem dX2_become_7 : decode cX2_become 7 = .ok (.if_icmp .ge 24, 3) := by decide +kernel
theorem dX2_become_10 : decode cX2_become 10 = .ok (.aload_n 0, 1) := by decide +kernel
theorem dX2_become_11 : decode cX2_become 11 = .ok (.getfield 11, 3) := by decide +kernel
theorem dX2_become_14 : decode cX2_become 14 = .ok (.iload_n 2, 1) := by decide +kernel
theorem dX2_become_15 : decode cX2_become 15 = .ok (.aaload, 1) := by decide +kernel
theorem dX2_become_16 : decode cX2_become 16 = .ok (.aload_n 1, 1) := by decide +kernel
theorem dX2_become_17 : decode cX2_become 17 = .ok (.getfield 11, 3) := by decide +kernel
theorem dX2_become_20 : decode cX2_become 20 = .ok (.iload_n 2, 1) := by decide +kernel
theorem dX2_become_21 : decode cX2_become 21 = .ok (.aaload, 1) := by decide +kernel
theorem dX2_become_22 : decode cX2_become 22 = .ok (.invokevirtual 62, 3) := by decide +kernel
theorem dX2_become_25 : decode cX2_become 25 = .ok (.iinc 2 1, 3) := by decide +kernel
theorem dX2_become_28 : decode cX2_become 28 = .ok (.goto (-26), 3) := by decide +kernel
theorem dX2_become_31 : decode cX2_become 31 = .ok (.aload_n 0, 1) := by decide +kernel
theorem dX2_become_32 : decode cX2_become 32 = .ok (.aload_n 1, 1) := by decide +kernel
theorem dX2_become_33 : decode cX2_become 33 = .ok (.getfield 17, 3) := by decide +kernel
theorem dX2_become_36 : decode cX2_become 36 = .ok (.putfield 17, 3) := by decide +kernel
theorem dX2_become_39 : decode cX2_become 39 = .ok (.aload_n 1, 1) := by decide +kernel
theorem dX2_become_40 : decode cX2_become 40 = .ok (.getfield 21, 3) := by decide +kernel
theorem dX2_become_43 : decode cX2_become 43 = .ok (.iconst 0, 1) := by decide +kernel
theorem dX2_become_44 : decode cX2_become 44 = .ok (.aload_n 0, 1) := by decide +kernel
theorem dX2_become_45 : decode cX2_become 45 = .ok (.getfield 21, 3) := by decide +kernel
theorem dX2_become_48 : decode cX2_become 48 = .ok (.iconst 0, 1) := by decide +kernel
theorem dX2_become_49 : decode cX2_become 49 = .ok (.bipush 6, 2) := by decide +kernel
theorem dX2_become_51 : decode cX2_become 51 = .ok (.invokestatic 66, 3) := by decide +kernel
theorem dX2_become_54 : decode cX2_become 54 = .ok (.aload_n 1, 1) := by decide +kernel
theorem dX2_become_55 : decode cX2_become 55 = .ok (.getfield 25, 3) := by decide +kernel
theorem dX2_become_58 : decode cX2_become 58 = .ok (.iconst 0, 1) := by decide +kernel
theorem dX2_become_59 : decode cX2_become 59 = .ok (.aload_n 0, 1) := by decide +kernel
theorem dX2_become_60 : decode cX2_become 60 = .ok (.getfield 25, 3) := by decide +kernel
theorem dX2_become_63 : decode cX2_become 63 = .ok (.iconst 0, 1) := by decide +kernel
theorem dX2_become_64 : decode cX2_become 64 = .ok (.bipush 6, 2) := by decide +kernel
theorem dX2_become_66 : decode cX2_become 66 = .ok (.invokestatic 66, 3) := by decide +kernel
theorem dX2_become_69 : decode cX2_become 69 = .ok (.aload_n 0, 1) := by decide +kernel
theorem dX2_become_70 : decode cX2_become 70 = .ok (.aload_n 1, 1) := by decide +kernel
theorem dX2_become_71 : decode cX2_become 71 = .ok (.getfield 28, 3) := by decide +kernel
theorem dX2_become_74 : decode cX2_become 74 = .ok (.putfield 28, 3) := by decide +kernel
theorem dX2_become_77 : decode cX2_become 77 = .ok (.iconst 0, 1) := by decide +kernel
theorem dX2_become_78 : decode cX2_become 78 = .ok (.istore_n 2, 1) := by decide +kernel
theorem dX2_become_79 : decode cX2_become 79 = .ok (.iload_n 2, 1) := by decide +kernel
theorem dX2_become_80 : decode cX2_become 80 = .ok (.aload_n 1, 1) := by decide +kernel
theorem dX2_become_81 : decode cX2_become 81 = .ok (.getfield 37, 3) := by decide +kernel
theorem dX2_become_84 : decode cX2_become 84 = .ok (.if_icmp .ge 21, 3) := by decide +kernel
theorem dX2_become_87 : decode cX2_become 87 = .ok (.aload_n 0, 1) := by decide +kernel
theorem dX2_become_88 : decode cX2_become 88 = .ok (.getfield 33, 3) := by decide +kernel
theorem dX2_become_91 : decode cX2_become 91 = .ok (.iload_n 2, 1) := by decide +kernel
theorem dX2_become_92 : decode cX2_become 92 = .ok (.aload_n 1, 1) := by decide +kernel
theorem dX2_become_93 : decode cX2_become 93 = .ok (.getfield 33, 3) := by decide +kernel
theorem dX2_become_96 : decode cX2_become 96 = .ok (.iload_n 2, 1) := by decide +kernel
theorem dX2_become_97 : decode cX2_become 97 = .ok (.aaload, 1) := by decide +kernel
theorem dX2_become_98 : decode cX2_become 98 = .ok (.aastore, 1) := by decide +kernel
theorem dX2_become_99 : decode cX2_become 99 = .ok (.iinc 2 1, 3) := by decide +kernel
theorem dX2_become_102 : decode cX2_become 102 = .ok (.goto (-23), 3) := by decide +kernel
theorem dX2_become_105 : decode cX2_become 105 = .ok (.aload_n 0, 1) := by decide +kernel
theorem dX2_become_106 : decode cX2_become 106 = .ok (.aload_n 1, 1) := by decide +kernel
theorem dX2_become_107 : decode cX2_become 107 = .ok (.getfield 37, 3) := by decide +kernel
theorem dX2_become_110 : decode cX2_become 110 = .ok (.putfield 37, 3) := by decide +kernel
theorem dX2_become_113 : decode cX2_become 113 = .ok (.aload_n 1, 1) := by decide +kernel
theorem dX2_become_114 : decode cX2_become 114 = .ok (.getfield 40, 3) := by decide +kernel
theorem dX2_become_117 : decode cX2_become 117 = .ok (.iconst 0, 1) := by decide +kernel
theorem dX2_become_118 : decode cX2_become 118 = .ok (.aload_n 0, 1) := by decide +kernel
theorem dX2_become_119 : decode cX2_become 119 = .ok (.getfield 40, 3) := by decide +kernel
theorem dX2_become_122 : decode cX2_become 122 = .ok (.iconst 0, 1) := by decide +kernel
theorem dX2_become_123 : decode cX2_become 123 = .ok (.iconst 3, 1) := by decide +kernel
theorem dX2_become_124 : decode cX2_become 124 = .ok (.invokestatic 66, 3) := by decide +kernel
theorem dX2_become_127 : decode cX2_become 127 = .ok (.aload_n 0, 1) := by decide +kernel
theorem dX2_become_128 : decode cX2_become 128 = .ok (.aload_n 1, 1) := by decide +kernel
theorem dX2_become_129 : decode cX2_become 129 = .ok (.getfield 43, 3) := by decide +kernel
theorem dX2_become_132 : decode cX2_become 132 = .ok (.putfield 43, 3) := by decide +kernel
theorem dX2_become_135 : decode cX2_become 135 = .ok (.aload_n 0, 1) := by decide +kernel
theorem dX2_become_136 : decode cX2_become 136 = .ok (.aload_n 1, 1) := by decide +kernel
theorem dX2_become_137 : decode cX2_become 137 = .ok (.getfield 46, 3) := by decide +kernel
theorem dX2_become_140 : decode cX2_become 140 = .ok (.putfield 46, 3) := by decide +kernel
theorem dX2_become_143 : decode cX2_become 143 = .ok (.aload_n 0, 1) := by decide +kernel
theorem dX2_become_144 : decode cX2_become 144 = .ok (.aload_n 1, 1) := by decide +kernel
theorem dX2_become_145 : decode cX2_become 145 = .ok (.getfield 49, 3) := by decide +kernel
theorem dX2_become_148 : decode cX2_become 148 = .ok (.putfield 49, 3) := by decide +kernel
theorem dX2_become_151 : decode cX2_become 151 = .ok (.aload_n 0, 1) := by decide +kernel
theorem dX2_become_152 : decode cX2_become 152 = .ok (.aload_n 1, 1) := by decide +kernel
theorem dX2_become_153 : decode cX2_become 153 = .ok (.getfield 52, 3) := by decide +kernel
theorem dX2_become_156 : decode cX2_become 156 = .ok (.putfield 52, 3) := by decide +kernel
theorem dX2_become_159 : decode cX2_become 159 = .ok (.aload_n 0, 1) := by decide +kernel
theorem dX2_become_160 : decode cX2_become 160 = .ok (.aload_n 1, 1) := by decide +kernel
theorem dX2_become_161 : decode cX2_become 161 = .ok (.getfield 55, 3) := by decide +kernel
theorem dX2_become_164 : decode cX2_become 164 = .ok (.putfield 55, 3) := by decide +kernel
theorem dX2_become_167 : decode cX2_become 167 = .ok (.aload_n 0, 1) := by decide +kernel
theorem dX2_become_168 : decode cX2_become 168 = .ok (.aload_n 1, 1) := by decide +kernel
theorem dX2_become_169 : decode cX2_become 169 = .ok (.getfield 58, 3) := by decide +kernel
theorem dX2_become_172 : decode cX2_become 172 = .ok (.putfield 58, 3) := by decide +kernel
theorem dX2_become_175 : decode cX2_become 175 = .ok (.return_, 1) := by decide +kernel
theorem dX2_find_0 : decode cX2_find 0 = .ok (.iload_n 1, 1) := by decide +kernel
theorem dX2_find_1 : decode cX2_find 1 = .ok (.ifCond .lt 20, 3) := by decide +kernel
theorem dX2_find_4 : decode cX2_find 4 = .ok (.iload_n 1, 1) := by decide +kernel
theorem dX2_find_5 : decode cX2_find 5 = .ok (.aload_n 0, 1) := by decide +kernel
theorem dX2_find_6 : decode cX2_find 6 = .ok (.getfield 17, 3) := by decide +kernel
theorem dX2_find_9 : decode cX2_find 9 = .ok (.if_icmp .ge 12, 3) := by decide +kernel
theorem dX2_find_12 : decode cX2_find 12 = .ok (.aload_n 0, 1) := by decide +kernel
theorem dX2_find_13 : decode cX2_find 13 = .ok (.getfield 11, 3) := by decide +kernel
theorem dX2_find_16 : decode cX2_find 16 = .ok (.iload_n 1, 1) := by decide +kernel
theorem dX2_find_17 : decode cX2_find 17 = .ok (.aaload, 1) := by decide +kernel
theorem dX2_find_18 : decode cX2_find 18 = .ok (.goto 4, 3) := by decide +kernel
theorem dX2_find_21 : decode cX2_find 21 = .ok (.aconst_null, 1) := by decide +kernel
theorem dX2_find_22 : decode cX2_find 22 = .ok (.areturn, 1) := by decide +kernel
theorem dX2_open_0 : decode cX2_open 0 = .ok (.aload_n 0, 1) := by decide +kernel
theorem dX2_open_1 : decode cX2_open 1 = .ok (.getfield 17, 3) := by decide +kernel
theorem dX2_open_4 : decode cX2_open 4 = .ok (.istore 5, 2) := by decide +kernel
theorem dX2_open_6 : decode cX2_open 6 = .ok (.iload 5, 2) := by decide +kernel
theorem dX2_open_8 : decode cX2_open 8 = .ok (.bipush 10, 2) := by decide +kernel
theorem dX2_open_10 : decode cX2_open 10 = .ok (.if_icmp .lt 6, 3) := by decide +kernel
theorem dX2_open_13 : decode cX2_open 13 = .ok (.ldc 72, 2) := by decide +kernel
theorem dX2_open_15 : decode cX2_open 15 = .ok (.ireturn, 1) := by decide +kernel
theorem dX2_open_16 : decode cX2_open 16 = .ok (.aload_n 0, 1) := by decide +kernel
theorem dX2_open_17 : decode cX2_open 17 = .ok (.getfield 11, 3) := by decide +kernel
theorem dX2_open_20 : decode cX2_open 20 = .ok (.iload 5, 2) := by decide +kernel
theorem dX2_open_22 : decode cX2_open 22 = .ok (.aaload, 1) := by decide +kernel
theorem dX2_open_23 : decode cX2_open 23 = .ok (.iload_n 1, 1) := by decide +kernel
theorem dX2_open_24 : decode cX2_open 24 = .ok (.iload_n 2, 1) := by decide +kernel
theorem dX2_open_25 : decode cX2_open 25 = .ok (.iload_n 3, 1) := by decide +kernel
theorem dX2_open_26 : decode cX2_open 26 = .ok (.iload 4, 2) := by decide +kernel
theorem dX2_open_28 : decode cX2_open 28 = .ok (.invokevirtual 73, 3) := by decide +kernel
theorem dX2_open_31 : decode cX2_open 31 = .ok (.aload_n 0, 1) := by decide +kernel
theorem dX2_open_32 : decode cX2_open 32 = .ok (.iload 5, 2) := by decide +kernel
theorem dX2_open_34 : decode cX2_open 34 = .ok (.iconst 1, 1) := by decide +kernel
theorem dX2_open_35 : decode cX2_open 35 = .ok (.iadd, 1) := by decide +kernel
theorem dX2_open_36 : decode cX2_open 36 = .ok (.putfield 17, 3) := by decide +kernel
theorem dX2_open_39 : decode cX2_open 39 = .ok (.iload 5, 2) := by decide +kernel
theorem dX2_open_41 : decode cX2_open 41 = .ok (.ireturn, 1) := by decide +kernel
theorem dX2_openByLot_0 : decode cX2_openByLot 0 = .ok (.aload_n 0, 1) := by decide +kernel
theorem dX2_openByLot_1 : decode cX2_openByLot 1 = .ok (.invokevirtual 77, 3) := by decide +kernel
theorem dX2_openByLot_4 : decode cX2_openByLot 4 = .ok (.bipush 6, 2) := by decide +kernel
theorem dX2_openByLot_6 : decode cX2_openByLot 6 = .ok (.irem, 1) := by decide +kernel
theorem dX2_openByLot_7 : decode cX2_openByLot 7 = .ok (.istore_n 1, 1) := by decide +kernel
theorem dX2_openByLot_8 : decode cX2_openByLot 8 = .ok (.aload_n 0, 1) := by decide +kernel
theorem dX2_openByLot_9 : decode cX2_openByLot 9 = .ok (.invokevirtual 77, 3) := by decide +kernel
theorem dX2_openByLot_12 : decode cX2_openByLot 12 = .ok (.bipush 30, 2) := by decide +kernel
theorem dX2_openByLot_14 : decode cX2_openByLot 14 = .ok (.irem, 1) := by decide +kernel
theorem dX2_openByLot_15 : decode cX2_openByLot 15 = .ok (.istore_n 2, 1) := by decide +kernel
theorem dX2_openByLot_16 : decode cX2_openByLot 16 = .ok (.iconst 1, 1) := by decide +kernel
theorem dX2_openByLot_17 : decode cX2_openByLot 17 = .ok (.aload_n 0, 1) := by decide +kernel
theorem dX2_openByLot_18 : decode cX2_openByLot 18 = .ok (.invokevirtual 77, 3) := by decide +kernel
theorem dX2_openByLot_21 : decode cX2_openByLot 21 = .ok (.bipush 60, 2) := by decide +kernel
theorem dX2_openByLot_23 : decode cX2_openByLot 23 = .ok (.irem, 1) := by decide +kernel
theorem dX2_openByLot_24 : decode cX2_openByLot 24 = .ok (.iadd, 1) := by decide +kernel
theorem dX2_openByLot_25 : decode cX2_openByLot 25 = .ok (.istore_n 3, 1) := by decide +kernel
theorem dX2_openByLot_26 : decode cX2_openByLot 26 = .ok (.aload_n 0, 1) := by decide +kernel
theorem dX2_openByLot_27 : decode cX2_openByLot 27 = .ok (.invokevirtual 77, 3) := by decide +kernel
theorem dX2_openByLot_30 : decode cX2_openByLot 30 = .ok (.bipush 8, 2) := by decide +kernel
theorem dX2_openByLot_32 : decode cX2_openByLot 32 = .ok (.irem, 1) := by decide +kernel
theorem dX2_openByLot_33 : decode cX2_openByLot 33 = .ok (.istore 4, 2) := by decide +kernel
theorem dX2_openByLot_35 : decode cX2_openByLot 35 = .ok (.aload_n 0, 1) := by decide +kernel
theorem dX2_openByLot_36 : decode cX2_openByLot 36 = .ok (.iload_n 1, 1) := by decide +kernel
theorem dX2_openByLot_37 : decode cX2_openByLot 37 = .ok (.iload_n 2, 1) := by decide +kernel
theorem dX2_openByLot_38 : decode cX2_openByLot 38 = .ok (.iload_n 3, 1) := by decide +kernel
theorem dX2_openByLot_39 : decode cX2_openByLot 39 = .ok (.iload 4, 2) := by decide +kernel
theorem dX2_openByLot_41 : decode cX2_openByLot 41 = .ok (.invokevirtual 81, 3) := by decide +kernel
theorem dX2_openByLot_44 : decode cX2_openByLot 44 = .ok (.pop, 1) := by decide +kernel
theorem dX2_openByLot_45 : decode cX2_openByLot 45 = .ok (.return_, 1) := by decide +kernel
theorem dX2_draw_0 : decode cX2_draw 0 = .ok (.aload_n 0, 1) := by decide +kernel
theorem dX2_draw_1 : decode cX2_draw 1 = .ok (.aload_n 0, 1) := by decide +kernel
theorem dX2_draw_2 : decode cX2_draw 2 = .ok (.getfield 58, 3) := by decide +kernel
theorem dX2_draw_5 : decode cX2_draw 5 = .ok (.ldc 85, 2) := by decide +kernel
theorem dX2_draw_7 : decode cX2_draw 7 = .ok (.imul, 1) := by decide +kernel
theorem dX2_draw_8 : decode cX2_draw 8 = .ok (.sipush 12345, 3) := by decide +kernel
theorem dX2_draw_11 : decode cX2_draw 11 = .ok (.iadd, 1) := by decide +kernel
theorem dX2_draw_12 : decode cX2_draw 12 = .ok (.putfield 58, 3) := by decide +kernel
theorem dX2_draw_15 : decode cX2_draw 15 = .ok (.aload_n 0, 1) := by decide +kernel
theorem dX2_draw_16 : decode cX2_draw 16 = .ok (.getfield 58, 3) := by decide +kernel
theorem dX2_draw_19 : decode cX2_draw 19 = .ok (.bipush 8, 2) := by decide +kernel
theorem dX2_draw_21 : decode cX2_draw 21 = .ok (.iushr, 1) := by decide +kernel
theorem dX2_draw_22 : decode cX2_draw 22 = .ok (.ireturn, 1) := by decide +kernel
theorem dX2_roomAfter_0 : decode cX2_roomAfter 0 = .ok (.aload_n 0, 1) := by decide +kernel
theorem dX2_roomAfter_1 : decode cX2_roomAfter 1 = .ok (.getfield 17, 3) := by decide +kernel
theorem dX2_roomAfter_4 : decode cX2_roomAfter 4 = .ok (.bipush 10, 2) := by decide +kernel
theorem dX2_roomAfter_6 : decode cX2_roomAfter 6 = .ok (.if_icmp .ge 8, 3) := by decide +kernel
theorem dX2_roomAfter_9 : decode cX2_roomAfter 9 = .ok (.aload_n 0, 1) := by decide +kernel
theorem dX2_roomAfter_10 : decode cX2_roomAfter 10 = .ok (.getfield 17, 3) := by decide +kernel
theorem dX2_roomAfter_13 : decode cX2_roomAfter 13 = .ok (.ireturn, 1) := by decide +kernel
theorem dX2_roomAfter_14 : decode cX2_roomAfter 14 = .ok (.iconst 0, 1) := by decide +kernel
theorem dX2_roomAfter_15 : decode cX2_roomAfter 15 = .ok (.istore_n 3, 1) := by decide +kernel
theorem dX2_roomAfter_16 : decode cX2_roomAfter 16 = .ok (.iload_n 3, 1) := by decide +kernel
theorem dX2_roomAfter_17 : decode cX2_roomAfter 17 = .ok (.aload_n 0, 1) := by decide +kernel
theorem dX2_roomAfter_18 : decode cX2_roomAfter 18 = .ok (.getfield 17, 3) := by decide +kernel
theorem dX2_roomAfter_21 : decode cX2_roomAfter 21 = .ok (.if_icmp .ge 43, 3) := by decide +kernel
theorem dX2_roomAfter_24 : decode cX2_roomAfter 24 = .ok (.aload_n 0, 1) := by decide +kernel
theorem dX2_roomAfter_25 : decode cX2_roomAfter 25 = .ok (.getfield 11, 3) := by decide +kernel
theorem dX2_roomAfter_28 : decode cX2_roomAfter 28 = .ok (.iload_n 3, 1) := by decide +kernel
theorem dX2_roomAfter_29 : decode cX2_roomAfter 29 = .ok (.aaload, 1) := by decide +kernel
theorem dX2_roomAfter_30 : decode cX2_roomAfter 30 = .ok (.getfield 86, 3) := by decide +kernel
theorem dX2_roomAfter_33 : decode cX2_roomAfter 33 = .ok (.aload_n 0, 1) := by decide +kernel
theorem dX2_roomAfter_34 : decode cX2_roomAfter 34 = .ok (.getfield 11, 3) := by decide +kernel
theorem dX2_roomAfter_37 : decode cX2_roomAfter 37 = .ok (.iload_n 3, 1) := by decide +kernel
theorem dX2_roomAfter_38 : decode cX2_roomAfter 38 = .ok (.aaload, 1) := by decide +kernel
theorem dX2_roomAfter_39 : decode cX2_roomAfter 39 = .ok (.aload_n 1, 1) := by decide +kernel
theorem dX2_roomAfter_40 : decode cX2_roomAfter 40 = .ok (.if_acmp .ne 7, 3) := by decide +kernel
theorem dX2_roomAfter_43 : decode cX2_roomAfter 43 = .ok (.iload_n 2, 1) := by decide +kernel
theorem dX2_roomAfter_44 : decode cX2_roomAfter 44 = .ok (.goto 4, 3) := by decide +kernel
theorem dX2_roomAfter_47 : decode cX2_roomAfter 47 = .ok (.iconst 0, 1) := by decide +kernel
theorem dX2_roomAfter_48 : decode cX2_roomAfter 48 = .ok (.isub, 1) := by decide +kernel
theorem dX2_roomAfter_49 : decode cX2_roomAfter 49 = .ok (.istore 4, 2) := by decide +kernel
theorem dX2_roomAfter_51 : decode cX2_roomAfter 51 = .ok (.iload 4, 2) := by decide +kernel
theorem dX2_roomAfter_53 : decode cX2_roomAfter 53 = .ok (.ifCond .ne 5, 3) := by decide +kernel
theorem dX2_roomAfter_56 : decode cX2_roomAfter 56 = .ok (.iload_n 3, 1) := by decide +kernel
theorem dX2_roomAfter_57 : decode cX2_roomAfter 57 = .ok (.ireturn, 1) := by decide +kernel
theorem dX2_roomAfter_58 : decode cX2_roomAfter 58 = .ok (.iinc 3 1, 3) := by decide +kernel
theorem dX2_roomAfter_61 : decode cX2_roomAfter 61 = .ok (.goto (-45), 3) := by decide +kernel
theorem dX2_roomAfter_64 : decode cX2_roomAfter 64 = .ok (.iconst (-1), 1) := by decide +kernel
theorem dX2_roomAfter_65 : decode cX2_roomAfter 65 = .ok (.ireturn, 1) := by decide +kernel
theorem dX2_earthOf_0 : decode cX2_earthOf 0 = .ok (.iload_n 1, 1) := by decide +kernel
theorem dX2_earthOf_1 : decode cX2_earthOf 1 = .ok (.aload_n 0, 1) := by decide +kernel
theorem dX2_earthOf_2 : decode cX2_earthOf 2 = .ok (.getfield 46, 3) := by decide +kernel
theorem dX2_earthOf_5 : decode cX2_earthOf 5 = .ok (.imul, 1) := by decide +kernel
theorem dX2_earthOf_6 : decode cX2_earthOf 6 = .ok (.bipush 100, 2) := by decide +kernel
theorem dX2_earthOf_8 : decode cX2_earthOf 8 = .ok (.idiv, 1) := by decide +kernel
theorem dX2_earthOf_9 : decode cX2_earthOf 9 = .ok (.ireturn, 1) := by decide +kernel
theorem dX2_canFill_0 : decode cX2_canFill 0 = .ok (.iload_n 2, 1) := by decide +kernel
theorem dX2_canFill_1 : decode cX2_canFill 1 = .ok (.aload_n 1, 1) := by decide +kernel
theorem dX2_canFill_2 : decode cX2_canFill 2 = .ok (.getfield 86, 3) := by decide +kernel
theorem dX2_canFill_5 : decode cX2_canFill 5 = .ok (.if_icmp .gt 7, 3) := by decide +kernel
theorem dX2_canFill_8 : decode cX2_canFill 8 = .ok (.iconst 1, 1) := by decide +kernel
theorem dX2_canFill_9 : decode cX2_canFill 9 = .ok (.goto 4, 3) := by decide +kernel
theorem dX2_canFill_12 : decode cX2_canFill 12 = .ok (.iconst 0, 1) := by decide +kernel
theorem dX2_canFill_13 : decode cX2_canFill 13 = .ok (.istore 4, 2) := by decide +kernel
theorem dX2_canFill_15 : decode cX2_canFill 15 = .ok (.iload_n 3, 1) := by decide +kernel
theorem dX2_canFill_16 : decode cX2_canFill 16 = .ok (.aload_n 1, 1) := by decide +kernel
theorem dX2_canFill_17 : decode cX2_canFill 17 = .ok (.getfield 89, 3) := by decide +kernel
theorem dX2_canFill_20 : decode cX2_canFill 20 = .ok (.isub, 1) := by decide +kernel
theorem dX2_canFill_21 : decode cX2_canFill 21 = .ok (.invokestatic 92, 3) := by decide +kernel
theorem dX2_canFill_24 : decode cX2_canFill 24 = .ok (.aload_n 0, 1) := by decide +kernel
theorem dX2_canFill_25 : decode cX2_canFill 25 = .ok (.getfield 43, 3) := by decide +kernel
theorem dX2_canFill_28 : decode cX2_canFill 28 = .ok (.if_icmp .gt 7, 3) := by decide +kernel
theorem dX2_canFill_31 : decode cX2_canFill 31 = .ok (.iconst 1, 1) := by decide +kernel
theorem dX2_canFill_32 : decode cX2_canFill 32 = .ok (.goto 4, 3) := by decide +kernel
theorem dX2_canFill_35 : decode cX2_canFill 35 = .ok (.iconst 0, 1) := by decide +kernel
theorem dX2_canFill_36 : decode cX2_canFill 36 = .ok (.istore 5, 2) := by decide +kernel
theorem dX2_canFill_38 : decode cX2_canFill 38 = .ok (.iload_n 2, 1) := by decide +kernel
theorem dX2_canFill_39 : decode cX2_canFill 39 = .ok (.iconst 2, 1) := by decide +kernel
theorem dX2_canFill_40 : decode cX2_canFill 40 = .ok (.irem, 1) := by decide +kernel
theorem dX2_canFill_41 : decode cX2_canFill 41 = .ok (.ifCond .ne 7, 3) := by decide +kernel
theorem dX2_canFill_44 : decode cX2_canFill 44 = .ok (.iconst 1, 1) := by decide +kernel
theorem dX2_canFill_45 : decode cX2_canFill 45 = .ok (.goto 4, 3) := by decide +kernel
theorem dX2_canFill_48 : decode cX2_canFill 48 = .ok (.iconst 0, 1) := by decide +kernel
theorem dX2_canFill_49 : decode cX2_canFill 49 = .ok (.istore 6, 2) := by decide +kernel
theorem dX2_canFill_51 : decode cX2_canFill 51 = .ok (.aload_n 1, 1) := by decide +kernel
theorem dX2_canFill_52 : decode cX2_canFill 52 = .ok (.getfield 98, 3) := by decide +kernel
theorem dX2_canFill_55 : decode cX2_canFill 55 = .ok (.tableswitch 137 1 5 #[33, 84, 57, 105, 134], 33) := by decide +kernel
theorem dX2_canFill_88 : decode cX2_canFill 88 = .ok (.iload 4, 2) := by decide +kernel
theorem dX2_canFill_90 : decode cX2_canFill 90 = .ok (.ifCond .eq 20, 3) := by decide +kernel
theorem dX2_canFill_93 : decode cX2_canFill 93 = .ok (.iload 5, 2) := by decide +kernel
theorem dX2_canFill_95 : decode cX2_canFill 95 = .ok (.ifCond .eq 15, 3) := by decide +kernel
theorem dX2_canFill_98 : decode cX2_canFill 98 = .ok (.aload_n 0, 1) := by decide +kernel
theorem dX2_canFill_99 : decode cX2_canFill 99 = .ok (.aload_n 1, 1) := by decide +kernel
theorem dX2_canFill_100 : decode cX2_canFill 100 = .ok (.invokevirtual 101, 3) := by decide +kernel
theorem dX2_canFill_103 : decode cX2_canFill 103 = .ok (.ifCond .eq 7, 3) := by decide +kernel
theorem dX2_canFill_106 : decode cX2_canFill 106 = .ok (.iconst 1, 1) := by decide +kernel
theorem dX2_canFill_107 : decode cX2_canFill 107 = .ok (.goto 4, 3) := by decide +kernel
theorem dX2_canFill_110 : decode cX2_canFill 110 = .ok (.iconst 0, 1) := by decide +kernel
theorem dX2_canFill_111 : decode cX2_canFill 111 = .ok (.ireturn, 1) := by decide +kernel
theorem dX2_canFill_112 : decode cX2_canFill 112 = .ok (.iload_n 2, 1) := by decide +kernel
theorem dX2_canFill_113 : decode cX2_canFill 113 = .ok (.aload_n 1, 1) := by decide +kernel
theorem dX2_canFill_114 : decode cX2_canFill 114 = .ok (.getfield 86, 3) := by decide +kernel
theorem dX2_canFill_117 : decode cX2_canFill 117 = .ok (.if_icmp .ne 20, 3) := by decide +kernel
theorem dX2_canFill_120 : decode cX2_canFill 120 = .ok (.iload 5, 2) := by decide +kernel
theorem dX2_canFill_122 : decode cX2_canFill 122 = .ok (.ifCond .eq 15, 3) := by decide +kernel
theorem dX2_canFill_125 : decode cX2_canFill 125 = .ok (.aload_n 0, 1) := by decide +kernel
theorem dX2_canFill_126 : decode cX2_canFill 126 = .ok (.aload_n 1, 1) := by decide +kernel
theorem dX2_canFill_127 : decode cX2_canFill 127 = .ok (.invokevirtual 101, 3) := by decide +kernel
theorem dX2_canFill_130 : decode cX2_canFill 130 = .ok (.ifCond .eq 7, 3) := by decide +kernel
theorem dX2_canFill_133 : decode cX2_canFill 133 = .ok (.iconst 1, 1) := by decide +kernel
theorem dX2_canFill_134 : decode cX2_canFill 134 = .ok (.goto 4, 3) := by decide +kernel
theorem dX2_canFill_137 : decode cX2_canFill 137 = .ok (.iconst 0, 1) := by decide +kernel
theorem dX2_canFill_138 : decode cX2_canFill 138 = .ok (.ireturn, 1) := by decide +kernel
theorem dX2_canFill_139 : decode cX2_canFill 139 = .ok (.iload 4, 2) := by decide +kernel
theorem dX2_canFill_141 : decode cX2_canFill 141 = .ok (.ifCond .eq 17, 3) := by decide +kernel
theorem dX2_canFill_144 : decode cX2_canFill 144 = .ok (.iload 5, 2) := by decide +kernel
theorem dX2_canFill_146 : decode cX2_canFill 146 = .ok (.ifCond .eq 12, 3) := by decide +kernel
theorem dX2_canFill_149 : decode cX2_canFill 149 = .ok (.iload 6, 2) := by decide +kernel
theorem dX2_canFill_151 : decode cX2_canFill 151 = .ok (.ifCond .eq 7, 3) := by decide +kernel
theorem dX2_canFill_154 : decode cX2_canFill 154 = .ok (.iconst 1, 1) := by decide +kernel
theorem dX2_canFill_155 : decode cX2_canFill 155 = .ok (.goto 4, 3) := by decide +kernel
theorem dX2_canFill_158 : decode cX2_canFill 158 = .ok (.iconst 0, 1) := by decide +kernel
theorem dX2_canFill_159 : decode cX2_canFill 159 = .ok (.ireturn, 1) := by decide +kernel
theorem dX2_canFill_160 : decode cX2_canFill 160 = .ok (.iload 4, 2) := by decide +kernel
theorem dX2_canFill_162 : decode cX2_canFill 162 = .ok (.ifCond .eq 25, 3) := by decide +kernel
theorem dX2_canFill_165 : decode cX2_canFill 165 = .ok (.iload 5, 2) := by decide +kernel
theorem dX2_canFill_167 : decode cX2_canFill 167 = .ok (.ifCond .eq 8, 3) := by decide +kernel
theorem dX2_canFill_170 : decode cX2_canFill 170 = .ok (.iload 6, 2) := by decide +kernel
theorem dX2_canFill_172 : decode cX2_canFill 172 = .ok (.ifCond .ne 11, 3) := by decide +kernel
theorem dX2_canFill_175 : decode cX2_canFill 175 = .ok (.iload_n 3, 1) := by decide +kernel
theorem dX2_canFill_176 : decode cX2_canFill 176 = .ok (.aload_n 1, 1) := by decide +kernel
theorem dX2_canFill_177 : decode cX2_canFill 177 = .ok (.getfield 89, 3) := by decide +kernel
theorem dX2_canFill_180 : decode cX2_canFill 180 = .ok (.if_icmp .ne 7, 3) := by decide +kernel
theorem dX2_canFill_183 : decode cX2_canFill 183 = .ok (.iconst 1, 1) := by decide +kernel
theorem dX2_canFill_184 : decode cX2_canFill 184 = .ok (.goto 4, 3) := by decide +kernel
theorem dX2_canFill_187 : decode cX2_canFill 187 = .ok (.iconst 0, 1) := by decide +kernel
theorem dX2_canFill_188 : decode cX2_canFill 188 = .ok (.ireturn, 1) := by decide +kernel
theorem dX2_canFill_189 : decode cX2_canFill 189 = .ok (.iload 4, 2) := by decide +kernel
theorem dX2_canFill_191 : decode cX2_canFill 191 = .ok (.ireturn, 1) := by decide +kernel
theorem dX2_canFill_192 : decode cX2_canFill 192 = .ok (.iload 4, 2) := by decide +kernel
theorem dX2_canFill_194 : decode cX2_canFill 194 = .ok (.ifCond .eq 12, 3) := by decide +kernel
theorem dX2_canFill_197 : decode cX2_canFill 197 = .ok (.iload 5, 2) := by decide +kernel
theorem dX2_canFill_199 : decode cX2_canFill 199 = .ok (.ifCond .eq 7, 3) := by decide +kernel
theorem dX2_canFill_202 : decode cX2_canFill 202 = .ok (.iconst 1, 1) := by decide +kernel
theorem dX2_canFill_203 : decode cX2_canFill 203 = .ok (.goto 4, 3) := by decide +kernel
theorem dX2_canFill_206 : decode cX2_canFill 206 = .ok (.iconst 0, 1) := by decide +kernel
theorem dX2_canFill_207 : decode cX2_canFill 207 = .ok (.ireturn, 1) := by decide +kernel
theorem dX2_isOldEnough_0 : decode cX2_isOldEnough 0 = .ok (.aload_n 0, 1) := by decide +kernel
theorem dX2_isOldEnough_1 : decode cX2_isOldEnough 1 = .ok (.iconst 0, 1) := by decide +kernel
theorem dX2_isOldEnough_2 : decode cX2_isOldEnough 2 = .ok (.invokevirtual 105, 3) := by decide +kernel
theorem dX2_isOldEnough_5 : decode cX2_isOldEnough 5 = .ok (.astore_n 2, 1) := by decide +kernel
theorem dX2_isOldEnough_6 : decode cX2_isOldEnough 6 = .ok (.aload_n 1, 1) := by decide +kernel
theorem dX2_isOldEnough_7 : decode cX2_isOldEnough 7 = .ok (.getfield 109, 3) := by decide +kernel
theorem dX2_isOldEnough_10 : decode cX2_isOldEnough 10 = .ok (.aload_n 2, 1) := by decide +kernel
theorem dX2_isOldEnough_11 : decode cX2_isOldEnough 11 = .ok (.ifnonnull 7, 3) := by decide +kernel
theorem dX2_isOldEnough_14 : decode cX2_isOldEnough 14 = .ok (.iconst 3, 1) := by decide +kernel
theorem dX2_isOldEnough_15 : decode cX2_isOldEnough 15 = .ok (.goto 21, 3) := by decide +kernel
theorem dX2_isOldEnough_18 : decode cX2_isOldEnough 18 = .ok (.aload_n 2, 1) := by decide +kernel
theorem dX2_isOldEnough_19 : decode cX2_isOldEnough 19 = .ok (.aload_n 1, 1) := by decide +kernel
theorem dX2_isOldEnough_20 : decode cX2_isOldEnough 20 = .ok (.getfield 86, 3) := by decide +kernel
theorem dX2_isOldEnough_23 : decode cX2_isOldEnough 23 = .ok (.aload_n 1, 1) := by decide +kernel
theorem dX2_isOldEnough_24 : decode cX2_isOldEnough 24 = .ok (.getfield 112, 3) := by decide +kernel
theorem dX2_isOldEnough_27 : decode cX2_isOldEnough 27 = .ok (.iconst 0, 1) := by decide +kernel
theorem dX2_isOldEnough_28 : decode cX2_isOldEnough 28 = .ok (.invokevirtual 115, 3) := by decide +kernel
theorem dX2_isOldEnough_31 : decode cX2_isOldEnough 31 = .ok (.bipush 99, 2) := by decide +kernel
theorem dX2_isOldEnough_33 : decode cX2_isOldEnough 33 = .ok (.invokestatic 119, 3) := by decide +kernel
theorem dX2_isOldEnough_36 : decode cX2_isOldEnough 36 = .ok (.if_icmp .lt 7, 3) := by decide +kernel
theorem dX2_isOldEnough_39 : decode cX2_isOldEnough 39 = .ok (.iconst 1, 1) := by decide +kernel
theorem dX2_isOldEnough_40 : decode cX2_isOldEnough 40 = .ok (.goto 4, 3) := by decide +kernel
theorem dX2_isOldEnough_43 : decode cX2_isOldEnough 43 = .ok (.iconst 0, 1) := by decide +kernel
theorem dX2_isOldEnough_44 : decode cX2_isOldEnough 44 = .ok (.ireturn, 1) := by decide +kernel
theorem dX2_sinks_0 : decode cX2_sinks 0 = .ok (.aload_n 1, 1) := by decide +kernel
theorem dX2_sinks_1 : decode cX2_sinks 1 = .ok (.getfield 98, 3) := by decide +kernel
theorem dX2_sinks_4 : decode cX2_sinks 4 = .ok (.tableswitch 82 1 5 #[36, 47, 45, 61, 77], 36) := by decide +kernel
theorem dX2_sinks_40 : decode cX2_sinks 40 = .ok (.aload_n 0, 1) := by decide +kernel
theorem dX2_sinks_41 : decode cX2_sinks 41 = .ok (.aload_n 1, 1) := by decide +kernel
theorem dX2_sinks_42 : decode cX2_sinks 42 = .ok (.iload_n 2, 1) := by decide +kernel
theorem dX2_sinks_43 : decode cX2_sinks 43 = .ok (.invokevirtual 123, 3) := by decide +kernel
theorem dX2_sinks_46 : decode cX2_sinks 46 = .ok (.iconst 1, 1) := by decide +kernel
theorem dX2_sinks_47 : decode cX2_sinks 47 = .ok (.iadd, 1) := by decide +kernel
theorem dX2_sinks_48 : decode cX2_sinks 48 = .ok (.ireturn, 1) := by decide +kernel
theorem dX2_sinks_49 : decode cX2_sinks 49 = .ok (.iconst 0, 1) := by decide +kernel
theorem dX2_sinks_50 : decode cX2_sinks 50 = .ok (.ireturn, 1) := by decide +kernel
theorem dX2_sinks_51 : decode cX2_sinks 51 = .ok (.bipush 9, 2) := by decide +kernel
theorem dX2_sinks_53 : decode cX2_sinks 53 = .ok (.iconst 2, 1) := by decide +kernel
theorem dX2_sinks_54 : decode cX2_sinks 54 = .ok (.aload_n 0, 1) := by decide +kernel
theorem dX2_sinks_55 : decode cX2_sinks 55 = .ok (.aload_n 1, 1) := by decide +kernel
theorem dX2_sinks_56 : decode cX2_sinks 56 = .ok (.iload_n 2, 1) := by decide +kernel
theorem dX2_sinks_57 : decode cX2_sinks 57 = .ok (.invokevirtual 123, 3) := by decide +kernel
theorem dX2_sinks_60 : decode cX2_sinks 60 = .ok (.imul, 1) := by decide +kernel
theorem dX2_sinks_61 : decode cX2_sinks 61 = .ok (.invokestatic 127, 3) := by decide +kernel
theorem dX2_sinks_64 : decode cX2_sinks 64 = .ok (.ireturn, 1) := by decide +kernel
theorem dX2_sinks_65 : decode cX2_sinks 65 = .ok (.bipush 9, 2) := by decide +kernel
theorem dX2_sinks_67 : decode cX2_sinks 67 = .ok (.iconst 2, 1) := by decide +kernel
theorem dX2_sinks_68 : decode cX2_sinks 68 = .ok (.aload_n 0, 1) := by decide +kernel
theorem dX2_sinks_69 : decode cX2_sinks 69 = .ok (.aload_n 1, 1) := by decide +kernel
theorem dX2_sinks_70 : decode cX2_sinks 70 = .ok (.iload_n 2, 1) := by decide +kernel
theorem dX2_sinks_71 : decode cX2_sinks 71 = .ok (.invokevirtual 123, 3) := by decide +kernel
theorem dX2_sinks_74 : decode cX2_sinks 74 = .ok (.imul, 1) := by decide +kernel
theorem dX2_sinks_75 : decode cX2_sinks 75 = .ok (.invokestatic 127, 3) := by decide +kernel
theorem dX2_sinks_78 : decode cX2_sinks 78 = .ok (.iconst 2, 1) := by decide +kernel
theorem dX2_sinks_79 : decode cX2_sinks 79 = .ok (.idiv, 1) := by decide +kernel
theorem dX2_sinks_80 : decode cX2_sinks 80 = .ok (.ireturn, 1) := by decide +kernel
theorem dX2_sinks_81 : decode cX2_sinks 81 = .ok (.iload_n 2, 1) := by decide +kernel
theorem dX2_sinks_82 : decode cX2_sinks 82 = .ok (.bipush 9, 2) := by decide +kernel
theorem dX2_sinks_84 : decode cX2_sinks 84 = .ok (.idiv, 1) := by decide +kernel
theorem dX2_sinks_85 : decode cX2_sinks 85 = .ok (.ireturn, 1) := by decide +kernel
theorem dX2_sinks_86 : decode cX2_sinks 86 = .ok (.aload_n 0, 1) := by decide +kernel
theorem dX2_sinks_87 : decode cX2_sinks 87 = .ok (.aload_n 1, 1) := by decide +kernel
theorem dX2_sinks_88 : decode cX2_sinks 88 = .ok (.iload_n 2, 1) := by decide +kernel
theorem dX2_sinks_89 : decode cX2_sinks 89 = .ok (.invokevirtual 123, 3) := by decide +kernel
theorem dX2_sinks_92 : decode cX2_sinks 92 = .ok (.ireturn, 1) := by decide +kernel
theorem dX2_sinksPlain_0 : decode cX2_sinksPlain 0 = .ok (.aload_n 0, 1) := by decide +kernel
theorem dX2_sinksPlain_1 : decode cX2_sinksPlain 1 = .ok (.iconst 1, 1) := by decide +kernel
theorem dX2_sinksPlain_2 : decode cX2_sinksPlain 2 = .ok (.invokevirtual 105, 3) := by decide +kernel
theorem dX2_sinksPlain_5 : decode cX2_sinksPlain 5 = .ok (.astore_n 3, 1) := by decide +kernel
theorem dX2_sinksPlain_6 : decode cX2_sinksPlain 6 = .ok (.aload_n 3, 1) := by decide +kernel
theorem dX2_sinksPlain_7 : decode cX2_sinksPlain 7 = .ok (.ifnonnull 9, 3) := by decide +kernel
theorem dX2_sinksPlain_10 : decode cX2_sinksPlain 10 = .ok (.iload_n 2, 1) := by decide +kernel
theorem dX2_sinksPlain_11 : decode cX2_sinksPlain 11 = .ok (.iconst 5, 1) := by decide +kernel
theorem dX2_sinksPlain_12 : decode cX2_sinksPlain 12 = .ok (.idiv, 1) := by decide +kernel
theorem dX2_sinksPlain_13 : decode cX2_sinksPlain 13 = .ok (.goto 21, 3) := by decide +kernel
theorem dX2_sinksPlain_16 : decode cX2_sinksPlain 16 = .ok (.aload_n 3, 1) := by decide +kernel
theorem dX2_sinksPlain_17 : decode cX2_sinksPlain 17 = .ok (.iload_n 2, 1) := by decide +kernel
theorem dX2_sinksPlain_18 : decode cX2_sinksPlain 18 = .ok (.aload_n 1, 1) := by decide +kernel
theorem dX2_sinksPlain_19 : decode cX2_sinksPlain 19 = .ok (.getfield 86, 3) := by decide +kernel
theorem dX2_sinksPlain_22 : decode cX2_sinksPlain 22 = .ok (.aload_n 1, 1) := by decide +kernel
theorem dX2_sinksPlain_23 : decode cX2_sinksPlain 23 = .ok (.getfield 109, 3) := by decide +kernel
theorem dX2_sinksPlain_26 : decode cX2_sinksPlain 26 = .ok (.invokevirtual 115, 3) := by decide +kernel
theorem dX2_sinksPlain_29 : decode cX2_sinksPlain 29 = .ok (.bipush 9, 2) := by decide +kernel
theorem dX2_sinksPlain_31 : decode cX2_sinksPlain 31 = .ok (.invokestatic 119, 3) := by decide +kernel
theorem dX2_sinksPlain_34 : decode cX2_sinksPlain 34 = .ok (.ireturn, 1) := by decide +kernel
theorem dX2_passDay_0 : decode cX2_passDay 0 = .ok (.iconst 0, 1) := by decide +kernel
theorem dX2_passDay_1 : decode cX2_passDay 1 = .ok (.istore_n 1, 1) := by decide +kernel
theorem dX2_passDay_2 : decode cX2_passDay 2 = .ok (.iload_n 1, 1) := by decide +kernel
theorem dX2_passDay_3 : decode cX2_passDay 3 = .ok (.aload_n 0, 1) := by decide +kernel
theorem dX2_passDay_4 : decode cX2_passDay 4 = .ok (.getfield 17, 3) := by decide +kernel
theorem dX2_passDay_7 : decode cX2_passDay 7 = .ok (.if_icmp .ge 79, 3) := by decide +kernel
theorem dX2_passDay_10 : decode cX2_passDay 10 = .ok (.aload_n 0, 1) := by decide +kernel
theorem dX2_passDay_11 : decode cX2_passDay 11 = .ok (.getfield 11, 3) := by decide +kernel
theorem dX2_passDay_14 : decode cX2_passDay 14 = .ok (.iload_n 1, 1) := by decide +kernel
theorem dX2_passDay_15 : decode cX2_passDay 15 = .ok (.aaload, 1) := by decide +kernel
theorem dX2_passDay_16 : decode cX2_passDay 16 = .ok (.astore_n 2, 1) := by decide +kernel
theorem dX2_passDay_17 : decode cX2_passDay 17 = .ok (.aload_n 2, 1) := by decide +kernel
theorem dX2_passDay_18 : decode cX2_passDay 18 = .ok (.getfield 86, 3) := by decide +kernel
theorem dX2_passDay_21 : decode cX2_passDay 21 = .ok (.ifCond .le 59, 3) := by decide +kernel
theorem dX2_passDay_24 : decode cX2_passDay 24 = .ok (.aload_n 2, 1) := by decide +kernel
theorem dX2_passDay_25 : decode cX2_passDay 25 = .ok (.getfield 86, 3) := by decide +kernel
theorem dX2_passDay_28 : decode cX2_passDay 28 = .ok (.aload_n 0, 1) := by decide +kernel
theorem dX2_passDay_29 : decode cX2_passDay 29 = .ok (.aload_n 2, 1) := by decide +kernel
theorem dX2_passDay_30 : decode cX2_passDay 30 = .ok (.aload_n 0, 1) := by decide +kernel
theorem dX2_passDay_31 : decode cX2_passDay 31 = .ok (.invokevirtual 77, 3) := by decide +kernel
theorem dX2_passDay_34 : decode cX2_passDay 34 = .ok (.bipush 10, 2) := by decide +kernel
theorem dX2_passDay_36 : decode cX2_passDay 36 = .ok (.irem, 1) := by decide +kernel
theorem dX2_passDay_37 : decode cX2_passDay 37 = .ok (.invokevirtual 130, 3) := by decide +kernel
theorem dX2_passDay_40 : decode cX2_passDay 40 = .ok (.invokestatic 127, 3) := by decide +kernel
theorem dX2_passDay_43 : decode cX2_passDay 43 = .ok (.istore_n 3, 1) := by decide +kernel
theorem dX2_passDay_44 : decode cX2_passDay 44 = .ok (.aload_n 2, 1) := by decide +kernel
theorem dX2_passDay_45 : decode cX2_passDay 45 = .ok (.dup, 1) := by decide +kernel
theorem dX2_passDay_46 : decode cX2_passDay 46 = .ok (.getfield 86, 3) := by decide +kernel
theorem dX2_passDay_49 : decode cX2_passDay 49 = .ok (.iload_n 3, 1) := by decide +kernel
theorem dX2_passDay_50 : decode cX2_passDay 50 = .ok (.isub, 1) := by decide +kernel
theorem dX2_passDay_51 : decode cX2_passDay 51 = .ok (.putfield 86, 3) := by decide +kernel
theorem dX2_passDay_54 : decode cX2_passDay 54 = .ok (.aload_n 0, 1) := by decide +kernel
theorem dX2_passDay_55 : decode cX2_passDay 55 = .ok (.dup, 1) := by decide +kernel
theorem dX2_passDay_56 : decode cX2_passDay 56 = .ok (.getfield 55, 3) := by decide +kernel
theorem dX2_passDay_59 : decode cX2_passDay 59 = .ok (.iload_n 3, 1) := by decide +kernel
theorem dX2_passDay_60 : decode cX2_passDay 60 = .ok (.iadd, 1) := by decide +kernel
theorem dX2_passDay_61 : decode cX2_passDay 61 = .ok (.putfield 55, 3) := by decide +kernel
theorem dX2_passDay_64 : decode cX2_passDay 64 = .ok (.aload_n 2, 1) := by decide +kernel
theorem dX2_passDay_65 : decode cX2_passDay 65 = .ok (.sipush 999, 3) := by decide +kernel
theorem dX2_passDay_68 : decode cX2_passDay 68 = .ok (.aload_n 2, 1) := by decide +kernel
theorem dX2_passDay_69 : decode cX2_passDay 69 = .ok (.getfield 109, 3) := by decide +kernel
theorem dX2_passDay_72 : decode cX2_passDay 72 = .ok (.iconst 1, 1) := by decide +kernel
theorem dX2_passDay_73 : decode cX2_passDay 73 = .ok (.iadd, 1) := by decide +kernel
theorem dX2_passDay_74 : decode cX2_passDay 74 = .ok (.invokestatic 127, 3) := by decide +kernel
theorem dX2_passDay_77 : decode cX2_passDay 77 = .ok (.putfield 109, 3) := by decide +kernel
theorem dX2_passDay_80 : decode cX2_passDay 80 = .ok (.iinc 1 1, 3) := by decide +kernel
theorem dX2_passDay_83 : decode cX2_passDay 83 = .ok (.goto (-81), 3) := by decide +kernel
theorem dX2_passDay_86 : decode cX2_passDay 86 = .ok (.aload_n 0, 1) := by decide +kernel
theorem dX2_passDay_87 : decode cX2_passDay 87 = .ok (.dup, 1) := by decide +kernel
theorem dX2_passDay_88 : decode cX2_passDay 88 = .ok (.getfield 49, 3) := by decide +kernel
theorem dX2_passDay_91 : decode cX2_passDay 91 = .ok (.iconst 1, 1) := by decide +kernel
theorem dX2_passDay_92 : decode cX2_passDay 92 = .ok (.iadd, 1) := by decide +kernel
theorem dX2_passDay_93 : decode cX2_passDay 93 = .ok (.putfield 49, 3) := by decide +kernel
theorem dX2_passDay_96 : decode cX2_passDay 96 = .ok (.return_, 1) := by decide +kernel
theorem dX2_filledCount_0 : decode cX2_filledCount 0 = .ok (.iconst 0, 1) := by decide +kernel
theorem dX2_filledCount_1 : decode cX2_filledCount 1 = .ok (.istore_n 1, 1) := by decide +kernel
theorem dX2_filledCount_2 : decode cX2_filledCount 2 = .ok (.iconst 0, 1) := by decide +kernel
theorem dX2_filledCount_3 : decode cX2_filledCount 3 = .ok (.istore_n 2, 1) := by decide +kernel
theorem dX2_filledCount_4 : decode cX2_filledCount 4 = .ok (.iload_n 2, 1) := by decide +kernel
theorem dX2_filledCount_5 : decode cX2_filledCount 5 = .ok (.aload_n 0, 1) := by decide +kernel
theorem dX2_filledCount_6 : decode cX2_filledCount 6 = .ok (.getfield 17, 3) := by decide +kernel
theorem dX2_filledCount_9 : decode cX2_filledCount 9 = .ok (.if_icmp .ge 24, 3) := by decide +kernel
theorem dX2_filledCount_12 : decode cX2_filledCount 12 = .ok (.aload_n 0, 1) := by decide +kernel
theorem dX2_filledCount_13 : decode cX2_filledCount 13 = .ok (.getfield 11, 3) := by decide +kernel
theorem dX2_filledCount_16 : decode cX2_filledCount 16 = .ok (.iload_n 2, 1) := by decide +kernel
theorem dX2_filledCount_17 : decode cX2_filledCount 17 = .ok (.aaload, 1) := by decide +kernel
theorem dX2_filledCount_18 : decode cX2_filledCount 18 = .ok (.getfield 86, 3) := by decide +kernel
theorem dX2_filledCount_21 : decode cX2_filledCount 21 = .ok (.ifCond .ne 6, 3) := by decide +kernel
theorem dX2_filledCount_24 : decode cX2_filledCount 24 = .ok (.iinc 1 1, 3) := by decide +kernel
theorem dX2_filledCount_27 : decode cX2_filledCount 27 = .ok (.iinc 2 1, 3) := by decide +kernel
theorem dX2_filledCount_30 : decode cX2_filledCount 30 = .ok (.goto (-26), 3) := by decide +kernel
theorem dX2_filledCount_33 : decode cX2_filledCount 33 = .ok (.iload_n 1, 1) := by decide +kernel
theorem dX2_filledCount_34 : decode cX2_filledCount 34 = .ok (.ireturn, 1) := by decide +kernel
theorem dX2_depthSum_0 : decode cX2_depthSum 0 = .ok (.iconst 0, 1) := by decide +kernel
theorem dX2_depthSum_1 : decode cX2_depthSum 1 = .ok (.istore_n 1, 1) := by decide +kernel
theorem dX2_depthSum_2 : decode cX2_depthSum 2 = .ok (.iconst 0, 1) := by decide +kernel
theorem dX2_depthSum_3 : decode cX2_depthSum 3 = .ok (.istore_n 2, 1) := by decide +kernel
theorem dX2_depthSum_4 : decode cX2_depthSum 4 = .ok (.iload_n 2, 1) := by decide +kernel
theorem dX2_depthSum_5 : decode cX2_depthSum 5 = .ok (.aload_n 0, 1) := by decide +kernel
theorem dX2_depthSum_6 : decode cX2_depthSum 6 = .ok (.getfield 17, 3) := by decide +kernel
theorem dX2_depthSum_9 : decode cX2_depthSum 9 = .ok (.if_icmp .ge 21, 3) := by decide +kernel
theorem dX2_depthSum_12 : decode cX2_depthSum 12 = .ok (.iload_n 1, 1) := by decide +kernel
theorem dX2_depthSum_13 : decode cX2_depthSum 13 = .ok (.aload_n 0, 1) := by decide +kernel
theorem dX2_depthSum_14 : decode cX2_depthSum 14 = .ok (.getfield 11, 3) := by decide +kernel
theorem dX2_depthSum_17 : decode cX2_depthSum 17 = .ok (.iload_n 2, 1) := by decide +kernel
theorem dX2_depthSum_18 : decode cX2_depthSum 18 = .ok (.aaload, 1) := by decide +kernel
theorem dX2_depthSum_19 : decode cX2_depthSum 19 = .ok (.getfield 86, 3) := by decide +kernel
theorem dX2_depthSum_22 : decode cX2_depthSum 22 = .ok (.iadd, 1) := by decide +kernel
theorem dX2_depthSum_23 : decode cX2_depthSum 23 = .ok (.istore_n 1, 1) := by decide +kernel
theorem dX2_depthSum_24 : decode cX2_depthSum 24 = .ok (.iinc 2 1, 3) := by decide +kernel
theorem dX2_depthSum_27 : decode cX2_depthSum 27 = .ok (.goto (-23), 3) := by decide +kernel
theorem dX2_depthSum_30 : decode cX2_depthSum 30 = .ok (.iload_n 1, 1) := by decide +kernel
theorem dX2_depthSum_31 : decode cX2_depthSum 31 = .ok (.ireturn, 1) := by decide +kernel
theorem dX2_debtOf_0 : decode cX2_debtOf 0 = .ok (.iconst 0, 1) := by decide +kernel
theorem dX2_debtOf_1 : decode cX2_debtOf 1 = .ok (.istore_n 2, 1) := by decide +kernel
theorem dX2_debtOf_2 : decode cX2_debtOf 2 = .ok (.iconst 0, 1) := by decide +kernel
theorem dX2_debtOf_3 : decode cX2_debtOf 3 = .ok (.istore_n 3, 1) := by decide +kernel
theorem dX2_debtOf_4 : decode cX2_debtOf 4 = .ok (.iload_n 3, 1) := by decide +kernel
theorem dX2_debtOf_5 : decode cX2_debtOf 5 = .ok (.aload_n 0, 1) := by decide +kernel
theorem dX2_debtOf_6 : decode cX2_debtOf 6 = .ok (.getfield 17, 3) := by decide +kernel
theorem dX2_debtOf_9 : decode cX2_debtOf 9 = .ok (.if_icmp .ge 34, 3) := by decide +kernel
theorem dX2_debtOf_12 : decode cX2_debtOf 12 = .ok (.aload_n 0, 1) := by decide +kernel
theorem dX2_debtOf_13 : decode cX2_debtOf 13 = .ok (.getfield 11, 3) := by decide +kernel
theorem dX2_debtOf_16 : decode cX2_debtOf 16 = .ok (.iload_n 3, 1) := by decide +kernel
theorem dX2_debtOf_17 : decode cX2_debtOf 17 = .ok (.aaload, 1) := by decide +kernel
theorem dX2_debtOf_18 : decode cX2_debtOf 18 = .ok (.getfield 112, 3) := by decide +kernel
theorem dX2_debtOf_21 : decode cX2_debtOf 21 = .ok (.iload_n 1, 1) := by decide +kernel
theorem dX2_debtOf_22 : decode cX2_debtOf 22 = .ok (.if_icmp .ne 15, 3) := by decide +kernel
theorem dX2_debtOf_25 : decode cX2_debtOf 25 = .ok (.iload_n 2, 1) := by decide +kernel
theorem dX2_debtOf_26 : decode cX2_debtOf 26 = .ok (.aload_n 0, 1) := by decide +kernel
theorem dX2_debtOf_27 : decode cX2_debtOf 27 = .ok (.getfield 11, 3) := by decide +kernel
theorem dX2_debtOf_30 : decode cX2_debtOf 30 = .ok (.iload_n 3, 1) := by decide +kernel
theorem dX2_debtOf_31 : decode cX2_debtOf 31 = .ok (.aaload, 1) := by decide +kernel
theorem dX2_debtOf_32 : decode cX2_debtOf 32 = .ok (.getfield 86, 3) := by decide +kernel
theorem dX2_debtOf_35 : decode cX2_debtOf 35 = .ok (.iadd, 1) := by decide +kernel
theorem dX2_debtOf_36 : decode cX2_debtOf 36 = .ok (.istore_n 2, 1) := by decide +kernel
theorem dX2_debtOf_37 : decode cX2_debtOf 37 = .ok (.iinc 3 1, 3) := by decide +kernel
theorem dX2_debtOf_40 : decode cX2_debtOf 40 = .ok (.goto (-36), 3) := by decide +kernel
theorem dX2_debtOf_43 : decode cX2_debtOf 43 = .ok (.iload_n 2, 1) := by decide +kernel
theorem dX2_debtOf_44 : decode cX2_debtOf 44 = .ok (.ireturn, 1) := by decide +kernel
theorem dX2_fineOf_0 : decode cX2_fineOf 0 = .ok (.aload_n 0, 1) := by decide +kernel
theorem dX2_fineOf_1 : decode cX2_fineOf 1 = .ok (.iconst 2, 1) := by decide +kernel
theorem dX2_fineOf_2 : decode cX2_fineOf 2 = .ok (.invokevirtual 105, 3) := by decide +kernel
theorem dX2_fineOf_5 : decode cX2_fineOf 5 = .ok (.astore_n 2, 1) := by decide +kernel
theorem dX2_fineOf_6 : decode cX2_fineOf 6 = .ok (.aload_n 2, 1) := by decide +kernel
theorem dX2_fineOf_7 : decode cX2_fineOf 7 = .ok (.ifnonnull 11, 3) := by decide +kernel
theorem dX2_fineOf_10 : decode cX2_fineOf 10 = .ok (.aload_n 0, 1) := by decide +kernel
theorem dX2_fineOf_11 : decode cX2_fineOf 11 = .ok (.iload_n 1, 1) := by decide +kernel
theorem dX2_fineOf_12 : decode cX2_fineOf 12 = .ok (.invokevirtual 133, 3) := by decide +kernel
theorem dX2_fineOf_15 : decode cX2_fineOf 15 = .ok (.goto 17, 3) := by decide +kernel
theorem dX2_fineOf_18 : decode cX2_fineOf 18 = .ok (.aload_n 2, 1) := by decide +kernel
theorem dX2_fineOf_19 : decode cX2_fineOf 19 = .ok (.aload_n 0, 1) := by decide +kernel
theorem dX2_fineOf_20 : decode cX2_fineOf 20 = .ok (.iload_n 1, 1) := by decide +kernel
theorem dX2_fineOf_21 : decode cX2_fineOf 21 = .ok (.invokevirtual 133, 3) := by decide +kernel
theorem dX2_fineOf_24 : decode cX2_fineOf 24 = .ok (.aload_n 0, 1) := by decide +kernel
theorem dX2_fineOf_25 : decode cX2_fineOf 25 = .ok (.getfield 52, 3) := by decide +kernel
theorem dX2_fineOf_28 : decode cX2_fineOf 28 = .ok (.iconst 0, 1) := by decide +kernel
theorem dX2_fineOf_29 : decode cX2_fineOf 29 = .ok (.invokevirtual 115, 3) := by decide +kernel
theorem dX2_fineOf_32 : decode cX2_fineOf 32 = .ok (.ireturn, 1) := by decide +kernel
theorem dX2_findText_0 : decode cX2_findText 0 = .ok (.iload_n 1, 1) := by decide +kernel
theorem dX2_findText_1 : decode cX2_findText 1 = .ok (.ifCond .lt 20, 3) := by decide +kernel
theorem dX2_findText_4 : decode cX2_findText 4 = .ok (.iload_n 1, 1) := by decide +kernel
theorem dX2_findText_5 : decode cX2_findText 5 = .ok (.aload_n 0, 1) := by decide +kernel
theorem dX2_findText_6 : decode cX2_findText 6 = .ok (.getfield 37, 3) := by decide +kernel
theorem dX2_findText_9 : decode cX2_findText 9 = .ok (.if_icmp .ge 12, 3) := by decide +kernel
theorem dX2_findText_12 : decode cX2_findText 12 = .ok (.aload_n 0, 1) := by decide +kernel
theorem dX2_findText_13 : decode cX2_findText 13 = .ok (.getfield 33, 3) := by decide +kernel
theorem dX2_findText_16 : decode cX2_findText 16 = .ok (.iload_n 1, 1) := by decide +kernel
theorem dX2_findText_17 : decode cX2_findText 17 = .ok (.aaload, 1) := by decide +kernel
theorem dX2_findText_18 : decode cX2_findText 18 = .ok (.goto 4, 3) := by decide +kernel
theorem dX2_findText_21 : decode cX2_findText 21 = .ok (.aconst_null, 1) := by decide +kernel
theorem dX2_findText_22 : decode cX2_findText 22 = .ok (.areturn, 1) := by decide +kernel
theorem dX2_textFor_0 : decode cX2_textFor 0 = .ok (.aload_n 0, 1) := by decide +kernel
theorem dX2_textFor_1 : decode cX2_textFor 1 = .ok (.aload_n 0, 1) := by decide +kernel
theorem dX2_textFor_2 : decode cX2_textFor 2 = .ok (.getfield 40, 3) := by decide +kernel
theorem dX2_textFor_5 : decode cX2_textFor 5 = .ok (.iload_n 1, 1) := by decide +kernel
theorem dX2_textFor_6 : decode cX2_textFor 6 = .ok (.iaload, 1) := by decide +kernel
theorem dX2_textFor_7 : decode cX2_textFor 7 = .ok (.invokevirtual 136, 3) := by decide +kernel
theorem dX2_textFor_10 : decode cX2_textFor 10 = .ok (.areturn, 1) := by decide +kernel
theorem dX2_addText_0 : decode cX2_addText 0 = .ok (.aload_n 0, 1) := by decide +kernel
theorem dX2_addText_1 : decode cX2_addText 1 = .ok (.getfield 37, 3) := by decide +kernel
theorem dX2_addText_4 : decode cX2_addText 4 = .ok (.istore_n 2, 1) := by decide +kernel
theorem dX2_addText_5 : decode cX2_addText 5 = .ok (.iload_n 2, 1) := by decide +kernel
theorem dX2_addText_6 : decode cX2_addText 6 = .ok (.bipush 14, 2) := by decide +kernel
theorem dX2_addText_8 : decode cX2_addText 8 = .ok (.if_icmp .ge 18, 3) := by decide +kernel
theorem dX2_addText_11 : decode cX2_addText 11 = .ok (.aload_n 1, 1) := by decide +kernel
theorem dX2_addText_12 : decode cX2_addText 12 = .ok (.getfield 139, 3) := by decide +kernel
theorem dX2_addText_15 : decode cX2_addText 15 = .ok (.ifCond .lt 11, 3) := by decide +kernel
theorem dX2_addText_18 : decode cX2_addText 18 = .ok (.aload_n 1, 1) := by decide +kernel
theorem dX2_addText_19 : decode cX2_addText 19 = .ok (.getfield 139, 3) := by decide +kernel
theorem dX2_addText_22 : decode cX2_addText 22 = .ok (.iconst 3, 1) := by decide +kernel
theorem dX2_addText_23 : decode cX2_addText 23 = .ok (.if_icmp .lt 6, 3) := by decide +kernel
theorem dX2_addText_26 : decode cX2_addText 26 = .ok (.ldc 72, 2) := by decide +kernel
theorem dX2_addText_28 : decode cX2_addText 28 = .ok (.ireturn, 1) := by decide +kernel
theorem dX2_addText_29 : decode cX2_addText 29 = .ok (.aload_n 0, 1) := by decide +kernel
theorem dX2_addText_30 : decode cX2_addText 30 = .ok (.getfield 33, 3) := by decide +kernel
theorem dX2_addText_33 : decode cX2_addText 33 = .ok (.iload_n 2, 1) := by decide +kernel
theorem dX2_addText_34 : decode cX2_addText 34 = .ok (.aload_n 1, 1) := by decide +kernel
theorem dX2_addText_35 : decode cX2_addText 35 = .ok (.aastore, 1) := by decide +kernel
theorem dX2_addText_36 : decode cX2_addText 36 = .ok (.aload_n 0, 1) := by decide +kernel
theorem dX2_addText_37 : decode cX2_addText 37 = .ok (.getfield 40, 3) := by decide +kernel
theorem dX2_addText_40 : decode cX2_addText 40 = .ok (.aload_n 1, 1) := by decide +kernel
theorem dX2_addText_41 : decode cX2_addText 41 = .ok (.getfield 139, 3) := by decide +kernel
theorem dX2_addText_44 : decode cX2_addText 44 = .ok (.iload_n 2, 1) := by decide +kernel
theorem dX2_addText_45 : decode cX2_addText 45 = .ok (.iastore, 1) := by decide +kernel
theorem dX2_addText_46 : decode cX2_addText 46 = .ok (.aload_n 0, 1) := by decide +kernel
theorem dX2_addText_47 : decode cX2_addText 47 = .ok (.iload_n 2, 1) := by decide +kernel
theorem dX2_addText_48 : decode cX2_addText 48 = .ok (.iconst 1, 1) := by decide +kernel
theorem dX2_addText_49 : decode cX2_addText 49 = .ok (.iadd, 1) := by decide +kernel
theorem dX2_addText_50 : decode cX2_addText 50 = .ok (.putfield 37, 3) := by decide +kernel
theorem dX2_addText_53 : decode cX2_addText 53 = .ok (.iload_n 2, 1) := by decide +kernel
theorem dX2_addText_54 : decode cX2_addText 54 = .ok (.ireturn, 1) := by decide +kernel
theorem dX3_init_0 : decode cX3_init 0 = .ok (.aload_n 0, 1) := by decide +kernel
theorem dX3_init_1 : decode cX3_init 1 = .ok (.invokespecial 3, 3) := by decide +kernel
theorem dX3_init_4 : decode cX3_init 4 = .ok (.aload_n 0, 1) := by decide +kernel
theorem dX3_init_5 : decode cX3_init 5 = .ok (.iconst (-1), 1) := by decide +kernel
theorem dX3_init_6 : decode cX3_init 6 = .ok (.putfield 9, 3) := by decide +kernel
theorem dX3_init_9 : decode cX3_init 9 = .ok (.aload_n 0, 1) := by decide +kernel
theorem dX3_init_10 : decode cX3_init 10 = .ok (.iconst 0, 1) := by decide +kernel
theorem dX3_init_11 : decode cX3_init 11 = .ok (.putfield 15, 3) := by decide +kernel
theorem dX3_init_14 : decode cX3_init 14 = .ok (.aload_n 0, 1) := by decide +kernel
theorem dX3_init_15 : decode cX3_init 15 = .ok (.bipush 24, 2) := by decide +kernel
theorem dX3_init_17 : decode cX3_init 17 = .ok (.newarray .int, 2) := by decide +kernel
theorem dX3_init_19 : decode cX3_init 19 = .ok (.putfield 18, 3) := by decide +kernel
theorem dX3_init_22 : decode cX3_init 22 = .ok (.return_, 1) := by decide +kernel
theorem dX3_clear_0 : decode cX3_clear 0 = .ok (.aload_n 0, 1) := by decide +kernel
theorem dX3_clear_1 : decode cX3_clear 1 = .ok (.iload_n 1, 1) := by decide +kernel
theorem dX3_clear_2 : decode cX3_clear 2 = .ok (.putfield 9, 3) := by decide +kernel
theorem dX3_clear_5 : decode cX3_clear 5 = .ok (.aload_n 0, 1) := by decide +kernel
theorem dX3_clear_6 : decode cX3_clear 6 = .ok (.iload_n 2, 1) := by decide +kernel
theorem dX3_clear_7 : decode cX3_clear 7 = .ok (.putfield 15, 3) := by decide +kernel
theorem dX3_clear_10 : decode cX3_clear 10 = .ok (.aload_n 0, 1) := by decide +kernel
theorem dX3_clear_11 : decode cX3_clear 11 = .ok (.getfield 18, 3) := by decide +kernel
theorem dX3_clear_14 : decode cX3_clear 14 = .ok (.iconst 0, 1) := by decide +kernel
theorem dX3_clear_15 : decode cX3_clear 15 = .ok (.invokestatic 22, 3) := by decide +kernel
theorem dX3_clear_18 : decode cX3_clear 18 = .ok (.return_, 1) := by decide +kernel
theorem dX3_become_0 : decode cX3_become 0 = .ok (.aload_n 0, 1) := by decide +kernel
theorem dX3_become_1 : decode cX3_become 1 = .ok (.aload_n 1, 1) := by decide +kernel
theorem dX3_become_2 : decode cX3_become 2 = .ok (.getfield 9, 3) := by decide +kernel
theorem dX3_become_5 : decode cX3_become 5 = .ok (.putfield 9, 3) := by decide +kernel
theorem dX3_become_8 : decode cX3_become 8 = .ok (.aload_n 0, 1) := by decide +kernel
theorem dX3_become_9 : decode cX3_become 9 = .ok (.aload_n 1, 1) := by decide +kernel
theorem dX3_become_10 : decode cX3_become 10 = .ok (.getfield 15, 3) := by decide +kernel
theorem dX3_become_13 : decode cX3_become 13 = .ok (.putfield 15, 3) := by decide +kernel
theorem dX3_become_16 : decode cX3_become 16 = .ok (.aload_n 1, 1) := by decide +kernel
theorem dX3_become_17 : decode cX3_become 17 = .ok (.getfield 18, 3) := by decide +kernel
theorem dX3_become_20 : decode cX3_become 20 = .ok (.iconst 0, 1) := by decide +kernel
theorem dX3_become_21 : decode cX3_become 21 = .ok (.aload_n 0, 1) := by decide +kernel
theorem dX3_become_22 : decode cX3_become 22 = .ok (.getfield 18, 3) := by decide +kernel
theorem dX3_become_25 : decode cX3_become 25 = .ok (.iconst 0, 1) := by decide +kernel
theorem dX3_become_26 : decode cX3_become 26 = .ok (.bipush 24, 2) := by decide +kernel
theorem dX3_become_28 : decode cX3_become 28 = .ok (.invokestatic 28, 3) := by decide +kernel
theorem dX3_become_31 : decode cX3_become 31 = .ok (.return_, 1) := by decide +kernel
theorem dX3_has_0 : decode cX3_has 0 = .ok (.iload_n 1, 1) := by decide +kernel
theorem dX3_has_1 : decode cX3_has 1 = .ok (.ifCond .lt 15, 3) := by decide +kernel
theorem dX3_has_4 : decode cX3_has 4 = .ok (.iload_n 1, 1) := by decide +kernel
theorem dX3_has_5 : decode cX3_has 5 = .ok (.aload_n 0, 1) := by decide +kernel
theorem dX3_has_6 : decode cX3_has 6 = .ok (.getfield 15, 3) := by decide +kernel
theorem dX3_has_9 : decode cX3_has 9 = .ok (.if_icmp .ge 7, 3) := by decide +kernel
theorem dX3_has_12 : decode cX3_has 12 = .ok (.iconst 1, 1) := by decide +kernel
theorem dX3_has_13 : decode cX3_has 13 = .ok (.goto 4, 3) := by decide +kernel
theorem dX3_has_16 : decode cX3_has 16 = .ok (.iconst 0, 1) := by decide +kernel
theorem dX3_has_17 : decode cX3_has 17 = .ok (.ireturn, 1) := by decide +kernel
theorem dX3_hasAll_0 : decode cX3_hasAll 0 = .ok (.iload_n 1, 1) := by decide +kernel
theorem dX3_hasAll_1 : decode cX3_hasAll 1 = .ok (.ifCond .lt 29, 3) := by decide +kernel
theorem dX3_hasAll_4 : decode cX3_hasAll 4 = .ok (.iload_n 2, 1) := by decide +kernel
theorem dX3_hasAll_5 : decode cX3_hasAll 5 = .ok (.ifCond .lt 25, 3) := by decide +kernel
theorem dX3_hasAll_8 : decode cX3_hasAll 8 = .ok (.iload_n 1, 1) := by decide +kernel
theorem dX3_hasAll_9 : decode cX3_hasAll 9 = .ok (.aload_n 0, 1) := by decide +kernel
theorem dX3_hasAll_10 : decode cX3_hasAll 10 = .ok (.getfield 15, 3) := by decide +kernel
theorem dX3_hasAll_13 : decode cX3_hasAll 13 = .ok (.if_icmp .gt 17, 3) := by decide +kernel
theorem dX3_hasAll_16 : decode cX3_hasAll 16 = .ok (.iload_n 2, 1) := by decide +kernel
theorem dX3_hasAll_17 : decode cX3_hasAll 17 = .ok (.aload_n 0, 1) := by decide +kernel
theorem dX3_hasAll_18 : decode cX3_hasAll 18 = .ok (.getfield 15, 3) := by decide +kernel
theorem dX3_hasAll_21 : decode cX3_hasAll 21 = .ok (.iload_n 1, 1) := by decide +kernel
theorem dX3_hasAll_22 : decode cX3_hasAll 22 = .ok (.isub, 1) := by decide +kernel
theorem dX3_hasAll_23 : decode cX3_hasAll 23 = .ok (.if_icmp .gt 7, 3) := by decide +kernel
theorem dX3_hasAll_26 : decode cX3_hasAll 26 = .ok (.iconst 1, 1) := by decide +kernel
theorem dX3_hasAll_27 : decode cX3_hasAll 27 = .ok (.goto 4, 3) := by decide +kernel
theorem dX3_hasAll_30 : decode cX3_hasAll 30 = .ok (.iconst 0, 1) := by decide +kernel
theorem dX3_hasAll_31 : decode cX3_hasAll 31 = .ok (.ireturn, 1) := by decide +kernel
theorem dX3_isNumber_0 : decode cX3_isNumber 0 = .ok (.aload_n 0, 1) := by decide +kernel
theorem dX3_isNumber_1 : decode cX3_isNumber 1 = .ok (.iload_n 1, 1) := by decide +kernel
theorem dX3_isNumber_2 : decode cX3_isNumber 2 = .ok (.invokevirtual 34, 3) := by decide +kernel
theorem dX3_isNumber_5 : decode cX3_isNumber 5 = .ok (.ifCond .eq 18, 3) := by decide +kernel
theorem dX3_isNumber_8 : decode cX3_isNumber 8 = .ok (.aload_n 0, 1) := by decide +kernel
theorem dX3_isNumber_9 : decode cX3_isNumber 9 = .ok (.getfield 18, 3) := by decide +kernel
theorem dX3_isNumber_12 : decode cX3_isNumber 12 = .ok (.iload_n 1, 1) := by decide +kernel
theorem dX3_isNumber_13 : decode cX3_isNumber 13 = .ok (.iaload, 1) := by decide +kernel
theorem dX3_isNumber_14 : decode cX3_isNumber 14 = .ok (.ldc 38, 2) := by decide +kernel
theorem dX3_isNumber_16 : decode cX3_isNumber 16 = .ok (.if_icmp .eq 7, 3) := by decide +kernel
theorem dX3_isNumber_19 : decode cX3_isNumber 19 = .ok (.iconst 1, 1) := by decide +kernel
theorem dX3_isNumber_20 : decode cX3_isNumber 20 = .ok (.goto 4, 3) := by decide +kernel
theorem dX3_isNumber_23 : decode cX3_isNumber 23 = .ok (.iconst 0, 1) := by decide +kernel
theorem dX3_isNumber_24 : decode cX3_isNumber 24 = .ok (.ireturn, 1) := by decide +kernel
theorem dX4_init_0 : decode cX4_init 0 = .ok (.aload_n 0, 1) := by decide +kernel
theorem dX4_init_1 : decode cX4_init 1 = .ok (.invokespecial 3, 3) := by decide +kernel
theorem dX4_init_4 : decode cX4_init 4 = .ok (.aload_n 0, 1) := by decide +kernel
theorem dX4_init_5 : decode cX4_init 5 = .ok (.iconst 0, 1) := by decide +kernel
theorem dX4_init_6 : decode cX4_init 6 = .ok (.putfield 9, 3) := by decide +kernel
theorem dX4_init_9 : decode cX4_init 9 = .ok (.aload_n 0, 1) := by decide +kernel
theorem dX4_init_10 : decode cX4_init 10 = .ok (.iconst 0, 1) := by decide +kernel
theorem dX4_init_11 : decode cX4_init 11 = .ok (.putfield 15, 3) := by decide +kernel
theorem dX4_init_14 : decode cX4_init 14 = .ok (.aload_n 0, 1) := by decide +kernel
theorem dX4_init_15 : decode cX4_init 15 = .ok (.new 18, 3) := by decide +kernel
theorem dX4_init_18 : decode cX4_init 18 = .ok (.dup, 1) := by decide +kernel
theorem dX4_init_19 : decode cX4_init 19 = .ok (.invokespecial 20, 3) := by decide +kernel
theorem dX4_init_22 : decode cX4_init 22 = .ok (.putfield 21, 3) := by decide +kernel
theorem dX4_init_25 : decode cX4_init 25 = .ok (.aload_n 0, 1) := by decide +kernel
theorem dX4_init_26 : decode cX4_init 26 = .ok (.new 25, 3) := by decide +kernel
theorem dX4_init_29 : decode cX4_init 29 = .ok (.dup, 1) := by decide +kernel
theorem dX4_init_30 : decode cX4_init 30 = .ok (.invokespecial 27, 3) := by decide +kernel
theorem dX4_init_33 : decode cX4_init 33 = .ok (.putfield 28, 3) := by decide +kernel
theorem dX4_init_36 : decode cX4_init 36 = .ok (.return_, 1) := by decide +kernel
theorem dX5_init_0 : decode cX5_init 0 = .ok (.aload_n 0, 1) := by decide +kernel
theorem dX5_init_1 : decode cX5_init 1 = .ok (.invokespecial 3, 3) := by decide +kernel
theorem dX5_init_4 : decode cX5_init 4 = .ok (.aload_n 0, 1) := by decide +kernel
theorem dX5_init_5 : decode cX5_init 5 = .ok (.bipush 96, 2) := by decide +kernel
theorem dX5_init_7 : decode cX5_init 7 = .ok (.newarray .int, 2) := by decide +kernel
theorem dX5_init_9 : decode cX5_init 9 = .ok (.putfield 9, 3) := by decide +kernel
theorem dX5_init_12 : decode cX5_init 12 = .ok (.aload_n 0, 1) := by decide +kernel
theorem dX5_init_13 : decode cX5_init 13 = .ok (.iconst 0, 1) := by decide +kernel
theorem dX5_init_14 : decode cX5_init 14 = .ok (.putfield 15, 3) := by decide +kernel
theorem dX5_init_17 : decode cX5_init 17 = .ok (.aload_n 0, 1) := by decide +kernel
theorem dX5_init_18 : decode cX5_init 18 = .ok (.iconst 0, 1) := by decide +kernel
theorem dX5_init_19 : decode cX5_init 19 = .ok (.putfield 19, 3) := by decide +kernel
theorem dX5_init_22 : decode cX5_init 22 = .ok (.aload_n 0, 1) := by decide +kernel
theorem dX5_init_23 : decode cX5_init 23 = .ok (.iconst 0, 1) := by decide +kernel
theorem dX5_init_24 : decode cX5_init 24 = .ok (.putfield 22, 3) := by decide +kernel
theorem dX5_init_27 : decode cX5_init 27 = .ok (.aload_n 0, 1) := by decide +kernel
theorem dX5_init_28 : decode cX5_init 28 = .ok (.iconst (-1), 1) := by decide +kernel
theorem dX5_init_29 : decode cX5_init 29 = .ok (.putfield 25, 3) := by decide +kernel
theorem dX5_init_32 : decode cX5_init 32 = .ok (.aload_n 0, 1) := by decide +kernel
theorem dX5_init_33 : decode cX5_init 33 = .ok (.iconst 0, 1) := by decide +kernel
theorem dX5_init_34 : decode cX5_init 34 = .ok (.putfield 28, 3) := by decide +kernel
theorem dX5_init_37 : decode cX5_init 37 = .ok (.aload_n 0, 1) := by decide +kernel
theorem dX5_init_38 : decode cX5_init 38 = .ok (.iconst 0, 1) := by decide +kernel
theorem dX5_init_39 : decode cX5_init 39 = .ok (.putfield 31, 3) := by decide +kernel
theorem dX5_init_42 : decode cX5_init 42 = .ok (.aload_n 0, 1) := by decide +kernel
theorem dX5_init_43 : decode cX5_init 43 = .ok (.iconst 0, 1) := by decide +kernel
theorem dX5_init_44 : decode cX5_init 44 = .ok (.putfield 34, 3) := by decide +kernel
theorem dX5_init_47 : decode cX5_init 47 = .ok (.aload_n 0, 1) := by decide +kernel
theorem dX5_init_48 : decode cX5_init 48 = .ok (.iconst 0, 1) := by decide +kernel
theorem dX5_init_49 : decode cX5_init 49 = .ok (.putfield 37, 3) := by decide +kernel
theorem dX5_init_52 : decode cX5_init 52 = .ok (.aload_n 0, 1) := by decide +kernel
theorem dX5_init_53 : decode cX5_init 53 = .ok (.bipush 96, 2) := by decide +kernel
theorem dX5_init_55 : decode cX5_init 55 = .ok (.newarray .int, 2) := by decide +kernel
theorem dX5_init_57 : decode cX5_init 57 = .ok (.putfield 40, 3) := by decide +kernel
theorem dX5_init_60 : decode cX5_init 60 = .ok (.aload_n 0, 1) := by decide +kernel
theorem dX5_init_61 : decode cX5_init 61 = .ok (.iconst 0, 1) := by decide +kernel
theorem dX5_init_62 : decode cX5_init 62 = .ok (.putfield 43, 3) := by decide +kernel
theorem dX5_init_65 : decode cX5_init 65 = .ok (.return_, 1) := by decide +kernel
theorem dX5_putBytes_0 : decode cX5_putBytes 0 = .ok (.bipush 24, 2) := by decide +kernel
theorem dX5_putBytes_2 : decode cX5_putBytes 2 = .ok (.istore_n 2, 1) := by decide +kernel
theorem dX5_putBytes_3 : decode cX5_putBytes 3 = .ok (.iload_n 2, 1) := by decide +kernel
theorem dX5_putBytes_4 : decode cX5_putBytes 4 = .ok (.ifCond .lt 44, 3) := by decide +kernel
theorem dX5_putBytes_7 : decode cX5_putBytes 7 = .ok (.aload_n 0, 1) := by decide +kernel
theorem dX5_putBytes_8 : decode cX5_putBytes 8 = .ok (.getfield 15, 3) := by decide +kernel
theorem dX5_putBytes_11 : decode cX5_putBytes 11 = .ok (.bipush 96, 2) := by decide +kernel
theorem dX5_putBytes_13 : decode cX5_putBytes 13 = .ok (.if_icmp .ge 35, 3) := by decide +kernel
theorem dX5_putBytes_16 : decode cX5_putBytes 16 = .ok (.aload_n 0, 1) := by decide +kernel
theorem dX5_putBytes_17 : decode cX5_putBytes 17 = .ok (.getfield 9, 3) := by decide +kernel
theorem dX5_putBytes_20 : decode cX5_putBytes 20 = .ok (.aload_n 0, 1) := by decide +kernel
theorem dX5_putBytes_21 : decode cX5_putBytes 21 = .ok (.getfield 15, 3) := by decide +kernel
theorem dX5_putBytes_24 : decode cX5_putBytes 24 = .ok (.iload_n 1, 1) := by decide +kernel
theorem dX5_putBytes_25 : decode cX5_putBytes 25 = .ok (.iload_n 2, 1) := by decide +kernel
theorem dX5_putBytes_26 : decode cX5_putBytes 26 = .ok (.iushr, 1) := by decide +kernel
theorem dX5_putBytes_27 : decode cX5_putBytes 27 = .ok (.sipush 255, 3) := by decide +kernel
theorem dX5_putBytes_30 : decode cX5_putBytes 30 = .ok (.iand, 1) := by decide +kernel
theorem dX5_putBytes_31 : decode cX5_putBytes 31 = .ok (.iastore, 1) := by decide +kernel
theorem dX5_putBytes_32 : decode cX5_putBytes 32 = .ok (.aload_n 0, 1) := by decide +kernel
theorem dX5_putBytes_33 : decode cX5_putBytes 33 = .ok (.dup, 1) := by decide +kernel
theorem dX5_putBytes_34 : decode cX5_putBytes 34 = .ok (.getfield 15, 3) := by decide +kernel
theorem dX5_putBytes_37 : decode cX5_putBytes 37 = .ok (.iconst 1, 1) := by decide +kernel
theorem dX5_putBytes_38 : decode cX5_putBytes 38 = .ok (.iadd, 1) := by decide +kernel
theorem dX5_putBytes_39 : decode cX5_putBytes 39 = .ok (.putfield 15, 3) := by decide +kernel
theorem dX5_putBytes_42 : decode cX5_putBytes 42 = .ok (.iinc 2 (-8), 3) := by decide +kernel
theorem dX5_putBytes_45 : decode cX5_putBytes 45 = .ok (.goto (-42), 3) := by decide +kernel
theorem dX5_putBytes_48 : decode cX5_putBytes 48 = .ok (.return_, 1) := by decide +kernel
theorem dX5_read_0 : decode cX5_read 0 = .ok (.aload_n 0, 1) := by decide +kernel
theorem dX5_read_1 : decode cX5_read 1 = .ok (.iconst 0, 1) := by decide +kernel
theorem dX5_read_2 : decode cX5_read 2 = .ok (.putfield 22, 3) := by decide +kernel
theorem dX5_read_5 : decode cX5_read 5 = .ok (.aload_n 0, 1) := by decide +kernel
theorem dX5_read_6 : decode cX5_read 6 = .ok (.iconst (-1), 1) := by decide +kernel
theorem dX5_read_7 : decode cX5_read 7 = .ok (.putfield 25, 3) := by decide +kernel
theorem dX5_read_10 : decode cX5_read 10 = .ok (.aload_n 0, 1) := by decide +kernel
theorem dX5_read_11 : decode cX5_read 11 = .ok (.iconst 0, 1) := by decide +kernel
theorem dX5_read_12 : decode cX5_read 12 = .ok (.putfield 31, 3) := by decide +kernel
theorem dX5_read_15 : decode cX5_read 15 = .ok (.aload_n 0, 1) := by decide +kernel
theorem dX5_read_16 : decode cX5_read 16 = .ok (.iconst 0, 1) := by decide +kernel
theorem dX5_read_17 : decode cX5_read 17 = .ok (.putfield 34, 3) := by decide +kernel
theorem dX5_read_20 : decode cX5_read 20 = .ok (.aload_n 0, 1) := by decide +kernel
theorem dX5_read_21 : decode cX5_read 21 = .ok (.iconst 0, 1) := by decide +kernel
theorem dX5_read_22 : decode cX5_read 22 = .ok (.putfield 37, 3) := by decide +kernel
theorem dX5_read_25 : decode cX5_read 25 = .ok (.aload_n 0, 1) := by decide +kernel
theorem dX5_read_26 : decode cX5_read 26 = .ok (.iconst 0, 1) := by decide +kernel
theorem dX5_read_27 : decode cX5_read 27 = .ok (.putfield 43, 3) := by decide +kernel
theorem dX5_read_30 : decode cX5_read 30 = .ok (.aload_n 0, 1) := by decide +kernel
theorem dX5_read_31 : decode cX5_read 31 = .ok (.invokevirtual 46, 3) := by decide +kernel
theorem dX5_read_34 : decode cX5_read 34 = .ok (.aload_n 0, 1) := by decide +kernel
theorem dX5_read_35 : decode cX5_read 35 = .ok (.aload_n 0, 1) := by decide +kernel
theorem dX5_read_36 : decode cX5_read 36 = .ok (.invokevirtual 49, 3) := by decide +kernel
theorem dX5_read_39 : decode cX5_read 39 = .ok (.putfield 28, 3) := by decide +kernel
theorem dX5_read_42 : decode cX5_read 42 = .ok (.aload_n 0, 1) := by decide +kernel
theorem dX5_read_43 : decode cX5_read 43 = .ok (.getfield 28, 3) := by decide +kernel
theorem dX5_read_46 : decode cX5_read 46 = .ok (.ifCond .ge 5, 3) := by decide +kernel
theorem dX5_read_49 : decode cX5_read 49 = .ok (.aconst_null, 1) := by decide +kernel
theorem dX5_read_50 : decode cX5_read 50 = .ok (.areturn, 1) := by decide +kernel
theorem dX5_read_51 : decode cX5_read 51 = .ok (.aload_n 0, 1) := by decide +kernel
theorem dX5_read_52 : decode cX5_read 52 = .ok (.invokevirtual 46, 3) := by decide +kernel
theorem dX5_read_55 : decode cX5_read 55 = .ok (.aload_n 0, 1) := by decide +kernel
theorem dX5_read_56 : decode cX5_read 56 = .ok (.iconst 0, 1) := by decide +kernel
theorem dX5_read_57 : decode cX5_read 57 = .ok (.invokevirtual 53, 3) := by decide +kernel
theorem dX5_read_60 : decode cX5_read 60 = .ok (.ifCond .eq 11, 3) := by decide +kernel
theorem dX5_read_63 : decode cX5_read 63 = .ok (.aload_n 0, 1) := by decide +kernel
theorem dX5_read_64 : decode cX5_read 64 = .ok (.getfield 25, 3) := by decide +kernel
theorem dX5_read_67 : decode cX5_read 67 = .ok (.iconst (-1), 1) := by decide +kernel
theorem dX5_read_68 : decode cX5_read 68 = .ok (.if_icmp .eq 5, 3) := by decide +kernel
theorem dX5_read_71 : decode cX5_read 71 = .ok (.aconst_null, 1) := by decide +kernel
theorem dX5_read_72 : decode cX5_read 72 = .ok (.areturn, 1) := by decide +kernel
theorem dX5_read_73 : decode cX5_read 73 = .ok (.new 57, 3) := by decide +kernel
theorem dX5_read_76 : decode cX5_read 76 = .ok (.dup, 1) := by decide +kernel
theorem dX5_read_77 : decode cX5_read 77 = .ok (.aload_n 0, 1) := by decide +kernel
theorem dX5_read_78 : decode cX5_read 78 = .ok (.getfield 28, 3) := by decide +kernel
theorem dX5_read_81 : decode cX5_read 81 = .ok (.aload_n 0, 1) := by decide +kernel
theorem dX5_read_82 : decode cX5_read 82 = .ok (.getfield 31, 3) := by decide +kernel
theorem dX5_read_85 : decode cX5_read 85 = .ok (.aload_n 0, 1) := by decide +kernel
theorem dX5_read_86 : decode cX5_read 86 = .ok (.getfield 40, 3) := by decide +kernel
theorem dX5_read_89 : decode cX5_read 89 = .ok (.aload_n 0, 1) := by decide +kernel
theorem dX5_read_90 : decode cX5_read 90 = .ok (.getfield 43, 3) := by decide +kernel
theorem dX5_read_93 : decode cX5_read 93 = .ok (.invokestatic 59, 3) := by decide +kernel
theorem dX5_read_96 : decode cX5_read 96 = .ok (.invokespecial 65, 3) := by decide +kernel
theorem dX5_read_99 : decode cX5_read 99 = .ok (.areturn, 1) := by decide +kernel
theorem dX5_step_0 : decode cX5_step 0 = .ok (.aload_n 0, 1) := by decide +kernel
theorem dX5_step_1 : decode cX5_step 1 = .ok (.getfield 25, 3) := by decide +kernel
theorem dX5_step_4 : decode cX5_step 4 = .ok (.sipush 256, 3) := by decide +kernel
theorem dX5_step_7 : decode cX5_step 7 = .ok (.if_icmp .eq 13, 3) := by decide +kernel
theorem dX5_step_10 : decode cX5_step 10 = .ok (.aload_n 0, 1) := by decide +kernel
theorem dX5_step_11 : decode cX5_step 11 = .ok (.getfield 25, 3) := by decide +kernel
theorem dX5_step_14 : decode cX5_step 14 = .ok (.sipush 257, 3) := by decide +kernel
theorem dX5_step_17 : decode cX5_step 17 = .ok (.if_icmp .ne 7, 3) := by decide +kernel
theorem dX5_step_20 : decode cX5_step 20 = .ok (.iconst 1, 1) := by decide +kernel
theorem dX5_step_21 : decode cX5_step 21 = .ok (.goto 4, 3) := by decide +kernel
theorem dX5_step_24 : decode cX5_step 24 = .ok (.iconst 0, 1) := by decide +kernel
theorem dX5_step_25 : decode cX5_step 25 = .ok (.istore_n 1, 1) := by decide +kernel
theorem dX5_step_26 : decode cX5_step 26 = .ok (.aload_n 0, 1) := by decide +kernel
theorem dX5_step_27 : decode cX5_step 27 = .ok (.getfield 22, 3) := by decide +kernel
theorem dX5_step_30 : decode cX5_step 30 = .ok (.istore_n 2, 1) := by decide +kernel
theorem dX5_step_31 : decode cX5_step 31 = .ok (.aload_n 0, 1) := by decide +kernel
theorem dX5_step_32 : decode cX5_step 32 = .ok (.aload_n 0, 1) := by decide +kernel
theorem dX5_step_33 : decode cX5_step 33 = .ok (.getfield 22, 3) := by decide +kernel
theorem dX5_step_36 : decode cX5_step 36 = .ok (.putfield 19, 3) := by decide +kernel
theorem dX5_step_39 : decode cX5_step 39 = .ok (.aload_n 0, 1) := by decide +kernel
theorem dX5_step_40 : decode cX5_step 40 = .ok (.getfield 19, 3) := by decide +kernel
theorem dX5_step_43 : decode cX5_step 43 = .ok (.aload_n 0, 1) := by decide +kernel
theorem dX5_step_44 : decode cX5_step 44 = .ok (.getfield 15, 3) := by decide +kernel
theorem dX5_step_47 : decode cX5_step 47 = .ok (.if_icmp .ge 30, 3) := by decide +kernel
theorem dX5_step_50 : decode cX5_step 50 = .ok (.aload_n 0, 1) := by decide +kernel
theorem dX5_step_51 : decode cX5_step 51 = .ok (.getfield 9, 3) := by decide +kernel
theorem dX5_step_54 : decode cX5_step 54 = .ok (.aload_n 0, 1) := by decide +kernel
theorem dX5_step_55 : decode cX5_step 55 = .ok (.getfield 19, 3) := by decide +kernel
theorem dX5_step_58 : decode cX5_step 58 = .ok (.iaload, 1) := by decide +kernel
theorem dX5_step_59 : decode cX5_step 59 = .ok (.bipush 32, 2) := by decide +kernel
theorem dX5_step_61 : decode cX5_step 61 = .ok (.if_icmp .ne 16, 3) := by decide +kernel
theorem dX5_step_64 : decode cX5_step 64 = .ok (.aload_n 0, 1) := by decide +kernel
theorem dX5_step_65 : decode cX5_step 65 = .ok (.dup, 1) := by decide +kernel
theorem dX5_step_66 : decode cX5_step 66 = .ok (.getfield 19, 3) := by decide +kernel
theorem dX5_step_69 : decode cX5_step 69 = .ok (.iconst 1, 1) := by decide +kernel
theorem dX5_step_70 : decode cX5_step 70 = .ok (.iadd, 1) := by decide +kernel
theorem dX5_step_71 : decode cX5_step 71 = .ok (.putfield 19, 3) := by decide +kernel
theorem dX5_step_74 : decode cX5_step 74 = .ok (.goto (-35), 3) := by decide +kernel
theorem dX5_step_77 : decode cX5_step 77 = .ok (.aload_n 0, 1) := by decide +kernel
theorem dX5_step_78 : decode cX5_step 78 = .ok (.aload_n 0, 1) := by decide +kernel
theorem dX5_step_79 : decode cX5_step 79 = .ok (.getfield 19, 3) := by decide +kernel
theorem dX5_step_82 : decode cX5_step 82 = .ok (.putfield 22, 3) := by decide +kernel
theorem dX5_step_85 : decode cX5_step 85 = .ok (.aload_n 0, 1) := by decide +kernel
theorem dX5_step_86 : decode cX5_step 86 = .ok (.getfield 19, 3) := by decide +kernel
theorem dX5_step_89 : decode cX5_step 89 = .ok (.aload_n 0, 1) := by decide +kernel
theorem dX5_step_90 : decode cX5_step 90 = .ok (.getfield 15, 3) := by decide +kernel
theorem dX5_step_93 : decode cX5_step 93 = .ok (.if_icmp .lt 9, 3) := by decide +kernel
theorem dX5_step_96 : decode cX5_step 96 = .ok (.aload_n 0, 1) := by decide +kernel
theorem dX5_step_97 : decode cX5_step 97 = .ok (.iconst (-1), 1) := by decide +kernel
theorem dX5_step_98 : decode cX5_step 98 = .ok (.putfield 25, 3) := by decide +kernel
theorem dX5_step_101 : decode cX5_step 101 = .ok (.return_, 1) := by decide +kernel
theorem dX5_step_102 : decode cX5_step 102 = .ok (.aload_n 0, 1) := by decide +kernel
theorem dX5_step_103 : decode cX5_step 103 = .ok (.aload_n 0, 1) := by decide +kernel
theorem dX5_step_104 : decode cX5_step 104 = .ok (.getfield 9, 3) := by decide +kernel
theorem dX5_step_107 : decode cX5_step 107 = .ok (.aload_n 0, 1) := by decide +kernel
theorem dX5_step_108 : decode cX5_step 108 = .ok (.getfield 19, 3) := by decide +kernel
theorem dX5_step_111 : decode cX5_step 111 = .ok (.iaload, 1) := by decide +kernel
theorem dX5_step_112 : decode cX5_step 112 = .ok (.invokestatic 68, 3) := by decide +kernel
theorem dX5_step_115 : decode cX5_step 115 = .ok (.putfield 25, 3) := by decide +kernel
theorem dX5_step_118 : decode cX5_step 118 = .ok (.aload_n 0, 1) := by decide +kernel
theorem dX5_step_119 : decode cX5_step 119 = .ok (.aload_n 0, 1) := by decide +kernel
theorem dX5_step_120 : decode cX5_step 120 = .ok (.getfield 19, 3) := by decide +kernel
theorem dX5_step_123 : decode cX5_step 123 = .ok (.iconst 1, 1) := by decide +kernel
theorem dX5_step_124 : decode cX5_step 124 = .ok (.iadd, 1) := by decide +kernel
theorem dX5_step_125 : decode cX5_step 125 = .ok (.putfield 22, 3) := by decide +kernel
theorem dX5_step_128 : decode cX5_step 128 = .ok (.aload_n 0, 1) := by decide +kernel
theorem dX5_step_129 : decode cX5_step 129 = .ok (.getfield 25, 3) := by decide +kernel
theorem dX5_step_132 : decode cX5_step 132 = .ok (.sipush 256, 3) := by decide +kernel
theorem dX5_step_135 : decode cX5_step 135 = .ok (.if_icmp .eq 14, 3) := by decide +kernel
theorem dX5_step_138 : decode cX5_step 138 = .ok (.aload_n 0, 1) := by decide +kernel
theorem dX5_step_139 : decode cX5_step 139 = .ok (.getfield 25, 3) := by decide +kernel
theorem dX5_step_142 : decode cX5_step 142 = .ok (.sipush 257, 3) := by decide +kernel
theorem dX5_step_145 : decode cX5_step 145 = .ok (.if_icmp .eq 4, 3) := by decide +kernel
theorem dX5_step_148 : decode cX5_step 148 = .ok (.return_, 1) := by decide +kernel
theorem dX5_step_149 : decode cX5_step 149 = .ok (.aload_n 0, 1) := by decide +kernel
theorem dX5_step_150 : decode cX5_step 150 = .ok (.getfield 22, 3) := by decide +kernel
theorem dX5_step_153 : decode cX5_step 153 = .ok (.aload_n 0, 1) := by decide +kernel
theorem dX5_step_154 : decode cX5_step 154 = .ok (.getfield 15, 3) := by decide +kernel
theorem dX5_step_157 : decode cX5_step 157 = .ok (.if_icmp .ge 35, 3) := by decide +kernel
theorem dX5_step_160 : decode cX5_step 160 = .ok (.aload_n 0, 1) := by decide +kernel
theorem dX5_step_161 : decode cX5_step 161 = .ok (.getfield 9, 3) := by decide +kernel
theorem dX5_step_164 : decode cX5_step 164 = .ok (.aload_n 0, 1) := by decide +kernel
theorem dX5_step_165 : decode cX5_step 165 = .ok (.getfield 22, 3) := by decide +kernel
theorem dX5_step_168 : decode cX5_step 168 = .ok (.iaload, 1) := by decide +kernel
theorem dX5_step_169 : decode cX5_step 169 = .ok (.invokestatic 68, 3) := by decide +kernel
theorem dX5_step_172 : decode cX5_step 172 = .ok (.aload_n 0, 1) := by decide +kernel
theorem dX5_step_173 : decode cX5_step 173 = .ok (.getfield 25, 3) := by decide +kernel
theorem dX5_step_176 : decode cX5_step 176 = .ok (.if_icmp .ne 16, 3) := by decide +kernel
theorem dX5_step_179 : decode cX5_step 179 = .ok (.aload_n 0, 1) := by decide +kernel
theorem dX5_step_180 : decode cX5_step 180 = .ok (.dup, 1) := by decide +kernel
theorem dX5_step_181 : decode cX5_step 181 = .ok (.getfield 22, 3) := by decide +kernel
theorem dX5_step_184 : decode cX5_step 184 = .ok (.iconst 1, 1) := by decide +kernel
theorem dX5_step_185 : decode cX5_step 185 = .ok (.iadd, 1) := by decide +kernel
theorem dX5_step_186 : decode cX5_step 186 = .ok (.putfield 22, 3) := by decide +kernel
theorem dX5_step_189 : decode cX5_step 189 = .ok (.goto (-40), 3) := by decide +kernel
theorem dX5_step_192 : decode cX5_step 192 = .ok (.iload_n 1, 1) := by decide +kernel
theorem dX5_step_193 : decode cX5_step 193 = .ok (.ifCond .eq 18, 3) := by decide +kernel
theorem dX5_step_196 : decode cX5_step 196 = .ok (.aload_n 0, 1) := by decide +kernel
theorem dX5_step_197 : decode cX5_step 197 = .ok (.getfield 19, 3) := by decide +kernel
theorem dX5_step_200 : decode cX5_step 200 = .ok (.iload_n 2, 1) := by decide +kernel
theorem dX5_step_201 : decode cX5_step 201 = .ok (.if_icmp .ne 10, 3) := by decide +kernel
theorem dX5_step_204 : decode cX5_step 204 = .ok (.aload_n 0, 1) := by decide +kernel
theorem dX5_step_205 : decode cX5_step 205 = .ok (.sipush 258, 3) := by decide +kernel
theorem dX5_step_208 : decode cX5_step 208 = .ok (.putfield 25, 3) := by decide +kernel
theorem dX5_step_211 : decode cX5_step 211 = .ok (.return_, 1) := by decide +kernel
theorem dX5_sortOf_0 : decode cX5_sortOf 0 = .ok (.iload_n 0, 1) := by decide +kernel
theorem dX5_sortOf_1 : decode cX5_sortOf 1 = .ok (.bipush 97, 2) := by decide +kernel
theorem dX5_sortOf_3 : decode cX5_sortOf 3 = .ok (.if_icmp .lt 13, 3) := by decide +kernel
theorem dX5_sortOf_6 : decode cX5_sortOf 6 = .ok (.iload_n 0, 1) := by decide +kernel
theorem dX5_sortOf_7 : decode cX5_sortOf 7 = .ok (.bipush 122, 2) := by decide +kernel
theorem dX5_sortOf_9 : decode cX5_sortOf 9 = .ok (.if_icmp .gt 7, 3) := by decide +kernel
theorem dX5_sortOf_12 : decode cX5_sortOf 12 = .ok (.sipush 256, 3) := by decide +kernel
theorem dX5_sortOf_15 : decode cX5_sortOf 15 = .ok (.ireturn, 1) := by decide +kernel
theorem dX5_sortOf_16 : decode cX5_sortOf 16 = .ok (.iload_n 0, 1) := by decide +kernel
theorem dX5_sortOf_17 : decode cX5_sortOf 17 = .ok (.bipush 48, 2) := by decide +kernel
theorem dX5_sortOf_19 : decode cX5_sortOf 19 = .ok (.if_icmp .lt 15, 3) := by decide +kernel
theorem dX5_sortOf_22 : decode cX5_sortOf 22 = .ok (.iload_n 0, 1) := by decide +kernel
theorem dX5_sortOf_23 : decode cX5_sortOf 23 = .ok (.bipush 57, 2) := by decide +kernel
theorem dX5_sortOf_25 : decode cX5_sortOf 25 = .ok (.if_icmp .gt 9, 3) := by decide +kernel
theorem dX5_sortOf_28 : decode cX5_sortOf 28 = .ok (.sipush 257, 3) := by decide +kernel
theorem dX5_sortOf_31 : decode cX5_sortOf 31 = .ok (.goto 4, 3) := by decide +kernel
theorem dX5_sortOf_34 : decode cX5_sortOf 34 = .ok (.iload_n 0, 1) := by decide +kernel
theorem dX5_sortOf_35 : decode cX5_sortOf 35 = .ok (.ireturn, 1) := by decide +kernel
theorem dX5_keyHere_0 : decode cX5_keyHere 0 = .ok (.aload_n 0, 1) := by decide +kernel
theorem dX5_keyHere_1 : decode cX5_keyHere 1 = .ok (.ldc 72, 2) := by decide +kernel
theorem dX5_keyHere_3 : decode cX5_keyHere 3 = .ok (.invokevirtual 74, 3) := by decide +kernel
theorem dX5_keyHere_6 : decode cX5_keyHere 6 = .ok (.ifCond .eq 5, 3) := by decide +kernel
theorem dX5_keyHere_9 : decode cX5_keyHere 9 = .ok (.iconst 0, 1) := by decide +kernel
theorem dX5_keyHere_10 : decode cX5_keyHere 10 = .ok (.ireturn, 1) := by decide +kernel
theorem dX5_keyHere_11 : decode cX5_keyHere 11 = .ok (.aload_n 0, 1) := by decide +kernel
theorem dX5_keyHere_12 : decode cX5_keyHere 12 = .ok (.ldc 78, 2) := by decide +kernel
theorem dX5_keyHere_14 : decode cX5_keyHere 14 = .ok (.invokevirtual 74, 3) := by decide +kernel
theorem dX5_keyHere_17 : decode cX5_keyHere 17 = .ok (.ifCond .eq 5, 3) := by decide +kernel
theorem dX5_keyHere_20 : decode cX5_keyHere 20 = .ok (.iconst 1, 1) := by decide +kernel
theorem dX5_keyHere_21 : decode cX5_keyHere 21 = .ok (.ireturn, 1) := by decide +kernel
theorem dX5_keyHere_22 : decode cX5_keyHere 22 = .ok (.aload_n 0, 1) := by decide +kernel
theorem dX5_keyHere_23 : decode cX5_keyHere 23 = .ok (.ldc 80, 2) := by decide +kernel
theorem dX5_keyHere_25 : decode cX5_keyHere 25 = .ok (.invokevirtual 74, 3) := by decide +kernel
theorem dX5_keyHere_28 : decode cX5_keyHere 28 = .ok (.ifCond .eq 7, 3) := by decide +kernel
theorem dX5_keyHere_31 : decode cX5_keyHere 31 = .ok (.iconst 2, 1) := by decide +kernel
theorem dX5_keyHere_32 : decode cX5_keyHere 32 = .ok (.goto 4, 3) := by decide +kernel
theorem dX5_keyHere_35 : decode cX5_keyHere 35 = .ok (.iconst (-1), 1) := by decide +kernel
theorem dX5_keyHere_36 : decode cX5_keyHere 36 = .ok (.ireturn, 1) := by decide +kernel
theorem dX5_isHere_0 : decode cX5_isHere 0 = .ok (.aload_n 0, 1) := by decide +kernel
theorem dX5_isHere_1 : decode cX5_isHere 1 = .ok (.getfield 25, 3) := by decide +kernel
theorem dX5_isHere_4 : decode cX5_isHere 4 = .ok (.sipush 256, 3) := by decide +kernel
theorem dX5_isHere_7 : decode cX5_isHere 7 = .ok (.if_icmp .ne 19, 3) := by decide +kernel
theorem dX5_isHere_10 : decode cX5_isHere 10 = .ok (.aload_n 0, 1) := by decide +kernel
theorem dX5_isHere_11 : decode cX5_isHere 11 = .ok (.getfield 22, 3) := by decide +kernel
theorem dX5_isHere_14 : decode cX5_isHere 14 = .ok (.aload_n 0, 1) := by decide +kernel
theorem dX5_isHere_15 : decode cX5_isHere 15 = .ok (.getfield 19, 3) := by decide +kernel
theorem dX5_isHere_18 : decode cX5_isHere 18 = .ok (.isub, 1) := by decide +kernel
theorem dX5_isHere_19 : decode cX5_isHere 19 = .ok (.aload_n 1, 1) := by decide +kernel
theorem dX5_isHere_20 : decode cX5_isHere 20 = .ok (.invokevirtual 82, 3) := by decide +kernel
theorem dX5_isHere_23 : decode cX5_isHere 23 = .ok (.if_icmp .eq 5, 3) := by decide +kernel
theorem dX5_isHere_26 : decode cX5_isHere 26 = .ok (.iconst 0, 1) := by decide +kernel
theorem dX5_isHere_27 : decode cX5_isHere 27 = .ok (.ireturn, 1) := by decide +kernel
theorem dX5_isHere_28 : decode cX5_isHere 28 = .ok (.iconst 0, 1) := by decide +kernel
theorem dX5_isHere_29 : decode cX5_isHere 29 = .ok (.istore_n 2, 1) := by decide +kernel
theorem dX5_isHere_30 : decode cX5_isHere 30 = .ok (.iload_n 2, 1) := by decide +kernel
theorem dX5_isHere_31 : decode cX5_isHere 31 = .ok (.aload_n 1, 1) := by decide +kernel
theorem dX5_isHere_32 : decode cX5_isHere 32 = .ok (.invokevirtual 82, 3) := by decide +kernel
theorem dX5_isHere_35 : decode cX5_isHere 35 = .ok (.if_icmp .ge 30, 3) := by decide +kernel
theorem dX5_isHere_38 : decode cX5_isHere 38 = .ok (.aload_n 0, 1) := by decide +kernel
theorem dX5_isHere_39 : decode cX5_isHere 39 = .ok (.getfield 9, 3) := by decide +kernel
theorem dX5_isHere_42 : decode cX5_isHere 42 = .ok (.aload_n 0, 1) := by decide +kernel
theorem dX5_isHere_43 : decode cX5_isHere 43 = .ok (.getfield 19, 3) := by decide +kernel
theorem dX5_isHere_46 : decode cX5_isHere 46 = .ok (.iload_n 2, 1) := by decide +kernel
theorem dX5_isHere_47 : decode cX5_isHere 47 = .ok (.iadd, 1) := by decide +kernel
theorem dX5_isHere_48 : decode cX5_isHere 48 = .ok (.iaload, 1) := by decide +kernel
theorem dX5_isHere_49 : decode cX5_isHere 49 = .ok (.aload_n 1, 1) := by decide +kernel
theorem dX5_isHere_50 : decode cX5_isHere 50 = .ok (.iload_n 2, 1) := by decide +kernel
theorem dX5_isHere_51 : decode cX5_isHere 51 = .ok (.invokevirtual 86, 3) := by decide +kernel
theorem dX5_isHere_54 : decode cX5_isHere 54 = .ok (.if_icmp .eq 5, 3) := by decide +kernel
theorem dX5_isHere_57 : decode cX5_isHere 57 = .ok (.iconst 0, 1) := by decide +kernel
theorem dX5_isHere_58 : decode cX5_isHere 58 = .ok (.ireturn, 1) := by decide +kernel
theorem dX5_isHere_59 : decode cX5_isHere 59 = .ok (.iinc 2 1, 3) := by decide +kernel
theorem dX5_isHere_62 : decode cX5_isHere 62 = .ok (.goto (-32), 3) := by decide +kernel
theorem dX5_isHere_65 : decode cX5_isHere 65 = .ok (.iconst 1, 1) := by decide +kernel
theorem dX5_isHere_66 : decode cX5_isHere 66 = .ok (.ireturn, 1) := by decide +kernel
theorem dX5_joinedBy_0 : decode cX5_joinedBy 0 = .ok (.aload_n 0, 1) := by decide +kernel
theorem dX5_joinedBy_1 : decode cX5_joinedBy 1 = .ok (.iload_n 1, 1) := by decide +kernel
theorem dX5_joinedBy_2 : decode cX5_joinedBy 2 = .ok (.invokevirtual 90, 3) := by decide +kernel
theorem dX5_joinedBy_5 : decode cX5_joinedBy 5 = .ok (.ifCond .ne 5, 3) := by decide +kernel
theorem dX5_joinedBy_8 : decode cX5_joinedBy 8 = .ok (.iconst 0, 1) := by decide +kernel
theorem dX5_joinedBy_9 : decode cX5_joinedBy 9 = .ok (.ireturn, 1) := by decide +kernel
theorem dX5_joinedBy_10 : decode cX5_joinedBy 10 = .ok (.iconst 0, 1) := by decide +kernel
theorem dX5_joinedBy_11 : decode cX5_joinedBy 11 = .ok (.istore_n 2, 1) := by decide +kernel
theorem dX5_joinedBy_12 : decode cX5_joinedBy 12 = .ok (.iload_n 2, 1) := by decide +kernel
theorem dX5_joinedBy_13 : decode cX5_joinedBy 13 = .ok (.bipush 96, 2) := by decide +kernel
theorem dX5_joinedBy_15 : decode cX5_joinedBy 15 = .ok (.if_icmp .ge 49, 3) := by decide +kernel
theorem dX5_joinedBy_18 : decode cX5_joinedBy 18 = .ok (.aload_n 0, 1) := by decide +kernel
theorem dX5_joinedBy_19 : decode cX5_joinedBy 19 = .ok (.iload_n 1, 1) := by decide +kernel
theorem dX5_joinedBy_20 : decode cX5_joinedBy 20 = .ok (.invokevirtual 93, 3) := by decide +kernel
theorem dX5_joinedBy_23 : decode cX5_joinedBy 23 = .ok (.ifCond .eq 41, 3) := by decide +kernel
theorem dX5_joinedBy_26 : decode cX5_joinedBy 26 = .ok (.aload_n 0, 1) := by decide +kernel
theorem dX5_joinedBy_27 : decode cX5_joinedBy 27 = .ok (.getfield 25, 3) := by decide +kernel
theorem dX5_joinedBy_30 : decode cX5_joinedBy 30 = .ok (.istore_n 3, 1) := by decide +kernel
theorem dX5_joinedBy_31 : decode cX5_joinedBy 31 = .ok (.aload_n 0, 1) := by decide +kernel
theorem dX5_joinedBy_32 : decode cX5_joinedBy 32 = .ok (.invokevirtual 46, 3) := by decide +kernel
theorem dX5_joinedBy_35 : decode cX5_joinedBy 35 = .ok (.aload_n 0, 1) := by decide +kernel
theorem dX5_joinedBy_36 : decode cX5_joinedBy 36 = .ok (.iload_n 1, 1) := by decide +kernel
theorem dX5_joinedBy_37 : decode cX5_joinedBy 37 = .ok (.invokevirtual 90, 3) := by decide +kernel
theorem dX5_joinedBy_40 : decode cX5_joinedBy 40 = .ok (.ifCond .ne 5, 3) := by decide +kernel
theorem dX5_joinedBy_43 : decode cX5_joinedBy 43 = .ok (.iconst 0, 1) := by decide +kernel
theorem dX5_joinedBy_44 : decode cX5_joinedBy 44 = .ok (.ireturn, 1) := by decide +kernel
theorem dX5_joinedBy_45 : decode cX5_joinedBy 45 = .ok (.aload_n 0, 1) := by decide +kernel
theorem dX5_joinedBy_46 : decode cX5_joinedBy 46 = .ok (.iload_n 3, 1) := by decide +kernel
theorem dX5_joinedBy_47 : decode cX5_joinedBy 47 = .ok (.ineg, 1) := by decide +kernel
theorem dX5_joinedBy_48 : decode cX5_joinedBy 48 = .ok (.invokevirtual 96, 3) := by decide +kernel
theorem dX5_joinedBy_51 : decode cX5_joinedBy 51 = .ok (.iload_n 1, 1) := by decide +kernel
theorem dX5_joinedBy_52 : decode cX5_joinedBy 52 = .ok (.iconst 2, 1) := by decide +kernel
theorem dX5_joinedBy_53 : decode cX5_joinedBy 53 = .ok (.if_icmp .ne 5, 3) := by decide +kernel
theorem dX5_joinedBy_56 : decode cX5_joinedBy 56 = .ok (.iconst 1, 1) := by decide +kernel
theorem dX5_joinedBy_57 : decode cX5_joinedBy 57 = .ok (.ireturn, 1) := by decide +kernel
theorem dX5_joinedBy_58 : decode cX5_joinedBy 58 = .ok (.iinc 2 1, 3) := by decide +kernel
theorem dX5_joinedBy_61 : decode cX5_joinedBy 61 = .ok (.goto (-49), 3) := by decide +kernel
theorem dX5_joinedBy_64 : decode cX5_joinedBy 64 = .ok (.iconst 1, 1) := by decide +kernel
theorem dX5_joinedBy_65 : decode cX5_joinedBy 65 = .ok (.ireturn, 1) := by decide +kernel
theorem dX5_partOf_0 : decode cX5_partOf 0 = .ok (.iload_n 1, 1) := by decide +kernel
theorem dX5_partOf_1 : decode cX5_partOf 1 = .ok (.iconst 4, 1) := by decide +kernel
theorem dX5_partOf_2 : decode cX5_partOf 2 = .ok (.if_icmp .lt 10, 3) := by decide +kernel
theorem dX5_partOf_5 : decode cX5_partOf 5 = .ok (.aload_n 0, 1) := by decide +kernel
theorem dX5_partOf_6 : decode cX5_partOf 6 = .ok (.invokevirtual 100, 3) := by decide +kernel
theorem dX5_partOf_9 : decode cX5_partOf 9 = .ok (.goto 10, 3) := by decide +kernel
theorem dX5_partOf_12 : decode cX5_partOf 12 = .ok (.aload_n 0, 1) := by decide +kernel
theorem dX5_partOf_13 : decode cX5_partOf 13 = .ok (.iload_n 1, 1) := by decide +kernel
theorem dX5_partOf_14 : decode cX5_partOf 14 = .ok (.iconst 1, 1) := by decide +kernel
theorem dX5_partOf_15 : decode cX5_partOf 15 = .ok (.iadd, 1) := by decide +kernel
theorem dX5_partOf_16 : decode cX5_partOf 16 = .ok (.invokevirtual 53, 3) := by decide +kernel
theorem dX5_partOf_19 : decode cX5_partOf 19 = .ok (.ireturn, 1) := by decide +kernel
theorem dX5_joins_0 : decode cX5_joins 0 = .ok (.iload_n 1, 1) := by decide +kernel
theorem dX5_joins_1 : decode cX5_joins 1 = .ok (.tableswitch 118 0 3 #[31, 46, 61, 94], 31) := by decide +kernel
theorem dX5_joins_32 : decode cX5_joins 32 = .ok (.aload_n 0, 1) := by decide +kernel
theorem dX5_joins_33 : decode cX5_joins 33 = .ok (.getfield 25, 3) := by decide +kernel
theorem dX5_joins_36 : decode cX5_joins 36 = .ok (.bipush 124, 2) := by decide +kernel
theorem dX5_joins_38 : decode cX5_joins 38 = .ok (.if_icmp .ne 7, 3) := by decide +kernel
theorem dX5_joins_41 : decode cX5_joins 41 = .ok (.iconst 1, 1) := by decide +kernel
theorem dX5_joins_42 : decode cX5_joins 42 = .ok (.goto 4, 3) := by decide +kernel
theorem dX5_joins_45 : decode cX5_joins 45 = .ok (.iconst 0, 1) := by decide +kernel
theorem dX5_joins_46 : decode cX5_joins 46 = .ok (.ireturn, 1) := by decide +kernel
theorem dX5_joins_47 : decode cX5_joins 47 = .ok (.aload_n 0, 1) := by decide +kernel
theorem dX5_joins_48 : decode cX5_joins 48 = .ok (.getfield 25, 3) := by decide +kernel
theorem dX5_joins_51 : decode cX5_joins 51 = .ok (.bipush 38, 2) := by decide +kernel
theorem dX5_joins_53 : decode cX5_joins 53 = .ok (.if_icmp .ne 7, 3) := by decide +kernel
theorem dX5_joins_56 : decode cX5_joins 56 = .ok (.iconst 1, 1) := by decide +kernel
theorem dX5_joins_57 : decode cX5_joins 57 = .ok (.goto 4, 3) := by decide +kernel
theorem dX5_joins_60 : decode cX5_joins 60 = .ok (.iconst 0, 1) := by decide +kernel
theorem dX5_joins_61 : decode cX5_joins 61 = .ok (.ireturn, 1) := by decide +kernel
theorem dX5_joins_62 : decode cX5_joins 62 = .ok (.aload_n 0, 1) := by decide +kernel
theorem dX5_joins_63 : decode cX5_joins 63 = .ok (.getfield 25, 3) := by decide +kernel
theorem dX5_joins_66 : decode cX5_joins 66 = .ok (.bipush 60, 2) := by decide +kernel
theorem dX5_joins_68 : decode cX5_joins 68 = .ok (.if_icmp .eq 21, 3) := by decide +kernel
theorem dX5_joins_71 : decode cX5_joins 71 = .ok (.aload_n 0, 1) := by decide +kernel
theorem dX5_joins_72 : decode cX5_joins 72 = .ok (.getfield 25, 3) := by decide +kernel
theorem dX5_joins_75 : decode cX5_joins 75 = .ok (.bipush 61, 2) := by decide +kernel
theorem dX5_joins_77 : decode cX5_joins 77 = .ok (.if_icmp .eq 12, 3) := by decide +kernel
theorem dX5_joins_80 : decode cX5_joins 80 = .ok (.aload_n 0, 1) := by decide +kernel
theorem dX5_joins_81 : decode cX5_joins 81 = .ok (.getfield 25, 3) := by decide +kernel
theorem dX5_joins_84 : decode cX5_joins 84 = .ok (.bipush 62, 2) := by decide +kernel
theorem dX5_joins_86 : decode cX5_joins 86 = .ok (.if_icmp .ne 7, 3) := by decide +kernel
theorem dX5_joins_89 : decode cX5_joins 89 = .ok (.iconst 1, 1) := by decide +kernel
theorem dX5_joins_90 : decode cX5_joins 90 = .ok (.goto 4, 3) := by decide +kernel
theorem dX5_joins_93 : decode cX5_joins 93 = .ok (.iconst 0, 1) := by decide +kernel
theorem dX5_joins_94 : decode cX5_joins 94 = .ok (.ireturn, 1) := by decide +kernel
theorem dX5_joins_95 : decode cX5_joins 95 = .ok (.aload_n 0, 1) := by decide +kernel
theorem dX5_joins_96 : decode cX5_joins 96 = .ok (.getfield 25, 3) := by decide +kernel
theorem dX5_joins_99 : decode cX5_joins 99 = .ok (.bipush 43, 2) := by decide +kernel
theorem dX5_joins_101 : decode cX5_joins 101 = .ok (.if_icmp .eq 12, 3) := by decide +kernel
theorem dX5_joins_104 : decode cX5_joins 104 = .ok (.aload_n 0, 1) := by decide +kernel
theorem dX5_joins_105 : decode cX5_joins 105 = .ok (.getfield 25, 3) := by decide +kernel
theorem dX5_joins_108 : decode cX5_joins 108 = .ok (.bipush 45, 2) := by decide +kernel
theorem dX5_joins_110 : decode cX5_joins 110 = .ok (.if_icmp .ne 7, 3) := by decide +kernel
theorem dX5_joins_113 : decode cX5_joins 113 = .ok (.iconst 1, 1) := by decide +kernel
theorem dX5_joins_114 : decode cX5_joins 114 = .ok (.goto 4, 3) := by decide +kernel
theorem dX5_joins_117 : decode cX5_joins 117 = .ok (.iconst 0, 1) := by decide +kernel
theorem dX5_joins_118 : decode cX5_joins 118 = .ok (.ireturn, 1) := by decide +kernel
theorem dX5_joins_119 : decode cX5_joins 119 = .ok (.aload_n 0, 1) := by decide +kernel
theorem dX5_joins_120 : decode cX5_joins 120 = .ok (.getfield 25, 3) := by decide +kernel
theorem dX5_joins_123 : decode cX5_joins 123 = .ok (.bipush 42, 2) := by decide +kernel
theorem dX5_joins_125 : decode cX5_joins 125 = .ok (.if_icmp .eq 12, 3) := by decide +kernel
theorem dX5_joins_128 : decode cX5_joins 128 = .ok (.aload_n 0, 1) := by decide +kernel
theorem dX5_joins_129 : decode cX5_joins 129 = .ok (.getfield 25, 3) := by decide +kernel
theorem dX5_joins_132 : decode cX5_joins 132 = .ok (.bipush 47, 2) := by decide +kernel
theorem dX5_joins_134 : decode cX5_joins 134 = .ok (.if_icmp .ne 7, 3) := by decide +kernel
theorem dX5_joins_137 : decode cX5_joins 137 = .ok (.iconst 1, 1) := by decide +kernel
theorem dX5_joins_138 : decode cX5_joins 138 = .ok (.goto 4, 3) := by decide +kernel
theorem dX5_joins_141 : decode cX5_joins 141 = .ok (.iconst 0, 1) := by decide +kernel
theorem dX5_joins_142 : decode cX5_joins 142 = .ok (.ireturn, 1) := by decide +kernel
theorem dX5_piece_0 : decode cX5_piece 0 = .ok (.aload_n 0, 1) := by decide +kernel
theorem dX5_piece_1 : decode cX5_piece 1 = .ok (.getfield 25, 3) := by decide +kernel
theorem dX5_piece_4 : decode cX5_piece 4 = .ok (.lookupswitch 64 #[(33, 54), (40, 59), (256, 49), (257, 44)], 44) := by decide +kernel
theorem dX5_piece_48 : decode cX5_piece 48 = .ok (.aload_n 0, 1) := by decide +kernel
theorem dX5_piece_49 : decode cX5_piece 49 = .ok (.invokevirtual 104, 3) := by decide +kernel
theorem dX5_piece_52 : decode cX5_piece 52 = .ok (.ireturn, 1) := by decide +kernel
theorem dX5_piece_53 : decode cX5_piece 53 = .ok (.aload_n 0, 1) := by decide +kernel
theorem dX5_piece_54 : decode cX5_piece 54 = .ok (.invokevirtual 107, 3) := by decide +kernel
theorem dX5_piece_57 : decode cX5_piece 57 = .ok (.ireturn, 1) := by decide +kernel
theorem dX5_piece_58 : decode cX5_piece 58 = .ok (.aload_n 0, 1) := by decide +kernel
theorem dX5_piece_59 : decode cX5_piece 59 = .ok (.invokevirtual 110, 3) := by decide +kernel
theorem dX5_piece_62 : decode cX5_piece 62 = .ok (.ireturn, 1) := by decide +kernel
theorem dX5_piece_63 : decode cX5_piece 63 = .ok (.aload_n 0, 1) := by decide +kernel
theorem dX5_piece_64 : decode cX5_piece 64 = .ok (.invokevirtual 113, 3) := by decide +kernel
theorem dX5_piece_67 : decode cX5_piece 67 = .ok (.ireturn, 1) := by decide +kernel
theorem dX5_piece_68 : decode cX5_piece 68 = .ok (.iconst 0, 1) := by decide +kernel
theorem dX5_piece_69 : decode cX5_piece 69 = .ok (.ireturn, 1) := by decide +kernel
theorem dX5_number_0 : decode cX5_number 0 = .ok (.aload_n 0, 1) := by decide +kernel
theorem dX5_number_1 : decode cX5_number 1 = .ok (.getfield 22, 3) := by decide +kernel
theorem dX5_number_4 : decode cX5_number 4 = .ok (.aload_n 0, 1) := by decide +kernel
theorem dX5_number_5 : decode cX5_number 5 = .ok (.getfield 19, 3) := by decide +kernel
theorem dX5_number_8 : decode cX5_number 8 = .ok (.isub, 1) := by decide +kernel
theorem dX5_number_9 : decode cX5_number 9 = .ok (.iconst 4, 1) := by decide +kernel
theorem dX5_number_10 : decode cX5_number 10 = .ok (.if_icmp .le 5, 3) := by decide +kernel
theorem dX5_number_13 : decode cX5_number 13 = .ok (.iconst 0, 1) := by decide +kernel
theorem dX5_number_14 : decode cX5_number 14 = .ok (.ireturn, 1) := by decide +kernel
theorem dX5_number_15 : decode cX5_number 15 = .ok (.iconst 0, 1) := by decide +kernel
theorem dX5_number_16 : decode cX5_number 16 = .ok (.istore_n 1, 1) := by decide +kernel
theorem dX5_number_17 : decode cX5_number 17 = .ok (.aload_n 0, 1) := by decide +kernel
theorem dX5_number_18 : decode cX5_number 18 = .ok (.getfield 19, 3) := by decide +kernel
theorem dX5_number_21 : decode cX5_number 21 = .ok (.istore_n 2, 1) := by decide +kernel
theorem dX5_number_22 : decode cX5_number 22 = .ok (.iload_n 2, 1) := by decide +kernel
theorem dX5_number_23 : decode cX5_number 23 = .ok (.aload_n 0, 1) := by decide +kernel
theorem dX5_number_24 : decode cX5_number 24 = .ok (.getfield 22, 3) := by decide +kernel
theorem dX5_number_27 : decode cX5_number 27 = .ok (.if_icmp .ge 24, 3) := by decide +kernel
theorem dX5_number_30 : decode cX5_number 30 = .ok (.iload_n 1, 1) := by decide +kernel
theorem dX5_number_31 : decode cX5_number 31 = .ok (.bipush 10, 2) := by decide +kernel
theorem dX5_number_33 : decode cX5_number 33 = .ok (.imul, 1) := by decide +kernel
theorem dX5_number_34 : decode cX5_number 34 = .ok (.aload_n 0, 1) := by decide +kernel
theorem dX5_number_35 : decode cX5_number 35 = .ok (.getfield 9, 3) := by decide +kernel
theorem dX5_number_38 : decode cX5_number 38 = .ok (.iload_n 2, 1) := by decide +kernel
theorem dX5_number_39 : decode cX5_number 39 = .ok (.iaload, 1) := by decide +kernel
theorem dX5_number_40 : decode cX5_number 40 = .ok (.iadd, 1) := by decide +kernel
theorem dX5_number_41 : decode cX5_number 41 = .ok (.bipush 48, 2) := by decide +kernel
theorem dX5_number_43 : decode cX5_number 43 = .ok (.isub, 1) := by decide +kernel
theorem dX5_number_44 : decode cX5_number 44 = .ok (.istore_n 1, 1) := by decide +kernel
theorem dX5_number_45 : decode cX5_number 45 = .ok (.iinc 2 1, 3) := by decide +kernel
theorem dX5_number_48 : decode cX5_number 48 = .ok (.goto (-26), 3) := by decide +kernel
theorem dX5_number_51 : decode cX5_number 51 = .ok (.aload_n 0, 1) := by decide +kernel
theorem dX5_number_52 : decode cX5_number 52 = .ok (.iload_n 1, 1) := by decide +kernel
theorem dX5_number_53 : decode cX5_number 53 = .ok (.invokevirtual 96, 3) := by decide +kernel
theorem dX5_number_56 : decode cX5_number 56 = .ok (.aload_n 0, 1) := by decide +kernel
theorem dX5_number_57 : decode cX5_number 57 = .ok (.dup, 1) := by decide +kernel
theorem dX5_number_58 : decode cX5_number 58 = .ok (.getfield 31, 3) := by decide +kernel
theorem dX5_number_61 : decode cX5_number 61 = .ok (.iconst 1, 1) := by decide +kernel
theorem dX5_number_62 : decode cX5_number 62 = .ok (.iadd, 1) := by decide +kernel
theorem dX5_number_63 : decode cX5_number 63 = .ok (.putfield 31, 3) := by decide +kernel
theorem dX5_number_66 : decode cX5_number 66 = .ok (.aload_n 0, 1) := by decide +kernel
theorem dX5_number_67 : decode cX5_number 67 = .ok (.invokevirtual 46, 3) := by decide +kernel
theorem dX5_number_70 : decode cX5_number 70 = .ok (.iconst 1, 1) := by decide +kernel
theorem dX5_number_71 : decode cX5_number 71 = .ok (.ireturn, 1) := by decide +kernel
theorem dX5_name_0 : decode cX5_name 0 = .ok (.aload_n 0, 1) := by decide +kernel
theorem dX5_name_1 : decode cX5_name 1 = .ok (.getfield 22, 3) := by decide +kernel
theorem dX5_name_4 : decode cX5_name 4 = .ok (.aload_n 0, 1) := by decide +kernel
theorem dX5_name_5 : decode cX5_name 5 = .ok (.getfield 19, 3) := by decide +kernel
theorem dX5_name_8 : decode cX5_name 8 = .ok (.isub, 1) := by decide +kernel
theorem dX5_name_9 : decode cX5_name 9 = .ok (.iconst 1, 1) := by decide +kernel
theorem dX5_name_10 : decode cX5_name 10 = .ok (.if_icmp .ne 26, 3) := by decide +kernel
theorem dX5_name_13 : decode cX5_name 13 = .ok (.aload_n 0, 1) := by decide +kernel
theorem dX5_name_14 : decode cX5_name 14 = .ok (.getfield 28, 3) := by decide +kernel
theorem dX5_name_17 : decode cX5_name 17 = .ok (.invokestatic 116, 3) := by decide +kernel
theorem dX5_name_20 : decode cX5_name 20 = .ok (.aload_n 0, 1) := by decide +kernel
theorem dX5_name_21 : decode cX5_name 21 = .ok (.getfield 9, 3) := by decide +kernel
theorem dX5_name_24 : decode cX5_name 24 = .ok (.aload_n 0, 1) := by decide +kernel
theorem dX5_name_25 : decode cX5_name 25 = .ok (.getfield 19, 3) := by decide +kernel
theorem dX5_name_28 : decode cX5_name 28 = .ok (.iaload, 1) := by decide +kernel
theorem dX5_name_29 : decode cX5_name 29 = .ok (.i2c, 1) := by decide +kernel
theorem dX5_name_30 : decode cX5_name 30 = .ok (.invokevirtual 120, 3) := by decide +kernel
theorem dX5_name_33 : decode cX5_name 33 = .ok (.goto 4, 3) := by decide +kernel
theorem dX5_name_36 : decode cX5_name 36 = .ok (.iconst (-1), 1) := by decide +kernel
theorem dX5_name_37 : decode cX5_name 37 = .ok (.istore_n 1, 1) := by decide +kernel
theorem dX5_name_38 : decode cX5_name 38 = .ok (.iload_n 1, 1) := by decide +kernel
theorem dX5_name_39 : decode cX5_name 39 = .ok (.ifCond .ge 5, 3) := by decide +kernel
theorem dX5_name_42 : decode cX5_name 42 = .ok (.iconst 0, 1) := by decide +kernel
theorem dX5_name_43 : decode cX5_name 43 = .ok (.ireturn, 1) := by decide +kernel
theorem dX5_name_44 : decode cX5_name 44 = .ok (.aload_n 0, 1) := by decide +kernel
theorem dX5_name_45 : decode cX5_name 45 = .ok (.iconst (-1), 1) := by decide +kernel
theorem dX5_name_46 : decode cX5_name 46 = .ok (.iload_n 1, 1) := by decide +kernel
theorem dX5_name_47 : decode cX5_name 47 = .ok (.isub, 1) := by decide +kernel
theorem dX5_name_48 : decode cX5_name 48 = .ok (.invokevirtual 96, 3) := by decide +kernel
theorem dX5_name_51 : decode cX5_name 51 = .ok (.aload_n 0, 1) := by decide +kernel
theorem dX5_name_52 : decode cX5_name 52 = .ok (.dup, 1) := by decide +kernel
theorem dX5_name_53 : decode cX5_name 53 = .ok (.getfield 31, 3) := by decide +kernel
theorem dX5_name_56 : decode cX5_name 56 = .ok (.iconst 1, 1) := by decide +kernel
theorem dX5_name_57 : decode cX5_name 57 = .ok (.iadd, 1) := by decide +kernel
theorem dX5_name_58 : decode cX5_name 58 = .ok (.putfield 31, 3) := by decide +kernel
theorem dX5_name_61 : decode cX5_name 61 = .ok (.aload_n 0, 1) := by decide +kernel
theorem dX5_name_62 : decode cX5_name 62 = .ok (.invokevirtual 46, 3) := by decide +kernel
theorem dX5_name_65 : decode cX5_name 65 = .ok (.iconst 1, 1) := by decide +kernel
theorem dX5_name_66 : decode cX5_name 66 = .ok (.ireturn, 1) := by decide +kernel
theorem dX5_namesOf_0 : decode cX5_namesOf 0 = .ok (.iload_n 0, 1) := by decide +kernel
theorem dX5_namesOf_1 : decode cX5_namesOf 1 = .ok (.lookupswitch 33 #[(0, 27), (1, 30)], 27) := by decide +kernel
theorem dX5_namesOf_28 : decode cX5_namesOf 28 = .ok (.ldc 123, 2) := by decide +kernel
theorem dX5_namesOf_30 : decode cX5_namesOf 30 = .ok (.areturn, 1) := by decide +kernel
theorem dX5_namesOf_31 : decode cX5_namesOf 31 = .ok (.ldc 125, 2) := by decide +kernel
theorem dX5_namesOf_33 : decode cX5_namesOf 33 = .ok (.areturn, 1) := by decide +kernel
theorem dX5_namesOf_34 : decode cX5_namesOf 34 = .ok (.ldc 127, 2) := by decide +kernel
theorem dX5_namesOf_36 : decode cX5_namesOf 36 = .ok (.areturn, 1) := by decide +kernel
theorem dX5_not_0 : decode cX5_not 0 = .ok (.aload_n 0, 1) := by decide +kernel
theorem dX5_not_1 : decode cX5_not 1 = .ok (.getfield 37, 3) := by decide +kernel
theorem dX5_not_4 : decode cX5_not 4 = .ok (.bipush 8, 2) := by decide +kernel
theorem dX5_not_6 : decode cX5_not 6 = .ok (.if_icmp .lt 5, 3) := by decide +kernel
theorem dX5_not_9 : decode cX5_not 9 = .ok (.iconst 0, 1) := by decide +kernel
theorem dX5_not_10 : decode cX5_not 10 = .ok (.ireturn, 1) := by decide +kernel
theorem dX5_not_11 : decode cX5_not 11 = .ok (.aload_n 0, 1) := by decide +kernel
theorem dX5_not_12 : decode cX5_not 12 = .ok (.dup, 1) := by decide +kernel
theorem dX5_not_13 : decode cX5_not 13 = .ok (.getfield 37, 3) := by decide +kernel
theorem dX5_not_16 : decode cX5_not 16 = .ok (.iconst 1, 1) := by decide +kernel
theorem dX5_not_17 : decode cX5_not 17 = .ok (.iadd, 1) := by decide +kernel
theorem dX5_not_18 : decode cX5_not 18 = .ok (.putfield 37, 3) := by decide +kernel
theorem dX5_not_21 : decode cX5_not 21 = .ok (.aload_n 0, 1) := by decide +kernel
theorem dX5_not_22 : decode cX5_not 22 = .ok (.invokevirtual 46, 3) := by decide +kernel
theorem dX5_not_25 : decode cX5_not 25 = .ok (.aload_n 0, 1) := by decide +kernel
theorem dX5_not_26 : decode cX5_not 26 = .ok (.invokevirtual 100, 3) := by decide +kernel
theorem dX5_not_29 : decode cX5_not 29 = .ok (.ifCond .ne 5, 3) := by decide +kernel
theorem dX5_not_32 : decode cX5_not 32 = .ok (.iconst 0, 1) := by decide +kernel
theorem dX5_not_33 : decode cX5_not 33 = .ok (.ireturn, 1) := by decide +kernel
theorem dX5_not_34 : decode cX5_not 34 = .ok (.aload_n 0, 1) := by decide +kernel
theorem dX5_not_35 : decode cX5_not 35 = .ok (.dup, 1) := by decide +kernel
theorem dX5_not_36 : decode cX5_not 36 = .ok (.getfield 37, 3) := by decide +kernel
theorem dX5_not_39 : decode cX5_not 39 = .ok (.iconst 1, 1) := by decide +kernel
theorem dX5_not_40 : decode cX5_not 40 = .ok (.isub, 1) := by decide +kernel
theorem dX5_not_41 : decode cX5_not 41 = .ok (.putfield 37, 3) := by decide +kernel
theorem dX5_not_44 : decode cX5_not 44 = .ok (.aload_n 0, 1) := by decide +kernel
theorem dX5_not_45 : decode cX5_not 45 = .ok (.bipush (-33), 2) := by decide +kernel
theorem dX5_not_47 : decode cX5_not 47 = .ok (.invokevirtual 96, 3) := by decide +kernel
theorem dX5_not_50 : decode cX5_not 50 = .ok (.iconst 1, 1) := by decide +kernel
theorem dX5_not_51 : decode cX5_not 51 = .ok (.ireturn, 1) := by decide +kernel
theorem dX5_brackets_0 : decode cX5_brackets 0 = .ok (.aload_n 0, 1) := by decide +kernel
theorem dX5_brackets_1 : decode cX5_brackets 1 = .ok (.getfield 34, 3) := by decide +kernel
theorem dX5_brackets_4 : decode cX5_brackets 4 = .ok (.bipush 8, 2) := by decide +kernel
theorem dX5_brackets_6 : decode cX5_brackets 6 = .ok (.if_icmp .lt 5, 3) := by decide +kernel
theorem dX5_brackets_9 : decode cX5_brackets 9 = .ok (.iconst 0, 1) := by decide +kernel
theorem dX5_brackets_10 : decode cX5_brackets 10 = .ok (.ireturn, 1) := by decide +kernel
theorem dX5_brackets_11 : decode cX5_brackets 11 = .ok (.aload_n 0, 1) := by decide +kernel
theorem dX5_brackets_12 : decode cX5_brackets 12 = .ok (.dup, 1) := by decide +kernel
theorem dX5_brackets_13 : decode cX5_brackets 13 = .ok (.getfield 34, 3) := by decide +kernel
theorem dX5_brackets_16 : decode cX5_brackets 16 = .ok (.iconst 1, 1) := by decide +kernel
theorem dX5_brackets_17 : decode cX5_brackets 17 = .ok (.iadd, 1) := by decide +kernel
theorem dX5_brackets_18 : decode cX5_brackets 18 = .ok (.putfield 34, 3) := by decide +kernel
theorem dX5_brackets_21 : decode cX5_brackets 21 = .ok (.aload_n 0, 1) := by decide +kernel
theorem dX5_brackets_22 : decode cX5_brackets 22 = .ok (.invokevirtual 46, 3) := by decide +kernel
theorem dX5_brackets_25 : decode cX5_brackets 25 = .ok (.aload_n 0, 1) := by decide +kernel
theorem dX5_brackets_26 : decode cX5_brackets 26 = .ok (.iconst 0, 1) := by decide +kernel
theorem dX5_brackets_27 : decode cX5_brackets 27 = .ok (.invokevirtual 53, 3) := by decide +kernel
theorem dX5_brackets_30 : decode cX5_brackets 30 = .ok (.ifCond .eq 12, 3) := by decide +kernel
theorem dX5_brackets_33 : decode cX5_brackets 33 = .ok (.aload_n 0, 1) := by decide +kernel
theorem dX5_brackets_34 : decode cX5_brackets 34 = .ok (.getfield 25, 3) := by decide +kernel
theorem dX5_brackets_37 : decode cX5_brackets 37 = .ok (.bipush 41, 2) := by decide +kernel
theorem dX5_brackets_39 : decode cX5_brackets 39 = .ok (.if_icmp .eq 5, 3) := by decide +kernel
theorem dX5_brackets_42 : decode cX5_brackets 42 = .ok (.iconst 0, 1) := by decide +kernel
theorem dX5_brackets_43 : decode cX5_brackets 43 = .ok (.ireturn, 1) := by decide +kernel
theorem dX5_brackets_44 : decode cX5_brackets 44 = .ok (.aload_n 0, 1) := by decide +kernel
theorem dX5_brackets_45 : decode cX5_brackets 45 = .ok (.dup, 1) := by decide +kernel
theorem dX5_brackets_46 : decode cX5_brackets 46 = .ok (.getfield 34, 3) := by decide +kernel
theorem dX5_brackets_49 : decode cX5_brackets 49 = .ok (.iconst 1, 1) := by decide +kernel
theorem dX5_brackets_50 : decode cX5_brackets 50 = .ok (.isub, 1) := by decide +kernel
theorem dX5_brackets_51 : decode cX5_brackets 51 = .ok (.putfield 34, 3) := by decide +kernel
theorem dX5_brackets_54 : decode cX5_brackets 54 = .ok (.aload_n 0, 1) := by decide +kernel
theorem dX5_brackets_55 : decode cX5_brackets 55 = .ok (.invokevirtual 46, 3) := by decide +kernel
theorem dX5_brackets_58 : decode cX5_brackets 58 = .ok (.iconst 1, 1) := by decide +kernel
theorem dX5_brackets_59 : decode cX5_brackets 59 = .ok (.ireturn, 1) := by decide +kernel
theorem dX5_put_0 : decode cX5_put 0 = .ok (.aload_n 0, 1) := by decide +kernel
theorem dX5_put_1 : decode cX5_put 1 = .ok (.getfield 43, 3) := by decide +kernel
theorem dX5_put_4 : decode cX5_put 4 = .ok (.aload_n 0, 1) := by decide +kernel
theorem dX5_put_5 : decode cX5_put 5 = .ok (.getfield 40, 3) := by decide +kernel
theorem dX5_put_8 : decode cX5_put 8 = .ok (.arraylength, 1) := by decide +kernel
theorem dX5_put_9 : decode cX5_put 9 = .ok (.if_icmp .ge 23, 3) := by decide +kernel
theorem dX5_put_12 : decode cX5_put 12 = .ok (.aload_n 0, 1) := by decide +kernel
theorem dX5_put_13 : decode cX5_put 13 = .ok (.getfield 40, 3) := by decide +kernel
theorem dX5_put_16 : decode cX5_put 16 = .ok (.aload_n 0, 1) := by decide +kernel
theorem dX5_put_17 : decode cX5_put 17 = .ok (.getfield 43, 3) := by decide +kernel
theorem dX5_put_20 : decode cX5_put 20 = .ok (.iload_n 1, 1) := by decide +kernel
theorem dX5_put_21 : decode cX5_put 21 = .ok (.iastore, 1) := by decide +kernel
theorem dX5_put_22 : decode cX5_put 22 = .ok (.aload_n 0, 1) := by decide +kernel
theorem dX5_put_23 : decode cX5_put 23 = .ok (.dup, 1) := by decide +kernel
theorem dX5_put_24 : decode cX5_put 24 = .ok (.getfield 43, 3) := by decide +kernel
theorem dX5_put_27 : decode cX5_put 27 = .ok (.iconst 1, 1) := by decide +kernel
theorem dX5_put_28 : decode cX5_put 28 = .ok (.iadd, 1) := by decide +kernel
theorem dX5_put_29 : decode cX5_put 29 = .ok (.putfield 43, 3) := by decide +kernel
theorem dX5_put_32 : decode cX5_put 32 = .ok (.return_, 1) := by decide +kernel
theorem dX6_init_0 : decode cX6_init 0 = .ok (.aload_n 0, 1) := by decide +kernel
theorem dX6_init_1 : decode cX6_init 1 = .ok (.invokespecial 1, 3) := by decide +kernel
theorem dX6_init_4 : decode cX6_init 4 = .ok (.aload_n 0, 1) := by decide +kernel
theorem dX6_init_5 : decode cX6_init 5 = .ok (.iload_n 1, 1) := by decide +kernel
theorem dX6_init_6 : decode cX6_init 6 = .ok (.putfield 7, 3) := by decide +kernel
theorem dX6_init_9 : decode cX6_init 9 = .ok (.aload_n 0, 1) := by decide +kernel
theorem dX6_init_10 : decode cX6_init 10 = .ok (.iload_n 2, 1) := by decide +kernel
theorem dX6_init_11 : decode cX6_init 11 = .ok (.putfield 13, 3) := by decide +kernel
theorem dX6_init_14 : decode cX6_init 14 = .ok (.aload_n 0, 1) := by decide +kernel
theorem dX6_init_15 : decode cX6_init 15 = .ok (.aload_n 3, 1) := by decide +kernel
theorem dX6_init_16 : decode cX6_init 16 = .ok (.putfield 16, 3) := by decide +kernel
theorem dX6_init_19 : decode cX6_init 19 = .ok (.aload_n 0, 1) := by decide +kernel
theorem dX6_init_20 : decode cX6_init 20 = .ok (.aload_n 3, 1) := by decide +kernel
theorem dX6_init_21 : decode cX6_init 21 = .ok (.arraylength, 1) := by decide +kernel
theorem dX6_init_22 : decode cX6_init 22 = .ok (.newarray .int, 2) := by decide +kernel
theorem dX6_init_24 : decode cX6_init 24 = .ok (.putfield 20, 3) := by decide +kernel
theorem dX6_init_27 : decode cX6_init 27 = .ok (.return_, 1) := by decide +kernel
theorem dX6_value_0 : decode cX6_value 0 = .ok (.iconst 0, 1) := by decide +kernel
theorem dX6_value_1 : decode cX6_value 1 = .ok (.istore 4, 2) := by decide +kernel
theorem dX6_value_3 : decode cX6_value 3 = .ok (.iconst 0, 1) := by decide +kernel
theorem dX6_value_4 : decode cX6_value 4 = .ok (.istore 5, 2) := by decide +kernel
theorem dX6_value_6 : decode cX6_value 6 = .ok (.iload 5, 2) := by decide +kernel
theorem dX6_value_8 : decode cX6_value 8 = .ok (.aload_n 0, 1) := by decide +kernel
theorem dX6_value_9 : decode cX6_value 9 = .ok (.getfield 16, 3) := by decide +kernel
theorem dX6_value_12 : decode cX6_value 12 = .ok (.arraylength, 1) := by decide +kernel
theorem dX6_value_13 : decode cX6_value 13 = .ok (.if_icmp .ge 138, 3) := by decide +kernel
theorem dX6_value_16 : decode cX6_value 16 = .ok (.aload_n 0, 1) := by decide +kernel
theorem dX6_value_17 : decode cX6_value 17 = .ok (.getfield 16, 3) := by decide +kernel
theorem dX6_value_20 : decode cX6_value 20 = .ok (.iload 5, 2) := by decide +kernel
theorem dX6_value_22 : decode cX6_value 22 = .ok (.iaload, 1) := by decide +kernel
theorem dX6_value_23 : decode cX6_value 23 = .ok (.istore 6, 2) := by decide +kernel
theorem dX6_value_25 : decode cX6_value 25 = .ok (.iload 6, 2) := by decide +kernel
theorem dX6_value_27 : decode cX6_value 27 = .ok (.bipush (-3), 2) := by decide +kernel
theorem dX6_value_29 : decode cX6_value 29 = .ok (.if_icmp .lt 34, 3) := by decide +kernel
theorem dX6_value_32 : decode cX6_value 32 = .ok (.iload 4, 2) := by decide +kernel
theorem dX6_value_34 : decode cX6_value 34 = .ok (.aload_n 0, 1) := by decide +kernel
theorem dX6_value_35 : decode cX6_value 35 = .ok (.getfield 20, 3) := by decide +kernel
theorem dX6_value_38 : decode cX6_value 38 = .ok (.arraylength, 1) := by decide +kernel
theorem dX6_value_39 : decode cX6_value 39 = .ok (.if_icmp .ge 24, 3) := by decide +kernel
theorem dX6_value_42 : decode cX6_value 42 = .ok (.aload_n 0, 1) := by decide +kernel
theorem dX6_value_43 : decode cX6_value 43 = .ok (.getfield 20, 3) := by decide +kernel
theorem dX6_value_46 : decode cX6_value 46 = .ok (.iload 4, 2) := by decide +kernel
theorem dX6_value_48 : decode cX6_value 48 = .ok (.iload 6, 2) := by decide +kernel
theorem dX6_value_50 : decode cX6_value 50 = .ok (.iload_n 1, 1) := by decide +kernel
theorem dX6_value_51 : decode cX6_value 51 = .ok (.iload_n 2, 1) := by decide +kernel
theorem dX6_value_52 : decode cX6_value 52 = .ok (.iload_n 3, 1) := by decide +kernel
theorem dX6_value_53 : decode cX6_value 53 = .ok (.invokestatic 23, 3) := by decide +kernel
theorem dX6_value_56 : decode cX6_value 56 = .ok (.iastore, 1) := by decide +kernel
theorem dX6_value_57 : decode cX6_value 57 = .ok (.iinc 4 1, 3) := by decide +kernel
theorem dX6_value_60 : decode cX6_value 60 = .ok (.goto 85, 3) := by decide +kernel
theorem dX6_value_63 : decode cX6_value 63 = .ok (.iload 6, 2) := by decide +kernel
theorem dX6_value_65 : decode cX6_value 65 = .ok (.bipush (-33), 2) := by decide +kernel
theorem dX6_value_67 : decode cX6_value 67 = .ok (.if_icmp .ne 38, 3) := by decide +kernel
theorem dX6_value_70 : decode cX6_value 70 = .ok (.iload 4, 2) := by decide +kernel
theorem dX6_value_72 : decode cX6_value 72 = .ok (.iconst 1, 1) := by decide +kernel
theorem dX6_value_73 : decode cX6_value 73 = .ok (.if_icmp .lt 32, 3) := by decide +kernel
theorem dX6_value_76 : decode cX6_value 76 = .ok (.aload_n 0, 1) := by decide +kernel
theorem dX6_value_77 : decode cX6_value 77 = .ok (.getfield 20, 3) := by decide +kernel
theorem dX6_value_80 : decode cX6_value 80 = .ok (.iload 4, 2) := by decide +kernel
theorem dX6_value_82 : decode cX6_value 82 = .ok (.iconst 1, 1) := by decide +kernel
theorem dX6_value_83 : decode cX6_value 83 = .ok (.isub, 1) := by decide +kernel
theorem dX6_value_84 : decode cX6_value 84 = .ok (.aload_n 0, 1) := by decide +kernel
theorem dX6_value_85 : decode cX6_value 85 = .ok (.getfield 20, 3) := by decide +kernel
theorem dX6_value_88 : decode cX6_value 88 = .ok (.iload 4, 2) := by decide +kernel
theorem dX6_value_90 : decode cX6_value 90 = .ok (.iconst 1, 1) := by decide +kernel
theorem dX6_value_91 : decode cX6_value 91 = .ok (.isub, 1) := by decide +kernel
theorem dX6_value_92 : decode cX6_value 92 = .ok (.iaload, 1) := by decide +kernel
theorem dX6_value_93 : decode cX6_value 93 = .ok (.ifCond .ne 7, 3) := by decide +kernel
theorem dX6_value_96 : decode cX6_value 96 = .ok (.iconst 1, 1) := by decide +kernel
theorem dX6_value_97 : decode cX6_value 97 = .ok (.goto 4, 3) := by decide +kernel
theorem dX6_value_100 : decode cX6_value 100 = .ok (.iconst 0, 1) := by decide +kernel
theorem dX6_value_101 : decode cX6_value 101 = .ok (.iastore, 1) := by decide +kernel
theorem dX6_value_102 : decode cX6_value 102 = .ok (.goto 43, 3) := by decide +kernel
theorem dX6_value_105 : decode cX6_value 105 = .ok (.iload 4, 2) := by decide +kernel
theorem dX6_value_107 : decode cX6_value 107 = .ok (.iconst 2, 1) := by decide +kernel
theorem dX6_value_108 : decode cX6_value 108 = .ok (.if_icmp .lt 37, 3) := by decide +kernel
theorem dX6_value_111 : decode cX6_value 111 = .ok (.iinc 4 (-1), 3) := by decide +kernel
theorem dX6_value_114 : decode cX6_value 114 = .ok (.aload_n 0, 1) := by decide +kernel
theorem dX6_value_115 : decode cX6_value 115 = .ok (.getfield 20, 3) := by decide +kernel
theorem dX6_value_118 : decode cX6_value 118 = .ok (.iload 4, 2) := by decide +kernel
theorem dX6_value_120 : decode cX6_value 120 = .ok (.iconst 1, 1) := by decide +kernel
theorem dX6_value_121 : decode cX6_value 121 = .ok (.isub, 1) := by decide +kernel
theorem dX6_value_122 : decode cX6_value 122 = .ok (.iload 6, 2) := by decide +kernel
theorem dX6_value_124 : decode cX6_value 124 = .ok (.ineg, 1) := by decide +kernel
theorem dX6_value_125 : decode cX6_value 125 = .ok (.aload_n 0, 1) := by decide +kernel
theorem dX6_value_126 : decode cX6_value 126 = .ok (.getfield 20, 3) := by decide +kernel
theorem dX6_value_129 : decode cX6_value 129 = .ok (.iload 4, 2) := by decide +kernel
theorem dX6_value_131 : decode cX6_value 131 = .ok (.iconst 1, 1) := by decide +kernel
theorem dX6_value_132 : decode cX6_value 132 = .ok (.isub, 1) := by decide +kernel
theorem dX6_value_133 : decode cX6_value 133 = .ok (.iaload, 1) := by decide +kernel
theorem dX6_value_134 : decode cX6_value 134 = .ok (.aload_n 0, 1) := by decide +kernel
theorem dX6_value_135 : decode cX6_value 135 = .ok (.getfield 20, 3) := by decide +kernel
theorem dX6_value_138 : decode cX6_value 138 = .ok (.iload 4, 2) := by decide +kernel
theorem dX6_value_140 : decode cX6_value 140 = .ok (.iaload, 1) := by decide +kernel
theorem dX6_value_141 : decode cX6_value 141 = .ok (.invokestatic 27, 3) := by decide +kernel
theorem dX6_value_144 : decode cX6_value 144 = .ok (.iastore, 1) := by decide +kernel
theorem dX6_value_145 : decode cX6_value 145 = .ok (.iinc 5 1, 3) := by decide +kernel
theorem dX6_value_148 : decode cX6_value 148 = .ok (.goto (-142), 3) := by decide +kernel
theorem dX6_value_151 : decode cX6_value 151 = .ok (.iload 4, 2) := by decide +kernel
theorem dX6_value_153 : decode cX6_value 153 = .ok (.iconst 1, 1) := by decide +kernel
theorem dX6_value_154 : decode cX6_value 154 = .ok (.if_icmp .lt 15, 3) := by decide +kernel
theorem dX6_value_157 : decode cX6_value 157 = .ok (.aload_n 0, 1) := by decide +kernel
theorem dX6_value_158 : decode cX6_value 158 = .ok (.getfield 20, 3) := by decide +kernel
theorem dX6_value_161 : decode cX6_value 161 = .ok (.iload 4, 2) := by decide +kernel
theorem dX6_value_163 : decode cX6_value 163 = .ok (.iconst 1, 1) := by decide +kernel
theorem dX6_value_164 : decode cX6_value 164 = .ok (.isub, 1) := by decide +kernel
theorem dX6_value_165 : decode cX6_value 165 = .ok (.iaload, 1) := by decide +kernel
theorem dX6_value_166 : decode cX6_value 166 = .ok (.goto 4, 3) := by decide +kernel
theorem dX6_value_169 : decode cX6_value 169 = .ok (.iconst 0, 1) := by decide +kernel
theorem dX6_value_170 : decode cX6_value 170 = .ok (.ireturn, 1) := by decide +kernel
theorem dX6_plain_0 : decode cX6_plain 0 = .ok (.iload_n 0, 1) := by decide +kernel
theorem dX6_plain_1 : decode cX6_plain 1 = .ok (.tableswitch 33 (-3) (-1) #[31, 29, 27], 27) := by decide +kernel
theorem dX6_plain_28 : decode cX6_plain 28 = .ok (.iload_n 1, 1) := by decide +kernel
theorem dX6_plain_29 : decode cX6_plain 29 = .ok (.ireturn, 1) := by decide +kernel
theorem dX6_plain_30 : decode cX6_plain 30 = .ok (.iload_n 2, 1) := by decide +kernel
theorem dX6_plain_31 : decode cX6_plain 31 = .ok (.ireturn, 1) := by decide +kernel
theorem dX6_plain_32 : decode cX6_plain 32 = .ok (.iload_n 3, 1) := by decide +kernel
theorem dX6_plain_33 : decode cX6_plain 33 = .ok (.ireturn, 1) := by decide +kernel
theorem dX6_plain_34 : decode cX6_plain 34 = .ok (.iload_n 0, 1) := by decide +kernel
theorem dX6_plain_35 : decode cX6_plain 35 = .ok (.ireturn, 1) := by decide +kernel
theorem dX6_joined_0 : decode cX6_joined 0 = .ok (.iload_n 0, 1) := by decide +kernel
theorem dX6_joined_1 : decode cX6_joined 1 = .ok (.lookupswitch 148 #[(38, 89), (42, 144), (43, 136), (45, 140), (60, 103), (61, 114), (62, 125), (124, 75)], 75) := by decide +kernel
theorem dX6_joined_76 : decode cX6_joined 76 = .ok (.iload_n 1, 1) := by decide +kernel
theorem dX6_joined_77 : decode cX6_joined 77 = .ok (.ifCond .ne 7, 3) := by decide +kernel
theorem dX6_joined_80 : decode cX6_joined 80 = .ok (.iload_n 2, 1) := by decide +kernel
theorem dX6_joined_81 : decode cX6_joined 81 = .ok (.ifCond .eq 7, 3) := by decide +kernel
theorem dX6_joined_84 : decode cX6_joined 84 = .ok (.iconst 1, 1) := by decide +kernel
theorem dX6_joined_85 : decode cX6_joined 85 = .ok (.goto 4, 3) := by decide +kernel
theorem dX6_joined_88 : decode cX6_joined 88 = .ok (.iconst 0, 1) := by decide +kernel
theorem dX6_joined_89 : decode cX6_joined 89 = .ok (.ireturn, 1) := by decide +kernel
theorem dX6_joined_90 : decode cX6_joined 90 = .ok (.iload_n 1, 1) := by decide +kernel
theorem dX6_joined_91 : decode cX6_joined 91 = .ok (.ifCond .eq 11, 3) := by decide +kernel
theorem dX6_joined_94 : decode cX6_joined 94 = .ok (.iload_n 2, 1) := by decide +kernel
theorem dX6_joined_95 : decode cX6_joined 95 = .ok (.ifCond .eq 7, 3) := by decide +kernel
theorem dX6_joined_98 : decode cX6_joined 98 = .ok (.iconst 1, 1) := by decide +kernel
theorem dX6_joined_99 : decode cX6_joined 99 = .ok (.goto 4, 3) := by decide +kernel
theorem dX6_joined_102 : decode cX6_joined 102 = .ok (.iconst 0, 1) := by decide +kernel
theorem dX6_joined_103 : decode cX6_joined 103 = .ok (.ireturn, 1) := by decide +kernel
theorem dX6_joined_104 : decode cX6_joined 104 = .ok (.iload_n 1, 1) := by decide +kernel
theorem dX6_joined_105 : decode cX6_joined 105 = .ok (.iload_n 2, 1) := by decide +kernel
theorem dX6_joined_106 : decode cX6_joined 106 = .ok (.if_icmp .ge 7, 3) := by decide +kernel
theorem dX6_joined_109 : decode cX6_joined 109 = .ok (.iconst 1, 1) := by decide +kernel
theorem dX6_joined_110 : decode cX6_joined 110 = .ok (.goto 4, 3) := by decide +kernel
theorem dX6_joined_113 : decode cX6_joined 113 = .ok (.iconst 0, 1) := by decide +kernel
theorem dX6_joined_114 : decode cX6_joined 114 = .ok (.ireturn, 1) := by decide +kernel
theorem dX6_joined_115 : decode cX6_joined 115 = .ok (.iload_n 1, 1) := by decide +kernel
theorem dX6_joined_116 : decode cX6_joined 116 = .ok (.iload_n 2, 1) := by decide +kernel
theorem dX6_joined_117 : decode cX6_joined 117 = .ok (.if_icmp .ne 7, 3) := by decide +kernel
theorem dX6_joined_120 : decode cX6_joined 120 = .ok (.iconst 1, 1) := by decide +kernel
theorem dX6_joined_121 : decode cX6_joined 121 = .ok (.goto 4, 3) := by decide +kernel
theorem dX6_joined_124 : decode cX6_joined 124 = .ok (.iconst 0, 1) := by decide +kernel
theorem dX6_joined_125 : decode cX6_joined 125 = .ok (.ireturn, 1) := by decide +kernel
theorem dX6_joined_126 : decode cX6_joined 126 = .ok (.iload_n 1, 1) := by decide +kernel
theorem dX6_joined_127 : decode cX6_joined 127 = .ok (.iload_n 2, 1) := by decide +kernel
theorem dX6_joined_128 : decode cX6_joined 128 = .ok (.if_icmp .le 7, 3) := by decide +kernel
theorem dX6_joined_131 : decode cX6_joined 131 = .ok (.iconst 1, 1) := by decide +kernel
theorem dX6_joined_132 : decode cX6_joined 132 = .ok (.goto 4, 3) := by decide +kernel
theorem dX6_joined_135 : decode cX6_joined 135 = .ok (.iconst 0, 1) := by decide +kernel
theorem dX6_joined_136 : decode cX6_joined 136 = .ok (.ireturn, 1) := by decide +kernel
theorem dX6_joined_137 : decode cX6_joined 137 = .ok (.iload_n 1, 1) := by decide +kernel
theorem dX6_joined_138 : decode cX6_joined 138 = .ok (.iload_n 2, 1) := by decide +kernel
theorem dX6_joined_139 : decode cX6_joined 139 = .ok (.iadd, 1) := by decide +kernel
theorem dX6_joined_140 : decode cX6_joined 140 = .ok (.ireturn, 1) := by decide +kernel
theorem dX6_joined_141 : decode cX6_joined 141 = .ok (.iload_n 1, 1) := by decide +kernel
theorem dX6_joined_142 : decode cX6_joined 142 = .ok (.iload_n 2, 1) := by decide +kernel
theorem dX6_joined_143 : decode cX6_joined 143 = .ok (.isub, 1) := by decide +kernel
theorem dX6_joined_144 : decode cX6_joined 144 = .ok (.ireturn, 1) := by decide +kernel
theorem dX6_joined_145 : decode cX6_joined 145 = .ok (.iload_n 1, 1) := by decide +kernel
theorem dX6_joined_146 : decode cX6_joined 146 = .ok (.iload_n 2, 1) := by decide +kernel
theorem dX6_joined_147 : decode cX6_joined 147 = .ok (.imul, 1) := by decide +kernel
theorem dX6_joined_148 : decode cX6_joined 148 = .ok (.ireturn, 1) := by decide +kernel
theorem dX6_joined_149 : decode cX6_joined 149 = .ok (.iload_n 2, 1) := by decide +kernel
theorem dX6_joined_150 : decode cX6_joined 150 = .ok (.ifCond .ne 7, 3) := by decide +kernel
theorem dX6_joined_153 : decode cX6_joined 153 = .ok (.iconst 0, 1) := by decide +kernel
theorem dX6_joined_154 : decode cX6_joined 154 = .ok (.goto 6, 3) := by decide +kernel
theorem dX6_joined_157 : decode cX6_joined 157 = .ok (.iload_n 1, 1) := by decide +kernel
theorem dX6_joined_158 : decode cX6_joined 158 = .ok (.iload_n 2, 1) := by decide +kernel
theorem dX6_joined_159 : decode cX6_joined 159 = .ok (.idiv, 1) := by decide +kernel
theorem dX6_joined_160 : decode cX6_joined 160 = .ok (.ireturn, 1) := by decide +kernel
theorem dX7_init_0 : decode cX7_init 0 = .ok (.aload_n 0, 1) := by decide +kernel
theorem dX7_init_1 : decode cX7_init 1 = .ok (.invokespecial 1, 3) := by decide +kernel
theorem dX7_init_4 : decode cX7_init 4 = .ok (.aload_n 0, 1) := by decide +kernel
theorem dX7_init_5 : decode cX7_init 5 = .ok (.new 7, 3) := by decide +kernel
theorem dX7_init_8 : decode cX7_init 8 = .ok (.dup, 1) := by decide +kernel
theorem dX7_init_9 : decode cX7_init 9 = .ok (.invokespecial 9, 3) := by decide +kernel
theorem dX7_init_12 : decode cX7_init 12 = .ok (.putfield 10, 3) := by decide +kernel
theorem dX7_init_15 : decode cX7_init 15 = .ok (.aload_n 0, 1) := by decide +kernel
theorem dX7_init_16 : decode cX7_init 16 = .ok (.new 7, 3) := by decide +kernel
theorem dX7_init_19 : decode cX7_init 19 = .ok (.dup, 1) := by decide +kernel
theorem dX7_init_20 : decode cX7_init 20 = .ok (.invokespecial 9, 3) := by decide +kernel
theorem dX7_init_23 : decode cX7_init 23 = .ok (.putfield 16, 3) := by decide +kernel
theorem dX7_init_26 : decode cX7_init 26 = .ok (.aload_n 0, 1) := by decide +kernel
theorem dX7_init_27 : decode cX7_init 27 = .ok (.new 7, 3) := by decide +kernel
theorem dX7_init_30 : decode cX7_init 30 = .ok (.dup, 1) := by decide +kernel
theorem dX7_init_31 : decode cX7_init 31 = .ok (.invokespecial 9, 3) := by decide +kernel
theorem dX7_init_34 : decode cX7_init 34 = .ok (.putfield 19, 3) := by decide +kernel
theorem dX7_init_37 : decode cX7_init 37 = .ok (.aload_n 0, 1) := by decide +kernel
theorem dX7_init_38 : decode cX7_init 38 = .ok (.iconst 0, 1) := by decide +kernel
theorem dX7_init_39 : decode cX7_init 39 = .ok (.putfield 22, 3) := by decide +kernel
theorem dX7_init_42 : decode cX7_init 42 = .ok (.aload_n 0, 1) := by decide +kernel
theorem dX7_init_43 : decode cX7_init 43 = .ok (.new 26, 3) := by decide +kernel
theorem dX7_init_46 : decode cX7_init 46 = .ok (.dup, 1) := by decide +kernel
theorem dX7_init_47 : decode cX7_init 47 = .ok (.invokespecial 28, 3) := by decide +kernel
theorem dX7_init_50 : decode cX7_init 50 = .ok (.putfield 29, 3) := by decide +kernel
theorem dX7_init_53 : decode cX7_init 53 = .ok (.aload_n 0, 1) := by decide +kernel
theorem dX7_init_54 : decode cX7_init 54 = .ok (.new 33, 3) := by decide +kernel
theorem dX7_init_57 : decode cX7_init 57 = .ok (.dup, 1) := by decide +kernel
theorem dX7_init_58 : decode cX7_init 58 = .ok (.invokespecial 35, 3) := by decide +kernel
theorem dX7_init_61 : decode cX7_init 61 = .ok (.putfield 36, 3) := by decide +kernel
theorem dX7_init_64 : decode cX7_init 64 = .ok (.aload_n 0, 1) := by decide +kernel
theorem dX7_init_65 : decode cX7_init 65 = .ok (.iconst 4, 1) := by decide +kernel
theorem dX7_init_66 : decode cX7_init 66 = .ok (.anewarray 40, 3) := by decide +kernel
theorem dX7_init_69 : decode cX7_init 69 = .ok (.putfield 42, 3) := by decide +kernel
theorem dX7_init_72 : decode cX7_init 72 = .ok (.aload_n 0, 1) := by decide +kernel
theorem dX7_init_73 : decode cX7_init 73 = .ok (.iconst 5, 1) := by decide +kernel
theorem dX7_init_74 : decode cX7_init 74 = .ok (.anewarray 46, 3) := by decide +kernel
theorem dX7_init_77 : decode cX7_init 77 = .ok (.putfield 48, 3) := by decide +kernel
theorem dX7_init_80 : decode cX7_init 80 = .ok (.aload_n 0, 1) := by decide +kernel
theorem dX7_init_81 : decode cX7_init 81 = .ok (.bipush 60, 2) := by decide +kernel
theorem dX7_init_83 : decode cX7_init 83 = .ok (.newarray .int, 2) := by decide +kernel
theorem dX7_init_85 : decode cX7_init 85 = .ok (.putfield 52, 3) := by decide +kernel
theorem dX7_init_88 : decode cX7_init 88 = .ok (.aload_n 0, 1) := by decide +kernel
theorem dX7_init_89 : decode cX7_init 89 = .ok (.iconst 0, 1) := by decide +kernel
theorem dX7_init_90 : decode cX7_init 90 = .ok (.putfield 56, 3) := by decide +kernel
theorem dX7_init_93 : decode cX7_init 93 = .ok (.aload_n 0, 1) := by decide +kernel
theorem dX7_init_94 : decode cX7_init 94 = .ok (.bipush 10, 2) := by decide +kernel
theorem dX7_init_96 : decode cX7_init 96 = .ok (.newarray .int, 2) := by decide +kernel
theorem dX7_init_98 : decode cX7_init 98 = .ok (.putfield 60, 3) := by decide +kernel
theorem dX7_init_101 : decode cX7_init 101 = .ok (.iconst 0, 1) := by decide +kernel
theorem dX7_init_102 : decode cX7_init 102 = .ok (.istore_n 1, 1) := by decide +kernel
theorem dX7_init_103 : decode cX7_init 103 = .ok (.iload_n 1, 1) := by decide +kernel
theorem dX7_init_104 : decode cX7_init 104 = .ok (.iconst 4, 1) := by decide +kernel
theorem dX7_init_105 : decode cX7_init 105 = .ok (.if_icmp .ge 22, 3) := by decide +kernel
theorem dX7_init_108 : decode cX7_init 108 = .ok (.aload_n 0, 1) := by decide +kernel
theorem dX7_init_109 : decode cX7_init 109 = .ok (.getfield 42, 3) := by decide +kernel
theorem dX7_init_112 : decode cX7_init 112 = .ok (.iload_n 1, 1) := by decide +kernel
theorem dX7_init_113 : decode cX7_init 113 = .ok (.new 40, 3) := by decide +kernel
theorem dX7_init_116 : decode cX7_init 116 = .ok (.dup, 1) := by decide +kernel
theorem dX7_init_117 : decode cX7_init 117 = .ok (.invokespecial 63, 3) := by decide +kernel
theorem dX7_init_120 : decode cX7_init 120 = .ok (.aastore, 1) := by decide +kernel
theorem dX7_init_121 : decode cX7_init 121 = .ok (.iinc 1 1, 3) := by decide +kernel
theorem dX7_init_124 : decode cX7_init 124 = .ok (.goto (-21), 3) := by decide +kernel
theorem dX7_init_127 : decode cX7_init 127 = .ok (.iconst 0, 1) := by decide +kernel
theorem dX7_init_128 : decode cX7_init 128 = .ok (.istore_n 1, 1) := by decide +kernel
theorem dX7_init_129 : decode cX7_init 129 = .ok (.iload_n 1, 1) := by decide +kernel
theorem dX7_init_130 : decode cX7_init 130 = .ok (.iconst 5, 1) := by decide +kernel
theorem dX7_init_131 : decode cX7_init 131 = .ok (.if_icmp .ge 22, 3) := by decide +kernel
theorem dX7_init_134 : decode cX7_init 134 = .ok (.aload_n 0, 1) := by decide +kernel
theorem dX7_init_135 : decode cX7_init 135 = .ok (.getfield 48, 3) := by decide +kernel
theorem dX7_init_138 : decode cX7_init 138 = .ok (.iload_n 1, 1) := by decide +kernel
theorem dX7_init_139 : decode cX7_init 139 = .ok (.new 46, 3) := by decide +kernel
theorem dX7_init_142 : decode cX7_init 142 = .ok (.dup, 1) := by decide +kernel
theorem dX7_init_143 : decode cX7_init 143 = .ok (.invokespecial 64, 3) := by decide +kernel
theorem dX7_init_146 : decode cX7_init 146 = .ok (.aastore, 1) := by decide +kernel
theorem dX7_init_147 : decode cX7_init 147 = .ok (.iinc 1 1, 3) := by decide +kernel
theorem dX7_init_150 : decode cX7_init 150 = .ok (.goto (-21), 3) := by decide +kernel
theorem dX7_init_153 : decode cX7_init 153 = .ok (.return_, 1) := by decide +kernel
theorem dX7_hole_0 : decode cX7_hole 0 = .ok (.iload_n 1, 1) := by decide +kernel
theorem dX7_hole_1 : decode cX7_hole 1 = .ok (.iconst 5, 1) := by decide +kernel
theorem dX7_hole_2 : decode cX7_hole 2 = .ok (.invokestatic 65, 3) := by decide +kernel
theorem dX7_hole_5 : decode cX7_hole 5 = .ok (.ifCond .eq 12, 3) := by decide +kernel
theorem dX7_hole_8 : decode cX7_hole 8 = .ok (.iload_n 2, 1) := by decide +kernel
theorem dX7_hole_9 : decode cX7_hole 9 = .ok (.bipush 29, 2) := by decide +kernel
theorem dX7_hole_11 : decode cX7_hole 11 = .ok (.invokestatic 65, 3) := by decide +kernel
theorem dX7_hole_14 : decode cX7_hole 14 = .ok (.ifCond .ne 6, 3) := by decide +kernel
theorem dX7_hole_17 : decode cX7_hole 17 = .ok (.ldc 69, 2) := by decide +kernel
theorem dX7_hole_19 : decode cX7_hole 19 = .ok (.ireturn, 1) := by decide +kernel
theorem dX7_hole_20 : decode cX7_hole 20 = .ok (.iload_n 3, 1) := by decide +kernel
theorem dX7_hole_21 : decode cX7_hole 21 = .ok (.bipush 99, 2) := by decide +kernel
theorem dX7_hole_23 : decode cX7_hole 23 = .ok (.invokestatic 65, 3) := by decide +kernel
theorem dX7_hole_26 : decode cX7_hole 26 = .ok (.ifCond .eq 13, 3) := by decide +kernel
theorem dX7_hole_29 : decode cX7_hole 29 = .ok (.iload 4, 2) := by decide +kernel
theorem dX7_hole_31 : decode cX7_hole 31 = .ok (.bipush 7, 2) := by decide +kernel
theorem dX7_hole_33 : decode cX7_hole 33 = .ok (.invokestatic 65, 3) := by decide +kernel
theorem dX7_hole_36 : decode cX7_hole 36 = .ok (.ifCond .ne 6, 3) := by decide +kernel
theorem dX7_hole_39 : decode cX7_hole 39 = .ok (.ldc 69, 2) := by decide +kernel
theorem dX7_hole_41 : decode cX7_hole 41 = .ok (.ireturn, 1) := by decide +kernel
theorem dX7_hole_42 : decode cX7_hole 42 = .ok (.aload_n 0, 1) := by decide +kernel
theorem dX7_hole_43 : decode cX7_hole 43 = .ok (.getfield 10, 3) := by decide +kernel
theorem dX7_hole_46 : decode cX7_hole 46 = .ok (.getfield 70, 3) := by decide +kernel
theorem dX7_hole_49 : decode cX7_hole 49 = .ok (.bipush 10, 2) := by decide +kernel
theorem dX7_hole_51 : decode cX7_hole 51 = .ok (.if_icmp .lt 6, 3) := by decide +kernel
theorem dX7_hole_54 : decode cX7_hole 54 = .ok (.ldc 73, 2) := by decide +kernel
theorem dX7_hole_56 : decode cX7_hole 56 = .ok (.ireturn, 1) := by decide +kernel
theorem dX7_hole_57 : decode cX7_hole 57 = .ok (.aload_n 0, 1) := by decide +kernel
theorem dX7_hole_58 : decode cX7_hole 58 = .ok (.getfield 10, 3) := by decide +kernel
theorem dX7_hole_61 : decode cX7_hole 61 = .ok (.iload_n 1, 1) := by decide +kernel
theorem dX7_hole_62 : decode cX7_hole 62 = .ok (.iload_n 2, 1) := by decide +kernel
theorem dX7_hole_63 : decode cX7_hole 63 = .ok (.iload_n 3, 1) := by decide +kernel
theorem dX7_hole_64 : decode cX7_hole 64 = .ok (.iload 4, 2) := by decide +kernel
theorem dX7_hole_66 : decode cX7_hole 66 = .ok (.invokevirtual 74, 3) := by decide +kernel
theorem dX7_hole_69 : decode cX7_hole 69 = .ok (.ireturn, 1) := by decide +kernel
theorem dX7_told_0 : decode cX7_told 0 = .ok (.aload_n 0, 1) := by decide +kernel
theorem dX7_told_1 : decode cX7_told 1 = .ok (.getfield 10, 3) := by decide +kernel
theorem dX7_told_4 : decode cX7_told 4 = .ok (.iload_n 1, 1) := by decide +kernel
theorem dX7_told_5 : decode cX7_told 5 = .ok (.invokevirtual 78, 3) := by decide +kernel
theorem dX7_told_8 : decode cX7_told 8 = .ok (.astore_n 3, 1) := by decide +kernel
theorem dX7_told_9 : decode cX7_told 9 = .ok (.aload_n 3, 1) := by decide +kernel
theorem dX7_told_10 : decode cX7_told 10 = .ok (.ifnull 11, 3) := by decide +kernel
theorem dX7_told_13 : decode cX7_told 13 = .ok (.iload_n 2, 1) := by decide +kernel
theorem dX7_told_14 : decode cX7_told 14 = .ok (.iconst 5, 1) := by decide +kernel
theorem dX7_told_15 : decode cX7_told 15 = .ok (.invokestatic 65, 3) := by decide +kernel
theorem dX7_told_18 : decode cX7_told 18 = .ok (.ifCond .ne 6, 3) := by decide +kernel
theorem dX7_told_21 : decode cX7_told 21 = .ok (.ldc 69, 2) := by decide +kernel
theorem dX7_told_23 : decode cX7_told 23 = .ok (.ireturn, 1) := by decide +kernel
theorem dX7_told_24 : decode cX7_told 24 = .ok (.aload_n 3, 1) := by decide +kernel
theorem dX7_told_25 : decode cX7_told 25 = .ok (.iload_n 2, 1) := by decide +kernel
theorem dX7_told_26 : decode cX7_told 26 = .ok (.invokevirtual 82, 3) := by decide +kernel
theorem dX7_told_29 : decode cX7_told 29 = .ok (.ireturn, 1) := by decide +kernel
theorem dX7_as_0 : decode cX7_as 0 = .ok (.aload_n 0, 1) := by decide +kernel
theorem dX7_as_1 : decode cX7_as 1 = .ok (.getfield 10, 3) := by decide +kernel
theorem dX7_as_4 : decode cX7_as 4 = .ok (.iload_n 1, 1) := by decide +kernel
theorem dX7_as_5 : decode cX7_as 5 = .ok (.invokevirtual 78, 3) := by decide +kernel
theorem dX7_as_8 : decode cX7_as 8 = .ok (.astore_n 3, 1) := by decide +kernel
theorem dX7_as_9 : decode cX7_as 9 = .ok (.aload_n 3, 1) := by decide +kernel
theorem dX7_as_10 : decode cX7_as 10 = .ok (.ifnull 11, 3) := by decide +kernel
theorem dX7_as_13 : decode cX7_as 13 = .ok (.iload_n 2, 1) := by decide +kernel
theorem dX7_as_14 : decode cX7_as 14 = .ok (.iconst 5, 1) := by decide +kernel
theorem dX7_as_15 : decode cX7_as 15 = .ok (.invokestatic 65, 3) := by decide +kernel
theorem dX7_as_18 : decode cX7_as 18 = .ok (.ifCond .ne 6, 3) := by decide +kernel
theorem dX7_as_21 : decode cX7_as 21 = .ok (.ldc 69, 2) := by decide +kernel
theorem dX7_as_23 : decode cX7_as 23 = .ok (.ireturn, 1) := by decide +kernel
theorem dX7_as_24 : decode cX7_as 24 = .ok (.aload_n 3, 1) := by decide +kernel
theorem dX7_as_25 : decode cX7_as 25 = .ok (.iload_n 2, 1) := by decide +kernel
theorem dX7_as_26 : decode cX7_as 26 = .ok (.invokevirtual 88, 3) := by decide +kernel
theorem dX7_as_29 : decode cX7_as 29 = .ok (.ifCond .eq 10, 3) := by decide +kernel
theorem dX7_as_32 : decode cX7_as 32 = .ok (.aload_n 3, 1) := by decide +kernel
theorem dX7_as_33 : decode cX7_as 33 = .ok (.getfield 92, 3) := by decide +kernel
theorem dX7_as_36 : decode cX7_as 36 = .ok (.goto 5, 3) := by decide +kernel
theorem dX7_as_39 : decode cX7_as 39 = .ok (.ldc 95, 2) := by decide +kernel
theorem dX7_as_41 : decode cX7_as 41 = .ok (.ireturn, 1) := by decide +kernel
theorem dX7_turns_0 : decode cX7_turns 0 = .ok (.aload_n 0, 1) := by decide +kernel
theorem dX7_turns_1 : decode cX7_turns 1 = .ok (.getfield 10, 3) := by decide +kernel
theorem dX7_turns_4 : decode cX7_turns 4 = .ok (.iload_n 1, 1) := by decide +kernel
theorem dX7_turns_5 : decode cX7_turns 5 = .ok (.invokevirtual 78, 3) := by decide +kernel
theorem dX7_turns_8 : decode cX7_turns 8 = .ok (.astore_n 3, 1) := by decide +kernel
theorem dX7_turns_9 : decode cX7_turns 9 = .ok (.aload_n 3, 1) := by decide +kernel
theorem dX7_turns_10 : decode cX7_turns 10 = .ok (.ifnull 11, 3) := by decide +kernel
theorem dX7_turns_13 : decode cX7_turns 13 = .ok (.iload_n 2, 1) := by decide +kernel
theorem dX7_turns_14 : decode cX7_turns 14 = .ok (.iconst 5, 1) := by decide +kernel
theorem dX7_turns_15 : decode cX7_turns 15 = .ok (.invokestatic 65, 3) := by decide +kernel
theorem dX7_turns_18 : decode cX7_turns 18 = .ok (.ifCond .ne 6, 3) := by decide +kernel
theorem dX7_turns_21 : decode cX7_turns 21 = .ok (.ldc 69, 2) := by decide +kernel
theorem dX7_turns_23 : decode cX7_turns 23 = .ok (.ireturn, 1) := by decide +kernel
theorem dX7_turns_24 : decode cX7_turns 24 = .ok (.aload_n 3, 1) := by decide +kernel
theorem dX7_turns_25 : decode cX7_turns 25 = .ok (.getfield 96, 3) := by decide +kernel
theorem dX7_turns_28 : decode cX7_turns 28 = .ok (.istore 4, 2) := by decide +kernel
theorem dX7_turns_30 : decode cX7_turns 30 = .ok (.aload_n 3, 1) := by decide +kernel
theorem dX7_turns_31 : decode cX7_turns 31 = .ok (.iload_n 2, 1) := by decide +kernel
theorem dX7_turns_32 : decode cX7_turns 32 = .ok (.putfield 96, 3) := by decide +kernel
theorem dX7_turns_35 : decode cX7_turns 35 = .ok (.iload 4, 2) := by decide +kernel
theorem dX7_turns_37 : decode cX7_turns 37 = .ok (.ireturn, 1) := by decide +kernel
theorem dX7_set_0 : decode cX7_set 0 = .ok (.aload_n 0, 1) := by decide +kernel
theorem dX7_set_1 : decode cX7_set 1 = .ok (.getfield 10, 3) := by decide +kernel
theorem dX7_set_4 : decode cX7_set 4 = .ok (.iload_n 1, 1) := by decide +kernel
theorem dX7_set_5 : decode cX7_set 5 = .ok (.invokevirtual 78, 3) := by decide +kernel
theorem dX7_set_8 : decode cX7_set 8 = .ok (.astore 4, 2) := by decide +kernel
theorem dX7_set_10 : decode cX7_set 10 = .ok (.aload 4, 2) := by decide +kernel
theorem dX7_set_12 : decode cX7_set 12 = .ok (.ifnull 14, 3) := by decide +kernel
theorem dX7_set_15 : decode cX7_set 15 = .ok (.iload_n 3, 1) := by decide +kernel
theorem dX7_set_16 : decode cX7_set 16 = .ok (.iload_n 2, 1) := by decide +kernel
theorem dX7_set_17 : decode cX7_set 17 = .ok (.invokestatic 99, 3) := by decide +kernel
theorem dX7_set_20 : decode cX7_set 20 = .ok (.invokestatic 65, 3) := by decide +kernel
theorem dX7_set_23 : decode cX7_set 23 = .ok (.ifCond .ne 6, 3) := by decide +kernel
theorem dX7_set_26 : decode cX7_set 26 = .ok (.ldc 69, 2) := by decide +kernel
theorem dX7_set_28 : decode cX7_set 28 = .ok (.ireturn, 1) := by decide +kernel
theorem dX7_set_29 : decode cX7_set 29 = .ok (.aload 4, 2) := by decide +kernel
theorem dX7_set_31 : decode cX7_set 31 = .ok (.iload_n 2, 1) := by decide +kernel
theorem dX7_set_32 : decode cX7_set 32 = .ok (.invokevirtual 82, 3) := by decide +kernel
theorem dX7_set_35 : decode cX7_set 35 = .ok (.istore 5, 2) := by decide +kernel
theorem dX7_set_37 : decode cX7_set 37 = .ok (.aload 4, 2) := by decide +kernel
theorem dX7_set_39 : decode cX7_set 39 = .ok (.iload_n 2, 1) := by decide +kernel
theorem dX7_set_40 : decode cX7_set 40 = .ok (.iload_n 3, 1) := by decide +kernel
theorem dX7_set_41 : decode cX7_set 41 = .ok (.invokevirtual 102, 3) := by decide +kernel
theorem dX7_set_44 : decode cX7_set 44 = .ok (.iload 5, 2) := by decide +kernel
theorem dX7_set_46 : decode cX7_set 46 = .ok (.ireturn, 1) := by decide +kernel
theorem dX7_settles_0 : decode cX7_settles 0 = .ok (.aload_n 0, 1) := by decide +kernel
theorem dX7_settles_1 : decode cX7_settles 1 = .ok (.getfield 10, 3) := by decide +kernel
theorem dX7_settles_4 : decode cX7_settles 4 = .ok (.iload_n 1, 1) := by decide +kernel
theorem dX7_settles_5 : decode cX7_settles 5 = .ok (.invokevirtual 78, 3) := by decide +kernel
theorem dX7_settles_8 : decode cX7_settles 8 = .ok (.astore_n 3, 1) := by decide +kernel
theorem dX7_settles_9 : decode cX7_settles 9 = .ok (.aload_n 3, 1) := by decide +kernel
theorem dX7_settles_10 : decode cX7_settles 10 = .ok (.ifnull 12, 3) := by decide +kernel
theorem dX7_settles_13 : decode cX7_settles 13 = .ok (.iload_n 2, 1) := by decide +kernel
theorem dX7_settles_14 : decode cX7_settles 14 = .ok (.bipush 9, 2) := by decide +kernel
theorem dX7_settles_16 : decode cX7_settles 16 = .ok (.invokestatic 65, 3) := by decide +kernel
theorem dX7_settles_19 : decode cX7_settles 19 = .ok (.ifCond .ne 6, 3) := by decide +kernel
theorem dX7_settles_22 : decode cX7_settles 22 = .ok (.ldc 69, 2) := by decide +kernel
theorem dX7_settles_24 : decode cX7_settles 24 = .ok (.ireturn, 1) := by decide +kernel
theorem dX7_settles_25 : decode cX7_settles 25 = .ok (.aload_n 0, 1) := by decide +kernel
theorem dX7_settles_26 : decode cX7_settles 26 = .ok (.getfield 10, 3) := by decide +kernel
theorem dX7_settles_29 : decode cX7_settles 29 = .ok (.aload_n 3, 1) := by decide +kernel
theorem dX7_settles_30 : decode cX7_settles 30 = .ok (.iload_n 2, 1) := by decide +kernel
theorem dX7_settles_31 : decode cX7_settles 31 = .ok (.invokevirtual 106, 3) := by decide +kernel
theorem dX7_settles_34 : decode cX7_settles 34 = .ok (.ireturn, 1) := by decide +kernel
theorem dX7_rule_0 : decode cX7_rule 0 = .ok (.iload_n 1, 1) := by decide +kernel
theorem dX7_rule_1 : decode cX7_rule 1 = .ok (.ifCond .ne 30, 3) := by decide +kernel
theorem dX7_rule_4 : decode cX7_rule 4 = .ok (.iload_n 2, 1) := by decide +kernel
theorem dX7_rule_5 : decode cX7_rule 5 = .ok (.bipush 29, 2) := by decide +kernel
theorem dX7_rule_7 : decode cX7_rule 7 = .ok (.invokestatic 65, 3) := by decide +kernel
theorem dX7_rule_10 : decode cX7_rule 10 = .ok (.ifCond .eq 21, 3) := by decide +kernel
theorem dX7_rule_13 : decode cX7_rule 13 = .ok (.aload_n 0, 1) := by decide +kernel
theorem dX7_rule_14 : decode cX7_rule 14 = .ok (.getfield 10, 3) := by decide +kernel
theorem dX7_rule_17 : decode cX7_rule 17 = .ok (.getfield 110, 3) := by decide +kernel
theorem dX7_rule_20 : decode cX7_rule 20 = .ok (.istore_n 3, 1) := by decide +kernel
theorem dX7_rule_21 : decode cX7_rule 21 = .ok (.aload_n 0, 1) := by decide +kernel
theorem dX7_rule_22 : decode cX7_rule 22 = .ok (.getfield 10, 3) := by decide +kernel
theorem dX7_rule_25 : decode cX7_rule 25 = .ok (.iload_n 2, 1) := by decide +kernel
theorem dX7_rule_26 : decode cX7_rule 26 = .ok (.putfield 110, 3) := by decide +kernel
theorem dX7_rule_29 : decode cX7_rule 29 = .ok (.iload_n 3, 1) := by decide +kernel
theorem dX7_rule_30 : decode cX7_rule 30 = .ok (.ireturn, 1) := by decide +kernel
theorem dX7_rule_31 : decode cX7_rule 31 = .ok (.iload_n 1, 1) := by decide +kernel
theorem dX7_rule_32 : decode cX7_rule 32 = .ok (.iconst 1, 1) := by decide +kernel
theorem dX7_rule_33 : decode cX7_rule 33 = .ok (.if_icmp .ne 34, 3) := by decide +kernel
theorem dX7_rule_36 : decode cX7_rule 36 = .ok (.iload_n 2, 1) := by decide +kernel
theorem dX7_rule_37 : decode cX7_rule 37 = .ok (.bipush 50, 2) := by decide +kernel
theorem dX7_rule_39 : decode cX7_rule 39 = .ok (.if_icmp .lt 28, 3) := by decide +kernel
theorem dX7_rule_42 : decode cX7_rule 42 = .ok (.iload_n 2, 1) := by decide +kernel
theorem dX7_rule_43 : decode cX7_rule 43 = .ok (.sipush 200, 3) := by decide +kernel
theorem dX7_rule_46 : decode cX7_rule 46 = .ok (.if_icmp .gt 21, 3) := by decide +kernel
theorem dX7_rule_49 : decode cX7_rule 49 = .ok (.aload_n 0, 1) := by decide +kernel
theorem dX7_rule_50 : decode cX7_rule 50 = .ok (.getfield 10, 3) := by decide +kernel
theorem dX7_rule_53 : decode cX7_rule 53 = .ok (.getfield 113, 3) := by decide +kernel
theorem dX7_rule_56 : decode cX7_rule 56 = .ok (.istore_n 3, 1) := by decide +kernel
theorem dX7_rule_57 : decode cX7_rule 57 = .ok (.aload_n 0, 1) := by decide +kernel
theorem dX7_rule_58 : decode cX7_rule 58 = .ok (.getfield 10, 3) := by decide +kernel
theorem dX7_rule_61 : decode cX7_rule 61 = .ok (.iload_n 2, 1) := by decide +kernel
theorem dX7_rule_62 : decode cX7_rule 62 = .ok (.putfield 113, 3) := by decide +kernel
theorem dX7_rule_65 : decode cX7_rule 65 = .ok (.iload_n 3, 1) := by decide +kernel
theorem dX7_rule_66 : decode cX7_rule 66 = .ok (.ireturn, 1) := by decide +kernel
theorem dX7_rule_67 : decode cX7_rule 67 = .ok (.ldc 69, 2) := by decide +kernel
theorem dX7_rule_69 : decode cX7_rule 69 = .ok (.ireturn, 1) := by decide +kernel
theorem dX7_deal_0 : decode cX7_deal 0 = .ok (.iload_n 1, 1) := by decide +kernel
theorem dX7_deal_1 : decode cX7_deal 1 = .ok (.iconst 1, 1) := by decide +kernel
theorem dX7_deal_2 : decode cX7_deal 2 = .ok (.if_icmp .lt 9, 3) := by decide +kernel
theorem dX7_deal_5 : decode cX7_deal 5 = .ok (.iload_n 1, 1) := by decide +kernel
theorem dX7_deal_6 : decode cX7_deal 6 = .ok (.bipush 10, 2) := by decide +kernel
theorem dX7_deal_8 : decode cX7_deal 8 = .ok (.if_icmp .le 6, 3) := by decide +kernel
theorem dX7_deal_11 : decode cX7_deal 11 = .ok (.ldc 69, 2) := by decide +kernel
theorem dX7_deal_13 : decode cX7_deal 13 = .ok (.ireturn, 1) := by decide +kernel
theorem dX7_deal_14 : decode cX7_deal 14 = .ok (.iload_n 1, 1) := by decide +kernel
theorem dX7_deal_15 : decode cX7_deal 15 = .ok (.bipush 10, 2) := by decide +kernel
theorem dX7_deal_17 : decode cX7_deal 17 = .ok (.aload_n 0, 1) := by decide +kernel
theorem dX7_deal_18 : decode cX7_deal 18 = .ok (.getfield 10, 3) := by decide +kernel
theorem dX7_deal_21 : decode cX7_deal 21 = .ok (.getfield 70, 3) := by decide +kernel
theorem dX7_deal_24 : decode cX7_deal 24 = .ok (.isub, 1) := by decide +kernel
theorem dX7_deal_25 : decode cX7_deal 25 = .ok (.invokestatic 116, 3) := by decide +kernel
theorem dX7_deal_28 : decode cX7_deal 28 = .ok (.istore_n 2, 1) := by decide +kernel
theorem dX7_deal_29 : decode cX7_deal 29 = .ok (.iconst 0, 1) := by decide +kernel
theorem dX7_deal_30 : decode cX7_deal 30 = .ok (.istore_n 3, 1) := by decide +kernel
theorem dX7_deal_31 : decode cX7_deal 31 = .ok (.iload_n 3, 1) := by decide +kernel
theorem dX7_deal_32 : decode cX7_deal 32 = .ok (.iload_n 2, 1) := by decide +kernel
theorem dX7_deal_33 : decode cX7_deal 33 = .ok (.if_icmp .ge 16, 3) := by decide +kernel
theorem dX7_deal_36 : decode cX7_deal 36 = .ok (.aload_n 0, 1) := by decide +kernel
theorem dX7_deal_37 : decode cX7_deal 37 = .ok (.getfield 10, 3) := by decide +kernel
theorem dX7_deal_40 : decode cX7_deal 40 = .ok (.invokevirtual 122, 3) := by decide +kernel
theorem dX7_deal_43 : decode cX7_deal 43 = .ok (.iinc 3 1, 3) := by decide +kernel
theorem dX7_deal_46 : decode cX7_deal 46 = .ok (.goto (-15), 3) := by decide +kernel
theorem dX7_deal_49 : decode cX7_deal 49 = .ok (.iload_n 2, 1) := by decide +kernel
theorem dX7_deal_50 : decode cX7_deal 50 = .ok (.ireturn, 1) := by decide +kernel
theorem dX7_seed_0 : decode cX7_seed 0 = .ok (.aload_n 0, 1) := by decide +kernel
theorem dX7_seed_1 : decode cX7_seed 1 = .ok (.getfield 10, 3) := by decide +kernel
theorem dX7_seed_4 : decode cX7_seed 4 = .ok (.getfield 125, 3) := by decide +kernel
theorem dX7_seed_7 : decode cX7_seed 7 = .ok (.istore_n 2, 1) := by decide +kernel
theorem dX7_seed_8 : decode cX7_seed 8 = .ok (.aload_n 0, 1) := by decide +kernel
theorem dX7_seed_9 : decode cX7_seed 9 = .ok (.getfield 10, 3) := by decide +kernel
theorem dX7_seed_12 : decode cX7_seed 12 = .ok (.iload_n 1, 1) := by decide +kernel
theorem dX7_seed_13 : decode cX7_seed 13 = .ok (.putfield 125, 3) := by decide +kernel
theorem dX7_seed_16 : decode cX7_seed 16 = .ok (.iload_n 2, 1) := by decide +kernel
theorem dX7_seed_17 : decode cX7_seed 17 = .ok (.ireturn, 1) := by decide +kernel
theorem dX7_takes_0 : decode cX7_takes 0 = .ok (.iload_n 1, 1) := by decide +kernel
theorem dX7_takes_1 : decode cX7_takes 1 = .ok (.bipush 29, 2) := by decide +kernel
theorem dX7_takes_3 : decode cX7_takes 3 = .ok (.invokestatic 65, 3) := by decide +kernel
theorem dX7_takes_6 : decode cX7_takes 6 = .ok (.ifCond .eq 10, 3) := by decide +kernel
theorem dX7_takes_9 : decode cX7_takes 9 = .ok (.iload_n 2, 1) := by decide +kernel
theorem dX7_takes_10 : decode cX7_takes 10 = .ok (.invokestatic 128, 3) := by decide +kernel
theorem dX7_takes_13 : decode cX7_takes 13 = .ok (.ifCond .ne 6, 3) := by decide +kernel
theorem dX7_takes_16 : decode cX7_takes 16 = .ok (.ldc 69, 2) := by decide +kernel
theorem dX7_takes_18 : decode cX7_takes 18 = .ok (.ireturn, 1) := by decide +kernel
theorem dX7_takes_19 : decode cX7_takes 19 = .ok (.aload_n 0, 1) := by decide +kernel
theorem dX7_takes_20 : decode cX7_takes 20 = .ok (.getfield 10, 3) := by decide +kernel
theorem dX7_takes_23 : decode cX7_takes 23 = .ok (.iload_n 2, 1) := by decide +kernel
theorem dX7_takes_24 : decode cX7_takes 24 = .ok (.invokevirtual 131, 3) := by decide +kernel
theorem dX7_takes_27 : decode cX7_takes 27 = .ok (.istore_n 3, 1) := by decide +kernel
theorem dX7_takes_28 : decode cX7_takes 28 = .ok (.iconst 0, 1) := by decide +kernel
theorem dX7_takes_29 : decode cX7_takes 29 = .ok (.istore 4, 2) := by decide +kernel
theorem dX7_takes_31 : decode cX7_takes 31 = .ok (.iconst 0, 1) := by decide +kernel
theorem dX7_takes_32 : decode cX7_takes 32 = .ok (.istore 5, 2) := by decide +kernel
theorem dX7_takes_34 : decode cX7_takes 34 = .ok (.iload 5, 2) := by decide +kernel
theorem dX7_takes_36 : decode cX7_takes 36 = .ok (.aload_n 0, 1) := by decide +kernel
theorem dX7_takes_37 : decode cX7_takes 37 = .ok (.getfield 10, 3) := by decide +kernel
theorem dX7_takes_40 : decode cX7_takes 40 = .ok (.getfield 70, 3) := by decide +kernel
theorem dX7_takes_43 : decode cX7_takes 43 = .ok (.if_icmp .ge 40, 3) := by decide +kernel
theorem dX7_takes_46 : decode cX7_takes 46 = .ok (.aload_n 0, 1) := by decide +kernel
theorem dX7_takes_47 : decode cX7_takes 47 = .ok (.getfield 10, 3) := by decide +kernel
theorem dX7_takes_50 : decode cX7_takes 50 = .ok (.aload_n 0, 1) := by decide +kernel
theorem dX7_takes_51 : decode cX7_takes 51 = .ok (.getfield 10, 3) := by decide +kernel
theorem dX7_takes_54 : decode cX7_takes 54 = .ok (.getfield 134, 3) := by decide +kernel
theorem dX7_takes_57 : decode cX7_takes 57 = .ok (.iload 5, 2) := by decide +kernel
theorem dX7_takes_59 : decode cX7_takes 59 = .ok (.aaload, 1) := by decide +kernel
theorem dX7_takes_60 : decode cX7_takes 60 = .ok (.iload_n 3, 1) := by decide +kernel
theorem dX7_takes_61 : decode cX7_takes 61 = .ok (.iload_n 1, 1) := by decide +kernel
theorem dX7_takes_62 : decode cX7_takes 62 = .ok (.invokevirtual 138, 3) := by decide +kernel
theorem dX7_takes_65 : decode cX7_takes 65 = .ok (.ifCond .eq 12, 3) := by decide +kernel
theorem dX7_takes_68 : decode cX7_takes 68 = .ok (.iload 4, 2) := by decide +kernel
theorem dX7_takes_70 : decode cX7_takes 70 = .ok (.iconst 1, 1) := by decide +kernel
theorem dX7_takes_71 : decode cX7_takes 71 = .ok (.iload 5, 2) := by decide +kernel
theorem dX7_takes_73 : decode cX7_takes 73 = .ok (.ishl, 1) := by decide +kernel
theorem dX7_takes_74 : decode cX7_takes 74 = .ok (.ior, 1) := by decide +kernel
theorem dX7_takes_75 : decode cX7_takes 75 = .ok (.istore 4, 2) := by decide +kernel
theorem dX7_takes_77 : decode cX7_takes 77 = .ok (.iinc 5 1, 3) := by decide +kernel
theorem dX7_takes_80 : decode cX7_takes 80 = .ok (.goto (-46), 3) := by decide +kernel
theorem dX7_takes_83 : decode cX7_takes 83 = .ok (.iload 4, 2) := by decide +kernel
theorem dX7_takes_85 : decode cX7_takes 85 = .ok (.ireturn, 1) := by decide +kernel
theorem dX7_dig_0 : decode cX7_dig 0 = .ok (.aload_n 0, 1) := by decide +kernel
theorem dX7_dig_1 : decode cX7_dig 1 = .ok (.getfield 10, 3) := by decide +kernel
theorem dX7_dig_4 : decode cX7_dig 4 = .ok (.iload_n 3, 1) := by decide +kernel
theorem dX7_dig_5 : decode cX7_dig 5 = .ok (.invokevirtual 78, 3) := by decide +kernel
theorem dX7_dig_8 : decode cX7_dig 8 = .ok (.astore 5, 2) := by decide +kernel
theorem dX7_dig_10 : decode cX7_dig 10 = .ok (.aload 5, 2) := by decide +kernel
theorem dX7_dig_12 : decode cX7_dig 12 = .ok (.ifnull 29, 3) := by decide +kernel
theorem dX7_dig_15 : decode cX7_dig 15 = .ok (.iload_n 1, 1) := by decide +kernel
theorem dX7_dig_16 : decode cX7_dig 16 = .ok (.bipush 29, 2) := by decide +kernel
theorem dX7_dig_18 : decode cX7_dig 18 = .ok (.invokestatic 65, 3) := by decide +kernel
theorem dX7_dig_21 : decode cX7_dig 21 = .ok (.ifCond .eq 20, 3) := by decide +kernel
theorem dX7_dig_24 : decode cX7_dig 24 = .ok (.iload_n 2, 1) := by decide +kernel
theorem dX7_dig_25 : decode cX7_dig 25 = .ok (.invokestatic 128, 3) := by decide +kernel
theorem dX7_dig_28 : decode cX7_dig 28 = .ok (.ifCond .eq 13, 3) := by decide +kernel
theorem dX7_dig_31 : decode cX7_dig 31 = .ok (.iload 4, 2) := by decide +kernel
theorem dX7_dig_33 : decode cX7_dig 33 = .ok (.bipush 7, 2) := by decide +kernel
theorem dX7_dig_35 : decode cX7_dig 35 = .ok (.invokestatic 65, 3) := by decide +kernel
theorem dX7_dig_38 : decode cX7_dig 38 = .ok (.ifCond .ne 6, 3) := by decide +kernel
theorem dX7_dig_41 : decode cX7_dig 41 = .ok (.ldc 69, 2) := by decide +kernel
theorem dX7_dig_43 : decode cX7_dig 43 = .ok (.ireturn, 1) := by decide +kernel
theorem dX7_dig_44 : decode cX7_dig 44 = .ok (.aload_n 0, 1) := by decide +kernel
theorem dX7_dig_45 : decode cX7_dig 45 = .ok (.getfield 10, 3) := by decide +kernel
theorem dX7_dig_48 : decode cX7_dig 48 = .ok (.iload_n 2, 1) := by decide +kernel
theorem dX7_dig_49 : decode cX7_dig 49 = .ok (.invokevirtual 131, 3) := by decide +kernel
theorem dX7_dig_52 : decode cX7_dig 52 = .ok (.istore 6, 2) := by decide +kernel
theorem dX7_dig_54 : decode cX7_dig 54 = .ok (.aload_n 0, 1) := by decide +kernel
theorem dX7_dig_55 : decode cX7_dig 55 = .ok (.getfield 10, 3) := by decide +kernel
theorem dX7_dig_58 : decode cX7_dig 58 = .ok (.aload 5, 2) := by decide +kernel
theorem dX7_dig_60 : decode cX7_dig 60 = .ok (.iload 6, 2) := by decide +kernel
theorem dX7_dig_62 : decode cX7_dig 62 = .ok (.iload_n 1, 1) := by decide +kernel
theorem dX7_dig_63 : decode cX7_dig 63 = .ok (.invokevirtual 138, 3) := by decide +kernel
theorem dX7_dig_66 : decode cX7_dig 66 = .ok (.ifCond .ne 6, 3) := by decide +kernel
theorem dX7_dig_69 : decode cX7_dig 69 = .ok (.ldc 142, 2) := by decide +kernel
theorem dX7_dig_71 : decode cX7_dig 71 = .ok (.ireturn, 1) := by decide +kernel
theorem dX7_dig_72 : decode cX7_dig 72 = .ok (.aload_n 0, 1) := by decide +kernel
theorem dX7_dig_73 : decode cX7_dig 73 = .ok (.getfield 10, 3) := by decide +kernel
theorem dX7_dig_76 : decode cX7_dig 76 = .ok (.aload 5, 2) := by decide +kernel
theorem dX7_dig_78 : decode cX7_dig 78 = .ok (.iload 6, 2) := by decide +kernel
theorem dX7_dig_80 : decode cX7_dig 80 = .ok (.invokevirtual 143, 3) := by decide +kernel
theorem dX7_dig_83 : decode cX7_dig 83 = .ok (.istore 7, 2) := by decide +kernel
theorem dX7_dig_85 : decode cX7_dig 85 = .ok (.iload 7, 2) := by decide +kernel
theorem dX7_dig_87 : decode cX7_dig 87 = .ok (.ifCond .lt 10, 3) := by decide +kernel
theorem dX7_dig_90 : decode cX7_dig 90 = .ok (.iload 7, 2) := by decide +kernel
theorem dX7_dig_92 : decode cX7_dig 92 = .ok (.bipush 10, 2) := by decide +kernel
theorem dX7_dig_94 : decode cX7_dig 94 = .ok (.if_icmp .lt 6, 3) := by decide +kernel
theorem dX7_dig_97 : decode cX7_dig 97 = .ok (.ldc 73, 2) := by decide +kernel
theorem dX7_dig_99 : decode cX7_dig 99 = .ok (.ireturn, 1) := by decide +kernel
theorem dX7_dig_100 : decode cX7_dig 100 = .ok (.aload 5, 2) := by decide +kernel
theorem dX7_dig_102 : decode cX7_dig 102 = .ok (.dup, 1) := by decide +kernel
theorem dX7_dig_103 : decode cX7_dig 103 = .ok (.getfield 92, 3) := by decide +kernel
theorem dX7_dig_106 : decode cX7_dig 106 = .ok (.iload 6, 2) := by decide +kernel
theorem dX7_dig_108 : decode cX7_dig 108 = .ok (.isub, 1) := by decide +kernel
theorem dX7_dig_109 : decode cX7_dig 109 = .ok (.putfield 92, 3) := by decide +kernel
theorem dX7_dig_112 : decode cX7_dig 112 = .ok (.aload_n 0, 1) := by decide +kernel
theorem dX7_dig_113 : decode cX7_dig 113 = .ok (.getfield 10, 3) := by decide +kernel
theorem dX7_dig_116 : decode cX7_dig 116 = .ok (.dup, 1) := by decide +kernel
theorem dX7_dig_117 : decode cX7_dig 117 = .ok (.getfield 146, 3) := by decide +kernel
theorem dX7_dig_120 : decode cX7_dig 120 = .ok (.iload_n 2, 1) := by decide +kernel
theorem dX7_dig_121 : decode cX7_dig 121 = .ok (.iadd, 1) := by decide +kernel
theorem dX7_dig_122 : decode cX7_dig 122 = .ok (.putfield 146, 3) := by decide +kernel
theorem dX7_dig_125 : decode cX7_dig 125 = .ok (.iload 7, 2) := by decide +kernel
theorem dX7_dig_127 : decode cX7_dig 127 = .ok (.aload_n 0, 1) := by decide +kernel
theorem dX7_dig_128 : decode cX7_dig 128 = .ok (.getfield 10, 3) := by decide +kernel
theorem dX7_dig_131 : decode cX7_dig 131 = .ok (.getfield 70, 3) := by decide +kernel
theorem dX7_dig_134 : decode cX7_dig 134 = .ok (.if_icmp .ne 16, 3) := by decide +kernel
theorem dX7_dig_137 : decode cX7_dig 137 = .ok (.aload_n 0, 1) := by decide +kernel
theorem dX7_dig_138 : decode cX7_dig 138 = .ok (.getfield 10, 3) := by decide +kernel
theorem dX7_dig_141 : decode cX7_dig 141 = .ok (.iconst 0, 1) := by decide +kernel
theorem dX7_dig_142 : decode cX7_dig 142 = .ok (.iload_n 1, 1) := by decide +kernel
theorem dX7_dig_143 : decode cX7_dig 143 = .ok (.iload_n 2, 1) := by decide +kernel
theorem dX7_dig_144 : decode cX7_dig 144 = .ok (.iload 4, 2) := by decide +kernel
theorem dX7_dig_146 : decode cX7_dig 146 = .ok (.invokevirtual 74, 3) := by decide +kernel
theorem dX7_dig_149 : decode cX7_dig 149 = .ok (.ireturn, 1) := by decide +kernel
theorem dX7_dig_150 : decode cX7_dig 150 = .ok (.aload_n 0, 1) := by decide +kernel
theorem dX7_dig_151 : decode cX7_dig 151 = .ok (.getfield 10, 3) := by decide +kernel
theorem dX7_dig_154 : decode cX7_dig 154 = .ok (.getfield 134, 3) := by decide +kernel
theorem dX7_dig_157 : decode cX7_dig 157 = .ok (.iload 7, 2) := by decide +kernel
theorem dX7_dig_159 : decode cX7_dig 159 = .ok (.aaload, 1) := by decide +kernel
theorem dX7_dig_160 : decode cX7_dig 160 = .ok (.iconst 0, 1) := by decide +kernel
theorem dX7_dig_161 : decode cX7_dig 161 = .ok (.iload_n 1, 1) := by decide +kernel
theorem dX7_dig_162 : decode cX7_dig 162 = .ok (.iload_n 2, 1) := by decide +kernel
theorem dX7_dig_163 : decode cX7_dig 163 = .ok (.iload 4, 2) := by decide +kernel
theorem dX7_dig_165 : decode cX7_dig 165 = .ok (.invokevirtual 149, 3) := by decide +kernel
theorem dX7_dig_168 : decode cX7_dig 168 = .ok (.iload 7, 2) := by decide +kernel
theorem dX7_dig_170 : decode cX7_dig 170 = .ok (.ireturn, 1) := by decide +kernel
theorem dX7_want_0 : decode cX7_want 0 = .ok (.iload_n 1, 1) := by decide +kernel
theorem dX7_want_1 : decode cX7_want 1 = .ok (.bipush 29, 2) := by decide +kernel
theorem dX7_want_3 : decode cX7_want 3 = .ok (.invokestatic 65, 3) := by decide +kernel
theorem dX7_want_6 : decode cX7_want 6 = .ok (.ifCond .eq 10, 3) := by decide +kernel
theorem dX7_want_9 : decode cX7_want 9 = .ok (.iload_n 2, 1) := by decide +kernel
theorem dX7_want_10 : decode cX7_want 10 = .ok (.invokestatic 128, 3) := by decide +kernel
theorem dX7_want_13 : decode cX7_want 13 = .ok (.ifCond .ne 6, 3) := by decide +kernel
theorem dX7_want_16 : decode cX7_want 16 = .ok (.ldc 69, 2) := by decide +kernel
theorem dX7_want_18 : decode cX7_want 18 = .ok (.ireturn, 1) := by decide +kernel
theorem dX7_want_19 : decode cX7_want 19 = .ok (.aload_n 0, 1) := by decide +kernel
theorem dX7_want_20 : decode cX7_want 20 = .ok (.getfield 10, 3) := by decide +kernel
theorem dX7_want_23 : decode cX7_want 23 = .ok (.getfield 153, 3) := by decide +kernel
theorem dX7_want_26 : decode cX7_want 26 = .ok (.istore_n 3, 1) := by decide +kernel
theorem dX7_want_27 : decode cX7_want 27 = .ok (.iload_n 3, 1) := by decide +kernel
theorem dX7_want_28 : decode cX7_want 28 = .ok (.bipush 6, 2) := by decide +kernel
theorem dX7_want_30 : decode cX7_want 30 = .ok (.if_icmp .lt 6, 3) := by decide +kernel
theorem dX7_want_33 : decode cX7_want 33 = .ok (.ldc 73, 2) := by decide +kernel
theorem dX7_want_35 : decode cX7_want 35 = .ok (.ireturn, 1) := by decide +kernel
theorem dX7_want_36 : decode cX7_want 36 = .ok (.aload_n 0, 1) := by decide +kernel
theorem dX7_want_37 : decode cX7_want 37 = .ok (.getfield 10, 3) := by decide +kernel
theorem dX7_want_40 : decode cX7_want 40 = .ok (.getfield 156, 3) := by decide +kernel
theorem dX7_want_43 : decode cX7_want 43 = .ok (.iload_n 3, 1) := by decide +kernel
theorem dX7_want_44 : decode cX7_want 44 = .ok (.iload_n 1, 1) := by decide +kernel
theorem dX7_want_45 : decode cX7_want 45 = .ok (.iastore, 1) := by decide +kernel
theorem dX7_want_46 : decode cX7_want 46 = .ok (.aload_n 0, 1) := by decide +kernel
theorem dX7_want_47 : decode cX7_want 47 = .ok (.getfield 10, 3) := by decide +kernel
theorem dX7_want_50 : decode cX7_want 50 = .ok (.getfield 159, 3) := by decide +kernel
theorem dX7_want_53 : decode cX7_want 53 = .ok (.iload_n 3, 1) := by decide +kernel
theorem dX7_want_54 : decode cX7_want 54 = .ok (.iload_n 2, 1) := by decide +kernel
theorem dX7_want_55 : decode cX7_want 55 = .ok (.iastore, 1) := by decide +kernel
theorem dX7_want_56 : decode cX7_want 56 = .ok (.aload_n 0, 1) := by decide +kernel
theorem dX7_want_57 : decode cX7_want 57 = .ok (.getfield 10, 3) := by decide +kernel
theorem dX7_want_60 : decode cX7_want 60 = .ok (.iload_n 3, 1) := by decide +kernel
theorem dX7_want_61 : decode cX7_want 61 = .ok (.iconst 1, 1) := by decide +kernel
theorem dX7_want_62 : decode cX7_want 62 = .ok (.iadd, 1) := by decide +kernel
theorem dX7_want_63 : decode cX7_want 63 = .ok (.putfield 153, 3) := by decide +kernel
theorem dX7_want_66 : decode cX7_want 66 = .ok (.iload_n 3, 1) := by decide +kernel
theorem dX7_want_67 : decode cX7_want 67 = .ok (.ireturn, 1) := by decide +kernel
theorem dX7_forget_0 : decode cX7_forget 0 = .ok (.aload_n 0, 1) := by decide +kernel
theorem dX7_forget_1 : decode cX7_forget 1 = .ok (.getfield 10, 3) := by decide +kernel
theorem dX7_forget_4 : decode cX7_forget 4 = .ok (.getfield 153, 3) := by decide +kernel
theorem dX7_forget_7 : decode cX7_forget 7 = .ok (.istore_n 1, 1) := by decide +kernel
theorem dX7_forget_8 : decode cX7_forget 8 = .ok (.aload_n 0, 1) := by decide +kernel
theorem dX7_forget_9 : decode cX7_forget 9 = .ok (.getfield 10, 3) := by decide +kernel
theorem dX7_forget_12 : decode cX7_forget 12 = .ok (.iconst 0, 1) := by decide +kernel
theorem dX7_forget_13 : decode cX7_forget 13 = .ok (.putfield 153, 3) := by decide +kernel
theorem dX7_forget_16 : decode cX7_forget 16 = .ok (.iload_n 1, 1) := by decide +kernel
theorem dX7_forget_17 : decode cX7_forget 17 = .ok (.ireturn, 1) := by decide +kernel
theorem dX7_dealing_0 : decode cX7_dealing 0 = .ok (.iload_n 1, 1) := by decide +kernel
theorem dX7_dealing_1 : decode cX7_dealing 1 = .ok (.aload_n 0, 1) := by decide +kernel
theorem dX7_dealing_2 : decode cX7_dealing 2 = .ok (.getfield 10, 3) := by decide +kernel
theorem dX7_dealing_5 : decode cX7_dealing 5 = .ok (.getfield 153, 3) := by decide +kernel
theorem dX7_dealing_8 : decode cX7_dealing 8 = .ok (.iconst 1, 1) := by decide +kernel
theorem dX7_dealing_9 : decode cX7_dealing 9 = .ok (.iadd, 1) := by decide +kernel
theorem dX7_dealing_10 : decode cX7_dealing 10 = .ok (.invokestatic 65, 3) := by decide +kernel
theorem dX7_dealing_13 : decode cX7_dealing 13 = .ok (.ifCond .ne 6, 3) := by decide +kernel
theorem dX7_dealing_16 : decode cX7_dealing 16 = .ok (.ldc 69, 2) := by decide +kernel
theorem dX7_dealing_18 : decode cX7_dealing 18 = .ok (.ireturn, 1) := by decide +kernel
theorem dX7_dealing_19 : decode cX7_dealing 19 = .ok (.aload_n 0, 1) := by decide +kernel
theorem dX7_dealing_20 : decode cX7_dealing 20 = .ok (.getfield 29, 3) := by decide +kernel
theorem dX7_dealing_23 : decode cX7_dealing 23 = .ok (.aload_n 0, 1) := by decide +kernel
theorem dX7_dealing_24 : decode cX7_dealing 24 = .ok (.getfield 10, 3) := by decide +kernel
theorem dX7_dealing_27 : decode cX7_dealing 27 = .ok (.iconst (-1), 1) := by decide +kernel
theorem dX7_dealing_28 : decode cX7_dealing 28 = .ok (.iconst (-1), 1) := by decide +kernel
theorem dX7_dealing_29 : decode cX7_dealing 29 = .ok (.invokevirtual 162, 3) := by decide +kernel
theorem dX7_dealing_32 : decode cX7_dealing 32 = .ok (.istore_n 2, 1) := by decide +kernel
theorem dX7_dealing_33 : decode cX7_dealing 33 = .ok (.iload_n 1, 1) := by decide +kernel
theorem dX7_dealing_34 : decode cX7_dealing 34 = .ok (.ifCond .ne 5, 3) := by decide +kernel
theorem dX7_dealing_37 : decode cX7_dealing 37 = .ok (.iload_n 2, 1) := by decide +kernel
theorem dX7_dealing_38 : decode cX7_dealing 38 = .ok (.ireturn, 1) := by decide +kernel
theorem dX7_dealing_39 : decode cX7_dealing 39 = .ok (.iload_n 1, 1) := by decide +kernel
theorem dX7_dealing_40 : decode cX7_dealing 40 = .ok (.iconst 1, 1) := by decide +kernel
theorem dX7_dealing_41 : decode cX7_dealing 41 = .ok (.if_icmp .ne 13, 3) := by decide +kernel
theorem dX7_dealing_44 : decode cX7_dealing 44 = .ok (.aload_n 0, 1) := by decide +kernel
theorem dX7_dealing_45 : decode cX7_dealing 45 = .ok (.getfield 29, 3) := by decide +kernel
theorem dX7_dealing_48 : decode cX7_dealing 48 = .ok (.invokevirtual 166, 3) := by decide +kernel
theorem dX7_dealing_51 : decode cX7_dealing 51 = .ok (.goto 13, 3) := by decide +kernel
theorem dX7_dealing_54 : decode cX7_dealing 54 = .ok (.aload_n 0, 1) := by decide +kernel
theorem dX7_dealing_55 : decode cX7_dealing 55 = .ok (.getfield 29, 3) := by decide +kernel
theorem dX7_dealing_58 : decode cX7_dealing 58 = .ok (.iload_n 1, 1) := by decide +kernel
theorem dX7_dealing_59 : decode cX7_dealing 59 = .ok (.iconst 2, 1) := by decide +kernel
theorem dX7_dealing_60 : decode cX7_dealing 60 = .ok (.isub, 1) := by decide +kernel
theorem dX7_dealing_61 : decode cX7_dealing 61 = .ok (.invokevirtual 170, 3) := by decide +kernel
theorem dX7_dealing_64 : decode cX7_dealing 64 = .ok (.ireturn, 1) := by decide +kernel
theorem dX7_adds_0 : decode cX7_adds 0 = .ok (.aload_n 0, 1) := by decide +kernel
theorem dX7_adds_1 : decode cX7_adds 1 = .ok (.getfield 10, 3) := by decide +kernel
theorem dX7_adds_4 : decode cX7_adds 4 = .ok (.iload_n 1, 1) := by decide +kernel
theorem dX7_adds_5 : decode cX7_adds 5 = .ok (.invokevirtual 78, 3) := by decide +kernel
theorem dX7_adds_8 : decode cX7_adds 8 = .ok (.ifnonnull 6, 3) := by decide +kernel
theorem dX7_adds_11 : decode cX7_adds 11 = .ok (.ldc 69, 2) := by decide +kernel
theorem dX7_adds_13 : decode cX7_adds 13 = .ok (.ireturn, 1) := by decide +kernel
theorem dX7_adds_14 : decode cX7_adds 14 = .ok (.aload_n 0, 1) := by decide +kernel
theorem dX7_adds_15 : decode cX7_adds 15 = .ok (.getfield 29, 3) := by decide +kernel
theorem dX7_adds_18 : decode cX7_adds 18 = .ok (.aload_n 0, 1) := by decide +kernel
theorem dX7_adds_19 : decode cX7_adds 19 = .ok (.getfield 10, 3) := by decide +kernel
theorem dX7_adds_22 : decode cX7_adds 22 = .ok (.iconst (-1), 1) := by decide +kernel
theorem dX7_adds_23 : decode cX7_adds 23 = .ok (.iconst (-1), 1) := by decide +kernel
theorem dX7_adds_24 : decode cX7_adds 24 = .ok (.invokevirtual 162, 3) := by decide +kernel
theorem dX7_adds_27 : decode cX7_adds 27 = .ok (.aload_n 0, 1) := by decide +kernel
theorem dX7_adds_28 : decode cX7_adds 28 = .ok (.getfield 29, 3) := by decide +kernel
theorem dX7_adds_31 : decode cX7_adds 31 = .ok (.aload_n 0, 1) := by decide +kernel
theorem dX7_adds_32 : decode cX7_adds 32 = .ok (.getfield 10, 3) := by decide +kernel
theorem dX7_adds_35 : decode cX7_adds 35 = .ok (.iload_n 1, 1) := by decide +kernel
theorem dX7_adds_36 : decode cX7_adds 36 = .ok (.iconst (-1), 1) := by decide +kernel
theorem dX7_adds_37 : decode cX7_adds 37 = .ok (.invokevirtual 162, 3) := by decide +kernel
theorem dX7_adds_40 : decode cX7_adds 40 = .ok (.isub, 1) := by decide +kernel
theorem dX7_adds_41 : decode cX7_adds 41 = .ok (.ireturn, 1) := by decide +kernel
theorem dX7_frees_0 : decode cX7_frees 0 = .ok (.iload_n 1, 1) := by decide +kernel
theorem dX7_frees_1 : decode cX7_frees 1 = .ok (.bipush 29, 2) := by decide +kernel
theorem dX7_frees_3 : decode cX7_frees 3 = .ok (.invokestatic 65, 3) := by decide +kernel
theorem dX7_frees_6 : decode cX7_frees 6 = .ok (.ifCond .ne 6, 3) := by decide +kernel
theorem dX7_frees_9 : decode cX7_frees 9 = .ok (.ldc 69, 2) := by decide +kernel
theorem dX7_frees_11 : decode cX7_frees 11 = .ok (.ireturn, 1) := by decide +kernel
theorem dX7_frees_12 : decode cX7_frees 12 = .ok (.aload_n 0, 1) := by decide +kernel
theorem dX7_frees_13 : decode cX7_frees 13 = .ok (.getfield 29, 3) := by decide +kernel
theorem dX7_frees_16 : decode cX7_frees 16 = .ok (.aload_n 0, 1) := by decide +kernel
theorem dX7_frees_17 : decode cX7_frees 17 = .ok (.getfield 10, 3) := by decide +kernel
theorem dX7_frees_20 : decode cX7_frees 20 = .ok (.iconst (-1), 1) := by decide +kernel
theorem dX7_frees_21 : decode cX7_frees 21 = .ok (.iconst (-1), 1) := by decide +kernel
theorem dX7_frees_22 : decode cX7_frees 22 = .ok (.invokevirtual 162, 3) := by decide +kernel
theorem dX7_frees_25 : decode cX7_frees 25 = .ok (.istore_n 2, 1) := by decide +kernel
theorem dX7_frees_26 : decode cX7_frees 26 = .ok (.bipush 100, 2) := by decide +kernel
theorem dX7_frees_28 : decode cX7_frees 28 = .ok (.istore_n 3, 1) := by decide +kernel
theorem dX7_frees_29 : decode cX7_frees 29 = .ok (.iconst 0, 1) := by decide +kernel
theorem dX7_frees_30 : decode cX7_frees 30 = .ok (.istore 4, 2) := by decide +kernel
theorem dX7_frees_32 : decode cX7_frees 32 = .ok (.iload 4, 2) := by decide +kernel
theorem dX7_frees_34 : decode cX7_frees 34 = .ok (.aload_n 0, 1) := by decide +kernel
theorem dX7_frees_35 : decode cX7_frees 35 = .ok (.getfield 10, 3) := by decide +kernel
theorem dX7_frees_38 : decode cX7_frees 38 = .ok (.getfield 153, 3) := by decide +kernel
theorem dX7_frees_41 : decode cX7_frees 41 = .ok (.if_icmp .ge 96, 3) := by decide +kernel
theorem dX7_frees_44 : decode cX7_frees 44 = .ok (.iconst 1, 1) := by decide +kernel
theorem dX7_frees_45 : decode cX7_frees 45 = .ok (.aload_n 0, 1) := by decide +kernel
theorem dX7_frees_46 : decode cX7_frees 46 = .ok (.getfield 10, 3) := by decide +kernel
theorem dX7_frees_49 : decode cX7_frees 49 = .ok (.aload_n 0, 1) := by decide +kernel
theorem dX7_frees_50 : decode cX7_frees 50 = .ok (.getfield 10, 3) := by decide +kernel
theorem dX7_frees_53 : decode cX7_frees 53 = .ok (.getfield 159, 3) := by decide +kernel
theorem dX7_frees_56 : decode cX7_frees 56 = .ok (.iload 4, 2) := by decide +kernel
theorem dX7_frees_58 : decode cX7_frees 58 = .ok (.iaload, 1) := by decide +kernel
theorem dX7_frees_59 : decode cX7_frees 59 = .ok (.invokevirtual 131, 3) := by decide +kernel
theorem dX7_frees_62 : decode cX7_frees 62 = .ok (.invokestatic 173, 3) := by decide +kernel
theorem dX7_frees_65 : decode cX7_frees 65 = .ok (.istore 5, 2) := by decide +kernel
theorem dX7_frees_67 : decode cX7_frees 67 = .ok (.iload_n 1, 1) := by decide +kernel
theorem dX7_frees_68 : decode cX7_frees 68 = .ok (.aload_n 0, 1) := by decide +kernel
theorem dX7_frees_69 : decode cX7_frees 69 = .ok (.getfield 10, 3) := by decide +kernel
theorem dX7_frees_72 : decode cX7_frees 72 = .ok (.getfield 156, 3) := by decide +kernel
theorem dX7_frees_75 : decode cX7_frees 75 = .ok (.iload 4, 2) := by decide +kernel
theorem dX7_frees_77 : decode cX7_frees 77 = .ok (.iaload, 1) := by decide +kernel
theorem dX7_frees_78 : decode cX7_frees 78 = .ok (.isub, 1) := by decide +kernel
theorem dX7_frees_79 : decode cX7_frees 79 = .ok (.invokestatic 176, 3) := by decide +kernel
theorem dX7_frees_82 : decode cX7_frees 82 = .ok (.aload_n 0, 1) := by decide +kernel
theorem dX7_frees_83 : decode cX7_frees 83 = .ok (.getfield 10, 3) := by decide +kernel
theorem dX7_frees_86 : decode cX7_frees 86 = .ok (.getfield 110, 3) := by decide +kernel
theorem dX7_frees_89 : decode cX7_frees 89 = .ok (.if_icmp .gt 7, 3) := by decide +kernel
theorem dX7_frees_92 : decode cX7_frees 92 = .ok (.iconst 1, 1) := by decide +kernel
theorem dX7_frees_93 : decode cX7_frees 93 = .ok (.goto 4, 3) := by decide +kernel
theorem dX7_frees_96 : decode cX7_frees 96 = .ok (.iconst 0, 1) := by decide +kernel
theorem dX7_frees_97 : decode cX7_frees 97 = .ok (.istore 6, 2) := by decide +kernel
theorem dX7_frees_99 : decode cX7_frees 99 = .ok (.iload 6, 2) := by decide +kernel
theorem dX7_frees_101 : decode cX7_frees 101 = .ok (.ifCond .eq 30, 3) := by decide +kernel
theorem dX7_frees_104 : decode cX7_frees 104 = .ok (.iload 5, 2) := by decide +kernel
theorem dX7_frees_106 : decode cX7_frees 106 = .ok (.iload_n 3, 1) := by decide +kernel
theorem dX7_frees_107 : decode cX7_frees 107 = .ok (.if_icmp .ge 24, 3) := by decide +kernel
theorem dX7_frees_110 : decode cX7_frees 110 = .ok (.aload_n 0, 1) := by decide +kernel
theorem dX7_frees_111 : decode cX7_frees 111 = .ok (.getfield 29, 3) := by decide +kernel
theorem dX7_frees_114 : decode cX7_frees 114 = .ok (.aload_n 0, 1) := by decide +kernel
theorem dX7_frees_115 : decode cX7_frees 115 = .ok (.getfield 10, 3) := by decide +kernel
theorem dX7_frees_118 : decode cX7_frees 118 = .ok (.iconst (-1), 1) := by decide +kernel
theorem dX7_frees_119 : decode cX7_frees 119 = .ok (.iload 4, 2) := by decide +kernel
theorem dX7_frees_121 : decode cX7_frees 121 = .ok (.invokevirtual 162, 3) := by decide +kernel
theorem dX7_frees_124 : decode cX7_frees 124 = .ok (.iload_n 2, 1) := by decide +kernel
theorem dX7_frees_125 : decode cX7_frees 125 = .ok (.if_icmp .ne 6, 3) := by decide +kernel
theorem dX7_frees_128 : decode cX7_frees 128 = .ok (.iload 5, 2) := by decide +kernel
theorem dX7_frees_130 : decode cX7_frees 130 = .ok (.istore_n 3, 1) := by decide +kernel
theorem dX7_frees_131 : decode cX7_frees 131 = .ok (.iinc 4 1, 3) := by decide +kernel
theorem dX7_frees_134 : decode cX7_frees 134 = .ok (.goto (-102), 3) := by decide +kernel
theorem dX7_frees_137 : decode cX7_frees 137 = .ok (.iload_n 3, 1) := by decide +kernel
theorem dX7_frees_138 : decode cX7_frees 138 = .ok (.bipush 99, 2) := by decide +kernel
theorem dX7_frees_140 : decode cX7_frees 140 = .ok (.if_icmp .gt 7, 3) := by decide +kernel
theorem dX7_frees_143 : decode cX7_frees 143 = .ok (.iload_n 3, 1) := by decide +kernel
theorem dX7_frees_144 : decode cX7_frees 144 = .ok (.goto 5, 3) := by decide +kernel
theorem dX7_frees_147 : decode cX7_frees 147 = .ok (.ldc 179, 2) := by decide +kernel
theorem dX7_frees_149 : decode cX7_frees 149 = .ok (.ireturn, 1) := by decide +kernel
theorem dX7_days_0 : decode cX7_days 0 = .ok (.iload_n 1, 1) := by decide +kernel
theorem dX7_days_1 : decode cX7_days 1 = .ok (.iconst 1, 1) := by decide +kernel
theorem dX7_days_2 : decode cX7_days 2 = .ok (.if_icmp .lt 9, 3) := by decide +kernel
theorem dX7_days_5 : decode cX7_days 5 = .ok (.iload_n 1, 1) := by decide +kernel
theorem dX7_days_6 : decode cX7_days 6 = .ok (.bipush 100, 2) := by decide +kernel
theorem dX7_days_8 : decode cX7_days 8 = .ok (.if_icmp .le 6, 3) := by decide +kernel
theorem dX7_days_11 : decode cX7_days 11 = .ok (.ldc 69, 2) := by decide +kernel
theorem dX7_days_13 : decode cX7_days 13 = .ok (.ireturn, 1) := by decide +kernel
theorem dX7_days_14 : decode cX7_days 14 = .ok (.iload_n 1, 1) := by decide +kernel
theorem dX7_days_15 : decode cX7_days 15 = .ok (.sipush 9999, 3) := by decide +kernel
theorem dX7_days_18 : decode cX7_days 18 = .ok (.aload_n 0, 1) := by decide +kernel
theorem dX7_days_19 : decode cX7_days 19 = .ok (.getfield 10, 3) := by decide +kernel
theorem dX7_days_22 : decode cX7_days 22 = .ok (.getfield 180, 3) := by decide +kernel
theorem dX7_days_25 : decode cX7_days 25 = .ok (.isub, 1) := by decide +kernel
theorem dX7_days_26 : decode cX7_days 26 = .ok (.invokestatic 116, 3) := by decide +kernel
theorem dX7_days_29 : decode cX7_days 29 = .ok (.istore_n 2, 1) := by decide +kernel
theorem dX7_days_30 : decode cX7_days 30 = .ok (.iconst 0, 1) := by decide +kernel
theorem dX7_days_31 : decode cX7_days 31 = .ok (.istore_n 3, 1) := by decide +kernel
theorem dX7_days_32 : decode cX7_days 32 = .ok (.iload_n 3, 1) := by decide +kernel
theorem dX7_days_33 : decode cX7_days 33 = .ok (.iload_n 2, 1) := by decide +kernel
theorem dX7_days_34 : decode cX7_days 34 = .ok (.if_icmp .ge 16, 3) := by decide +kernel
theorem dX7_days_37 : decode cX7_days 37 = .ok (.aload_n 0, 1) := by decide +kernel
theorem dX7_days_38 : decode cX7_days 38 = .ok (.getfield 10, 3) := by decide +kernel
theorem dX7_days_41 : decode cX7_days 41 = .ok (.invokevirtual 183, 3) := by decide +kernel
theorem dX7_days_44 : decode cX7_days 44 = .ok (.iinc 3 1, 3) := by decide +kernel
theorem dX7_days_47 : decode cX7_days 47 = .ok (.goto (-15), 3) := by decide +kernel
theorem dX7_days_50 : decode cX7_days 50 = .ok (.aload_n 0, 1) := by decide +kernel
theorem dX7_days_51 : decode cX7_days 51 = .ok (.getfield 10, 3) := by decide +kernel
theorem dX7_days_54 : decode cX7_days 54 = .ok (.invokevirtual 186, 3) := by decide +kernel
theorem dX7_days_57 : decode cX7_days 57 = .ok (.ireturn, 1) := by decide +kernel
theorem dX7_behind_0 : decode cX7_behind 0 = .ok (.iload_n 1, 1) := by decide +kernel
theorem dX7_behind_1 : decode cX7_behind 1 = .ok (.bipush 100, 2) := by decide +kernel
theorem dX7_behind_3 : decode cX7_behind 3 = .ok (.invokestatic 65, 3) := by decide +kernel
theorem dX7_behind_6 : decode cX7_behind 6 = .ok (.ifCond .eq 11, 3) := by decide +kernel
theorem dX7_behind_9 : decode cX7_behind 9 = .ok (.iload_n 2, 1) := by decide +kernel
theorem dX7_behind_10 : decode cX7_behind 10 = .ok (.iconst 2, 1) := by decide +kernel
theorem dX7_behind_11 : decode cX7_behind 11 = .ok (.invokestatic 65, 3) := by decide +kernel
theorem dX7_behind_14 : decode cX7_behind 14 = .ok (.ifCond .ne 6, 3) := by decide +kernel
theorem dX7_behind_17 : decode cX7_behind 17 = .ok (.ldc 69, 2) := by decide +kernel
theorem dX7_behind_19 : decode cX7_behind 19 = .ok (.ireturn, 1) := by decide +kernel
theorem dX7_behind_20 : decode cX7_behind 20 = .ok (.aload_n 0, 1) := by decide +kernel
theorem dX7_behind_21 : decode cX7_behind 21 = .ok (.getfield 16, 3) := by decide +kernel
theorem dX7_behind_24 : decode cX7_behind 24 = .ok (.aload_n 0, 1) := by decide +kernel
theorem dX7_behind_25 : decode cX7_behind 25 = .ok (.getfield 10, 3) := by decide +kernel
theorem dX7_behind_28 : decode cX7_behind 28 = .ok (.invokevirtual 189, 3) := by decide +kernel
theorem dX7_behind_31 : decode cX7_behind 31 = .ok (.iconst 0, 1) := by decide +kernel
theorem dX7_behind_32 : decode cX7_behind 32 = .ok (.istore_n 3, 1) := by decide +kernel
theorem dX7_behind_33 : decode cX7_behind 33 = .ok (.iload_n 3, 1) := by decide +kernel
theorem dX7_behind_34 : decode cX7_behind 34 = .ok (.iload_n 1, 1) := by decide +kernel
theorem dX7_behind_35 : decode cX7_behind 35 = .ok (.if_icmp .ge 16, 3) := by decide +kernel
theorem dX7_behind_38 : decode cX7_behind 38 = .ok (.aload_n 0, 1) := by decide +kernel
theorem dX7_behind_39 : decode cX7_behind 39 = .ok (.getfield 16, 3) := by decide +kernel
theorem dX7_behind_42 : decode cX7_behind 42 = .ok (.invokevirtual 183, 3) := by decide +kernel
theorem dX7_behind_45 : decode cX7_behind 45 = .ok (.iinc 3 1, 3) := by decide +kernel
theorem dX7_behind_48 : decode cX7_behind 48 = .ok (.goto (-15), 3) := by decide +kernel
theorem dX7_behind_51 : decode cX7_behind 51 = .ok (.iload_n 2, 1) := by decide +kernel
theorem dX7_behind_52 : decode cX7_behind 52 = .ok (.ifCond .ne 17, 3) := by decide +kernel
theorem dX7_behind_55 : decode cX7_behind 55 = .ok (.aload_n 0, 1) := by decide +kernel
theorem dX7_behind_56 : decode cX7_behind 56 = .ok (.getfield 29, 3) := by decide +kernel
theorem dX7_behind_59 : decode cX7_behind 59 = .ok (.aload_n 0, 1) := by decide +kernel
theorem dX7_behind_60 : decode cX7_behind 60 = .ok (.getfield 16, 3) := by decide +kernel
theorem dX7_behind_63 : decode cX7_behind 63 = .ok (.iconst (-1), 1) := by decide +kernel
theorem dX7_behind_64 : decode cX7_behind 64 = .ok (.iconst (-1), 1) := by decide +kernel
theorem dX7_behind_65 : decode cX7_behind 65 = .ok (.invokevirtual 162, 3) := by decide +kernel
theorem dX7_behind_68 : decode cX7_behind 68 = .ok (.ireturn, 1) := by decide +kernel
theorem dX7_behind_69 : decode cX7_behind 69 = .ok (.iload_n 2, 1) := by decide +kernel
theorem dX7_behind_70 : decode cX7_behind 70 = .ok (.iconst 1, 1) := by decide +kernel
theorem dX7_behind_71 : decode cX7_behind 71 = .ok (.if_icmp .ne 13, 3) := by decide +kernel
theorem dX7_behind_74 : decode cX7_behind 74 = .ok (.aload_n 0, 1) := by decide +kernel
theorem dX7_behind_75 : decode cX7_behind 75 = .ok (.getfield 16, 3) := by decide +kernel
theorem dX7_behind_78 : decode cX7_behind 78 = .ok (.invokevirtual 193, 3) := by decide +kernel
theorem dX7_behind_81 : decode cX7_behind 81 = .ok (.goto 10, 3) := by decide +kernel
theorem dX7_behind_84 : decode cX7_behind 84 = .ok (.aload_n 0, 1) := by decide +kernel
theorem dX7_behind_85 : decode cX7_behind 85 = .ok (.getfield 16, 3) := by decide +kernel
theorem dX7_behind_88 : decode cX7_behind 88 = .ok (.invokevirtual 186, 3) := by decide +kernel
theorem dX7_behind_91 : decode cX7_behind 91 = .ok (.ireturn, 1) := by decide +kernel
theorem dX7_paid_0 : decode cX7_paid 0 = .ok (.aload_n 0, 1) := by decide +kernel
theorem dX7_paid_1 : decode cX7_paid 1 = .ok (.getfield 16, 3) := by decide +kernel
theorem dX7_paid_4 : decode cX7_paid 4 = .ok (.aload_n 0, 1) := by decide +kernel
theorem dX7_paid_5 : decode cX7_paid 5 = .ok (.getfield 10, 3) := by decide +kernel
theorem dX7_paid_8 : decode cX7_paid 8 = .ok (.invokevirtual 189, 3) := by decide +kernel
theorem dX7_paid_11 : decode cX7_paid 11 = .ok (.iconst 0, 1) := by decide +kernel
theorem dX7_paid_12 : decode cX7_paid 12 = .ok (.istore_n 1, 1) := by decide +kernel
theorem dX7_paid_13 : decode cX7_paid 13 = .ok (.iload_n 1, 1) := by decide +kernel
theorem dX7_paid_14 : decode cX7_paid 14 = .ok (.sipush 300, 3) := by decide +kernel
theorem dX7_paid_17 : decode cX7_paid 17 = .ok (.if_icmp .gt 35, 3) := by decide +kernel
theorem dX7_paid_20 : decode cX7_paid 20 = .ok (.aload_n 0, 1) := by decide +kernel
theorem dX7_paid_21 : decode cX7_paid 21 = .ok (.getfield 16, 3) := by decide +kernel
theorem dX7_paid_24 : decode cX7_paid 24 = .ok (.invokevirtual 186, 3) := by decide +kernel
theorem dX7_paid_27 : decode cX7_paid 27 = .ok (.aload_n 0, 1) := by decide +kernel
theorem dX7_paid_28 : decode cX7_paid 28 = .ok (.getfield 16, 3) := by decide +kernel
theorem dX7_paid_31 : decode cX7_paid 31 = .ok (.getfield 70, 3) := by decide +kernel
theorem dX7_paid_34 : decode cX7_paid 34 = .ok (.if_icmp .ne 5, 3) := by decide +kernel
theorem dX7_paid_37 : decode cX7_paid 37 = .ok (.iload_n 1, 1) := by decide +kernel
theorem dX7_paid_38 : decode cX7_paid 38 = .ok (.ireturn, 1) := by decide +kernel
theorem dX7_paid_39 : decode cX7_paid 39 = .ok (.aload_n 0, 1) := by decide +kernel
theorem dX7_paid_40 : decode cX7_paid 40 = .ok (.getfield 16, 3) := by decide +kernel
theorem dX7_paid_43 : decode cX7_paid 43 = .ok (.invokevirtual 183, 3) := by decide +kernel
theorem dX7_paid_46 : decode cX7_paid 46 = .ok (.iinc 1 1, 3) := by decide +kernel
theorem dX7_paid_49 : decode cX7_paid 49 = .ok (.goto (-36), 3) := by decide +kernel
theorem dX7_paid_52 : decode cX7_paid 52 = .ok (.ldc 179, 2) := by decide +kernel
theorem dX7_paid_54 : decode cX7_paid 54 = .ok (.ireturn, 1) := by decide +kernel
theorem dX7_best_0 : decode cX7_best 0 = .ok (.iload_n 1, 1) := by decide +kernel
theorem dX7_best_1 : decode cX7_best 1 = .ok (.bipush 30, 2) := by decide +kernel
theorem dX7_best_3 : decode cX7_best 3 = .ok (.invokestatic 65, 3) := by decide +kernel
theorem dX7_best_6 : decode cX7_best 6 = .ok (.ifCond .eq 11, 3) := by decide +kernel
theorem dX7_best_9 : decode cX7_best 9 = .ok (.iload_n 2, 1) := by decide +kernel
theorem dX7_best_10 : decode cX7_best 10 = .ok (.iconst 1, 1) := by decide +kernel
theorem dX7_best_11 : decode cX7_best 11 = .ok (.invokestatic 65, 3) := by decide +kernel
theorem dX7_best_14 : decode cX7_best 14 = .ok (.ifCond .ne 6, 3) := by decide +kernel
theorem dX7_best_17 : decode cX7_best 17 = .ok (.ldc 69, 2) := by decide +kernel
theorem dX7_best_19 : decode cX7_best 19 = .ok (.ireturn, 1) := by decide +kernel
theorem dX7_best_20 : decode cX7_best 20 = .ok (.aload_n 0, 1) := by decide +kernel
theorem dX7_best_21 : decode cX7_best 21 = .ok (.getfield 16, 3) := by decide +kernel
theorem dX7_best_24 : decode cX7_best 24 = .ok (.aload_n 0, 1) := by decide +kernel
theorem dX7_best_25 : decode cX7_best 25 = .ok (.getfield 10, 3) := by decide +kernel
theorem dX7_best_28 : decode cX7_best 28 = .ok (.invokevirtual 189, 3) := by decide +kernel
theorem dX7_best_31 : decode cX7_best 31 = .ok (.iconst 0, 1) := by decide +kernel
theorem dX7_best_32 : decode cX7_best 32 = .ok (.istore_n 3, 1) := by decide +kernel
theorem dX7_best_33 : decode cX7_best 33 = .ok (.iconst (-1), 1) := by decide +kernel
theorem dX7_best_34 : decode cX7_best 34 = .ok (.istore 4, 2) := by decide +kernel
theorem dX7_best_36 : decode cX7_best 36 = .ok (.iconst 0, 1) := by decide +kernel
theorem dX7_best_37 : decode cX7_best 37 = .ok (.istore 5, 2) := by decide +kernel
theorem dX7_best_39 : decode cX7_best 39 = .ok (.iload 5, 2) := by decide +kernel
theorem dX7_best_41 : decode cX7_best 41 = .ok (.iload_n 1, 1) := by decide +kernel
theorem dX7_best_42 : decode cX7_best 42 = .ok (.if_icmp .gt 45, 3) := by decide +kernel
theorem dX7_best_45 : decode cX7_best 45 = .ok (.aload_n 0, 1) := by decide +kernel
theorem dX7_best_46 : decode cX7_best 46 = .ok (.getfield 29, 3) := by decide +kernel
theorem dX7_best_49 : decode cX7_best 49 = .ok (.aload_n 0, 1) := by decide +kernel
theorem dX7_best_50 : decode cX7_best 50 = .ok (.getfield 16, 3) := by decide +kernel
theorem dX7_best_53 : decode cX7_best 53 = .ok (.iconst (-1), 1) := by decide +kernel
theorem dX7_best_54 : decode cX7_best 54 = .ok (.iconst (-1), 1) := by decide +kernel
theorem dX7_best_55 : decode cX7_best 55 = .ok (.invokevirtual 162, 3) := by decide +kernel
theorem dX7_best_58 : decode cX7_best 58 = .ok (.istore 6, 2) := by decide +kernel
theorem dX7_best_60 : decode cX7_best 60 = .ok (.iload 6, 2) := by decide +kernel
theorem dX7_best_62 : decode cX7_best 62 = .ok (.iload 4, 2) := by decide +kernel
theorem dX7_best_64 : decode cX7_best 64 = .ok (.if_icmp .le 10, 3) := by decide +kernel
theorem dX7_best_67 : decode cX7_best 67 = .ok (.iload 6, 2) := by decide +kernel
theorem dX7_best_69 : decode cX7_best 69 = .ok (.istore 4, 2) := by decide +kernel
theorem dX7_best_71 : decode cX7_best 71 = .ok (.iload 5, 2) := by decide +kernel
theorem dX7_best_73 : decode cX7_best 73 = .ok (.istore_n 3, 1) := by decide +kernel
theorem dX7_best_74 : decode cX7_best 74 = .ok (.aload_n 0, 1) := by decide +kernel
theorem dX7_best_75 : decode cX7_best 75 = .ok (.getfield 16, 3) := by decide +kernel
theorem dX7_best_78 : decode cX7_best 78 = .ok (.invokevirtual 183, 3) := by decide +kernel
theorem dX7_best_81 : decode cX7_best 81 = .ok (.iinc 5 1, 3) := by decide +kernel
theorem dX7_best_84 : decode cX7_best 84 = .ok (.goto (-45), 3) := by decide +kernel
theorem dX7_best_87 : decode cX7_best 87 = .ok (.iload_n 2, 1) := by decide +kernel
theorem dX7_best_88 : decode cX7_best 88 = .ok (.ifCond .ne 7, 3) := by decide +kernel
theorem dX7_best_91 : decode cX7_best 91 = .ok (.iload_n 3, 1) := by decide +kernel
theorem dX7_best_92 : decode cX7_best 92 = .ok (.goto 5, 3) := by decide +kernel
theorem dX7_best_95 : decode cX7_best 95 = .ok (.iload 4, 2) := by decide +kernel
theorem dX7_best_97 : decode cX7_best 97 = .ok (.ireturn, 1) := by decide +kernel
theorem dX7_owes_0 : decode cX7_owes 0 = .ok (.iload_n 1, 1) := by decide +kernel
theorem dX7_owes_1 : decode cX7_owes 1 = .ok (.bipush 7, 2) := by decide +kernel
theorem dX7_owes_3 : decode cX7_owes 3 = .ok (.invokestatic 65, 3) := by decide +kernel
theorem dX7_owes_6 : decode cX7_owes 6 = .ok (.ifCond .eq 14, 3) := by decide +kernel
theorem dX7_owes_9 : decode cX7_owes 9 = .ok (.aload_n 0, 1) := by decide +kernel
theorem dX7_owes_10 : decode cX7_owes 10 = .ok (.getfield 10, 3) := by decide +kernel
theorem dX7_owes_13 : decode cX7_owes 13 = .ok (.iload_n 1, 1) := by decide +kernel
theorem dX7_owes_14 : decode cX7_owes 14 = .ok (.invokevirtual 196, 3) := by decide +kernel
theorem dX7_owes_17 : decode cX7_owes 17 = .ok (.goto 5, 3) := by decide +kernel
theorem dX7_owes_20 : decode cX7_owes 20 = .ok (.ldc 69, 2) := by decide +kernel
theorem dX7_owes_22 : decode cX7_owes 22 = .ok (.ireturn, 1) := by decide +kernel
theorem dX7_debtor_0 : decode cX7_debtor 0 = .ok (.iconst 0, 1) := by decide +kernel
theorem dX7_debtor_1 : decode cX7_debtor 1 = .ok (.istore_n 1, 1) := by decide +kernel
theorem dX7_debtor_2 : decode cX7_debtor 2 = .ok (.iconst 1, 1) := by decide +kernel
theorem dX7_debtor_3 : decode cX7_debtor 3 = .ok (.istore_n 2, 1) := by decide +kernel
theorem dX7_debtor_4 : decode cX7_debtor 4 = .ok (.iload_n 2, 1) := by decide +kernel
theorem dX7_debtor_5 : decode cX7_debtor 5 = .ok (.bipush 7, 2) := by decide +kernel
theorem dX7_debtor_7 : decode cX7_debtor 7 = .ok (.if_icmp .gt 30, 3) := by decide +kernel
theorem dX7_debtor_10 : decode cX7_debtor 10 = .ok (.aload_n 0, 1) := by decide +kernel
theorem dX7_debtor_11 : decode cX7_debtor 11 = .ok (.getfield 10, 3) := by decide +kernel
theorem dX7_debtor_14 : decode cX7_debtor 14 = .ok (.iload_n 2, 1) := by decide +kernel
theorem dX7_debtor_15 : decode cX7_debtor 15 = .ok (.invokevirtual 196, 3) := by decide +kernel
theorem dX7_debtor_18 : decode cX7_debtor 18 = .ok (.aload_n 0, 1) := by decide +kernel
theorem dX7_debtor_19 : decode cX7_debtor 19 = .ok (.getfield 10, 3) := by decide +kernel
theorem dX7_debtor_22 : decode cX7_debtor 22 = .ok (.iload_n 1, 1) := by decide +kernel
theorem dX7_debtor_23 : decode cX7_debtor 23 = .ok (.invokevirtual 196, 3) := by decide +kernel
theorem dX7_debtor_26 : decode cX7_debtor 26 = .ok (.if_icmp .le 5, 3) := by decide +kernel
theorem dX7_debtor_29 : decode cX7_debtor 29 = .ok (.iload_n 2, 1) := by decide +kernel
theorem dX7_debtor_30 : decode cX7_debtor 30 = .ok (.istore_n 1, 1) := by decide +kernel
theorem dX7_debtor_31 : decode cX7_debtor 31 = .ok (.iinc 2 1, 3) := by decide +kernel
theorem dX7_debtor_34 : decode cX7_debtor 34 = .ok (.goto (-30), 3) := by decide +kernel
theorem dX7_debtor_37 : decode cX7_debtor 37 = .ok (.iload_n 1, 1) := by decide +kernel
theorem dX7_debtor_38 : decode cX7_debtor 38 = .ok (.ireturn, 1) := by decide +kernel
theorem dX7_dug_0 : decode cX7_dug 0 = .ok (.aload_n 0, 1) := by decide +kernel
theorem dX7_dug_1 : decode cX7_dug 1 = .ok (.iload_n 1, 1) := by decide +kernel
theorem dX7_dug_2 : decode cX7_dug 2 = .ok (.invokevirtual 199, 3) := by decide +kernel
theorem dX7_dug_5 : decode cX7_dug 5 = .ok (.astore_n 3, 1) := by decide +kernel
theorem dX7_dug_6 : decode cX7_dug 6 = .ok (.aload_n 3, 1) := by decide +kernel
theorem dX7_dug_7 : decode cX7_dug 7 = .ok (.ifnull 11, 3) := by decide +kernel
theorem dX7_dug_10 : decode cX7_dug 10 = .ok (.iload_n 2, 1) := by decide +kernel
theorem dX7_dug_11 : decode cX7_dug 11 = .ok (.iconst 1, 1) := by decide +kernel
theorem dX7_dug_12 : decode cX7_dug 12 = .ok (.invokestatic 65, 3) := by decide +kernel
theorem dX7_dug_15 : decode cX7_dug 15 = .ok (.ifCond .ne 6, 3) := by decide +kernel
theorem dX7_dug_18 : decode cX7_dug 18 = .ok (.ldc 69, 2) := by decide +kernel
theorem dX7_dug_20 : decode cX7_dug 20 = .ok (.ireturn, 1) := by decide +kernel
theorem dX7_dug_21 : decode cX7_dug 21 = .ok (.aload_n 3, 1) := by decide +kernel
theorem dX7_dug_22 : decode cX7_dug 22 = .ok (.getfield 203, 3) := by decide +kernel
theorem dX7_dug_25 : decode cX7_dug 25 = .ok (.iconst (-1), 1) := by decide +kernel
theorem dX7_dug_26 : decode cX7_dug 26 = .ok (.if_icmp .ne 6, 3) := by decide +kernel
theorem dX7_dug_29 : decode cX7_dug 29 = .ok (.ldc 206, 2) := by decide +kernel
theorem dX7_dug_31 : decode cX7_dug 31 = .ok (.ireturn, 1) := by decide +kernel
theorem dX7_dug_32 : decode cX7_dug 32 = .ok (.aload_n 0, 1) := by decide +kernel
theorem dX7_dug_33 : decode cX7_dug 33 = .ok (.getfield 10, 3) := by decide +kernel
theorem dX7_dug_36 : decode cX7_dug 36 = .ok (.getfield 70, 3) := by decide +kernel
theorem dX7_dug_39 : decode cX7_dug 39 = .ok (.ifCond .ne 6, 3) := by decide +kernel
theorem dX7_dug_42 : decode cX7_dug 42 = .ok (.ldc 179, 2) := by decide +kernel
theorem dX7_dug_44 : decode cX7_dug 44 = .ok (.ireturn, 1) := by decide +kernel
theorem dX7_dug_45 : decode cX7_dug 45 = .ok (.aload_n 0, 1) := by decide +kernel
theorem dX7_dug_46 : decode cX7_dug 46 = .ok (.aload_n 3, 1) := by decide +kernel
theorem dX7_dug_47 : decode cX7_dug 47 = .ok (.invokevirtual 207, 3) := by decide +kernel
theorem dX7_dug_50 : decode cX7_dug 50 = .ok (.iconst 0, 1) := by decide +kernel
theorem dX7_dug_51 : decode cX7_dug 51 = .ok (.istore 4, 2) := by decide +kernel
theorem dX7_dug_53 : decode cX7_dug 53 = .ok (.iconst 1, 1) := by decide +kernel
theorem dX7_dug_54 : decode cX7_dug 54 = .ok (.istore 5, 2) := by decide +kernel
theorem dX7_dug_56 : decode cX7_dug 56 = .ok (.iload 5, 2) := by decide +kernel
theorem dX7_dug_58 : decode cX7_dug 58 = .ok (.aload_n 0, 1) := by decide +kernel
theorem dX7_dug_59 : decode cX7_dug 59 = .ok (.getfield 10, 3) := by decide +kernel
theorem dX7_dug_62 : decode cX7_dug 62 = .ok (.getfield 70, 3) := by decide +kernel
theorem dX7_dug_65 : decode cX7_dug 65 = .ok (.if_icmp .ge 30, 3) := by decide +kernel
theorem dX7_dug_68 : decode cX7_dug 68 = .ok (.aload_n 0, 1) := by decide +kernel
theorem dX7_dug_69 : decode cX7_dug 69 = .ok (.getfield 60, 3) := by decide +kernel
theorem dX7_dug_72 : decode cX7_dug 72 = .ok (.iload 5, 2) := by decide +kernel
theorem dX7_dug_74 : decode cX7_dug 74 = .ok (.iaload, 1) := by decide +kernel
theorem dX7_dug_75 : decode cX7_dug 75 = .ok (.aload_n 0, 1) := by decide +kernel
theorem dX7_dug_76 : decode cX7_dug 76 = .ok (.getfield 60, 3) := by decide +kernel
theorem dX7_dug_79 : decode cX7_dug 79 = .ok (.iload 4, 2) := by decide +kernel
theorem dX7_dug_81 : decode cX7_dug 81 = .ok (.iaload, 1) := by decide +kernel
theorem dX7_dug_82 : decode cX7_dug 82 = .ok (.if_icmp .ge 7, 3) := by decide +kernel
theorem dX7_dug_85 : decode cX7_dug 85 = .ok (.iload 5, 2) := by decide +kernel
theorem dX7_dug_87 : decode cX7_dug 87 = .ok (.istore 4, 2) := by decide +kernel
theorem dX7_dug_89 : decode cX7_dug 89 = .ok (.iinc 5 1, 3) := by decide +kernel
theorem dX7_dug_92 : decode cX7_dug 92 = .ok (.goto (-36), 3) := by decide +kernel
theorem dX7_dug_95 : decode cX7_dug 95 = .ok (.iload_n 2, 1) := by decide +kernel
theorem dX7_dug_96 : decode cX7_dug 96 = .ok (.ifCond .ne 8, 3) := by decide +kernel
theorem dX7_dug_99 : decode cX7_dug 99 = .ok (.iload 4, 2) := by decide +kernel
theorem dX7_dug_101 : decode cX7_dug 101 = .ok (.goto 10, 3) := by decide +kernel
theorem dX7_dug_104 : decode cX7_dug 104 = .ok (.aload_n 0, 1) := by decide +kernel
theorem dX7_dug_105 : decode cX7_dug 105 = .ok (.getfield 60, 3) := by decide +kernel
theorem dX7_dug_108 : decode cX7_dug 108 = .ok (.iload 4, 2) := by decide +kernel
theorem dX7_dug_110 : decode cX7_dug 110 = .ok (.iaload, 1) := by decide +kernel
theorem dX7_dug_111 : decode cX7_dug 111 = .ok (.ireturn, 1) := by decide +kernel
theorem dX7_fine_0 : decode cX7_fine 0 = .ok (.iload_n 1, 1) := by decide +kernel
theorem dX7_fine_1 : decode cX7_fine 1 = .ok (.bipush 7, 2) := by decide +kernel
theorem dX7_fine_3 : decode cX7_fine 3 = .ok (.invokestatic 65, 3) := by decide +kernel
theorem dX7_fine_6 : decode cX7_fine 6 = .ok (.ifCond .eq 14, 3) := by decide +kernel
theorem dX7_fine_9 : decode cX7_fine 9 = .ok (.aload_n 0, 1) := by decide +kernel
theorem dX7_fine_10 : decode cX7_fine 10 = .ok (.getfield 10, 3) := by decide +kernel
theorem dX7_fine_13 : decode cX7_fine 13 = .ok (.iload_n 1, 1) := by decide +kernel
theorem dX7_fine_14 : decode cX7_fine 14 = .ok (.invokevirtual 211, 3) := by decide +kernel
theorem dX7_fine_17 : decode cX7_fine 17 = .ok (.goto 5, 3) := by decide +kernel
theorem dX7_fine_20 : decode cX7_fine 20 = .ok (.ldc 69, 2) := by decide +kernel
theorem dX7_fine_22 : decode cX7_fine 22 = .ok (.ireturn, 1) := by decide +kernel
theorem dX7_feed_0 : decode cX7_feed 0 = .ok (.aload_n 0, 1) := by decide +kernel
theorem dX7_feed_1 : decode cX7_feed 1 = .ok (.getfield 36, 3) := by decide +kernel
theorem dX7_feed_4 : decode cX7_feed 4 = .ok (.getfield 214, 3) := by decide +kernel
theorem dX7_feed_7 : decode cX7_feed 7 = .ok (.bipush 12, 2) := by decide +kernel
theorem dX7_feed_9 : decode cX7_feed 9 = .ok (.iadd, 1) := by decide +kernel
theorem dX7_feed_10 : decode cX7_feed 10 = .ok (.bipush 96, 2) := by decide +kernel
theorem dX7_feed_12 : decode cX7_feed 12 = .ok (.if_icmp .le 6, 3) := by decide +kernel
theorem dX7_feed_15 : decode cX7_feed 15 = .ok (.ldc 73, 2) := by decide +kernel
theorem dX7_feed_17 : decode cX7_feed 17 = .ok (.ireturn, 1) := by decide +kernel
theorem dX7_feed_18 : decode cX7_feed 18 = .ok (.aload_n 0, 1) := by decide +kernel
theorem dX7_feed_19 : decode cX7_feed 19 = .ok (.getfield 36, 3) := by decide +kernel
theorem dX7_feed_22 : decode cX7_feed 22 = .ok (.iload_n 1, 1) := by decide +kernel
theorem dX7_feed_23 : decode cX7_feed 23 = .ok (.invokevirtual 217, 3) := by decide +kernel
theorem dX7_feed_26 : decode cX7_feed 26 = .ok (.aload_n 0, 1) := by decide +kernel
theorem dX7_feed_27 : decode cX7_feed 27 = .ok (.getfield 36, 3) := by decide +kernel
theorem dX7_feed_30 : decode cX7_feed 30 = .ok (.iload_n 2, 1) := by decide +kernel
theorem dX7_feed_31 : decode cX7_feed 31 = .ok (.invokevirtual 217, 3) := by decide +kernel
theorem dX7_feed_34 : decode cX7_feed 34 = .ok (.aload_n 0, 1) := by decide +kernel
theorem dX7_feed_35 : decode cX7_feed 35 = .ok (.getfield 36, 3) := by decide +kernel
theorem dX7_feed_38 : decode cX7_feed 38 = .ok (.iload_n 3, 1) := by decide +kernel
theorem dX7_feed_39 : decode cX7_feed 39 = .ok (.invokevirtual 217, 3) := by decide +kernel
theorem dX7_feed_42 : decode cX7_feed 42 = .ok (.aload_n 0, 1) := by decide +kernel
theorem dX7_feed_43 : decode cX7_feed 43 = .ok (.getfield 36, 3) := by decide +kernel
theorem dX7_feed_46 : decode cX7_feed 46 = .ok (.getfield 214, 3) := by decide +kernel
theorem dX7_feed_49 : decode cX7_feed 49 = .ok (.ireturn, 1) := by decide +kernel
theorem dX7_trim_0 : decode cX7_trim 0 = .ok (.iload_n 1, 1) := by decide +kernel
theorem dX7_trim_1 : decode cX7_trim 1 = .ok (.aload_n 0, 1) := by decide +kernel
theorem dX7_trim_2 : decode cX7_trim 2 = .ok (.getfield 36, 3) := by decide +kernel
theorem dX7_trim_5 : decode cX7_trim 5 = .ok (.getfield 214, 3) := by decide +kernel
theorem dX7_trim_8 : decode cX7_trim 8 = .ok (.invokestatic 65, 3) := by decide +kernel
theorem dX7_trim_11 : decode cX7_trim 11 = .ok (.ifCond .ne 6, 3) := by decide +kernel
theorem dX7_trim_14 : decode cX7_trim 14 = .ok (.ldc 69, 2) := by decide +kernel
theorem dX7_trim_16 : decode cX7_trim 16 = .ok (.ireturn, 1) := by decide +kernel
theorem dX7_trim_17 : decode cX7_trim 17 = .ok (.aload_n 0, 1) := by decide +kernel
theorem dX7_trim_18 : decode cX7_trim 18 = .ok (.getfield 36, 3) := by decide +kernel
theorem dX7_trim_21 : decode cX7_trim 21 = .ok (.iload_n 1, 1) := by decide +kernel
theorem dX7_trim_22 : decode cX7_trim 22 = .ok (.putfield 214, 3) := by decide +kernel
theorem dX7_trim_25 : decode cX7_trim 25 = .ok (.iload_n 1, 1) := by decide +kernel
theorem dX7_trim_26 : decode cX7_trim 26 = .ok (.ireturn, 1) := by decide +kernel
theorem dX7_text_0 : decode cX7_text 0 = .ok (.aload_n 0, 1) := by decide +kernel
theorem dX7_text_1 : decode cX7_text 1 = .ok (.getfield 36, 3) := by decide +kernel
theorem dX7_text_4 : decode cX7_text 4 = .ok (.invokevirtual 221, 3) := by decide +kernel
theorem dX7_text_7 : decode cX7_text 7 = .ok (.astore_n 1, 1) := by decide +kernel
theorem dX7_text_8 : decode cX7_text 8 = .ok (.aload_n 0, 1) := by decide +kernel
theorem dX7_text_9 : decode cX7_text 9 = .ok (.getfield 36, 3) := by decide +kernel
theorem dX7_text_12 : decode cX7_text 12 = .ok (.iconst 0, 1) := by decide +kernel
theorem dX7_text_13 : decode cX7_text 13 = .ok (.putfield 214, 3) := by decide +kernel
theorem dX7_text_16 : decode cX7_text 16 = .ok (.aload_n 1, 1) := by decide +kernel
theorem dX7_text_17 : decode cX7_text 17 = .ok (.ifnonnull 14, 3) := by decide +kernel
theorem dX7_text_20 : decode cX7_text 20 = .ok (.bipush (-100), 2) := by decide +kernel
theorem dX7_text_22 : decode cX7_text 22 = .ok (.aload_n 0, 1) := by decide +kernel
theorem dX7_text_23 : decode cX7_text 23 = .ok (.getfield 36, 3) := by decide +kernel
theorem dX7_text_26 : decode cX7_text 26 = .ok (.getfield 225, 3) := by decide +kernel
theorem dX7_text_29 : decode cX7_text 29 = .ok (.isub, 1) := by decide +kernel
theorem dX7_text_30 : decode cX7_text 30 = .ok (.ireturn, 1) := by decide +kernel
theorem dX7_text_31 : decode cX7_text 31 = .ok (.aload_n 0, 1) := by decide +kernel
theorem dX7_text_32 : decode cX7_text 32 = .ok (.getfield 10, 3) := by decide +kernel
theorem dX7_text_35 : decode cX7_text 35 = .ok (.getfield 228, 3) := by decide +kernel
theorem dX7_text_38 : decode cX7_text 38 = .ok (.bipush 14, 2) := by decide +kernel
theorem dX7_text_40 : decode cX7_text 40 = .ok (.if_icmp .lt 6, 3) := by decide +kernel
theorem dX7_text_43 : decode cX7_text 43 = .ok (.ldc 73, 2) := by decide +kernel
theorem dX7_text_45 : decode cX7_text 45 = .ok (.ireturn, 1) := by decide +kernel
theorem dX7_text_46 : decode cX7_text 46 = .ok (.aload_n 0, 1) := by decide +kernel
theorem dX7_text_47 : decode cX7_text 47 = .ok (.getfield 10, 3) := by decide +kernel
theorem dX7_text_50 : decode cX7_text 50 = .ok (.aload_n 1, 1) := by decide +kernel
theorem dX7_text_51 : decode cX7_text 51 = .ok (.invokevirtual 231, 3) := by decide +kernel
theorem dX7_text_54 : decode cX7_text 54 = .ok (.ireturn, 1) := by decide +kernel
theorem dX7_textTold_0 : decode cX7_textTold 0 = .ok (.aload_n 0, 1) := by decide +kernel
theorem dX7_textTold_1 : decode cX7_textTold 1 = .ok (.getfield 10, 3) := by decide +kernel
theorem dX7_textTold_4 : decode cX7_textTold 4 = .ok (.iload_n 1, 1) := by decide +kernel
theorem dX7_textTold_5 : decode cX7_textTold 5 = .ok (.invokevirtual 235, 3) := by decide +kernel
theorem dX7_textTold_8 : decode cX7_textTold 8 = .ok (.astore_n 3, 1) := by decide +kernel
theorem dX7_textTold_9 : decode cX7_textTold 9 = .ok (.aload_n 3, 1) := by decide +kernel
theorem dX7_textTold_10 : decode cX7_textTold 10 = .ok (.ifnull 11, 3) := by decide +kernel
theorem dX7_textTold_13 : decode cX7_textTold 13 = .ok (.iload_n 2, 1) := by decide +kernel
theorem dX7_textTold_14 : decode cX7_textTold 14 = .ok (.iconst 1, 1) := by decide +kernel
theorem dX7_textTold_15 : decode cX7_textTold 15 = .ok (.invokestatic 65, 3) := by decide +kernel
theorem dX7_textTold_18 : decode cX7_textTold 18 = .ok (.ifCond .ne 6, 3) := by decide +kernel
theorem dX7_textTold_21 : decode cX7_textTold 21 = .ok (.ldc 69, 2) := by decide +kernel
theorem dX7_textTold_23 : decode cX7_textTold 23 = .ok (.ireturn, 1) := by decide +kernel
theorem dX7_textTold_24 : decode cX7_textTold 24 = .ok (.iload_n 2, 1) := by decide +kernel
theorem dX7_textTold_25 : decode cX7_textTold 25 = .ok (.ifCond .ne 10, 3) := by decide +kernel
theorem dX7_textTold_28 : decode cX7_textTold 28 = .ok (.aload_n 3, 1) := by decide +kernel
theorem dX7_textTold_29 : decode cX7_textTold 29 = .ok (.getfield 239, 3) := by decide +kernel
theorem dX7_textTold_32 : decode cX7_textTold 32 = .ok (.goto 7, 3) := by decide +kernel
theorem dX7_textTold_35 : decode cX7_textTold 35 = .ok (.aload_n 3, 1) := by decide +kernel
theorem dX7_textTold_36 : decode cX7_textTold 36 = .ok (.getfield 244, 3) := by decide +kernel
theorem dX7_textTold_39 : decode cX7_textTold 39 = .ok (.ireturn, 1) := by decide +kernel
theorem dX7_why_0 : decode cX7_why 0 = .ok (.iload_n 1, 1) := by decide +kernel
theorem dX7_why_1 : decode cX7_why 1 = .ok (.iconst 2, 1) := by decide +kernel
theorem dX7_why_2 : decode cX7_why 2 = .ok (.invokestatic 65, 3) := by decide +kernel
theorem dX7_why_5 : decode cX7_why 5 = .ok (.ifCond .ne 6, 3) := by decide +kernel
theorem dX7_why_8 : decode cX7_why 8 = .ok (.ldc 69, 2) := by decide +kernel
theorem dX7_why_10 : decode cX7_why 10 = .ok (.ireturn, 1) := by decide +kernel
theorem dX7_why_11 : decode cX7_why 11 = .ok (.aload_n 0, 1) := by decide +kernel
theorem dX7_why_12 : decode cX7_why 12 = .ok (.getfield 10, 3) := by decide +kernel
theorem dX7_why_15 : decode cX7_why 15 = .ok (.getfield 247, 3) := by decide +kernel
theorem dX7_why_18 : decode cX7_why 18 = .ok (.iload_n 1, 1) := by decide +kernel
theorem dX7_why_19 : decode cX7_why 19 = .ok (.iaload, 1) := by decide +kernel
theorem dX7_why_20 : decode cX7_why 20 = .ok (.istore_n 2, 1) := by decide +kernel
theorem dX7_why_21 : decode cX7_why 21 = .ok (.iload_n 2, 1) := by decide +kernel
theorem dX7_why_22 : decode cX7_why 22 = .ok (.ifCond .ge 8, 3) := by decide +kernel
theorem dX7_why_25 : decode cX7_why 25 = .ok (.ldc 179, 2) := by decide +kernel
theorem dX7_why_27 : decode cX7_why 27 = .ok (.goto 4, 3) := by decide +kernel
theorem dX7_why_30 : decode cX7_why 30 = .ok (.iload_n 2, 1) := by decide +kernel
theorem dX7_why_31 : decode cX7_why 31 = .ok (.ireturn, 1) := by decide +kernel
theorem dX7_sheet_0 : decode cX7_sheet 0 = .ok (.aload_n 0, 1) := by decide +kernel
theorem dX7_sheet_1 : decode cX7_sheet 1 = .ok (.iload_n 1, 1) := by decide +kernel
theorem dX7_sheet_2 : decode cX7_sheet 2 = .ok (.invokevirtual 199, 3) := by decide +kernel
theorem dX7_sheet_5 : decode cX7_sheet 5 = .ok (.astore 4, 2) := by decide +kernel
theorem dX7_sheet_7 : decode cX7_sheet 7 = .ok (.aload 4, 2) := by decide +kernel
theorem dX7_sheet_9 : decode cX7_sheet 9 = .ok (.ifnull 13, 3) := by decide +kernel
theorem dX7_sheet_12 : decode cX7_sheet 12 = .ok (.iload_n 2, 1) := by decide +kernel
theorem dX7_sheet_13 : decode cX7_sheet 13 = .ok (.iconst (-1), 1) := by decide +kernel
theorem dX7_sheet_14 : decode cX7_sheet 14 = .ok (.if_icmp .lt 8, 3) := by decide +kernel
theorem dX7_sheet_17 : decode cX7_sheet 17 = .ok (.iload_n 2, 1) := by decide +kernel
theorem dX7_sheet_18 : decode cX7_sheet 18 = .ok (.iconst 1, 1) := by decide +kernel
theorem dX7_sheet_19 : decode cX7_sheet 19 = .ok (.if_icmp .le 6, 3) := by decide +kernel
theorem dX7_sheet_22 : decode cX7_sheet 22 = .ok (.ldc 69, 2) := by decide +kernel
theorem dX7_sheet_24 : decode cX7_sheet 24 = .ok (.ireturn, 1) := by decide +kernel
theorem dX7_sheet_25 : decode cX7_sheet 25 = .ok (.iload_n 2, 1) := by decide +kernel
theorem dX7_sheet_26 : decode cX7_sheet 26 = .ok (.iconst (-1), 1) := by decide +kernel
theorem dX7_sheet_27 : decode cX7_sheet 27 = .ok (.if_icmp .ne 12, 3) := by decide +kernel
theorem dX7_sheet_30 : decode cX7_sheet 30 = .ok (.aload 4, 2) := by decide +kernel
theorem dX7_sheet_32 : decode cX7_sheet 32 = .ok (.iconst (-1), 1) := by decide +kernel
theorem dX7_sheet_33 : decode cX7_sheet 33 = .ok (.iconst 0, 1) := by decide +kernel
theorem dX7_sheet_34 : decode cX7_sheet 34 = .ok (.invokevirtual 250, 3) := by decide +kernel
theorem dX7_sheet_37 : decode cX7_sheet 37 = .ok (.iconst 0, 1) := by decide +kernel
theorem dX7_sheet_38 : decode cX7_sheet 38 = .ok (.ireturn, 1) := by decide +kernel
theorem dX7_sheet_39 : decode cX7_sheet 39 = .ok (.iload_n 3, 1) := by decide +kernel
theorem dX7_sheet_40 : decode cX7_sheet 40 = .ok (.bipush 24, 2) := by decide +kernel
theorem dX7_sheet_42 : decode cX7_sheet 42 = .ok (.if_icmp .le 6, 3) := by decide +kernel
theorem dX7_sheet_45 : decode cX7_sheet 45 = .ok (.ldc 69, 2) := by decide +kernel
theorem dX7_sheet_47 : decode cX7_sheet 47 = .ok (.ireturn, 1) := by decide +kernel
theorem dX7_sheet_48 : decode cX7_sheet 48 = .ok (.iload_n 3, 1) := by decide +kernel
theorem dX7_sheet_49 : decode cX7_sheet 49 = .ok (.ifCond .ge 6, 3) := by decide +kernel
theorem dX7_sheet_52 : decode cX7_sheet 52 = .ok (.ldc 253, 2) := by decide +kernel
theorem dX7_sheet_54 : decode cX7_sheet 54 = .ok (.ireturn, 1) := by decide +kernel
theorem dX7_sheet_55 : decode cX7_sheet 55 = .ok (.aload 4, 2) := by decide +kernel
theorem dX7_sheet_57 : decode cX7_sheet 57 = .ok (.iload_n 2, 1) := by decide +kernel
theorem dX7_sheet_58 : decode cX7_sheet 58 = .ok (.iload_n 3, 1) := by decide +kernel
theorem dX7_sheet_59 : decode cX7_sheet 59 = .ok (.invokevirtual 250, 3) := by decide +kernel
theorem dX7_sheet_62 : decode cX7_sheet 62 = .ok (.iload_n 3, 1) := by decide +kernel
theorem dX7_sheet_63 : decode cX7_sheet 63 = .ok (.ireturn, 1) := by decide +kernel
theorem dX7_mark_0 : decode cX7_mark 0 = .ok (.aload_n 0, 1) := by decide +kernel
theorem dX7_mark_1 : decode cX7_mark 1 = .ok (.iload_n 1, 1) := by decide +kernel
theorem dX7_mark_2 : decode cX7_mark 2 = .ok (.invokevirtual 199, 3) := by decide +kernel
theorem dX7_mark_5 : decode cX7_mark 5 = .ok (.astore 4, 2) := by decide +kernel
theorem dX7_mark_7 : decode cX7_mark 7 = .ok (.aload 4, 2) := by decide +kernel
theorem dX7_mark_9 : decode cX7_mark 9 = .ok (.ifnonnull 6, 3) := by decide +kernel
theorem dX7_mark_12 : decode cX7_mark 12 = .ok (.ldc 69, 2) := by decide +kernel
theorem dX7_mark_14 : decode cX7_mark 14 = .ok (.ireturn, 1) := by decide +kernel
theorem dX7_mark_15 : decode cX7_mark 15 = .ok (.aload 4, 2) := by decide +kernel
theorem dX7_mark_17 : decode cX7_mark 17 = .ok (.getfield 203, 3) := by decide +kernel
theorem dX7_mark_20 : decode cX7_mark 20 = .ok (.iconst (-1), 1) := by decide +kernel
theorem dX7_mark_21 : decode cX7_mark 21 = .ok (.if_icmp .ne 6, 3) := by decide +kernel
theorem dX7_mark_24 : decode cX7_mark 24 = .ok (.ldc 206, 2) := by decide +kernel
theorem dX7_mark_26 : decode cX7_mark 26 = .ok (.ireturn, 1) := by decide +kernel
theorem dX7_mark_27 : decode cX7_mark 27 = .ok (.aload 4, 2) := by decide +kernel
theorem dX7_mark_29 : decode cX7_mark 29 = .ok (.iload_n 2, 1) := by decide +kernel
theorem dX7_mark_30 : decode cX7_mark 30 = .ok (.invokevirtual 254, 3) := by decide +kernel
theorem dX7_mark_33 : decode cX7_mark 33 = .ok (.ifCond .ne 7, 3) := by decide +kernel
theorem dX7_mark_36 : decode cX7_mark 36 = .ok (.ldc_w 257, 3) := by decide +kernel
theorem dX7_mark_39 : decode cX7_mark 39 = .ok (.ireturn, 1) := by decide +kernel
theorem dX7_mark_40 : decode cX7_mark 40 = .ok (.aload 4, 2) := by decide +kernel
theorem dX7_mark_42 : decode cX7_mark 42 = .ok (.getfield 203, 3) := by decide +kernel
theorem dX7_mark_45 : decode cX7_mark 45 = .ok (.ifCond .ne 23, 3) := by decide +kernel
theorem dX7_mark_48 : decode cX7_mark 48 = .ok (.iload_n 3, 1) := by decide +kernel
theorem dX7_mark_49 : decode cX7_mark 49 = .ok (.ldc 179, 2) := by decide +kernel
theorem dX7_mark_51 : decode cX7_mark 51 = .ok (.if_icmp .ne 6, 3) := by decide +kernel
theorem dX7_mark_54 : decode cX7_mark 54 = .ok (.ldc 95, 2) := by decide +kernel
theorem dX7_mark_56 : decode cX7_mark 56 = .ok (.ireturn, 1) := by decide +kernel
theorem dX7_mark_57 : decode cX7_mark 57 = .ok (.aload 4, 2) := by decide +kernel
theorem dX7_mark_59 : decode cX7_mark 59 = .ok (.getfield 258, 3) := by decide +kernel
theorem dX7_mark_62 : decode cX7_mark 62 = .ok (.iload_n 2, 1) := by decide +kernel
theorem dX7_mark_63 : decode cX7_mark 63 = .ok (.iload_n 3, 1) := by decide +kernel
theorem dX7_mark_64 : decode cX7_mark 64 = .ok (.i2s, 1) := by decide +kernel
theorem dX7_mark_65 : decode cX7_mark 65 = .ok (.iastore, 1) := by decide +kernel
theorem dX7_mark_66 : decode cX7_mark 66 = .ok (.iconst 1, 1) := by decide +kernel
theorem dX7_mark_67 : decode cX7_mark 67 = .ok (.ireturn, 1) := by decide +kernel
theorem dX7_mark_68 : decode cX7_mark 68 = .ok (.iload_n 3, 1) := by decide +kernel
theorem dX7_mark_69 : decode cX7_mark 69 = .ok (.ldc 179, 2) := by decide +kernel
theorem dX7_mark_71 : decode cX7_mark 71 = .ok (.if_icmp .eq 20, 3) := by decide +kernel
theorem dX7_mark_74 : decode cX7_mark 74 = .ok (.iload_n 3, 1) := by decide +kernel
theorem dX7_mark_75 : decode cX7_mark 75 = .ok (.ldc_w 261, 3) := by decide +kernel
theorem dX7_mark_78 : decode cX7_mark 78 = .ok (.if_icmp .lt 10, 3) := by decide +kernel
theorem dX7_mark_81 : decode cX7_mark 81 = .ok (.iload_n 3, 1) := by decide +kernel
theorem dX7_mark_82 : decode cX7_mark 82 = .ok (.ldc_w 262, 3) := by decide +kernel
theorem dX7_mark_85 : decode cX7_mark 85 = .ok (.if_icmp .le 6, 3) := by decide +kernel
theorem dX7_mark_88 : decode cX7_mark 88 = .ok (.ldc 69, 2) := by decide +kernel
theorem dX7_mark_90 : decode cX7_mark 90 = .ok (.ireturn, 1) := by decide +kernel
theorem dX7_mark_91 : decode cX7_mark 91 = .ok (.aload 4, 2) := by decide +kernel
theorem dX7_mark_93 : decode cX7_mark 93 = .ok (.getfield 258, 3) := by decide +kernel
theorem dX7_mark_96 : decode cX7_mark 96 = .ok (.iload_n 2, 1) := by decide +kernel
theorem dX7_mark_97 : decode cX7_mark 97 = .ok (.iload_n 3, 1) := by decide +kernel
theorem dX7_mark_98 : decode cX7_mark 98 = .ok (.iastore, 1) := by decide +kernel
theorem dX7_mark_99 : decode cX7_mark 99 = .ok (.iconst 1, 1) := by decide +kernel
theorem dX7_mark_100 : decode cX7_mark 100 = .ok (.ireturn, 1) := by decide +kernel
theorem dX7_pour_0 : decode cX7_pour 0 = .ok (.aload_n 0, 1) := by decide +kernel
theorem dX7_pour_1 : decode cX7_pour 1 = .ok (.iload_n 1, 1) := by decide +kernel
theorem dX7_pour_2 : decode cX7_pour 2 = .ok (.invokevirtual 199, 3) := by decide +kernel
theorem dX7_pour_5 : decode cX7_pour 5 = .ok (.astore_n 2, 1) := by decide +kernel
theorem dX7_pour_6 : decode cX7_pour 6 = .ok (.aload_n 2, 1) := by decide +kernel
theorem dX7_pour_7 : decode cX7_pour 7 = .ok (.ifnonnull 6, 3) := by decide +kernel
theorem dX7_pour_10 : decode cX7_pour 10 = .ok (.ldc 69, 2) := by decide +kernel
theorem dX7_pour_12 : decode cX7_pour 12 = .ok (.ireturn, 1) := by decide +kernel
theorem dX7_pour_13 : decode cX7_pour 13 = .ok (.aload_n 2, 1) := by decide +kernel
theorem dX7_pour_14 : decode cX7_pour 14 = .ok (.getfield 203, 3) := by decide +kernel
theorem dX7_pour_17 : decode cX7_pour 17 = .ok (.iconst (-1), 1) := by decide +kernel
theorem dX7_pour_18 : decode cX7_pour 18 = .ok (.if_icmp .ne 6, 3) := by decide +kernel
theorem dX7_pour_21 : decode cX7_pour 21 = .ok (.ldc 206, 2) := by decide +kernel
theorem dX7_pour_23 : decode cX7_pour 23 = .ok (.ireturn, 1) := by decide +kernel
theorem dX7_pour_24 : decode cX7_pour 24 = .ok (.iconst 0, 1) := by decide +kernel
theorem dX7_pour_25 : decode cX7_pour 25 = .ok (.istore_n 3, 1) := by decide +kernel
theorem dX7_pour_26 : decode cX7_pour 26 = .ok (.iconst 0, 1) := by decide +kernel
theorem dX7_pour_27 : decode cX7_pour 27 = .ok (.istore 4, 2) := by decide +kernel
theorem dX7_pour_29 : decode cX7_pour 29 = .ok (.iload 4, 2) := by decide +kernel
theorem dX7_pour_31 : decode cX7_pour 31 = .ok (.aload_n 0, 1) := by decide +kernel
theorem dX7_pour_32 : decode cX7_pour 32 = .ok (.getfield 10, 3) := by decide +kernel
theorem dX7_pour_35 : decode cX7_pour 35 = .ok (.getfield 70, 3) := by decide +kernel
theorem dX7_pour_38 : decode cX7_pour 38 = .ok (.if_icmp .ge 72, 3) := by decide +kernel
theorem dX7_pour_41 : decode cX7_pour 41 = .ok (.aload_n 0, 1) := by decide +kernel
theorem dX7_pour_42 : decode cX7_pour 42 = .ok (.getfield 10, 3) := by decide +kernel
theorem dX7_pour_45 : decode cX7_pour 45 = .ok (.getfield 134, 3) := by decide +kernel
theorem dX7_pour_48 : decode cX7_pour 48 = .ok (.iload 4, 2) := by decide +kernel
theorem dX7_pour_50 : decode cX7_pour 50 = .ok (.aaload, 1) := by decide +kernel
theorem dX7_pour_51 : decode cX7_pour 51 = .ok (.astore 5, 2) := by decide +kernel
theorem dX7_pour_53 : decode cX7_pour 53 = .ok (.aload_n 2, 1) := by decide +kernel
theorem dX7_pour_54 : decode cX7_pour 54 = .ok (.iload 4, 2) := by decide +kernel
theorem dX7_pour_56 : decode cX7_pour 56 = .ok (.invokevirtual 263, 3) := by decide +kernel
theorem dX7_pour_59 : decode cX7_pour 59 = .ok (.ifCond .eq 18, 3) := by decide +kernel
theorem dX7_pour_62 : decode cX7_pour 62 = .ok (.aload_n 2, 1) := by decide +kernel
theorem dX7_pour_63 : decode cX7_pour 63 = .ok (.getfield 258, 3) := by decide +kernel
theorem dX7_pour_66 : decode cX7_pour 66 = .ok (.iload 4, 2) := by decide +kernel
theorem dX7_pour_68 : decode cX7_pour 68 = .ok (.iaload, 1) := by decide +kernel
theorem dX7_pour_69 : decode cX7_pour 69 = .ok (.bipush 99, 2) := by decide +kernel
theorem dX7_pour_71 : decode cX7_pour 71 = .ok (.invokestatic 266, 3) := by decide +kernel
theorem dX7_pour_74 : decode cX7_pour 74 = .ok (.goto 8, 3) := by decide +kernel
theorem dX7_pour_77 : decode cX7_pour 77 = .ok (.aload 5, 2) := by decide +kernel
theorem dX7_pour_79 : decode cX7_pour 79 = .ok (.getfield 92, 3) := by decide +kernel
theorem dX7_pour_82 : decode cX7_pour 82 = .ok (.istore 6, 2) := by decide +kernel
theorem dX7_pour_84 : decode cX7_pour 84 = .ok (.iload 6, 2) := by decide +kernel
theorem dX7_pour_86 : decode cX7_pour 86 = .ok (.aload 5, 2) := by decide +kernel
theorem dX7_pour_88 : decode cX7_pour 88 = .ok (.getfield 92, 3) := by decide +kernel
theorem dX7_pour_91 : decode cX7_pour 91 = .ok (.if_icmp .eq 6, 3) := by decide +kernel
theorem dX7_pour_94 : decode cX7_pour 94 = .ok (.iinc 3 1, 3) := by decide +kernel
theorem dX7_pour_97 : decode cX7_pour 97 = .ok (.aload 5, 2) := by decide +kernel
theorem dX7_pour_99 : decode cX7_pour 99 = .ok (.iload 6, 2) := by decide +kernel
theorem dX7_pour_101 : decode cX7_pour 101 = .ok (.putfield 92, 3) := by decide +kernel
theorem dX7_pour_104 : decode cX7_pour 104 = .ok (.iinc 4 1, 3) := by decide +kernel
theorem dX7_pour_107 : decode cX7_pour 107 = .ok (.goto (-78), 3) := by decide +kernel
theorem dX7_pour_110 : decode cX7_pour 110 = .ok (.iload_n 3, 1) := by decide +kernel
theorem dX7_pour_111 : decode cX7_pour 111 = .ok (.ireturn, 1) := by decide +kernel
theorem dX7_reads_0 : decode cX7_reads 0 = .ok (.aload_n 0, 1) := by decide +kernel
theorem dX7_reads_1 : decode cX7_reads 1 = .ok (.iload_n 1, 1) := by decide +kernel
theorem dX7_reads_2 : decode cX7_reads 2 = .ok (.invokevirtual 199, 3) := by decide +kernel
theorem dX7_reads_5 : decode cX7_reads 5 = .ok (.astore_n 2, 1) := by decide +kernel
theorem dX7_reads_6 : decode cX7_reads 6 = .ok (.aload_n 2, 1) := by decide +kernel
theorem dX7_reads_7 : decode cX7_reads 7 = .ok (.ifnonnull 6, 3) := by decide +kernel
theorem dX7_reads_10 : decode cX7_reads 10 = .ok (.ldc 69, 2) := by decide +kernel
theorem dX7_reads_12 : decode cX7_reads 12 = .ok (.ireturn, 1) := by decide +kernel
theorem dX7_reads_13 : decode cX7_reads 13 = .ok (.aload_n 2, 1) := by decide +kernel
theorem dX7_reads_14 : decode cX7_reads 14 = .ok (.getfield 203, 3) := by decide +kernel
theorem dX7_reads_17 : decode cX7_reads 17 = .ok (.iconst (-1), 1) := by decide +kernel
theorem dX7_reads_18 : decode cX7_reads 18 = .ok (.if_icmp .ne 6, 3) := by decide +kernel
theorem dX7_reads_21 : decode cX7_reads 21 = .ok (.ldc 206, 2) := by decide +kernel
theorem dX7_reads_23 : decode cX7_reads 23 = .ok (.ireturn, 1) := by decide +kernel
theorem dX7_reads_24 : decode cX7_reads 24 = .ok (.iconst 0, 1) := by decide +kernel
theorem dX7_reads_25 : decode cX7_reads 25 = .ok (.istore_n 3, 1) := by decide +kernel
theorem dX7_reads_26 : decode cX7_reads 26 = .ok (.iload_n 3, 1) := by decide +kernel
theorem dX7_reads_27 : decode cX7_reads 27 = .ok (.aload_n 2, 1) := by decide +kernel
theorem dX7_reads_28 : decode cX7_reads 28 = .ok (.getfield 269, 3) := by decide +kernel
theorem dX7_reads_31 : decode cX7_reads 31 = .ok (.if_icmp .ge 48, 3) := by decide +kernel
theorem dX7_reads_34 : decode cX7_reads 34 = .ok (.aload_n 0, 1) := by decide +kernel
theorem dX7_reads_35 : decode cX7_reads 35 = .ok (.getfield 10, 3) := by decide +kernel
theorem dX7_reads_38 : decode cX7_reads 38 = .ok (.iload_n 3, 1) := by decide +kernel
theorem dX7_reads_39 : decode cX7_reads 39 = .ok (.invokevirtual 78, 3) := by decide +kernel
theorem dX7_reads_42 : decode cX7_reads 42 = .ok (.astore 4, 2) := by decide +kernel
theorem dX7_reads_44 : decode cX7_reads 44 = .ok (.aload_n 2, 1) := by decide +kernel
theorem dX7_reads_45 : decode cX7_reads 45 = .ok (.iload_n 3, 1) := by decide +kernel
theorem dX7_reads_46 : decode cX7_reads 46 = .ok (.invokevirtual 263, 3) := by decide +kernel
theorem dX7_reads_49 : decode cX7_reads 49 = .ok (.ifCond .eq 24, 3) := by decide +kernel
theorem dX7_reads_52 : decode cX7_reads 52 = .ok (.aload 4, 2) := by decide +kernel
theorem dX7_reads_54 : decode cX7_reads 54 = .ok (.ifnull 17, 3) := by decide +kernel
theorem dX7_reads_57 : decode cX7_reads 57 = .ok (.aload 4, 2) := by decide +kernel
theorem dX7_reads_59 : decode cX7_reads 59 = .ok (.getfield 92, 3) := by decide +kernel
theorem dX7_reads_62 : decode cX7_reads 62 = .ok (.aload_n 2, 1) := by decide +kernel
theorem dX7_reads_63 : decode cX7_reads 63 = .ok (.getfield 258, 3) := by decide +kernel
theorem dX7_reads_66 : decode cX7_reads 66 = .ok (.iload_n 3, 1) := by decide +kernel
theorem dX7_reads_67 : decode cX7_reads 67 = .ok (.iaload, 1) := by decide +kernel
theorem dX7_reads_68 : decode cX7_reads 68 = .ok (.if_icmp .eq 5, 3) := by decide +kernel
theorem dX7_reads_71 : decode cX7_reads 71 = .ok (.iload_n 3, 1) := by decide +kernel
theorem dX7_reads_72 : decode cX7_reads 72 = .ok (.ireturn, 1) := by decide +kernel
theorem dX7_reads_73 : decode cX7_reads 73 = .ok (.iinc 3 1, 3) := by decide +kernel
theorem dX7_reads_76 : decode cX7_reads 76 = .ok (.goto (-50), 3) := by decide +kernel
theorem dX7_reads_79 : decode cX7_reads 79 = .ok (.ldc 179, 2) := by decide +kernel
theorem dX7_reads_81 : decode cX7_reads 81 = .ok (.ireturn, 1) := by decide +kernel
theorem dX7_copy_0 : decode cX7_copy 0 = .ok (.aload_n 0, 1) := by decide +kernel
theorem dX7_copy_1 : decode cX7_copy 1 = .ok (.iload_n 1, 1) := by decide +kernel
theorem dX7_copy_2 : decode cX7_copy 2 = .ok (.invokevirtual 199, 3) := by decide +kernel
theorem dX7_copy_5 : decode cX7_copy 5 = .ok (.astore 6, 2) := by decide +kernel
theorem dX7_copy_7 : decode cX7_copy 7 = .ok (.aload_n 0, 1) := by decide +kernel
theorem dX7_copy_8 : decode cX7_copy 8 = .ok (.iload_n 3, 1) := by decide +kernel
theorem dX7_copy_9 : decode cX7_copy 9 = .ok (.invokevirtual 199, 3) := by decide +kernel
theorem dX7_copy_12 : decode cX7_copy 12 = .ok (.astore 7, 2) := by decide +kernel
theorem dX7_copy_14 : decode cX7_copy 14 = .ok (.aload 6, 2) := by decide +kernel
theorem dX7_copy_16 : decode cX7_copy 16 = .ok (.ifnull 8, 3) := by decide +kernel
theorem dX7_copy_19 : decode cX7_copy 19 = .ok (.aload 7, 2) := by decide +kernel
theorem dX7_copy_21 : decode cX7_copy 21 = .ok (.ifnonnull 6, 3) := by decide +kernel
theorem dX7_copy_24 : decode cX7_copy 24 = .ok (.ldc 69, 2) := by decide +kernel
theorem dX7_copy_26 : decode cX7_copy 26 = .ok (.ireturn, 1) := by decide +kernel
theorem dX7_copy_27 : decode cX7_copy 27 = .ok (.aload 6, 2) := by decide +kernel
theorem dX7_copy_29 : decode cX7_copy 29 = .ok (.getfield 203, 3) := by decide +kernel
theorem dX7_copy_32 : decode cX7_copy 32 = .ok (.iconst (-1), 1) := by decide +kernel
theorem dX7_copy_33 : decode cX7_copy 33 = .ok (.if_icmp .eq 12, 3) := by decide +kernel
theorem dX7_copy_36 : decode cX7_copy 36 = .ok (.aload 7, 2) := by decide +kernel
theorem dX7_copy_38 : decode cX7_copy 38 = .ok (.getfield 203, 3) := by decide +kernel
theorem dX7_copy_41 : decode cX7_copy 41 = .ok (.iconst (-1), 1) := by decide +kernel
theorem dX7_copy_42 : decode cX7_copy 42 = .ok (.if_icmp .ne 6, 3) := by decide +kernel
theorem dX7_copy_45 : decode cX7_copy 45 = .ok (.ldc 206, 2) := by decide +kernel
theorem dX7_copy_47 : decode cX7_copy 47 = .ok (.ireturn, 1) := by decide +kernel
theorem dX7_copy_48 : decode cX7_copy 48 = .ok (.aload 6, 2) := by decide +kernel
theorem dX7_copy_50 : decode cX7_copy 50 = .ok (.getfield 203, 3) := by decide +kernel
theorem dX7_copy_53 : decode cX7_copy 53 = .ok (.aload 7, 2) := by decide +kernel
theorem dX7_copy_55 : decode cX7_copy 55 = .ok (.getfield 203, 3) := by decide +kernel
theorem dX7_copy_58 : decode cX7_copy 58 = .ok (.if_icmp .eq 6, 3) := by decide +kernel
theorem dX7_copy_61 : decode cX7_copy 61 = .ok (.ldc 95, 2) := by decide +kernel
theorem dX7_copy_63 : decode cX7_copy 63 = .ok (.ireturn, 1) := by decide +kernel
theorem dX7_copy_64 : decode cX7_copy 64 = .ok (.aload 6, 2) := by decide +kernel
theorem dX7_copy_66 : decode cX7_copy 66 = .ok (.iload_n 2, 1) := by decide +kernel
theorem dX7_copy_67 : decode cX7_copy 67 = .ok (.iload 5, 2) := by decide +kernel
theorem dX7_copy_69 : decode cX7_copy 69 = .ok (.invokevirtual 272, 3) := by decide +kernel
theorem dX7_copy_72 : decode cX7_copy 72 = .ok (.ifCond .eq 15, 3) := by decide +kernel
theorem dX7_copy_75 : decode cX7_copy 75 = .ok (.aload 7, 2) := by decide +kernel
theorem dX7_copy_77 : decode cX7_copy 77 = .ok (.iload 4, 2) := by decide +kernel
theorem dX7_copy_79 : decode cX7_copy 79 = .ok (.iload 5, 2) := by decide +kernel
theorem dX7_copy_81 : decode cX7_copy 81 = .ok (.invokevirtual 272, 3) := by decide +kernel
theorem dX7_copy_84 : decode cX7_copy 84 = .ok (.ifCond .ne 7, 3) := by decide +kernel
theorem dX7_copy_87 : decode cX7_copy 87 = .ok (.ldc_w 257, 3) := by decide +kernel
theorem dX7_copy_90 : decode cX7_copy 90 = .ok (.ireturn, 1) := by decide +kernel
theorem dX7_copy_91 : decode cX7_copy 91 = .ok (.aload 6, 2) := by decide +kernel
theorem dX7_copy_93 : decode cX7_copy 93 = .ok (.getfield 258, 3) := by decide +kernel
theorem dX7_copy_96 : decode cX7_copy 96 = .ok (.iload_n 2, 1) := by decide +kernel
theorem dX7_copy_97 : decode cX7_copy 97 = .ok (.aload 7, 2) := by decide +kernel
theorem dX7_copy_99 : decode cX7_copy 99 = .ok (.getfield 258, 3) := by decide +kernel
theorem dX7_copy_102 : decode cX7_copy 102 = .ok (.iload 4, 2) := by decide +kernel
theorem dX7_copy_104 : decode cX7_copy 104 = .ok (.iload 5, 2) := by decide +kernel
theorem dX7_copy_106 : decode cX7_copy 106 = .ok (.invokestatic 275, 3) := by decide +kernel
theorem dX7_copy_109 : decode cX7_copy 109 = .ok (.iload 5, 2) := by decide +kernel
theorem dX7_copy_111 : decode cX7_copy 111 = .ok (.ireturn, 1) := by decide +kernel
theorem dX7_lay_0 : decode cX7_lay 0 = .ok (.aload_n 0, 1) := by decide +kernel
theorem dX7_lay_1 : decode cX7_lay 1 = .ok (.iload_n 1, 1) := by decide +kernel
theorem dX7_lay_2 : decode cX7_lay 2 = .ok (.invokevirtual 281, 3) := by decide +kernel
theorem dX7_lay_5 : decode cX7_lay 5 = .ok (.astore 4, 2) := by decide +kernel
theorem dX7_lay_7 : decode cX7_lay 7 = .ok (.aload 4, 2) := by decide +kernel
theorem dX7_lay_9 : decode cX7_lay 9 = .ok (.ifnull 11, 3) := by decide +kernel
theorem dX7_lay_12 : decode cX7_lay 12 = .ok (.iload_n 2, 1) := by decide +kernel
theorem dX7_lay_13 : decode cX7_lay 13 = .ok (.iconst 3, 1) := by decide +kernel
theorem dX7_lay_14 : decode cX7_lay 14 = .ok (.invokestatic 65, 3) := by decide +kernel
theorem dX7_lay_17 : decode cX7_lay 17 = .ok (.ifCond .ne 6, 3) := by decide +kernel
theorem dX7_lay_20 : decode cX7_lay 20 = .ok (.ldc 69, 2) := by decide +kernel
theorem dX7_lay_22 : decode cX7_lay 22 = .ok (.ireturn, 1) := by decide +kernel
theorem dX7_lay_23 : decode cX7_lay 23 = .ok (.aload_n 0, 1) := by decide +kernel
theorem dX7_lay_24 : decode cX7_lay 24 = .ok (.getfield 10, 3) := by decide +kernel
theorem dX7_lay_27 : decode cX7_lay 27 = .ok (.iload_n 3, 1) := by decide +kernel
theorem dX7_lay_28 : decode cX7_lay 28 = .ok (.invokevirtual 78, 3) := by decide +kernel
theorem dX7_lay_31 : decode cX7_lay 31 = .ok (.astore 5, 2) := by decide +kernel
theorem dX7_lay_33 : decode cX7_lay 33 = .ok (.aload_n 0, 1) := by decide +kernel
theorem dX7_lay_34 : decode cX7_lay 34 = .ok (.iload_n 3, 1) := by decide +kernel
theorem dX7_lay_35 : decode cX7_lay 35 = .ok (.invokevirtual 199, 3) := by decide +kernel
theorem dX7_lay_38 : decode cX7_lay 38 = .ok (.astore 6, 2) := by decide +kernel
theorem dX7_lay_40 : decode cX7_lay 40 = .ok (.iload_n 2, 1) := by decide +kernel
theorem dX7_lay_41 : decode cX7_lay 41 = .ok (.iconst 1, 1) := by decide +kernel
theorem dX7_lay_42 : decode cX7_lay 42 = .ok (.if_icmp .ne 8, 3) := by decide +kernel
theorem dX7_lay_45 : decode cX7_lay 45 = .ok (.aload 5, 2) := by decide +kernel
theorem dX7_lay_47 : decode cX7_lay 47 = .ok (.ifnull 13, 3) := by decide +kernel
theorem dX7_lay_50 : decode cX7_lay 50 = .ok (.iload_n 2, 1) := by decide +kernel
theorem dX7_lay_51 : decode cX7_lay 51 = .ok (.iconst 2, 1) := by decide +kernel
theorem dX7_lay_52 : decode cX7_lay 52 = .ok (.if_icmp .ne 11, 3) := by decide +kernel
theorem dX7_lay_55 : decode cX7_lay 55 = .ok (.aload 6, 2) := by decide +kernel
theorem dX7_lay_57 : decode cX7_lay 57 = .ok (.ifnonnull 6, 3) := by decide +kernel
theorem dX7_lay_60 : decode cX7_lay 60 = .ok (.ldc 69, 2) := by decide +kernel
theorem dX7_lay_62 : decode cX7_lay 62 = .ok (.ireturn, 1) := by decide +kernel
theorem dX7_lay_63 : decode cX7_lay 63 = .ok (.iload_n 2, 1) := by decide +kernel
theorem dX7_lay_64 : decode cX7_lay 64 = .ok (.iconst 2, 1) := by decide +kernel
theorem dX7_lay_65 : decode cX7_lay 65 = .ok (.if_icmp .ne 20, 3) := by decide +kernel
theorem dX7_lay_68 : decode cX7_lay 68 = .ok (.aload 6, 2) := by decide +kernel
theorem dX7_lay_70 : decode cX7_lay 70 = .ok (.ifnull 15, 3) := by decide +kernel
theorem dX7_lay_73 : decode cX7_lay 73 = .ok (.aload 6, 2) := by decide +kernel
theorem dX7_lay_75 : decode cX7_lay 75 = .ok (.getfield 203, 3) := by decide +kernel
theorem dX7_lay_78 : decode cX7_lay 78 = .ok (.iconst (-1), 1) := by decide +kernel
theorem dX7_lay_79 : decode cX7_lay 79 = .ok (.if_icmp .ne 6, 3) := by decide +kernel
theorem dX7_lay_82 : decode cX7_lay 82 = .ok (.ldc 206, 2) := by decide +kernel
theorem dX7_lay_84 : decode cX7_lay 84 = .ok (.ireturn, 1) := by decide +kernel
theorem dX7_lay_85 : decode cX7_lay 85 = .ok (.aload 4, 2) := by decide +kernel
theorem dX7_lay_87 : decode cX7_lay 87 = .ok (.getfield 285, 3) := by decide +kernel
theorem dX7_lay_90 : decode cX7_lay 90 = .ok (.istore 7, 2) := by decide +kernel
theorem dX7_lay_92 : decode cX7_lay 92 = .ok (.aload 4, 2) := by decide +kernel
theorem dX7_lay_94 : decode cX7_lay 94 = .ok (.iload_n 2, 1) := by decide +kernel
theorem dX7_lay_95 : decode cX7_lay 95 = .ok (.putfield 285, 3) := by decide +kernel
theorem dX7_lay_98 : decode cX7_lay 98 = .ok (.aload 4, 2) := by decide +kernel
theorem dX7_lay_100 : decode cX7_lay 100 = .ok (.iload_n 3, 1) := by decide +kernel
theorem dX7_lay_101 : decode cX7_lay 101 = .ok (.putfield 288, 3) := by decide +kernel
theorem dX7_lay_104 : decode cX7_lay 104 = .ok (.iload_n 2, 1) := by decide +kernel
theorem dX7_lay_105 : decode cX7_lay 105 = .ok (.iconst 1, 1) := by decide +kernel
theorem dX7_lay_106 : decode cX7_lay 106 = .ok (.if_icmp .ne 18, 3) := by decide +kernel
theorem dX7_lay_109 : decode cX7_lay 109 = .ok (.aload 5, 2) := by decide +kernel
theorem dX7_lay_111 : decode cX7_lay 111 = .ok (.ifnull 13, 3) := by decide +kernel
theorem dX7_lay_114 : decode cX7_lay 114 = .ok (.aload 4, 2) := by decide +kernel
theorem dX7_lay_116 : decode cX7_lay 116 = .ok (.getfield 291, 3) := by decide +kernel
theorem dX7_lay_119 : decode cX7_lay 119 = .ok (.aload 5, 2) := by decide +kernel
theorem dX7_lay_121 : decode cX7_lay 121 = .ok (.invokevirtual 295, 3) := by decide +kernel
theorem dX7_lay_124 : decode cX7_lay 124 = .ok (.iload_n 2, 1) := by decide +kernel
theorem dX7_lay_125 : decode cX7_lay 125 = .ok (.iconst 2, 1) := by decide +kernel
theorem dX7_lay_126 : decode cX7_lay 126 = .ok (.if_icmp .ne 18, 3) := by decide +kernel
theorem dX7_lay_129 : decode cX7_lay 129 = .ok (.aload 6, 2) := by decide +kernel
theorem dX7_lay_131 : decode cX7_lay 131 = .ok (.ifnull 13, 3) := by decide +kernel
theorem dX7_lay_134 : decode cX7_lay 134 = .ok (.aload 4, 2) := by decide +kernel
theorem dX7_lay_136 : decode cX7_lay 136 = .ok (.getfield 298, 3) := by decide +kernel
theorem dX7_lay_139 : decode cX7_lay 139 = .ok (.aload 6, 2) := by decide +kernel
theorem dX7_lay_141 : decode cX7_lay 141 = .ok (.invokevirtual 302, 3) := by decide +kernel
theorem dX7_lay_144 : decode cX7_lay 144 = .ok (.iload 7, 2) := by decide +kernel
theorem dX7_lay_146 : decode cX7_lay 146 = .ok (.ireturn, 1) := by decide +kernel
theorem dX7_ask_0 : decode cX7_ask 0 = .ok (.aload_n 0, 1) := by decide +kernel
theorem dX7_ask_1 : decode cX7_ask 1 = .ok (.iload_n 1, 1) := by decide +kernel
theorem dX7_ask_2 : decode cX7_ask 2 = .ok (.invokevirtual 281, 3) := by decide +kernel
theorem dX7_ask_5 : decode cX7_ask 5 = .ok (.astore_n 3, 1) := by decide +kernel
theorem dX7_ask_6 : decode cX7_ask 6 = .ok (.aload_n 3, 1) := by decide +kernel
theorem dX7_ask_7 : decode cX7_ask 7 = .ok (.ifnull 11, 3) := by decide +kernel
theorem dX7_ask_10 : decode cX7_ask 10 = .ok (.iload_n 2, 1) := by decide +kernel
theorem dX7_ask_11 : decode cX7_ask 11 = .ok (.iconst 5, 1) := by decide +kernel
theorem dX7_ask_12 : decode cX7_ask 12 = .ok (.invokestatic 65, 3) := by decide +kernel
theorem dX7_ask_15 : decode cX7_ask 15 = .ok (.ifCond .ne 6, 3) := by decide +kernel
theorem dX7_ask_18 : decode cX7_ask 18 = .ok (.ldc 69, 2) := by decide +kernel
theorem dX7_ask_20 : decode cX7_ask 20 = .ok (.ireturn, 1) := by decide +kernel
theorem dX7_ask_21 : decode cX7_ask 21 = .ok (.aload_n 3, 1) := by decide +kernel
theorem dX7_ask_22 : decode cX7_ask 22 = .ok (.getfield 285, 3) := by decide +kernel
theorem dX7_ask_25 : decode cX7_ask 25 = .ok (.ifCond .ne 6, 3) := by decide +kernel
theorem dX7_ask_28 : decode cX7_ask 28 = .ok (.ldc 206, 2) := by decide +kernel
theorem dX7_ask_30 : decode cX7_ask 30 = .ok (.ireturn, 1) := by decide +kernel
theorem dX7_ask_31 : decode cX7_ask 31 = .ok (.aload_n 3, 1) := by decide +kernel
theorem dX7_ask_32 : decode cX7_ask 32 = .ok (.getfield 285, 3) := by decide +kernel
theorem dX7_ask_35 : decode cX7_ask 35 = .ok (.iconst 1, 1) := by decide +kernel
theorem dX7_ask_36 : decode cX7_ask 36 = .ok (.if_icmp .ne 14, 3) := by decide +kernel
theorem dX7_ask_39 : decode cX7_ask 39 = .ok (.aload_n 3, 1) := by decide +kernel
theorem dX7_ask_40 : decode cX7_ask 40 = .ok (.getfield 291, 3) := by decide +kernel
theorem dX7_ask_43 : decode cX7_ask 43 = .ok (.iload_n 2, 1) := by decide +kernel
theorem dX7_ask_44 : decode cX7_ask 44 = .ok (.invokevirtual 88, 3) := by decide +kernel
theorem dX7_ask_47 : decode cX7_ask 47 = .ok (.ifCond .ne 6, 3) := by decide +kernel
theorem dX7_ask_50 : decode cX7_ask 50 = .ok (.ldc 95, 2) := by decide +kernel
theorem dX7_ask_52 : decode cX7_ask 52 = .ok (.ireturn, 1) := by decide +kernel
theorem dX7_ask_53 : decode cX7_ask 53 = .ok (.aload_n 3, 1) := by decide +kernel
theorem dX7_ask_54 : decode cX7_ask 54 = .ok (.getfield 291, 3) := by decide +kernel
theorem dX7_ask_57 : decode cX7_ask 57 = .ok (.invokevirtual 304, 3) := by decide +kernel
theorem dX7_ask_60 : decode cX7_ask 60 = .ok (.ireturn, 1) := by decide +kernel
theorem dX7_item_0 : decode cX7_item 0 = .ok (.aload_n 0, 1) := by decide +kernel
theorem dX7_item_1 : decode cX7_item 1 = .ok (.iload_n 1, 1) := by decide +kernel
theorem dX7_item_2 : decode cX7_item 2 = .ok (.invokevirtual 281, 3) := by decide +kernel
theorem dX7_item_5 : decode cX7_item 5 = .ok (.astore_n 3, 1) := by decide +kernel
theorem dX7_item_6 : decode cX7_item 6 = .ok (.aload_n 3, 1) := by decide +kernel
theorem dX7_item_7 : decode cX7_item 7 = .ok (.ifnonnull 6, 3) := by decide +kernel
theorem dX7_item_10 : decode cX7_item 10 = .ok (.ldc 69, 2) := by decide +kernel
theorem dX7_item_12 : decode cX7_item 12 = .ok (.ireturn, 1) := by decide +kernel
theorem dX7_item_13 : decode cX7_item 13 = .ok (.aload_n 3, 1) := by decide +kernel
theorem dX7_item_14 : decode cX7_item 14 = .ok (.getfield 285, 3) := by decide +kernel
theorem dX7_item_17 : decode cX7_item 17 = .ok (.ifCond .ne 6, 3) := by decide +kernel
theorem dX7_item_20 : decode cX7_item 20 = .ok (.ldc 206, 2) := by decide +kernel
theorem dX7_item_22 : decode cX7_item 22 = .ok (.ireturn, 1) := by decide +kernel
theorem dX7_item_23 : decode cX7_item 23 = .ok (.aload_n 3, 1) := by decide +kernel
theorem dX7_item_24 : decode cX7_item 24 = .ok (.getfield 285, 3) := by decide +kernel
theorem dX7_item_27 : decode cX7_item 27 = .ok (.iconst 2, 1) := by decide +kernel
theorem dX7_item_28 : decode cX7_item 28 = .ok (.if_icmp .eq 6, 3) := by decide +kernel
theorem dX7_item_31 : decode cX7_item 31 = .ok (.ldc 95, 2) := by decide +kernel
theorem dX7_item_33 : decode cX7_item 33 = .ok (.ireturn, 1) := by decide +kernel
theorem dX7_item_34 : decode cX7_item 34 = .ok (.aload_n 3, 1) := by decide +kernel
theorem dX7_item_35 : decode cX7_item 35 = .ok (.getfield 298, 3) := by decide +kernel
theorem dX7_item_38 : decode cX7_item 38 = .ok (.iload_n 2, 1) := by decide +kernel
theorem dX7_item_39 : decode cX7_item 39 = .ok (.invokevirtual 254, 3) := by decide +kernel
theorem dX7_item_42 : decode cX7_item 42 = .ok (.ifCond .ne 7, 3) := by decide +kernel
theorem dX7_item_45 : decode cX7_item 45 = .ok (.ldc_w 257, 3) := by decide +kernel
theorem dX7_item_48 : decode cX7_item 48 = .ok (.ireturn, 1) := by decide +kernel
theorem dX7_item_49 : decode cX7_item 49 = .ok (.aload_n 3, 1) := by decide +kernel
theorem dX7_item_50 : decode cX7_item 50 = .ok (.getfield 298, 3) := by decide +kernel
theorem dX7_item_53 : decode cX7_item 53 = .ok (.iload_n 2, 1) := by decide +kernel
theorem dX7_item_54 : decode cX7_item 54 = .ok (.invokevirtual 263, 3) := by decide +kernel
theorem dX7_item_57 : decode cX7_item 57 = .ok (.ifCond .eq 15, 3) := by decide +kernel
theorem dX7_item_60 : decode cX7_item 60 = .ok (.aload_n 3, 1) := by decide +kernel
theorem dX7_item_61 : decode cX7_item 61 = .ok (.getfield 298, 3) := by decide +kernel
theorem dX7_item_64 : decode cX7_item 64 = .ok (.getfield 258, 3) := by decide +kernel
theorem dX7_item_67 : decode cX7_item 67 = .ok (.iload_n 2, 1) := by decide +kernel
theorem dX7_item_68 : decode cX7_item 68 = .ok (.iaload, 1) := by decide +kernel
theorem dX7_item_69 : decode cX7_item 69 = .ok (.goto 5, 3) := by decide +kernel
theorem dX7_item_72 : decode cX7_item 72 = .ok (.ldc 95, 2) := by decide +kernel
theorem dX7_item_74 : decode cX7_item 74 = .ok (.ireturn, 1) := by decide +kernel
theorem dX7_rest_0 : decode cX7_rest 0 = .ok (.aload_n 0, 1) := by decide +kernel
theorem dX7_rest_1 : decode cX7_rest 1 = .ok (.iload_n 1, 1) := by decide +kernel
theorem dX7_rest_2 : decode cX7_rest 2 = .ok (.invokevirtual 281, 3) := by decide +kernel
theorem dX7_rest_5 : decode cX7_rest 5 = .ok (.astore_n 3, 1) := by decide +kernel
theorem dX7_rest_6 : decode cX7_rest 6 = .ok (.aload_n 3, 1) := by decide +kernel
theorem dX7_rest_7 : decode cX7_rest 7 = .ok (.ifnonnull 6, 3) := by decide +kernel
theorem dX7_rest_10 : decode cX7_rest 10 = .ok (.ldc 69, 2) := by decide +kernel
theorem dX7_rest_12 : decode cX7_rest 12 = .ok (.ireturn, 1) := by decide +kernel
theorem dX7_rest_13 : decode cX7_rest 13 = .ok (.aload_n 3, 1) := by decide +kernel
theorem dX7_rest_14 : decode cX7_rest 14 = .ok (.getfield 285, 3) := by decide +kernel
theorem dX7_rest_17 : decode cX7_rest 17 = .ok (.ifCond .ne 6, 3) := by decide +kernel
theorem dX7_rest_20 : decode cX7_rest 20 = .ok (.ldc 206, 2) := by decide +kernel
theorem dX7_rest_22 : decode cX7_rest 22 = .ok (.ireturn, 1) := by decide +kernel
theorem dX7_rest_23 : decode cX7_rest 23 = .ok (.aload_n 3, 1) := by decide +kernel
theorem dX7_rest_24 : decode cX7_rest 24 = .ok (.getfield 285, 3) := by decide +kernel
theorem dX7_rest_27 : decode cX7_rest 27 = .ok (.iconst 3, 1) := by decide +kernel
theorem dX7_rest_28 : decode cX7_rest 28 = .ok (.if_icmp .eq 6, 3) := by decide +kernel
theorem dX7_rest_31 : decode cX7_rest 31 = .ok (.ldc 95, 2) := by decide +kernel
theorem dX7_rest_33 : decode cX7_rest 33 = .ok (.ireturn, 1) := by decide +kernel
theorem dX7_rest_34 : decode cX7_rest 34 = .ok (.iload_n 2, 1) := by decide +kernel
theorem dX7_rest_35 : decode cX7_rest 35 = .ok (.ifCond .ne 8, 3) := by decide +kernel
theorem dX7_rest_38 : decode cX7_rest 38 = .ok (.ldc 142, 2) := by decide +kernel
theorem dX7_rest_40 : decode cX7_rest 40 = .ok (.goto 9, 3) := by decide +kernel
theorem dX7_rest_43 : decode cX7_rest 43 = .ok (.aload_n 3, 1) := by decide +kernel
theorem dX7_rest_44 : decode cX7_rest 44 = .ok (.getfield 288, 3) := by decide +kernel
theorem dX7_rest_47 : decode cX7_rest 47 = .ok (.iload_n 2, 1) := by decide +kernel
theorem dX7_rest_48 : decode cX7_rest 48 = .ok (.irem, 1) := by decide +kernel
theorem dX7_rest_49 : decode cX7_rest 49 = .ok (.ireturn, 1) := by decide +kernel
theorem dX7_tell_0 : decode cX7_tell 0 = .ok (.aload_n 0, 1) := by decide +kernel
theorem dX7_tell_1 : decode cX7_tell 1 = .ok (.getfield 56, 3) := by decide +kernel
theorem dX7_tell_4 : decode cX7_tell 4 = .ok (.bipush 60, 2) := by decide +kernel
theorem dX7_tell_6 : decode cX7_tell 6 = .ok (.if_icmp .lt 6, 3) := by decide +kernel
theorem dX7_tell_9 : decode cX7_tell 9 = .ok (.ldc 73, 2) := by decide +kernel
theorem dX7_tell_11 : decode cX7_tell 11 = .ok (.ireturn, 1) := by decide +kernel
theorem dX7_tell_12 : decode cX7_tell 12 = .ok (.aload_n 0, 1) := by decide +kernel
theorem dX7_tell_13 : decode cX7_tell 13 = .ok (.getfield 52, 3) := by decide +kernel
theorem dX7_tell_16 : decode cX7_tell 16 = .ok (.aload_n 0, 1) := by decide +kernel
theorem dX7_tell_17 : decode cX7_tell 17 = .ok (.getfield 56, 3) := by decide +kernel
theorem dX7_tell_20 : decode cX7_tell 20 = .ok (.iload_n 1, 1) := by decide +kernel
theorem dX7_tell_21 : decode cX7_tell 21 = .ok (.iastore, 1) := by decide +kernel
theorem dX7_tell_22 : decode cX7_tell 22 = .ok (.aload_n 0, 1) := by decide +kernel
theorem dX7_tell_23 : decode cX7_tell 23 = .ok (.dup, 1) := by decide +kernel
theorem dX7_tell_24 : decode cX7_tell 24 = .ok (.getfield 56, 3) := by decide +kernel
theorem dX7_tell_27 : decode cX7_tell 27 = .ok (.iconst 1, 1) := by decide +kernel
theorem dX7_tell_28 : decode cX7_tell 28 = .ok (.iadd, 1) := by decide +kernel
theorem dX7_tell_29 : decode cX7_tell 29 = .ok (.putfield 56, 3) := by decide +kernel
theorem dX7_tell_32 : decode cX7_tell 32 = .ok (.aload_n 0, 1) := by decide +kernel
theorem dX7_tell_33 : decode cX7_tell 33 = .ok (.getfield 56, 3) := by decide +kernel
theorem dX7_tell_36 : decode cX7_tell 36 = .ok (.ireturn, 1) := by decide +kernel
theorem dX7_check_0 : decode cX7_check 0 = .ok (.aload_n 0, 1) := by decide +kernel
theorem dX7_check_1 : decode cX7_check 1 = .ok (.getfield 56, 3) := by decide +kernel
theorem dX7_check_4 : decode cX7_check 4 = .ok (.istore_n 2, 1) := by decide +kernel
theorem dX7_check_5 : decode cX7_check 5 = .ok (.aload_n 0, 1) := by decide +kernel
theorem dX7_check_6 : decode cX7_check 6 = .ok (.iconst 0, 1) := by decide +kernel
theorem dX7_check_7 : decode cX7_check 7 = .ok (.putfield 56, 3) := by decide +kernel
theorem dX7_check_10 : decode cX7_check 10 = .ok (.iload_n 1, 1) := by decide +kernel
theorem dX7_check_11 : decode cX7_check 11 = .ok (.iconst 1, 1) := by decide +kernel
theorem dX7_check_12 : decode cX7_check 12 = .ok (.if_icmp .lt 9, 3) := by decide +kernel
theorem dX7_check_15 : decode cX7_check 15 = .ok (.iload_n 1, 1) := by decide +kernel
theorem dX7_check_16 : decode cX7_check 16 = .ok (.bipush 30, 2) := by decide +kernel
theorem dX7_check_18 : decode cX7_check 18 = .ok (.if_icmp .le 6, 3) := by decide +kernel
theorem dX7_check_21 : decode cX7_check 21 = .ok (.ldc 69, 2) := by decide +kernel
theorem dX7_check_23 : decode cX7_check 23 = .ok (.ireturn, 1) := by decide +kernel
theorem dX7_check_24 : decode cX7_check 24 = .ok (.aload_n 0, 1) := by decide +kernel
theorem dX7_check_25 : decode cX7_check 25 = .ok (.getfield 22, 3) := by decide +kernel
theorem dX7_check_28 : decode cX7_check 28 = .ok (.ifCond .ne 6, 3) := by decide +kernel
theorem dX7_check_31 : decode cX7_check 31 = .ok (.ldc 142, 2) := by decide +kernel
theorem dX7_check_33 : decode cX7_check 33 = .ok (.ireturn, 1) := by decide +kernel
theorem dX7_check_34 : decode cX7_check 34 = .ok (.aload_n 0, 1) := by decide +kernel
theorem dX7_check_35 : decode cX7_check 35 = .ok (.getfield 16, 3) := by decide +kernel
theorem dX7_check_38 : decode cX7_check 38 = .ok (.aload_n 0, 1) := by decide +kernel
theorem dX7_check_39 : decode cX7_check 39 = .ok (.getfield 19, 3) := by decide +kernel
theorem dX7_check_42 : decode cX7_check 42 = .ok (.invokevirtual 189, 3) := by decide +kernel
theorem dX7_check_45 : decode cX7_check 45 = .ok (.iload_n 1, 1) := by decide +kernel
theorem dX7_check_46 : decode cX7_check 46 = .ok (.sipush 9999, 3) := by decide +kernel
theorem dX7_check_49 : decode cX7_check 49 = .ok (.aload_n 0, 1) := by decide +kernel
theorem dX7_check_50 : decode cX7_check 50 = .ok (.getfield 19, 3) := by decide +kernel
theorem dX7_check_53 : decode cX7_check 53 = .ok (.getfield 180, 3) := by decide +kernel
theorem dX7_check_56 : decode cX7_check 56 = .ok (.isub, 1) := by decide +kernel
theorem dX7_check_57 : decode cX7_check 57 = .ok (.invokestatic 116, 3) := by decide +kernel
theorem dX7_check_60 : decode cX7_check 60 = .ok (.istore_n 3, 1) := by decide +kernel
theorem dX7_check_61 : decode cX7_check 61 = .ok (.iconst 0, 1) := by decide +kernel
theorem dX7_check_62 : decode cX7_check 62 = .ok (.istore 4, 2) := by decide +kernel
theorem dX7_check_64 : decode cX7_check 64 = .ok (.iconst 0, 1) := by decide +kernel
theorem dX7_check_65 : decode cX7_check 65 = .ok (.istore 5, 2) := by decide +kernel
theorem dX7_check_67 : decode cX7_check 67 = .ok (.iload 5, 2) := by decide +kernel
theorem dX7_check_69 : decode cX7_check 69 = .ok (.iload_n 3, 1) := by decide +kernel
theorem dX7_check_70 : decode cX7_check 70 = .ok (.if_icmp .ge 78, 3) := by decide +kernel
theorem dX7_check_73 : decode cX7_check 73 = .ok (.aload_n 0, 1) := by decide +kernel
theorem dX7_check_74 : decode cX7_check 74 = .ok (.getfield 16, 3) := by decide +kernel
theorem dX7_check_77 : decode cX7_check 77 = .ok (.invokevirtual 183, 3) := by decide +kernel
theorem dX7_check_80 : decode cX7_check 80 = .ok (.iload 4, 2) := by decide +kernel
theorem dX7_check_82 : decode cX7_check 82 = .ok (.iload_n 2, 1) := by decide +kernel
theorem dX7_check_83 : decode cX7_check 83 = .ok (.if_icmp .ge 20, 3) := by decide +kernel
theorem dX7_check_86 : decode cX7_check 86 = .ok (.aload_n 0, 1) := by decide +kernel
theorem dX7_check_87 : decode cX7_check 87 = .ok (.getfield 52, 3) := by decide +kernel
theorem dX7_check_90 : decode cX7_check 90 = .ok (.iload 4, 2) := by decide +kernel
theorem dX7_check_92 : decode cX7_check 92 = .ok (.iaload, 1) := by decide +kernel
theorem dX7_check_93 : decode cX7_check 93 = .ok (.aload_n 0, 1) := by decide +kernel
theorem dX7_check_94 : decode cX7_check 94 = .ok (.getfield 16, 3) := by decide +kernel
theorem dX7_check_97 : decode cX7_check 97 = .ok (.invokevirtual 193, 3) := by decide +kernel
theorem dX7_check_100 : decode cX7_check 100 = .ok (.if_icmp .eq 8, 3) := by decide +kernel
theorem dX7_check_103 : decode cX7_check 103 = .ok (.iconst 1, 1) := by decide +kernel
theorem dX7_check_104 : decode cX7_check 104 = .ok (.iload 4, 2) := by decide +kernel
theorem dX7_check_106 : decode cX7_check 106 = .ok (.iadd, 1) := by decide +kernel
theorem dX7_check_107 : decode cX7_check 107 = .ok (.ireturn, 1) := by decide +kernel
theorem dX7_check_108 : decode cX7_check 108 = .ok (.iinc 4 1, 3) := by decide +kernel
theorem dX7_check_111 : decode cX7_check 111 = .ok (.iload 4, 2) := by decide +kernel
theorem dX7_check_113 : decode cX7_check 113 = .ok (.iload_n 2, 1) := by decide +kernel
theorem dX7_check_114 : decode cX7_check 114 = .ok (.if_icmp .ge 20, 3) := by decide +kernel
theorem dX7_check_117 : decode cX7_check 117 = .ok (.aload_n 0, 1) := by decide +kernel
theorem dX7_check_118 : decode cX7_check 118 = .ok (.getfield 52, 3) := by decide +kernel
theorem dX7_check_121 : decode cX7_check 121 = .ok (.iload 4, 2) := by decide +kernel
theorem dX7_check_123 : decode cX7_check 123 = .ok (.iaload, 1) := by decide +kernel
theorem dX7_check_124 : decode cX7_check 124 = .ok (.aload_n 0, 1) := by decide +kernel
theorem dX7_check_125 : decode cX7_check 125 = .ok (.getfield 16, 3) := by decide +kernel
theorem dX7_check_128 : decode cX7_check 128 = .ok (.invokevirtual 186, 3) := by decide +kernel
theorem dX7_check_131 : decode cX7_check 131 = .ok (.if_icmp .eq 8, 3) := by decide +kernel
theorem dX7_check_134 : decode cX7_check 134 = .ok (.iconst 1, 1) := by decide +kernel
theorem dX7_check_135 : decode cX7_check 135 = .ok (.iload 4, 2) := by decide +kernel
theorem dX7_check_137 : decode cX7_check 137 = .ok (.iadd, 1) := by decide +kernel
theorem dX7_check_138 : decode cX7_check 138 = .ok (.ireturn, 1) := by decide +kernel
theorem dX7_check_139 : decode cX7_check 139 = .ok (.iinc 4 1, 3) := by decide +kernel
theorem dX7_check_142 : decode cX7_check 142 = .ok (.iinc 5 1, 3) := by decide +kernel
theorem dX7_check_145 : decode cX7_check 145 = .ok (.goto (-78), 3) := by decide +kernel
theorem dX7_check_148 : decode cX7_check 148 = .ok (.iload 4, 2) := by decide +kernel
theorem dX7_check_150 : decode cX7_check 150 = .ok (.iload_n 2, 1) := by decide +kernel
theorem dX7_check_151 : decode cX7_check 151 = .ok (.if_icmp .ne 7, 3) := by decide +kernel
theorem dX7_check_154 : decode cX7_check 154 = .ok (.iconst 0, 1) := by decide +kernel
theorem dX7_check_155 : decode cX7_check 155 = .ok (.goto 7, 3) := by decide +kernel
theorem dX7_check_158 : decode cX7_check 158 = .ok (.iconst 1, 1) := by decide +kernel
theorem dX7_check_159 : decode cX7_check 159 = .ok (.iload 4, 2) := by decide +kernel
theorem dX7_check_161 : decode cX7_check 161 = .ok (.iadd, 1) := by decide +kernel
theorem dX7_check_162 : decode cX7_check 162 = .ok (.ireturn, 1) := by decide +kernel
theorem dX7_keep_0 : decode cX7_keep 0 = .ok (.aload_n 0, 1) := by decide +kernel
theorem dX7_keep_1 : decode cX7_keep 1 = .ok (.getfield 19, 3) := by decide +kernel
theorem dX7_keep_4 : decode cX7_keep 4 = .ok (.aload_n 0, 1) := by decide +kernel
theorem dX7_keep_5 : decode cX7_keep 5 = .ok (.getfield 10, 3) := by decide +kernel
theorem dX7_keep_8 : decode cX7_keep 8 = .ok (.invokevirtual 189, 3) := by decide +kernel
theorem dX7_keep_11 : decode cX7_keep 11 = .ok (.aload_n 0, 1) := by decide +kernel
theorem dX7_keep_12 : decode cX7_keep 12 = .ok (.iconst 1, 1) := by decide +kernel
theorem dX7_keep_13 : decode cX7_keep 13 = .ok (.putfield 22, 3) := by decide +kernel
theorem dX7_keep_16 : decode cX7_keep 16 = .ok (.aload_n 0, 1) := by decide +kernel
theorem dX7_keep_17 : decode cX7_keep 17 = .ok (.getfield 10, 3) := by decide +kernel
theorem dX7_keep_20 : decode cX7_keep 20 = .ok (.getfield 70, 3) := by decide +kernel
theorem dX7_keep_23 : decode cX7_keep 23 = .ok (.ireturn, 1) := by decide +kernel
theorem dX7_back_0 : decode cX7_back 0 = .ok (.aload_n 0, 1) := by decide +kernel
theorem dX7_back_1 : decode cX7_back 1 = .ok (.getfield 22, 3) := by decide +kernel
theorem dX7_back_4 : decode cX7_back 4 = .ok (.ifCond .ne 6, 3) := by decide +kernel
theorem dX7_back_7 : decode cX7_back 7 = .ok (.ldc 142, 2) := by decide +kernel
theorem dX7_back_9 : decode cX7_back 9 = .ok (.ireturn, 1) := by decide +kernel
theorem dX7_back_10 : decode cX7_back 10 = .ok (.aload_n 0, 1) := by decide +kernel
theorem dX7_back_11 : decode cX7_back 11 = .ok (.getfield 10, 3) := by decide +kernel
theorem dX7_back_14 : decode cX7_back 14 = .ok (.aload_n 0, 1) := by decide +kernel
theorem dX7_back_15 : decode cX7_back 15 = .ok (.getfield 19, 3) := by decide +kernel
theorem dX7_back_18 : decode cX7_back 18 = .ok (.invokevirtual 189, 3) := by decide +kernel
theorem dX7_back_21 : decode cX7_back 21 = .ok (.aload_n 0, 1) := by decide +kernel
theorem dX7_back_22 : decode cX7_back 22 = .ok (.getfield 10, 3) := by decide +kernel
theorem dX7_back_25 : decode cX7_back 25 = .ok (.getfield 70, 3) := by decide +kernel
theorem dX7_back_28 : decode cX7_back 28 = .ok (.ireturn, 1) := by decide +kernel
theorem dX7_count_0 : decode cX7_count 0 = .ok (.iload_n 1, 1) := by decide +kernel
theorem dX7_count_1 : decode cX7_count 1 = .ok (.tableswitch 168 0 12 #[67, 75, 83, 91, 99, 107, 115, 123, 131, 139, 147, 152, 160], 67) := by decide +kernel
theorem dX7_count_68 : decode cX7_count 68 = .ok (.aload_n 0, 1) := by decide +kernel
theorem dX7_count_69 : decode cX7_count 69 = .ok (.getfield 10, 3) := by decide +kernel
theorem dX7_count_72 : decode cX7_count 72 = .ok (.getfield 70, 3) := by decide +kernel
theorem dX7_count_75 : decode cX7_count 75 = .ok (.ireturn, 1) := by decide +kernel
theorem dX7_count_76 : decode cX7_count 76 = .ok (.aload_n 0, 1) := by decide +kernel
theorem dX7_count_77 : decode cX7_count 77 = .ok (.getfield 10, 3) := by decide +kernel
theorem dX7_count_80 : decode cX7_count 80 = .ok (.invokevirtual 186, 3) := by decide +kernel
theorem dX7_count_83 : decode cX7_count 83 = .ok (.ireturn, 1) := by decide +kernel
theorem dX7_count_84 : decode cX7_count 84 = .ok (.aload_n 0, 1) := by decide +kernel
theorem dX7_count_85 : decode cX7_count 85 = .ok (.getfield 10, 3) := by decide +kernel
theorem dX7_count_88 : decode cX7_count 88 = .ok (.getfield 153, 3) := by decide +kernel
theorem dX7_count_91 : decode cX7_count 91 = .ok (.ireturn, 1) := by decide +kernel
theorem dX7_count_92 : decode cX7_count 92 = .ok (.aload_n 0, 1) := by decide +kernel
theorem dX7_count_93 : decode cX7_count 93 = .ok (.getfield 10, 3) := by decide +kernel
theorem dX7_count_96 : decode cX7_count 96 = .ok (.getfield 180, 3) := by decide +kernel
theorem dX7_count_99 : decode cX7_count 99 = .ok (.ireturn, 1) := by decide +kernel
theorem dX7_count_100 : decode cX7_count 100 = .ok (.aload_n 0, 1) := by decide +kernel
theorem dX7_count_101 : decode cX7_count 101 = .ok (.getfield 10, 3) := by decide +kernel
theorem dX7_count_104 : decode cX7_count 104 = .ok (.invokevirtual 193, 3) := by decide +kernel
theorem dX7_count_107 : decode cX7_count 107 = .ok (.ireturn, 1) := by decide +kernel
theorem dX7_count_108 : decode cX7_count 108 = .ok (.aload_n 0, 1) := by decide +kernel
theorem dX7_count_109 : decode cX7_count 109 = .ok (.getfield 10, 3) := by decide +kernel
theorem dX7_count_112 : decode cX7_count 112 = .ok (.getfield 146, 3) := by decide +kernel
theorem dX7_count_115 : decode cX7_count 115 = .ok (.ireturn, 1) := by decide +kernel
theorem dX7_count_116 : decode cX7_count 116 = .ok (.aload_n 0, 1) := by decide +kernel
theorem dX7_count_117 : decode cX7_count 117 = .ok (.getfield 10, 3) := by decide +kernel
theorem dX7_count_120 : decode cX7_count 120 = .ok (.getfield 307, 3) := by decide +kernel
theorem dX7_count_123 : decode cX7_count 123 = .ok (.ireturn, 1) := by decide +kernel
theorem dX7_count_124 : decode cX7_count 124 = .ok (.aload_n 0, 1) := by decide +kernel
theorem dX7_count_125 : decode cX7_count 125 = .ok (.getfield 10, 3) := by decide +kernel
theorem dX7_count_128 : decode cX7_count 128 = .ok (.getfield 110, 3) := by decide +kernel
theorem dX7_count_131 : decode cX7_count 131 = .ok (.ireturn, 1) := by decide +kernel
theorem dX7_count_132 : decode cX7_count 132 = .ok (.aload_n 0, 1) := by decide +kernel
theorem dX7_count_133 : decode cX7_count 133 = .ok (.getfield 10, 3) := by decide +kernel
theorem dX7_count_136 : decode cX7_count 136 = .ok (.getfield 113, 3) := by decide +kernel
theorem dX7_count_139 : decode cX7_count 139 = .ok (.ireturn, 1) := by decide +kernel
theorem dX7_count_140 : decode cX7_count 140 = .ok (.aload_n 0, 1) := by decide +kernel
theorem dX7_count_141 : decode cX7_count 141 = .ok (.getfield 10, 3) := by decide +kernel
theorem dX7_count_144 : decode cX7_count 144 = .ok (.getfield 228, 3) := by decide +kernel
theorem dX7_count_147 : decode cX7_count 147 = .ok (.ireturn, 1) := by decide +kernel
theorem dX7_count_148 : decode cX7_count 148 = .ok (.aload_n 0, 1) := by decide +kernel
theorem dX7_count_149 : decode cX7_count 149 = .ok (.getfield 56, 3) := by decide +kernel
theorem dX7_count_152 : decode cX7_count 152 = .ok (.ireturn, 1) := by decide +kernel
theorem dX7_count_153 : decode cX7_count 153 = .ok (.aload_n 0, 1) := by decide +kernel
theorem dX7_count_154 : decode cX7_count 154 = .ok (.getfield 36, 3) := by decide +kernel
theorem dX7_count_157 : decode cX7_count 157 = .ok (.getfield 214, 3) := by decide +kernel
theorem dX7_count_160 : decode cX7_count 160 = .ok (.ireturn, 1) := by decide +kernel
theorem dX7_count_161 : decode cX7_count 161 = .ok (.aload_n 0, 1) := by decide +kernel
theorem dX7_count_162 : decode cX7_count 162 = .ok (.getfield 10, 3) := by decide +kernel
theorem dX7_count_165 : decode cX7_count 165 = .ok (.getfield 125, 3) := by decide +kernel
theorem dX7_count_168 : decode cX7_count 168 = .ok (.ireturn, 1) := by decide +kernel
theorem dX7_count_169 : decode cX7_count 169 = .ok (.ldc 69, 2) := by decide +kernel
theorem dX7_count_171 : decode cX7_count 171 = .ok (.ireturn, 1) := by decide +kernel
theorem dX7_within_0 : decode cX7_within 0 = .ok (.iload_n 0, 1) := by decide +kernel
theorem dX7_within_1 : decode cX7_within 1 = .ok (.ifCond .lt 12, 3) := by decide +kernel
theorem dX7_within_4 : decode cX7_within 4 = .ok (.iload_n 0, 1) := by decide +kernel
theorem dX7_within_5 : decode cX7_within 5 = .ok (.iload_n 1, 1) := by decide +kernel
theorem dX7_within_6 : decode cX7_within 6 = .ok (.if_icmp .gt 7, 3) := by decide +kernel
theorem dX7_within_9 : decode cX7_within 9 = .ok (.iconst 1, 1) := by decide +kernel
theorem dX7_within_10 : decode cX7_within 10 = .ok (.goto 4, 3) := by decide +kernel
theorem dX7_within_13 : decode cX7_within 13 = .ok (.iconst 0, 1) := by decide +kernel
theorem dX7_within_14 : decode cX7_within 14 = .ok (.ireturn, 1) := by decide +kernel
theorem dX7_isSpades_0 : decode cX7_isSpades 0 = .ok (.iload_n 0, 1) := by decide +kernel
theorem dX7_isSpades_1 : decode cX7_isSpades 1 = .ok (.iconst 1, 1) := by decide +kernel
theorem dX7_isSpades_2 : decode cX7_isSpades 2 = .ok (.if_icmp .lt 13, 3) := by decide +kernel
theorem dX7_isSpades_5 : decode cX7_isSpades 5 = .ok (.iload_n 0, 1) := by decide +kernel
theorem dX7_isSpades_6 : decode cX7_isSpades 6 = .ok (.bipush 99, 2) := by decide +kernel
theorem dX7_isSpades_8 : decode cX7_isSpades 8 = .ok (.if_icmp .gt 7, 3) := by decide +kernel
theorem dX7_isSpades_11 : decode cX7_isSpades 11 = .ok (.iconst 1, 1) := by decide +kernel
theorem dX7_isSpades_12 : decode cX7_isSpades 12 = .ok (.goto 4, 3) := by decide +kernel
theorem dX7_isSpades_15 : decode cX7_isSpades 15 = .ok (.iconst 0, 1) := by decide +kernel
theorem dX7_isSpades_16 : decode cX7_isSpades 16 = .ok (.ireturn, 1) := by decide +kernel
theorem dX7_held_0 : decode cX7_held 0 = .ok (.iconst 0, 1) := by decide +kernel
theorem dX7_held_1 : decode cX7_held 1 = .ok (.iload_n 1, 1) := by decide +kernel
theorem dX7_held_2 : decode cX7_held 2 = .ok (.iload_n 0, 1) := by decide +kernel
theorem dX7_held_3 : decode cX7_held 3 = .ok (.invokestatic 116, 3) := by decide +kernel
theorem dX7_held_6 : decode cX7_held 6 = .ok (.invokestatic 173, 3) := by decide +kernel
theorem dX7_held_9 : decode cX7_held 9 = .ok (.ireturn, 1) := by decide +kernel
theorem dX7_mostOf_0 : decode cX7_mostOf 0 = .ok (.iload_n 0, 1) := by decide +kernel
theorem dX7_mostOf_1 : decode cX7_mostOf 1 = .ok (.tableswitch 44 1 4 #[31, 34, 37, 40], 31) := by decide +kernel
theorem dX7_mostOf_32 : decode cX7_mostOf 32 = .ok (.bipush 29, 2) := by decide +kernel
theorem dX7_mostOf_34 : decode cX7_mostOf 34 = .ok (.ireturn, 1) := by decide +kernel
theorem dX7_mostOf_35 : decode cX7_mostOf 35 = .ok (.bipush 99, 2) := by decide +kernel
theorem dX7_mostOf_37 : decode cX7_mostOf 37 = .ok (.ireturn, 1) := by decide +kernel
theorem dX7_mostOf_38 : decode cX7_mostOf 38 = .ok (.bipush 7, 2) := by decide +kernel
theorem dX7_mostOf_40 : decode cX7_mostOf 40 = .ok (.ireturn, 1) := by decide +kernel
theorem dX7_mostOf_41 : decode cX7_mostOf 41 = .ok (.sipush 999, 3) := by decide +kernel
theorem dX7_mostOf_44 : decode cX7_mostOf 44 = .ok (.ireturn, 1) := by decide +kernel
theorem dX7_mostOf_45 : decode cX7_mostOf 45 = .ok (.iconst (-1), 1) := by decide +kernel
theorem dX7_mostOf_46 : decode cX7_mostOf 46 = .ok (.ireturn, 1) := by decide +kernel
theorem dX7_addDifferences_0 : decode cX7_addDifferences 0 = .ok (.aload_n 0, 1) := by decide +kernel
theorem dX7_addDifferences_1 : decode cX7_addDifferences 1 = .ok (.getfield 60, 3) := by decide +kernel
theorem dX7_addDifferences_4 : decode cX7_addDifferences 4 = .ok (.iconst 0, 1) := by decide +kernel
theorem dX7_addDifferences_5 : decode cX7_addDifferences 5 = .ok (.invokestatic 310, 3) := by decide +kernel
theorem dX7_addDifferences_8 : decode cX7_addDifferences 8 = .ok (.aload_n 0, 1) := by decide +kernel
theorem dX7_addDifferences_9 : decode cX7_addDifferences 9 = .ok (.getfield 16, 3) := by decide +kernel
theorem dX7_addDifferences_12 : decode cX7_addDifferences 12 = .ok (.aload_n 0, 1) := by decide +kernel
theorem dX7_addDifferences_13 : decode cX7_addDifferences 13 = .ok (.getfield 10, 3) := by decide +kernel
theorem dX7_addDifferences_16 : decode cX7_addDifferences 16 = .ok (.invokevirtual 189, 3) := by decide +kernel
theorem dX7_addDifferences_19 : decode cX7_addDifferences 19 = .ok (.iconst 0, 1) := by decide +kernel
theorem dX7_addDifferences_20 : decode cX7_addDifferences 20 = .ok (.istore_n 2, 1) := by decide +kernel
theorem dX7_addDifferences_21 : decode cX7_addDifferences 21 = .ok (.iload_n 2, 1) := by decide +kernel
theorem dX7_addDifferences_22 : decode cX7_addDifferences 22 = .ok (.aload_n 1, 1) := by decide +kernel
theorem dX7_addDifferences_23 : decode cX7_addDifferences 23 = .ok (.getfield 269, 3) := by decide +kernel
theorem dX7_addDifferences_26 : decode cX7_addDifferences 26 = .ok (.if_icmp .ge 74, 3) := by decide +kernel
theorem dX7_addDifferences_29 : decode cX7_addDifferences 29 = .ok (.iconst 0, 1) := by decide +kernel
theorem dX7_addDifferences_30 : decode cX7_addDifferences 30 = .ok (.istore_n 3, 1) := by decide +kernel
theorem dX7_addDifferences_31 : decode cX7_addDifferences 31 = .ok (.iload_n 3, 1) := by decide +kernel
theorem dX7_addDifferences_32 : decode cX7_addDifferences 32 = .ok (.aload_n 0, 1) := by decide +kernel
theorem dX7_addDifferences_33 : decode cX7_addDifferences 33 = .ok (.getfield 16, 3) := by decide +kernel
theorem dX7_addDifferences_36 : decode cX7_addDifferences 36 = .ok (.getfield 70, 3) := by decide +kernel
theorem dX7_addDifferences_39 : decode cX7_addDifferences 39 = .ok (.if_icmp .ge 48, 3) := by decide +kernel
theorem dX7_addDifferences_42 : decode cX7_addDifferences 42 = .ok (.aload_n 1, 1) := by decide +kernel
theorem dX7_addDifferences_43 : decode cX7_addDifferences 43 = .ok (.iload_n 2, 1) := by decide +kernel
theorem dX7_addDifferences_44 : decode cX7_addDifferences 44 = .ok (.invokevirtual 263, 3) := by decide +kernel
theorem dX7_addDifferences_47 : decode cX7_addDifferences 47 = .ok (.ifCond .eq 40, 3) := by decide +kernel
theorem dX7_addDifferences_50 : decode cX7_addDifferences 50 = .ok (.aload_n 0, 1) := by decide +kernel
theorem dX7_addDifferences_51 : decode cX7_addDifferences 51 = .ok (.getfield 60, 3) := by decide +kernel
theorem dX7_addDifferences_54 : decode cX7_addDifferences 54 = .ok (.iload_n 3, 1) := by decide +kernel
theorem dX7_addDifferences_55 : decode cX7_addDifferences 55 = .ok (.dup2, 1) := by decide +kernel
theorem dX7_addDifferences_56 : decode cX7_addDifferences 56 = .ok (.iaload, 1) := by decide +kernel
theorem dX7_addDifferences_57 : decode cX7_addDifferences 57 = .ok (.aload_n 0, 1) := by decide +kernel
theorem dX7_addDifferences_58 : decode cX7_addDifferences 58 = .ok (.getfield 16, 3) := by decide +kernel
theorem dX7_addDifferences_61 : decode cX7_addDifferences 61 = .ok (.getfield 134, 3) := by decide +kernel
theorem dX7_addDifferences_64 : decode cX7_addDifferences 64 = .ok (.iload_n 3, 1) := by decide +kernel
theorem dX7_addDifferences_65 : decode cX7_addDifferences 65 = .ok (.aaload, 1) := by decide +kernel
theorem dX7_addDifferences_66 : decode cX7_addDifferences 66 = .ok (.getfield 92, 3) := by decide +kernel
theorem dX7_addDifferences_69 : decode cX7_addDifferences 69 = .ok (.aload_n 1, 1) := by decide +kernel
theorem dX7_addDifferences_70 : decode cX7_addDifferences 70 = .ok (.getfield 258, 3) := by decide +kernel
theorem dX7_addDifferences_73 : decode cX7_addDifferences 73 = .ok (.iload_n 2, 1) := by decide +kernel
theorem dX7_addDifferences_74 : decode cX7_addDifferences 74 = .ok (.iaload, 1) := by decide +kernel
theorem dX7_addDifferences_75 : decode cX7_addDifferences 75 = .ok (.isub, 1) := by decide +kernel
theorem dX7_addDifferences_76 : decode cX7_addDifferences 76 = .ok (.invokestatic 176, 3) := by decide +kernel
theorem dX7_addDifferences_79 : decode cX7_addDifferences 79 = .ok (.iadd, 1) := by decide +kernel
theorem dX7_addDifferences_80 : decode cX7_addDifferences 80 = .ok (.iastore, 1) := by decide +kernel
theorem dX7_addDifferences_81 : decode cX7_addDifferences 81 = .ok (.iinc 3 1, 3) := by decide +kernel
theorem dX7_addDifferences_84 : decode cX7_addDifferences 84 = .ok (.goto (-53), 3) := by decide +kernel
theorem dX7_addDifferences_87 : decode cX7_addDifferences 87 = .ok (.aload_n 0, 1) := by decide +kernel
theorem dX7_addDifferences_88 : decode cX7_addDifferences 88 = .ok (.getfield 16, 3) := by decide +kernel
theorem dX7_addDifferences_91 : decode cX7_addDifferences 91 = .ok (.invokevirtual 183, 3) := by decide +kernel
theorem dX7_addDifferences_94 : decode cX7_addDifferences 94 = .ok (.iinc 2 1, 3) := by decide +kernel
theorem dX7_addDifferences_97 : decode cX7_addDifferences 97 = .ok (.goto (-76), 3) := by decide +kernel
theorem dX7_addDifferences_100 : decode cX7_addDifferences 100 = .ok (.return_, 1) := by decide +kernel
theorem dX7_sheetAt_0 : decode cX7_sheetAt 0 = .ok (.iload_n 1, 1) := by decide +kernel
theorem dX7_sheetAt_1 : decode cX7_sheetAt 1 = .ok (.iconst 3, 1) := by decide +kernel
theorem dX7_sheetAt_2 : decode cX7_sheetAt 2 = .ok (.invokestatic 65, 3) := by decide +kernel
theorem dX7_sheetAt_5 : decode cX7_sheetAt 5 = .ok (.ifCond .eq 12, 3) := by decide +kernel
theorem dX7_sheetAt_8 : decode cX7_sheetAt 8 = .ok (.aload_n 0, 1) := by decide +kernel
theorem dX7_sheetAt_9 : decode cX7_sheetAt 9 = .ok (.getfield 42, 3) := by decide +kernel
theorem dX7_sheetAt_12 : decode cX7_sheetAt 12 = .ok (.iload_n 1, 1) := by decide +kernel
theorem dX7_sheetAt_13 : decode cX7_sheetAt 13 = .ok (.aaload, 1) := by decide +kernel
theorem dX7_sheetAt_14 : decode cX7_sheetAt 14 = .ok (.goto 4, 3) := by decide +kernel
theorem dX7_sheetAt_17 : decode cX7_sheetAt 17 = .ok (.aconst_null, 1) := by decide +kernel
theorem dX7_sheetAt_18 : decode cX7_sheetAt 18 = .ok (.areturn, 1) := by decide +kernel
theorem dX7_slotAt_0 : decode cX7_slotAt 0 = .ok (.iload_n 1, 1) := by decide +kernel
theorem dX7_slotAt_1 : decode cX7_slotAt 1 = .ok (.iconst 4, 1) := by decide +kernel
theorem dX7_slotAt_2 : decode cX7_slotAt 2 = .ok (.invokestatic 65, 3) := by decide +kernel
theorem dX7_slotAt_5 : decode cX7_slotAt 5 = .ok (.ifCond .eq 12, 3) := by decide +kernel
theorem dX7_slotAt_8 : decode cX7_slotAt 8 = .ok (.aload_n 0, 1) := by decide +kernel
theorem dX7_slotAt_9 : decode cX7_slotAt 9 = .ok (.getfield 48, 3) := by decide +kernel
theorem dX7_slotAt_12 : decode cX7_slotAt 12 = .ok (.iload_n 1, 1) := by decide +kernel
theorem dX7_slotAt_13 : decode cX7_slotAt 13 = .ok (.aaload, 1) := by decide +kernel
theorem dX7_slotAt_14 : decode cX7_slotAt 14 = .ok (.goto 4, 3) := by decide +kernel
theorem dX7_slotAt_17 : decode cX7_slotAt 17 = .ok (.aconst_null, 1) := by decide +kernel
theorem dX7_slotAt_18 : decode cX7_slotAt 18 = .ok (.areturn, 1) := by decide +kernel
theorem dX8_init_0 : decode cX8_init 0 = .ok (.aload_n 0, 1) := by decide +kernel
theorem dX8_init_1 : decode cX8_init 1 = .ok (.invokespecial 1, 3) := by decide +kernel
theorem dX8_init_4 : decode cX8_init 4 = .ok (.aload_n 0, 1) := by decide +kernel
theorem dX8_init_5 : decode cX8_init 5 = .ok (.sipush 1448, 3) := by decide +kernel
theorem dX8_init_8 : decode cX8_init 8 = .ok (.newarray .int, 2) := by decide +kernel
theorem dX8_init_10 : decode cX8_init 10 = .ok (.putfield 9, 3) := by decide +kernel
theorem dX8_init_13 : decode cX8_init 13 = .ok (.aload_n 0, 1) := by decide +kernel
theorem dX8_init_14 : decode cX8_init 14 = .ok (.sipush 1448, 3) := by decide +kernel
theorem dX8_init_17 : decode cX8_init 17 = .ok (.newarray .int, 2) := by decide +kernel
theorem dX8_init_19 : decode cX8_init 19 = .ok (.putfield 13, 3) := by decide +kernel
theorem dX8_init_22 : decode cX8_init 22 = .ok (.aload_n 0, 1) := by decide +kernel
theorem dX8_init_23 : decode cX8_init 23 = .ok (.sipush 1448, 3) := by decide +kernel
theorem dX8_init_26 : decode cX8_init 26 = .ok (.newarray .int, 2) := by decide +kernel
theorem dX8_init_28 : decode cX8_init 28 = .ok (.putfield 16, 3) := by decide +kernel
theorem dX8_init_31 : decode cX8_init 31 = .ok (.aload_n 0, 1) := by decide +kernel
theorem dX8_init_32 : decode cX8_init 32 = .ok (.bipush 11, 2) := by decide +kernel
theorem dX8_init_34 : decode cX8_init 34 = .ok (.newarray .int, 2) := by decide +kernel
theorem dX8_init_36 : decode cX8_init 36 = .ok (.putfield 19, 3) := by decide +kernel
theorem dX8_init_39 : decode cX8_init 39 = .ok (.aload_n 0, 1) := by decide +kernel
theorem dX8_init_40 : decode cX8_init 40 = .ok (.bipush 11, 2) := by decide +kernel
theorem dX8_init_42 : decode cX8_init 42 = .ok (.newarray .boolean, 2) := by decide +kernel
theorem dX8_init_44 : decode cX8_init 44 = .ok (.putfield 22, 3) := by decide +kernel
theorem dX8_init_47 : decode cX8_init 47 = .ok (.aload_n 0, 1) := by decide +kernel
theorem dX8_init_48 : decode cX8_init 48 = .ok (.sipush 7168, 3) := by decide +kernel
theorem dX8_init_51 : decode cX8_init 51 = .ok (.newarray .int, 2) := by decide +kernel
theorem dX8_init_53 : decode cX8_init 53 = .ok (.putfield 26, 3) := by decide +kernel
theorem dX8_init_56 : decode cX8_init 56 = .ok (.aload_n 0, 1) := by decide +kernel
theorem dX8_init_57 : decode cX8_init 57 = .ok (.bipush 6, 2) := by decide +kernel
theorem dX8_init_59 : decode cX8_init 59 = .ok (.newarray .int, 2) := by decide +kernel
theorem dX8_init_61 : decode cX8_init 61 = .ok (.putfield 29, 3) := by decide +kernel
theorem dX8_init_64 : decode cX8_init 64 = .ok (.aload_n 0, 1) := by decide +kernel
theorem dX8_init_65 : decode cX8_init 65 = .ok (.bipush 76, 2) := by decide +kernel
theorem dX8_init_67 : decode cX8_init 67 = .ok (.newarray .int, 2) := by decide +kernel
theorem dX8_init_69 : decode cX8_init 69 = .ok (.putfield 32, 3) := by decide +kernel
theorem dX8_init_72 : decode cX8_init 72 = .ok (.aload_n 0, 1) := by decide +kernel
theorem dX8_init_73 : decode cX8_init 73 = .ok (.bipush 10, 2) := by decide +kernel
theorem dX8_init_75 : decode cX8_init 75 = .ok (.newarray .long, 2) := by decide +kernel
theorem dX8_init_77 : decode cX8_init 77 = .ok (.putfield 35, 3) := by decide +kernel
theorem dX8_init_80 : decode cX8_init 80 = .ok (.aload_n 0, 1) := by decide +kernel
theorem dX8_init_81 : decode cX8_init 81 = .ok (.bipush 96, 2) := by decide +kernel
theorem dX8_init_83 : decode cX8_init 83 = .ok (.newarray .int, 2) := by decide +kernel
theorem dX8_init_85 : decode cX8_init 85 = .ok (.putfield 39, 3) := by decide +kernel
theorem dX8_init_88 : decode cX8_init 88 = .ok (.aload_n 0, 1) := by decide +kernel
theorem dX8_init_89 : decode cX8_init 89 = .ok (.bipush 13, 2) := by decide +kernel
theorem dX8_init_91 : decode cX8_init 91 = .ok (.newarray .char, 2) := by decide +kernel
theorem dX8_init_93 : decode cX8_init 93 = .ok (.dup, 1) := by decide +kernel
theorem dX8_init_94 : decode cX8_init 94 = .ok (.iconst 0, 1) := by decide +kernel
theorem dX8_init_95 : decode cX8_init 95 = .ok (.bipush 108, 2) := by decide +kernel
theorem dX8_init_97 : decode cX8_init 97 = .ok (.castore, 1) := by decide +kernel
theorem dX8_init_98 : decode cX8_init 98 = .ok (.dup, 1) := by decide +kernel
theorem dX8_init_99 : decode cX8_init 99 = .ok (.iconst 1, 1) := by decide +kernel
theorem dX8_init_100 : decode cX8_init 100 = .ok (.bipush 97, 2) := by decide +kernel
theorem dX8_init_102 : decode cX8_init 102 = .ok (.castore, 1) := by decide +kernel
theorem dX8_init_103 : decode cX8_init 103 = .ok (.dup, 1) := by decide +kernel
theorem dX8_init_104 : decode cX8_init 104 = .ok (.iconst 2, 1) := by decide +kernel
theorem dX8_init_105 : decode cX8_init 105 = .ok (.bipush 119, 2) := by decide +kernel
theorem dX8_init_107 : decode cX8_init 107 = .ok (.castore, 1) := by decide +kernel
theorem dX8_init_108 : decode cX8_init 108 = .ok (.dup, 1) := by decide +kernel
theorem dX8_init_109 : decode cX8_init 109 = .ok (.iconst 3, 1) := by decide +kernel
theorem dX8_init_110 : decode cX8_init 110 = .ok (.bipush 115, 2) := by decide +kernel
theorem dX8_init_112 : decode cX8_init 112 = .ok (.castore, 1) := by decide +kernel
theorem dX8_init_113 : decode cX8_init 113 = .ok (.dup, 1) := by decide +kernel
theorem dX8_init_114 : decode cX8_init 114 = .ok (.iconst 4, 1) := by decide +kernel
theorem dX8_init_115 : decode cX8_init 115 = .ok (.bipush 101, 2) := by decide +kernel
theorem dX8_init_117 : decode cX8_init 117 = .ok (.castore, 1) := by decide +kernel
theorem dX8_init_118 : decode cX8_init 118 = .ok (.dup, 1) := by decide +kernel
theorem dX8_init_119 : decode cX8_init 119 = .ok (.iconst 5, 1) := by decide +kernel
theorem dX8_init_120 : decode cX8_init 120 = .ok (.bipush 116, 2) := by decide +kernel
theorem dX8_init_122 : decode cX8_init 122 = .ok (.castore, 1) := by decide +kernel
theorem dX8_init_123 : decode cX8_init 123 = .ok (.dup, 1) := by decide +kernel
theorem dX8_init_124 : decode cX8_init 124 = .ok (.bipush 6, 2) := by decide +kernel
theorem dX8_init_126 : decode cX8_init 126 = .ok (.bipush 116, 2) := by decide +kernel
theorem dX8_init_128 : decode cX8_init 128 = .ok (.castore, 1) := by decide +kernel
theorem dX8_init_129 : decode cX8_init 129 = .ok (.dup, 1) := by decide +kernel
theorem dX8_init_130 : decode cX8_init 130 = .ok (.bipush 7, 2) := by decide +kernel
theorem dX8_init_132 : decode cX8_init 132 = .ok (.bipush 108, 2) := by decide +kernel
theorem dX8_init_134 : decode cX8_init 134 = .ok (.castore, 1) := by decide +kernel
theorem dX8_init_135 : decode cX8_init 135 = .ok (.dup, 1) := by decide +kernel
theorem dX8_init_136 : decode cX8_init 136 = .ok (.bipush 8, 2) := by decide +kernel
theorem dX8_init_138 : decode cX8_init 138 = .ok (.bipush 101, 2) := by decide +kernel
theorem dX8_init_140 : decode cX8_init 140 = .ok (.castore, 1) := by decide +kernel
theorem dX8_init_141 : decode cX8_init 141 = .ok (.dup, 1) := by decide +kernel
theorem dX8_init_142 : decode cX8_init 142 = .ok (.bipush 9, 2) := by decide +kernel
theorem dX8_init_144 : decode cX8_init 144 = .ok (.bipush 102, 2) := by decide +kernel
theorem dX8_init_146 : decode cX8_init 146 = .ok (.castore, 1) := by decide +kernel
theorem dX8_init_147 : decode cX8_init 147 = .ok (.dup, 1) := by decide +kernel
theorem dX8_init_148 : decode cX8_init 148 = .ok (.bipush 10, 2) := by decide +kernel
theorem dX8_init_150 : decode cX8_init 150 = .ok (.bipush 105, 2) := by decide +kernel
theorem dX8_init_152 : decode cX8_init 152 = .ok (.castore, 1) := by decide +kernel
theorem dX8_init_153 : decode cX8_init 153 = .ok (.dup, 1) := by decide +kernel
theorem dX8_init_154 : decode cX8_init 154 = .ok (.bipush 11, 2) := by decide +kernel
theorem dX8_init_156 : decode cX8_init 156 = .ok (.bipush 110, 2) := by decide +kernel
theorem dX8_init_158 : decode cX8_init 158 = .ok (.castore, 1) := by decide +kernel
theorem dX8_init_159 : decode cX8_init 159 = .ok (.dup, 1) := by decide +kernel
theorem dX8_init_160 : decode cX8_init 160 = .ok (.bipush 12, 2) := by decide +kernel
theorem dX8_init_162 : decode cX8_init 162 = .ok (.bipush 101, 2) := by decide +kernel
theorem dX8_init_164 : decode cX8_init 164 = .ok (.castore, 1) := by decide +kernel
theorem dX8_init_165 : decode cX8_init 165 = .ok (.putfield 42, 3) := by decide +kernel
theorem dX8_init_168 : decode cX8_init 168 = .ok (.aload_n 0, 1) := by decide +kernel
theorem dX8_init_169 : decode cX8_init 169 = .ok (.iconst 4, 1) := by decide +kernel
theorem dX8_init_170 : decode cX8_init 170 = .ok (.newarray .int, 2) := by decide +kernel
theorem dX8_init_172 : decode cX8_init 172 = .ok (.dup, 1) := by decide +kernel
theorem dX8_init_173 : decode cX8_init 173 = .ok (.iconst 0, 1) := by decide +kernel
theorem dX8_init_174 : decode cX8_init 174 = .ok (.iconst 0, 1) := by decide +kernel
theorem dX8_init_175 : decode cX8_init 175 = .ok (.iastore, 1) := by decide +kernel
theorem dX8_init_176 : decode cX8_init 176 = .ok (.dup, 1) := by decide +kernel
theorem dX8_init_177 : decode cX8_init 177 = .ok (.iconst 1, 1) := by decide +kernel
theorem dX8_init_178 : decode cX8_init 178 = .ok (.iconst 3, 1) := by decide +kernel
theorem dX8_init_179 : decode cX8_init 179 = .ok (.iastore, 1) := by decide +kernel
theorem dX8_init_180 : decode cX8_init 180 = .ok (.dup, 1) := by decide +kernel
theorem dX8_init_181 : decode cX8_init 181 = .ok (.iconst 2, 1) := by decide +kernel
theorem dX8_init_182 : decode cX8_init 182 = .ok (.bipush 9, 2) := by decide +kernel
theorem dX8_init_184 : decode cX8_init 184 = .ok (.iastore, 1) := by decide +kernel
theorem dX8_init_185 : decode cX8_init 185 = .ok (.dup, 1) := by decide +kernel
theorem dX8_init_186 : decode cX8_init 186 = .ok (.iconst 3, 1) := by decide +kernel
theorem dX8_init_187 : decode cX8_init 187 = .ok (.bipush 13, 2) := by decide +kernel
theorem dX8_init_189 : decode cX8_init 189 = .ok (.iastore, 1) := by decide +kernel
theorem dX8_init_190 : decode cX8_init 190 = .ok (.putfield 46, 3) := by decide +kernel
theorem dX8_init_193 : decode cX8_init 193 = .ok (.aload_n 0, 1) := by decide +kernel
theorem dX8_init_194 : decode cX8_init 194 = .ok (.bipush 96, 2) := by decide +kernel
theorem dX8_init_196 : decode cX8_init 196 = .ok (.newarray .int, 2) := by decide +kernel
theorem dX8_init_198 : decode cX8_init 198 = .ok (.putfield 49, 3) := by decide +kernel
theorem dX8_init_201 : decode cX8_init 201 = .ok (.aload_n 0, 1) := by decide +kernel
theorem dX8_init_202 : decode cX8_init 202 = .ok (.bipush 96, 2) := by decide +kernel
theorem dX8_init_204 : decode cX8_init 204 = .ok (.newarray .int, 2) := by decide +kernel
theorem dX8_init_206 : decode cX8_init 206 = .ok (.putfield 52, 3) := by decide +kernel
theorem dX8_init_209 : decode cX8_init 209 = .ok (.aload_n 0, 1) := by decide +kernel
theorem dX8_init_210 : decode cX8_init 210 = .ok (.bipush 10, 2) := by decide +kernel
theorem dX8_init_212 : decode cX8_init 212 = .ok (.newarray .boolean, 2) := by decide +kernel
theorem dX8_init_214 : decode cX8_init 214 = .ok (.putfield 55, 3) := by decide +kernel
theorem dX8_init_217 : decode cX8_init 217 = .ok (.aload_n 0, 1) := by decide +kernel
theorem dX8_init_218 : decode cX8_init 218 = .ok (.bipush 96, 2) := by decide +kernel
theorem dX8_init_220 : decode cX8_init 220 = .ok (.newarray .int, 2) := by decide +kernel
theorem dX8_init_222 : decode cX8_init 222 = .ok (.putfield 58, 3) := by decide +kernel
theorem dX8_init_225 : decode cX8_init 225 = .ok (.aload_n 0, 1) := by decide +kernel
theorem dX8_init_226 : decode cX8_init 226 = .ok (.iconst 4, 1) := by decide +kernel
theorem dX8_init_227 : decode cX8_init 227 = .ok (.newarray .int, 2) := by decide +kernel
theorem dX8_init_229 : decode cX8_init 229 = .ok (.putfield 61, 3) := by decide +kernel
theorem dX8_init_232 : decode cX8_init 232 = .ok (.aload_n 0, 1) := by decide +kernel
theorem dX8_init_233 : decode cX8_init 233 = .ok (.iconst 4, 1) := by decide +kernel
theorem dX8_init_234 : decode cX8_init 234 = .ok (.newarray .int, 2) := by decide +kernel
theorem dX8_init_236 : decode cX8_init 236 = .ok (.dup, 1) := by decide +kernel
theorem dX8_init_237 : decode cX8_init 237 = .ok (.iconst 0, 1) := by decide +kernel
theorem dX8_init_238 : decode cX8_init 238 = .ok (.iconst (-1), 1) := by decide +kernel
theorem dX8_init_239 : decode cX8_init 239 = .ok (.iastore, 1) := by decide +kernel
theorem dX8_init_240 : decode cX8_init 240 = .ok (.dup, 1) := by decide +kernel
theorem dX8_init_241 : decode cX8_init 241 = .ok (.iconst 1, 1) := by decide +kernel
theorem dX8_init_242 : decode cX8_init 242 = .ok (.iconst (-1), 1) := by decide +kernel
theorem dX8_init_243 : decode cX8_init 243 = .ok (.iastore, 1) := by decide +kernel
theorem dX8_init_244 : decode cX8_init 244 = .ok (.dup, 1) := by decide +kernel
theorem dX8_init_245 : decode cX8_init 245 = .ok (.iconst 2, 1) := by decide +kernel
theorem dX8_init_246 : decode cX8_init 246 = .ok (.iconst (-1), 1) := by decide +kernel
theorem dX8_init_247 : decode cX8_init 247 = .ok (.iastore, 1) := by decide +kernel
theorem dX8_init_248 : decode cX8_init 248 = .ok (.dup, 1) := by decide +kernel
theorem dX8_init_249 : decode cX8_init 249 = .ok (.iconst 3, 1) := by decide +kernel
theorem dX8_init_250 : decode cX8_init 250 = .ok (.iconst (-1), 1) := by decide +kernel
theorem dX8_init_251 : decode cX8_init 251 = .ok (.iastore, 1) := by decide +kernel
theorem dX8_init_252 : decode cX8_init 252 = .ok (.putfield 64, 3) := by decide +kernel
theorem dX8_init_255 : decode cX8_init 255 = .ok (.aload_n 0, 1) := by decide +kernel
theorem dX8_init_256 : decode cX8_init 256 = .ok (.iconst 4, 1) := by decide +kernel
theorem dX8_init_257 : decode cX8_init 257 = .ok (.newarray .int, 2) := by decide +kernel
theorem dX8_init_259 : decode cX8_init 259 = .ok (.putfield 67, 3) := by decide +kernel
theorem dX8_init_262 : decode cX8_init 262 = .ok (.aload_n 0, 1) := by decide +kernel
theorem dX8_init_263 : decode cX8_init 263 = .ok (.bipush 96, 2) := by decide +kernel
theorem dX8_init_265 : decode cX8_init 265 = .ok (.newarray .int, 2) := by decide +kernel
theorem dX8_init_267 : decode cX8_init 267 = .ok (.putfield 70, 3) := by decide +kernel
theorem dX8_init_270 : decode cX8_init 270 = .ok (.aload_n 0, 1) := by decide +kernel
theorem dX8_init_271 : decode cX8_init 271 = .ok (.iconst 5, 1) := by decide +kernel
theorem dX8_init_272 : decode cX8_init 272 = .ok (.newarray .int, 2) := by decide +kernel
theorem dX8_init_274 : decode cX8_init 274 = .ok (.putfield 73, 3) := by decide +kernel
theorem dX8_init_277 : decode cX8_init 277 = .ok (.aload_n 0, 1) := by decide +kernel
theorem dX8_init_278 : decode cX8_init 278 = .ok (.iconst 5, 1) := by decide +kernel
theorem dX8_init_279 : decode cX8_init 279 = .ok (.newarray .int, 2) := by decide +kernel
theorem dX8_init_281 : decode cX8_init 281 = .ok (.putfield 76, 3) := by decide +kernel
theorem dX8_init_284 : decode cX8_init 284 = .ok (.aload_n 0, 1) := by decide +kernel
theorem dX8_init_285 : decode cX8_init 285 = .ok (.iconst 5, 1) := by decide +kernel
theorem dX8_init_286 : decode cX8_init 286 = .ok (.newarray .int, 2) := by decide +kernel
theorem dX8_init_288 : decode cX8_init 288 = .ok (.putfield 79, 3) := by decide +kernel
theorem dX8_init_291 : decode cX8_init 291 = .ok (.aload_n 0, 1) := by decide +kernel
theorem dX8_init_292 : decode cX8_init 292 = .ok (.bipush 120, 2) := by decide +kernel
theorem dX8_init_294 : decode cX8_init 294 = .ok (.newarray .int, 2) := by decide +kernel
theorem dX8_init_296 : decode cX8_init 296 = .ok (.putfield 82, 3) := by decide +kernel
theorem dX8_init_299 : decode cX8_init 299 = .ok (.aload_n 0, 1) := by decide +kernel
theorem dX8_init_300 : decode cX8_init 300 = .ok (.bipush 24, 2) := by decide +kernel
theorem dX8_init_302 : decode cX8_init 302 = .ok (.newarray .int, 2) := by decide +kernel
theorem dX8_init_304 : decode cX8_init 304 = .ok (.putfield 85, 3) := by decide +kernel
theorem dX8_init_307 : decode cX8_init 307 = .ok (.aload_n 0, 1) := by decide +kernel
theorem dX8_init_308 : decode cX8_init 308 = .ok (.bipush 60, 2) := by decide +kernel
theorem dX8_init_310 : decode cX8_init 310 = .ok (.newarray .int, 2) := by decide +kernel
theorem dX8_init_312 : decode cX8_init 312 = .ok (.putfield 88, 3) := by decide +kernel
theorem dX8_init_315 : decode cX8_init 315 = .ok (.aload_n 0, 1) := by decide +kernel
theorem dX8_init_316 : decode cX8_init 316 = .ok (.getfield 9, 3) := by decide +kernel
theorem dX8_init_319 : decode cX8_init 319 = .ok (.iconst 0, 1) := by decide +kernel
theorem dX8_init_320 : decode cX8_init 320 = .ok (.iconst 1, 1) := by decide +kernel
theorem dX8_init_321 : decode cX8_init 321 = .ok (.iastore, 1) := by decide +kernel
theorem dX8_init_322 : decode cX8_init 322 = .ok (.aload_n 0, 1) := by decide +kernel
theorem dX8_init_323 : decode cX8_init 323 = .ok (.getfield 9, 3) := by decide +kernel
theorem dX8_init_326 : decode cX8_init 326 = .ok (.iconst 3, 1) := by decide +kernel
theorem dX8_init_327 : decode cX8_init 327 = .ok (.bipush 10, 2) := by decide +kernel
theorem dX8_init_329 : decode cX8_init 329 = .ok (.iastore, 1) := by decide +kernel
theorem dX8_init_330 : decode cX8_init 330 = .ok (.aload_n 0, 1) := by decide +kernel
theorem dX8_init_331 : decode cX8_init 331 = .ok (.getfield 9, 3) := by decide +kernel
theorem dX8_init_334 : decode cX8_init 334 = .ok (.iconst 4, 1) := by decide +kernel
theorem dX8_init_335 : decode cX8_init 335 = .ok (.bipush 120, 2) := by decide +kernel
theorem dX8_init_337 : decode cX8_init 337 = .ok (.iastore, 1) := by decide +kernel
theorem dX8_init_338 : decode cX8_init 338 = .ok (.return_, 1) := by decide +kernel
theorem dX8_in_0 : decode cX8_in 0 = .ok (.iload_n 0, 1) := by decide +kernel
theorem dX8_in_1 : decode cX8_in 1 = .ok (.iload_n 1, 1) := by decide +kernel
theorem dX8_in_2 : decode cX8_in 2 = .ok (.if_icmp .lt 12, 3) := by decide +kernel
theorem dX8_in_5 : decode cX8_in 5 = .ok (.iload_n 0, 1) := by decide +kernel
theorem dX8_in_6 : decode cX8_in 6 = .ok (.iload_n 2, 1) := by decide +kernel
theorem dX8_in_7 : decode cX8_in 7 = .ok (.if_icmp .gt 7, 3) := by decide +kernel
theorem dX8_in_10 : decode cX8_in 10 = .ok (.iconst 1, 1) := by decide +kernel
theorem dX8_in_11 : decode cX8_in 11 = .ok (.goto 4, 3) := by decide +kernel
theorem dX8_in_14 : decode cX8_in 14 = .ok (.iconst 0, 1) := by decide +kernel
theorem dX8_in_15 : decode cX8_in 15 = .ok (.ireturn, 1) := by decide +kernel
theorem dX8_within_0 : decode cX8_within 0 = .ok (.iload_n 0, 1) := by decide +kernel
theorem dX8_within_1 : decode cX8_within 1 = .ok (.iload_n 1, 1) := by decide +kernel
theorem dX8_within_2 : decode cX8_within 2 = .ok (.if_icmp .ge 7, 3) := by decide +kernel
theorem dX8_within_5 : decode cX8_within 5 = .ok (.iload_n 1, 1) := by decide +kernel
theorem dX8_within_6 : decode cX8_within 6 = .ok (.goto 13, 3) := by decide +kernel
theorem dX8_within_9 : decode cX8_within 9 = .ok (.iload_n 0, 1) := by decide +kernel
theorem dX8_within_10 : decode cX8_within 10 = .ok (.iload_n 2, 1) := by decide +kernel
theorem dX8_within_11 : decode cX8_within 11 = .ok (.if_icmp .le 7, 3) := by decide +kernel
theorem dX8_within_14 : decode cX8_within 14 = .ok (.iload_n 2, 1) := by decide +kernel
theorem dX8_within_15 : decode cX8_within 15 = .ok (.goto 4, 3) := by decide +kernel
theorem dX8_within_18 : decode cX8_within 18 = .ok (.iload_n 0, 1) := by decide +kernel
theorem dX8_within_19 : decode cX8_within 19 = .ok (.ireturn, 1) := by decide +kernel
theorem dX8_copyAll_0 : decode cX8_copyAll 0 = .ok (.iconst 0, 1) := by decide +kernel
theorem dX8_copyAll_1 : decode cX8_copyAll 1 = .ok (.istore_n 2, 1) := by decide +kernel
theorem dX8_copyAll_2 : decode cX8_copyAll 2 = .ok (.iload_n 2, 1) := by decide +kernel
theorem dX8_copyAll_3 : decode cX8_copyAll 3 = .ok (.sipush 1448, 3) := by decide +kernel
theorem dX8_copyAll_6 : decode cX8_copyAll 6 = .ok (.if_icmp .ge 15, 3) := by decide +kernel
theorem dX8_copyAll_9 : decode cX8_copyAll 9 = .ok (.aload_n 1, 1) := by decide +kernel
theorem dX8_copyAll_10 : decode cX8_copyAll 10 = .ok (.iload_n 2, 1) := by decide +kernel
theorem dX8_copyAll_11 : decode cX8_copyAll 11 = .ok (.aload_n 0, 1) := by decide +kernel
theorem dX8_copyAll_12 : decode cX8_copyAll 12 = .ok (.iload_n 2, 1) := by decide +kernel
theorem dX8_copyAll_13 : decode cX8_copyAll 13 = .ok (.iaload, 1) := by decide +kernel
theorem dX8_copyAll_14 : decode cX8_copyAll 14 = .ok (.iastore, 1) := by decide +kernel
theorem dX8_copyAll_15 : decode cX8_copyAll 15 = .ok (.iinc 2 1, 3) := by decide +kernel
theorem dX8_copyAll_18 : decode cX8_copyAll 18 = .ok (.goto (-16), 3) := by decide +kernel
theorem dX8_copyAll_21 : decode cX8_copyAll 21 = .ok (.return_, 1) := by decide +kernel
theorem dX8_told0_0 : decode cX8_told0 0 = .ok (.iload_n 0, 1) := by decide +kernel
theorem dX8_told0_1 : decode cX8_told0 1 = .ok (.ifCond .ge 8, 3) := by decide +kernel
theorem dX8_told0_4 : decode cX8_told0 4 = .ok (.ldc 91, 2) := by decide +kernel
theorem dX8_told0_6 : decode cX8_told0 6 = .ok (.goto 4, 3) := by decide +kernel
theorem dX8_told0_9 : decode cX8_told0 9 = .ok (.iload_n 0, 1) := by decide +kernel
theorem dX8_told0_10 : decode cX8_told0 10 = .ok (.ireturn, 1) := by decide +kernel
theorem dX8_isHole_0 : decode cX8_isHole 0 = .ok (.iload_n 1, 1) := by decide +kernel
theorem dX8_isHole_1 : decode cX8_isHole 1 = .ok (.iconst 0, 1) := by decide +kernel
theorem dX8_isHole_2 : decode cX8_isHole 2 = .ok (.aload_n 0, 1) := by decide +kernel
theorem dX8_isHole_3 : decode cX8_isHole 3 = .ok (.getfield 9, 3) := by decide +kernel
theorem dX8_isHole_6 : decode cX8_isHole 6 = .ok (.iconst 1, 1) := by decide +kernel
theorem dX8_isHole_7 : decode cX8_isHole 7 = .ok (.iaload, 1) := by decide +kernel
theorem dX8_isHole_8 : decode cX8_isHole 8 = .ok (.iconst 1, 1) := by decide +kernel
theorem dX8_isHole_9 : decode cX8_isHole 9 = .ok (.isub, 1) := by decide +kernel
theorem dX8_isHole_10 : decode cX8_isHole 10 = .ok (.invokestatic 92, 3) := by decide +kernel
theorem dX8_isHole_13 : decode cX8_isHole 13 = .ok (.ireturn, 1) := by decide +kernel
theorem dX8_isPlace_0 : decode cX8_isPlace 0 = .ok (.iload_n 0, 1) := by decide +kernel
theorem dX8_isPlace_1 : decode cX8_isPlace 1 = .ok (.iconst 0, 1) := by decide +kernel
theorem dX8_isPlace_2 : decode cX8_isPlace 2 = .ok (.bipush 29, 2) := by decide +kernel
theorem dX8_isPlace_4 : decode cX8_isPlace 4 = .ok (.invokestatic 92, 3) := by decide +kernel
theorem dX8_isPlace_7 : decode cX8_isPlace 7 = .ok (.ireturn, 1) := by decide +kernel
theorem dX8_isOwner_0 : decode cX8_isOwner 0 = .ok (.iload_n 0, 1) := by decide +kernel
theorem dX8_isOwner_1 : decode cX8_isOwner 1 = .ok (.iconst 0, 1) := by decide +kernel
theorem dX8_isOwner_2 : decode cX8_isOwner 2 = .ok (.bipush 7, 2) := by decide +kernel
theorem dX8_isOwner_4 : decode cX8_isOwner 4 = .ok (.invokestatic 92, 3) := by decide +kernel
theorem dX8_isOwner_7 : decode cX8_isOwner 7 = .ok (.ireturn, 1) := by decide +kernel
theorem dX8_isDug_0 : decode cX8_isDug 0 = .ok (.iload_n 0, 1) := by decide +kernel
theorem dX8_isDug_1 : decode cX8_isDug 1 = .ok (.iconst 1, 1) := by decide +kernel
theorem dX8_isDug_2 : decode cX8_isDug 2 = .ok (.bipush 99, 2) := by decide +kernel
theorem dX8_isDug_4 : decode cX8_isDug 4 = .ok (.invokestatic 92, 3) := by decide +kernel
theorem dX8_isDug_7 : decode cX8_isDug 7 = .ok (.ireturn, 1) := by decide +kernel
theorem dX8_of_0 : decode cX8_of 0 = .ok (.aload_n 0, 1) := by decide +kernel
theorem dX8_of_1 : decode cX8_of 1 = .ok (.getfield 9, 3) := by decide +kernel
theorem dX8_of_4 : decode cX8_of 4 = .ok (.bipush 21, 2) := by decide +kernel
theorem dX8_of_6 : decode cX8_of 6 = .ok (.iconst 5, 1) := by decide +kernel
theorem dX8_of_7 : decode cX8_of 7 = .ok (.iload_n 1, 1) := by decide +kernel
theorem dX8_of_8 : decode cX8_of 8 = .ok (.imul, 1) := by decide +kernel
theorem dX8_of_9 : decode cX8_of 9 = .ok (.iadd, 1) := by decide +kernel
theorem dX8_of_10 : decode cX8_of 10 = .ok (.iload_n 2, 1) := by decide +kernel
theorem dX8_of_11 : decode cX8_of 11 = .ok (.iadd, 1) := by decide +kernel
theorem dX8_of_12 : decode cX8_of 12 = .ok (.iaload, 1) := by decide +kernel
theorem dX8_of_13 : decode cX8_of 13 = .ok (.ireturn, 1) := by decide +kernel
theorem dX8_put_0 : decode cX8_put 0 = .ok (.aload_n 0, 1) := by decide +kernel
theorem dX8_put_1 : decode cX8_put 1 = .ok (.getfield 9, 3) := by decide +kernel
theorem dX8_put_4 : decode cX8_put 4 = .ok (.bipush 21, 2) := by decide +kernel
theorem dX8_put_6 : decode cX8_put 6 = .ok (.iconst 5, 1) := by decide +kernel
theorem dX8_put_7 : decode cX8_put 7 = .ok (.iload_n 1, 1) := by decide +kernel
theorem dX8_put_8 : decode cX8_put 8 = .ok (.imul, 1) := by decide +kernel
theorem dX8_put_9 : decode cX8_put 9 = .ok (.iadd, 1) := by decide +kernel
theorem dX8_put_10 : decode cX8_put 10 = .ok (.iload_n 2, 1) := by decide +kernel
theorem dX8_put_11 : decode cX8_put 11 = .ok (.iadd, 1) := by decide +kernel
theorem dX8_put_12 : decode cX8_put 12 = .ok (.iload_n 3, 1) := by decide +kernel
theorem dX8_put_13 : decode cX8_put 13 = .ok (.iastore, 1) := by decide +kernel
theorem dX8_put_14 : decode cX8_put 14 = .ok (.return_, 1) := by decide +kernel
theorem dX8_becomes_0 : decode cX8_becomes 0 = .ok (.aload_n 0, 1) := by decide +kernel
theorem dX8_becomes_1 : decode cX8_becomes 1 = .ok (.getfield 9, 3) := by decide +kernel
theorem dX8_becomes_4 : decode cX8_becomes 4 = .ok (.iload_n 1, 1) := by decide +kernel
theorem dX8_becomes_5 : decode cX8_becomes 5 = .ok (.iaload, 1) := by decide +kernel
theorem dX8_becomes_6 : decode cX8_becomes 6 = .ok (.istore_n 3, 1) := by decide +kernel
theorem dX8_becomes_7 : decode cX8_becomes 7 = .ok (.aload_n 0, 1) := by decide +kernel
theorem dX8_becomes_8 : decode cX8_becomes 8 = .ok (.getfield 9, 3) := by decide +kernel
theorem dX8_becomes_11 : decode cX8_becomes 11 = .ok (.iload_n 1, 1) := by decide +kernel
theorem dX8_becomes_12 : decode cX8_becomes 12 = .ok (.iload_n 2, 1) := by decide +kernel
theorem dX8_becomes_13 : decode cX8_becomes 13 = .ok (.iastore, 1) := by decide +kernel
theorem dX8_becomes_14 : decode cX8_becomes 14 = .ok (.iload_n 3, 1) := by decide +kernel
theorem dX8_becomes_15 : decode cX8_becomes 15 = .ok (.ireturn, 1) := by decide +kernel
theorem dX8_lays_0 : decode cX8_lays 0 = .ok (.aload_n 0, 1) := by decide +kernel
theorem dX8_lays_1 : decode cX8_lays 1 = .ok (.iload_n 1, 1) := by decide +kernel
theorem dX8_lays_2 : decode cX8_lays 2 = .ok (.iconst 0, 1) := by decide +kernel
theorem dX8_lays_3 : decode cX8_lays 3 = .ok (.iload_n 2, 1) := by decide +kernel
theorem dX8_lays_4 : decode cX8_lays 4 = .ok (.invokevirtual 96, 3) := by decide +kernel
theorem dX8_lays_7 : decode cX8_lays 7 = .ok (.aload_n 0, 1) := by decide +kernel
theorem dX8_lays_8 : decode cX8_lays 8 = .ok (.iload_n 1, 1) := by decide +kernel
theorem dX8_lays_9 : decode cX8_lays 9 = .ok (.iconst 1, 1) := by decide +kernel
theorem dX8_lays_10 : decode cX8_lays 10 = .ok (.iload_n 3, 1) := by decide +kernel
theorem dX8_lays_11 : decode cX8_lays 11 = .ok (.invokevirtual 96, 3) := by decide +kernel
theorem dX8_lays_14 : decode cX8_lays 14 = .ok (.aload_n 0, 1) := by decide +kernel
theorem dX8_lays_15 : decode cX8_lays 15 = .ok (.iload_n 1, 1) := by decide +kernel
theorem dX8_lays_16 : decode cX8_lays 16 = .ok (.iconst 2, 1) := by decide +kernel
theorem dX8_lays_17 : decode cX8_lays 17 = .ok (.iload 4, 2) := by decide +kernel
theorem dX8_lays_19 : decode cX8_lays 19 = .ok (.invokevirtual 96, 3) := by decide +kernel
theorem dX8_lays_22 : decode cX8_lays 22 = .ok (.aload_n 0, 1) := by decide +kernel
theorem dX8_lays_23 : decode cX8_lays 23 = .ok (.iload_n 1, 1) := by decide +kernel
theorem dX8_lays_24 : decode cX8_lays 24 = .ok (.iconst 3, 1) := by decide +kernel
theorem dX8_lays_25 : decode cX8_lays 25 = .ok (.iload 5, 2) := by decide +kernel
theorem dX8_lays_27 : decode cX8_lays 27 = .ok (.invokevirtual 96, 3) := by decide +kernel
theorem dX8_lays_30 : decode cX8_lays 30 = .ok (.aload_n 0, 1) := by decide +kernel
theorem dX8_lays_31 : decode cX8_lays 31 = .ok (.iload_n 1, 1) := by decide +kernel
theorem dX8_lays_32 : decode cX8_lays 32 = .ok (.iconst 4, 1) := by decide +kernel
theorem dX8_lays_33 : decode cX8_lays 33 = .ok (.iconst 0, 1) := by decide +kernel
theorem dX8_lays_34 : decode cX8_lays 34 = .ok (.invokevirtual 96, 3) := by decide +kernel
theorem dX8_lays_37 : decode cX8_lays 37 = .ok (.return_, 1) := by decide +kernel
theorem dX8_comes_0 : decode cX8_comes 0 = .ok (.aload_n 0, 1) := by decide +kernel
theorem dX8_comes_1 : decode cX8_comes 1 = .ok (.aload_n 0, 1) := by decide +kernel
theorem dX8_comes_2 : decode cX8_comes 2 = .ok (.getfield 9, 3) := by decide +kernel
theorem dX8_comes_5 : decode cX8_comes 5 = .ok (.iconst 1, 1) := by decide +kernel
theorem dX8_comes_6 : decode cX8_comes 6 = .ok (.iaload, 1) := by decide +kernel
theorem dX8_comes_7 : decode cX8_comes 7 = .ok (.iload_n 1, 1) := by decide +kernel
theorem dX8_comes_8 : decode cX8_comes 8 = .ok (.iload_n 2, 1) := by decide +kernel
theorem dX8_comes_9 : decode cX8_comes 9 = .ok (.iload_n 3, 1) := by decide +kernel
theorem dX8_comes_10 : decode cX8_comes 10 = .ok (.iload 4, 2) := by decide +kernel
theorem dX8_comes_12 : decode cX8_comes 12 = .ok (.invokevirtual 100, 3) := by decide +kernel
theorem dX8_comes_15 : decode cX8_comes 15 = .ok (.aload_n 0, 1) := by decide +kernel
theorem dX8_comes_16 : decode cX8_comes 16 = .ok (.getfield 9, 3) := by decide +kernel
theorem dX8_comes_19 : decode cX8_comes 19 = .ok (.iconst 1, 1) := by decide +kernel
theorem dX8_comes_20 : decode cX8_comes 20 = .ok (.dup2, 1) := by decide +kernel
theorem dX8_comes_21 : decode cX8_comes 21 = .ok (.iaload, 1) := by decide +kernel
theorem dX8_comes_22 : decode cX8_comes 22 = .ok (.iconst 1, 1) := by decide +kernel
theorem dX8_comes_23 : decode cX8_comes 23 = .ok (.iadd, 1) := by decide +kernel
theorem dX8_comes_24 : decode cX8_comes 24 = .ok (.iastore, 1) := by decide +kernel
theorem dX8_comes_25 : decode cX8_comes 25 = .ok (.aload_n 0, 1) := by decide +kernel
theorem dX8_comes_26 : decode cX8_comes 26 = .ok (.getfield 9, 3) := by decide +kernel
theorem dX8_comes_29 : decode cX8_comes 29 = .ok (.iconst 1, 1) := by decide +kernel
theorem dX8_comes_30 : decode cX8_comes 30 = .ok (.iaload, 1) := by decide +kernel
theorem dX8_comes_31 : decode cX8_comes 31 = .ok (.iconst 1, 1) := by decide +kernel
theorem dX8_comes_32 : decode cX8_comes 32 = .ok (.isub, 1) := by decide +kernel
theorem dX8_comes_33 : decode cX8_comes 33 = .ok (.ireturn, 1) := by decide +kernel
theorem dX8_hole_0 : decode cX8_hole 0 = .ok (.iload_n 1, 1) := by decide +kernel
theorem dX8_hole_1 : decode cX8_hole 1 = .ok (.iconst 0, 1) := by decide +kernel
theorem dX8_hole_2 : decode cX8_hole 2 = .ok (.iconst 5, 1) := by decide +kernel
theorem dX8_hole_3 : decode cX8_hole 3 = .ok (.invokestatic 92, 3) := by decide +kernel
theorem dX8_hole_6 : decode cX8_hole 6 = .ok (.ifCond .eq 28, 3) := by decide +kernel
theorem dX8_hole_9 : decode cX8_hole 9 = .ok (.iload_n 2, 1) := by decide +kernel
theorem dX8_hole_10 : decode cX8_hole 10 = .ok (.invokestatic 104, 3) := by decide +kernel
theorem dX8_hole_13 : decode cX8_hole 13 = .ok (.ifCond .eq 21, 3) := by decide +kernel
theorem dX8_hole_16 : decode cX8_hole 16 = .ok (.iload_n 3, 1) := by decide +kernel
theorem dX8_hole_17 : decode cX8_hole 17 = .ok (.iconst 0, 1) := by decide +kernel
theorem dX8_hole_18 : decode cX8_hole 18 = .ok (.bipush 99, 2) := by decide +kernel
theorem dX8_hole_20 : decode cX8_hole 20 = .ok (.invokestatic 92, 3) := by decide +kernel
theorem dX8_hole_23 : decode cX8_hole 23 = .ok (.ifCond .eq 11, 3) := by decide +kernel
theorem dX8_hole_26 : decode cX8_hole 26 = .ok (.iload 4, 2) := by decide +kernel
theorem dX8_hole_28 : decode cX8_hole 28 = .ok (.invokestatic 108, 3) := by decide +kernel
theorem dX8_hole_31 : decode cX8_hole 31 = .ok (.ifCond .ne 6, 3) := by decide +kernel
theorem dX8_hole_34 : decode cX8_hole 34 = .ok (.ldc 111, 2) := by decide +kernel
theorem dX8_hole_36 : decode cX8_hole 36 = .ok (.ireturn, 1) := by decide +kernel
theorem dX8_hole_37 : decode cX8_hole 37 = .ok (.aload_n 0, 1) := by decide +kernel
theorem dX8_hole_38 : decode cX8_hole 38 = .ok (.getfield 9, 3) := by decide +kernel
theorem dX8_hole_41 : decode cX8_hole 41 = .ok (.iconst 1, 1) := by decide +kernel
theorem dX8_hole_42 : decode cX8_hole 42 = .ok (.iaload, 1) := by decide +kernel
theorem dX8_hole_43 : decode cX8_hole 43 = .ok (.bipush 10, 2) := by decide +kernel
theorem dX8_hole_45 : decode cX8_hole 45 = .ok (.if_icmp .ne 8, 3) := by decide +kernel
theorem dX8_hole_48 : decode cX8_hole 48 = .ok (.ldc 112, 2) := by decide +kernel
theorem dX8_hole_50 : decode cX8_hole 50 = .ok (.goto 12, 3) := by decide +kernel
theorem dX8_hole_53 : decode cX8_hole 53 = .ok (.aload_n 0, 1) := by decide +kernel
theorem dX8_hole_54 : decode cX8_hole 54 = .ok (.iload_n 1, 1) := by decide +kernel
theorem dX8_hole_55 : decode cX8_hole 55 = .ok (.iload_n 2, 1) := by decide +kernel
theorem dX8_hole_56 : decode cX8_hole 56 = .ok (.iload_n 3, 1) := by decide +kernel
theorem dX8_hole_57 : decode cX8_hole 57 = .ok (.iload 4, 2) := by decide +kernel
theorem dX8_hole_59 : decode cX8_hole 59 = .ok (.invokevirtual 113, 3) := by decide +kernel
theorem dX8_hole_62 : decode cX8_hole 62 = .ok (.ireturn, 1) := by decide +kernel
theorem dX8_worthOf_0 : decode cX8_worthOf 0 = .ok (.aload_n 0, 1) := by decide +kernel
theorem dX8_worthOf_1 : decode cX8_worthOf 1 = .ok (.iload_n 1, 1) := by decide +kernel
theorem dX8_worthOf_2 : decode cX8_worthOf 2 = .ok (.iconst 2, 1) := by decide +kernel
theorem dX8_worthOf_3 : decode cX8_worthOf 3 = .ok (.invokevirtual 117, 3) := by decide +kernel
theorem dX8_worthOf_6 : decode cX8_worthOf 6 = .ok (.istore_n 2, 1) := by decide +kernel
theorem dX8_worthOf_7 : decode cX8_worthOf 7 = .ok (.aload_n 0, 1) := by decide +kernel
theorem dX8_worthOf_8 : decode cX8_worthOf 8 = .ok (.iload_n 1, 1) := by decide +kernel
theorem dX8_worthOf_9 : decode cX8_worthOf 9 = .ok (.iconst 0, 1) := by decide +kernel
theorem dX8_worthOf_10 : decode cX8_worthOf 10 = .ok (.invokevirtual 117, 3) := by decide +kernel
theorem dX8_worthOf_13 : decode cX8_worthOf 13 = .ok (.tableswitch 72 1 5 #[35, 44, 49, 60, 65], 35) := by decide +kernel
theorem dX8_worthOf_48 : decode cX8_worthOf 48 = .ok (.iload_n 2, 1) := by decide +kernel
theorem dX8_worthOf_49 : decode cX8_worthOf 49 = .ok (.aload_n 0, 1) := by decide +kernel
theorem dX8_worthOf_50 : decode cX8_worthOf 50 = .ok (.iload_n 1, 1) := by decide +kernel
theorem dX8_worthOf_51 : decode cX8_worthOf 51 = .ok (.iconst 3, 1) := by decide +kernel
theorem dX8_worthOf_52 : decode cX8_worthOf 52 = .ok (.invokevirtual 117, 3) := by decide +kernel
theorem dX8_worthOf_55 : decode cX8_worthOf 55 = .ok (.iadd, 1) := by decide +kernel
theorem dX8_worthOf_56 : decode cX8_worthOf 56 = .ok (.ireturn, 1) := by decide +kernel
theorem dX8_worthOf_57 : decode cX8_worthOf 57 = .ok (.bipush 120, 2) := by decide +kernel
theorem dX8_worthOf_59 : decode cX8_worthOf 59 = .ok (.iload_n 2, 1) := by decide +kernel
theorem dX8_worthOf_60 : decode cX8_worthOf 60 = .ok (.isub, 1) := by decide +kernel
theorem dX8_worthOf_61 : decode cX8_worthOf 61 = .ok (.ireturn, 1) := by decide +kernel
theorem dX8_worthOf_62 : decode cX8_worthOf 62 = .ok (.iconst 2, 1) := by decide +kernel
theorem dX8_worthOf_63 : decode cX8_worthOf 63 = .ok (.iload_n 2, 1) := by decide +kernel
theorem dX8_worthOf_64 : decode cX8_worthOf 64 = .ok (.aload_n 0, 1) := by decide +kernel
theorem dX8_worthOf_65 : decode cX8_worthOf 65 = .ok (.iload_n 1, 1) := by decide +kernel
theorem dX8_worthOf_66 : decode cX8_worthOf 66 = .ok (.iconst 3, 1) := by decide +kernel
theorem dX8_worthOf_67 : decode cX8_worthOf 67 = .ok (.invokevirtual 117, 3) := by decide +kernel
theorem dX8_worthOf_70 : decode cX8_worthOf 70 = .ok (.iadd, 1) := by decide +kernel
theorem dX8_worthOf_71 : decode cX8_worthOf 71 = .ok (.imul, 1) := by decide +kernel
theorem dX8_worthOf_72 : decode cX8_worthOf 72 = .ok (.ireturn, 1) := by decide +kernel
theorem dX8_worthOf_73 : decode cX8_worthOf 73 = .ok (.bipush 111, 2) := by decide +kernel
theorem dX8_worthOf_75 : decode cX8_worthOf 75 = .ok (.iload_n 2, 1) := by decide +kernel
theorem dX8_worthOf_76 : decode cX8_worthOf 76 = .ok (.isub, 1) := by decide +kernel
theorem dX8_worthOf_77 : decode cX8_worthOf 77 = .ok (.ireturn, 1) := by decide +kernel
theorem dX8_worthOf_78 : decode cX8_worthOf 78 = .ok (.aload_n 0, 1) := by decide +kernel
theorem dX8_worthOf_79 : decode cX8_worthOf 79 = .ok (.iload_n 1, 1) := by decide +kernel
theorem dX8_worthOf_80 : decode cX8_worthOf 80 = .ok (.iconst 1, 1) := by decide +kernel
theorem dX8_worthOf_81 : decode cX8_worthOf 81 = .ok (.invokevirtual 117, 3) := by decide +kernel
theorem dX8_worthOf_84 : decode cX8_worthOf 84 = .ok (.ireturn, 1) := by decide +kernel
theorem dX8_worthOf_85 : decode cX8_worthOf 85 = .ok (.iload_n 2, 1) := by decide +kernel
theorem dX8_worthOf_86 : decode cX8_worthOf 86 = .ok (.ireturn, 1) := by decide +kernel
theorem dX8_told_0 : decode cX8_told 0 = .ok (.aload_n 0, 1) := by decide +kernel
theorem dX8_told_1 : decode cX8_told 1 = .ok (.iload_n 1, 1) := by decide +kernel
theorem dX8_told_2 : decode cX8_told 2 = .ok (.invokevirtual 121, 3) := by decide +kernel
theorem dX8_told_5 : decode cX8_told 5 = .ok (.ifCond .eq 12, 3) := by decide +kernel
theorem dX8_told_8 : decode cX8_told 8 = .ok (.iload_n 2, 1) := by decide +kernel
theorem dX8_told_9 : decode cX8_told 9 = .ok (.iconst 0, 1) := by decide +kernel
theorem dX8_told_10 : decode cX8_told 10 = .ok (.iconst 5, 1) := by decide +kernel
theorem dX8_told_11 : decode cX8_told 11 = .ok (.invokestatic 92, 3) := by decide +kernel
theorem dX8_told_14 : decode cX8_told 14 = .ok (.ifCond .ne 6, 3) := by decide +kernel
theorem dX8_told_17 : decode cX8_told 17 = .ok (.ldc 111, 2) := by decide +kernel
theorem dX8_told_19 : decode cX8_told 19 = .ok (.ireturn, 1) := by decide +kernel
theorem dX8_told_20 : decode cX8_told 20 = .ok (.iload_n 2, 1) := by decide +kernel
theorem dX8_told_21 : decode cX8_told 21 = .ok (.iconst 5, 1) := by decide +kernel
theorem dX8_told_22 : decode cX8_told 22 = .ok (.if_icmp .ge 12, 3) := by decide +kernel
theorem dX8_told_25 : decode cX8_told 25 = .ok (.aload_n 0, 1) := by decide +kernel
theorem dX8_told_26 : decode cX8_told 26 = .ok (.iload_n 1, 1) := by decide +kernel
theorem dX8_told_27 : decode cX8_told 27 = .ok (.iload_n 2, 1) := by decide +kernel
theorem dX8_told_28 : decode cX8_told 28 = .ok (.invokevirtual 117, 3) := by decide +kernel
theorem dX8_told_31 : decode cX8_told 31 = .ok (.goto 8, 3) := by decide +kernel
theorem dX8_told_34 : decode cX8_told 34 = .ok (.aload_n 0, 1) := by decide +kernel
theorem dX8_told_35 : decode cX8_told 35 = .ok (.iload_n 1, 1) := by decide +kernel
theorem dX8_told_36 : decode cX8_told 36 = .ok (.invokevirtual 124, 3) := by decide +kernel
theorem dX8_told_39 : decode cX8_told 39 = .ok (.ireturn, 1) := by decide +kernel
theorem dX8_isUnder_0 : decode cX8_isUnder 0 = .ok (.iload_n 1, 1) := by decide +kernel
theorem dX8_isUnder_1 : decode cX8_isUnder 1 = .ok (.ifCond .eq 28, 3) := by decide +kernel
theorem dX8_isUnder_4 : decode cX8_isUnder 4 = .ok (.iload_n 0, 1) := by decide +kernel
theorem dX8_isUnder_5 : decode cX8_isUnder 5 = .ok (.iload_n 1, 1) := by decide +kernel
theorem dX8_isUnder_6 : decode cX8_isUnder 6 = .ok (.if_icmp .eq 23, 3) := by decide +kernel
theorem dX8_isUnder_9 : decode cX8_isUnder 9 = .ok (.iload_n 1, 1) := by decide +kernel
theorem dX8_isUnder_10 : decode cX8_isUnder 10 = .ok (.iconst 1, 1) := by decide +kernel
theorem dX8_isUnder_11 : decode cX8_isUnder 11 = .ok (.if_icmp .ne 8, 3) := by decide +kernel
theorem dX8_isUnder_14 : decode cX8_isUnder 14 = .ok (.iload_n 0, 1) := by decide +kernel
theorem dX8_isUnder_15 : decode cX8_isUnder 15 = .ok (.iconst 3, 1) := by decide +kernel
theorem dX8_isUnder_16 : decode cX8_isUnder 16 = .ok (.if_icmp .eq 13, 3) := by decide +kernel
theorem dX8_isUnder_19 : decode cX8_isUnder 19 = .ok (.iload_n 1, 1) := by decide +kernel
theorem dX8_isUnder_20 : decode cX8_isUnder 20 = .ok (.iconst 2, 1) := by decide +kernel
theorem dX8_isUnder_21 : decode cX8_isUnder 21 = .ok (.if_icmp .ne 12, 3) := by decide +kernel
theorem dX8_isUnder_24 : decode cX8_isUnder 24 = .ok (.iload_n 0, 1) := by decide +kernel
theorem dX8_isUnder_25 : decode cX8_isUnder 25 = .ok (.iconst 4, 1) := by decide +kernel
theorem dX8_isUnder_26 : decode cX8_isUnder 26 = .ok (.if_icmp .ne 7, 3) := by decide +kernel
theorem dX8_isUnder_29 : decode cX8_isUnder 29 = .ok (.iconst 1, 1) := by decide +kernel
theorem dX8_isUnder_30 : decode cX8_isUnder 30 = .ok (.goto 4, 3) := by decide +kernel
theorem dX8_isUnder_33 : decode cX8_isUnder 33 = .ok (.iconst 0, 1) := by decide +kernel
theorem dX8_isUnder_34 : decode cX8_isUnder 34 = .ok (.ireturn, 1) := by decide +kernel
theorem dX8_as_0 : decode cX8_as 0 = .ok (.aload_n 0, 1) := by decide +kernel
theorem dX8_as_1 : decode cX8_as 1 = .ok (.iload_n 1, 1) := by decide +kernel
theorem dX8_as_2 : decode cX8_as 2 = .ok (.invokevirtual 121, 3) := by decide +kernel
theorem dX8_as_5 : decode cX8_as 5 = .ok (.ifCond .eq 12, 3) := by decide +kernel
theorem dX8_as_8 : decode cX8_as 8 = .ok (.iload_n 2, 1) := by decide +kernel
theorem dX8_as_9 : decode cX8_as 9 = .ok (.iconst 0, 1) := by decide +kernel
theorem dX8_as_10 : decode cX8_as 10 = .ok (.iconst 5, 1) := by decide +kernel
theorem dX8_as_11 : decode cX8_as 11 = .ok (.invokestatic 92, 3) := by decide +kernel
theorem dX8_as_14 : decode cX8_as 14 = .ok (.ifCond .ne 6, 3) := by decide +kernel
theorem dX8_as_17 : decode cX8_as 17 = .ok (.ldc 111, 2) := by decide +kernel
theorem dX8_as_19 : decode cX8_as 19 = .ok (.ireturn, 1) := by decide +kernel
theorem dX8_as_20 : decode cX8_as 20 = .ok (.aload_n 0, 1) := by decide +kernel
theorem dX8_as_21 : decode cX8_as 21 = .ok (.iload_n 1, 1) := by decide +kernel
theorem dX8_as_22 : decode cX8_as 22 = .ok (.iconst 0, 1) := by decide +kernel
theorem dX8_as_23 : decode cX8_as 23 = .ok (.invokevirtual 117, 3) := by decide +kernel
theorem dX8_as_26 : decode cX8_as 26 = .ok (.iload_n 2, 1) := by decide +kernel
theorem dX8_as_27 : decode cX8_as 27 = .ok (.invokestatic 128, 3) := by decide +kernel
theorem dX8_as_30 : decode cX8_as 30 = .ok (.ifCond .eq 12, 3) := by decide +kernel
theorem dX8_as_33 : decode cX8_as 33 = .ok (.aload_n 0, 1) := by decide +kernel
theorem dX8_as_34 : decode cX8_as 34 = .ok (.iload_n 1, 1) := by decide +kernel
theorem dX8_as_35 : decode cX8_as 35 = .ok (.iconst 2, 1) := by decide +kernel
theorem dX8_as_36 : decode cX8_as 36 = .ok (.invokevirtual 117, 3) := by decide +kernel
theorem dX8_as_39 : decode cX8_as 39 = .ok (.goto 5, 3) := by decide +kernel
theorem dX8_as_42 : decode cX8_as 42 = .ok (.ldc 132, 2) := by decide +kernel
theorem dX8_as_44 : decode cX8_as 44 = .ok (.ireturn, 1) := by decide +kernel
theorem dX8_turns_0 : decode cX8_turns 0 = .ok (.aload_n 0, 1) := by decide +kernel
theorem dX8_turns_1 : decode cX8_turns 1 = .ok (.iload_n 1, 1) := by decide +kernel
theorem dX8_turns_2 : decode cX8_turns 2 = .ok (.invokevirtual 121, 3) := by decide +kernel
theorem dX8_turns_5 : decode cX8_turns 5 = .ok (.ifCond .eq 26, 3) := by decide +kernel
theorem dX8_turns_8 : decode cX8_turns 8 = .ok (.iload_n 2, 1) := by decide +kernel
theorem dX8_turns_9 : decode cX8_turns 9 = .ok (.iconst 0, 1) := by decide +kernel
theorem dX8_turns_10 : decode cX8_turns 10 = .ok (.iconst 5, 1) := by decide +kernel
theorem dX8_turns_11 : decode cX8_turns 11 = .ok (.invokestatic 92, 3) := by decide +kernel
theorem dX8_turns_14 : decode cX8_turns 14 = .ok (.ifCond .eq 17, 3) := by decide +kernel
theorem dX8_turns_17 : decode cX8_turns 17 = .ok (.aload_n 0, 1) := by decide +kernel
theorem dX8_turns_18 : decode cX8_turns 18 = .ok (.bipush 21, 2) := by decide +kernel
theorem dX8_turns_20 : decode cX8_turns 20 = .ok (.iconst 5, 1) := by decide +kernel
theorem dX8_turns_21 : decode cX8_turns 21 = .ok (.iload_n 1, 1) := by decide +kernel
theorem dX8_turns_22 : decode cX8_turns 22 = .ok (.imul, 1) := by decide +kernel
theorem dX8_turns_23 : decode cX8_turns 23 = .ok (.iadd, 1) := by decide +kernel
theorem dX8_turns_24 : decode cX8_turns 24 = .ok (.iload_n 2, 1) := by decide +kernel
theorem dX8_turns_25 : decode cX8_turns 25 = .ok (.invokevirtual 133, 3) := by decide +kernel
theorem dX8_turns_28 : decode cX8_turns 28 = .ok (.goto 5, 3) := by decide +kernel
theorem dX8_turns_31 : decode cX8_turns 31 = .ok (.ldc 111, 2) := by decide +kernel
theorem dX8_turns_33 : decode cX8_turns 33 = .ok (.ireturn, 1) := by decide +kernel
theorem dX8_set_0 : decode cX8_set 0 = .ok (.aload_n 0, 1) := by decide +kernel
theorem dX8_set_1 : decode cX8_set 1 = .ok (.iload_n 1, 1) := by decide +kernel
theorem dX8_set_2 : decode cX8_set 2 = .ok (.invokevirtual 121, 3) := by decide +kernel
theorem dX8_set_5 : decode cX8_set 5 = .ok (.ifCond .eq 53, 3) := by decide +kernel
theorem dX8_set_8 : decode cX8_set 8 = .ok (.iload_n 2, 1) := by decide +kernel
theorem dX8_set_9 : decode cX8_set 9 = .ok (.iconst 1, 1) := by decide +kernel
theorem dX8_set_10 : decode cX8_set 10 = .ok (.iconst 4, 1) := by decide +kernel
theorem dX8_set_11 : decode cX8_set 11 = .ok (.invokestatic 92, 3) := by decide +kernel
theorem dX8_set_14 : decode cX8_set 14 = .ok (.ifCond .eq 44, 3) := by decide +kernel
theorem dX8_set_17 : decode cX8_set 17 = .ok (.iload_n 3, 1) := by decide +kernel
theorem dX8_set_18 : decode cX8_set 18 = .ok (.iconst 0, 1) := by decide +kernel
theorem dX8_set_19 : decode cX8_set 19 = .ok (.iload_n 2, 1) := by decide +kernel
theorem dX8_set_20 : decode cX8_set 20 = .ok (.iconst 1, 1) := by decide +kernel
theorem dX8_set_21 : decode cX8_set 21 = .ok (.if_icmp .ne 8, 3) := by decide +kernel
theorem dX8_set_24 : decode cX8_set 24 = .ok (.bipush 29, 2) := by decide +kernel
theorem dX8_set_26 : decode cX8_set 26 = .ok (.goto 26, 3) := by decide +kernel
theorem dX8_set_29 : decode cX8_set 29 = .ok (.iload_n 2, 1) := by decide +kernel
theorem dX8_set_30 : decode cX8_set 30 = .ok (.iconst 2, 1) := by decide +kernel
theorem dX8_set_31 : decode cX8_set 31 = .ok (.if_icmp .ne 8, 3) := by decide +kernel
theorem dX8_set_34 : decode cX8_set 34 = .ok (.bipush 99, 2) := by decide +kernel
theorem dX8_set_36 : decode cX8_set 36 = .ok (.goto 16, 3) := by decide +kernel
theorem dX8_set_39 : decode cX8_set 39 = .ok (.iload_n 2, 1) := by decide +kernel
theorem dX8_set_40 : decode cX8_set 40 = .ok (.iconst 3, 1) := by decide +kernel
theorem dX8_set_41 : decode cX8_set 41 = .ok (.if_icmp .ne 8, 3) := by decide +kernel
theorem dX8_set_44 : decode cX8_set 44 = .ok (.bipush 7, 2) := by decide +kernel
theorem dX8_set_46 : decode cX8_set 46 = .ok (.goto 6, 3) := by decide +kernel
theorem dX8_set_49 : decode cX8_set 49 = .ok (.sipush 999, 3) := by decide +kernel
theorem dX8_set_52 : decode cX8_set 52 = .ok (.invokestatic 92, 3) := by decide +kernel
theorem dX8_set_55 : decode cX8_set 55 = .ok (.ifCond .ne 6, 3) := by decide +kernel
theorem dX8_set_58 : decode cX8_set 58 = .ok (.ldc 111, 2) := by decide +kernel
theorem dX8_set_60 : decode cX8_set 60 = .ok (.ireturn, 1) := by decide +kernel
theorem dX8_set_61 : decode cX8_set 61 = .ok (.aload_n 0, 1) := by decide +kernel
theorem dX8_set_62 : decode cX8_set 62 = .ok (.bipush 21, 2) := by decide +kernel
theorem dX8_set_64 : decode cX8_set 64 = .ok (.iconst 5, 1) := by decide +kernel
theorem dX8_set_65 : decode cX8_set 65 = .ok (.iload_n 1, 1) := by decide +kernel
theorem dX8_set_66 : decode cX8_set 66 = .ok (.imul, 1) := by decide +kernel
theorem dX8_set_67 : decode cX8_set 67 = .ok (.iadd, 1) := by decide +kernel
theorem dX8_set_68 : decode cX8_set 68 = .ok (.iload_n 2, 1) := by decide +kernel
theorem dX8_set_69 : decode cX8_set 69 = .ok (.iadd, 1) := by decide +kernel
theorem dX8_set_70 : decode cX8_set 70 = .ok (.iload_n 3, 1) := by decide +kernel
theorem dX8_set_71 : decode cX8_set 71 = .ok (.invokevirtual 133, 3) := by decide +kernel
theorem dX8_set_74 : decode cX8_set 74 = .ok (.ireturn, 1) := by decide +kernel
theorem dX8_settlesBy_0 : decode cX8_settlesBy 0 = .ok (.aload_n 0, 1) := by decide +kernel
theorem dX8_settlesBy_1 : decode cX8_settlesBy 1 = .ok (.iconst 1, 1) := by decide +kernel
theorem dX8_settlesBy_2 : decode cX8_settlesBy 2 = .ok (.invokevirtual 136, 3) := by decide +kernel
theorem dX8_settlesBy_5 : decode cX8_settlesBy 5 = .ok (.istore_n 3, 1) := by decide +kernel
theorem dX8_settlesBy_6 : decode cX8_settlesBy 6 = .ok (.aload_n 0, 1) := by decide +kernel
theorem dX8_settlesBy_7 : decode cX8_settlesBy 7 = .ok (.getfield 61, 3) := by decide +kernel
theorem dX8_settlesBy_10 : decode cX8_settlesBy 10 = .ok (.iconst 0, 1) := by decide +kernel
theorem dX8_settlesBy_11 : decode cX8_settlesBy 11 = .ok (.iload_n 2, 1) := by decide +kernel
theorem dX8_settlesBy_12 : decode cX8_settlesBy 12 = .ok (.iastore, 1) := by decide +kernel
theorem dX8_settlesBy_13 : decode cX8_settlesBy 13 = .ok (.aload_n 0, 1) := by decide +kernel
theorem dX8_settlesBy_14 : decode cX8_settlesBy 14 = .ok (.getfield 61, 3) := by decide +kernel
theorem dX8_settlesBy_17 : decode cX8_settlesBy 17 = .ok (.iconst 1, 1) := by decide +kernel
theorem dX8_settlesBy_18 : decode cX8_settlesBy 18 = .ok (.aload_n 0, 1) := by decide +kernel
theorem dX8_settlesBy_19 : decode cX8_settlesBy 19 = .ok (.iload_n 1, 1) := by decide +kernel
theorem dX8_settlesBy_20 : decode cX8_settlesBy 20 = .ok (.iconst 2, 1) := by decide +kernel
theorem dX8_settlesBy_21 : decode cX8_settlesBy 21 = .ok (.invokevirtual 117, 3) := by decide +kernel
theorem dX8_settlesBy_24 : decode cX8_settlesBy 24 = .ok (.iastore, 1) := by decide +kernel
theorem dX8_settlesBy_25 : decode cX8_settlesBy 25 = .ok (.aload_n 0, 1) := by decide +kernel
theorem dX8_settlesBy_26 : decode cX8_settlesBy 26 = .ok (.getfield 61, 3) := by decide +kernel
theorem dX8_settlesBy_29 : decode cX8_settlesBy 29 = .ok (.iconst 2, 1) := by decide +kernel
theorem dX8_settlesBy_30 : decode cX8_settlesBy 30 = .ok (.aload_n 0, 1) := by decide +kernel
theorem dX8_settlesBy_31 : decode cX8_settlesBy 31 = .ok (.iload_n 1, 1) := by decide +kernel
theorem dX8_settlesBy_32 : decode cX8_settlesBy 32 = .ok (.iconst 4, 1) := by decide +kernel
theorem dX8_settlesBy_33 : decode cX8_settlesBy 33 = .ok (.invokevirtual 117, 3) := by decide +kernel
theorem dX8_settlesBy_36 : decode cX8_settlesBy 36 = .ok (.iastore, 1) := by decide +kernel
theorem dX8_settlesBy_37 : decode cX8_settlesBy 37 = .ok (.iload_n 3, 1) := by decide +kernel
theorem dX8_settlesBy_38 : decode cX8_settlesBy 38 = .ok (.ifCond .ge 9, 3) := by decide +kernel
theorem dX8_settlesBy_41 : decode cX8_settlesBy 41 = .ok (.iload_n 2, 1) := by decide +kernel
theorem dX8_settlesBy_42 : decode cX8_settlesBy 42 = .ok (.iconst 5, 1) := by decide +kernel
theorem dX8_settlesBy_43 : decode cX8_settlesBy 43 = .ok (.idiv, 1) := by decide +kernel
theorem dX8_settlesBy_44 : decode cX8_settlesBy 44 = .ok (.goto 14, 3) := by decide +kernel
theorem dX8_settlesBy_47 : decode cX8_settlesBy 47 = .ok (.aload_n 0, 1) := by decide +kernel
theorem dX8_settlesBy_48 : decode cX8_settlesBy 48 = .ok (.iload_n 3, 1) := by decide +kernel
theorem dX8_settlesBy_49 : decode cX8_settlesBy 49 = .ok (.invokevirtual 139, 3) := by decide +kernel
theorem dX8_settlesBy_52 : decode cX8_settlesBy 52 = .ok (.iconst 0, 1) := by decide +kernel
theorem dX8_settlesBy_53 : decode cX8_settlesBy 53 = .ok (.bipush 9, 2) := by decide +kernel
theorem dX8_settlesBy_55 : decode cX8_settlesBy 55 = .ok (.invokestatic 142, 3) := by decide +kernel
theorem dX8_settlesBy_58 : decode cX8_settlesBy 58 = .ok (.istore 4, 2) := by decide +kernel
theorem dX8_settlesBy_60 : decode cX8_settlesBy 60 = .ok (.iconst 2, 1) := by decide +kernel
theorem dX8_settlesBy_61 : decode cX8_settlesBy 61 = .ok (.iload 4, 2) := by decide +kernel
theorem dX8_settlesBy_63 : decode cX8_settlesBy 63 = .ok (.imul, 1) := by decide +kernel
theorem dX8_settlesBy_64 : decode cX8_settlesBy 64 = .ok (.iconst 0, 1) := by decide +kernel
theorem dX8_settlesBy_65 : decode cX8_settlesBy 65 = .ok (.bipush 9, 2) := by decide +kernel
theorem dX8_settlesBy_67 : decode cX8_settlesBy 67 = .ok (.invokestatic 142, 3) := by decide +kernel
theorem dX8_settlesBy_70 : decode cX8_settlesBy 70 = .ok (.istore 5, 2) := by decide +kernel
theorem dX8_settlesBy_72 : decode cX8_settlesBy 72 = .ok (.aload_n 0, 1) := by decide +kernel
theorem dX8_settlesBy_73 : decode cX8_settlesBy 73 = .ok (.iload_n 1, 1) := by decide +kernel
theorem dX8_settlesBy_74 : decode cX8_settlesBy 74 = .ok (.iconst 0, 1) := by decide +kernel
theorem dX8_settlesBy_75 : decode cX8_settlesBy 75 = .ok (.invokevirtual 117, 3) := by decide +kernel
theorem dX8_settlesBy_78 : decode cX8_settlesBy 78 = .ok (.tableswitch 54 1 5 #[34, 39, 42, 44, 49], 34) := by decide +kernel
theorem dX8_settlesBy_112 : decode cX8_settlesBy 112 = .ok (.iload 4, 2) := by decide +kernel
theorem dX8_settlesBy_114 : decode cX8_settlesBy 114 = .ok (.iconst 1, 1) := by decide +kernel
theorem dX8_settlesBy_115 : decode cX8_settlesBy 115 = .ok (.iadd, 1) := by decide +kernel
theorem dX8_settlesBy_116 : decode cX8_settlesBy 116 = .ok (.ireturn, 1) := by decide +kernel
theorem dX8_settlesBy_117 : decode cX8_settlesBy 117 = .ok (.iload 5, 2) := by decide +kernel
theorem dX8_settlesBy_119 : decode cX8_settlesBy 119 = .ok (.ireturn, 1) := by decide +kernel
theorem dX8_settlesBy_120 : decode cX8_settlesBy 120 = .ok (.iconst 0, 1) := by decide +kernel
theorem dX8_settlesBy_121 : decode cX8_settlesBy 121 = .ok (.ireturn, 1) := by decide +kernel
theorem dX8_settlesBy_122 : decode cX8_settlesBy 122 = .ok (.iload 5, 2) := by decide +kernel
theorem dX8_settlesBy_124 : decode cX8_settlesBy 124 = .ok (.iconst 2, 1) := by decide +kernel
theorem dX8_settlesBy_125 : decode cX8_settlesBy 125 = .ok (.idiv, 1) := by decide +kernel
theorem dX8_settlesBy_126 : decode cX8_settlesBy 126 = .ok (.ireturn, 1) := by decide +kernel
theorem dX8_settlesBy_127 : decode cX8_settlesBy 127 = .ok (.iload_n 2, 1) := by decide +kernel
theorem dX8_settlesBy_128 : decode cX8_settlesBy 128 = .ok (.bipush 9, 2) := by decide +kernel
theorem dX8_settlesBy_130 : decode cX8_settlesBy 130 = .ok (.idiv, 1) := by decide +kernel
theorem dX8_settlesBy_131 : decode cX8_settlesBy 131 = .ok (.ireturn, 1) := by decide +kernel
theorem dX8_settlesBy_132 : decode cX8_settlesBy 132 = .ok (.iload 4, 2) := by decide +kernel
theorem dX8_settlesBy_134 : decode cX8_settlesBy 134 = .ok (.ireturn, 1) := by decide +kernel
theorem dX8_settles_0 : decode cX8_settles 0 = .ok (.aload_n 0, 1) := by decide +kernel
theorem dX8_settles_1 : decode cX8_settles 1 = .ok (.iload_n 1, 1) := by decide +kernel
theorem dX8_settles_2 : decode cX8_settles 2 = .ok (.invokevirtual 121, 3) := by decide +kernel
theorem dX8_settles_5 : decode cX8_settles 5 = .ok (.ifCond .eq 22, 3) := by decide +kernel
theorem dX8_settles_8 : decode cX8_settles 8 = .ok (.iload_n 2, 1) := by decide +kernel
theorem dX8_settles_9 : decode cX8_settles 9 = .ok (.iconst 0, 1) := by decide +kernel
theorem dX8_settles_10 : decode cX8_settles 10 = .ok (.bipush 9, 2) := by decide +kernel
theorem dX8_settles_12 : decode cX8_settles 12 = .ok (.invokestatic 92, 3) := by decide +kernel
theorem dX8_settles_15 : decode cX8_settles 15 = .ok (.ifCond .eq 12, 3) := by decide +kernel
theorem dX8_settles_18 : decode cX8_settles 18 = .ok (.aload_n 0, 1) := by decide +kernel
theorem dX8_settles_19 : decode cX8_settles 19 = .ok (.iload_n 1, 1) := by decide +kernel
theorem dX8_settles_20 : decode cX8_settles 20 = .ok (.iload_n 2, 1) := by decide +kernel
theorem dX8_settles_21 : decode cX8_settles 21 = .ok (.invokevirtual 146, 3) := by decide +kernel
theorem dX8_settles_24 : decode cX8_settles 24 = .ok (.goto 5, 3) := by decide +kernel
theorem dX8_settles_27 : decode cX8_settles 27 = .ok (.ldc 111, 2) := by decide +kernel
theorem dX8_settles_29 : decode cX8_settles 29 = .ok (.ireturn, 1) := by decide +kernel
theorem dX8_rule_0 : decode cX8_rule 0 = .ok (.iload_n 1, 1) := by decide +kernel
theorem dX8_rule_1 : decode cX8_rule 1 = .ok (.iconst 0, 1) := by decide +kernel
theorem dX8_rule_2 : decode cX8_rule 2 = .ok (.iconst 1, 1) := by decide +kernel
theorem dX8_rule_3 : decode cX8_rule 3 = .ok (.invokestatic 92, 3) := by decide +kernel
theorem dX8_rule_6 : decode cX8_rule 6 = .ok (.ifCond .eq 37, 3) := by decide +kernel
theorem dX8_rule_9 : decode cX8_rule 9 = .ok (.iload_n 2, 1) := by decide +kernel
theorem dX8_rule_10 : decode cX8_rule 10 = .ok (.bipush 50, 2) := by decide +kernel
theorem dX8_rule_12 : decode cX8_rule 12 = .ok (.iload_n 1, 1) := by decide +kernel
theorem dX8_rule_13 : decode cX8_rule 13 = .ok (.imul, 1) := by decide +kernel
theorem dX8_rule_14 : decode cX8_rule 14 = .ok (.iload_n 1, 1) := by decide +kernel
theorem dX8_rule_15 : decode cX8_rule 15 = .ok (.ifCond .ne 8, 3) := by decide +kernel
theorem dX8_rule_18 : decode cX8_rule 18 = .ok (.bipush 29, 2) := by decide +kernel
theorem dX8_rule_20 : decode cX8_rule 20 = .ok (.goto 6, 3) := by decide +kernel
theorem dX8_rule_23 : decode cX8_rule 23 = .ok (.sipush 200, 3) := by decide +kernel
theorem dX8_rule_26 : decode cX8_rule 26 = .ok (.invokestatic 92, 3) := by decide +kernel
theorem dX8_rule_29 : decode cX8_rule 29 = .ok (.ifCond .eq 14, 3) := by decide +kernel
theorem dX8_rule_32 : decode cX8_rule 32 = .ok (.aload_n 0, 1) := by decide +kernel
theorem dX8_rule_33 : decode cX8_rule 33 = .ok (.iconst 3, 1) := by decide +kernel
theorem dX8_rule_34 : decode cX8_rule 34 = .ok (.iload_n 1, 1) := by decide +kernel
theorem dX8_rule_35 : decode cX8_rule 35 = .ok (.iadd, 1) := by decide +kernel
theorem dX8_rule_36 : decode cX8_rule 36 = .ok (.iload_n 2, 1) := by decide +kernel
theorem dX8_rule_37 : decode cX8_rule 37 = .ok (.invokevirtual 133, 3) := by decide +kernel
theorem dX8_rule_40 : decode cX8_rule 40 = .ok (.goto 5, 3) := by decide +kernel
theorem dX8_rule_43 : decode cX8_rule 43 = .ok (.ldc 111, 2) := by decide +kernel
theorem dX8_rule_45 : decode cX8_rule 45 = .ok (.ireturn, 1) := by decide +kernel
theorem dX8_draw_0 : decode cX8_draw 0 = .ok (.aload_n 0, 1) := by decide +kernel
theorem dX8_draw_1 : decode cX8_draw 1 = .ok (.getfield 9, 3) := by decide +kernel
theorem dX8_draw_4 : decode cX8_draw 4 = .ok (.iconst 0, 1) := by decide +kernel
theorem dX8_draw_5 : decode cX8_draw 5 = .ok (.aload_n 0, 1) := by decide +kernel
theorem dX8_draw_6 : decode cX8_draw 6 = .ok (.getfield 9, 3) := by decide +kernel
theorem dX8_draw_9 : decode cX8_draw 9 = .ok (.iconst 0, 1) := by decide +kernel
theorem dX8_draw_10 : decode cX8_draw 10 = .ok (.iaload, 1) := by decide +kernel
theorem dX8_draw_11 : decode cX8_draw 11 = .ok (.ldc 149, 2) := by decide +kernel
theorem dX8_draw_13 : decode cX8_draw 13 = .ok (.imul, 1) := by decide +kernel
theorem dX8_draw_14 : decode cX8_draw 14 = .ok (.sipush 12345, 3) := by decide +kernel
theorem dX8_draw_17 : decode cX8_draw 17 = .ok (.iadd, 1) := by decide +kernel
theorem dX8_draw_18 : decode cX8_draw 18 = .ok (.iastore, 1) := by decide +kernel
theorem dX8_draw_19 : decode cX8_draw 19 = .ok (.aload_n 0, 1) := by decide +kernel
theorem dX8_draw_20 : decode cX8_draw 20 = .ok (.getfield 9, 3) := by decide +kernel
theorem dX8_draw_23 : decode cX8_draw 23 = .ok (.iconst 0, 1) := by decide +kernel
theorem dX8_draw_24 : decode cX8_draw 24 = .ok (.iaload, 1) := by decide +kernel
theorem dX8_draw_25 : decode cX8_draw 25 = .ok (.bipush 8, 2) := by decide +kernel
theorem dX8_draw_27 : decode cX8_draw 27 = .ok (.iushr, 1) := by decide +kernel
theorem dX8_draw_28 : decode cX8_draw 28 = .ok (.ireturn, 1) := by decide +kernel
theorem dX8_deal_0 : decode cX8_deal 0 = .ok (.iload_n 1, 1) := by decide +kernel
theorem dX8_deal_1 : decode cX8_deal 1 = .ok (.iconst 1, 1) := by decide +kernel
theorem dX8_deal_2 : decode cX8_deal 2 = .ok (.bipush 10, 2) := by decide +kernel
theorem dX8_deal_4 : decode cX8_deal 4 = .ok (.invokestatic 92, 3) := by decide +kernel
theorem dX8_deal_7 : decode cX8_deal 7 = .ok (.ifCond .ne 6, 3) := by decide +kernel
theorem dX8_deal_10 : decode cX8_deal 10 = .ok (.ldc 111, 2) := by decide +kernel
theorem dX8_deal_12 : decode cX8_deal 12 = .ok (.ireturn, 1) := by decide +kernel
theorem dX8_deal_13 : decode cX8_deal 13 = .ok (.iconst 0, 1) := by decide +kernel
theorem dX8_deal_14 : decode cX8_deal 14 = .ok (.istore_n 2, 1) := by decide +kernel
theorem dX8_deal_15 : decode cX8_deal 15 = .ok (.iload_n 2, 1) := by decide +kernel
theorem dX8_deal_16 : decode cX8_deal 16 = .ok (.iload_n 1, 1) := by decide +kernel
theorem dX8_deal_17 : decode cX8_deal 17 = .ok (.if_icmp .ge 66, 3) := by decide +kernel
theorem dX8_deal_20 : decode cX8_deal 20 = .ok (.aload_n 0, 1) := by decide +kernel
theorem dX8_deal_21 : decode cX8_deal 21 = .ok (.getfield 9, 3) := by decide +kernel
theorem dX8_deal_24 : decode cX8_deal 24 = .ok (.iconst 1, 1) := by decide +kernel
theorem dX8_deal_25 : decode cX8_deal 25 = .ok (.iaload, 1) := by decide +kernel
theorem dX8_deal_26 : decode cX8_deal 26 = .ok (.bipush 10, 2) := by decide +kernel
theorem dX8_deal_28 : decode cX8_deal 28 = .ok (.if_icmp .ge 55, 3) := by decide +kernel
theorem dX8_deal_31 : decode cX8_deal 31 = .ok (.aload_n 0, 1) := by decide +kernel
theorem dX8_deal_32 : decode cX8_deal 32 = .ok (.invokevirtual 150, 3) := by decide +kernel
theorem dX8_deal_35 : decode cX8_deal 35 = .ok (.bipush 6, 2) := by decide +kernel
theorem dX8_deal_37 : decode cX8_deal 37 = .ok (.irem, 1) := by decide +kernel
theorem dX8_deal_38 : decode cX8_deal 38 = .ok (.istore_n 3, 1) := by decide +kernel
theorem dX8_deal_39 : decode cX8_deal 39 = .ok (.aload_n 0, 1) := by decide +kernel
theorem dX8_deal_40 : decode cX8_deal 40 = .ok (.invokevirtual 150, 3) := by decide +kernel
theorem dX8_deal_43 : decode cX8_deal 43 = .ok (.bipush 30, 2) := by decide +kernel
theorem dX8_deal_45 : decode cX8_deal 45 = .ok (.irem, 1) := by decide +kernel
theorem dX8_deal_46 : decode cX8_deal 46 = .ok (.istore 4, 2) := by decide +kernel
theorem dX8_deal_48 : decode cX8_deal 48 = .ok (.iconst 1, 1) := by decide +kernel
theorem dX8_deal_49 : decode cX8_deal 49 = .ok (.aload_n 0, 1) := by decide +kernel
theorem dX8_deal_50 : decode cX8_deal 50 = .ok (.invokevirtual 150, 3) := by decide +kernel
theorem dX8_deal_53 : decode cX8_deal 53 = .ok (.bipush 60, 2) := by decide +kernel
theorem dX8_deal_55 : decode cX8_deal 55 = .ok (.irem, 1) := by decide +kernel
theorem dX8_deal_56 : decode cX8_deal 56 = .ok (.iadd, 1) := by decide +kernel
theorem dX8_deal_57 : decode cX8_deal 57 = .ok (.istore 5, 2) := by decide +kernel
theorem dX8_deal_59 : decode cX8_deal 59 = .ok (.aload_n 0, 1) := by decide +kernel
theorem dX8_deal_60 : decode cX8_deal 60 = .ok (.iload_n 3, 1) := by decide +kernel
theorem dX8_deal_61 : decode cX8_deal 61 = .ok (.iload 4, 2) := by decide +kernel
theorem dX8_deal_63 : decode cX8_deal 63 = .ok (.iload 5, 2) := by decide +kernel
theorem dX8_deal_65 : decode cX8_deal 65 = .ok (.aload_n 0, 1) := by decide +kernel
theorem dX8_deal_66 : decode cX8_deal 66 = .ok (.invokevirtual 150, 3) := by decide +kernel
theorem dX8_deal_69 : decode cX8_deal 69 = .ok (.bipush 8, 2) := by decide +kernel
theorem dX8_deal_71 : decode cX8_deal 71 = .ok (.irem, 1) := by decide +kernel
theorem dX8_deal_72 : decode cX8_deal 72 = .ok (.invokevirtual 113, 3) := by decide +kernel
theorem dX8_deal_75 : decode cX8_deal 75 = .ok (.istore 6, 2) := by decide +kernel
theorem dX8_deal_77 : decode cX8_deal 77 = .ok (.iinc 2 1, 3) := by decide +kernel
theorem dX8_deal_80 : decode cX8_deal 80 = .ok (.goto (-65), 3) := by decide +kernel
theorem dX8_deal_83 : decode cX8_deal 83 = .ok (.iload_n 2, 1) := by decide +kernel
theorem dX8_deal_84 : decode cX8_deal 84 = .ok (.ireturn, 1) := by decide +kernel
theorem dX8_seed_0 : decode cX8_seed 0 = .ok (.aload_n 0, 1) := by decide +kernel
theorem dX8_seed_1 : decode cX8_seed 1 = .ok (.iconst 0, 1) := by decide +kernel
theorem dX8_seed_2 : decode cX8_seed 2 = .ok (.iload_n 1, 1) := by decide +kernel
theorem dX8_seed_3 : decode cX8_seed 3 = .ok (.invokevirtual 133, 3) := by decide +kernel
theorem dX8_seed_6 : decode cX8_seed 6 = .ok (.ireturn, 1) := by decide +kernel
theorem dX8_earthOf_0 : decode cX8_earthOf 0 = .ok (.iload_n 1, 1) := by decide +kernel
theorem dX8_earthOf_1 : decode cX8_earthOf 1 = .ok (.aload_n 0, 1) := by decide +kernel
theorem dX8_earthOf_2 : decode cX8_earthOf 2 = .ok (.getfield 9, 3) := by decide +kernel
theorem dX8_earthOf_5 : decode cX8_earthOf 5 = .ok (.iconst 4, 1) := by decide +kernel
theorem dX8_earthOf_6 : decode cX8_earthOf 6 = .ok (.iaload, 1) := by decide +kernel
theorem dX8_earthOf_7 : decode cX8_earthOf 7 = .ok (.imul, 1) := by decide +kernel
theorem dX8_earthOf_8 : decode cX8_earthOf 8 = .ok (.bipush 100, 2) := by decide +kernel
theorem dX8_earthOf_10 : decode cX8_earthOf 10 = .ok (.idiv, 1) := by decide +kernel
theorem dX8_earthOf_11 : decode cX8_earthOf 11 = .ok (.ireturn, 1) := by decide +kernel
theorem dX8_apart_0 : decode cX8_apart 0 = .ok (.aload_n 0, 1) := by decide +kernel
theorem dX8_apart_1 : decode cX8_apart 1 = .ok (.iload_n 1, 1) := by decide +kernel
theorem dX8_apart_2 : decode cX8_apart 2 = .ok (.iconst 1, 1) := by decide +kernel
theorem dX8_apart_3 : decode cX8_apart 3 = .ok (.invokevirtual 117, 3) := by decide +kernel
theorem dX8_apart_6 : decode cX8_apart 6 = .ok (.iload_n 2, 1) := by decide +kernel
theorem dX8_apart_7 : decode cX8_apart 7 = .ok (.isub, 1) := by decide +kernel
theorem dX8_apart_8 : decode cX8_apart 8 = .ok (.istore_n 3, 1) := by decide +kernel
theorem dX8_apart_9 : decode cX8_apart 9 = .ok (.iload_n 3, 1) := by decide +kernel
theorem dX8_apart_10 : decode cX8_apart 10 = .ok (.ifCond .ge 8, 3) := by decide +kernel
theorem dX8_apart_13 : decode cX8_apart 13 = .ok (.iload_n 3, 1) := by decide +kernel
theorem dX8_apart_14 : decode cX8_apart 14 = .ok (.ineg, 1) := by decide +kernel
theorem dX8_apart_15 : decode cX8_apart 15 = .ok (.goto 4, 3) := by decide +kernel
theorem dX8_apart_18 : decode cX8_apart 18 = .ok (.iload_n 3, 1) := by decide +kernel
theorem dX8_apart_19 : decode cX8_apart 19 = .ok (.ireturn, 1) := by decide +kernel
theorem dX8_lawOf_0 : decode cX8_lawOf 0 = .ok (.aload_n 0, 1) := by decide +kernel
theorem dX8_lawOf_1 : decode cX8_lawOf 1 = .ok (.iconst 0, 1) := by decide +kernel
theorem dX8_lawOf_2 : decode cX8_lawOf 2 = .ok (.invokevirtual 136, 3) := by decide +kernel
theorem dX8_lawOf_5 : decode cX8_lawOf 5 = .ok (.istore_n 2, 1) := by decide +kernel
theorem dX8_lawOf_6 : decode cX8_lawOf 6 = .ok (.aload_n 0, 1) := by decide +kernel
theorem dX8_lawOf_7 : decode cX8_lawOf 7 = .ok (.getfield 61, 3) := by decide +kernel
theorem dX8_lawOf_10 : decode cX8_lawOf 10 = .ok (.iconst 0, 1) := by decide +kernel
theorem dX8_lawOf_11 : decode cX8_lawOf 11 = .ok (.aload_n 0, 1) := by decide +kernel
theorem dX8_lawOf_12 : decode cX8_lawOf 12 = .ok (.iload_n 1, 1) := by decide +kernel
theorem dX8_lawOf_13 : decode cX8_lawOf 13 = .ok (.iconst 2, 1) := by decide +kernel
theorem dX8_lawOf_14 : decode cX8_lawOf 14 = .ok (.invokevirtual 117, 3) := by decide +kernel
theorem dX8_lawOf_17 : decode cX8_lawOf 17 = .ok (.iastore, 1) := by decide +kernel
theorem dX8_lawOf_18 : decode cX8_lawOf 18 = .ok (.aload_n 0, 1) := by decide +kernel
theorem dX8_lawOf_19 : decode cX8_lawOf 19 = .ok (.getfield 61, 3) := by decide +kernel
theorem dX8_lawOf_22 : decode cX8_lawOf 22 = .ok (.iconst 1, 1) := by decide +kernel
theorem dX8_lawOf_23 : decode cX8_lawOf 23 = .ok (.aload_n 0, 1) := by decide +kernel
theorem dX8_lawOf_24 : decode cX8_lawOf 24 = .ok (.iload_n 1, 1) := by decide +kernel
theorem dX8_lawOf_25 : decode cX8_lawOf 25 = .ok (.iconst 3, 1) := by decide +kernel
theorem dX8_lawOf_26 : decode cX8_lawOf 26 = .ok (.invokevirtual 117, 3) := by decide +kernel
theorem dX8_lawOf_29 : decode cX8_lawOf 29 = .ok (.iastore, 1) := by decide +kernel
theorem dX8_lawOf_30 : decode cX8_lawOf 30 = .ok (.iload_n 2, 1) := by decide +kernel
theorem dX8_lawOf_31 : decode cX8_lawOf 31 = .ok (.ifCond .ge 7, 3) := by decide +kernel
theorem dX8_lawOf_34 : decode cX8_lawOf 34 = .ok (.iconst 3, 1) := by decide +kernel
theorem dX8_lawOf_35 : decode cX8_lawOf 35 = .ok (.goto 14, 3) := by decide +kernel
theorem dX8_lawOf_38 : decode cX8_lawOf 38 = .ok (.aload_n 0, 1) := by decide +kernel
theorem dX8_lawOf_39 : decode cX8_lawOf 39 = .ok (.iload_n 2, 1) := by decide +kernel
theorem dX8_lawOf_40 : decode cX8_lawOf 40 = .ok (.invokevirtual 139, 3) := by decide +kernel
theorem dX8_lawOf_43 : decode cX8_lawOf 43 = .ok (.iconst 0, 1) := by decide +kernel
theorem dX8_lawOf_44 : decode cX8_lawOf 44 = .ok (.bipush 99, 2) := by decide +kernel
theorem dX8_lawOf_46 : decode cX8_lawOf 46 = .ok (.invokestatic 142, 3) := by decide +kernel
theorem dX8_lawOf_49 : decode cX8_lawOf 49 = .ok (.ireturn, 1) := by decide +kernel
theorem dX8_doesTake_0 : decode cX8_doesTake 0 = .ok (.iload_n 2, 1) := by decide +kernel
theorem dX8_doesTake_1 : decode cX8_doesTake 1 = .ok (.aload_n 0, 1) := by decide +kernel
theorem dX8_doesTake_2 : decode cX8_doesTake 2 = .ok (.iload_n 1, 1) := by decide +kernel
theorem dX8_doesTake_3 : decode cX8_doesTake 3 = .ok (.iconst 2, 1) := by decide +kernel
theorem dX8_doesTake_4 : decode cX8_doesTake 4 = .ok (.invokevirtual 117, 3) := by decide +kernel
theorem dX8_doesTake_7 : decode cX8_doesTake 7 = .ok (.if_icmp .gt 7, 3) := by decide +kernel
theorem dX8_doesTake_10 : decode cX8_doesTake 10 = .ok (.iconst 1, 1) := by decide +kernel
theorem dX8_doesTake_11 : decode cX8_doesTake 11 = .ok (.goto 4, 3) := by decide +kernel
theorem dX8_doesTake_14 : decode cX8_doesTake 14 = .ok (.iconst 0, 1) := by decide +kernel
theorem dX8_doesTake_15 : decode cX8_doesTake 15 = .ok (.istore 4, 2) := by decide +kernel
theorem dX8_doesTake_17 : decode cX8_doesTake 17 = .ok (.iload 4, 2) := by decide +kernel
theorem dX8_doesTake_19 : decode cX8_doesTake 19 = .ok (.ifCond .eq 22, 3) := by decide +kernel
theorem dX8_doesTake_22 : decode cX8_doesTake 22 = .ok (.aload_n 0, 1) := by decide +kernel
theorem dX8_doesTake_23 : decode cX8_doesTake 23 = .ok (.iload_n 1, 1) := by decide +kernel
theorem dX8_doesTake_24 : decode cX8_doesTake 24 = .ok (.iload_n 3, 1) := by decide +kernel
theorem dX8_doesTake_25 : decode cX8_doesTake 25 = .ok (.invokevirtual 154, 3) := by decide +kernel
theorem dX8_doesTake_28 : decode cX8_doesTake 28 = .ok (.aload_n 0, 1) := by decide +kernel
theorem dX8_doesTake_29 : decode cX8_doesTake 29 = .ok (.getfield 9, 3) := by decide +kernel
theorem dX8_doesTake_32 : decode cX8_doesTake 32 = .ok (.iconst 3, 1) := by decide +kernel
theorem dX8_doesTake_33 : decode cX8_doesTake 33 = .ok (.iaload, 1) := by decide +kernel
theorem dX8_doesTake_34 : decode cX8_doesTake 34 = .ok (.if_icmp .gt 7, 3) := by decide +kernel
theorem dX8_doesTake_37 : decode cX8_doesTake 37 = .ok (.iconst 1, 1) := by decide +kernel
theorem dX8_doesTake_38 : decode cX8_doesTake 38 = .ok (.goto 4, 3) := by decide +kernel
theorem dX8_doesTake_41 : decode cX8_doesTake 41 = .ok (.iconst 0, 1) := by decide +kernel
theorem dX8_doesTake_42 : decode cX8_doesTake 42 = .ok (.istore 5, 2) := by decide +kernel
theorem dX8_doesTake_44 : decode cX8_doesTake 44 = .ok (.aload_n 0, 1) := by decide +kernel
theorem dX8_doesTake_45 : decode cX8_doesTake 45 = .ok (.iload_n 1, 1) := by decide +kernel
theorem dX8_doesTake_46 : decode cX8_doesTake 46 = .ok (.iconst 0, 1) := by decide +kernel
theorem dX8_doesTake_47 : decode cX8_doesTake 47 = .ok (.invokevirtual 117, 3) := by decide +kernel
theorem dX8_doesTake_50 : decode cX8_doesTake 50 = .ok (.tableswitch 145 1 5 #[34, 59, 76, 111, 142], 34) := by decide +kernel
theorem dX8_doesTake_84 : decode cX8_doesTake 84 = .ok (.iload 5, 2) := by decide +kernel
theorem dX8_doesTake_86 : decode cX8_doesTake 86 = .ok (.ifCond .eq 21, 3) := by decide +kernel
theorem dX8_doesTake_89 : decode cX8_doesTake 89 = .ok (.aload_n 0, 1) := by decide +kernel
theorem dX8_doesTake_90 : decode cX8_doesTake 90 = .ok (.iload_n 1, 1) := by decide +kernel
theorem dX8_doesTake_91 : decode cX8_doesTake 91 = .ok (.iconst 4, 1) := by decide +kernel
theorem dX8_doesTake_92 : decode cX8_doesTake 92 = .ok (.invokevirtual 117, 3) := by decide +kernel
theorem dX8_doesTake_95 : decode cX8_doesTake 95 = .ok (.aload_n 0, 1) := by decide +kernel
theorem dX8_doesTake_96 : decode cX8_doesTake 96 = .ok (.iload_n 1, 1) := by decide +kernel
theorem dX8_doesTake_97 : decode cX8_doesTake 97 = .ok (.invokevirtual 157, 3) := by decide +kernel
theorem dX8_doesTake_100 : decode cX8_doesTake 100 = .ok (.if_icmp .lt 7, 3) := by decide +kernel
theorem dX8_doesTake_103 : decode cX8_doesTake 103 = .ok (.iconst 1, 1) := by decide +kernel
theorem dX8_doesTake_104 : decode cX8_doesTake 104 = .ok (.goto 4, 3) := by decide +kernel
theorem dX8_doesTake_107 : decode cX8_doesTake 107 = .ok (.iconst 0, 1) := by decide +kernel
theorem dX8_doesTake_108 : decode cX8_doesTake 108 = .ok (.ireturn, 1) := by decide +kernel
theorem dX8_doesTake_109 : decode cX8_doesTake 109 = .ok (.iload 5, 2) := by decide +kernel
theorem dX8_doesTake_111 : decode cX8_doesTake 111 = .ok (.ifCond .eq 13, 3) := by decide +kernel
theorem dX8_doesTake_114 : decode cX8_doesTake 114 = .ok (.iload_n 2, 1) := by decide +kernel
theorem dX8_doesTake_115 : decode cX8_doesTake 115 = .ok (.iconst 2, 1) := by decide +kernel
theorem dX8_doesTake_116 : decode cX8_doesTake 116 = .ok (.irem, 1) := by decide +kernel
theorem dX8_doesTake_117 : decode cX8_doesTake 117 = .ok (.ifCond .ne 7, 3) := by decide +kernel
theorem dX8_doesTake_120 : decode cX8_doesTake 120 = .ok (.iconst 1, 1) := by decide +kernel
theorem dX8_doesTake_121 : decode cX8_doesTake 121 = .ok (.goto 4, 3) := by decide +kernel
theorem dX8_doesTake_124 : decode cX8_doesTake 124 = .ok (.iconst 0, 1) := by decide +kernel
theorem dX8_doesTake_125 : decode cX8_doesTake 125 = .ok (.ireturn, 1) := by decide +kernel
theorem dX8_doesTake_126 : decode cX8_doesTake 126 = .ok (.iload 5, 2) := by decide +kernel
theorem dX8_doesTake_128 : decode cX8_doesTake 128 = .ok (.ifCond .eq 31, 3) := by decide +kernel
theorem dX8_doesTake_131 : decode cX8_doesTake 131 = .ok (.aload_n 0, 1) := by decide +kernel
theorem dX8_doesTake_132 : decode cX8_doesTake 132 = .ok (.iload_n 1, 1) := by decide +kernel
theorem dX8_doesTake_133 : decode cX8_doesTake 133 = .ok (.iconst 4, 1) := by decide +kernel
theorem dX8_doesTake_134 : decode cX8_doesTake 134 = .ok (.invokevirtual 117, 3) := by decide +kernel
theorem dX8_doesTake_137 : decode cX8_doesTake 137 = .ok (.aload_n 0, 1) := by decide +kernel
theorem dX8_doesTake_138 : decode cX8_doesTake 138 = .ok (.iload_n 1, 1) := by decide +kernel
theorem dX8_doesTake_139 : decode cX8_doesTake 139 = .ok (.invokevirtual 157, 3) := by decide +kernel
theorem dX8_doesTake_142 : decode cX8_doesTake 142 = .ok (.if_icmp .lt 17, 3) := by decide +kernel
theorem dX8_doesTake_145 : decode cX8_doesTake 145 = .ok (.iload_n 2, 1) := by decide +kernel
theorem dX8_doesTake_146 : decode cX8_doesTake 146 = .ok (.aload_n 0, 1) := by decide +kernel
theorem dX8_doesTake_147 : decode cX8_doesTake 147 = .ok (.iload_n 1, 1) := by decide +kernel
theorem dX8_doesTake_148 : decode cX8_doesTake 148 = .ok (.iconst 2, 1) := by decide +kernel
theorem dX8_doesTake_149 : decode cX8_doesTake 149 = .ok (.invokevirtual 117, 3) := by decide +kernel
theorem dX8_doesTake_152 : decode cX8_doesTake 152 = .ok (.if_icmp .ne 7, 3) := by decide +kernel
theorem dX8_doesTake_155 : decode cX8_doesTake 155 = .ok (.iconst 1, 1) := by decide +kernel
theorem dX8_doesTake_156 : decode cX8_doesTake 156 = .ok (.goto 4, 3) := by decide +kernel
theorem dX8_doesTake_159 : decode cX8_doesTake 159 = .ok (.iconst 0, 1) := by decide +kernel
theorem dX8_doesTake_160 : decode cX8_doesTake 160 = .ok (.ireturn, 1) := by decide +kernel
theorem dX8_doesTake_161 : decode cX8_doesTake 161 = .ok (.iload 5, 2) := by decide +kernel
theorem dX8_doesTake_163 : decode cX8_doesTake 163 = .ok (.ifCond .eq 9, 3) := by decide +kernel
theorem dX8_doesTake_166 : decode cX8_doesTake 166 = .ok (.iload_n 2, 1) := by decide +kernel
theorem dX8_doesTake_167 : decode cX8_doesTake 167 = .ok (.iconst 2, 1) := by decide +kernel
theorem dX8_doesTake_168 : decode cX8_doesTake 168 = .ok (.irem, 1) := by decide +kernel
theorem dX8_doesTake_169 : decode cX8_doesTake 169 = .ok (.ifCond .eq 17, 3) := by decide +kernel
theorem dX8_doesTake_172 : decode cX8_doesTake 172 = .ok (.iload 4, 2) := by decide +kernel
theorem dX8_doesTake_174 : decode cX8_doesTake 174 = .ok (.ifCond .eq 16, 3) := by decide +kernel
theorem dX8_doesTake_177 : decode cX8_doesTake 177 = .ok (.aload_n 0, 1) := by decide +kernel
theorem dX8_doesTake_178 : decode cX8_doesTake 178 = .ok (.iload_n 1, 1) := by decide +kernel
theorem dX8_doesTake_179 : decode cX8_doesTake 179 = .ok (.iload_n 3, 1) := by decide +kernel
theorem dX8_doesTake_180 : decode cX8_doesTake 180 = .ok (.invokevirtual 154, 3) := by decide +kernel
theorem dX8_doesTake_183 : decode cX8_doesTake 183 = .ok (.ifCond .ne 7, 3) := by decide +kernel
theorem dX8_doesTake_186 : decode cX8_doesTake 186 = .ok (.iconst 1, 1) := by decide +kernel
theorem dX8_doesTake_187 : decode cX8_doesTake 187 = .ok (.goto 4, 3) := by decide +kernel
theorem dX8_doesTake_190 : decode cX8_doesTake 190 = .ok (.iconst 0, 1) := by decide +kernel
theorem dX8_doesTake_191 : decode cX8_doesTake 191 = .ok (.ireturn, 1) := by decide +kernel
theorem dX8_doesTake_192 : decode cX8_doesTake 192 = .ok (.iload 4, 2) := by decide +kernel
theorem dX8_doesTake_194 : decode cX8_doesTake 194 = .ok (.ireturn, 1) := by decide +kernel
theorem dX8_doesTake_195 : decode cX8_doesTake 195 = .ok (.iload 5, 2) := by decide +kernel
theorem dX8_doesTake_197 : decode cX8_doesTake 197 = .ok (.ireturn, 1) := by decide +kernel
theorem dX8_takes_0 : decode cX8_takes 0 = .ok (.iload_n 1, 1) := by decide +kernel
theorem dX8_takes_1 : decode cX8_takes 1 = .ok (.invokestatic 104, 3) := by decide +kernel
theorem dX8_takes_4 : decode cX8_takes 4 = .ok (.ifCond .eq 10, 3) := by decide +kernel
theorem dX8_takes_7 : decode cX8_takes 7 = .ok (.iload_n 2, 1) := by decide +kernel
theorem dX8_takes_8 : decode cX8_takes 8 = .ok (.invokestatic 160, 3) := by decide +kernel
theorem dX8_takes_11 : decode cX8_takes 11 = .ok (.ifCond .ne 6, 3) := by decide +kernel
theorem dX8_takes_14 : decode cX8_takes 14 = .ok (.ldc 111, 2) := by decide +kernel
theorem dX8_takes_16 : decode cX8_takes 16 = .ok (.ireturn, 1) := by decide +kernel
theorem dX8_takes_17 : decode cX8_takes 17 = .ok (.iconst 0, 1) := by decide +kernel
theorem dX8_takes_18 : decode cX8_takes 18 = .ok (.istore_n 3, 1) := by decide +kernel
theorem dX8_takes_19 : decode cX8_takes 19 = .ok (.iconst 0, 1) := by decide +kernel
theorem dX8_takes_20 : decode cX8_takes 20 = .ok (.istore 4, 2) := by decide +kernel
theorem dX8_takes_22 : decode cX8_takes 22 = .ok (.iload 4, 2) := by decide +kernel
theorem dX8_takes_24 : decode cX8_takes 24 = .ok (.aload_n 0, 1) := by decide +kernel
theorem dX8_takes_25 : decode cX8_takes 25 = .ok (.getfield 9, 3) := by decide +kernel
theorem dX8_takes_28 : decode cX8_takes 28 = .ok (.iconst 1, 1) := by decide +kernel
theorem dX8_takes_29 : decode cX8_takes 29 = .ok (.iaload, 1) := by decide +kernel
theorem dX8_takes_30 : decode cX8_takes 30 = .ok (.if_icmp .ge 35, 3) := by decide +kernel
theorem dX8_takes_33 : decode cX8_takes 33 = .ok (.iload_n 3, 1) := by decide +kernel
theorem dX8_takes_34 : decode cX8_takes 34 = .ok (.aload_n 0, 1) := by decide +kernel
theorem dX8_takes_35 : decode cX8_takes 35 = .ok (.iload 4, 2) := by decide +kernel
theorem dX8_takes_37 : decode cX8_takes 37 = .ok (.aload_n 0, 1) := by decide +kernel
theorem dX8_takes_38 : decode cX8_takes 38 = .ok (.iload_n 2, 1) := by decide +kernel
theorem dX8_takes_39 : decode cX8_takes 39 = .ok (.invokevirtual 163, 3) := by decide +kernel
theorem dX8_takes_42 : decode cX8_takes 42 = .ok (.iload_n 1, 1) := by decide +kernel
theorem dX8_takes_43 : decode cX8_takes 43 = .ok (.invokevirtual 166, 3) := by decide +kernel
theorem dX8_takes_46 : decode cX8_takes 46 = .ok (.ifCond .eq 10, 3) := by decide +kernel
theorem dX8_takes_49 : decode cX8_takes 49 = .ok (.iconst 1, 1) := by decide +kernel
theorem dX8_takes_50 : decode cX8_takes 50 = .ok (.iload 4, 2) := by decide +kernel
theorem dX8_takes_52 : decode cX8_takes 52 = .ok (.ishl, 1) := by decide +kernel
theorem dX8_takes_53 : decode cX8_takes 53 = .ok (.goto 4, 3) := by decide +kernel
theorem dX8_takes_56 : decode cX8_takes 56 = .ok (.iconst 0, 1) := by decide +kernel
theorem dX8_takes_57 : decode cX8_takes 57 = .ok (.ior, 1) := by decide +kernel
theorem dX8_takes_58 : decode cX8_takes 58 = .ok (.istore_n 3, 1) := by decide +kernel
theorem dX8_takes_59 : decode cX8_takes 59 = .ok (.iinc 4 1, 3) := by decide +kernel
theorem dX8_takes_62 : decode cX8_takes 62 = .ok (.goto (-40), 3) := by decide +kernel
theorem dX8_takes_65 : decode cX8_takes 65 = .ok (.iload_n 3, 1) := by decide +kernel
theorem dX8_takes_66 : decode cX8_takes 66 = .ok (.ireturn, 1) := by decide +kernel
theorem dX8_dig_0 : decode cX8_dig 0 = .ok (.iload_n 1, 1) := by decide +kernel
theorem dX8_dig_1 : decode cX8_dig 1 = .ok (.invokestatic 104, 3) := by decide +kernel
theorem dX8_dig_4 : decode cX8_dig 4 = .ok (.ifCond .eq 26, 3) := by decide +kernel
theorem dX8_dig_7 : decode cX8_dig 7 = .ok (.iload_n 2, 1) := by decide +kernel
theorem dX8_dig_8 : decode cX8_dig 8 = .ok (.invokestatic 160, 3) := by decide +kernel
theorem dX8_dig_11 : decode cX8_dig 11 = .ok (.ifCond .eq 19, 3) := by decide +kernel
theorem dX8_dig_14 : decode cX8_dig 14 = .ok (.aload_n 0, 1) := by decide +kernel
theorem dX8_dig_15 : decode cX8_dig 15 = .ok (.iload_n 3, 1) := by decide +kernel
theorem dX8_dig_16 : decode cX8_dig 16 = .ok (.invokevirtual 121, 3) := by decide +kernel
theorem dX8_dig_19 : decode cX8_dig 19 = .ok (.ifCond .eq 11, 3) := by decide +kernel
theorem dX8_dig_22 : decode cX8_dig 22 = .ok (.iload 4, 2) := by decide +kernel
theorem dX8_dig_24 : decode cX8_dig 24 = .ok (.invokestatic 108, 3) := by decide +kernel
theorem dX8_dig_27 : decode cX8_dig 27 = .ok (.ifCond .ne 6, 3) := by decide +kernel
theorem dX8_dig_30 : decode cX8_dig 30 = .ok (.ldc 111, 2) := by decide +kernel
theorem dX8_dig_32 : decode cX8_dig 32 = .ok (.ireturn, 1) := by decide +kernel
theorem dX8_dig_33 : decode cX8_dig 33 = .ok (.aload_n 0, 1) := by decide +kernel
theorem dX8_dig_34 : decode cX8_dig 34 = .ok (.iload_n 2, 1) := by decide +kernel
theorem dX8_dig_35 : decode cX8_dig 35 = .ok (.invokevirtual 163, 3) := by decide +kernel
theorem dX8_dig_38 : decode cX8_dig 38 = .ok (.istore 5, 2) := by decide +kernel
theorem dX8_dig_40 : decode cX8_dig 40 = .ok (.aload_n 0, 1) := by decide +kernel
theorem dX8_dig_41 : decode cX8_dig 41 = .ok (.iload_n 3, 1) := by decide +kernel
theorem dX8_dig_42 : decode cX8_dig 42 = .ok (.iload 5, 2) := by decide +kernel
theorem dX8_dig_44 : decode cX8_dig 44 = .ok (.iload_n 1, 1) := by decide +kernel
theorem dX8_dig_45 : decode cX8_dig 45 = .ok (.invokevirtual 166, 3) := by decide +kernel
theorem dX8_dig_48 : decode cX8_dig 48 = .ok (.ifCond .ne 6, 3) := by decide +kernel
theorem dX8_dig_51 : decode cX8_dig 51 = .ok (.ldc 169, 2) := by decide +kernel
theorem dX8_dig_53 : decode cX8_dig 53 = .ok (.ireturn, 1) := by decide +kernel
theorem dX8_dig_54 : decode cX8_dig 54 = .ok (.iconst 0, 1) := by decide +kernel
theorem dX8_dig_55 : decode cX8_dig 55 = .ok (.istore 6, 2) := by decide +kernel
theorem dX8_dig_57 : decode cX8_dig 57 = .ok (.iload 6, 2) := by decide +kernel
theorem dX8_dig_59 : decode cX8_dig 59 = .ok (.aload_n 0, 1) := by decide +kernel
theorem dX8_dig_60 : decode cX8_dig 60 = .ok (.getfield 9, 3) := by decide +kernel
theorem dX8_dig_63 : decode cX8_dig 63 = .ok (.iconst 1, 1) := by decide +kernel
theorem dX8_dig_64 : decode cX8_dig 64 = .ok (.iaload, 1) := by decide +kernel
theorem dX8_dig_65 : decode cX8_dig 65 = .ok (.if_icmp .ge 43, 3) := by decide +kernel
theorem dX8_dig_68 : decode cX8_dig 68 = .ok (.aload_n 0, 1) := by decide +kernel
theorem dX8_dig_69 : decode cX8_dig 69 = .ok (.getfield 9, 3) := by decide +kernel
theorem dX8_dig_72 : decode cX8_dig 72 = .ok (.iconst 1, 1) := by decide +kernel
theorem dX8_dig_73 : decode cX8_dig 73 = .ok (.iaload, 1) := by decide +kernel
theorem dX8_dig_74 : decode cX8_dig 74 = .ok (.bipush 10, 2) := by decide +kernel
theorem dX8_dig_76 : decode cX8_dig 76 = .ok (.if_icmp .lt 26, 3) := by decide +kernel
theorem dX8_dig_79 : decode cX8_dig 79 = .ok (.aload_n 0, 1) := by decide +kernel
theorem dX8_dig_80 : decode cX8_dig 80 = .ok (.iload 6, 2) := by decide +kernel
theorem dX8_dig_82 : decode cX8_dig 82 = .ok (.iconst 2, 1) := by decide +kernel
theorem dX8_dig_83 : decode cX8_dig 83 = .ok (.invokevirtual 117, 3) := by decide +kernel
theorem dX8_dig_86 : decode cX8_dig 86 = .ok (.iload 6, 2) := by decide +kernel
theorem dX8_dig_88 : decode cX8_dig 88 = .ok (.iload_n 3, 1) := by decide +kernel
theorem dX8_dig_89 : decode cX8_dig 89 = .ok (.if_icmp .ne 8, 3) := by decide +kernel
theorem dX8_dig_92 : decode cX8_dig 92 = .ok (.iload 5, 2) := by decide +kernel
theorem dX8_dig_94 : decode cX8_dig 94 = .ok (.goto 4, 3) := by decide +kernel
theorem dX8_dig_97 : decode cX8_dig 97 = .ok (.iconst 0, 1) := by decide +kernel
theorem dX8_dig_98 : decode cX8_dig 98 = .ok (.isub, 1) := by decide +kernel
theorem dX8_dig_99 : decode cX8_dig 99 = .ok (.ifCond .le 9, 3) := by decide +kernel
theorem dX8_dig_102 : decode cX8_dig 102 = .ok (.iinc 6 1, 3) := by decide +kernel
theorem dX8_dig_105 : decode cX8_dig 105 = .ok (.goto (-48), 3) := by decide +kernel
theorem dX8_dig_108 : decode cX8_dig 108 = .ok (.iload 6, 2) := by decide +kernel
theorem dX8_dig_110 : decode cX8_dig 110 = .ok (.bipush 10, 2) := by decide +kernel
theorem dX8_dig_112 : decode cX8_dig 112 = .ok (.if_icmp .ne 6, 3) := by decide +kernel
theorem dX8_dig_115 : decode cX8_dig 115 = .ok (.ldc 112, 2) := by decide +kernel
theorem dX8_dig_117 : decode cX8_dig 117 = .ok (.ireturn, 1) := by decide +kernel
theorem dX8_dig_118 : decode cX8_dig 118 = .ok (.aload_n 0, 1) := by decide +kernel
theorem dX8_dig_119 : decode cX8_dig 119 = .ok (.iload_n 3, 1) := by decide +kernel
theorem dX8_dig_120 : decode cX8_dig 120 = .ok (.iconst 2, 1) := by decide +kernel
theorem dX8_dig_121 : decode cX8_dig 121 = .ok (.aload_n 0, 1) := by decide +kernel
theorem dX8_dig_122 : decode cX8_dig 122 = .ok (.iload_n 3, 1) := by decide +kernel
theorem dX8_dig_123 : decode cX8_dig 123 = .ok (.iconst 2, 1) := by decide +kernel
theorem dX8_dig_124 : decode cX8_dig 124 = .ok (.invokevirtual 117, 3) := by decide +kernel
theorem dX8_dig_127 : decode cX8_dig 127 = .ok (.iload 5, 2) := by decide +kernel
theorem dX8_dig_129 : decode cX8_dig 129 = .ok (.isub, 1) := by decide +kernel
theorem dX8_dig_130 : decode cX8_dig 130 = .ok (.invokevirtual 96, 3) := by decide +kernel
theorem dX8_dig_133 : decode cX8_dig 133 = .ok (.aload_n 0, 1) := by decide +kernel
theorem dX8_dig_134 : decode cX8_dig 134 = .ok (.getfield 9, 3) := by decide +kernel
theorem dX8_dig_137 : decode cX8_dig 137 = .ok (.iconst 5, 1) := by decide +kernel
theorem dX8_dig_138 : decode cX8_dig 138 = .ok (.dup2, 1) := by decide +kernel
theorem dX8_dig_139 : decode cX8_dig 139 = .ok (.iaload, 1) := by decide +kernel
theorem dX8_dig_140 : decode cX8_dig 140 = .ok (.iload_n 2, 1) := by decide +kernel
theorem dX8_dig_141 : decode cX8_dig 141 = .ok (.iadd, 1) := by decide +kernel
theorem dX8_dig_142 : decode cX8_dig 142 = .ok (.iastore, 1) := by decide +kernel
theorem dX8_dig_143 : decode cX8_dig 143 = .ok (.aload_n 0, 1) := by decide +kernel
theorem dX8_dig_144 : decode cX8_dig 144 = .ok (.iload 6, 2) := by decide +kernel
theorem dX8_dig_146 : decode cX8_dig 146 = .ok (.iconst 0, 1) := by decide +kernel
theorem dX8_dig_147 : decode cX8_dig 147 = .ok (.iload_n 1, 1) := by decide +kernel
theorem dX8_dig_148 : decode cX8_dig 148 = .ok (.iload_n 2, 1) := by decide +kernel
theorem dX8_dig_149 : decode cX8_dig 149 = .ok (.iload 4, 2) := by decide +kernel
theorem dX8_dig_151 : decode cX8_dig 151 = .ok (.invokevirtual 100, 3) := by decide +kernel
theorem dX8_dig_154 : decode cX8_dig 154 = .ok (.aload_n 0, 1) := by decide +kernel
theorem dX8_dig_155 : decode cX8_dig 155 = .ok (.getfield 9, 3) := by decide +kernel
theorem dX8_dig_158 : decode cX8_dig 158 = .ok (.iconst 1, 1) := by decide +kernel
theorem dX8_dig_159 : decode cX8_dig 159 = .ok (.dup2, 1) := by decide +kernel
theorem dX8_dig_160 : decode cX8_dig 160 = .ok (.iaload, 1) := by decide +kernel
theorem dX8_dig_161 : decode cX8_dig 161 = .ok (.iload 6, 2) := by decide +kernel
theorem dX8_dig_163 : decode cX8_dig 163 = .ok (.aload_n 0, 1) := by decide +kernel
theorem dX8_dig_164 : decode cX8_dig 164 = .ok (.getfield 9, 3) := by decide +kernel
theorem dX8_dig_167 : decode cX8_dig 167 = .ok (.iconst 1, 1) := by decide +kernel
theorem dX8_dig_168 : decode cX8_dig 168 = .ok (.iaload, 1) := by decide +kernel
theorem dX8_dig_169 : decode cX8_dig 169 = .ok (.if_icmp .ne 7, 3) := by decide +kernel
theorem dX8_dig_172 : decode cX8_dig 172 = .ok (.iconst 1, 1) := by decide +kernel
theorem dX8_dig_173 : decode cX8_dig 173 = .ok (.goto 4, 3) := by decide +kernel
theorem dX8_dig_176 : decode cX8_dig 176 = .ok (.iconst 0, 1) := by decide +kernel
theorem dX8_dig_177 : decode cX8_dig 177 = .ok (.iadd, 1) := by decide +kernel
theorem dX8_dig_178 : decode cX8_dig 178 = .ok (.iastore, 1) := by decide +kernel
theorem dX8_dig_179 : decode cX8_dig 179 = .ok (.iload 6, 2) := by decide +kernel
theorem dX8_dig_181 : decode cX8_dig 181 = .ok (.ireturn, 1) := by decide +kernel
theorem dX8_want_0 : decode cX8_want 0 = .ok (.iload_n 1, 1) := by decide +kernel
theorem dX8_want_1 : decode cX8_want 1 = .ok (.invokestatic 104, 3) := by decide +kernel
theorem dX8_want_4 : decode cX8_want 4 = .ok (.ifCond .eq 10, 3) := by decide +kernel
theorem dX8_want_7 : decode cX8_want 7 = .ok (.iload_n 2, 1) := by decide +kernel
theorem dX8_want_8 : decode cX8_want 8 = .ok (.invokestatic 160, 3) := by decide +kernel
theorem dX8_want_11 : decode cX8_want 11 = .ok (.ifCond .ne 6, 3) := by decide +kernel
theorem dX8_want_14 : decode cX8_want 14 = .ok (.ldc 111, 2) := by decide +kernel
theorem dX8_want_16 : decode cX8_want 16 = .ok (.ireturn, 1) := by decide +kernel
theorem dX8_want_17 : decode cX8_want 17 = .ok (.aload_n 0, 1) := by decide +kernel
theorem dX8_want_18 : decode cX8_want 18 = .ok (.getfield 9, 3) := by decide +kernel
theorem dX8_want_21 : decode cX8_want 21 = .ok (.bipush 7, 2) := by decide +kernel
theorem dX8_want_23 : decode cX8_want 23 = .ok (.iaload, 1) := by decide +kernel
theorem dX8_want_24 : decode cX8_want 24 = .ok (.bipush 6, 2) := by decide +kernel
theorem dX8_want_26 : decode cX8_want 26 = .ok (.if_icmp .ne 6, 3) := by decide +kernel
theorem dX8_want_29 : decode cX8_want 29 = .ok (.ldc 112, 2) := by decide +kernel
theorem dX8_want_31 : decode cX8_want 31 = .ok (.ireturn, 1) := by decide +kernel
theorem dX8_want_32 : decode cX8_want 32 = .ok (.aload_n 0, 1) := by decide +kernel
theorem dX8_want_33 : decode cX8_want 33 = .ok (.getfield 9, 3) := by decide +kernel
theorem dX8_want_36 : decode cX8_want 36 = .ok (.bipush 9, 2) := by decide +kernel
theorem dX8_want_38 : decode cX8_want 38 = .ok (.iconst 2, 1) := by decide +kernel
theorem dX8_want_39 : decode cX8_want 39 = .ok (.aload_n 0, 1) := by decide +kernel
theorem dX8_want_40 : decode cX8_want 40 = .ok (.getfield 9, 3) := by decide +kernel
theorem dX8_want_43 : decode cX8_want 43 = .ok (.bipush 7, 2) := by decide +kernel
theorem dX8_want_45 : decode cX8_want 45 = .ok (.iaload, 1) := by decide +kernel
theorem dX8_want_46 : decode cX8_want 46 = .ok (.imul, 1) := by decide +kernel
theorem dX8_want_47 : decode cX8_want 47 = .ok (.iadd, 1) := by decide +kernel
theorem dX8_want_48 : decode cX8_want 48 = .ok (.iload_n 1, 1) := by decide +kernel
theorem dX8_want_49 : decode cX8_want 49 = .ok (.iastore, 1) := by decide +kernel
theorem dX8_want_50 : decode cX8_want 50 = .ok (.aload_n 0, 1) := by decide +kernel
theorem dX8_want_51 : decode cX8_want 51 = .ok (.getfield 9, 3) := by decide +kernel
theorem dX8_want_54 : decode cX8_want 54 = .ok (.bipush 9, 2) := by decide +kernel
theorem dX8_want_56 : decode cX8_want 56 = .ok (.iconst 2, 1) := by decide +kernel
theorem dX8_want_57 : decode cX8_want 57 = .ok (.aload_n 0, 1) := by decide +kernel
theorem dX8_want_58 : decode cX8_want 58 = .ok (.getfield 9, 3) := by decide +kernel
theorem dX8_want_61 : decode cX8_want 61 = .ok (.bipush 7, 2) := by decide +kernel
theorem dX8_want_63 : decode cX8_want 63 = .ok (.iaload, 1) := by decide +kernel
theorem dX8_want_64 : decode cX8_want 64 = .ok (.imul, 1) := by decide +kernel
theorem dX8_want_65 : decode cX8_want 65 = .ok (.iadd, 1) := by decide +kernel
theorem dX8_want_66 : decode cX8_want 66 = .ok (.iconst 1, 1) := by decide +kernel
theorem dX8_want_67 : decode cX8_want 67 = .ok (.iadd, 1) := by decide +kernel
theorem dX8_want_68 : decode cX8_want 68 = .ok (.iload_n 2, 1) := by decide +kernel
theorem dX8_want_69 : decode cX8_want 69 = .ok (.iastore, 1) := by decide +kernel
theorem dX8_want_70 : decode cX8_want 70 = .ok (.aload_n 0, 1) := by decide +kernel
theorem dX8_want_71 : decode cX8_want 71 = .ok (.getfield 9, 3) := by decide +kernel
theorem dX8_want_74 : decode cX8_want 74 = .ok (.bipush 7, 2) := by decide +kernel
theorem dX8_want_76 : decode cX8_want 76 = .ok (.dup2, 1) := by decide +kernel
theorem dX8_want_77 : decode cX8_want 77 = .ok (.iaload, 1) := by decide +kernel
theorem dX8_want_78 : decode cX8_want 78 = .ok (.iconst 1, 1) := by decide +kernel
theorem dX8_want_79 : decode cX8_want 79 = .ok (.iadd, 1) := by decide +kernel
theorem dX8_want_80 : decode cX8_want 80 = .ok (.iastore, 1) := by decide +kernel
theorem dX8_want_81 : decode cX8_want 81 = .ok (.aload_n 0, 1) := by decide +kernel
theorem dX8_want_82 : decode cX8_want 82 = .ok (.getfield 9, 3) := by decide +kernel
theorem dX8_want_85 : decode cX8_want 85 = .ok (.bipush 7, 2) := by decide +kernel
theorem dX8_want_87 : decode cX8_want 87 = .ok (.iaload, 1) := by decide +kernel
theorem dX8_want_88 : decode cX8_want 88 = .ok (.iconst 1, 1) := by decide +kernel
theorem dX8_want_89 : decode cX8_want 89 = .ok (.isub, 1) := by decide +kernel
theorem dX8_want_90 : decode cX8_want 90 = .ok (.ireturn, 1) := by decide +kernel
theorem dX8_forget_0 : decode cX8_forget 0 = .ok (.aload_n 0, 1) := by decide +kernel
theorem dX8_forget_1 : decode cX8_forget 1 = .ok (.bipush 7, 2) := by decide +kernel
theorem dX8_forget_3 : decode cX8_forget 3 = .ok (.iconst 0, 1) := by decide +kernel
theorem dX8_forget_4 : decode cX8_forget 4 = .ok (.invokevirtual 133, 3) := by decide +kernel
theorem dX8_forget_7 : decode cX8_forget 7 = .ok (.ireturn, 1) := by decide +kernel
theorem dX8_doesMeet_0 : decode cX8_doesMeet 0 = .ok (.aload_n 0, 1) := by decide +kernel
theorem dX8_doesMeet_1 : decode cX8_doesMeet 1 = .ok (.iload_n 2, 1) := by decide +kernel
theorem dX8_doesMeet_2 : decode cX8_doesMeet 2 = .ok (.aload_n 0, 1) := by decide +kernel
theorem dX8_doesMeet_3 : decode cX8_doesMeet 3 = .ok (.aload_n 0, 1) := by decide +kernel
theorem dX8_doesMeet_4 : decode cX8_doesMeet 4 = .ok (.getfield 9, 3) := by decide +kernel
theorem dX8_doesMeet_7 : decode cX8_doesMeet 7 = .ok (.bipush 9, 2) := by decide +kernel
theorem dX8_doesMeet_9 : decode cX8_doesMeet 9 = .ok (.iconst 2, 1) := by decide +kernel
theorem dX8_doesMeet_10 : decode cX8_doesMeet 10 = .ok (.iload_n 1, 1) := by decide +kernel
theorem dX8_doesMeet_11 : decode cX8_doesMeet 11 = .ok (.imul, 1) := by decide +kernel
theorem dX8_doesMeet_12 : decode cX8_doesMeet 12 = .ok (.iadd, 1) := by decide +kernel
theorem dX8_doesMeet_13 : decode cX8_doesMeet 13 = .ok (.iconst 1, 1) := by decide +kernel
theorem dX8_doesMeet_14 : decode cX8_doesMeet 14 = .ok (.iadd, 1) := by decide +kernel
theorem dX8_doesMeet_15 : decode cX8_doesMeet 15 = .ok (.iaload, 1) := by decide +kernel
theorem dX8_doesMeet_16 : decode cX8_doesMeet 16 = .ok (.invokevirtual 163, 3) := by decide +kernel
theorem dX8_doesMeet_19 : decode cX8_doesMeet 19 = .ok (.aload_n 0, 1) := by decide +kernel
theorem dX8_doesMeet_20 : decode cX8_doesMeet 20 = .ok (.getfield 9, 3) := by decide +kernel
theorem dX8_doesMeet_23 : decode cX8_doesMeet 23 = .ok (.bipush 9, 2) := by decide +kernel
theorem dX8_doesMeet_25 : decode cX8_doesMeet 25 = .ok (.iconst 2, 1) := by decide +kernel
theorem dX8_doesMeet_26 : decode cX8_doesMeet 26 = .ok (.iload_n 1, 1) := by decide +kernel
theorem dX8_doesMeet_27 : decode cX8_doesMeet 27 = .ok (.imul, 1) := by decide +kernel
theorem dX8_doesMeet_28 : decode cX8_doesMeet 28 = .ok (.iadd, 1) := by decide +kernel
theorem dX8_doesMeet_29 : decode cX8_doesMeet 29 = .ok (.iaload, 1) := by decide +kernel
theorem dX8_doesMeet_30 : decode cX8_doesMeet 30 = .ok (.invokevirtual 166, 3) := by decide +kernel
theorem dX8_doesMeet_33 : decode cX8_doesMeet 33 = .ok (.ireturn, 1) := by decide +kernel
theorem dX8_findsHole_0 : decode cX8_findsHole 0 = .ok (.iconst 0, 1) := by decide +kernel
theorem dX8_findsHole_1 : decode cX8_findsHole 1 = .ok (.istore_n 3, 1) := by decide +kernel
theorem dX8_findsHole_2 : decode cX8_findsHole 2 = .ok (.iload_n 3, 1) := by decide +kernel
theorem dX8_findsHole_3 : decode cX8_findsHole 3 = .ok (.aload_n 0, 1) := by decide +kernel
theorem dX8_findsHole_4 : decode cX8_findsHole 4 = .ok (.getfield 9, 3) := by decide +kernel
theorem dX8_findsHole_7 : decode cX8_findsHole 7 = .ok (.iconst 1, 1) := by decide +kernel
theorem dX8_findsHole_8 : decode cX8_findsHole 8 = .ok (.iaload, 1) := by decide +kernel
theorem dX8_findsHole_9 : decode cX8_findsHole 9 = .ok (.if_icmp .ge 74, 3) := by decide +kernel
theorem dX8_findsHole_12 : decode cX8_findsHole 12 = .ok (.iload_n 3, 1) := by decide +kernel
theorem dX8_findsHole_13 : decode cX8_findsHole 13 = .ok (.iload_n 2, 1) := by decide +kernel
theorem dX8_findsHole_14 : decode cX8_findsHole 14 = .ok (.if_icmp .eq 63, 3) := by decide +kernel
theorem dX8_findsHole_17 : decode cX8_findsHole 17 = .ok (.aload_n 0, 1) := by decide +kernel
theorem dX8_findsHole_18 : decode cX8_findsHole 18 = .ok (.getfield 22, 3) := by decide +kernel
theorem dX8_findsHole_21 : decode cX8_findsHole 21 = .ok (.iload_n 3, 1) := by decide +kernel
theorem dX8_findsHole_22 : decode cX8_findsHole 22 = .ok (.baload, 1) := by decide +kernel
theorem dX8_findsHole_23 : decode cX8_findsHole 23 = .ok (.ifCond .ne 54, 3) := by decide +kernel
theorem dX8_findsHole_26 : decode cX8_findsHole 26 = .ok (.aload_n 0, 1) := by decide +kernel
theorem dX8_findsHole_27 : decode cX8_findsHole 27 = .ok (.iload_n 1, 1) := by decide +kernel
theorem dX8_findsHole_28 : decode cX8_findsHole 28 = .ok (.iload_n 3, 1) := by decide +kernel
theorem dX8_findsHole_29 : decode cX8_findsHole 29 = .ok (.invokevirtual 170, 3) := by decide +kernel
theorem dX8_findsHole_32 : decode cX8_findsHole 32 = .ok (.ifCond .ne 6, 3) := by decide +kernel
theorem dX8_findsHole_35 : decode cX8_findsHole 35 = .ok (.goto 42, 3) := by decide +kernel
theorem dX8_findsHole_38 : decode cX8_findsHole 38 = .ok (.aload_n 0, 1) := by decide +kernel
theorem dX8_findsHole_39 : decode cX8_findsHole 39 = .ok (.getfield 22, 3) := by decide +kernel
theorem dX8_findsHole_42 : decode cX8_findsHole 42 = .ok (.iload_n 3, 1) := by decide +kernel
theorem dX8_findsHole_43 : decode cX8_findsHole 43 = .ok (.iconst 1, 1) := by decide +kernel
theorem dX8_findsHole_44 : decode cX8_findsHole 44 = .ok (.bastore, 1) := by decide +kernel
theorem dX8_findsHole_45 : decode cX8_findsHole 45 = .ok (.aload_n 0, 1) := by decide +kernel
theorem dX8_findsHole_46 : decode cX8_findsHole 46 = .ok (.getfield 19, 3) := by decide +kernel
theorem dX8_findsHole_49 : decode cX8_findsHole 49 = .ok (.iload_n 3, 1) := by decide +kernel
theorem dX8_findsHole_50 : decode cX8_findsHole 50 = .ok (.iaload, 1) := by decide +kernel
theorem dX8_findsHole_51 : decode cX8_findsHole 51 = .ok (.ifCond .lt 17, 3) := by decide +kernel
theorem dX8_findsHole_54 : decode cX8_findsHole 54 = .ok (.aload_n 0, 1) := by decide +kernel
theorem dX8_findsHole_55 : decode cX8_findsHole 55 = .ok (.aload_n 0, 1) := by decide +kernel
theorem dX8_findsHole_56 : decode cX8_findsHole 56 = .ok (.getfield 19, 3) := by decide +kernel
theorem dX8_findsHole_59 : decode cX8_findsHole 59 = .ok (.iload_n 3, 1) := by decide +kernel
theorem dX8_findsHole_60 : decode cX8_findsHole 60 = .ok (.iaload, 1) := by decide +kernel
theorem dX8_findsHole_61 : decode cX8_findsHole 61 = .ok (.iload_n 2, 1) := by decide +kernel
theorem dX8_findsHole_62 : decode cX8_findsHole 62 = .ok (.invokevirtual 173, 3) := by decide +kernel
theorem dX8_findsHole_65 : decode cX8_findsHole 65 = .ok (.ifCond .eq 12, 3) := by decide +kernel
theorem dX8_findsHole_68 : decode cX8_findsHole 68 = .ok (.aload_n 0, 1) := by decide +kernel
theorem dX8_findsHole_69 : decode cX8_findsHole 69 = .ok (.getfield 19, 3) := by decide +kernel
theorem dX8_findsHole_72 : decode cX8_findsHole 72 = .ok (.iload_n 3, 1) := by decide +kernel
theorem dX8_findsHole_73 : decode cX8_findsHole 73 = .ok (.iload_n 1, 1) := by decide +kernel
theorem dX8_findsHole_74 : decode cX8_findsHole 74 = .ok (.iastore, 1) := by decide +kernel
theorem dX8_findsHole_75 : decode cX8_findsHole 75 = .ok (.iconst 1, 1) := by decide +kernel
theorem dX8_findsHole_76 : decode cX8_findsHole 76 = .ok (.ireturn, 1) := by decide +kernel
theorem dX8_findsHole_77 : decode cX8_findsHole 77 = .ok (.iinc 3 1, 3) := by decide +kernel
theorem dX8_findsHole_80 : decode cX8_findsHole 80 = .ok (.goto (-78), 3) := by decide +kernel
theorem dX8_findsHole_83 : decode cX8_findsHole 83 = .ok (.iconst 0, 1) := by decide +kernel
theorem dX8_findsHole_84 : decode cX8_findsHole 84 = .ok (.ireturn, 1) := by decide +kernel
theorem dX8_metBut_0 : decode cX8_metBut 0 = .ok (.iconst 0, 1) := by decide +kernel
theorem dX8_metBut_1 : decode cX8_metBut 1 = .ok (.istore_n 2, 1) := by decide +kernel
theorem dX8_metBut_2 : decode cX8_metBut 2 = .ok (.iload_n 2, 1) := by decide +kernel
theorem dX8_metBut_3 : decode cX8_metBut 3 = .ok (.bipush 11, 2) := by decide +kernel
theorem dX8_metBut_5 : decode cX8_metBut 5 = .ok (.if_icmp .ge 16, 3) := by decide +kernel
theorem dX8_metBut_8 : decode cX8_metBut 8 = .ok (.aload_n 0, 1) := by decide +kernel
theorem dX8_metBut_9 : decode cX8_metBut 9 = .ok (.getfield 19, 3) := by decide +kernel
theorem dX8_metBut_12 : decode cX8_metBut 12 = .ok (.iload_n 2, 1) := by decide +kernel
theorem dX8_metBut_13 : decode cX8_metBut 13 = .ok (.iconst (-1), 1) := by decide +kernel
theorem dX8_metBut_14 : decode cX8_metBut 14 = .ok (.iastore, 1) := by decide +kernel
theorem dX8_metBut_15 : decode cX8_metBut 15 = .ok (.iinc 2 1, 3) := by decide +kernel
theorem dX8_metBut_18 : decode cX8_metBut 18 = .ok (.goto (-16), 3) := by decide +kernel
theorem dX8_metBut_21 : decode cX8_metBut 21 = .ok (.iconst 0, 1) := by decide +kernel
theorem dX8_metBut_22 : decode cX8_metBut 22 = .ok (.istore_n 2, 1) := by decide +kernel
theorem dX8_metBut_23 : decode cX8_metBut 23 = .ok (.iconst 0, 1) := by decide +kernel
theorem dX8_metBut_24 : decode cX8_metBut 24 = .ok (.istore_n 3, 1) := by decide +kernel
theorem dX8_metBut_25 : decode cX8_metBut 25 = .ok (.iload_n 3, 1) := by decide +kernel
theorem dX8_metBut_26 : decode cX8_metBut 26 = .ok (.aload_n 0, 1) := by decide +kernel
theorem dX8_metBut_27 : decode cX8_metBut 27 = .ok (.getfield 9, 3) := by decide +kernel
theorem dX8_metBut_30 : decode cX8_metBut 30 = .ok (.bipush 7, 2) := by decide +kernel
theorem dX8_metBut_32 : decode cX8_metBut 32 = .ok (.iaload, 1) := by decide +kernel
theorem dX8_metBut_33 : decode cX8_metBut 33 = .ok (.if_icmp .ge 50, 3) := by decide +kernel
theorem dX8_metBut_36 : decode cX8_metBut 36 = .ok (.iconst 0, 1) := by decide +kernel
theorem dX8_metBut_37 : decode cX8_metBut 37 = .ok (.istore 4, 2) := by decide +kernel
theorem dX8_metBut_39 : decode cX8_metBut 39 = .ok (.iload 4, 2) := by decide +kernel
theorem dX8_metBut_41 : decode cX8_metBut 41 = .ok (.bipush 11, 2) := by decide +kernel
theorem dX8_metBut_43 : decode cX8_metBut 43 = .ok (.if_icmp .ge 17, 3) := by decide +kernel
theorem dX8_metBut_46 : decode cX8_metBut 46 = .ok (.aload_n 0, 1) := by decide +kernel
theorem dX8_metBut_47 : decode cX8_metBut 47 = .ok (.getfield 22, 3) := by decide +kernel
theorem dX8_metBut_50 : decode cX8_metBut 50 = .ok (.iload 4, 2) := by decide +kernel
theorem dX8_metBut_52 : decode cX8_metBut 52 = .ok (.iconst 0, 1) := by decide +kernel
theorem dX8_metBut_53 : decode cX8_metBut 53 = .ok (.bastore, 1) := by decide +kernel
theorem dX8_metBut_54 : decode cX8_metBut 54 = .ok (.iinc 4 1, 3) := by decide +kernel
theorem dX8_metBut_57 : decode cX8_metBut 57 = .ok (.goto (-18), 3) := by decide +kernel
theorem dX8_metBut_60 : decode cX8_metBut 60 = .ok (.iload_n 2, 1) := by decide +kernel
theorem dX8_metBut_61 : decode cX8_metBut 61 = .ok (.aload_n 0, 1) := by decide +kernel
theorem dX8_metBut_62 : decode cX8_metBut 62 = .ok (.iload_n 3, 1) := by decide +kernel
theorem dX8_metBut_63 : decode cX8_metBut 63 = .ok (.iload_n 1, 1) := by decide +kernel
theorem dX8_metBut_64 : decode cX8_metBut 64 = .ok (.invokevirtual 173, 3) := by decide +kernel
theorem dX8_metBut_67 : decode cX8_metBut 67 = .ok (.ifCond .eq 7, 3) := by decide +kernel
theorem dX8_metBut_70 : decode cX8_metBut 70 = .ok (.iconst 1, 1) := by decide +kernel
theorem dX8_metBut_71 : decode cX8_metBut 71 = .ok (.goto 4, 3) := by decide +kernel
theorem dX8_metBut_74 : decode cX8_metBut 74 = .ok (.iconst 0, 1) := by decide +kernel
theorem dX8_metBut_75 : decode cX8_metBut 75 = .ok (.iadd, 1) := by decide +kernel
theorem dX8_metBut_76 : decode cX8_metBut 76 = .ok (.istore_n 2, 1) := by decide +kernel
theorem dX8_metBut_77 : decode cX8_metBut 77 = .ok (.iinc 3 1, 3) := by decide +kernel
theorem dX8_metBut_80 : decode cX8_metBut 80 = .ok (.goto (-55), 3) := by decide +kernel
theorem dX8_metBut_83 : decode cX8_metBut 83 = .ok (.iload_n 2, 1) := by decide +kernel
theorem dX8_metBut_84 : decode cX8_metBut 84 = .ok (.ireturn, 1) := by decide +kernel
theorem dX8_scoreOf_0 : decode cX8_scoreOf 0 = .ok (.aload_n 0, 1) := by decide +kernel
theorem dX8_scoreOf_1 : decode cX8_scoreOf 1 = .ok (.getfield 26, 3) := by decide +kernel
theorem dX8_scoreOf_4 : decode cX8_scoreOf 4 = .ok (.sipush 1024, 3) := by decide +kernel
theorem dX8_scoreOf_7 : decode cX8_scoreOf 7 = .ok (.iload_n 1, 1) := by decide +kernel
theorem dX8_scoreOf_8 : decode cX8_scoreOf 8 = .ok (.iconst 1, 1) := by decide +kernel
theorem dX8_scoreOf_9 : decode cX8_scoreOf 9 = .ok (.iadd, 1) := by decide +kernel
theorem dX8_scoreOf_10 : decode cX8_scoreOf 10 = .ok (.imul, 1) := by decide +kernel
theorem dX8_scoreOf_11 : decode cX8_scoreOf 11 = .ok (.iload_n 2, 1) := by decide +kernel
theorem dX8_scoreOf_12 : decode cX8_scoreOf 12 = .ok (.iconst 1, 1) := by decide +kernel
theorem dX8_scoreOf_13 : decode cX8_scoreOf 13 = .ok (.iload_n 3, 1) := by decide +kernel
theorem dX8_scoreOf_14 : decode cX8_scoreOf 14 = .ok (.ishl, 1) := by decide +kernel
theorem dX8_scoreOf_15 : decode cX8_scoreOf 15 = .ok (.ior, 1) := by decide +kernel
theorem dX8_scoreOf_16 : decode cX8_scoreOf 16 = .ok (.iadd, 1) := by decide +kernel
theorem dX8_scoreOf_17 : decode cX8_scoreOf 17 = .ok (.iaload, 1) := by decide +kernel
theorem dX8_scoreOf_18 : decode cX8_scoreOf 18 = .ok (.sipush 1000, 3) := by decide +kernel
theorem dX8_scoreOf_21 : decode cX8_scoreOf 21 = .ok (.iadd, 1) := by decide +kernel
theorem dX8_scoreOf_22 : decode cX8_scoreOf 22 = .ok (.aload_n 0, 1) := by decide +kernel
theorem dX8_scoreOf_23 : decode cX8_scoreOf 23 = .ok (.iload_n 3, 1) := by decide +kernel
theorem dX8_scoreOf_24 : decode cX8_scoreOf 24 = .ok (.aload_n 0, 1) := by decide +kernel
theorem dX8_scoreOf_25 : decode cX8_scoreOf 25 = .ok (.getfield 9, 3) := by decide +kernel
theorem dX8_scoreOf_28 : decode cX8_scoreOf 28 = .ok (.bipush 9, 2) := by decide +kernel
theorem dX8_scoreOf_30 : decode cX8_scoreOf 30 = .ok (.iconst 2, 1) := by decide +kernel
theorem dX8_scoreOf_31 : decode cX8_scoreOf 31 = .ok (.iload_n 1, 1) := by decide +kernel
theorem dX8_scoreOf_32 : decode cX8_scoreOf 32 = .ok (.imul, 1) := by decide +kernel
theorem dX8_scoreOf_33 : decode cX8_scoreOf 33 = .ok (.iadd, 1) := by decide +kernel
theorem dX8_scoreOf_34 : decode cX8_scoreOf 34 = .ok (.iaload, 1) := by decide +kernel
theorem dX8_scoreOf_35 : decode cX8_scoreOf 35 = .ok (.invokevirtual 154, 3) := by decide +kernel
theorem dX8_scoreOf_38 : decode cX8_scoreOf 38 = .ok (.isub, 1) := by decide +kernel
theorem dX8_scoreOf_39 : decode cX8_scoreOf 39 = .ok (.ireturn, 1) := by decide +kernel
theorem dX8_findDealing_0 : decode cX8_findDealing 0 = .ok (.aload_n 0, 1) := by decide +kernel
theorem dX8_findDealing_1 : decode cX8_findDealing 1 = .ok (.getfield 9, 3) := by decide +kernel
theorem dX8_findDealing_4 : decode cX8_findDealing 4 = .ok (.bipush 7, 2) := by decide +kernel
theorem dX8_findDealing_6 : decode cX8_findDealing 6 = .ok (.iaload, 1) := by decide +kernel
theorem dX8_findDealing_7 : decode cX8_findDealing 7 = .ok (.istore_n 1, 1) := by decide +kernel
theorem dX8_findDealing_8 : decode cX8_findDealing 8 = .ok (.iconst 0, 1) := by decide +kernel
theorem dX8_findDealing_9 : decode cX8_findDealing 9 = .ok (.istore_n 2, 1) := by decide +kernel
theorem dX8_findDealing_10 : decode cX8_findDealing 10 = .ok (.iload_n 2, 1) := by decide +kernel
theorem dX8_findDealing_11 : decode cX8_findDealing 11 = .ok (.iconst 1, 1) := by decide +kernel
theorem dX8_findDealing_12 : decode cX8_findDealing 12 = .ok (.aload_n 0, 1) := by decide +kernel
theorem dX8_findDealing_13 : decode cX8_findDealing 13 = .ok (.getfield 9, 3) := by decide +kernel
theorem dX8_findDealing_16 : decode cX8_findDealing 16 = .ok (.iconst 1, 1) := by decide +kernel
theorem dX8_findDealing_17 : decode cX8_findDealing 17 = .ok (.iaload, 1) := by decide +kernel
theorem dX8_findDealing_18 : decode cX8_findDealing 18 = .ok (.ishl, 1) := by decide +kernel
theorem dX8_findDealing_19 : decode cX8_findDealing 19 = .ok (.if_icmp .ge 22, 3) := by decide +kernel
theorem dX8_findDealing_22 : decode cX8_findDealing 22 = .ok (.aload_n 0, 1) := by decide +kernel
theorem dX8_findDealing_23 : decode cX8_findDealing 23 = .ok (.getfield 26, 3) := by decide +kernel
theorem dX8_findDealing_26 : decode cX8_findDealing 26 = .ok (.sipush 1024, 3) := by decide +kernel
theorem dX8_findDealing_29 : decode cX8_findDealing 29 = .ok (.iload_n 1, 1) := by decide +kernel
theorem dX8_findDealing_30 : decode cX8_findDealing 30 = .ok (.imul, 1) := by decide +kernel
theorem dX8_findDealing_31 : decode cX8_findDealing 31 = .ok (.iload_n 2, 1) := by decide +kernel
theorem dX8_findDealing_32 : decode cX8_findDealing 32 = .ok (.iadd, 1) := by decide +kernel
theorem dX8_findDealing_33 : decode cX8_findDealing 33 = .ok (.iconst 0, 1) := by decide +kernel
theorem dX8_findDealing_34 : decode cX8_findDealing 34 = .ok (.iastore, 1) := by decide +kernel
theorem dX8_findDealing_35 : decode cX8_findDealing 35 = .ok (.iinc 2 1, 3) := by decide +kernel
theorem dX8_findDealing_38 : decode cX8_findDealing 38 = .ok (.goto (-28), 3) := by decide +kernel
theorem dX8_findDealing_41 : decode cX8_findDealing 41 = .ok (.iload_n 1, 1) := by decide +kernel
theorem dX8_findDealing_42 : decode cX8_findDealing 42 = .ok (.iconst 1, 1) := by decide +kernel
theorem dX8_findDealing_43 : decode cX8_findDealing 43 = .ok (.isub, 1) := by decide +kernel
theorem dX8_findDealing_44 : decode cX8_findDealing 44 = .ok (.istore_n 2, 1) := by decide +kernel
theorem dX8_findDealing_45 : decode cX8_findDealing 45 = .ok (.iload_n 2, 1) := by decide +kernel
theorem dX8_findDealing_46 : decode cX8_findDealing 46 = .ok (.ifCond .lt 167, 3) := by decide +kernel
theorem dX8_findDealing_49 : decode cX8_findDealing 49 = .ok (.iconst 0, 1) := by decide +kernel
theorem dX8_findDealing_50 : decode cX8_findDealing 50 = .ok (.istore_n 3, 1) := by decide +kernel
theorem dX8_findDealing_51 : decode cX8_findDealing 51 = .ok (.iconst 0, 1) := by decide +kernel
theorem dX8_findDealing_52 : decode cX8_findDealing 52 = .ok (.istore 4, 2) := by decide +kernel
theorem dX8_findDealing_54 : decode cX8_findDealing 54 = .ok (.iload 4, 2) := by decide +kernel
theorem dX8_findDealing_56 : decode cX8_findDealing 56 = .ok (.aload_n 0, 1) := by decide +kernel
theorem dX8_findDealing_57 : decode cX8_findDealing 57 = .ok (.getfield 9, 3) := by decide +kernel
theorem dX8_findDealing_60 : decode cX8_findDealing 60 = .ok (.iconst 1, 1) := by decide +kernel
theorem dX8_findDealing_61 : decode cX8_findDealing 61 = .ok (.iaload, 1) := by decide +kernel
theorem dX8_findDealing_62 : decode cX8_findDealing 62 = .ok (.if_icmp .ge 30, 3) := by decide +kernel
theorem dX8_findDealing_65 : decode cX8_findDealing 65 = .ok (.iload_n 3, 1) := by decide +kernel
theorem dX8_findDealing_66 : decode cX8_findDealing 66 = .ok (.aload_n 0, 1) := by decide +kernel
theorem dX8_findDealing_67 : decode cX8_findDealing 67 = .ok (.iload_n 2, 1) := by decide +kernel
theorem dX8_findDealing_68 : decode cX8_findDealing 68 = .ok (.iload 4, 2) := by decide +kernel
theorem dX8_findDealing_70 : decode cX8_findDealing 70 = .ok (.invokevirtual 170, 3) := by decide +kernel
theorem dX8_findDealing_73 : decode cX8_findDealing 73 = .ok (.ifCond .eq 10, 3) := by decide +kernel
theorem dX8_findDealing_76 : decode cX8_findDealing 76 = .ok (.iconst 1, 1) := by decide +kernel
theorem dX8_findDealing_77 : decode cX8_findDealing 77 = .ok (.iload 4, 2) := by decide +kernel
theorem dX8_findDealing_79 : decode cX8_findDealing 79 = .ok (.ishl, 1) := by decide +kernel
theorem dX8_findDealing_80 : decode cX8_findDealing 80 = .ok (.goto 4, 3) := by decide +kernel
theorem dX8_findDealing_83 : decode cX8_findDealing 83 = .ok (.iconst 0, 1) := by decide +kernel
theorem dX8_findDealing_84 : decode cX8_findDealing 84 = .ok (.ior, 1) := by decide +kernel
theorem dX8_findDealing_85 : decode cX8_findDealing 85 = .ok (.istore_n 3, 1) := by decide +kernel
theorem dX8_findDealing_86 : decode cX8_findDealing 86 = .ok (.iinc 4 1, 3) := by decide +kernel
theorem dX8_findDealing_89 : decode cX8_findDealing 89 = .ok (.goto (-35), 3) := by decide +kernel
theorem dX8_findDealing_92 : decode cX8_findDealing 92 = .ok (.iconst 0, 1) := by decide +kernel
theorem dX8_findDealing_93 : decode cX8_findDealing 93 = .ok (.istore 4, 2) := by decide +kernel
theorem dX8_findDealing_95 : decode cX8_findDealing 95 = .ok (.iload 4, 2) := by decide +kernel
theorem dX8_findDealing_97 : decode cX8_findDealing 97 = .ok (.iconst 1, 1) := by decide +kernel
theorem dX8_findDealing_98 : decode cX8_findDealing 98 = .ok (.aload_n 0, 1) := by decide +kernel
theorem dX8_findDealing_99 : decode cX8_findDealing 99 = .ok (.getfield 9, 3) := by decide +kernel
theorem dX8_findDealing_102 : decode cX8_findDealing 102 = .ok (.iconst 1, 1) := by decide +kernel
theorem dX8_findDealing_103 : decode cX8_findDealing 103 = .ok (.iaload, 1) := by decide +kernel
theorem dX8_findDealing_104 : decode cX8_findDealing 104 = .ok (.ishl, 1) := by decide +kernel
theorem dX8_findDealing_105 : decode cX8_findDealing 105 = .ok (.if_icmp .ge 102, 3) := by decide +kernel
theorem dX8_findDealing_108 : decode cX8_findDealing 108 = .ok (.aload_n 0, 1) := by decide +kernel
theorem dX8_findDealing_109 : decode cX8_findDealing 109 = .ok (.getfield 26, 3) := by decide +kernel
theorem dX8_findDealing_112 : decode cX8_findDealing 112 = .ok (.sipush 1024, 3) := by decide +kernel
theorem dX8_findDealing_115 : decode cX8_findDealing 115 = .ok (.iload_n 2, 1) := by decide +kernel
theorem dX8_findDealing_116 : decode cX8_findDealing 116 = .ok (.iconst 1, 1) := by decide +kernel
theorem dX8_findDealing_117 : decode cX8_findDealing 117 = .ok (.iadd, 1) := by decide +kernel
theorem dX8_findDealing_118 : decode cX8_findDealing 118 = .ok (.imul, 1) := by decide +kernel
theorem dX8_findDealing_119 : decode cX8_findDealing 119 = .ok (.iload 4, 2) := by decide +kernel
theorem dX8_findDealing_121 : decode cX8_findDealing 121 = .ok (.iadd, 1) := by decide +kernel
theorem dX8_findDealing_122 : decode cX8_findDealing 122 = .ok (.iaload, 1) := by decide +kernel
theorem dX8_findDealing_123 : decode cX8_findDealing 123 = .ok (.istore 5, 2) := by decide +kernel
theorem dX8_findDealing_125 : decode cX8_findDealing 125 = .ok (.iconst 0, 1) := by decide +kernel
theorem dX8_findDealing_126 : decode cX8_findDealing 126 = .ok (.istore 6, 2) := by decide +kernel
theorem dX8_findDealing_128 : decode cX8_findDealing 128 = .ok (.iload 6, 2) := by decide +kernel
theorem dX8_findDealing_130 : decode cX8_findDealing 130 = .ok (.aload_n 0, 1) := by decide +kernel
theorem dX8_findDealing_131 : decode cX8_findDealing 131 = .ok (.getfield 9, 3) := by decide +kernel
theorem dX8_findDealing_134 : decode cX8_findDealing 134 = .ok (.iconst 1, 1) := by decide +kernel
theorem dX8_findDealing_135 : decode cX8_findDealing 135 = .ok (.iaload, 1) := by decide +kernel
theorem dX8_findDealing_136 : decode cX8_findDealing 136 = .ok (.if_icmp .ge 50, 3) := by decide +kernel
theorem dX8_findDealing_139 : decode cX8_findDealing 139 = .ok (.iload_n 3, 1) := by decide +kernel
theorem dX8_findDealing_140 : decode cX8_findDealing 140 = .ok (.iload 4, 2) := by decide +kernel
theorem dX8_findDealing_142 : decode cX8_findDealing 142 = .ok (.iconst (-1), 1) := by decide +kernel
theorem dX8_findDealing_143 : decode cX8_findDealing 143 = .ok (.ixor, 1) := by decide +kernel
theorem dX8_findDealing_144 : decode cX8_findDealing 144 = .ok (.iand, 1) := by decide +kernel
theorem dX8_findDealing_145 : decode cX8_findDealing 145 = .ok (.iconst 1, 1) := by decide +kernel
theorem dX8_findDealing_146 : decode cX8_findDealing 146 = .ok (.iload 6, 2) := by decide +kernel
theorem dX8_findDealing_148 : decode cX8_findDealing 148 = .ok (.ishl, 1) := by decide +kernel
theorem dX8_findDealing_149 : decode cX8_findDealing 149 = .ok (.iand, 1) := by decide +kernel
theorem dX8_findDealing_150 : decode cX8_findDealing 150 = .ok (.ifCond .eq 30, 3) := by decide +kernel
theorem dX8_findDealing_153 : decode cX8_findDealing 153 = .ok (.aload_n 0, 1) := by decide +kernel
theorem dX8_findDealing_154 : decode cX8_findDealing 154 = .ok (.iload_n 2, 1) := by decide +kernel
theorem dX8_findDealing_155 : decode cX8_findDealing 155 = .ok (.iload 4, 2) := by decide +kernel
theorem dX8_findDealing_157 : decode cX8_findDealing 157 = .ok (.iload 6, 2) := by decide +kernel
theorem dX8_findDealing_159 : decode cX8_findDealing 159 = .ok (.invokevirtual 176, 3) := by decide +kernel
theorem dX8_findDealing_162 : decode cX8_findDealing 162 = .ok (.istore 7, 2) := by decide +kernel
theorem dX8_findDealing_164 : decode cX8_findDealing 164 = .ok (.iload 7, 2) := by decide +kernel
theorem dX8_findDealing_166 : decode cX8_findDealing 166 = .ok (.iload 5, 2) := by decide +kernel
theorem dX8_findDealing_168 : decode cX8_findDealing 168 = .ok (.if_icmp .le 8, 3) := by decide +kernel
theorem dX8_findDealing_171 : decode cX8_findDealing 171 = .ok (.iload 7, 2) := by decide +kernel
theorem dX8_findDealing_173 : decode cX8_findDealing 173 = .ok (.goto 5, 3) := by decide +kernel
theorem dX8_findDealing_176 : decode cX8_findDealing 176 = .ok (.iload 5, 2) := by decide +kernel
theorem dX8_findDealing_178 : decode cX8_findDealing 178 = .ok (.istore 5, 2) := by decide +kernel
theorem dX8_findDealing_180 : decode cX8_findDealing 180 = .ok (.iinc 6 1, 3) := by decide +kernel
theorem dX8_findDealing_183 : decode cX8_findDealing 183 = .ok (.goto (-55), 3) := by decide +kernel
theorem dX8_findDealing_186 : decode cX8_findDealing 186 = .ok (.aload_n 0, 1) := by decide +kernel
theorem dX8_findDealing_187 : decode cX8_findDealing 187 = .ok (.getfield 26, 3) := by decide +kernel
theorem dX8_findDealing_190 : decode cX8_findDealing 190 = .ok (.sipush 1024, 3) := by decide +kernel
theorem dX8_findDealing_193 : decode cX8_findDealing 193 = .ok (.iload_n 2, 1) := by decide +kernel
theorem dX8_findDealing_194 : decode cX8_findDealing 194 = .ok (.imul, 1) := by decide +kernel
theorem dX8_findDealing_195 : decode cX8_findDealing 195 = .ok (.iload 4, 2) := by decide +kernel
theorem dX8_findDealing_197 : decode cX8_findDealing 197 = .ok (.iadd, 1) := by decide +kernel
theorem dX8_findDealing_198 : decode cX8_findDealing 198 = .ok (.iload 5, 2) := by decide +kernel
theorem dX8_findDealing_200 : decode cX8_findDealing 200 = .ok (.iastore, 1) := by decide +kernel
theorem dX8_findDealing_201 : decode cX8_findDealing 201 = .ok (.iinc 4 1, 3) := by decide +kernel
theorem dX8_findDealing_204 : decode cX8_findDealing 204 = .ok (.goto (-109), 3) := by decide +kernel
theorem dX8_findDealing_207 : decode cX8_findDealing 207 = .ok (.iinc 2 (-1), 3) := by decide +kernel
theorem dX8_findDealing_210 : decode cX8_findDealing 210 = .ok (.goto (-165), 3) := by decide +kernel
theorem dX8_findDealing_213 : decode cX8_findDealing 213 = .ok (.iconst 0, 1) := by decide +kernel
theorem dX8_findDealing_214 : decode cX8_findDealing 214 = .ok (.istore_n 2, 1) := by decide +kernel
theorem dX8_findDealing_215 : decode cX8_findDealing 215 = .ok (.iconst 0, 1) := by decide +kernel
theorem dX8_findDealing_216 : decode cX8_findDealing 216 = .ok (.istore_n 3, 1) := by decide +kernel
theorem dX8_findDealing_217 : decode cX8_findDealing 217 = .ok (.iload_n 3, 1) := by decide +kernel
theorem dX8_findDealing_218 : decode cX8_findDealing 218 = .ok (.iload_n 1, 1) := by decide +kernel
theorem dX8_findDealing_219 : decode cX8_findDealing 219 = .ok (.if_icmp .ge 132, 3) := by decide +kernel
theorem dX8_findDealing_222 : decode cX8_findDealing 222 = .ok (.aload_n 0, 1) := by decide +kernel
theorem dX8_findDealing_223 : decode cX8_findDealing 223 = .ok (.getfield 29, 3) := by decide +kernel
theorem dX8_findDealing_226 : decode cX8_findDealing 226 = .ok (.iload_n 3, 1) := by decide +kernel
theorem dX8_findDealing_227 : decode cX8_findDealing 227 = .ok (.iconst (-1), 1) := by decide +kernel
theorem dX8_findDealing_228 : decode cX8_findDealing 228 = .ok (.iastore, 1) := by decide +kernel
theorem dX8_findDealing_229 : decode cX8_findDealing 229 = .ok (.aload_n 0, 1) := by decide +kernel
theorem dX8_findDealing_230 : decode cX8_findDealing 230 = .ok (.getfield 9, 3) := by decide +kernel
theorem dX8_findDealing_233 : decode cX8_findDealing 233 = .ok (.iconst 1, 1) := by decide +kernel
theorem dX8_findDealing_234 : decode cX8_findDealing 234 = .ok (.iaload, 1) := by decide +kernel
theorem dX8_findDealing_235 : decode cX8_findDealing 235 = .ok (.iconst 1, 1) := by decide +kernel
theorem dX8_findDealing_236 : decode cX8_findDealing 236 = .ok (.isub, 1) := by decide +kernel
theorem dX8_findDealing_237 : decode cX8_findDealing 237 = .ok (.istore 4, 2) := by decide +kernel
theorem dX8_findDealing_239 : decode cX8_findDealing 239 = .ok (.iload 4, 2) := by decide +kernel
theorem dX8_findDealing_241 : decode cX8_findDealing 241 = .ok (.ifCond .lt 80, 3) := by decide +kernel
theorem dX8_findDealing_244 : decode cX8_findDealing 244 = .ok (.iload_n 2, 1) := by decide +kernel
theorem dX8_findDealing_245 : decode cX8_findDealing 245 = .ok (.iload 4, 2) := by decide +kernel
theorem dX8_findDealing_247 : decode cX8_findDealing 247 = .ok (.ishr, 1) := by decide +kernel
theorem dX8_findDealing_248 : decode cX8_findDealing 248 = .ok (.iconst 1, 1) := by decide +kernel
theorem dX8_findDealing_249 : decode cX8_findDealing 249 = .ok (.iand, 1) := by decide +kernel
theorem dX8_findDealing_250 : decode cX8_findDealing 250 = .ok (.ifCond .ne 40, 3) := by decide +kernel
theorem dX8_findDealing_253 : decode cX8_findDealing 253 = .ok (.aload_n 0, 1) := by decide +kernel
theorem dX8_findDealing_254 : decode cX8_findDealing 254 = .ok (.iload_n 3, 1) := by decide +kernel
theorem dX8_findDealing_255 : decode cX8_findDealing 255 = .ok (.iload 4, 2) := by decide +kernel
theorem dX8_findDealing_257 : decode cX8_findDealing 257 = .ok (.invokevirtual 170, 3) := by decide +kernel
theorem dX8_findDealing_260 : decode cX8_findDealing 260 = .ok (.ifCond .eq 30, 3) := by decide +kernel
theorem dX8_findDealing_263 : decode cX8_findDealing 263 = .ok (.aload_n 0, 1) := by decide +kernel
theorem dX8_findDealing_264 : decode cX8_findDealing 264 = .ok (.iload_n 3, 1) := by decide +kernel
theorem dX8_findDealing_265 : decode cX8_findDealing 265 = .ok (.iload_n 2, 1) := by decide +kernel
theorem dX8_findDealing_266 : decode cX8_findDealing 266 = .ok (.iload 4, 2) := by decide +kernel
theorem dX8_findDealing_268 : decode cX8_findDealing 268 = .ok (.invokevirtual 176, 3) := by decide +kernel
theorem dX8_findDealing_271 : decode cX8_findDealing 271 = .ok (.aload_n 0, 1) := by decide +kernel
theorem dX8_findDealing_272 : decode cX8_findDealing 272 = .ok (.getfield 26, 3) := by decide +kernel
theorem dX8_findDealing_275 : decode cX8_findDealing 275 = .ok (.sipush 1024, 3) := by decide +kernel
theorem dX8_findDealing_278 : decode cX8_findDealing 278 = .ok (.iload_n 3, 1) := by decide +kernel
theorem dX8_findDealing_279 : decode cX8_findDealing 279 = .ok (.imul, 1) := by decide +kernel
theorem dX8_findDealing_280 : decode cX8_findDealing 280 = .ok (.iload_n 2, 1) := by decide +kernel
theorem dX8_findDealing_281 : decode cX8_findDealing 281 = .ok (.iadd, 1) := by decide +kernel
theorem dX8_findDealing_282 : decode cX8_findDealing 282 = .ok (.iaload, 1) := by decide +kernel
theorem dX8_findDealing_283 : decode cX8_findDealing 283 = .ok (.if_icmp .ne 7, 3) := by decide +kernel
theorem dX8_findDealing_286 : decode cX8_findDealing 286 = .ok (.iconst 1, 1) := by decide +kernel
theorem dX8_findDealing_287 : decode cX8_findDealing 287 = .ok (.goto 4, 3) := by decide +kernel
theorem dX8_findDealing_290 : decode cX8_findDealing 290 = .ok (.iconst 0, 1) := by decide +kernel
theorem dX8_findDealing_291 : decode cX8_findDealing 291 = .ok (.istore 5, 2) := by decide +kernel
theorem dX8_findDealing_293 : decode cX8_findDealing 293 = .ok (.aload_n 0, 1) := by decide +kernel
theorem dX8_findDealing_294 : decode cX8_findDealing 294 = .ok (.getfield 29, 3) := by decide +kernel
theorem dX8_findDealing_297 : decode cX8_findDealing 297 = .ok (.iload_n 3, 1) := by decide +kernel
theorem dX8_findDealing_298 : decode cX8_findDealing 298 = .ok (.iload 5, 2) := by decide +kernel
theorem dX8_findDealing_300 : decode cX8_findDealing 300 = .ok (.ifCond .eq 8, 3) := by decide +kernel
theorem dX8_findDealing_303 : decode cX8_findDealing 303 = .ok (.iload 4, 2) := by decide +kernel
theorem dX8_findDealing_305 : decode cX8_findDealing 305 = .ok (.goto 9, 3) := by decide +kernel
theorem dX8_findDealing_308 : decode cX8_findDealing 308 = .ok (.aload_n 0, 1) := by decide +kernel
theorem dX8_findDealing_309 : decode cX8_findDealing 309 = .ok (.getfield 29, 3) := by decide +kernel
theorem dX8_findDealing_312 : decode cX8_findDealing 312 = .ok (.iload_n 3, 1) := by decide +kernel
theorem dX8_findDealing_313 : decode cX8_findDealing 313 = .ok (.iaload, 1) := by decide +kernel
theorem dX8_findDealing_314 : decode cX8_findDealing 314 = .ok (.iastore, 1) := by decide +kernel
theorem dX8_findDealing_315 : decode cX8_findDealing 315 = .ok (.iinc 4 (-1), 3) := by decide +kernel
theorem dX8_findDealing_318 : decode cX8_findDealing 318 = .ok (.goto (-79), 3) := by decide +kernel
theorem dX8_findDealing_321 : decode cX8_findDealing 321 = .ok (.iload_n 2, 1) := by decide +kernel
theorem dX8_findDealing_322 : decode cX8_findDealing 322 = .ok (.aload_n 0, 1) := by decide +kernel
theorem dX8_findDealing_323 : decode cX8_findDealing 323 = .ok (.getfield 29, 3) := by decide +kernel
theorem dX8_findDealing_326 : decode cX8_findDealing 326 = .ok (.iload_n 3, 1) := by decide +kernel
theorem dX8_findDealing_327 : decode cX8_findDealing 327 = .ok (.iaload, 1) := by decide +kernel
theorem dX8_findDealing_328 : decode cX8_findDealing 328 = .ok (.ifCond .ge 7, 3) := by decide +kernel
theorem dX8_findDealing_331 : decode cX8_findDealing 331 = .ok (.iconst 0, 1) := by decide +kernel
theorem dX8_findDealing_332 : decode cX8_findDealing 332 = .ok (.goto 11, 3) := by decide +kernel
theorem dX8_findDealing_335 : decode cX8_findDealing 335 = .ok (.iconst 1, 1) := by decide +kernel
theorem dX8_findDealing_336 : decode cX8_findDealing 336 = .ok (.aload_n 0, 1) := by decide +kernel
theorem dX8_findDealing_337 : decode cX8_findDealing 337 = .ok (.getfield 29, 3) := by decide +kernel
theorem dX8_findDealing_340 : decode cX8_findDealing 340 = .ok (.iload_n 3, 1) := by decide +kernel
theorem dX8_findDealing_341 : decode cX8_findDealing 341 = .ok (.iaload, 1) := by decide +kernel
theorem dX8_findDealing_342 : decode cX8_findDealing 342 = .ok (.ishl, 1) := by decide +kernel
theorem dX8_findDealing_343 : decode cX8_findDealing 343 = .ok (.ior, 1) := by decide +kernel
theorem dX8_findDealing_344 : decode cX8_findDealing 344 = .ok (.istore_n 2, 1) := by decide +kernel
theorem dX8_findDealing_345 : decode cX8_findDealing 345 = .ok (.iinc 3 1, 3) := by decide +kernel
theorem dX8_findDealing_348 : decode cX8_findDealing 348 = .ok (.goto (-131), 3) := by decide +kernel
theorem dX8_findDealing_351 : decode cX8_findDealing 351 = .ok (.return_, 1) := by decide +kernel
theorem dX8_dealing_0 : decode cX8_dealing 0 = .ok (.iload_n 1, 1) := by decide +kernel
theorem dX8_dealing_1 : decode cX8_dealing 1 = .ok (.iconst 0, 1) := by decide +kernel
theorem dX8_dealing_2 : decode cX8_dealing 2 = .ok (.iconst 1, 1) := by decide +kernel
theorem dX8_dealing_3 : decode cX8_dealing 3 = .ok (.aload_n 0, 1) := by decide +kernel
theorem dX8_dealing_4 : decode cX8_dealing 4 = .ok (.getfield 9, 3) := by decide +kernel
theorem dX8_dealing_7 : decode cX8_dealing 7 = .ok (.bipush 7, 2) := by decide +kernel
theorem dX8_dealing_9 : decode cX8_dealing 9 = .ok (.iaload, 1) := by decide +kernel
theorem dX8_dealing_10 : decode cX8_dealing 10 = .ok (.iadd, 1) := by decide +kernel
theorem dX8_dealing_11 : decode cX8_dealing 11 = .ok (.invokestatic 92, 3) := by decide +kernel
theorem dX8_dealing_14 : decode cX8_dealing 14 = .ok (.ifCond .ne 6, 3) := by decide +kernel
theorem dX8_dealing_17 : decode cX8_dealing 17 = .ok (.ldc 111, 2) := by decide +kernel
theorem dX8_dealing_19 : decode cX8_dealing 19 = .ok (.ireturn, 1) := by decide +kernel
theorem dX8_dealing_20 : decode cX8_dealing 20 = .ok (.iload_n 1, 1) := by decide +kernel
theorem dX8_dealing_21 : decode cX8_dealing 21 = .ok (.ifCond .ne 9, 3) := by decide +kernel
theorem dX8_dealing_24 : decode cX8_dealing 24 = .ok (.aload_n 0, 1) := by decide +kernel
theorem dX8_dealing_25 : decode cX8_dealing 25 = .ok (.iconst (-1), 1) := by decide +kernel
theorem dX8_dealing_26 : decode cX8_dealing 26 = .ok (.invokevirtual 179, 3) := by decide +kernel
theorem dX8_dealing_29 : decode cX8_dealing 29 = .ok (.ireturn, 1) := by decide +kernel
theorem dX8_dealing_30 : decode cX8_dealing 30 = .ok (.aload_n 0, 1) := by decide +kernel
theorem dX8_dealing_31 : decode cX8_dealing 31 = .ok (.invokevirtual 182, 3) := by decide +kernel
theorem dX8_dealing_34 : decode cX8_dealing 34 = .ok (.iload_n 1, 1) := by decide +kernel
theorem dX8_dealing_35 : decode cX8_dealing 35 = .ok (.iconst 1, 1) := by decide +kernel
theorem dX8_dealing_36 : decode cX8_dealing 36 = .ok (.if_icmp .le 15, 3) := by decide +kernel
theorem dX8_dealing_39 : decode cX8_dealing 39 = .ok (.aload_n 0, 1) := by decide +kernel
theorem dX8_dealing_40 : decode cX8_dealing 40 = .ok (.getfield 29, 3) := by decide +kernel
theorem dX8_dealing_43 : decode cX8_dealing 43 = .ok (.iload_n 1, 1) := by decide +kernel
theorem dX8_dealing_44 : decode cX8_dealing 44 = .ok (.iconst 2, 1) := by decide +kernel
theorem dX8_dealing_45 : decode cX8_dealing 45 = .ok (.isub, 1) := by decide +kernel
theorem dX8_dealing_46 : decode cX8_dealing 46 = .ok (.iaload, 1) := by decide +kernel
theorem dX8_dealing_47 : decode cX8_dealing 47 = .ok (.invokestatic 185, 3) := by decide +kernel
theorem dX8_dealing_50 : decode cX8_dealing 50 = .ok (.ireturn, 1) := by decide +kernel
theorem dX8_dealing_51 : decode cX8_dealing 51 = .ok (.iconst 0, 1) := by decide +kernel
theorem dX8_dealing_52 : decode cX8_dealing 52 = .ok (.istore_n 2, 1) := by decide +kernel
theorem dX8_dealing_53 : decode cX8_dealing 53 = .ok (.iconst 0, 1) := by decide +kernel
theorem dX8_dealing_54 : decode cX8_dealing 54 = .ok (.istore_n 3, 1) := by decide +kernel
theorem dX8_dealing_55 : decode cX8_dealing 55 = .ok (.iload_n 3, 1) := by decide +kernel
theorem dX8_dealing_56 : decode cX8_dealing 56 = .ok (.aload_n 0, 1) := by decide +kernel
theorem dX8_dealing_57 : decode cX8_dealing 57 = .ok (.getfield 9, 3) := by decide +kernel
theorem dX8_dealing_60 : decode cX8_dealing 60 = .ok (.bipush 7, 2) := by decide +kernel
theorem dX8_dealing_62 : decode cX8_dealing 62 = .ok (.iaload, 1) := by decide +kernel
theorem dX8_dealing_63 : decode cX8_dealing 63 = .ok (.if_icmp .ge 46, 3) := by decide +kernel
theorem dX8_dealing_66 : decode cX8_dealing 66 = .ok (.iload_n 2, 1) := by decide +kernel
theorem dX8_dealing_67 : decode cX8_dealing 67 = .ok (.aload_n 0, 1) := by decide +kernel
theorem dX8_dealing_68 : decode cX8_dealing 68 = .ok (.getfield 29, 3) := by decide +kernel
theorem dX8_dealing_71 : decode cX8_dealing 71 = .ok (.iload_n 3, 1) := by decide +kernel
theorem dX8_dealing_72 : decode cX8_dealing 72 = .ok (.iaload, 1) := by decide +kernel
theorem dX8_dealing_73 : decode cX8_dealing 73 = .ok (.ifCond .ge 7, 3) := by decide +kernel
theorem dX8_dealing_76 : decode cX8_dealing 76 = .ok (.iconst 0, 1) := by decide +kernel
theorem dX8_dealing_77 : decode cX8_dealing 77 = .ok (.goto 24, 3) := by decide +kernel
theorem dX8_dealing_80 : decode cX8_dealing 80 = .ok (.aload_n 0, 1) := by decide +kernel
theorem dX8_dealing_81 : decode cX8_dealing 81 = .ok (.aload_n 0, 1) := by decide +kernel
theorem dX8_dealing_82 : decode cX8_dealing 82 = .ok (.getfield 29, 3) := by decide +kernel
theorem dX8_dealing_85 : decode cX8_dealing 85 = .ok (.iload_n 3, 1) := by decide +kernel
theorem dX8_dealing_86 : decode cX8_dealing 86 = .ok (.iaload, 1) := by decide +kernel
theorem dX8_dealing_87 : decode cX8_dealing 87 = .ok (.aload_n 0, 1) := by decide +kernel
theorem dX8_dealing_88 : decode cX8_dealing 88 = .ok (.getfield 9, 3) := by decide +kernel
theorem dX8_dealing_91 : decode cX8_dealing 91 = .ok (.bipush 9, 2) := by decide +kernel
theorem dX8_dealing_93 : decode cX8_dealing 93 = .ok (.iconst 2, 1) := by decide +kernel
theorem dX8_dealing_94 : decode cX8_dealing 94 = .ok (.iload_n 3, 1) := by decide +kernel
theorem dX8_dealing_95 : decode cX8_dealing 95 = .ok (.imul, 1) := by decide +kernel
theorem dX8_dealing_96 : decode cX8_dealing 96 = .ok (.iadd, 1) := by decide +kernel
theorem dX8_dealing_97 : decode cX8_dealing 97 = .ok (.iaload, 1) := by decide +kernel
theorem dX8_dealing_98 : decode cX8_dealing 98 = .ok (.invokevirtual 154, 3) := by decide +kernel
theorem dX8_dealing_101 : decode cX8_dealing 101 = .ok (.iadd, 1) := by decide +kernel
theorem dX8_dealing_102 : decode cX8_dealing 102 = .ok (.istore_n 2, 1) := by decide +kernel
theorem dX8_dealing_103 : decode cX8_dealing 103 = .ok (.iinc 3 1, 3) := by decide +kernel
theorem dX8_dealing_106 : decode cX8_dealing 106 = .ok (.goto (-51), 3) := by decide +kernel
theorem dX8_dealing_109 : decode cX8_dealing 109 = .ok (.iload_n 2, 1) := by decide +kernel
theorem dX8_dealing_110 : decode cX8_dealing 110 = .ok (.ireturn, 1) := by decide +kernel
theorem dX8_adds_0 : decode cX8_adds 0 = .ok (.aload_n 0, 1) := by decide +kernel
theorem dX8_adds_1 : decode cX8_adds 1 = .ok (.iload_n 1, 1) := by decide +kernel
theorem dX8_adds_2 : decode cX8_adds 2 = .ok (.invokevirtual 121, 3) := by decide +kernel
theorem dX8_adds_5 : decode cX8_adds 5 = .ok (.ifCond .eq 17, 3) := by decide +kernel
theorem dX8_adds_8 : decode cX8_adds 8 = .ok (.aload_n 0, 1) := by decide +kernel
theorem dX8_adds_9 : decode cX8_adds 9 = .ok (.iconst (-1), 1) := by decide +kernel
theorem dX8_adds_10 : decode cX8_adds 10 = .ok (.invokevirtual 179, 3) := by decide +kernel
theorem dX8_adds_13 : decode cX8_adds 13 = .ok (.aload_n 0, 1) := by decide +kernel
theorem dX8_adds_14 : decode cX8_adds 14 = .ok (.iload_n 1, 1) := by decide +kernel
theorem dX8_adds_15 : decode cX8_adds 15 = .ok (.invokevirtual 179, 3) := by decide +kernel
theorem dX8_adds_18 : decode cX8_adds 18 = .ok (.isub, 1) := by decide +kernel
theorem dX8_adds_19 : decode cX8_adds 19 = .ok (.goto 5, 3) := by decide +kernel
theorem dX8_adds_22 : decode cX8_adds 22 = .ok (.ldc 111, 2) := by decide +kernel
theorem dX8_adds_24 : decode cX8_adds 24 = .ok (.ireturn, 1) := by decide +kernel
theorem dX8_frees_0 : decode cX8_frees 0 = .ok (.iload_n 1, 1) := by decide +kernel
theorem dX8_frees_1 : decode cX8_frees 1 = .ok (.invokestatic 104, 3) := by decide +kernel
theorem dX8_frees_4 : decode cX8_frees 4 = .ok (.ifCond .ne 6, 3) := by decide +kernel
theorem dX8_frees_7 : decode cX8_frees 7 = .ok (.ldc 111, 2) := by decide +kernel
theorem dX8_frees_9 : decode cX8_frees 9 = .ok (.ireturn, 1) := by decide +kernel
theorem dX8_frees_10 : decode cX8_frees 10 = .ok (.aload_n 0, 1) := by decide +kernel
theorem dX8_frees_11 : decode cX8_frees 11 = .ok (.iconst (-1), 1) := by decide +kernel
theorem dX8_frees_12 : decode cX8_frees 12 = .ok (.invokevirtual 179, 3) := by decide +kernel
theorem dX8_frees_15 : decode cX8_frees 15 = .ok (.istore_n 2, 1) := by decide +kernel
theorem dX8_frees_16 : decode cX8_frees 16 = .ok (.ldc 91, 2) := by decide +kernel
theorem dX8_frees_18 : decode cX8_frees 18 = .ok (.istore_n 3, 1) := by decide +kernel
theorem dX8_frees_19 : decode cX8_frees 19 = .ok (.bipush 99, 2) := by decide +kernel
theorem dX8_frees_21 : decode cX8_frees 21 = .ok (.istore 4, 2) := by decide +kernel
theorem dX8_frees_23 : decode cX8_frees 23 = .ok (.iload 4, 2) := by decide +kernel
theorem dX8_frees_25 : decode cX8_frees 25 = .ok (.ifCond .le 46, 3) := by decide +kernel
theorem dX8_frees_28 : decode cX8_frees 28 = .ok (.aload_n 0, 1) := by decide +kernel
theorem dX8_frees_29 : decode cX8_frees 29 = .ok (.iconst 0, 1) := by decide +kernel
theorem dX8_frees_30 : decode cX8_frees 30 = .ok (.iload_n 1, 1) := by decide +kernel
theorem dX8_frees_31 : decode cX8_frees 31 = .ok (.iload 4, 2) := by decide +kernel
theorem dX8_frees_33 : decode cX8_frees 33 = .ok (.iconst 0, 1) := by decide +kernel
theorem dX8_frees_34 : decode cX8_frees 34 = .ok (.invokevirtual 113, 3) := by decide +kernel
theorem dX8_frees_37 : decode cX8_frees 37 = .ok (.istore 5, 2) := by decide +kernel
theorem dX8_frees_39 : decode cX8_frees 39 = .ok (.aload_n 0, 1) := by decide +kernel
theorem dX8_frees_40 : decode cX8_frees 40 = .ok (.iconst (-1), 1) := by decide +kernel
theorem dX8_frees_41 : decode cX8_frees 41 = .ok (.invokevirtual 179, 3) := by decide +kernel
theorem dX8_frees_44 : decode cX8_frees 44 = .ok (.iload_n 2, 1) := by decide +kernel
theorem dX8_frees_45 : decode cX8_frees 45 = .ok (.if_icmp .le 8, 3) := by decide +kernel
theorem dX8_frees_48 : decode cX8_frees 48 = .ok (.iload 4, 2) := by decide +kernel
theorem dX8_frees_50 : decode cX8_frees 50 = .ok (.goto 4, 3) := by decide +kernel
theorem dX8_frees_53 : decode cX8_frees 53 = .ok (.iload_n 3, 1) := by decide +kernel
theorem dX8_frees_54 : decode cX8_frees 54 = .ok (.istore_n 3, 1) := by decide +kernel
theorem dX8_frees_55 : decode cX8_frees 55 = .ok (.aload_n 0, 1) := by decide +kernel
theorem dX8_frees_56 : decode cX8_frees 56 = .ok (.getfield 9, 3) := by decide +kernel
theorem dX8_frees_59 : decode cX8_frees 59 = .ok (.iconst 1, 1) := by decide +kernel
theorem dX8_frees_60 : decode cX8_frees 60 = .ok (.dup2, 1) := by decide +kernel
theorem dX8_frees_61 : decode cX8_frees 61 = .ok (.iaload, 1) := by decide +kernel
theorem dX8_frees_62 : decode cX8_frees 62 = .ok (.iconst 1, 1) := by decide +kernel
theorem dX8_frees_63 : decode cX8_frees 63 = .ok (.isub, 1) := by decide +kernel
theorem dX8_frees_64 : decode cX8_frees 64 = .ok (.iastore, 1) := by decide +kernel
theorem dX8_frees_65 : decode cX8_frees 65 = .ok (.iinc 4 (-1), 3) := by decide +kernel
theorem dX8_frees_68 : decode cX8_frees 68 = .ok (.goto (-45), 3) := by decide +kernel
theorem dX8_frees_71 : decode cX8_frees 71 = .ok (.iload_n 3, 1) := by decide +kernel
theorem dX8_frees_72 : decode cX8_frees 72 = .ok (.ireturn, 1) := by decide +kernel
theorem dX8_filled_0 : decode cX8_filled 0 = .ok (.iconst 0, 1) := by decide +kernel
theorem dX8_filled_1 : decode cX8_filled 1 = .ok (.istore_n 1, 1) := by decide +kernel
theorem dX8_filled_2 : decode cX8_filled 2 = .ok (.iconst 0, 1) := by decide +kernel
theorem dX8_filled_3 : decode cX8_filled 3 = .ok (.istore_n 2, 1) := by decide +kernel
theorem dX8_filled_4 : decode cX8_filled 4 = .ok (.iload_n 2, 1) := by decide +kernel
theorem dX8_filled_5 : decode cX8_filled 5 = .ok (.aload_n 0, 1) := by decide +kernel
theorem dX8_filled_6 : decode cX8_filled 6 = .ok (.getfield 9, 3) := by decide +kernel
theorem dX8_filled_9 : decode cX8_filled 9 = .ok (.iconst 1, 1) := by decide +kernel
theorem dX8_filled_10 : decode cX8_filled 10 = .ok (.iaload, 1) := by decide +kernel
theorem dX8_filled_11 : decode cX8_filled 11 = .ok (.if_icmp .ge 26, 3) := by decide +kernel
theorem dX8_filled_14 : decode cX8_filled 14 = .ok (.iload_n 1, 1) := by decide +kernel
theorem dX8_filled_15 : decode cX8_filled 15 = .ok (.aload_n 0, 1) := by decide +kernel
theorem dX8_filled_16 : decode cX8_filled 16 = .ok (.iload_n 2, 1) := by decide +kernel
theorem dX8_filled_17 : decode cX8_filled 17 = .ok (.iconst 2, 1) := by decide +kernel
theorem dX8_filled_18 : decode cX8_filled 18 = .ok (.invokevirtual 117, 3) := by decide +kernel
theorem dX8_filled_21 : decode cX8_filled 21 = .ok (.ifCond .ne 7, 3) := by decide +kernel
theorem dX8_filled_24 : decode cX8_filled 24 = .ok (.iconst 1, 1) := by decide +kernel
theorem dX8_filled_25 : decode cX8_filled 25 = .ok (.goto 4, 3) := by decide +kernel
theorem dX8_filled_28 : decode cX8_filled 28 = .ok (.iconst 0, 1) := by decide +kernel
theorem dX8_filled_29 : decode cX8_filled 29 = .ok (.iadd, 1) := by decide +kernel
theorem dX8_filled_30 : decode cX8_filled 30 = .ok (.istore_n 1, 1) := by decide +kernel
theorem dX8_filled_31 : decode cX8_filled 31 = .ok (.iinc 2 1, 3) := by decide +kernel
theorem dX8_filled_34 : decode cX8_filled 34 = .ok (.goto (-30), 3) := by decide +kernel
theorem dX8_filled_37 : decode cX8_filled 37 = .ok (.iload_n 1, 1) := by decide +kernel
theorem dX8_filled_38 : decode cX8_filled 38 = .ok (.ireturn, 1) := by decide +kernel
theorem dX8_depthAll_0 : decode cX8_depthAll 0 = .ok (.iconst 0, 1) := by decide +kernel
theorem dX8_depthAll_1 : decode cX8_depthAll 1 = .ok (.istore_n 1, 1) := by decide +kernel
theorem dX8_depthAll_2 : decode cX8_depthAll 2 = .ok (.iconst 0, 1) := by decide +kernel
theorem dX8_depthAll_3 : decode cX8_depthAll 3 = .ok (.istore_n 2, 1) := by decide +kernel
theorem dX8_depthAll_4 : decode cX8_depthAll 4 = .ok (.iload_n 2, 1) := by decide +kernel
theorem dX8_depthAll_5 : decode cX8_depthAll 5 = .ok (.aload_n 0, 1) := by decide +kernel
theorem dX8_depthAll_6 : decode cX8_depthAll 6 = .ok (.getfield 9, 3) := by decide +kernel
theorem dX8_depthAll_9 : decode cX8_depthAll 9 = .ok (.iconst 1, 1) := by decide +kernel
theorem dX8_depthAll_10 : decode cX8_depthAll 10 = .ok (.iaload, 1) := by decide +kernel
theorem dX8_depthAll_11 : decode cX8_depthAll 11 = .ok (.if_icmp .ge 18, 3) := by decide +kernel
theorem dX8_depthAll_14 : decode cX8_depthAll 14 = .ok (.iload_n 1, 1) := by decide +kernel
theorem dX8_depthAll_15 : decode cX8_depthAll 15 = .ok (.aload_n 0, 1) := by decide +kernel
theorem dX8_depthAll_16 : decode cX8_depthAll 16 = .ok (.iload_n 2, 1) := by decide +kernel
theorem dX8_depthAll_17 : decode cX8_depthAll 17 = .ok (.iconst 2, 1) := by decide +kernel
theorem dX8_depthAll_18 : decode cX8_depthAll 18 = .ok (.invokevirtual 117, 3) := by decide +kernel
theorem dX8_depthAll_21 : decode cX8_depthAll 21 = .ok (.iadd, 1) := by decide +kernel
theorem dX8_depthAll_22 : decode cX8_depthAll 22 = .ok (.istore_n 1, 1) := by decide +kernel
theorem dX8_depthAll_23 : decode cX8_depthAll 23 = .ok (.iinc 2 1, 3) := by decide +kernel
theorem dX8_depthAll_26 : decode cX8_depthAll 26 = .ok (.goto (-22), 3) := by decide +kernel
theorem dX8_depthAll_29 : decode cX8_depthAll 29 = .ok (.iload_n 1, 1) := by decide +kernel
theorem dX8_depthAll_30 : decode cX8_depthAll 30 = .ok (.ireturn, 1) := by decide +kernel
theorem dX8_day_0 : decode cX8_day 0 = .ok (.iconst 0, 1) := by decide +kernel
theorem dX8_day_1 : decode cX8_day 1 = .ok (.istore_n 1, 1) := by decide +kernel
theorem dX8_day_2 : decode cX8_day 2 = .ok (.iload_n 1, 1) := by decide +kernel
theorem dX8_day_3 : decode cX8_day 3 = .ok (.aload_n 0, 1) := by decide +kernel
theorem dX8_day_4 : decode cX8_day 4 = .ok (.getfield 9, 3) := by decide +kernel
theorem dX8_day_7 : decode cX8_day 7 = .ok (.iconst 1, 1) := by decide +kernel
theorem dX8_day_8 : decode cX8_day 8 = .ok (.iaload, 1) := by decide +kernel
theorem dX8_day_9 : decode cX8_day 9 = .ok (.if_icmp .ge 87, 3) := by decide +kernel
theorem dX8_day_12 : decode cX8_day 12 = .ok (.aload_n 0, 1) := by decide +kernel
theorem dX8_day_13 : decode cX8_day 13 = .ok (.iload_n 1, 1) := by decide +kernel
theorem dX8_day_14 : decode cX8_day 14 = .ok (.iconst 2, 1) := by decide +kernel
theorem dX8_day_15 : decode cX8_day 15 = .ok (.invokevirtual 117, 3) := by decide +kernel
theorem dX8_day_18 : decode cX8_day 18 = .ok (.ifCond .le 72, 3) := by decide +kernel
theorem dX8_day_21 : decode cX8_day 21 = .ok (.aload_n 0, 1) := by decide +kernel
theorem dX8_day_22 : decode cX8_day 22 = .ok (.iload_n 1, 1) := by decide +kernel
theorem dX8_day_23 : decode cX8_day 23 = .ok (.aload_n 0, 1) := by decide +kernel
theorem dX8_day_24 : decode cX8_day 24 = .ok (.invokevirtual 150, 3) := by decide +kernel
theorem dX8_day_27 : decode cX8_day 27 = .ok (.bipush 10, 2) := by decide +kernel
theorem dX8_day_29 : decode cX8_day 29 = .ok (.irem, 1) := by decide +kernel
theorem dX8_day_30 : decode cX8_day 30 = .ok (.invokevirtual 146, 3) := by decide +kernel
theorem dX8_day_33 : decode cX8_day 33 = .ok (.iconst 0, 1) := by decide +kernel
theorem dX8_day_34 : decode cX8_day 34 = .ok (.aload_n 0, 1) := by decide +kernel
theorem dX8_day_35 : decode cX8_day 35 = .ok (.iload_n 1, 1) := by decide +kernel
theorem dX8_day_36 : decode cX8_day 36 = .ok (.iconst 2, 1) := by decide +kernel
theorem dX8_day_37 : decode cX8_day 37 = .ok (.invokevirtual 117, 3) := by decide +kernel
theorem dX8_day_40 : decode cX8_day 40 = .ok (.invokestatic 142, 3) := by decide +kernel
theorem dX8_day_43 : decode cX8_day 43 = .ok (.istore_n 2, 1) := by decide +kernel
theorem dX8_day_44 : decode cX8_day 44 = .ok (.aload_n 0, 1) := by decide +kernel
theorem dX8_day_45 : decode cX8_day 45 = .ok (.iload_n 1, 1) := by decide +kernel
theorem dX8_day_46 : decode cX8_day 46 = .ok (.iconst 2, 1) := by decide +kernel
theorem dX8_day_47 : decode cX8_day 47 = .ok (.aload_n 0, 1) := by decide +kernel
theorem dX8_day_48 : decode cX8_day 48 = .ok (.iload_n 1, 1) := by decide +kernel
theorem dX8_day_49 : decode cX8_day 49 = .ok (.iconst 2, 1) := by decide +kernel
theorem dX8_day_50 : decode cX8_day 50 = .ok (.invokevirtual 117, 3) := by decide +kernel
theorem dX8_day_53 : decode cX8_day 53 = .ok (.iload_n 2, 1) := by decide +kernel
theorem dX8_day_54 : decode cX8_day 54 = .ok (.isub, 1) := by decide +kernel
theorem dX8_day_55 : decode cX8_day 55 = .ok (.invokevirtual 96, 3) := by decide +kernel
theorem dX8_day_58 : decode cX8_day 58 = .ok (.aload_n 0, 1) := by decide +kernel
theorem dX8_day_59 : decode cX8_day 59 = .ok (.getfield 9, 3) := by decide +kernel
theorem dX8_day_62 : decode cX8_day 62 = .ok (.bipush 6, 2) := by decide +kernel
theorem dX8_day_64 : decode cX8_day 64 = .ok (.dup2, 1) := by decide +kernel
theorem dX8_day_65 : decode cX8_day 65 = .ok (.iaload, 1) := by decide +kernel
theorem dX8_day_66 : decode cX8_day 66 = .ok (.iload_n 2, 1) := by decide +kernel
theorem dX8_day_67 : decode cX8_day 67 = .ok (.iadd, 1) := by decide +kernel
theorem dX8_day_68 : decode cX8_day 68 = .ok (.iastore, 1) := by decide +kernel
theorem dX8_day_69 : decode cX8_day 69 = .ok (.aload_n 0, 1) := by decide +kernel
theorem dX8_day_70 : decode cX8_day 70 = .ok (.iload_n 1, 1) := by decide +kernel
theorem dX8_day_71 : decode cX8_day 71 = .ok (.iconst 4, 1) := by decide +kernel
theorem dX8_day_72 : decode cX8_day 72 = .ok (.aload_n 0, 1) := by decide +kernel
theorem dX8_day_73 : decode cX8_day 73 = .ok (.iload_n 1, 1) := by decide +kernel
theorem dX8_day_74 : decode cX8_day 74 = .ok (.iconst 4, 1) := by decide +kernel
theorem dX8_day_75 : decode cX8_day 75 = .ok (.invokevirtual 117, 3) := by decide +kernel
theorem dX8_day_78 : decode cX8_day 78 = .ok (.iconst 1, 1) := by decide +kernel
theorem dX8_day_79 : decode cX8_day 79 = .ok (.iadd, 1) := by decide +kernel
theorem dX8_day_80 : decode cX8_day 80 = .ok (.iconst 0, 1) := by decide +kernel
theorem dX8_day_81 : decode cX8_day 81 = .ok (.sipush 999, 3) := by decide +kernel
theorem dX8_day_84 : decode cX8_day 84 = .ok (.invokestatic 142, 3) := by decide +kernel
theorem dX8_day_87 : decode cX8_day 87 = .ok (.invokevirtual 96, 3) := by decide +kernel
theorem dX8_day_90 : decode cX8_day 90 = .ok (.iinc 1 1, 3) := by decide +kernel
theorem dX8_day_93 : decode cX8_day 93 = .ok (.goto (-91), 3) := by decide +kernel
theorem dX8_day_96 : decode cX8_day 96 = .ok (.aload_n 0, 1) := by decide +kernel
theorem dX8_day_97 : decode cX8_day 97 = .ok (.getfield 9, 3) := by decide +kernel
theorem dX8_day_100 : decode cX8_day 100 = .ok (.iconst 2, 1) := by decide +kernel
theorem dX8_day_101 : decode cX8_day 101 = .ok (.dup2, 1) := by decide +kernel
theorem dX8_day_102 : decode cX8_day 102 = .ok (.iaload, 1) := by decide +kernel
theorem dX8_day_103 : decode cX8_day 103 = .ok (.iconst 1, 1) := by decide +kernel
theorem dX8_day_104 : decode cX8_day 104 = .ok (.iadd, 1) := by decide +kernel
theorem dX8_day_105 : decode cX8_day 105 = .ok (.iastore, 1) := by decide +kernel
theorem dX8_day_106 : decode cX8_day 106 = .ok (.return_, 1) := by decide +kernel
theorem dX8_goesOn_0 : decode cX8_goesOn 0 = .ok (.iconst 0, 1) := by decide +kernel
theorem dX8_goesOn_1 : decode cX8_goesOn 1 = .ok (.istore_n 2, 1) := by decide +kernel
theorem dX8_goesOn_2 : decode cX8_goesOn 2 = .ok (.iload_n 2, 1) := by decide +kernel
theorem dX8_goesOn_3 : decode cX8_goesOn 3 = .ok (.iload_n 1, 1) := by decide +kernel
theorem dX8_goesOn_4 : decode cX8_goesOn 4 = .ok (.if_icmp .ge 13, 3) := by decide +kernel
theorem dX8_goesOn_7 : decode cX8_goesOn 7 = .ok (.aload_n 0, 1) := by decide +kernel
theorem dX8_goesOn_8 : decode cX8_goesOn 8 = .ok (.invokevirtual 188, 3) := by decide +kernel
theorem dX8_goesOn_11 : decode cX8_goesOn 11 = .ok (.iinc 2 1, 3) := by decide +kernel
theorem dX8_goesOn_14 : decode cX8_goesOn 14 = .ok (.goto (-12), 3) := by decide +kernel
theorem dX8_goesOn_17 : decode cX8_goesOn 17 = .ok (.return_, 1) := by decide +kernel
theorem dX8_days_0 : decode cX8_days 0 = .ok (.iload_n 1, 1) := by decide +kernel
theorem dX8_days_1 : decode cX8_days 1 = .ok (.iconst 1, 1) := by decide +kernel
theorem dX8_days_2 : decode cX8_days 2 = .ok (.bipush 100, 2) := by decide +kernel
theorem dX8_days_4 : decode cX8_days 4 = .ok (.invokestatic 92, 3) := by decide +kernel
theorem dX8_days_7 : decode cX8_days 7 = .ok (.ifCond .ne 6, 3) := by decide +kernel
theorem dX8_days_10 : decode cX8_days 10 = .ok (.ldc 111, 2) := by decide +kernel
theorem dX8_days_12 : decode cX8_days 12 = .ok (.ireturn, 1) := by decide +kernel
theorem dX8_days_13 : decode cX8_days 13 = .ok (.aload_n 0, 1) := by decide +kernel
theorem dX8_days_14 : decode cX8_days 14 = .ok (.sipush 9999, 3) := by decide +kernel
theorem dX8_days_17 : decode cX8_days 17 = .ok (.aload_n 0, 1) := by decide +kernel
theorem dX8_days_18 : decode cX8_days 18 = .ok (.getfield 9, 3) := by decide +kernel
theorem dX8_days_21 : decode cX8_days 21 = .ok (.iconst 2, 1) := by decide +kernel
theorem dX8_days_22 : decode cX8_days 22 = .ok (.iaload, 1) := by decide +kernel
theorem dX8_days_23 : decode cX8_days 23 = .ok (.isub, 1) := by decide +kernel
theorem dX8_days_24 : decode cX8_days 24 = .ok (.iconst 0, 1) := by decide +kernel
theorem dX8_days_25 : decode cX8_days 25 = .ok (.iload_n 1, 1) := by decide +kernel
theorem dX8_days_26 : decode cX8_days 26 = .ok (.invokestatic 142, 3) := by decide +kernel
theorem dX8_days_29 : decode cX8_days 29 = .ok (.invokevirtual 191, 3) := by decide +kernel
theorem dX8_days_32 : decode cX8_days 32 = .ok (.aload_n 0, 1) := by decide +kernel
theorem dX8_days_33 : decode cX8_days 33 = .ok (.invokevirtual 195, 3) := by decide +kernel
theorem dX8_days_36 : decode cX8_days 36 = .ok (.ireturn, 1) := by decide +kernel
theorem dX8_thinks_0 : decode cX8_thinks 0 = .ok (.iconst 0, 1) := by decide +kernel
theorem dX8_thinks_1 : decode cX8_thinks 1 = .ok (.istore_n 1, 1) := by decide +kernel
theorem dX8_thinks_2 : decode cX8_thinks 2 = .ok (.iload_n 1, 1) := by decide +kernel
theorem dX8_thinks_3 : decode cX8_thinks 3 = .ok (.bipush 76, 2) := by decide +kernel
theorem dX8_thinks_5 : decode cX8_thinks 5 = .ok (.if_icmp .ge 21, 3) := by decide +kernel
theorem dX8_thinks_8 : decode cX8_thinks 8 = .ok (.aload_n 0, 1) := by decide +kernel
theorem dX8_thinks_9 : decode cX8_thinks 9 = .ok (.getfield 32, 3) := by decide +kernel
theorem dX8_thinks_12 : decode cX8_thinks 12 = .ok (.iload_n 1, 1) := by decide +kernel
theorem dX8_thinks_13 : decode cX8_thinks 13 = .ok (.aload_n 0, 1) := by decide +kernel
theorem dX8_thinks_14 : decode cX8_thinks 14 = .ok (.getfield 9, 3) := by decide +kernel
theorem dX8_thinks_17 : decode cX8_thinks 17 = .ok (.iload_n 1, 1) := by decide +kernel
theorem dX8_thinks_18 : decode cX8_thinks 18 = .ok (.iaload, 1) := by decide +kernel
theorem dX8_thinks_19 : decode cX8_thinks 19 = .ok (.iastore, 1) := by decide +kernel
theorem dX8_thinks_20 : decode cX8_thinks 20 = .ok (.iinc 1 1, 3) := by decide +kernel
theorem dX8_thinks_23 : decode cX8_thinks 23 = .ok (.goto (-21), 3) := by decide +kernel
theorem dX8_thinks_26 : decode cX8_thinks 26 = .ok (.return_, 1) := by decide +kernel
theorem dX8_putsBack_0 : decode cX8_putsBack 0 = .ok (.iconst 0, 1) := by decide +kernel
theorem dX8_putsBack_1 : decode cX8_putsBack 1 = .ok (.istore_n 1, 1) := by decide +kernel
theorem dX8_putsBack_2 : decode cX8_putsBack 2 = .ok (.iload_n 1, 1) := by decide +kernel
theorem dX8_putsBack_3 : decode cX8_putsBack 3 = .ok (.bipush 76, 2) := by decide +kernel
theorem dX8_putsBack_5 : decode cX8_putsBack 5 = .ok (.if_icmp .ge 21, 3) := by decide +kernel
theorem dX8_putsBack_8 : decode cX8_putsBack 8 = .ok (.aload_n 0, 1) := by decide +kernel
theorem dX8_putsBack_9 : decode cX8_putsBack 9 = .ok (.getfield 9, 3) := by decide +kernel
theorem dX8_putsBack_12 : decode cX8_putsBack 12 = .ok (.iload_n 1, 1) := by decide +kernel
theorem dX8_putsBack_13 : decode cX8_putsBack 13 = .ok (.aload_n 0, 1) := by decide +kernel
theorem dX8_putsBack_14 : decode cX8_putsBack 14 = .ok (.getfield 32, 3) := by decide +kernel
theorem dX8_putsBack_17 : decode cX8_putsBack 17 = .ok (.iload_n 1, 1) := by decide +kernel
theorem dX8_putsBack_18 : decode cX8_putsBack 18 = .ok (.iaload, 1) := by decide +kernel
theorem dX8_putsBack_19 : decode cX8_putsBack 19 = .ok (.iastore, 1) := by decide +kernel
theorem dX8_putsBack_20 : decode cX8_putsBack 20 = .ok (.iinc 1 1, 3) := by decide +kernel
theorem dX8_putsBack_23 : decode cX8_putsBack 23 = .ok (.goto (-21), 3) := by decide +kernel
theorem dX8_putsBack_26 : decode cX8_putsBack 26 = .ok (.return_, 1) := by decide +kernel
theorem dX8_behind_0 : decode cX8_behind 0 = .ok (.iload_n 1, 1) := by decide +kernel
theorem dX8_behind_1 : decode cX8_behind 1 = .ok (.iconst 0, 1) := by decide +kernel
theorem dX8_behind_2 : decode cX8_behind 2 = .ok (.bipush 100, 2) := by decide +kernel
theorem dX8_behind_4 : decode cX8_behind 4 = .ok (.invokestatic 92, 3) := by decide +kernel
theorem dX8_behind_7 : decode cX8_behind 7 = .ok (.ifCond .eq 12, 3) := by decide +kernel
theorem dX8_behind_10 : decode cX8_behind 10 = .ok (.iload_n 2, 1) := by decide +kernel
theorem dX8_behind_11 : decode cX8_behind 11 = .ok (.iconst 0, 1) := by decide +kernel
theorem dX8_behind_12 : decode cX8_behind 12 = .ok (.iconst 2, 1) := by decide +kernel
theorem dX8_behind_13 : decode cX8_behind 13 = .ok (.invokestatic 92, 3) := by decide +kernel
theorem dX8_behind_16 : decode cX8_behind 16 = .ok (.ifCond .ne 6, 3) := by decide +kernel
theorem dX8_behind_19 : decode cX8_behind 19 = .ok (.ldc 111, 2) := by decide +kernel
theorem dX8_behind_21 : decode cX8_behind 21 = .ok (.ireturn, 1) := by decide +kernel
theorem dX8_behind_22 : decode cX8_behind 22 = .ok (.aload_n 0, 1) := by decide +kernel
theorem dX8_behind_23 : decode cX8_behind 23 = .ok (.invokevirtual 198, 3) := by decide +kernel
theorem dX8_behind_26 : decode cX8_behind 26 = .ok (.aload_n 0, 1) := by decide +kernel
theorem dX8_behind_27 : decode cX8_behind 27 = .ok (.iload_n 1, 1) := by decide +kernel
theorem dX8_behind_28 : decode cX8_behind 28 = .ok (.invokevirtual 191, 3) := by decide +kernel
theorem dX8_behind_31 : decode cX8_behind 31 = .ok (.iload_n 2, 1) := by decide +kernel
theorem dX8_behind_32 : decode cX8_behind 32 = .ok (.ifCond .ne 11, 3) := by decide +kernel
theorem dX8_behind_35 : decode cX8_behind 35 = .ok (.aload_n 0, 1) := by decide +kernel
theorem dX8_behind_36 : decode cX8_behind 36 = .ok (.iconst (-1), 1) := by decide +kernel
theorem dX8_behind_37 : decode cX8_behind 37 = .ok (.invokevirtual 179, 3) := by decide +kernel
theorem dX8_behind_40 : decode cX8_behind 40 = .ok (.goto 19, 3) := by decide +kernel
theorem dX8_behind_43 : decode cX8_behind 43 = .ok (.iload_n 2, 1) := by decide +kernel
theorem dX8_behind_44 : decode cX8_behind 44 = .ok (.iconst 1, 1) := by decide +kernel
theorem dX8_behind_45 : decode cX8_behind 45 = .ok (.if_icmp .ne 10, 3) := by decide +kernel
theorem dX8_behind_48 : decode cX8_behind 48 = .ok (.aload_n 0, 1) := by decide +kernel
theorem dX8_behind_49 : decode cX8_behind 49 = .ok (.invokevirtual 201, 3) := by decide +kernel
theorem dX8_behind_52 : decode cX8_behind 52 = .ok (.goto 7, 3) := by decide +kernel
theorem dX8_behind_55 : decode cX8_behind 55 = .ok (.aload_n 0, 1) := by decide +kernel
theorem dX8_behind_56 : decode cX8_behind 56 = .ok (.invokevirtual 195, 3) := by decide +kernel
theorem dX8_behind_59 : decode cX8_behind 59 = .ok (.istore_n 3, 1) := by decide +kernel
theorem dX8_behind_60 : decode cX8_behind 60 = .ok (.aload_n 0, 1) := by decide +kernel
theorem dX8_behind_61 : decode cX8_behind 61 = .ok (.invokevirtual 204, 3) := by decide +kernel
theorem dX8_behind_64 : decode cX8_behind 64 = .ok (.iload_n 3, 1) := by decide +kernel
theorem dX8_behind_65 : decode cX8_behind 65 = .ok (.ireturn, 1) := by decide +kernel
theorem dX8_paid_0 : decode cX8_paid 0 = .ok (.aload_n 0, 1) := by decide +kernel
theorem dX8_paid_1 : decode cX8_paid 1 = .ok (.invokevirtual 198, 3) := by decide +kernel
theorem dX8_paid_4 : decode cX8_paid 4 = .ok (.iconst 0, 1) := by decide +kernel
theorem dX8_paid_5 : decode cX8_paid 5 = .ok (.istore_n 1, 1) := by decide +kernel
theorem dX8_paid_6 : decode cX8_paid 6 = .ok (.iload_n 1, 1) := by decide +kernel
theorem dX8_paid_7 : decode cX8_paid 7 = .ok (.sipush 300, 3) := by decide +kernel
theorem dX8_paid_10 : decode cX8_paid 10 = .ok (.if_icmp .gt 26, 3) := by decide +kernel
theorem dX8_paid_13 : decode cX8_paid 13 = .ok (.aload_n 0, 1) := by decide +kernel
theorem dX8_paid_14 : decode cX8_paid 14 = .ok (.invokevirtual 195, 3) := by decide +kernel
theorem dX8_paid_17 : decode cX8_paid 17 = .ok (.aload_n 0, 1) := by decide +kernel
theorem dX8_paid_18 : decode cX8_paid 18 = .ok (.getfield 9, 3) := by decide +kernel
theorem dX8_paid_21 : decode cX8_paid 21 = .ok (.iconst 1, 1) := by decide +kernel
theorem dX8_paid_22 : decode cX8_paid 22 = .ok (.iaload, 1) := by decide +kernel
theorem dX8_paid_23 : decode cX8_paid 23 = .ok (.if_icmp .ge 13, 3) := by decide +kernel
theorem dX8_paid_26 : decode cX8_paid 26 = .ok (.aload_n 0, 1) := by decide +kernel
theorem dX8_paid_27 : decode cX8_paid 27 = .ok (.invokevirtual 188, 3) := by decide +kernel
theorem dX8_paid_30 : decode cX8_paid 30 = .ok (.iinc 1 1, 3) := by decide +kernel
theorem dX8_paid_33 : decode cX8_paid 33 = .ok (.goto (-27), 3) := by decide +kernel
theorem dX8_paid_36 : decode cX8_paid 36 = .ok (.aload_n 0, 1) := by decide +kernel
theorem dX8_paid_37 : decode cX8_paid 37 = .ok (.invokevirtual 204, 3) := by decide +kernel
theorem dX8_paid_40 : decode cX8_paid 40 = .ok (.iload_n 1, 1) := by decide +kernel
theorem dX8_paid_41 : decode cX8_paid 41 = .ok (.sipush 300, 3) := by decide +kernel
theorem dX8_paid_44 : decode cX8_paid 44 = .ok (.if_icmp .gt 7, 3) := by decide +kernel
theorem dX8_paid_47 : decode cX8_paid 47 = .ok (.iload_n 1, 1) := by decide +kernel
theorem dX8_paid_48 : decode cX8_paid 48 = .ok (.goto 5, 3) := by decide +kernel
theorem dX8_paid_51 : decode cX8_paid 51 = .ok (.ldc 91, 2) := by decide +kernel
theorem dX8_paid_53 : decode cX8_paid 53 = .ok (.ireturn, 1) := by decide +kernel
theorem dX8_best_0 : decode cX8_best 0 = .ok (.iload_n 1, 1) := by decide +kernel
theorem dX8_best_1 : decode cX8_best 1 = .ok (.iconst 0, 1) := by decide +kernel
theorem dX8_best_2 : decode cX8_best 2 = .ok (.bipush 30, 2) := by decide +kernel
theorem dX8_best_4 : decode cX8_best 4 = .ok (.invokestatic 92, 3) := by decide +kernel
theorem dX8_best_7 : decode cX8_best 7 = .ok (.ifCond .eq 12, 3) := by decide +kernel
theorem dX8_best_10 : decode cX8_best 10 = .ok (.iload_n 2, 1) := by decide +kernel
theorem dX8_best_11 : decode cX8_best 11 = .ok (.iconst 0, 1) := by decide +kernel
theorem dX8_best_12 : decode cX8_best 12 = .ok (.iconst 1, 1) := by decide +kernel
theorem dX8_best_13 : decode cX8_best 13 = .ok (.invokestatic 92, 3) := by decide +kernel
theorem dX8_best_16 : decode cX8_best 16 = .ok (.ifCond .ne 6, 3) := by decide +kernel
theorem dX8_best_19 : decode cX8_best 19 = .ok (.ldc 111, 2) := by decide +kernel
theorem dX8_best_21 : decode cX8_best 21 = .ok (.ireturn, 1) := by decide +kernel
theorem dX8_best_22 : decode cX8_best 22 = .ok (.aload_n 0, 1) := by decide +kernel
theorem dX8_best_23 : decode cX8_best 23 = .ok (.invokevirtual 198, 3) := by decide +kernel
theorem dX8_best_26 : decode cX8_best 26 = .ok (.iconst 0, 1) := by decide +kernel
theorem dX8_best_27 : decode cX8_best 27 = .ok (.istore_n 3, 1) := by decide +kernel
theorem dX8_best_28 : decode cX8_best 28 = .ok (.aload_n 0, 1) := by decide +kernel
theorem dX8_best_29 : decode cX8_best 29 = .ok (.iconst (-1), 1) := by decide +kernel
theorem dX8_best_30 : decode cX8_best 30 = .ok (.invokevirtual 179, 3) := by decide +kernel
theorem dX8_best_33 : decode cX8_best 33 = .ok (.istore 4, 2) := by decide +kernel
theorem dX8_best_35 : decode cX8_best 35 = .ok (.iconst 1, 1) := by decide +kernel
theorem dX8_best_36 : decode cX8_best 36 = .ok (.istore 5, 2) := by decide +kernel
theorem dX8_best_38 : decode cX8_best 38 = .ok (.iload 5, 2) := by decide +kernel
theorem dX8_best_40 : decode cX8_best 40 = .ok (.iload_n 1, 1) := by decide +kernel
theorem dX8_best_41 : decode cX8_best 41 = .ok (.if_icmp .gt 50, 3) := by decide +kernel
theorem dX8_best_44 : decode cX8_best 44 = .ok (.aload_n 0, 1) := by decide +kernel
theorem dX8_best_45 : decode cX8_best 45 = .ok (.invokevirtual 188, 3) := by decide +kernel
theorem dX8_best_48 : decode cX8_best 48 = .ok (.aload_n 0, 1) := by decide +kernel
theorem dX8_best_49 : decode cX8_best 49 = .ok (.iconst (-1), 1) := by decide +kernel
theorem dX8_best_50 : decode cX8_best 50 = .ok (.invokevirtual 179, 3) := by decide +kernel
theorem dX8_best_53 : decode cX8_best 53 = .ok (.istore 6, 2) := by decide +kernel
theorem dX8_best_55 : decode cX8_best 55 = .ok (.iload 6, 2) := by decide +kernel
theorem dX8_best_57 : decode cX8_best 57 = .ok (.iload 4, 2) := by decide +kernel
theorem dX8_best_59 : decode cX8_best 59 = .ok (.if_icmp .le 8, 3) := by decide +kernel
theorem dX8_best_62 : decode cX8_best 62 = .ok (.iload 5, 2) := by decide +kernel
theorem dX8_best_64 : decode cX8_best 64 = .ok (.goto 4, 3) := by decide +kernel
theorem dX8_best_67 : decode cX8_best 67 = .ok (.iload_n 3, 1) := by decide +kernel
theorem dX8_best_68 : decode cX8_best 68 = .ok (.istore_n 3, 1) := by decide +kernel
theorem dX8_best_69 : decode cX8_best 69 = .ok (.iload 6, 2) := by decide +kernel
theorem dX8_best_71 : decode cX8_best 71 = .ok (.iload 4, 2) := by decide +kernel
theorem dX8_best_73 : decode cX8_best 73 = .ok (.if_icmp .le 8, 3) := by decide +kernel
theorem dX8_best_76 : decode cX8_best 76 = .ok (.iload 6, 2) := by decide +kernel
theorem dX8_best_78 : decode cX8_best 78 = .ok (.goto 5, 3) := by decide +kernel
theorem dX8_best_81 : decode cX8_best 81 = .ok (.iload 4, 2) := by decide +kernel
theorem dX8_best_83 : decode cX8_best 83 = .ok (.istore 4, 2) := by decide +kernel
theorem dX8_best_85 : decode cX8_best 85 = .ok (.iinc 5 1, 3) := by decide +kernel
theorem dX8_best_88 : decode cX8_best 88 = .ok (.goto (-50), 3) := by decide +kernel
theorem dX8_best_91 : decode cX8_best 91 = .ok (.aload_n 0, 1) := by decide +kernel
theorem dX8_best_92 : decode cX8_best 92 = .ok (.invokevirtual 204, 3) := by decide +kernel
theorem dX8_best_95 : decode cX8_best 95 = .ok (.iload_n 2, 1) := by decide +kernel
theorem dX8_best_96 : decode cX8_best 96 = .ok (.ifCond .ne 7, 3) := by decide +kernel
theorem dX8_best_99 : decode cX8_best 99 = .ok (.iload_n 3, 1) := by decide +kernel
theorem dX8_best_100 : decode cX8_best 100 = .ok (.goto 5, 3) := by decide +kernel
theorem dX8_best_103 : decode cX8_best 103 = .ok (.iload 4, 2) := by decide +kernel
theorem dX8_best_105 : decode cX8_best 105 = .ok (.ireturn, 1) := by decide +kernel
theorem dX8_owedBy_0 : decode cX8_owedBy 0 = .ok (.iconst 0, 1) := by decide +kernel
theorem dX8_owedBy_1 : decode cX8_owedBy 1 = .ok (.istore_n 2, 1) := by decide +kernel
theorem dX8_owedBy_2 : decode cX8_owedBy 2 = .ok (.iconst 0, 1) := by decide +kernel
theorem dX8_owedBy_3 : decode cX8_owedBy 3 = .ok (.istore_n 3, 1) := by decide +kernel
theorem dX8_owedBy_4 : decode cX8_owedBy 4 = .ok (.iload_n 3, 1) := by decide +kernel
theorem dX8_owedBy_5 : decode cX8_owedBy 5 = .ok (.aload_n 0, 1) := by decide +kernel
theorem dX8_owedBy_6 : decode cX8_owedBy 6 = .ok (.getfield 9, 3) := by decide +kernel
theorem dX8_owedBy_9 : decode cX8_owedBy 9 = .ok (.iconst 1, 1) := by decide +kernel
theorem dX8_owedBy_10 : decode cX8_owedBy 10 = .ok (.iaload, 1) := by decide +kernel
theorem dX8_owedBy_11 : decode cX8_owedBy 11 = .ok (.if_icmp .ge 32, 3) := by decide +kernel
theorem dX8_owedBy_14 : decode cX8_owedBy 14 = .ok (.iload_n 2, 1) := by decide +kernel
theorem dX8_owedBy_15 : decode cX8_owedBy 15 = .ok (.aload_n 0, 1) := by decide +kernel
theorem dX8_owedBy_16 : decode cX8_owedBy 16 = .ok (.iload_n 3, 1) := by decide +kernel
theorem dX8_owedBy_17 : decode cX8_owedBy 17 = .ok (.iconst 3, 1) := by decide +kernel
theorem dX8_owedBy_18 : decode cX8_owedBy 18 = .ok (.invokevirtual 117, 3) := by decide +kernel
theorem dX8_owedBy_21 : decode cX8_owedBy 21 = .ok (.iload_n 1, 1) := by decide +kernel
theorem dX8_owedBy_22 : decode cX8_owedBy 22 = .ok (.if_icmp .ne 12, 3) := by decide +kernel
theorem dX8_owedBy_25 : decode cX8_owedBy 25 = .ok (.aload_n 0, 1) := by decide +kernel
theorem dX8_owedBy_26 : decode cX8_owedBy 26 = .ok (.iload_n 3, 1) := by decide +kernel
theorem dX8_owedBy_27 : decode cX8_owedBy 27 = .ok (.iconst 2, 1) := by decide +kernel
theorem dX8_owedBy_28 : decode cX8_owedBy 28 = .ok (.invokevirtual 117, 3) := by decide +kernel
theorem dX8_owedBy_31 : decode cX8_owedBy 31 = .ok (.goto 4, 3) := by decide +kernel
theorem dX8_owedBy_34 : decode cX8_owedBy 34 = .ok (.iconst 0, 1) := by decide +kernel
theorem dX8_owedBy_35 : decode cX8_owedBy 35 = .ok (.iadd, 1) := by decide +kernel
theorem dX8_owedBy_36 : decode cX8_owedBy 36 = .ok (.istore_n 2, 1) := by decide +kernel
theorem dX8_owedBy_37 : decode cX8_owedBy 37 = .ok (.iinc 3 1, 3) := by decide +kernel
theorem dX8_owedBy_40 : decode cX8_owedBy 40 = .ok (.goto (-36), 3) := by decide +kernel
theorem dX8_owedBy_43 : decode cX8_owedBy 43 = .ok (.iload_n 2, 1) := by decide +kernel
theorem dX8_owedBy_44 : decode cX8_owedBy 44 = .ok (.ireturn, 1) := by decide +kernel
theorem dX8_owes_0 : decode cX8_owes 0 = .ok (.iload_n 1, 1) := by decide +kernel
theorem dX8_owes_1 : decode cX8_owes 1 = .ok (.invokestatic 108, 3) := by decide +kernel
theorem dX8_owes_4 : decode cX8_owes 4 = .ok (.ifCond .eq 11, 3) := by decide +kernel
theorem dX8_owes_7 : decode cX8_owes 7 = .ok (.aload_n 0, 1) := by decide +kernel
theorem dX8_owes_8 : decode cX8_owes 8 = .ok (.iload_n 1, 1) := by decide +kernel
theorem dX8_owes_9 : decode cX8_owes 9 = .ok (.invokevirtual 207, 3) := by decide +kernel
theorem dX8_owes_12 : decode cX8_owes 12 = .ok (.goto 5, 3) := by decide +kernel
theorem dX8_owes_15 : decode cX8_owes 15 = .ok (.ldc 111, 2) := by decide +kernel
theorem dX8_owes_17 : decode cX8_owes 17 = .ok (.ireturn, 1) := by decide +kernel
theorem dX8_debtor_0 : decode cX8_debtor 0 = .ok (.iconst 0, 1) := by decide +kernel
theorem dX8_debtor_1 : decode cX8_debtor 1 = .ok (.istore_n 1, 1) := by decide +kernel
theorem dX8_debtor_2 : decode cX8_debtor 2 = .ok (.iconst 1, 1) := by decide +kernel
theorem dX8_debtor_3 : decode cX8_debtor 3 = .ok (.istore_n 2, 1) := by decide +kernel
theorem dX8_debtor_4 : decode cX8_debtor 4 = .ok (.iload_n 2, 1) := by decide +kernel
theorem dX8_debtor_5 : decode cX8_debtor 5 = .ok (.bipush 8, 2) := by decide +kernel
theorem dX8_debtor_7 : decode cX8_debtor 7 = .ok (.if_icmp .ge 28, 3) := by decide +kernel
theorem dX8_debtor_10 : decode cX8_debtor 10 = .ok (.aload_n 0, 1) := by decide +kernel
theorem dX8_debtor_11 : decode cX8_debtor 11 = .ok (.iload_n 2, 1) := by decide +kernel
theorem dX8_debtor_12 : decode cX8_debtor 12 = .ok (.invokevirtual 207, 3) := by decide +kernel
theorem dX8_debtor_15 : decode cX8_debtor 15 = .ok (.aload_n 0, 1) := by decide +kernel
theorem dX8_debtor_16 : decode cX8_debtor 16 = .ok (.iload_n 1, 1) := by decide +kernel
theorem dX8_debtor_17 : decode cX8_debtor 17 = .ok (.invokevirtual 207, 3) := by decide +kernel
theorem dX8_debtor_20 : decode cX8_debtor 20 = .ok (.if_icmp .le 7, 3) := by decide +kernel
theorem dX8_debtor_23 : decode cX8_debtor 23 = .ok (.iload_n 2, 1) := by decide +kernel
theorem dX8_debtor_24 : decode cX8_debtor 24 = .ok (.goto 4, 3) := by decide +kernel
theorem dX8_debtor_27 : decode cX8_debtor 27 = .ok (.iload_n 1, 1) := by decide +kernel
theorem dX8_debtor_28 : decode cX8_debtor 28 = .ok (.istore_n 1, 1) := by decide +kernel
theorem dX8_debtor_29 : decode cX8_debtor 29 = .ok (.iinc 2 1, 3) := by decide +kernel
theorem dX8_debtor_32 : decode cX8_debtor 32 = .ok (.goto (-28), 3) := by decide +kernel
theorem dX8_debtor_35 : decode cX8_debtor 35 = .ok (.iload_n 1, 1) := by decide +kernel
theorem dX8_debtor_36 : decode cX8_debtor 36 = .ok (.ireturn, 1) := by decide +kernel
theorem dX8_dug_0 : decode cX8_dug 0 = .ok (.iload_n 1, 1) := by decide +kernel
theorem dX8_dug_1 : decode cX8_dug 1 = .ok (.invokestatic 210, 3) := by decide +kernel
theorem dX8_dug_4 : decode cX8_dug 4 = .ok (.ifCond .eq 12, 3) := by decide +kernel
theorem dX8_dug_7 : decode cX8_dug 7 = .ok (.iload_n 2, 1) := by decide +kernel
theorem dX8_dug_8 : decode cX8_dug 8 = .ok (.iconst 0, 1) := by decide +kernel
theorem dX8_dug_9 : decode cX8_dug 9 = .ok (.iconst 1, 1) := by decide +kernel
theorem dX8_dug_10 : decode cX8_dug 10 = .ok (.invokestatic 92, 3) := by decide +kernel
theorem dX8_dug_13 : decode cX8_dug 13 = .ok (.ifCond .ne 6, 3) := by decide +kernel
theorem dX8_dug_16 : decode cX8_dug 16 = .ok (.ldc 111, 2) := by decide +kernel
theorem dX8_dug_18 : decode cX8_dug 18 = .ok (.ireturn, 1) := by decide +kernel
theorem dX8_dug_19 : decode cX8_dug 19 = .ok (.aload_n 0, 1) := by decide +kernel
theorem dX8_dug_20 : decode cX8_dug 20 = .ok (.getfield 64, 3) := by decide +kernel
theorem dX8_dug_23 : decode cX8_dug 23 = .ok (.iload_n 1, 1) := by decide +kernel
theorem dX8_dug_24 : decode cX8_dug 24 = .ok (.iaload, 1) := by decide +kernel
theorem dX8_dug_25 : decode cX8_dug 25 = .ok (.ifCond .ge 6, 3) := by decide +kernel
theorem dX8_dug_28 : decode cX8_dug 28 = .ok (.ldc 213, 2) := by decide +kernel
theorem dX8_dug_30 : decode cX8_dug 30 = .ok (.ireturn, 1) := by decide +kernel
theorem dX8_dug_31 : decode cX8_dug 31 = .ok (.iconst 0, 1) := by decide +kernel
theorem dX8_dug_32 : decode cX8_dug 32 = .ok (.istore_n 3, 1) := by decide +kernel
theorem dX8_dug_33 : decode cX8_dug 33 = .ok (.iload_n 3, 1) := by decide +kernel
theorem dX8_dug_34 : decode cX8_dug 34 = .ok (.bipush 10, 2) := by decide +kernel
theorem dX8_dug_36 : decode cX8_dug 36 = .ok (.if_icmp .ge 16, 3) := by decide +kernel
theorem dX8_dug_39 : decode cX8_dug 39 = .ok (.aload_n 0, 1) := by decide +kernel
theorem dX8_dug_40 : decode cX8_dug 40 = .ok (.getfield 35, 3) := by decide +kernel
theorem dX8_dug_43 : decode cX8_dug 43 = .ok (.iload_n 3, 1) := by decide +kernel
theorem dX8_dug_44 : decode cX8_dug 44 = .ok (.lconst 0, 1) := by decide +kernel
theorem dX8_dug_45 : decode cX8_dug 45 = .ok (.lastore, 1) := by decide +kernel
theorem dX8_dug_46 : decode cX8_dug 46 = .ok (.iinc 3 1, 3) := by decide +kernel
theorem dX8_dug_49 : decode cX8_dug 49 = .ok (.goto (-16), 3) := by decide +kernel
theorem dX8_dug_52 : decode cX8_dug 52 = .ok (.aload_n 0, 1) := by decide +kernel
theorem dX8_dug_53 : decode cX8_dug 53 = .ok (.invokevirtual 198, 3) := by decide +kernel
theorem dX8_dug_56 : decode cX8_dug 56 = .ok (.iconst 0, 1) := by decide +kernel
theorem dX8_dug_57 : decode cX8_dug 57 = .ok (.istore_n 3, 1) := by decide +kernel
theorem dX8_dug_58 : decode cX8_dug 58 = .ok (.iload_n 3, 1) := by decide +kernel
theorem dX8_dug_59 : decode cX8_dug 59 = .ok (.aload_n 0, 1) := by decide +kernel
theorem dX8_dug_60 : decode cX8_dug 60 = .ok (.getfield 67, 3) := by decide +kernel
theorem dX8_dug_63 : decode cX8_dug 63 = .ok (.iload_n 1, 1) := by decide +kernel
theorem dX8_dug_64 : decode cX8_dug 64 = .ok (.iaload, 1) := by decide +kernel
theorem dX8_dug_65 : decode cX8_dug 65 = .ok (.if_icmp .ge 92, 3) := by decide +kernel
theorem dX8_dug_68 : decode cX8_dug 68 = .ok (.aload_n 0, 1) := by decide +kernel
theorem dX8_dug_69 : decode cX8_dug 69 = .ok (.getfield 70, 3) := by decide +kernel
theorem dX8_dug_72 : decode cX8_dug 72 = .ok (.bipush 24, 2) := by decide +kernel
theorem dX8_dug_74 : decode cX8_dug 74 = .ok (.iload_n 1, 1) := by decide +kernel
theorem dX8_dug_75 : decode cX8_dug 75 = .ok (.imul, 1) := by decide +kernel
theorem dX8_dug_76 : decode cX8_dug 76 = .ok (.iload_n 3, 1) := by decide +kernel
theorem dX8_dug_77 : decode cX8_dug 77 = .ok (.iadd, 1) := by decide +kernel
theorem dX8_dug_78 : decode cX8_dug 78 = .ok (.iaload, 1) := by decide +kernel
theorem dX8_dug_79 : decode cX8_dug 79 = .ok (.istore 4, 2) := by decide +kernel
theorem dX8_dug_81 : decode cX8_dug 81 = .ok (.iconst 0, 1) := by decide +kernel
theorem dX8_dug_82 : decode cX8_dug 82 = .ok (.istore 5, 2) := by decide +kernel
theorem dX8_dug_84 : decode cX8_dug 84 = .ok (.iload 5, 2) := by decide +kernel
theorem dX8_dug_86 : decode cX8_dug 86 = .ok (.aload_n 0, 1) := by decide +kernel
theorem dX8_dug_87 : decode cX8_dug 87 = .ok (.getfield 9, 3) := by decide +kernel
theorem dX8_dug_90 : decode cX8_dug 90 = .ok (.iconst 1, 1) := by decide +kernel
theorem dX8_dug_91 : decode cX8_dug 91 = .ok (.iaload, 1) := by decide +kernel
theorem dX8_dug_92 : decode cX8_dug 92 = .ok (.if_icmp .ge 55, 3) := by decide +kernel
theorem dX8_dug_95 : decode cX8_dug 95 = .ok (.iload 4, 2) := by decide +kernel
theorem dX8_dug_97 : decode cX8_dug 97 = .ok (.ldc 91, 2) := by decide +kernel
theorem dX8_dug_99 : decode cX8_dug 99 = .ok (.if_icmp .eq 48, 3) := by decide +kernel
theorem dX8_dug_102 : decode cX8_dug 102 = .ok (.iload 4, 2) := by decide +kernel
theorem dX8_dug_104 : decode cX8_dug 104 = .ok (.i2l, 1) := by decide +kernel
theorem dX8_dug_105 : decode cX8_dug 105 = .ok (.aload_n 0, 1) := by decide +kernel
theorem dX8_dug_106 : decode cX8_dug 106 = .ok (.iload 5, 2) := by decide +kernel
theorem dX8_dug_108 : decode cX8_dug 108 = .ok (.iconst 2, 1) := by decide +kernel
theorem dX8_dug_109 : decode cX8_dug 109 = .ok (.invokevirtual 117, 3) := by decide +kernel
theorem dX8_dug_112 : decode cX8_dug 112 = .ok (.i2l, 1) := by decide +kernel
theorem dX8_dug_113 : decode cX8_dug 113 = .ok (.lsub, 1) := by decide +kernel
theorem dX8_dug_114 : decode cX8_dug 114 = .ok (.lstore 6, 2) := by decide +kernel
theorem dX8_dug_116 : decode cX8_dug 116 = .ok (.aload_n 0, 1) := by decide +kernel
theorem dX8_dug_117 : decode cX8_dug 117 = .ok (.getfield 35, 3) := by decide +kernel
theorem dX8_dug_120 : decode cX8_dug 120 = .ok (.iload 5, 2) := by decide +kernel
theorem dX8_dug_122 : decode cX8_dug 122 = .ok (.dup2, 1) := by decide +kernel
theorem dX8_dug_123 : decode cX8_dug 123 = .ok (.laload, 1) := by decide +kernel
theorem dX8_dug_124 : decode cX8_dug 124 = .ok (.lload 6, 2) := by decide +kernel
theorem dX8_dug_126 : decode cX8_dug 126 = .ok (.lconst 0, 1) := by decide +kernel
theorem dX8_dug_127 : decode cX8_dug 127 = .ok (.lcmp, 1) := by decide +kernel
theorem dX8_dug_128 : decode cX8_dug 128 = .ok (.ifCond .ge 9, 3) := by decide +kernel
theorem dX8_dug_131 : decode cX8_dug 131 = .ok (.lload 6, 2) := by decide +kernel
theorem dX8_dug_133 : decode cX8_dug 133 = .ok (.lneg, 1) := by decide +kernel
theorem dX8_dug_134 : decode cX8_dug 134 = .ok (.goto 5, 3) := by decide +kernel
theorem dX8_dug_137 : decode cX8_dug 137 = .ok (.lload 6, 2) := by decide +kernel
theorem dX8_dug_139 : decode cX8_dug 139 = .ok (.ladd, 1) := by decide +kernel
theorem dX8_dug_140 : decode cX8_dug 140 = .ok (.lastore, 1) := by decide +kernel
theorem dX8_dug_141 : decode cX8_dug 141 = .ok (.iinc 5 1, 3) := by decide +kernel
theorem dX8_dug_144 : decode cX8_dug 144 = .ok (.goto (-60), 3) := by decide +kernel
theorem dX8_dug_147 : decode cX8_dug 147 = .ok (.aload_n 0, 1) := by decide +kernel
theorem dX8_dug_148 : decode cX8_dug 148 = .ok (.invokevirtual 188, 3) := by decide +kernel
theorem dX8_dug_151 : decode cX8_dug 151 = .ok (.iinc 3 1, 3) := by decide +kernel
theorem dX8_dug_154 : decode cX8_dug 154 = .ok (.goto (-96), 3) := by decide +kernel
theorem dX8_dug_157 : decode cX8_dug 157 = .ok (.aload_n 0, 1) := by decide +kernel
theorem dX8_dug_158 : decode cX8_dug 158 = .ok (.invokevirtual 204, 3) := by decide +kernel
theorem dX8_dug_161 : decode cX8_dug 161 = .ok (.iconst (-1), 1) := by decide +kernel
theorem dX8_dug_162 : decode cX8_dug 162 = .ok (.istore_n 3, 1) := by decide +kernel
theorem dX8_dug_163 : decode cX8_dug 163 = .ok (.iconst 0, 1) := by decide +kernel
theorem dX8_dug_164 : decode cX8_dug 164 = .ok (.istore 4, 2) := by decide +kernel
theorem dX8_dug_166 : decode cX8_dug 166 = .ok (.iload 4, 2) := by decide +kernel
theorem dX8_dug_168 : decode cX8_dug 168 = .ok (.aload_n 0, 1) := by decide +kernel
theorem dX8_dug_169 : decode cX8_dug 169 = .ok (.getfield 9, 3) := by decide +kernel
theorem dX8_dug_172 : decode cX8_dug 172 = .ok (.iconst 1, 1) := by decide +kernel
theorem dX8_dug_173 : decode cX8_dug 173 = .ok (.iaload, 1) := by decide +kernel
theorem dX8_dug_174 : decode cX8_dug 174 = .ok (.if_icmp .ge 37, 3) := by decide +kernel
theorem dX8_dug_177 : decode cX8_dug 177 = .ok (.iload_n 3, 1) := by decide +kernel
theorem dX8_dug_178 : decode cX8_dug 178 = .ok (.ifCond .lt 20, 3) := by decide +kernel
theorem dX8_dug_181 : decode cX8_dug 181 = .ok (.aload_n 0, 1) := by decide +kernel
theorem dX8_dug_182 : decode cX8_dug 182 = .ok (.getfield 35, 3) := by decide +kernel
theorem dX8_dug_185 : decode cX8_dug 185 = .ok (.iload 4, 2) := by decide +kernel
theorem dX8_dug_187 : decode cX8_dug 187 = .ok (.laload, 1) := by decide +kernel
theorem dX8_dug_188 : decode cX8_dug 188 = .ok (.aload_n 0, 1) := by decide +kernel
theorem dX8_dug_189 : decode cX8_dug 189 = .ok (.getfield 35, 3) := by decide +kernel
theorem dX8_dug_192 : decode cX8_dug 192 = .ok (.iload_n 3, 1) := by decide +kernel
theorem dX8_dug_193 : decode cX8_dug 193 = .ok (.laload, 1) := by decide +kernel
theorem dX8_dug_194 : decode cX8_dug 194 = .ok (.lcmp, 1) := by decide +kernel
theorem dX8_dug_195 : decode cX8_dug 195 = .ok (.ifCond .ge 8, 3) := by decide +kernel
theorem dX8_dug_198 : decode cX8_dug 198 = .ok (.iload 4, 2) := by decide +kernel
theorem dX8_dug_200 : decode cX8_dug 200 = .ok (.goto 4, 3) := by decide +kernel
theorem dX8_dug_203 : decode cX8_dug 203 = .ok (.iload_n 3, 1) := by decide +kernel
theorem dX8_dug_204 : decode cX8_dug 204 = .ok (.istore_n 3, 1) := by decide +kernel
theorem dX8_dug_205 : decode cX8_dug 205 = .ok (.iinc 4 1, 3) := by decide +kernel
theorem dX8_dug_208 : decode cX8_dug 208 = .ok (.goto (-42), 3) := by decide +kernel
theorem dX8_dug_211 : decode cX8_dug 211 = .ok (.iload_n 3, 1) := by decide +kernel
theorem dX8_dug_212 : decode cX8_dug 212 = .ok (.ifCond .ge 8, 3) := by decide +kernel
theorem dX8_dug_215 : decode cX8_dug 215 = .ok (.ldc 91, 2) := by decide +kernel
theorem dX8_dug_217 : decode cX8_dug 217 = .ok (.goto 18, 3) := by decide +kernel
theorem dX8_dug_220 : decode cX8_dug 220 = .ok (.iload_n 2, 1) := by decide +kernel
theorem dX8_dug_221 : decode cX8_dug 221 = .ok (.ifCond .ne 7, 3) := by decide +kernel
theorem dX8_dug_224 : decode cX8_dug 224 = .ok (.iload_n 3, 1) := by decide +kernel
theorem dX8_dug_225 : decode cX8_dug 225 = .ok (.goto 10, 3) := by decide +kernel
theorem dX8_dug_228 : decode cX8_dug 228 = .ok (.aload_n 0, 1) := by decide +kernel
theorem dX8_dug_229 : decode cX8_dug 229 = .ok (.getfield 35, 3) := by decide +kernel
theorem dX8_dug_232 : decode cX8_dug 232 = .ok (.iload_n 3, 1) := by decide +kernel
theorem dX8_dug_233 : decode cX8_dug 233 = .ok (.laload, 1) := by decide +kernel
theorem dX8_dug_234 : decode cX8_dug 234 = .ok (.l2i, 1) := by decide +kernel
theorem dX8_dug_235 : decode cX8_dug 235 = .ok (.ireturn, 1) := by decide +kernel
theorem dX8_fine_0 : decode cX8_fine 0 = .ok (.iload_n 1, 1) := by decide +kernel
theorem dX8_fine_1 : decode cX8_fine 1 = .ok (.invokestatic 108, 3) := by decide +kernel
theorem dX8_fine_4 : decode cX8_fine 4 = .ok (.ifCond .ne 6, 3) := by decide +kernel
theorem dX8_fine_7 : decode cX8_fine 7 = .ok (.ldc 111, 2) := by decide +kernel
theorem dX8_fine_9 : decode cX8_fine 9 = .ok (.ireturn, 1) := by decide +kernel
theorem dX8_fine_10 : decode cX8_fine 10 = .ok (.aload_n 0, 1) := by decide +kernel
theorem dX8_fine_11 : decode cX8_fine 11 = .ok (.iconst 2, 1) := by decide +kernel
theorem dX8_fine_12 : decode cX8_fine 12 = .ok (.invokevirtual 136, 3) := by decide +kernel
theorem dX8_fine_15 : decode cX8_fine 15 = .ok (.istore_n 2, 1) := by decide +kernel
theorem dX8_fine_16 : decode cX8_fine 16 = .ok (.aload_n 0, 1) := by decide +kernel
theorem dX8_fine_17 : decode cX8_fine 17 = .ok (.getfield 61, 3) := by decide +kernel
theorem dX8_fine_20 : decode cX8_fine 20 = .ok (.iconst 0, 1) := by decide +kernel
theorem dX8_fine_21 : decode cX8_fine 21 = .ok (.aload_n 0, 1) := by decide +kernel
theorem dX8_fine_22 : decode cX8_fine 22 = .ok (.iload_n 1, 1) := by decide +kernel
theorem dX8_fine_23 : decode cX8_fine 23 = .ok (.invokevirtual 207, 3) := by decide +kernel
theorem dX8_fine_26 : decode cX8_fine 26 = .ok (.iastore, 1) := by decide +kernel
theorem dX8_fine_27 : decode cX8_fine 27 = .ok (.aload_n 0, 1) := by decide +kernel
theorem dX8_fine_28 : decode cX8_fine 28 = .ok (.getfield 61, 3) := by decide +kernel
theorem dX8_fine_31 : decode cX8_fine 31 = .ok (.iconst 1, 1) := by decide +kernel
theorem dX8_fine_32 : decode cX8_fine 32 = .ok (.aload_n 0, 1) := by decide +kernel
theorem dX8_fine_33 : decode cX8_fine 33 = .ok (.getfield 9, 3) := by decide +kernel
theorem dX8_fine_36 : decode cX8_fine 36 = .ok (.iconst 5, 1) := by decide +kernel
theorem dX8_fine_37 : decode cX8_fine 37 = .ok (.iaload, 1) := by decide +kernel
theorem dX8_fine_38 : decode cX8_fine 38 = .ok (.iastore, 1) := by decide +kernel
theorem dX8_fine_39 : decode cX8_fine 39 = .ok (.iload_n 2, 1) := by decide +kernel
theorem dX8_fine_40 : decode cX8_fine 40 = .ok (.ifCond .ge 11, 3) := by decide +kernel
theorem dX8_fine_43 : decode cX8_fine 43 = .ok (.aload_n 0, 1) := by decide +kernel
theorem dX8_fine_44 : decode cX8_fine 44 = .ok (.iload_n 1, 1) := by decide +kernel
theorem dX8_fine_45 : decode cX8_fine 45 = .ok (.invokevirtual 207, 3) := by decide +kernel
theorem dX8_fine_48 : decode cX8_fine 48 = .ok (.goto 8, 3) := by decide +kernel
theorem dX8_fine_51 : decode cX8_fine 51 = .ok (.aload_n 0, 1) := by decide +kernel
theorem dX8_fine_52 : decode cX8_fine 52 = .ok (.iload_n 2, 1) := by decide +kernel
theorem dX8_fine_53 : decode cX8_fine 53 = .ok (.invokevirtual 139, 3) := by decide +kernel
theorem dX8_fine_56 : decode cX8_fine 56 = .ok (.ireturn, 1) := by decide +kernel
theorem dX8_feed_0 : decode cX8_feed 0 = .ok (.aload_n 0, 1) := by decide +kernel
theorem dX8_feed_1 : decode cX8_feed 1 = .ok (.getfield 214, 3) := by decide +kernel
theorem dX8_feed_4 : decode cX8_feed 4 = .ok (.bipush 12, 2) := by decide +kernel
theorem dX8_feed_6 : decode cX8_feed 6 = .ok (.iadd, 1) := by decide +kernel
theorem dX8_feed_7 : decode cX8_feed 7 = .ok (.bipush 96, 2) := by decide +kernel
theorem dX8_feed_9 : decode cX8_feed 9 = .ok (.if_icmp .le 6, 3) := by decide +kernel
theorem dX8_feed_12 : decode cX8_feed 12 = .ok (.ldc 112, 2) := by decide +kernel
theorem dX8_feed_14 : decode cX8_feed 14 = .ok (.ireturn, 1) := by decide +kernel
theorem dX8_feed_15 : decode cX8_feed 15 = .ok (.iconst 0, 1) := by decide +kernel
theorem dX8_feed_16 : decode cX8_feed 16 = .ok (.istore 4, 2) := by decide +kernel
theorem dX8_feed_18 : decode cX8_feed 18 = .ok (.iload 4, 2) := by decide +kernel
theorem dX8_feed_20 : decode cX8_feed 20 = .ok (.bipush 12, 2) := by decide +kernel
theorem dX8_feed_22 : decode cX8_feed 22 = .ok (.if_icmp .ge 62, 3) := by decide +kernel
theorem dX8_feed_25 : decode cX8_feed 25 = .ok (.iload 4, 2) := by decide +kernel
theorem dX8_feed_27 : decode cX8_feed 27 = .ok (.iconst 4, 1) := by decide +kernel
theorem dX8_feed_28 : decode cX8_feed 28 = .ok (.if_icmp .ge 7, 3) := by decide +kernel
theorem dX8_feed_31 : decode cX8_feed 31 = .ok (.iload_n 1, 1) := by decide +kernel
theorem dX8_feed_32 : decode cX8_feed 32 = .ok (.goto 15, 3) := by decide +kernel
theorem dX8_feed_35 : decode cX8_feed 35 = .ok (.iload 4, 2) := by decide +kernel
theorem dX8_feed_37 : decode cX8_feed 37 = .ok (.bipush 8, 2) := by decide +kernel
theorem dX8_feed_39 : decode cX8_feed 39 = .ok (.if_icmp .ge 7, 3) := by decide +kernel
theorem dX8_feed_42 : decode cX8_feed 42 = .ok (.iload_n 2, 1) := by decide +kernel
theorem dX8_feed_43 : decode cX8_feed 43 = .ok (.goto 4, 3) := by decide +kernel
theorem dX8_feed_46 : decode cX8_feed 46 = .ok (.iload_n 3, 1) := by decide +kernel
theorem dX8_feed_47 : decode cX8_feed 47 = .ok (.istore 5, 2) := by decide +kernel
theorem dX8_feed_49 : decode cX8_feed 49 = .ok (.aload_n 0, 1) := by decide +kernel
theorem dX8_feed_50 : decode cX8_feed 50 = .ok (.getfield 39, 3) := by decide +kernel
theorem dX8_feed_53 : decode cX8_feed 53 = .ok (.aload_n 0, 1) := by decide +kernel
theorem dX8_feed_54 : decode cX8_feed 54 = .ok (.getfield 214, 3) := by decide +kernel
theorem dX8_feed_57 : decode cX8_feed 57 = .ok (.iload 4, 2) := by decide +kernel
theorem dX8_feed_59 : decode cX8_feed 59 = .ok (.iadd, 1) := by decide +kernel
theorem dX8_feed_60 : decode cX8_feed 60 = .ok (.iload 5, 2) := by decide +kernel
theorem dX8_feed_62 : decode cX8_feed 62 = .ok (.bipush 24, 2) := by decide +kernel
theorem dX8_feed_64 : decode cX8_feed 64 = .ok (.bipush 8, 2) := by decide +kernel
theorem dX8_feed_66 : decode cX8_feed 66 = .ok (.iload 4, 2) := by decide +kernel
theorem dX8_feed_68 : decode cX8_feed 68 = .ok (.iconst 4, 1) := by decide +kernel
theorem dX8_feed_69 : decode cX8_feed 69 = .ok (.irem, 1) := by decide +kernel
theorem dX8_feed_70 : decode cX8_feed 70 = .ok (.imul, 1) := by decide +kernel
theorem dX8_feed_71 : decode cX8_feed 71 = .ok (.isub, 1) := by decide +kernel
theorem dX8_feed_72 : decode cX8_feed 72 = .ok (.ishr, 1) := by decide +kernel
theorem dX8_feed_73 : decode cX8_feed 73 = .ok (.sipush 255, 3) := by decide +kernel
theorem dX8_feed_76 : decode cX8_feed 76 = .ok (.iand, 1) := by decide +kernel
theorem dX8_feed_77 : decode cX8_feed 77 = .ok (.iastore, 1) := by decide +kernel
theorem dX8_feed_78 : decode cX8_feed 78 = .ok (.iinc 4 1, 3) := by decide +kernel
theorem dX8_feed_81 : decode cX8_feed 81 = .ok (.goto (-63), 3) := by decide +kernel
theorem dX8_feed_84 : decode cX8_feed 84 = .ok (.aload_n 0, 1) := by decide +kernel
theorem dX8_feed_85 : decode cX8_feed 85 = .ok (.dup, 1) := by decide +kernel
theorem dX8_feed_86 : decode cX8_feed 86 = .ok (.getfield 214, 3) := by decide +kernel
theorem dX8_feed_89 : decode cX8_feed 89 = .ok (.bipush 12, 2) := by decide +kernel
theorem dX8_feed_91 : decode cX8_feed 91 = .ok (.iadd, 1) := by decide +kernel
theorem dX8_feed_92 : decode cX8_feed 92 = .ok (.putfield 214, 3) := by decide +kernel
theorem dX8_feed_95 : decode cX8_feed 95 = .ok (.aload_n 0, 1) := by decide +kernel
theorem dX8_feed_96 : decode cX8_feed 96 = .ok (.getfield 214, 3) := by decide +kernel
theorem dX8_feed_99 : decode cX8_feed 99 = .ok (.ireturn, 1) := by decide +kernel
theorem dX8_trim_0 : decode cX8_trim 0 = .ok (.iload_n 1, 1) := by decide +kernel
theorem dX8_trim_1 : decode cX8_trim 1 = .ok (.iconst 0, 1) := by decide +kernel
theorem dX8_trim_2 : decode cX8_trim 2 = .ok (.aload_n 0, 1) := by decide +kernel
theorem dX8_trim_3 : decode cX8_trim 3 = .ok (.getfield 214, 3) := by decide +kernel
theorem dX8_trim_6 : decode cX8_trim 6 = .ok (.invokestatic 92, 3) := by decide +kernel
theorem dX8_trim_9 : decode cX8_trim 9 = .ok (.ifCond .ne 6, 3) := by decide +kernel
theorem dX8_trim_12 : decode cX8_trim 12 = .ok (.ldc 111, 2) := by decide +kernel
theorem dX8_trim_14 : decode cX8_trim 14 = .ok (.ireturn, 1) := by decide +kernel
theorem dX8_trim_15 : decode cX8_trim 15 = .ok (.aload_n 0, 1) := by decide +kernel
theorem dX8_trim_16 : decode cX8_trim 16 = .ok (.iload_n 1, 1) := by decide +kernel
theorem dX8_trim_17 : decode cX8_trim 17 = .ok (.putfield 214, 3) := by decide +kernel
theorem dX8_trim_20 : decode cX8_trim 20 = .ok (.iload_n 1, 1) := by decide +kernel
theorem dX8_trim_21 : decode cX8_trim 21 = .ok (.ireturn, 1) := by decide +kernel
theorem dX8_isLetter_0 : decode cX8_isLetter 0 = .ok (.iload_n 1, 1) := by decide +kernel
theorem dX8_isLetter_1 : decode cX8_isLetter 1 = .ok (.aload_n 0, 1) := by decide +kernel
theorem dX8_isLetter_2 : decode cX8_isLetter 2 = .ok (.getfield 214, 3) := by decide +kernel
theorem dX8_isLetter_5 : decode cX8_isLetter 5 = .ok (.if_icmp .ge 29, 3) := by decide +kernel
theorem dX8_isLetter_8 : decode cX8_isLetter 8 = .ok (.aload_n 0, 1) := by decide +kernel
theorem dX8_isLetter_9 : decode cX8_isLetter 9 = .ok (.getfield 39, 3) := by decide +kernel
theorem dX8_isLetter_12 : decode cX8_isLetter 12 = .ok (.iload_n 1, 1) := by decide +kernel
theorem dX8_isLetter_13 : decode cX8_isLetter 13 = .ok (.iaload, 1) := by decide +kernel
theorem dX8_isLetter_14 : decode cX8_isLetter 14 = .ok (.bipush 97, 2) := by decide +kernel
theorem dX8_isLetter_16 : decode cX8_isLetter 16 = .ok (.if_icmp .lt 18, 3) := by decide +kernel
theorem dX8_isLetter_19 : decode cX8_isLetter 19 = .ok (.aload_n 0, 1) := by decide +kernel
theorem dX8_isLetter_20 : decode cX8_isLetter 20 = .ok (.getfield 39, 3) := by decide +kernel
theorem dX8_isLetter_23 : decode cX8_isLetter 23 = .ok (.iload_n 1, 1) := by decide +kernel
theorem dX8_isLetter_24 : decode cX8_isLetter 24 = .ok (.iaload, 1) := by decide +kernel
theorem dX8_isLetter_25 : decode cX8_isLetter 25 = .ok (.bipush 122, 2) := by decide +kernel
theorem dX8_isLetter_27 : decode cX8_isLetter 27 = .ok (.if_icmp .gt 7, 3) := by decide +kernel
theorem dX8_isLetter_30 : decode cX8_isLetter 30 = .ok (.iconst 1, 1) := by decide +kernel
theorem dX8_isLetter_31 : decode cX8_isLetter 31 = .ok (.goto 4, 3) := by decide +kernel
theorem dX8_isLetter_34 : decode cX8_isLetter 34 = .ok (.iconst 0, 1) := by decide +kernel
theorem dX8_isLetter_35 : decode cX8_isLetter 35 = .ok (.ireturn, 1) := by decide +kernel
theorem dX8_isFigure_0 : decode cX8_isFigure 0 = .ok (.iload_n 1, 1) := by decide +kernel
theorem dX8_isFigure_1 : decode cX8_isFigure 1 = .ok (.aload_n 0, 1) := by decide +kernel
theorem dX8_isFigure_2 : decode cX8_isFigure 2 = .ok (.getfield 214, 3) := by decide +kernel
theorem dX8_isFigure_5 : decode cX8_isFigure 5 = .ok (.if_icmp .ge 29, 3) := by decide +kernel
theorem dX8_isFigure_8 : decode cX8_isFigure 8 = .ok (.aload_n 0, 1) := by decide +kernel
theorem dX8_isFigure_9 : decode cX8_isFigure 9 = .ok (.getfield 39, 3) := by decide +kernel
theorem dX8_isFigure_12 : decode cX8_isFigure 12 = .ok (.iload_n 1, 1) := by decide +kernel
theorem dX8_isFigure_13 : decode cX8_isFigure 13 = .ok (.iaload, 1) := by decide +kernel
theorem dX8_isFigure_14 : decode cX8_isFigure 14 = .ok (.bipush 48, 2) := by decide +kernel
theorem dX8_isFigure_16 : decode cX8_isFigure 16 = .ok (.if_icmp .lt 18, 3) := by decide +kernel
theorem dX8_isFigure_19 : decode cX8_isFigure 19 = .ok (.aload_n 0, 1) := by decide +kernel
theorem dX8_isFigure_20 : decode cX8_isFigure 20 = .ok (.getfield 39, 3) := by decide +kernel
theorem dX8_isFigure_23 : decode cX8_isFigure 23 = .ok (.iload_n 1, 1) := by decide +kernel
theorem dX8_isFigure_24 : decode cX8_isFigure 24 = .ok (.iaload, 1) := by decide +kernel
theorem dX8_isFigure_25 : decode cX8_isFigure 25 = .ok (.bipush 57, 2) := by decide +kernel
theorem dX8_isFigure_27 : decode cX8_isFigure 27 = .ok (.if_icmp .gt 7, 3) := by decide +kernel
theorem dX8_isFigure_30 : decode cX8_isFigure 30 = .ok (.iconst 1, 1) := by decide +kernel
theorem dX8_isFigure_31 : decode cX8_isFigure 31 = .ok (.goto 4, 3) := by decide +kernel
theorem dX8_isFigure_34 : decode cX8_isFigure 34 = .ok (.iconst 0, 1) := by decide +kernel
theorem dX8_isFigure_35 : decode cX8_isFigure 35 = .ok (.ireturn, 1) := by decide +kernel
theorem dX8_go_0 : decode cX8_go 0 = .ok (.aload_n 0, 1) := by decide +kernel
theorem dX8_go_1 : decode cX8_go 1 = .ok (.getfield 218, 3) := by decide +kernel
theorem dX8_go_4 : decode cX8_go 4 = .ok (.aload_n 0, 1) := by decide +kernel
theorem dX8_go_5 : decode cX8_go 5 = .ok (.getfield 214, 3) := by decide +kernel
theorem dX8_go_8 : decode cX8_go 8 = .ok (.if_icmp .ge 30, 3) := by decide +kernel
theorem dX8_go_11 : decode cX8_go 11 = .ok (.aload_n 0, 1) := by decide +kernel
theorem dX8_go_12 : decode cX8_go 12 = .ok (.getfield 39, 3) := by decide +kernel
theorem dX8_go_15 : decode cX8_go 15 = .ok (.aload_n 0, 1) := by decide +kernel
theorem dX8_go_16 : decode cX8_go 16 = .ok (.getfield 218, 3) := by decide +kernel
theorem dX8_go_19 : decode cX8_go 19 = .ok (.iaload, 1) := by decide +kernel
theorem dX8_go_20 : decode cX8_go 20 = .ok (.bipush 32, 2) := by decide +kernel
theorem dX8_go_22 : decode cX8_go 22 = .ok (.if_icmp .ne 16, 3) := by decide +kernel
theorem dX8_go_25 : decode cX8_go 25 = .ok (.aload_n 0, 1) := by decide +kernel
theorem dX8_go_26 : decode cX8_go 26 = .ok (.dup, 1) := by decide +kernel
theorem dX8_go_27 : decode cX8_go 27 = .ok (.getfield 218, 3) := by decide +kernel
theorem dX8_go_30 : decode cX8_go 30 = .ok (.iconst 1, 1) := by decide +kernel
theorem dX8_go_31 : decode cX8_go 31 = .ok (.iadd, 1) := by decide +kernel
theorem dX8_go_32 : decode cX8_go 32 = .ok (.putfield 218, 3) := by decide +kernel
theorem dX8_go_35 : decode cX8_go 35 = .ok (.goto (-35), 3) := by decide +kernel
theorem dX8_go_38 : decode cX8_go 38 = .ok (.aload_n 0, 1) := by decide +kernel
theorem dX8_go_39 : decode cX8_go 39 = .ok (.aload_n 0, 1) := by decide +kernel
theorem dX8_go_40 : decode cX8_go 40 = .ok (.getfield 218, 3) := by decide +kernel
theorem dX8_go_43 : decode cX8_go 43 = .ok (.putfield 221, 3) := by decide +kernel
theorem dX8_go_46 : decode cX8_go 46 = .ok (.aload_n 0, 1) := by decide +kernel
theorem dX8_go_47 : decode cX8_go 47 = .ok (.getfield 221, 3) := by decide +kernel
theorem dX8_go_50 : decode cX8_go 50 = .ok (.aload_n 0, 1) := by decide +kernel
theorem dX8_go_51 : decode cX8_go 51 = .ok (.getfield 224, 3) := by decide +kernel
theorem dX8_go_54 : decode cX8_go 54 = .ok (.if_icmp .ne 7, 3) := by decide +kernel
theorem dX8_go_57 : decode cX8_go 57 = .ok (.iconst 1, 1) := by decide +kernel
theorem dX8_go_58 : decode cX8_go 58 = .ok (.goto 4, 3) := by decide +kernel
theorem dX8_go_61 : decode cX8_go 61 = .ok (.iconst 0, 1) := by decide +kernel
theorem dX8_go_62 : decode cX8_go 62 = .ok (.istore_n 1, 1) := by decide +kernel
theorem dX8_go_63 : decode cX8_go 63 = .ok (.aload_n 0, 1) := by decide +kernel
theorem dX8_go_64 : decode cX8_go 64 = .ok (.getfield 221, 3) := by decide +kernel
theorem dX8_go_67 : decode cX8_go 67 = .ok (.aload_n 0, 1) := by decide +kernel
theorem dX8_go_68 : decode cX8_go 68 = .ok (.getfield 214, 3) := by decide +kernel
theorem dX8_go_71 : decode cX8_go 71 = .ok (.if_icmp .ne 11, 3) := by decide +kernel
theorem dX8_go_74 : decode cX8_go 74 = .ok (.aload_n 0, 1) := by decide +kernel
theorem dX8_go_75 : decode cX8_go 75 = .ok (.iconst 0, 1) := by decide +kernel
theorem dX8_go_76 : decode cX8_go 76 = .ok (.putfield 227, 3) := by decide +kernel
theorem dX8_go_79 : decode cX8_go 79 = .ok (.goto 224, 3) := by decide +kernel
theorem dX8_go_82 : decode cX8_go 82 = .ok (.aload_n 0, 1) := by decide +kernel
theorem dX8_go_83 : decode cX8_go 83 = .ok (.aload_n 0, 1) := by decide +kernel
theorem dX8_go_84 : decode cX8_go 84 = .ok (.getfield 221, 3) := by decide +kernel
theorem dX8_go_87 : decode cX8_go 87 = .ok (.invokevirtual 230, 3) := by decide +kernel
theorem dX8_go_90 : decode cX8_go 90 = .ok (.ifCond .eq 64, 3) := by decide +kernel
theorem dX8_go_93 : decode cX8_go 93 = .ok (.aload_n 0, 1) := by decide +kernel
theorem dX8_go_94 : decode cX8_go 94 = .ok (.aload_n 0, 1) := by decide +kernel
theorem dX8_go_95 : decode cX8_go 95 = .ok (.getfield 218, 3) := by decide +kernel
theorem dX8_go_98 : decode cX8_go 98 = .ok (.invokevirtual 230, 3) := by decide +kernel
theorem dX8_go_101 : decode cX8_go 101 = .ok (.ifCond .eq 16, 3) := by decide +kernel
theorem dX8_go_104 : decode cX8_go 104 = .ok (.aload_n 0, 1) := by decide +kernel
theorem dX8_go_105 : decode cX8_go 105 = .ok (.dup, 1) := by decide +kernel
theorem dX8_go_106 : decode cX8_go 106 = .ok (.getfield 218, 3) := by decide +kernel
theorem dX8_go_109 : decode cX8_go 109 = .ok (.iconst 1, 1) := by decide +kernel
theorem dX8_go_110 : decode cX8_go 110 = .ok (.iadd, 1) := by decide +kernel
theorem dX8_go_111 : decode cX8_go 111 = .ok (.putfield 218, 3) := by decide +kernel
theorem dX8_go_114 : decode cX8_go 114 = .ok (.goto (-21), 3) := by decide +kernel
theorem dX8_go_117 : decode cX8_go 117 = .ok (.aload_n 0, 1) := by decide +kernel
theorem dX8_go_118 : decode cX8_go 118 = .ok (.iload_n 1, 1) := by decide +kernel
theorem dX8_go_119 : decode cX8_go 119 = .ok (.ifCond .eq 7, 3) := by decide +kernel
theorem dX8_go_122 : decode cX8_go 122 = .ok (.iconst 4, 1) := by decide +kernel
theorem dX8_go_123 : decode cX8_go 123 = .ok (.goto 4, 3) := by decide +kernel
theorem dX8_go_126 : decode cX8_go 126 = .ok (.iconst 1, 1) := by decide +kernel
theorem dX8_go_127 : decode cX8_go 127 = .ok (.putfield 227, 3) := by decide +kernel
theorem dX8_go_130 : decode cX8_go 130 = .ok (.aload_n 0, 1) := by decide +kernel
theorem dX8_go_131 : decode cX8_go 131 = .ok (.aload_n 0, 1) := by decide +kernel
theorem dX8_go_132 : decode cX8_go 132 = .ok (.getfield 39, 3) := by decide +kernel
theorem dX8_go_135 : decode cX8_go 135 = .ok (.aload_n 0, 1) := by decide +kernel
theorem dX8_go_136 : decode cX8_go 136 = .ok (.getfield 221, 3) := by decide +kernel
theorem dX8_go_139 : decode cX8_go 139 = .ok (.iaload, 1) := by decide +kernel
theorem dX8_go_140 : decode cX8_go 140 = .ok (.putfield 233, 3) := by decide +kernel
theorem dX8_go_143 : decode cX8_go 143 = .ok (.aload_n 0, 1) := by decide +kernel
theorem dX8_go_144 : decode cX8_go 144 = .ok (.aload_n 0, 1) := by decide +kernel
theorem dX8_go_145 : decode cX8_go 145 = .ok (.getfield 218, 3) := by decide +kernel
theorem dX8_go_148 : decode cX8_go 148 = .ok (.putfield 224, 3) := by decide +kernel
theorem dX8_go_151 : decode cX8_go 151 = .ok (.goto 152, 3) := by decide +kernel
theorem dX8_go_154 : decode cX8_go 154 = .ok (.aload_n 0, 1) := by decide +kernel
theorem dX8_go_155 : decode cX8_go 155 = .ok (.aload_n 0, 1) := by decide +kernel
theorem dX8_go_156 : decode cX8_go 156 = .ok (.getfield 221, 3) := by decide +kernel
theorem dX8_go_159 : decode cX8_go 159 = .ok (.invokevirtual 236, 3) := by decide +kernel
theorem dX8_go_162 : decode cX8_go 162 = .ok (.ifCond .eq 113, 3) := by decide +kernel
theorem dX8_go_165 : decode cX8_go 165 = .ok (.aload_n 0, 1) := by decide +kernel
theorem dX8_go_166 : decode cX8_go 166 = .ok (.iconst 0, 1) := by decide +kernel
theorem dX8_go_167 : decode cX8_go 167 = .ok (.putfield 233, 3) := by decide +kernel
theorem dX8_go_170 : decode cX8_go 170 = .ok (.aload_n 0, 1) := by decide +kernel
theorem dX8_go_171 : decode cX8_go 171 = .ok (.aload_n 0, 1) := by decide +kernel
theorem dX8_go_172 : decode cX8_go 172 = .ok (.getfield 218, 3) := by decide +kernel
theorem dX8_go_175 : decode cX8_go 175 = .ok (.invokevirtual 236, 3) := by decide +kernel
theorem dX8_go_178 : decode cX8_go 178 = .ok (.ifCond .eq 60, 3) := by decide +kernel
theorem dX8_go_181 : decode cX8_go 181 = .ok (.aload_n 0, 1) := by decide +kernel
theorem dX8_go_182 : decode cX8_go 182 = .ok (.aload_n 0, 1) := by decide +kernel
theorem dX8_go_183 : decode cX8_go 183 = .ok (.getfield 218, 3) := by decide +kernel
theorem dX8_go_186 : decode cX8_go 186 = .ok (.aload_n 0, 1) := by decide +kernel
theorem dX8_go_187 : decode cX8_go 187 = .ok (.getfield 221, 3) := by decide +kernel
theorem dX8_go_190 : decode cX8_go 190 = .ok (.isub, 1) := by decide +kernel
theorem dX8_go_191 : decode cX8_go 191 = .ok (.iconst 4, 1) := by decide +kernel
theorem dX8_go_192 : decode cX8_go 192 = .ok (.if_icmp .ge 26, 3) := by decide +kernel
theorem dX8_go_195 : decode cX8_go 195 = .ok (.bipush 10, 2) := by decide +kernel
theorem dX8_go_197 : decode cX8_go 197 = .ok (.aload_n 0, 1) := by decide +kernel
theorem dX8_go_198 : decode cX8_go 198 = .ok (.getfield 233, 3) := by decide +kernel
theorem dX8_go_201 : decode cX8_go 201 = .ok (.imul, 1) := by decide +kernel
theorem dX8_go_202 : decode cX8_go 202 = .ok (.aload_n 0, 1) := by decide +kernel
theorem dX8_go_203 : decode cX8_go 203 = .ok (.getfield 39, 3) := by decide +kernel
theorem dX8_go_206 : decode cX8_go 206 = .ok (.aload_n 0, 1) := by decide +kernel
theorem dX8_go_207 : decode cX8_go 207 = .ok (.getfield 218, 3) := by decide +kernel
theorem dX8_go_210 : decode cX8_go 210 = .ok (.iaload, 1) := by decide +kernel
theorem dX8_go_211 : decode cX8_go 211 = .ok (.iadd, 1) := by decide +kernel
theorem dX8_go_212 : decode cX8_go 212 = .ok (.bipush 48, 2) := by decide +kernel
theorem dX8_go_214 : decode cX8_go 214 = .ok (.isub, 1) := by decide +kernel
theorem dX8_go_215 : decode cX8_go 215 = .ok (.goto 7, 3) := by decide +kernel
theorem dX8_go_218 : decode cX8_go 218 = .ok (.aload_n 0, 1) := by decide +kernel
theorem dX8_go_219 : decode cX8_go 219 = .ok (.getfield 233, 3) := by decide +kernel
theorem dX8_go_222 : decode cX8_go 222 = .ok (.putfield 233, 3) := by decide +kernel
theorem dX8_go_225 : decode cX8_go 225 = .ok (.aload_n 0, 1) := by decide +kernel
theorem dX8_go_226 : decode cX8_go 226 = .ok (.dup, 1) := by decide +kernel
theorem dX8_go_227 : decode cX8_go 227 = .ok (.getfield 218, 3) := by decide +kernel
theorem dX8_go_230 : decode cX8_go 230 = .ok (.iconst 1, 1) := by decide +kernel
theorem dX8_go_231 : decode cX8_go 231 = .ok (.iadd, 1) := by decide +kernel
theorem dX8_go_232 : decode cX8_go 232 = .ok (.putfield 218, 3) := by decide +kernel
theorem dX8_go_235 : decode cX8_go 235 = .ok (.goto (-65), 3) := by decide +kernel
theorem dX8_go_238 : decode cX8_go 238 = .ok (.aload_n 0, 1) := by decide +kernel
theorem dX8_go_239 : decode cX8_go 239 = .ok (.iload_n 1, 1) := by decide +kernel
theorem dX8_go_240 : decode cX8_go 240 = .ok (.ifCond .ne 16, 3) := by decide +kernel
theorem dX8_go_243 : decode cX8_go 243 = .ok (.aload_n 0, 1) := by decide +kernel
theorem dX8_go_244 : decode cX8_go 244 = .ok (.getfield 218, 3) := by decide +kernel
theorem dX8_go_247 : decode cX8_go 247 = .ok (.aload_n 0, 1) := by decide +kernel
theorem dX8_go_248 : decode cX8_go 248 = .ok (.getfield 221, 3) := by decide +kernel
theorem dX8_go_251 : decode cX8_go 251 = .ok (.isub, 1) := by decide +kernel
theorem dX8_go_252 : decode cX8_go 252 = .ok (.iconst 4, 1) := by decide +kernel
theorem dX8_go_253 : decode cX8_go 253 = .ok (.if_icmp .le 7, 3) := by decide +kernel
theorem dX8_go_256 : decode cX8_go 256 = .ok (.iconst 4, 1) := by decide +kernel
theorem dX8_go_257 : decode cX8_go 257 = .ok (.goto 4, 3) := by decide +kernel
theorem dX8_go_260 : decode cX8_go 260 = .ok (.iconst 2, 1) := by decide +kernel
theorem dX8_go_261 : decode cX8_go 261 = .ok (.putfield 227, 3) := by decide +kernel
theorem dX8_go_264 : decode cX8_go 264 = .ok (.aload_n 0, 1) := by decide +kernel
theorem dX8_go_265 : decode cX8_go 265 = .ok (.aload_n 0, 1) := by decide +kernel
theorem dX8_go_266 : decode cX8_go 266 = .ok (.getfield 218, 3) := by decide +kernel
theorem dX8_go_269 : decode cX8_go 269 = .ok (.putfield 224, 3) := by decide +kernel
theorem dX8_go_272 : decode cX8_go 272 = .ok (.goto 31, 3) := by decide +kernel
theorem dX8_go_275 : decode cX8_go 275 = .ok (.aload_n 0, 1) := by decide +kernel
theorem dX8_go_276 : decode cX8_go 276 = .ok (.iconst 3, 1) := by decide +kernel
theorem dX8_go_277 : decode cX8_go 277 = .ok (.putfield 227, 3) := by decide +kernel
theorem dX8_go_280 : decode cX8_go 280 = .ok (.aload_n 0, 1) := by decide +kernel
theorem dX8_go_281 : decode cX8_go 281 = .ok (.aload_n 0, 1) := by decide +kernel
theorem dX8_go_282 : decode cX8_go 282 = .ok (.getfield 39, 3) := by decide +kernel
theorem dX8_go_285 : decode cX8_go 285 = .ok (.aload_n 0, 1) := by decide +kernel
theorem dX8_go_286 : decode cX8_go 286 = .ok (.getfield 221, 3) := by decide +kernel
theorem dX8_go_289 : decode cX8_go 289 = .ok (.iaload, 1) := by decide +kernel
theorem dX8_go_290 : decode cX8_go 290 = .ok (.putfield 233, 3) := by decide +kernel
theorem dX8_go_293 : decode cX8_go 293 = .ok (.aload_n 0, 1) := by decide +kernel
theorem dX8_go_294 : decode cX8_go 294 = .ok (.dup, 1) := by decide +kernel
theorem dX8_go_295 : decode cX8_go 295 = .ok (.getfield 218, 3) := by decide +kernel
theorem dX8_go_298 : decode cX8_go 298 = .ok (.iconst 1, 1) := by decide +kernel
theorem dX8_go_299 : decode cX8_go 299 = .ok (.iadd, 1) := by decide +kernel
theorem dX8_go_300 : decode cX8_go 300 = .ok (.putfield 218, 3) := by decide +kernel
theorem dX8_go_303 : decode cX8_go 303 = .ok (.return_, 1) := by decide +kernel
theorem dX8_takesKey_0 : decode cX8_takesKey 0 = .ok (.aload_n 0, 1) := by decide +kernel
theorem dX8_takesKey_1 : decode cX8_takesKey 1 = .ok (.getfield 227, 3) := by decide +kernel
theorem dX8_takesKey_4 : decode cX8_takesKey 4 = .ok (.iconst 1, 1) := by decide +kernel
theorem dX8_takesKey_5 : decode cX8_takesKey 5 = .ok (.if_icmp .eq 5, 3) := by decide +kernel
theorem dX8_takesKey_8 : decode cX8_takesKey 8 = .ok (.iconst 0, 1) := by decide +kernel
theorem dX8_takesKey_9 : decode cX8_takesKey 9 = .ok (.ireturn, 1) := by decide +kernel
theorem dX8_takesKey_10 : decode cX8_takesKey 10 = .ok (.iconst 0, 1) := by decide +kernel
theorem dX8_takesKey_11 : decode cX8_takesKey 11 = .ok (.istore_n 1, 1) := by decide +kernel
theorem dX8_takesKey_12 : decode cX8_takesKey 12 = .ok (.iload_n 1, 1) := by decide +kernel
theorem dX8_takesKey_13 : decode cX8_takesKey 13 = .ok (.iconst 3, 1) := by decide +kernel
theorem dX8_takesKey_14 : decode cX8_takesKey 14 = .ok (.if_icmp .ge 113, 3) := by decide +kernel
theorem dX8_takesKey_17 : decode cX8_takesKey 17 = .ok (.aload_n 0, 1) := by decide +kernel
theorem dX8_takesKey_18 : decode cX8_takesKey 18 = .ok (.getfield 46, 3) := by decide +kernel
theorem dX8_takesKey_21 : decode cX8_takesKey 21 = .ok (.iload_n 1, 1) := by decide +kernel
theorem dX8_takesKey_22 : decode cX8_takesKey 22 = .ok (.iconst 1, 1) := by decide +kernel
theorem dX8_takesKey_23 : decode cX8_takesKey 23 = .ok (.iadd, 1) := by decide +kernel
theorem dX8_takesKey_24 : decode cX8_takesKey 24 = .ok (.iaload, 1) := by decide +kernel
theorem dX8_takesKey_25 : decode cX8_takesKey 25 = .ok (.aload_n 0, 1) := by decide +kernel
theorem dX8_takesKey_26 : decode cX8_takesKey 26 = .ok (.getfield 46, 3) := by decide +kernel
theorem dX8_takesKey_29 : decode cX8_takesKey 29 = .ok (.iload_n 1, 1) := by decide +kernel
theorem dX8_takesKey_30 : decode cX8_takesKey 30 = .ok (.iaload, 1) := by decide +kernel
theorem dX8_takesKey_31 : decode cX8_takesKey 31 = .ok (.isub, 1) := by decide +kernel
theorem dX8_takesKey_32 : decode cX8_takesKey 32 = .ok (.istore_n 2, 1) := by decide +kernel
theorem dX8_takesKey_33 : decode cX8_takesKey 33 = .ok (.iload_n 2, 1) := by decide +kernel
theorem dX8_takesKey_34 : decode cX8_takesKey 34 = .ok (.aload_n 0, 1) := by decide +kernel
theorem dX8_takesKey_35 : decode cX8_takesKey 35 = .ok (.getfield 218, 3) := by decide +kernel
theorem dX8_takesKey_38 : decode cX8_takesKey 38 = .ok (.aload_n 0, 1) := by decide +kernel
theorem dX8_takesKey_39 : decode cX8_takesKey 39 = .ok (.getfield 221, 3) := by decide +kernel
theorem dX8_takesKey_42 : decode cX8_takesKey 42 = .ok (.isub, 1) := by decide +kernel
theorem dX8_takesKey_43 : decode cX8_takesKey 43 = .ok (.if_icmp .ne 7, 3) := by decide +kernel
theorem dX8_takesKey_46 : decode cX8_takesKey 46 = .ok (.iconst 1, 1) := by decide +kernel
theorem dX8_takesKey_47 : decode cX8_takesKey 47 = .ok (.goto 4, 3) := by decide +kernel
theorem dX8_takesKey_50 : decode cX8_takesKey 50 = .ok (.iconst 0, 1) := by decide +kernel
theorem dX8_takesKey_51 : decode cX8_takesKey 51 = .ok (.istore_n 3, 1) := by decide +kernel
theorem dX8_takesKey_52 : decode cX8_takesKey 52 = .ok (.iconst 0, 1) := by decide +kernel
theorem dX8_takesKey_53 : decode cX8_takesKey 53 = .ok (.istore 4, 2) := by decide +kernel
theorem dX8_takesKey_55 : decode cX8_takesKey 55 = .ok (.iload 4, 2) := by decide +kernel
theorem dX8_takesKey_57 : decode cX8_takesKey 57 = .ok (.iload_n 2, 1) := by decide +kernel
theorem dX8_takesKey_58 : decode cX8_takesKey 58 = .ok (.if_icmp .ge 48, 3) := by decide +kernel
theorem dX8_takesKey_61 : decode cX8_takesKey 61 = .ok (.iload_n 3, 1) := by decide +kernel
theorem dX8_takesKey_62 : decode cX8_takesKey 62 = .ok (.ifCond .eq 44, 3) := by decide +kernel
theorem dX8_takesKey_65 : decode cX8_takesKey 65 = .ok (.aload_n 0, 1) := by decide +kernel
theorem dX8_takesKey_66 : decode cX8_takesKey 66 = .ok (.getfield 39, 3) := by decide +kernel
theorem dX8_takesKey_69 : decode cX8_takesKey 69 = .ok (.aload_n 0, 1) := by decide +kernel
theorem dX8_takesKey_70 : decode cX8_takesKey 70 = .ok (.getfield 221, 3) := by decide +kernel
theorem dX8_takesKey_73 : decode cX8_takesKey 73 = .ok (.iload 4, 2) := by decide +kernel
theorem dX8_takesKey_75 : decode cX8_takesKey 75 = .ok (.iadd, 1) := by decide +kernel
theorem dX8_takesKey_76 : decode cX8_takesKey 76 = .ok (.iaload, 1) := by decide +kernel
theorem dX8_takesKey_77 : decode cX8_takesKey 77 = .ok (.aload_n 0, 1) := by decide +kernel
theorem dX8_takesKey_78 : decode cX8_takesKey 78 = .ok (.getfield 42, 3) := by decide +kernel
theorem dX8_takesKey_81 : decode cX8_takesKey 81 = .ok (.aload_n 0, 1) := by decide +kernel
theorem dX8_takesKey_82 : decode cX8_takesKey 82 = .ok (.getfield 46, 3) := by decide +kernel
theorem dX8_takesKey_85 : decode cX8_takesKey 85 = .ok (.iload_n 1, 1) := by decide +kernel
theorem dX8_takesKey_86 : decode cX8_takesKey 86 = .ok (.iaload, 1) := by decide +kernel
theorem dX8_takesKey_87 : decode cX8_takesKey 87 = .ok (.iload 4, 2) := by decide +kernel
theorem dX8_takesKey_89 : decode cX8_takesKey 89 = .ok (.iadd, 1) := by decide +kernel
theorem dX8_takesKey_90 : decode cX8_takesKey 90 = .ok (.caload, 1) := by decide +kernel
theorem dX8_takesKey_91 : decode cX8_takesKey 91 = .ok (.if_icmp .ne 7, 3) := by decide +kernel
theorem dX8_takesKey_94 : decode cX8_takesKey 94 = .ok (.iconst 1, 1) := by decide +kernel
theorem dX8_takesKey_95 : decode cX8_takesKey 95 = .ok (.goto 4, 3) := by decide +kernel
theorem dX8_takesKey_98 : decode cX8_takesKey 98 = .ok (.iconst 0, 1) := by decide +kernel
theorem dX8_takesKey_99 : decode cX8_takesKey 99 = .ok (.istore_n 3, 1) := by decide +kernel
theorem dX8_takesKey_100 : decode cX8_takesKey 100 = .ok (.iinc 4 1, 3) := by decide +kernel
theorem dX8_takesKey_103 : decode cX8_takesKey 103 = .ok (.goto (-48), 3) := by decide +kernel
theorem dX8_takesKey_106 : decode cX8_takesKey 106 = .ok (.iload_n 3, 1) := by decide +kernel
theorem dX8_takesKey_107 : decode cX8_takesKey 107 = .ok (.ifCond .eq 14, 3) := by decide +kernel
theorem dX8_takesKey_110 : decode cX8_takesKey 110 = .ok (.aload_n 0, 1) := by decide +kernel
theorem dX8_takesKey_111 : decode cX8_takesKey 111 = .ok (.iload_n 1, 1) := by decide +kernel
theorem dX8_takesKey_112 : decode cX8_takesKey 112 = .ok (.putfield 239, 3) := by decide +kernel
theorem dX8_takesKey_115 : decode cX8_takesKey 115 = .ok (.aload_n 0, 1) := by decide +kernel
theorem dX8_takesKey_116 : decode cX8_takesKey 116 = .ok (.invokevirtual 242, 3) := by decide +kernel
theorem dX8_takesKey_119 : decode cX8_takesKey 119 = .ok (.iconst 1, 1) := by decide +kernel
theorem dX8_takesKey_120 : decode cX8_takesKey 120 = .ok (.ireturn, 1) := by decide +kernel
theorem dX8_takesKey_121 : decode cX8_takesKey 121 = .ok (.iinc 1 1, 3) := by decide +kernel
theorem dX8_takesKey_124 : decode cX8_takesKey 124 = .ok (.goto (-112), 3) := by decide +kernel
theorem dX8_takesKey_127 : decode cX8_takesKey 127 = .ok (.iconst 0, 1) := by decide +kernel
theorem dX8_takesKey_128 : decode cX8_takesKey 128 = .ok (.ireturn, 1) := by decide +kernel
theorem dX8_nameOf_0 : decode cX8_nameOf 0 = .ok (.aload_n 0, 1) := by decide +kernel
theorem dX8_nameOf_1 : decode cX8_nameOf 1 = .ok (.getfield 239, 3) := by decide +kernel
theorem dX8_nameOf_4 : decode cX8_nameOf 4 = .ok (.lookupswitch 82 #[(0, 28), (1, 50)], 28) := by decide +kernel
theorem dX8_nameOf_32 : decode cX8_nameOf 32 = .ok (.iload_n 1, 1) := by decide +kernel
theorem dX8_nameOf_33 : decode cX8_nameOf 33 = .ok (.bipush 100, 2) := by decide +kernel
theorem dX8_nameOf_35 : decode cX8_nameOf 35 = .ok (.if_icmp .ne 7, 3) := by decide +kernel
theorem dX8_nameOf_38 : decode cX8_nameOf 38 = .ok (.iconst 0, 1) := by decide +kernel
theorem dX8_nameOf_39 : decode cX8_nameOf 39 = .ok (.goto 14, 3) := by decide +kernel
theorem dX8_nameOf_42 : decode cX8_nameOf 42 = .ok (.iload_n 1, 1) := by decide +kernel
theorem dX8_nameOf_43 : decode cX8_nameOf 43 = .ok (.bipush 111, 2) := by decide +kernel
theorem dX8_nameOf_45 : decode cX8_nameOf 45 = .ok (.if_icmp .ne 7, 3) := by decide +kernel
theorem dX8_nameOf_48 : decode cX8_nameOf 48 = .ok (.iconst 1, 1) := by decide +kernel
theorem dX8_nameOf_49 : decode cX8_nameOf 49 = .ok (.goto 4, 3) := by decide +kernel
theorem dX8_nameOf_52 : decode cX8_nameOf 52 = .ok (.iconst (-1), 1) := by decide +kernel
theorem dX8_nameOf_53 : decode cX8_nameOf 53 = .ok (.ireturn, 1) := by decide +kernel
theorem dX8_nameOf_54 : decode cX8_nameOf 54 = .ok (.iload_n 1, 1) := by decide +kernel
theorem dX8_nameOf_55 : decode cX8_nameOf 55 = .ok (.bipush 120, 2) := by decide +kernel
theorem dX8_nameOf_57 : decode cX8_nameOf 57 = .ok (.if_icmp .ne 7, 3) := by decide +kernel
theorem dX8_nameOf_60 : decode cX8_nameOf 60 = .ok (.iconst 0, 1) := by decide +kernel
theorem dX8_nameOf_61 : decode cX8_nameOf 61 = .ok (.goto 24, 3) := by decide +kernel
theorem dX8_nameOf_64 : decode cX8_nameOf 64 = .ok (.iload_n 1, 1) := by decide +kernel
theorem dX8_nameOf_65 : decode cX8_nameOf 65 = .ok (.bipush 100, 2) := by decide +kernel
theorem dX8_nameOf_67 : decode cX8_nameOf 67 = .ok (.if_icmp .ne 7, 3) := by decide +kernel
theorem dX8_nameOf_70 : decode cX8_nameOf 70 = .ok (.iconst 1, 1) := by decide +kernel
theorem dX8_nameOf_71 : decode cX8_nameOf 71 = .ok (.goto 14, 3) := by decide +kernel
theorem dX8_nameOf_74 : decode cX8_nameOf 74 = .ok (.iload_n 1, 1) := by decide +kernel
theorem dX8_nameOf_75 : decode cX8_nameOf 75 = .ok (.bipush 97, 2) := by decide +kernel
theorem dX8_nameOf_77 : decode cX8_nameOf 77 = .ok (.if_icmp .ne 7, 3) := by decide +kernel
theorem dX8_nameOf_80 : decode cX8_nameOf 80 = .ok (.iconst 2, 1) := by decide +kernel
theorem dX8_nameOf_81 : decode cX8_nameOf 81 = .ok (.goto 4, 3) := by decide +kernel
theorem dX8_nameOf_84 : decode cX8_nameOf 84 = .ok (.iconst (-1), 1) := by decide +kernel
theorem dX8_nameOf_85 : decode cX8_nameOf 85 = .ok (.ireturn, 1) := by decide +kernel
theorem dX8_nameOf_86 : decode cX8_nameOf 86 = .ok (.iload_n 1, 1) := by decide +kernel
theorem dX8_nameOf_87 : decode cX8_nameOf 87 = .ok (.bipush 101, 2) := by decide +kernel
theorem dX8_nameOf_89 : decode cX8_nameOf 89 = .ok (.if_icmp .ne 7, 3) := by decide +kernel
theorem dX8_nameOf_92 : decode cX8_nameOf 92 = .ok (.iconst 0, 1) := by decide +kernel
theorem dX8_nameOf_93 : decode cX8_nameOf 93 = .ok (.goto 14, 3) := by decide +kernel
theorem dX8_nameOf_96 : decode cX8_nameOf 96 = .ok (.iload_n 1, 1) := by decide +kernel
theorem dX8_nameOf_97 : decode cX8_nameOf 97 = .ok (.bipush 108, 2) := by decide +kernel
theorem dX8_nameOf_99 : decode cX8_nameOf 99 = .ok (.if_icmp .ne 7, 3) := by decide +kernel
theorem dX8_nameOf_102 : decode cX8_nameOf 102 = .ok (.iconst 1, 1) := by decide +kernel
theorem dX8_nameOf_103 : decode cX8_nameOf 103 = .ok (.goto 4, 3) := by decide +kernel
theorem dX8_nameOf_106 : decode cX8_nameOf 106 = .ok (.iconst (-1), 1) := by decide +kernel
theorem dX8_nameOf_107 : decode cX8_nameOf 107 = .ok (.ireturn, 1) := by decide +kernel
theorem dX8_rank_0 : decode cX8_rank 0 = .ok (.iload_n 0, 1) := by decide +kernel
theorem dX8_rank_1 : decode cX8_rank 1 = .ok (.iconst (-1), 1) := by decide +kernel
theorem dX8_rank_2 : decode cX8_rank 2 = .ok (.if_icmp .ne 7, 3) := by decide +kernel
theorem dX8_rank_5 : decode cX8_rank 5 = .ok (.iconst 1, 1) := by decide +kernel
theorem dX8_rank_6 : decode cX8_rank 6 = .ok (.goto 45, 3) := by decide +kernel
theorem dX8_rank_9 : decode cX8_rank 9 = .ok (.iload_n 0, 1) := by decide +kernel
theorem dX8_rank_10 : decode cX8_rank 10 = .ok (.bipush (-2), 2) := by decide +kernel
theorem dX8_rank_12 : decode cX8_rank 12 = .ok (.if_icmp .ne 7, 3) := by decide +kernel
theorem dX8_rank_15 : decode cX8_rank 15 = .ok (.iconst 2, 1) := by decide +kernel
theorem dX8_rank_16 : decode cX8_rank 16 = .ok (.goto 35, 3) := by decide +kernel
theorem dX8_rank_19 : decode cX8_rank 19 = .ok (.iload_n 0, 1) := by decide +kernel
theorem dX8_rank_20 : decode cX8_rank 20 = .ok (.bipush (-5), 2) := by decide +kernel
theorem dX8_rank_22 : decode cX8_rank 22 = .ok (.if_icmp .lt 7, 3) := by decide +kernel
theorem dX8_rank_25 : decode cX8_rank 25 = .ok (.iconst 3, 1) := by decide +kernel
theorem dX8_rank_26 : decode cX8_rank 26 = .ok (.goto 25, 3) := by decide +kernel
theorem dX8_rank_29 : decode cX8_rank 29 = .ok (.iload_n 0, 1) := by decide +kernel
theorem dX8_rank_30 : decode cX8_rank 30 = .ok (.bipush (-7), 2) := by decide +kernel
theorem dX8_rank_32 : decode cX8_rank 32 = .ok (.if_icmp .lt 7, 3) := by decide +kernel
theorem dX8_rank_35 : decode cX8_rank 35 = .ok (.iconst 4, 1) := by decide +kernel
theorem dX8_rank_36 : decode cX8_rank 36 = .ok (.goto 15, 3) := by decide +kernel
theorem dX8_rank_39 : decode cX8_rank 39 = .ok (.iload_n 0, 1) := by decide +kernel
theorem dX8_rank_40 : decode cX8_rank 40 = .ok (.bipush (-9), 2) := by decide +kernel
theorem dX8_rank_42 : decode cX8_rank 42 = .ok (.if_icmp .lt 7, 3) := by decide +kernel
theorem dX8_rank_45 : decode cX8_rank 45 = .ok (.iconst 5, 1) := by decide +kernel
theorem dX8_rank_46 : decode cX8_rank 46 = .ok (.goto 5, 3) := by decide +kernel
theorem dX8_rank_49 : decode cX8_rank 49 = .ok (.bipush 6, 2) := by decide +kernel
theorem dX8_rank_51 : decode cX8_rank 51 = .ok (.ireturn, 1) := by decide +kernel
theorem dX8_settle_0 : decode cX8_settle 0 = .ok (.aload_n 0, 1) := by decide +kernel
theorem dX8_settle_1 : decode cX8_settle 1 = .ok (.getfield 245, 3) := by decide +kernel
theorem dX8_settle_4 : decode cX8_settle 4 = .ok (.ifCond .le 78, 3) := by decide +kernel
theorem dX8_settle_7 : decode cX8_settle 7 = .ok (.aload_n 0, 1) := by decide +kernel
theorem dX8_settle_8 : decode cX8_settle 8 = .ok (.getfield 52, 3) := by decide +kernel
theorem dX8_settle_11 : decode cX8_settle 11 = .ok (.aload_n 0, 1) := by decide +kernel
theorem dX8_settle_12 : decode cX8_settle 12 = .ok (.getfield 245, 3) := by decide +kernel
theorem dX8_settle_15 : decode cX8_settle 15 = .ok (.iconst 1, 1) := by decide +kernel
theorem dX8_settle_16 : decode cX8_settle 16 = .ok (.isub, 1) := by decide +kernel
theorem dX8_settle_17 : decode cX8_settle 17 = .ok (.iaload, 1) := by decide +kernel
theorem dX8_settle_18 : decode cX8_settle 18 = .ok (.bipush (-11), 2) := by decide +kernel
theorem dX8_settle_20 : decode cX8_settle 20 = .ok (.if_icmp .eq 62, 3) := by decide +kernel
theorem dX8_settle_23 : decode cX8_settle 23 = .ok (.aload_n 0, 1) := by decide +kernel
theorem dX8_settle_24 : decode cX8_settle 24 = .ok (.getfield 52, 3) := by decide +kernel
theorem dX8_settle_27 : decode cX8_settle 27 = .ok (.aload_n 0, 1) := by decide +kernel
theorem dX8_settle_28 : decode cX8_settle 28 = .ok (.getfield 245, 3) := by decide +kernel
theorem dX8_settle_31 : decode cX8_settle 31 = .ok (.iconst 1, 1) := by decide +kernel
theorem dX8_settle_32 : decode cX8_settle 32 = .ok (.isub, 1) := by decide +kernel
theorem dX8_settle_33 : decode cX8_settle 33 = .ok (.iaload, 1) := by decide +kernel
theorem dX8_settle_34 : decode cX8_settle 34 = .ok (.invokestatic 248, 3) := by decide +kernel
theorem dX8_settle_37 : decode cX8_settle 37 = .ok (.iload_n 1, 1) := by decide +kernel
theorem dX8_settle_38 : decode cX8_settle 38 = .ok (.if_icmp .lt 44, 3) := by decide +kernel
theorem dX8_settle_41 : decode cX8_settle 41 = .ok (.aload_n 0, 1) := by decide +kernel
theorem dX8_settle_42 : decode cX8_settle 42 = .ok (.dup, 1) := by decide +kernel
theorem dX8_settle_43 : decode cX8_settle 43 = .ok (.getfield 245, 3) := by decide +kernel
theorem dX8_settle_46 : decode cX8_settle 46 = .ok (.iconst 1, 1) := by decide +kernel
theorem dX8_settle_47 : decode cX8_settle 47 = .ok (.isub, 1) := by decide +kernel
theorem dX8_settle_48 : decode cX8_settle 48 = .ok (.putfield 245, 3) := by decide +kernel
theorem dX8_settle_51 : decode cX8_settle 51 = .ok (.aload_n 0, 1) := by decide +kernel
theorem dX8_settle_52 : decode cX8_settle 52 = .ok (.getfield 49, 3) := by decide +kernel
theorem dX8_settle_55 : decode cX8_settle 55 = .ok (.aload_n 0, 1) := by decide +kernel
theorem dX8_settle_56 : decode cX8_settle 56 = .ok (.getfield 251, 3) := by decide +kernel
theorem dX8_settle_59 : decode cX8_settle 59 = .ok (.aload_n 0, 1) := by decide +kernel
theorem dX8_settle_60 : decode cX8_settle 60 = .ok (.getfield 52, 3) := by decide +kernel
theorem dX8_settle_63 : decode cX8_settle 63 = .ok (.aload_n 0, 1) := by decide +kernel
theorem dX8_settle_64 : decode cX8_settle 64 = .ok (.getfield 245, 3) := by decide +kernel
theorem dX8_settle_67 : decode cX8_settle 67 = .ok (.iaload, 1) := by decide +kernel
theorem dX8_settle_68 : decode cX8_settle 68 = .ok (.iastore, 1) := by decide +kernel
theorem dX8_settle_69 : decode cX8_settle 69 = .ok (.aload_n 0, 1) := by decide +kernel
theorem dX8_settle_70 : decode cX8_settle 70 = .ok (.dup, 1) := by decide +kernel
theorem dX8_settle_71 : decode cX8_settle 71 = .ok (.getfield 251, 3) := by decide +kernel
theorem dX8_settle_74 : decode cX8_settle 74 = .ok (.iconst 1, 1) := by decide +kernel
theorem dX8_settle_75 : decode cX8_settle 75 = .ok (.iadd, 1) := by decide +kernel
theorem dX8_settle_76 : decode cX8_settle 76 = .ok (.putfield 251, 3) := by decide +kernel
theorem dX8_settle_79 : decode cX8_settle 79 = .ok (.goto (-79), 3) := by decide +kernel
theorem dX8_settle_82 : decode cX8_settle 82 = .ok (.return_, 1) := by decide +kernel
theorem dX8_signHere_0 : decode cX8_signHere 0 = .ok (.aload_n 0, 1) := by decide +kernel
theorem dX8_signHere_1 : decode cX8_signHere 1 = .ok (.getfield 227, 3) := by decide +kernel
theorem dX8_signHere_4 : decode cX8_signHere 4 = .ok (.iconst 3, 1) := by decide +kernel
theorem dX8_signHere_5 : decode cX8_signHere 5 = .ok (.if_icmp .eq 5, 3) := by decide +kernel
theorem dX8_signHere_8 : decode cX8_signHere 8 = .ok (.iconst 0, 1) := by decide +kernel
theorem dX8_signHere_9 : decode cX8_signHere 9 = .ok (.ireturn, 1) := by decide +kernel
theorem dX8_signHere_10 : decode cX8_signHere 10 = .ok (.aload_n 0, 1) := by decide +kernel
theorem dX8_signHere_11 : decode cX8_signHere 11 = .ok (.getfield 233, 3) := by decide +kernel
theorem dX8_signHere_14 : decode cX8_signHere 14 = .ok (.lookupswitch 108 #[(38, 84), (42, 102), (43, 96), (45, 99), (47, 105), (60, 87), (61, 90), (62, 93), (124, 82)], 82) := by decide +kernel
theorem dX8_signHere_96 : decode cX8_signHere 96 = .ok (.iconst (-1), 1) := by decide +kernel
theorem dX8_signHere_97 : decode cX8_signHere 97 = .ok (.ireturn, 1) := by decide +kernel
theorem dX8_signHere_98 : decode cX8_signHere 98 = .ok (.bipush (-2), 2) := by decide +kernel
theorem dX8_signHere_100 : decode cX8_signHere 100 = .ok (.ireturn, 1) := by decide +kernel
theorem dX8_signHere_101 : decode cX8_signHere 101 = .ok (.bipush (-3), 2) := by decide +kernel
theorem dX8_signHere_103 : decode cX8_signHere 103 = .ok (.ireturn, 1) := by decide +kernel
theorem dX8_signHere_104 : decode cX8_signHere 104 = .ok (.bipush (-4), 2) := by decide +kernel
theorem dX8_signHere_106 : decode cX8_signHere 106 = .ok (.ireturn, 1) := by decide +kernel
theorem dX8_signHere_107 : decode cX8_signHere 107 = .ok (.bipush (-5), 2) := by decide +kernel
theorem dX8_signHere_109 : decode cX8_signHere 109 = .ok (.ireturn, 1) := by decide +kernel
theorem dX8_signHere_110 : decode cX8_signHere 110 = .ok (.bipush (-6), 2) := by decide +kernel
theorem dX8_signHere_112 : decode cX8_signHere 112 = .ok (.ireturn, 1) := by decide +kernel
theorem dX8_signHere_113 : decode cX8_signHere 113 = .ok (.bipush (-7), 2) := by decide +kernel
theorem dX8_signHere_115 : decode cX8_signHere 115 = .ok (.ireturn, 1) := by decide +kernel
theorem dX8_signHere_116 : decode cX8_signHere 116 = .ok (.bipush (-8), 2) := by decide +kernel
theorem dX8_signHere_118 : decode cX8_signHere 118 = .ok (.ireturn, 1) := by decide +kernel
theorem dX8_signHere_119 : decode cX8_signHere 119 = .ok (.bipush (-9), 2) := by decide +kernel
theorem dX8_signHere_121 : decode cX8_signHere 121 = .ok (.ireturn, 1) := by decide +kernel
theorem dX8_signHere_122 : decode cX8_signHere 122 = .ok (.iconst 0, 1) := by decide +kernel
theorem dX8_signHere_123 : decode cX8_signHere 123 = .ok (.ireturn, 1) := by decide +kernel
theorem dX8_takesPart_0 : decode cX8_takesPart 0 = .ok (.aload_n 0, 1) := by decide +kernel
theorem dX8_takesPart_1 : decode cX8_takesPart 1 = .ok (.getfield 227, 3) := by decide +kernel
theorem dX8_takesPart_4 : decode cX8_takesPart 4 = .ok (.iconst 1, 1) := by decide +kernel
theorem dX8_takesPart_5 : decode cX8_takesPart 5 = .ok (.if_icmp .ne 31, 3) := by decide +kernel
theorem dX8_takesPart_8 : decode cX8_takesPart 8 = .ok (.aload_n 0, 1) := by decide +kernel
theorem dX8_takesPart_9 : decode cX8_takesPart 9 = .ok (.getfield 218, 3) := by decide +kernel
theorem dX8_takesPart_12 : decode cX8_takesPart 12 = .ok (.aload_n 0, 1) := by decide +kernel
theorem dX8_takesPart_13 : decode cX8_takesPart 13 = .ok (.getfield 221, 3) := by decide +kernel
theorem dX8_takesPart_16 : decode cX8_takesPart 16 = .ok (.isub, 1) := by decide +kernel
theorem dX8_takesPart_17 : decode cX8_takesPart 17 = .ok (.iconst 1, 1) := by decide +kernel
theorem dX8_takesPart_18 : decode cX8_takesPart 18 = .ok (.if_icmp .ne 18, 3) := by decide +kernel
theorem dX8_takesPart_21 : decode cX8_takesPart 21 = .ok (.aload_n 0, 1) := by decide +kernel
theorem dX8_takesPart_22 : decode cX8_takesPart 22 = .ok (.aload_n 0, 1) := by decide +kernel
theorem dX8_takesPart_23 : decode cX8_takesPart 23 = .ok (.getfield 233, 3) := by decide +kernel
theorem dX8_takesPart_26 : decode cX8_takesPart 26 = .ok (.invokevirtual 254, 3) := by decide +kernel
theorem dX8_takesPart_29 : decode cX8_takesPart 29 = .ok (.ifCond .lt 7, 3) := by decide +kernel
theorem dX8_takesPart_32 : decode cX8_takesPart 32 = .ok (.iconst 1, 1) := by decide +kernel
theorem dX8_takesPart_33 : decode cX8_takesPart 33 = .ok (.goto 4, 3) := by decide +kernel
theorem dX8_takesPart_36 : decode cX8_takesPart 36 = .ok (.iconst 0, 1) := by decide +kernel
theorem dX8_takesPart_37 : decode cX8_takesPart 37 = .ok (.istore_n 1, 1) := by decide +kernel
theorem dX8_takesPart_38 : decode cX8_takesPart 38 = .ok (.aload_n 0, 1) := by decide +kernel
theorem dX8_takesPart_39 : decode cX8_takesPart 39 = .ok (.getfield 227, 3) := by decide +kernel
theorem dX8_takesPart_42 : decode cX8_takesPart 42 = .ok (.iconst 2, 1) := by decide +kernel
theorem dX8_takesPart_43 : decode cX8_takesPart 43 = .ok (.if_icmp .eq 9, 3) := by decide +kernel
theorem dX8_takesPart_46 : decode cX8_takesPart 46 = .ok (.iload_n 1, 1) := by decide +kernel
theorem dX8_takesPart_47 : decode cX8_takesPart 47 = .ok (.ifCond .ne 5, 3) := by decide +kernel
theorem dX8_takesPart_50 : decode cX8_takesPart 50 = .ok (.iconst 0, 1) := by decide +kernel
theorem dX8_takesPart_51 : decode cX8_takesPart 51 = .ok (.ireturn, 1) := by decide +kernel
theorem dX8_takesPart_52 : decode cX8_takesPart 52 = .ok (.aload_n 0, 1) := by decide +kernel
theorem dX8_takesPart_53 : decode cX8_takesPart 53 = .ok (.getfield 49, 3) := by decide +kernel
theorem dX8_takesPart_56 : decode cX8_takesPart 56 = .ok (.aload_n 0, 1) := by decide +kernel
theorem dX8_takesPart_57 : decode cX8_takesPart 57 = .ok (.getfield 251, 3) := by decide +kernel
theorem dX8_takesPart_60 : decode cX8_takesPart 60 = .ok (.aload_n 0, 1) := by decide +kernel
theorem dX8_takesPart_61 : decode cX8_takesPart 61 = .ok (.getfield 227, 3) := by decide +kernel
theorem dX8_takesPart_64 : decode cX8_takesPart 64 = .ok (.iconst 2, 1) := by decide +kernel
theorem dX8_takesPart_65 : decode cX8_takesPart 65 = .ok (.if_icmp .ne 10, 3) := by decide +kernel
theorem dX8_takesPart_68 : decode cX8_takesPart 68 = .ok (.aload_n 0, 1) := by decide +kernel
theorem dX8_takesPart_69 : decode cX8_takesPart 69 = .ok (.getfield 233, 3) := by decide +kernel
theorem dX8_takesPart_72 : decode cX8_takesPart 72 = .ok (.goto 15, 3) := by decide +kernel
theorem dX8_takesPart_75 : decode cX8_takesPart 75 = .ok (.sipush 10000, 3) := by decide +kernel
theorem dX8_takesPart_78 : decode cX8_takesPart 78 = .ok (.aload_n 0, 1) := by decide +kernel
theorem dX8_takesPart_79 : decode cX8_takesPart 79 = .ok (.aload_n 0, 1) := by decide +kernel
theorem dX8_takesPart_80 : decode cX8_takesPart 80 = .ok (.getfield 233, 3) := by decide +kernel
theorem dX8_takesPart_83 : decode cX8_takesPart 83 = .ok (.invokevirtual 254, 3) := by decide +kernel
theorem dX8_takesPart_86 : decode cX8_takesPart 86 = .ok (.iadd, 1) := by decide +kernel
theorem dX8_takesPart_87 : decode cX8_takesPart 87 = .ok (.iastore, 1) := by decide +kernel
theorem dX8_takesPart_88 : decode cX8_takesPart 88 = .ok (.aload_n 0, 1) := by decide +kernel
theorem dX8_takesPart_89 : decode cX8_takesPart 89 = .ok (.dup, 1) := by decide +kernel
theorem dX8_takesPart_90 : decode cX8_takesPart 90 = .ok (.getfield 251, 3) := by decide +kernel
theorem dX8_takesPart_93 : decode cX8_takesPart 93 = .ok (.iconst 1, 1) := by decide +kernel
theorem dX8_takesPart_94 : decode cX8_takesPart 94 = .ok (.iadd, 1) := by decide +kernel
theorem dX8_takesPart_95 : decode cX8_takesPart 95 = .ok (.putfield 251, 3) := by decide +kernel
theorem dX8_takesPart_98 : decode cX8_takesPart 98 = .ok (.aload_n 0, 1) := by decide +kernel
theorem dX8_takesPart_99 : decode cX8_takesPart 99 = .ok (.dup, 1) := by decide +kernel
theorem dX8_takesPart_100 : decode cX8_takesPart 100 = .ok (.getfield 257, 3) := by decide +kernel
theorem dX8_takesPart_103 : decode cX8_takesPart 103 = .ok (.iconst 1, 1) := by decide +kernel
theorem dX8_takesPart_104 : decode cX8_takesPart 104 = .ok (.iadd, 1) := by decide +kernel
theorem dX8_takesPart_105 : decode cX8_takesPart 105 = .ok (.putfield 257, 3) := by decide +kernel
theorem dX8_takesPart_108 : decode cX8_takesPart 108 = .ok (.aload_n 0, 1) := by decide +kernel
theorem dX8_takesPart_109 : decode cX8_takesPart 109 = .ok (.bipush 6, 2) := by decide +kernel
theorem dX8_takesPart_111 : decode cX8_takesPart 111 = .ok (.invokevirtual 260, 3) := by decide +kernel
theorem dX8_takesPart_114 : decode cX8_takesPart 114 = .ok (.aload_n 0, 1) := by decide +kernel
theorem dX8_takesPart_115 : decode cX8_takesPart 115 = .ok (.invokevirtual 242, 3) := by decide +kernel
theorem dX8_takesPart_118 : decode cX8_takesPart 118 = .ok (.iconst 1, 1) := by decide +kernel
theorem dX8_takesPart_119 : decode cX8_takesPart 119 = .ok (.ireturn, 1) := by decide +kernel
theorem dX8_takesE_0 : decode cX8_takesE 0 = .ok (.iconst 0, 1) := by decide +kernel
theorem dX8_takesE_1 : decode cX8_takesE 1 = .ok (.istore_n 1, 1) := by decide +kernel
theorem dX8_takesE_2 : decode cX8_takesE 2 = .ok (.iconst 0, 1) := by decide +kernel
theorem dX8_takesE_3 : decode cX8_takesE 3 = .ok (.istore_n 2, 1) := by decide +kernel
theorem dX8_takesE_4 : decode cX8_takesE 4 = .ok (.iconst 1, 1) := by decide +kernel
theorem dX8_takesE_5 : decode cX8_takesE 5 = .ok (.istore_n 3, 1) := by decide +kernel
theorem dX8_takesE_6 : decode cX8_takesE 6 = .ok (.aload_n 0, 1) := by decide +kernel
theorem dX8_takesE_7 : decode cX8_takesE 7 = .ok (.iconst 0, 1) := by decide +kernel
theorem dX8_takesE_8 : decode cX8_takesE 8 = .ok (.putfield 251, 3) := by decide +kernel
theorem dX8_takesE_11 : decode cX8_takesE 11 = .ok (.aload_n 0, 1) := by decide +kernel
theorem dX8_takesE_12 : decode cX8_takesE 12 = .ok (.iconst 0, 1) := by decide +kernel
theorem dX8_takesE_13 : decode cX8_takesE 13 = .ok (.putfield 257, 3) := by decide +kernel
theorem dX8_takesE_16 : decode cX8_takesE 16 = .ok (.aload_n 0, 1) := by decide +kernel
theorem dX8_takesE_17 : decode cX8_takesE 17 = .ok (.iconst 0, 1) := by decide +kernel
theorem dX8_takesE_18 : decode cX8_takesE 18 = .ok (.putfield 245, 3) := by decide +kernel
theorem dX8_takesE_21 : decode cX8_takesE 21 = .ok (.aload_n 0, 1) := by decide +kernel
theorem dX8_takesE_22 : decode cX8_takesE 22 = .ok (.getfield 55, 3) := by decide +kernel
theorem dX8_takesE_25 : decode cX8_takesE 25 = .ok (.iconst 0, 1) := by decide +kernel
theorem dX8_takesE_26 : decode cX8_takesE 26 = .ok (.iconst 0, 1) := by decide +kernel
theorem dX8_takesE_27 : decode cX8_takesE 27 = .ok (.bastore, 1) := by decide +kernel
theorem dX8_takesE_28 : decode cX8_takesE 28 = .ok (.iload_n 3, 1) := by decide +kernel
theorem dX8_takesE_29 : decode cX8_takesE 29 = .ok (.ifCond .ne 10, 3) := by decide +kernel
theorem dX8_takesE_32 : decode cX8_takesE 32 = .ok (.aload_n 0, 1) := by decide +kernel
theorem dX8_takesE_33 : decode cX8_takesE 33 = .ok (.getfield 227, 3) := by decide +kernel
theorem dX8_takesE_36 : decode cX8_takesE 36 = .ok (.ifCond .eq 309, 3) := by decide +kernel
theorem dX8_takesE_39 : decode cX8_takesE 39 = .ok (.iload_n 3, 1) := by decide +kernel
theorem dX8_takesE_40 : decode cX8_takesE 40 = .ok (.ifCond .eq 140, 3) := by decide +kernel
theorem dX8_takesE_43 : decode cX8_takesE 43 = .ok (.aload_n 0, 1) := by decide +kernel
theorem dX8_takesE_44 : decode cX8_takesE 44 = .ok (.getfield 227, 3) := by decide +kernel
theorem dX8_takesE_47 : decode cX8_takesE 47 = .ok (.iconst 3, 1) := by decide +kernel
theorem dX8_takesE_48 : decode cX8_takesE 48 = .ok (.if_icmp .ne 49, 3) := by decide +kernel
theorem dX8_takesE_51 : decode cX8_takesE 51 = .ok (.aload_n 0, 1) := by decide +kernel
theorem dX8_takesE_52 : decode cX8_takesE 52 = .ok (.getfield 233, 3) := by decide +kernel
theorem dX8_takesE_55 : decode cX8_takesE 55 = .ok (.bipush 33, 2) := by decide +kernel
theorem dX8_takesE_57 : decode cX8_takesE 57 = .ok (.if_icmp .ne 40, 3) := by decide +kernel
theorem dX8_takesE_60 : decode cX8_takesE 60 = .ok (.iload_n 2, 1) := by decide +kernel
theorem dX8_takesE_61 : decode cX8_takesE 61 = .ok (.bipush 8, 2) := by decide +kernel
theorem dX8_takesE_63 : decode cX8_takesE 63 = .ok (.if_icmp .ge 34, 3) := by decide +kernel
theorem dX8_takesE_66 : decode cX8_takesE 66 = .ok (.aload_n 0, 1) := by decide +kernel
theorem dX8_takesE_67 : decode cX8_takesE 67 = .ok (.getfield 52, 3) := by decide +kernel
theorem dX8_takesE_70 : decode cX8_takesE 70 = .ok (.aload_n 0, 1) := by decide +kernel
theorem dX8_takesE_71 : decode cX8_takesE 71 = .ok (.getfield 245, 3) := by decide +kernel
theorem dX8_takesE_74 : decode cX8_takesE 74 = .ok (.bipush (-10), 2) := by decide +kernel
theorem dX8_takesE_76 : decode cX8_takesE 76 = .ok (.iastore, 1) := by decide +kernel
theorem dX8_takesE_77 : decode cX8_takesE 77 = .ok (.aload_n 0, 1) := by decide +kernel
theorem dX8_takesE_78 : decode cX8_takesE 78 = .ok (.dup, 1) := by decide +kernel
theorem dX8_takesE_79 : decode cX8_takesE 79 = .ok (.getfield 245, 3) := by decide +kernel
theorem dX8_takesE_82 : decode cX8_takesE 82 = .ok (.iconst 1, 1) := by decide +kernel
theorem dX8_takesE_83 : decode cX8_takesE 83 = .ok (.iadd, 1) := by decide +kernel
theorem dX8_takesE_84 : decode cX8_takesE 84 = .ok (.putfield 245, 3) := by decide +kernel
theorem dX8_takesE_87 : decode cX8_takesE 87 = .ok (.iinc 2 1, 3) := by decide +kernel
theorem dX8_takesE_90 : decode cX8_takesE 90 = .ok (.aload_n 0, 1) := by decide +kernel
theorem dX8_takesE_91 : decode cX8_takesE 91 = .ok (.invokevirtual 242, 3) := by decide +kernel
theorem dX8_takesE_94 : decode cX8_takesE 94 = .ok (.goto 78, 3) := by decide +kernel
theorem dX8_takesE_97 : decode cX8_takesE 97 = .ok (.aload_n 0, 1) := by decide +kernel
theorem dX8_takesE_98 : decode cX8_takesE 98 = .ok (.getfield 227, 3) := by decide +kernel
theorem dX8_takesE_101 : decode cX8_takesE 101 = .ok (.iconst 3, 1) := by decide +kernel
theorem dX8_takesE_102 : decode cX8_takesE 102 = .ok (.if_icmp .ne 56, 3) := by decide +kernel
theorem dX8_takesE_105 : decode cX8_takesE 105 = .ok (.aload_n 0, 1) := by decide +kernel
theorem dX8_takesE_106 : decode cX8_takesE 106 = .ok (.getfield 233, 3) := by decide +kernel
theorem dX8_takesE_109 : decode cX8_takesE 109 = .ok (.bipush 40, 2) := by decide +kernel
theorem dX8_takesE_111 : decode cX8_takesE 111 = .ok (.if_icmp .ne 47, 3) := by decide +kernel
theorem dX8_takesE_114 : decode cX8_takesE 114 = .ok (.iload_n 1, 1) := by decide +kernel
theorem dX8_takesE_115 : decode cX8_takesE 115 = .ok (.bipush 8, 2) := by decide +kernel
theorem dX8_takesE_117 : decode cX8_takesE 117 = .ok (.if_icmp .ge 41, 3) := by decide +kernel
theorem dX8_takesE_120 : decode cX8_takesE 120 = .ok (.aload_n 0, 1) := by decide +kernel
theorem dX8_takesE_121 : decode cX8_takesE 121 = .ok (.getfield 52, 3) := by decide +kernel
theorem dX8_takesE_124 : decode cX8_takesE 124 = .ok (.aload_n 0, 1) := by decide +kernel
theorem dX8_takesE_125 : decode cX8_takesE 125 = .ok (.getfield 245, 3) := by decide +kernel
theorem dX8_takesE_128 : decode cX8_takesE 128 = .ok (.bipush (-11), 2) := by decide +kernel
theorem dX8_takesE_130 : decode cX8_takesE 130 = .ok (.iastore, 1) := by decide +kernel
theorem dX8_takesE_131 : decode cX8_takesE 131 = .ok (.aload_n 0, 1) := by decide +kernel
theorem dX8_takesE_132 : decode cX8_takesE 132 = .ok (.dup, 1) := by decide +kernel
theorem dX8_takesE_133 : decode cX8_takesE 133 = .ok (.getfield 245, 3) := by decide +kernel
theorem dX8_takesE_136 : decode cX8_takesE 136 = .ok (.iconst 1, 1) := by decide +kernel
theorem dX8_takesE_137 : decode cX8_takesE 137 = .ok (.iadd, 1) := by decide +kernel
theorem dX8_takesE_138 : decode cX8_takesE 138 = .ok (.putfield 245, 3) := by decide +kernel
theorem dX8_takesE_141 : decode cX8_takesE 141 = .ok (.iinc 1 1, 3) := by decide +kernel
theorem dX8_takesE_144 : decode cX8_takesE 144 = .ok (.aload_n 0, 1) := by decide +kernel
theorem dX8_takesE_145 : decode cX8_takesE 145 = .ok (.getfield 55, 3) := by decide +kernel
theorem dX8_takesE_148 : decode cX8_takesE 148 = .ok (.iload_n 1, 1) := by decide +kernel
theorem dX8_takesE_149 : decode cX8_takesE 149 = .ok (.iconst 0, 1) := by decide +kernel
theorem dX8_takesE_150 : decode cX8_takesE 150 = .ok (.bastore, 1) := by decide +kernel
theorem dX8_takesE_151 : decode cX8_takesE 151 = .ok (.aload_n 0, 1) := by decide +kernel
theorem dX8_takesE_152 : decode cX8_takesE 152 = .ok (.invokevirtual 242, 3) := by decide +kernel
theorem dX8_takesE_155 : decode cX8_takesE 155 = .ok (.goto 17, 3) := by decide +kernel
theorem dX8_takesE_158 : decode cX8_takesE 158 = .ok (.aload_n 0, 1) := by decide +kernel
theorem dX8_takesE_159 : decode cX8_takesE 159 = .ok (.invokevirtual 263, 3) := by decide +kernel
theorem dX8_takesE_162 : decode cX8_takesE 162 = .ok (.ifCond .eq 8, 3) := by decide +kernel
theorem dX8_takesE_165 : decode cX8_takesE 165 = .ok (.iconst 0, 1) := by decide +kernel
theorem dX8_takesE_166 : decode cX8_takesE 166 = .ok (.istore_n 3, 1) := by decide +kernel
theorem dX8_takesE_167 : decode cX8_takesE 167 = .ok (.goto 5, 3) := by decide +kernel
theorem dX8_takesE_170 : decode cX8_takesE 170 = .ok (.iconst 0, 1) := by decide +kernel
theorem dX8_takesE_171 : decode cX8_takesE 171 = .ok (.ireturn, 1) := by decide +kernel
theorem dX8_takesE_172 : decode cX8_takesE 172 = .ok (.aload_n 0, 1) := by decide +kernel
theorem dX8_takesE_173 : decode cX8_takesE 173 = .ok (.invokevirtual 267, 3) := by decide +kernel
theorem dX8_takesE_176 : decode cX8_takesE 176 = .ok (.istore_n 2, 1) := by decide +kernel
theorem dX8_takesE_177 : decode cX8_takesE 177 = .ok (.goto (-149), 3) := by decide +kernel
theorem dX8_takesE_180 : decode cX8_takesE 180 = .ok (.aload_n 0, 1) := by decide +kernel
theorem dX8_takesE_181 : decode cX8_takesE 181 = .ok (.getfield 227, 3) := by decide +kernel
theorem dX8_takesE_184 : decode cX8_takesE 184 = .ok (.iconst 3, 1) := by decide +kernel
theorem dX8_takesE_185 : decode cX8_takesE 185 = .ok (.if_icmp .ne 52, 3) := by decide +kernel
theorem dX8_takesE_188 : decode cX8_takesE 188 = .ok (.aload_n 0, 1) := by decide +kernel
theorem dX8_takesE_189 : decode cX8_takesE 189 = .ok (.getfield 233, 3) := by decide +kernel
theorem dX8_takesE_192 : decode cX8_takesE 192 = .ok (.bipush 41, 2) := by decide +kernel
theorem dX8_takesE_194 : decode cX8_takesE 194 = .ok (.if_icmp .ne 43, 3) := by decide +kernel
theorem dX8_takesE_197 : decode cX8_takesE 197 = .ok (.iload_n 1, 1) := by decide +kernel
theorem dX8_takesE_198 : decode cX8_takesE 198 = .ok (.ifCond .le 39, 3) := by decide +kernel
theorem dX8_takesE_201 : decode cX8_takesE 201 = .ok (.aload_n 0, 1) := by decide +kernel
theorem dX8_takesE_202 : decode cX8_takesE 202 = .ok (.iconst 0, 1) := by decide +kernel
theorem dX8_takesE_203 : decode cX8_takesE 203 = .ok (.invokevirtual 260, 3) := by decide +kernel
theorem dX8_takesE_206 : decode cX8_takesE 206 = .ok (.aload_n 0, 1) := by decide +kernel
theorem dX8_takesE_207 : decode cX8_takesE 207 = .ok (.dup, 1) := by decide +kernel
theorem dX8_takesE_208 : decode cX8_takesE 208 = .ok (.getfield 245, 3) := by decide +kernel
theorem dX8_takesE_211 : decode cX8_takesE 211 = .ok (.iconst 1, 1) := by decide +kernel
theorem dX8_takesE_212 : decode cX8_takesE 212 = .ok (.isub, 1) := by decide +kernel
theorem dX8_takesE_213 : decode cX8_takesE 213 = .ok (.putfield 245, 3) := by decide +kernel
theorem dX8_takesE_216 : decode cX8_takesE 216 = .ok (.iinc 1 (-1), 3) := by decide +kernel
theorem dX8_takesE_219 : decode cX8_takesE 219 = .ok (.aload_n 0, 1) := by decide +kernel
theorem dX8_takesE_220 : decode cX8_takesE 220 = .ok (.bipush 6, 2) := by decide +kernel
theorem dX8_takesE_222 : decode cX8_takesE 222 = .ok (.invokevirtual 260, 3) := by decide +kernel
theorem dX8_takesE_225 : decode cX8_takesE 225 = .ok (.aload_n 0, 1) := by decide +kernel
theorem dX8_takesE_226 : decode cX8_takesE 226 = .ok (.invokevirtual 267, 3) := by decide +kernel
theorem dX8_takesE_229 : decode cX8_takesE 229 = .ok (.istore_n 2, 1) := by decide +kernel
theorem dX8_takesE_230 : decode cX8_takesE 230 = .ok (.aload_n 0, 1) := by decide +kernel
theorem dX8_takesE_231 : decode cX8_takesE 231 = .ok (.invokevirtual 242, 3) := by decide +kernel
theorem dX8_takesE_234 : decode cX8_takesE 234 = .ok (.goto (-206), 3) := by decide +kernel
theorem dX8_takesE_237 : decode cX8_takesE 237 = .ok (.aload_n 0, 1) := by decide +kernel
theorem dX8_takesE_238 : decode cX8_takesE 238 = .ok (.invokevirtual 270, 3) := by decide +kernel
theorem dX8_takesE_241 : decode cX8_takesE 241 = .ok (.istore 4, 2) := by decide +kernel
theorem dX8_takesE_243 : decode cX8_takesE 243 = .ok (.iload 4, 2) := by decide +kernel
theorem dX8_takesE_245 : decode cX8_takesE 245 = .ok (.ifCond .eq 21, 3) := by decide +kernel
theorem dX8_takesE_248 : decode cX8_takesE 248 = .ok (.iload 4, 2) := by decide +kernel
theorem dX8_takesE_250 : decode cX8_takesE 250 = .ok (.invokestatic 248, 3) := by decide +kernel
theorem dX8_takesE_253 : decode cX8_takesE 253 = .ok (.iconst 3, 1) := by decide +kernel
theorem dX8_takesE_254 : decode cX8_takesE 254 = .ok (.if_icmp .ne 14, 3) := by decide +kernel
theorem dX8_takesE_257 : decode cX8_takesE 257 = .ok (.aload_n 0, 1) := by decide +kernel
theorem dX8_takesE_258 : decode cX8_takesE 258 = .ok (.getfield 55, 3) := by decide +kernel
theorem dX8_takesE_261 : decode cX8_takesE 261 = .ok (.iload_n 1, 1) := by decide +kernel
theorem dX8_takesE_262 : decode cX8_takesE 262 = .ok (.baload, 1) := by decide +kernel
theorem dX8_takesE_263 : decode cX8_takesE 263 = .ok (.ifCond .eq 5, 3) := by decide +kernel
theorem dX8_takesE_266 : decode cX8_takesE 266 = .ok (.iconst 0, 1) := by decide +kernel
theorem dX8_takesE_267 : decode cX8_takesE 267 = .ok (.ireturn, 1) := by decide +kernel
theorem dX8_takesE_268 : decode cX8_takesE 268 = .ok (.aload_n 0, 1) := by decide +kernel
theorem dX8_takesE_269 : decode cX8_takesE 269 = .ok (.getfield 55, 3) := by decide +kernel
theorem dX8_takesE_272 : decode cX8_takesE 272 = .ok (.iload_n 1, 1) := by decide +kernel
theorem dX8_takesE_273 : decode cX8_takesE 273 = .ok (.iload 4, 2) := by decide +kernel
theorem dX8_takesE_275 : decode cX8_takesE 275 = .ok (.invokestatic 248, 3) := by decide +kernel
theorem dX8_takesE_278 : decode cX8_takesE 278 = .ok (.iconst 3, 1) := by decide +kernel
theorem dX8_takesE_279 : decode cX8_takesE 279 = .ok (.if_icmp .eq 21, 3) := by decide +kernel
theorem dX8_takesE_282 : decode cX8_takesE 282 = .ok (.iload 4, 2) := by decide +kernel
theorem dX8_takesE_284 : decode cX8_takesE 284 = .ok (.invokestatic 248, 3) := by decide +kernel
theorem dX8_takesE_287 : decode cX8_takesE 287 = .ok (.iconst 3, 1) := by decide +kernel
theorem dX8_takesE_288 : decode cX8_takesE 288 = .ok (.if_icmp .le 16, 3) := by decide +kernel
theorem dX8_takesE_291 : decode cX8_takesE 291 = .ok (.aload_n 0, 1) := by decide +kernel
theorem dX8_takesE_292 : decode cX8_takesE 292 = .ok (.getfield 55, 3) := by decide +kernel
theorem dX8_takesE_295 : decode cX8_takesE 295 = .ok (.iload_n 1, 1) := by decide +kernel
theorem dX8_takesE_296 : decode cX8_takesE 296 = .ok (.baload, 1) := by decide +kernel
theorem dX8_takesE_297 : decode cX8_takesE 297 = .ok (.ifCond .eq 7, 3) := by decide +kernel
theorem dX8_takesE_300 : decode cX8_takesE 300 = .ok (.iconst 1, 1) := by decide +kernel
theorem dX8_takesE_301 : decode cX8_takesE 301 = .ok (.goto 4, 3) := by decide +kernel
theorem dX8_takesE_304 : decode cX8_takesE 304 = .ok (.iconst 0, 1) := by decide +kernel
theorem dX8_takesE_305 : decode cX8_takesE 305 = .ok (.bastore, 1) := by decide +kernel
theorem dX8_takesE_306 : decode cX8_takesE 306 = .ok (.aload_n 0, 1) := by decide +kernel
theorem dX8_takesE_307 : decode cX8_takesE 307 = .ok (.iload 4, 2) := by decide +kernel
theorem dX8_takesE_309 : decode cX8_takesE 309 = .ok (.invokestatic 248, 3) := by decide +kernel
theorem dX8_takesE_312 : decode cX8_takesE 312 = .ok (.invokevirtual 260, 3) := by decide +kernel
theorem dX8_takesE_315 : decode cX8_takesE 315 = .ok (.aload_n 0, 1) := by decide +kernel
theorem dX8_takesE_316 : decode cX8_takesE 316 = .ok (.getfield 52, 3) := by decide +kernel
theorem dX8_takesE_319 : decode cX8_takesE 319 = .ok (.aload_n 0, 1) := by decide +kernel
theorem dX8_takesE_320 : decode cX8_takesE 320 = .ok (.getfield 245, 3) := by decide +kernel
theorem dX8_takesE_323 : decode cX8_takesE 323 = .ok (.iload 4, 2) := by decide +kernel
theorem dX8_takesE_325 : decode cX8_takesE 325 = .ok (.iastore, 1) := by decide +kernel
theorem dX8_takesE_326 : decode cX8_takesE 326 = .ok (.aload_n 0, 1) := by decide +kernel
theorem dX8_takesE_327 : decode cX8_takesE 327 = .ok (.dup, 1) := by decide +kernel
theorem dX8_takesE_328 : decode cX8_takesE 328 = .ok (.getfield 245, 3) := by decide +kernel
theorem dX8_takesE_331 : decode cX8_takesE 331 = .ok (.iconst 1, 1) := by decide +kernel
theorem dX8_takesE_332 : decode cX8_takesE 332 = .ok (.iadd, 1) := by decide +kernel
theorem dX8_takesE_333 : decode cX8_takesE 333 = .ok (.putfield 245, 3) := by decide +kernel
theorem dX8_takesE_336 : decode cX8_takesE 336 = .ok (.iconst 1, 1) := by decide +kernel
theorem dX8_takesE_337 : decode cX8_takesE 337 = .ok (.istore_n 3, 1) := by decide +kernel
theorem dX8_takesE_338 : decode cX8_takesE 338 = .ok (.aload_n 0, 1) := by decide +kernel
theorem dX8_takesE_339 : decode cX8_takesE 339 = .ok (.invokevirtual 242, 3) := by decide +kernel
theorem dX8_takesE_342 : decode cX8_takesE 342 = .ok (.goto (-314), 3) := by decide +kernel
theorem dX8_takesE_345 : decode cX8_takesE 345 = .ok (.aload_n 0, 1) := by decide +kernel
theorem dX8_takesE_346 : decode cX8_takesE 346 = .ok (.iconst 0, 1) := by decide +kernel
theorem dX8_takesE_347 : decode cX8_takesE 347 = .ok (.invokevirtual 260, 3) := by decide +kernel
theorem dX8_takesE_350 : decode cX8_takesE 350 = .ok (.iload_n 1, 1) := by decide +kernel
theorem dX8_takesE_351 : decode cX8_takesE 351 = .ok (.ifCond .ne 7, 3) := by decide +kernel
theorem dX8_takesE_354 : decode cX8_takesE 354 = .ok (.iconst 1, 1) := by decide +kernel
theorem dX8_takesE_355 : decode cX8_takesE 355 = .ok (.goto 4, 3) := by decide +kernel
theorem dX8_takesE_358 : decode cX8_takesE 358 = .ok (.iconst 0, 1) := by decide +kernel
theorem dX8_takesE_359 : decode cX8_takesE 359 = .ok (.ireturn, 1) := by decide +kernel
theorem dX8_notsOpen_0 : decode cX8_notsOpen 0 = .ok (.iconst 0, 1) := by decide +kernel
theorem dX8_notsOpen_1 : decode cX8_notsOpen 1 = .ok (.istore_n 1, 1) := by decide +kernel
theorem dX8_notsOpen_2 : decode cX8_notsOpen 2 = .ok (.iconst 0, 1) := by decide +kernel
theorem dX8_notsOpen_3 : decode cX8_notsOpen 3 = .ok (.istore_n 2, 1) := by decide +kernel
theorem dX8_notsOpen_4 : decode cX8_notsOpen 4 = .ok (.iload_n 2, 1) := by decide +kernel
theorem dX8_notsOpen_5 : decode cX8_notsOpen 5 = .ok (.aload_n 0, 1) := by decide +kernel
theorem dX8_notsOpen_6 : decode cX8_notsOpen 6 = .ok (.getfield 245, 3) := by decide +kernel
theorem dX8_notsOpen_9 : decode cX8_notsOpen 9 = .ok (.if_icmp .ge 28, 3) := by decide +kernel
theorem dX8_notsOpen_12 : decode cX8_notsOpen 12 = .ok (.iload_n 1, 1) := by decide +kernel
theorem dX8_notsOpen_13 : decode cX8_notsOpen 13 = .ok (.aload_n 0, 1) := by decide +kernel
theorem dX8_notsOpen_14 : decode cX8_notsOpen 14 = .ok (.getfield 52, 3) := by decide +kernel
theorem dX8_notsOpen_17 : decode cX8_notsOpen 17 = .ok (.iload_n 2, 1) := by decide +kernel
theorem dX8_notsOpen_18 : decode cX8_notsOpen 18 = .ok (.iaload, 1) := by decide +kernel
theorem dX8_notsOpen_19 : decode cX8_notsOpen 19 = .ok (.bipush (-10), 2) := by decide +kernel
theorem dX8_notsOpen_21 : decode cX8_notsOpen 21 = .ok (.if_icmp .ne 7, 3) := by decide +kernel
theorem dX8_notsOpen_24 : decode cX8_notsOpen 24 = .ok (.iconst 1, 1) := by decide +kernel
theorem dX8_notsOpen_25 : decode cX8_notsOpen 25 = .ok (.goto 4, 3) := by decide +kernel
theorem dX8_notsOpen_28 : decode cX8_notsOpen 28 = .ok (.iconst 0, 1) := by decide +kernel
theorem dX8_notsOpen_29 : decode cX8_notsOpen 29 = .ok (.iadd, 1) := by decide +kernel
theorem dX8_notsOpen_30 : decode cX8_notsOpen 30 = .ok (.istore_n 1, 1) := by decide +kernel
theorem dX8_notsOpen_31 : decode cX8_notsOpen 31 = .ok (.iinc 2 1, 3) := by decide +kernel
theorem dX8_notsOpen_34 : decode cX8_notsOpen 34 = .ok (.goto (-30), 3) := by decide +kernel
theorem dX8_notsOpen_37 : decode cX8_notsOpen 37 = .ok (.iload_n 1, 1) := by decide +kernel
theorem dX8_notsOpen_38 : decode cX8_notsOpen 38 = .ok (.ireturn, 1) := by decide +kernel
theorem dX8_text_0 : decode cX8_text 0 = .ok (.aload_n 0, 1) := by decide +kernel
theorem dX8_text_1 : decode cX8_text 1 = .ok (.iconst 0, 1) := by decide +kernel
theorem dX8_text_2 : decode cX8_text 2 = .ok (.putfield 218, 3) := by decide +kernel
theorem dX8_text_5 : decode cX8_text 5 = .ok (.aload_n 0, 1) := by decide +kernel
theorem dX8_text_6 : decode cX8_text 6 = .ok (.iconst (-1), 1) := by decide +kernel
theorem dX8_text_7 : decode cX8_text 7 = .ok (.putfield 224, 3) := by decide +kernel
theorem dX8_text_10 : decode cX8_text 10 = .ok (.aload_n 0, 1) := by decide +kernel
theorem dX8_text_11 : decode cX8_text 11 = .ok (.invokevirtual 242, 3) := by decide +kernel
theorem dX8_text_14 : decode cX8_text 14 = .ok (.aload_n 0, 1) := by decide +kernel
theorem dX8_text_15 : decode cX8_text 15 = .ok (.invokevirtual 273, 3) := by decide +kernel
theorem dX8_text_18 : decode cX8_text 18 = .ok (.ifCond .eq 14, 3) := by decide +kernel
theorem dX8_text_21 : decode cX8_text 21 = .ok (.aload_n 0, 1) := by decide +kernel
theorem dX8_text_22 : decode cX8_text 22 = .ok (.invokevirtual 276, 3) := by decide +kernel
theorem dX8_text_25 : decode cX8_text 25 = .ok (.ifCond .eq 7, 3) := by decide +kernel
theorem dX8_text_28 : decode cX8_text 28 = .ok (.iconst 1, 1) := by decide +kernel
theorem dX8_text_29 : decode cX8_text 29 = .ok (.goto 4, 3) := by decide +kernel
theorem dX8_text_32 : decode cX8_text 32 = .ok (.iconst 0, 1) := by decide +kernel
theorem dX8_text_33 : decode cX8_text 33 = .ok (.istore_n 1, 1) := by decide +kernel
theorem dX8_text_34 : decode cX8_text 34 = .ok (.aload_n 0, 1) := by decide +kernel
theorem dX8_text_35 : decode cX8_text 35 = .ok (.iconst 0, 1) := by decide +kernel
theorem dX8_text_36 : decode cX8_text 36 = .ok (.putfield 214, 3) := by decide +kernel
theorem dX8_text_39 : decode cX8_text 39 = .ok (.iload_n 1, 1) := by decide +kernel
theorem dX8_text_40 : decode cX8_text 40 = .ok (.ifCond .ne 11, 3) := by decide +kernel
theorem dX8_text_43 : decode cX8_text 43 = .ok (.bipush (-100), 2) := by decide +kernel
theorem dX8_text_45 : decode cX8_text 45 = .ok (.aload_n 0, 1) := by decide +kernel
theorem dX8_text_46 : decode cX8_text 46 = .ok (.getfield 221, 3) := by decide +kernel
theorem dX8_text_49 : decode cX8_text 49 = .ok (.isub, 1) := by decide +kernel
theorem dX8_text_50 : decode cX8_text 50 = .ok (.ireturn, 1) := by decide +kernel
theorem dX8_text_51 : decode cX8_text 51 = .ok (.aload_n 0, 1) := by decide +kernel
theorem dX8_text_52 : decode cX8_text 52 = .ok (.getfield 9, 3) := by decide +kernel
theorem dX8_text_55 : decode cX8_text 55 = .ok (.bipush 8, 2) := by decide +kernel
theorem dX8_text_57 : decode cX8_text 57 = .ok (.iaload, 1) := by decide +kernel
theorem dX8_text_58 : decode cX8_text 58 = .ok (.bipush 14, 2) := by decide +kernel
theorem dX8_text_60 : decode cX8_text 60 = .ok (.if_icmp .ne 6, 3) := by decide +kernel
theorem dX8_text_63 : decode cX8_text 63 = .ok (.ldc 112, 2) := by decide +kernel
theorem dX8_text_65 : decode cX8_text 65 = .ok (.ireturn, 1) := by decide +kernel
theorem dX8_text_66 : decode cX8_text 66 = .ok (.aload_n 0, 1) := by decide +kernel
theorem dX8_text_67 : decode cX8_text 67 = .ok (.getfield 9, 3) := by decide +kernel
theorem dX8_text_70 : decode cX8_text 70 = .ok (.bipush 8, 2) := by decide +kernel
theorem dX8_text_72 : decode cX8_text 72 = .ok (.iaload, 1) := by decide +kernel
theorem dX8_text_73 : decode cX8_text 73 = .ok (.istore_n 2, 1) := by decide +kernel
theorem dX8_text_74 : decode cX8_text 74 = .ok (.aload_n 0, 1) := by decide +kernel
theorem dX8_text_75 : decode cX8_text 75 = .ok (.getfield 9, 3) := by decide +kernel
theorem dX8_text_78 : decode cX8_text 78 = .ok (.bipush 76, 2) := by decide +kernel
theorem dX8_text_80 : decode cX8_text 80 = .ok (.iconst 2, 1) := by decide +kernel
theorem dX8_text_81 : decode cX8_text 81 = .ok (.iload_n 2, 1) := by decide +kernel
theorem dX8_text_82 : decode cX8_text 82 = .ok (.imul, 1) := by decide +kernel
theorem dX8_text_83 : decode cX8_text 83 = .ok (.iadd, 1) := by decide +kernel
theorem dX8_text_84 : decode cX8_text 84 = .ok (.sipush 1000, 3) := by decide +kernel
theorem dX8_text_87 : decode cX8_text 87 = .ok (.aload_n 0, 1) := by decide +kernel
theorem dX8_text_88 : decode cX8_text 88 = .ok (.getfield 239, 3) := by decide +kernel
theorem dX8_text_91 : decode cX8_text 91 = .ok (.imul, 1) := by decide +kernel
theorem dX8_text_92 : decode cX8_text 92 = .ok (.aload_n 0, 1) := by decide +kernel
theorem dX8_text_93 : decode cX8_text 93 = .ok (.getfield 251, 3) := by decide +kernel
theorem dX8_text_96 : decode cX8_text 96 = .ok (.iadd, 1) := by decide +kernel
theorem dX8_text_97 : decode cX8_text 97 = .ok (.iastore, 1) := by decide +kernel
theorem dX8_text_98 : decode cX8_text 98 = .ok (.aload_n 0, 1) := by decide +kernel
theorem dX8_text_99 : decode cX8_text 99 = .ok (.getfield 9, 3) := by decide +kernel
theorem dX8_text_102 : decode cX8_text 102 = .ok (.bipush 76, 2) := by decide +kernel
theorem dX8_text_104 : decode cX8_text 104 = .ok (.iconst 2, 1) := by decide +kernel
theorem dX8_text_105 : decode cX8_text 105 = .ok (.iload_n 2, 1) := by decide +kernel
theorem dX8_text_106 : decode cX8_text 106 = .ok (.imul, 1) := by decide +kernel
theorem dX8_text_107 : decode cX8_text 107 = .ok (.iadd, 1) := by decide +kernel
theorem dX8_text_108 : decode cX8_text 108 = .ok (.iconst 1, 1) := by decide +kernel
theorem dX8_text_109 : decode cX8_text 109 = .ok (.iadd, 1) := by decide +kernel
theorem dX8_text_110 : decode cX8_text 110 = .ok (.aload_n 0, 1) := by decide +kernel
theorem dX8_text_111 : decode cX8_text 111 = .ok (.getfield 257, 3) := by decide +kernel
theorem dX8_text_114 : decode cX8_text 114 = .ok (.iastore, 1) := by decide +kernel
theorem dX8_text_115 : decode cX8_text 115 = .ok (.iconst 0, 1) := by decide +kernel
theorem dX8_text_116 : decode cX8_text 116 = .ok (.istore_n 3, 1) := by decide +kernel
theorem dX8_text_117 : decode cX8_text 117 = .ok (.iload_n 3, 1) := by decide +kernel
theorem dX8_text_118 : decode cX8_text 118 = .ok (.aload_n 0, 1) := by decide +kernel
theorem dX8_text_119 : decode cX8_text 119 = .ok (.getfield 251, 3) := by decide +kernel
theorem dX8_text_122 : decode cX8_text 122 = .ok (.if_icmp .ge 29, 3) := by decide +kernel
theorem dX8_text_125 : decode cX8_text 125 = .ok (.aload_n 0, 1) := by decide +kernel
theorem dX8_text_126 : decode cX8_text 126 = .ok (.getfield 9, 3) := by decide +kernel
theorem dX8_text_129 : decode cX8_text 129 = .ok (.bipush 104, 2) := by decide +kernel
theorem dX8_text_131 : decode cX8_text 131 = .ok (.bipush 96, 2) := by decide +kernel
theorem dX8_text_133 : decode cX8_text 133 = .ok (.iload_n 2, 1) := by decide +kernel
theorem dX8_text_134 : decode cX8_text 134 = .ok (.imul, 1) := by decide +kernel
theorem dX8_text_135 : decode cX8_text 135 = .ok (.iadd, 1) := by decide +kernel
theorem dX8_text_136 : decode cX8_text 136 = .ok (.iload_n 3, 1) := by decide +kernel
theorem dX8_text_137 : decode cX8_text 137 = .ok (.iadd, 1) := by decide +kernel
theorem dX8_text_138 : decode cX8_text 138 = .ok (.aload_n 0, 1) := by decide +kernel
theorem dX8_text_139 : decode cX8_text 139 = .ok (.getfield 49, 3) := by decide +kernel
theorem dX8_text_142 : decode cX8_text 142 = .ok (.iload_n 3, 1) := by decide +kernel
theorem dX8_text_143 : decode cX8_text 143 = .ok (.iaload, 1) := by decide +kernel
theorem dX8_text_144 : decode cX8_text 144 = .ok (.iastore, 1) := by decide +kernel
theorem dX8_text_145 : decode cX8_text 145 = .ok (.iinc 3 1, 3) := by decide +kernel
theorem dX8_text_148 : decode cX8_text 148 = .ok (.goto (-31), 3) := by decide +kernel
theorem dX8_text_151 : decode cX8_text 151 = .ok (.aload_n 0, 1) := by decide +kernel
theorem dX8_text_152 : decode cX8_text 152 = .ok (.getfield 9, 3) := by decide +kernel
theorem dX8_text_155 : decode cX8_text 155 = .ok (.bipush 8, 2) := by decide +kernel
theorem dX8_text_157 : decode cX8_text 157 = .ok (.dup2, 1) := by decide +kernel
theorem dX8_text_158 : decode cX8_text 158 = .ok (.iaload, 1) := by decide +kernel
theorem dX8_text_159 : decode cX8_text 159 = .ok (.iconst 1, 1) := by decide +kernel
theorem dX8_text_160 : decode cX8_text 160 = .ok (.iadd, 1) := by decide +kernel
theorem dX8_text_161 : decode cX8_text 161 = .ok (.iastore, 1) := by decide +kernel
theorem dX8_text_162 : decode cX8_text 162 = .ok (.iload_n 2, 1) := by decide +kernel
theorem dX8_text_163 : decode cX8_text 163 = .ok (.ireturn, 1) := by decide +kernel
theorem dX8_textTold_0 : decode cX8_textTold 0 = .ok (.iload_n 1, 1) := by decide +kernel
theorem dX8_textTold_1 : decode cX8_textTold 1 = .ok (.iconst 0, 1) := by decide +kernel
theorem dX8_textTold_2 : decode cX8_textTold 2 = .ok (.aload_n 0, 1) := by decide +kernel
theorem dX8_textTold_3 : decode cX8_textTold 3 = .ok (.getfield 9, 3) := by decide +kernel
theorem dX8_textTold_6 : decode cX8_textTold 6 = .ok (.bipush 8, 2) := by decide +kernel
theorem dX8_textTold_8 : decode cX8_textTold 8 = .ok (.iaload, 1) := by decide +kernel
theorem dX8_textTold_9 : decode cX8_textTold 9 = .ok (.iconst 1, 1) := by decide +kernel
theorem dX8_textTold_10 : decode cX8_textTold 10 = .ok (.isub, 1) := by decide +kernel
theorem dX8_textTold_11 : decode cX8_textTold 11 = .ok (.invokestatic 92, 3) := by decide +kernel
theorem dX8_textTold_14 : decode cX8_textTold 14 = .ok (.ifCond .eq 12, 3) := by decide +kernel
theorem dX8_textTold_17 : decode cX8_textTold 17 = .ok (.iload_n 2, 1) := by decide +kernel
theorem dX8_textTold_18 : decode cX8_textTold 18 = .ok (.iconst 0, 1) := by decide +kernel
theorem dX8_textTold_19 : decode cX8_textTold 19 = .ok (.iconst 1, 1) := by decide +kernel
theorem dX8_textTold_20 : decode cX8_textTold 20 = .ok (.invokestatic 92, 3) := by decide +kernel
theorem dX8_textTold_23 : decode cX8_textTold 23 = .ok (.ifCond .ne 6, 3) := by decide +kernel
theorem dX8_textTold_26 : decode cX8_textTold 26 = .ok (.ldc 111, 2) := by decide +kernel
theorem dX8_textTold_28 : decode cX8_textTold 28 = .ok (.ireturn, 1) := by decide +kernel
theorem dX8_textTold_29 : decode cX8_textTold 29 = .ok (.iload_n 2, 1) := by decide +kernel
theorem dX8_textTold_30 : decode cX8_textTold 30 = .ok (.ifCond .ne 21, 3) := by decide +kernel
theorem dX8_textTold_33 : decode cX8_textTold 33 = .ok (.aload_n 0, 1) := by decide +kernel
theorem dX8_textTold_34 : decode cX8_textTold 34 = .ok (.getfield 9, 3) := by decide +kernel
theorem dX8_textTold_37 : decode cX8_textTold 37 = .ok (.bipush 76, 2) := by decide +kernel
theorem dX8_textTold_39 : decode cX8_textTold 39 = .ok (.iconst 2, 1) := by decide +kernel
theorem dX8_textTold_40 : decode cX8_textTold 40 = .ok (.iload_n 1, 1) := by decide +kernel
theorem dX8_textTold_41 : decode cX8_textTold 41 = .ok (.imul, 1) := by decide +kernel
theorem dX8_textTold_42 : decode cX8_textTold 42 = .ok (.iadd, 1) := by decide +kernel
theorem dX8_textTold_43 : decode cX8_textTold 43 = .ok (.iaload, 1) := by decide +kernel
theorem dX8_textTold_44 : decode cX8_textTold 44 = .ok (.sipush 1000, 3) := by decide +kernel
theorem dX8_textTold_47 : decode cX8_textTold 47 = .ok (.idiv, 1) := by decide +kernel
theorem dX8_textTold_48 : decode cX8_textTold 48 = .ok (.goto 16, 3) := by decide +kernel
theorem dX8_textTold_51 : decode cX8_textTold 51 = .ok (.aload_n 0, 1) := by decide +kernel
theorem dX8_textTold_52 : decode cX8_textTold 52 = .ok (.getfield 9, 3) := by decide +kernel
theorem dX8_textTold_55 : decode cX8_textTold 55 = .ok (.bipush 76, 2) := by decide +kernel
theorem dX8_textTold_57 : decode cX8_textTold 57 = .ok (.iconst 2, 1) := by decide +kernel
theorem dX8_textTold_58 : decode cX8_textTold 58 = .ok (.iload_n 1, 1) := by decide +kernel
theorem dX8_textTold_59 : decode cX8_textTold 59 = .ok (.imul, 1) := by decide +kernel
theorem dX8_textTold_60 : decode cX8_textTold 60 = .ok (.iadd, 1) := by decide +kernel
theorem dX8_textTold_61 : decode cX8_textTold 61 = .ok (.iconst 1, 1) := by decide +kernel
theorem dX8_textTold_62 : decode cX8_textTold 62 = .ok (.iadd, 1) := by decide +kernel
theorem dX8_textTold_63 : decode cX8_textTold 63 = .ok (.iaload, 1) := by decide +kernel
theorem dX8_textTold_64 : decode cX8_textTold 64 = .ok (.ireturn, 1) := by decide +kernel
theorem dX8_counts_0 : decode cX8_counts 0 = .ok (.aload_n 0, 1) := by decide +kernel
theorem dX8_counts_1 : decode cX8_counts 1 = .ok (.getfield 9, 3) := by decide +kernel
theorem dX8_counts_4 : decode cX8_counts 4 = .ok (.bipush 8, 2) := by decide +kernel
theorem dX8_counts_6 : decode cX8_counts 6 = .ok (.iaload, 1) := by decide +kernel
theorem dX8_counts_7 : decode cX8_counts 7 = .ok (.iconst 1, 1) := by decide +kernel
theorem dX8_counts_8 : decode cX8_counts 8 = .ok (.isub, 1) := by decide +kernel
theorem dX8_counts_9 : decode cX8_counts 9 = .ok (.istore_n 2, 1) := by decide +kernel
theorem dX8_counts_10 : decode cX8_counts 10 = .ok (.iload_n 2, 1) := by decide +kernel
theorem dX8_counts_11 : decode cX8_counts 11 = .ok (.ifCond .lt 30, 3) := by decide +kernel
theorem dX8_counts_14 : decode cX8_counts 14 = .ok (.aload_n 0, 1) := by decide +kernel
theorem dX8_counts_15 : decode cX8_counts 15 = .ok (.getfield 9, 3) := by decide +kernel
theorem dX8_counts_18 : decode cX8_counts 18 = .ok (.bipush 76, 2) := by decide +kernel
theorem dX8_counts_20 : decode cX8_counts 20 = .ok (.iconst 2, 1) := by decide +kernel
theorem dX8_counts_21 : decode cX8_counts 21 = .ok (.iload_n 2, 1) := by decide +kernel
theorem dX8_counts_22 : decode cX8_counts 22 = .ok (.imul, 1) := by decide +kernel
theorem dX8_counts_23 : decode cX8_counts 23 = .ok (.iadd, 1) := by decide +kernel
theorem dX8_counts_24 : decode cX8_counts 24 = .ok (.iaload, 1) := by decide +kernel
theorem dX8_counts_25 : decode cX8_counts 25 = .ok (.sipush 1000, 3) := by decide +kernel
theorem dX8_counts_28 : decode cX8_counts 28 = .ok (.idiv, 1) := by decide +kernel
theorem dX8_counts_29 : decode cX8_counts 29 = .ok (.iload_n 1, 1) := by decide +kernel
theorem dX8_counts_30 : decode cX8_counts 30 = .ok (.if_icmp .ne 5, 3) := by decide +kernel
theorem dX8_counts_33 : decode cX8_counts 33 = .ok (.iload_n 2, 1) := by decide +kernel
theorem dX8_counts_34 : decode cX8_counts 34 = .ok (.ireturn, 1) := by decide +kernel
theorem dX8_counts_35 : decode cX8_counts 35 = .ok (.iinc 2 (-1), 3) := by decide +kernel
theorem dX8_counts_38 : decode cX8_counts 38 = .ok (.goto (-28), 3) := by decide +kernel
theorem dX8_counts_41 : decode cX8_counts 41 = .ok (.iconst (-1), 1) := by decide +kernel
theorem dX8_counts_42 : decode cX8_counts 42 = .ok (.ireturn, 1) := by decide +kernel
theorem dX8_why_0 : decode cX8_why 0 = .ok (.iload_n 1, 1) := by decide +kernel
theorem dX8_why_1 : decode cX8_why 1 = .ok (.iconst 0, 1) := by decide +kernel
theorem dX8_why_2 : decode cX8_why 2 = .ok (.iconst 2, 1) := by decide +kernel
theorem dX8_why_3 : decode cX8_why 3 = .ok (.invokestatic 92, 3) := by decide +kernel
theorem dX8_why_6 : decode cX8_why 6 = .ok (.ifCond .ne 6, 3) := by decide +kernel
theorem dX8_why_9 : decode cX8_why 9 = .ok (.ldc 111, 2) := by decide +kernel
theorem dX8_why_11 : decode cX8_why 11 = .ok (.ireturn, 1) := by decide +kernel
theorem dX8_why_12 : decode cX8_why 12 = .ok (.aload_n 0, 1) := by decide +kernel
theorem dX8_why_13 : decode cX8_why 13 = .ok (.iload_n 1, 1) := by decide +kernel
theorem dX8_why_14 : decode cX8_why 14 = .ok (.invokevirtual 136, 3) := by decide +kernel
theorem dX8_why_17 : decode cX8_why 17 = .ok (.istore_n 2, 1) := by decide +kernel
theorem dX8_why_18 : decode cX8_why 18 = .ok (.iload_n 2, 1) := by decide +kernel
theorem dX8_why_19 : decode cX8_why 19 = .ok (.ifCond .ge 8, 3) := by decide +kernel
theorem dX8_why_22 : decode cX8_why 22 = .ok (.ldc 91, 2) := by decide +kernel
theorem dX8_why_24 : decode cX8_why 24 = .ok (.goto 4, 3) := by decide +kernel
theorem dX8_why_27 : decode cX8_why 27 = .ok (.iload_n 2, 1) := by decide +kernel
theorem dX8_why_28 : decode cX8_why 28 = .ok (.ireturn, 1) := by decide +kernel
theorem dX8_two_0 : decode cX8_two 0 = .ok (.iload_n 0, 1) := by decide +kernel
theorem dX8_two_1 : decode cX8_two 1 = .ok (.tableswitch 120 (-8) (-1) #[116, 112, 108, 97, 86, 75, 61, 47], 47) := by decide +kernel
theorem dX8_two_48 : decode cX8_two 48 = .ok (.iload_n 1, 1) := by decide +kernel
theorem dX8_two_49 : decode cX8_two 49 = .ok (.ifCond .ne 7, 3) := by decide +kernel
theorem dX8_two_52 : decode cX8_two 52 = .ok (.iload_n 2, 1) := by decide +kernel
theorem dX8_two_53 : decode cX8_two 53 = .ok (.ifCond .eq 7, 3) := by decide +kernel
theorem dX8_two_56 : decode cX8_two 56 = .ok (.iconst 1, 1) := by decide +kernel
theorem dX8_two_57 : decode cX8_two 57 = .ok (.goto 4, 3) := by decide +kernel
theorem dX8_two_60 : decode cX8_two 60 = .ok (.iconst 0, 1) := by decide +kernel
theorem dX8_two_61 : decode cX8_two 61 = .ok (.ireturn, 1) := by decide +kernel
theorem dX8_two_62 : decode cX8_two 62 = .ok (.iload_n 1, 1) := by decide +kernel
theorem dX8_two_63 : decode cX8_two 63 = .ok (.ifCond .eq 11, 3) := by decide +kernel
theorem dX8_two_66 : decode cX8_two 66 = .ok (.iload_n 2, 1) := by decide +kernel
theorem dX8_two_67 : decode cX8_two 67 = .ok (.ifCond .eq 7, 3) := by decide +kernel
theorem dX8_two_70 : decode cX8_two 70 = .ok (.iconst 1, 1) := by decide +kernel
theorem dX8_two_71 : decode cX8_two 71 = .ok (.goto 4, 3) := by decide +kernel
theorem dX8_two_74 : decode cX8_two 74 = .ok (.iconst 0, 1) := by decide +kernel
theorem dX8_two_75 : decode cX8_two 75 = .ok (.ireturn, 1) := by decide +kernel
theorem dX8_two_76 : decode cX8_two 76 = .ok (.iload_n 1, 1) := by decide +kernel
theorem dX8_two_77 : decode cX8_two 77 = .ok (.iload_n 2, 1) := by decide +kernel
theorem dX8_two_78 : decode cX8_two 78 = .ok (.if_icmp .ge 7, 3) := by decide +kernel
theorem dX8_two_81 : decode cX8_two 81 = .ok (.iconst 1, 1) := by decide +kernel
theorem dX8_two_82 : decode cX8_two 82 = .ok (.goto 4, 3) := by decide +kernel
theorem dX8_two_85 : decode cX8_two 85 = .ok (.iconst 0, 1) := by decide +kernel
theorem dX8_two_86 : decode cX8_two 86 = .ok (.ireturn, 1) := by decide +kernel
theorem dX8_two_87 : decode cX8_two 87 = .ok (.iload_n 1, 1) := by decide +kernel
theorem dX8_two_88 : decode cX8_two 88 = .ok (.iload_n 2, 1) := by decide +kernel
theorem dX8_two_89 : decode cX8_two 89 = .ok (.if_icmp .ne 7, 3) := by decide +kernel
theorem dX8_two_92 : decode cX8_two 92 = .ok (.iconst 1, 1) := by decide +kernel
theorem dX8_two_93 : decode cX8_two 93 = .ok (.goto 4, 3) := by decide +kernel
theorem dX8_two_96 : decode cX8_two 96 = .ok (.iconst 0, 1) := by decide +kernel
theorem dX8_two_97 : decode cX8_two 97 = .ok (.ireturn, 1) := by decide +kernel
theorem dX8_two_98 : decode cX8_two 98 = .ok (.iload_n 1, 1) := by decide +kernel
theorem dX8_two_99 : decode cX8_two 99 = .ok (.iload_n 2, 1) := by decide +kernel
theorem dX8_two_100 : decode cX8_two 100 = .ok (.if_icmp .le 7, 3) := by decide +kernel
theorem dX8_two_103 : decode cX8_two 103 = .ok (.iconst 1, 1) := by decide +kernel
theorem dX8_two_104 : decode cX8_two 104 = .ok (.goto 4, 3) := by decide +kernel
theorem dX8_two_107 : decode cX8_two 107 = .ok (.iconst 0, 1) := by decide +kernel
theorem dX8_two_108 : decode cX8_two 108 = .ok (.ireturn, 1) := by decide +kernel
theorem dX8_two_109 : decode cX8_two 109 = .ok (.iload_n 1, 1) := by decide +kernel
theorem dX8_two_110 : decode cX8_two 110 = .ok (.iload_n 2, 1) := by decide +kernel
theorem dX8_two_111 : decode cX8_two 111 = .ok (.iadd, 1) := by decide +kernel
theorem dX8_two_112 : decode cX8_two 112 = .ok (.ireturn, 1) := by decide +kernel
theorem dX8_two_113 : decode cX8_two 113 = .ok (.iload_n 1, 1) := by decide +kernel
theorem dX8_two_114 : decode cX8_two 114 = .ok (.iload_n 2, 1) := by decide +kernel
theorem dX8_two_115 : decode cX8_two 115 = .ok (.isub, 1) := by decide +kernel
theorem dX8_two_116 : decode cX8_two 116 = .ok (.ireturn, 1) := by decide +kernel
theorem dX8_two_117 : decode cX8_two 117 = .ok (.iload_n 1, 1) := by decide +kernel
theorem dX8_two_118 : decode cX8_two 118 = .ok (.iload_n 2, 1) := by decide +kernel
theorem dX8_two_119 : decode cX8_two 119 = .ok (.imul, 1) := by decide +kernel
theorem dX8_two_120 : decode cX8_two 120 = .ok (.ireturn, 1) := by decide +kernel
theorem dX8_two_121 : decode cX8_two 121 = .ok (.iload_n 2, 1) := by decide +kernel
theorem dX8_two_122 : decode cX8_two 122 = .ok (.ifCond .ne 7, 3) := by decide +kernel
theorem dX8_two_125 : decode cX8_two 125 = .ok (.iconst 0, 1) := by decide +kernel
theorem dX8_two_126 : decode cX8_two 126 = .ok (.goto 6, 3) := by decide +kernel
theorem dX8_two_129 : decode cX8_two 129 = .ok (.iload_n 1, 1) := by decide +kernel
theorem dX8_two_130 : decode cX8_two 130 = .ok (.iload_n 2, 1) := by decide +kernel
theorem dX8_two_131 : decode cX8_two 131 = .ok (.idiv, 1) := by decide +kernel
theorem dX8_two_132 : decode cX8_two 132 = .ok (.ireturn, 1) := by decide +kernel
theorem dX8_worksOut_0 : decode cX8_worksOut 0 = .ok (.iconst 0, 1) := by decide +kernel
theorem dX8_worksOut_1 : decode cX8_worksOut 1 = .ok (.istore_n 2, 1) := by decide +kernel
theorem dX8_worksOut_2 : decode cX8_worksOut 2 = .ok (.aload_n 0, 1) := by decide +kernel
theorem dX8_worksOut_3 : decode cX8_worksOut 3 = .ok (.getfield 9, 3) := by decide +kernel
theorem dX8_worksOut_6 : decode cX8_worksOut 6 = .ok (.bipush 76, 2) := by decide +kernel
theorem dX8_worksOut_8 : decode cX8_worksOut 8 = .ok (.iconst 2, 1) := by decide +kernel
theorem dX8_worksOut_9 : decode cX8_worksOut 9 = .ok (.iload_n 1, 1) := by decide +kernel
theorem dX8_worksOut_10 : decode cX8_worksOut 10 = .ok (.imul, 1) := by decide +kernel
theorem dX8_worksOut_11 : decode cX8_worksOut 11 = .ok (.iadd, 1) := by decide +kernel
theorem dX8_worksOut_12 : decode cX8_worksOut 12 = .ok (.iaload, 1) := by decide +kernel
theorem dX8_worksOut_13 : decode cX8_worksOut 13 = .ok (.sipush 1000, 3) := by decide +kernel
theorem dX8_worksOut_16 : decode cX8_worksOut 16 = .ok (.irem, 1) := by decide +kernel
theorem dX8_worksOut_17 : decode cX8_worksOut 17 = .ok (.istore_n 3, 1) := by decide +kernel
theorem dX8_worksOut_18 : decode cX8_worksOut 18 = .ok (.iconst 0, 1) := by decide +kernel
theorem dX8_worksOut_19 : decode cX8_worksOut 19 = .ok (.istore 4, 2) := by decide +kernel
theorem dX8_worksOut_21 : decode cX8_worksOut 21 = .ok (.iload 4, 2) := by decide +kernel
theorem dX8_worksOut_23 : decode cX8_worksOut 23 = .ok (.iload_n 3, 1) := by decide +kernel
theorem dX8_worksOut_24 : decode cX8_worksOut 24 = .ok (.if_icmp .ge 131, 3) := by decide +kernel
theorem dX8_worksOut_27 : decode cX8_worksOut 27 = .ok (.aload_n 0, 1) := by decide +kernel
theorem dX8_worksOut_28 : decode cX8_worksOut 28 = .ok (.getfield 9, 3) := by decide +kernel
theorem dX8_worksOut_31 : decode cX8_worksOut 31 = .ok (.bipush 104, 2) := by decide +kernel
theorem dX8_worksOut_33 : decode cX8_worksOut 33 = .ok (.bipush 96, 2) := by decide +kernel
theorem dX8_worksOut_35 : decode cX8_worksOut 35 = .ok (.iload_n 1, 1) := by decide +kernel
theorem dX8_worksOut_36 : decode cX8_worksOut 36 = .ok (.imul, 1) := by decide +kernel
theorem dX8_worksOut_37 : decode cX8_worksOut 37 = .ok (.iadd, 1) := by decide +kernel
theorem dX8_worksOut_38 : decode cX8_worksOut 38 = .ok (.iload 4, 2) := by decide +kernel
theorem dX8_worksOut_40 : decode cX8_worksOut 40 = .ok (.iadd, 1) := by decide +kernel
theorem dX8_worksOut_41 : decode cX8_worksOut 41 = .ok (.iaload, 1) := by decide +kernel
theorem dX8_worksOut_42 : decode cX8_worksOut 42 = .ok (.istore 5, 2) := by decide +kernel
theorem dX8_worksOut_44 : decode cX8_worksOut 44 = .ok (.iload 5, 2) := by decide +kernel
theorem dX8_worksOut_46 : decode cX8_worksOut 46 = .ok (.ifCond .lt 39, 3) := by decide +kernel
theorem dX8_worksOut_49 : decode cX8_worksOut 49 = .ok (.aload_n 0, 1) := by decide +kernel
theorem dX8_worksOut_50 : decode cX8_worksOut 50 = .ok (.getfield 58, 3) := by decide +kernel
theorem dX8_worksOut_53 : decode cX8_worksOut 53 = .ok (.iload_n 2, 1) := by decide +kernel
theorem dX8_worksOut_54 : decode cX8_worksOut 54 = .ok (.iload 5, 2) := by decide +kernel
theorem dX8_worksOut_56 : decode cX8_worksOut 56 = .ok (.sipush 10000, 3) := by decide +kernel
theorem dX8_worksOut_59 : decode cX8_worksOut 59 = .ok (.if_icmp .ge 8, 3) := by decide +kernel
theorem dX8_worksOut_62 : decode cX8_worksOut 62 = .ok (.iload 5, 2) := by decide +kernel
theorem dX8_worksOut_64 : decode cX8_worksOut 64 = .ok (.goto 14, 3) := by decide +kernel
theorem dX8_worksOut_67 : decode cX8_worksOut 67 = .ok (.aload_n 0, 1) := by decide +kernel
theorem dX8_worksOut_68 : decode cX8_worksOut 68 = .ok (.getfield 61, 3) := by decide +kernel
theorem dX8_worksOut_71 : decode cX8_worksOut 71 = .ok (.iload 5, 2) := by decide +kernel
theorem dX8_worksOut_73 : decode cX8_worksOut 73 = .ok (.sipush 10000, 3) := by decide +kernel
theorem dX8_worksOut_76 : decode cX8_worksOut 76 = .ok (.isub, 1) := by decide +kernel
theorem dX8_worksOut_77 : decode cX8_worksOut 77 = .ok (.iaload, 1) := by decide +kernel
theorem dX8_worksOut_78 : decode cX8_worksOut 78 = .ok (.iastore, 1) := by decide +kernel
theorem dX8_worksOut_79 : decode cX8_worksOut 79 = .ok (.iinc 2 1, 3) := by decide +kernel
theorem dX8_worksOut_82 : decode cX8_worksOut 82 = .ok (.goto 67, 3) := by decide +kernel
theorem dX8_worksOut_85 : decode cX8_worksOut 85 = .ok (.iload 5, 2) := by decide +kernel
theorem dX8_worksOut_87 : decode cX8_worksOut 87 = .ok (.bipush (-10), 2) := by decide +kernel
theorem dX8_worksOut_89 : decode cX8_worksOut 89 = .ok (.if_icmp .ne 30, 3) := by decide +kernel
theorem dX8_worksOut_92 : decode cX8_worksOut 92 = .ok (.aload_n 0, 1) := by decide +kernel
theorem dX8_worksOut_93 : decode cX8_worksOut 93 = .ok (.getfield 58, 3) := by decide +kernel
theorem dX8_worksOut_96 : decode cX8_worksOut 96 = .ok (.iload_n 2, 1) := by decide +kernel
theorem dX8_worksOut_97 : decode cX8_worksOut 97 = .ok (.iconst 1, 1) := by decide +kernel
theorem dX8_worksOut_98 : decode cX8_worksOut 98 = .ok (.isub, 1) := by decide +kernel
theorem dX8_worksOut_99 : decode cX8_worksOut 99 = .ok (.aload_n 0, 1) := by decide +kernel
theorem dX8_worksOut_100 : decode cX8_worksOut 100 = .ok (.getfield 58, 3) := by decide +kernel
theorem dX8_worksOut_103 : decode cX8_worksOut 103 = .ok (.iload_n 2, 1) := by decide +kernel
theorem dX8_worksOut_104 : decode cX8_worksOut 104 = .ok (.iconst 1, 1) := by decide +kernel
theorem dX8_worksOut_105 : decode cX8_worksOut 105 = .ok (.isub, 1) := by decide +kernel
theorem dX8_worksOut_106 : decode cX8_worksOut 106 = .ok (.iaload, 1) := by decide +kernel
theorem dX8_worksOut_107 : decode cX8_worksOut 107 = .ok (.ifCond .ne 7, 3) := by decide +kernel
theorem dX8_worksOut_110 : decode cX8_worksOut 110 = .ok (.iconst 1, 1) := by decide +kernel
theorem dX8_worksOut_111 : decode cX8_worksOut 111 = .ok (.goto 4, 3) := by decide +kernel
theorem dX8_worksOut_114 : decode cX8_worksOut 114 = .ok (.iconst 0, 1) := by decide +kernel
theorem dX8_worksOut_115 : decode cX8_worksOut 115 = .ok (.iastore, 1) := by decide +kernel
theorem dX8_worksOut_116 : decode cX8_worksOut 116 = .ok (.goto 33, 3) := by decide +kernel
theorem dX8_worksOut_119 : decode cX8_worksOut 119 = .ok (.iinc 2 (-1), 3) := by decide +kernel
theorem dX8_worksOut_122 : decode cX8_worksOut 122 = .ok (.aload_n 0, 1) := by decide +kernel
theorem dX8_worksOut_123 : decode cX8_worksOut 123 = .ok (.getfield 58, 3) := by decide +kernel
theorem dX8_worksOut_126 : decode cX8_worksOut 126 = .ok (.iload_n 2, 1) := by decide +kernel
theorem dX8_worksOut_127 : decode cX8_worksOut 127 = .ok (.iconst 1, 1) := by decide +kernel
theorem dX8_worksOut_128 : decode cX8_worksOut 128 = .ok (.isub, 1) := by decide +kernel
theorem dX8_worksOut_129 : decode cX8_worksOut 129 = .ok (.iload 5, 2) := by decide +kernel
theorem dX8_worksOut_131 : decode cX8_worksOut 131 = .ok (.aload_n 0, 1) := by decide +kernel
theorem dX8_worksOut_132 : decode cX8_worksOut 132 = .ok (.getfield 58, 3) := by decide +kernel
theorem dX8_worksOut_135 : decode cX8_worksOut 135 = .ok (.iload_n 2, 1) := by decide +kernel
theorem dX8_worksOut_136 : decode cX8_worksOut 136 = .ok (.iconst 1, 1) := by decide +kernel
theorem dX8_worksOut_137 : decode cX8_worksOut 137 = .ok (.isub, 1) := by decide +kernel
theorem dX8_worksOut_138 : decode cX8_worksOut 138 = .ok (.iaload, 1) := by decide +kernel
theorem dX8_worksOut_139 : decode cX8_worksOut 139 = .ok (.aload_n 0, 1) := by decide +kernel
theorem dX8_worksOut_140 : decode cX8_worksOut 140 = .ok (.getfield 58, 3) := by decide +kernel
theorem dX8_worksOut_143 : decode cX8_worksOut 143 = .ok (.iload_n 2, 1) := by decide +kernel
theorem dX8_worksOut_144 : decode cX8_worksOut 144 = .ok (.iaload, 1) := by decide +kernel
theorem dX8_worksOut_145 : decode cX8_worksOut 145 = .ok (.invokestatic 279, 3) := by decide +kernel
theorem dX8_worksOut_148 : decode cX8_worksOut 148 = .ok (.iastore, 1) := by decide +kernel
theorem dX8_worksOut_149 : decode cX8_worksOut 149 = .ok (.iinc 4 1, 3) := by decide +kernel
theorem dX8_worksOut_152 : decode cX8_worksOut 152 = .ok (.goto (-131), 3) := by decide +kernel
theorem dX8_worksOut_155 : decode cX8_worksOut 155 = .ok (.aload_n 0, 1) := by decide +kernel
theorem dX8_worksOut_156 : decode cX8_worksOut 156 = .ok (.getfield 58, 3) := by decide +kernel
theorem dX8_worksOut_159 : decode cX8_worksOut 159 = .ok (.iconst 0, 1) := by decide +kernel
theorem dX8_worksOut_160 : decode cX8_worksOut 160 = .ok (.iaload, 1) := by decide +kernel
theorem dX8_worksOut_161 : decode cX8_worksOut 161 = .ok (.ireturn, 1) := by decide +kernel
theorem dX8_isSheet_0 : decode cX8_isSheet 0 = .ok (.iload_n 0, 1) := by decide +kernel
theorem dX8_isSheet_1 : decode cX8_isSheet 1 = .ok (.iconst 0, 1) := by decide +kernel
theorem dX8_isSheet_2 : decode cX8_isSheet 2 = .ok (.iconst 3, 1) := by decide +kernel
theorem dX8_isSheet_3 : decode cX8_isSheet 3 = .ok (.invokestatic 92, 3) := by decide +kernel
theorem dX8_isSheet_6 : decode cX8_isSheet 6 = .ok (.ireturn, 1) := by decide +kernel
theorem dX8_isSlot_0 : decode cX8_isSlot 0 = .ok (.iload_n 0, 1) := by decide +kernel
theorem dX8_isSlot_1 : decode cX8_isSlot 1 = .ok (.iconst 0, 1) := by decide +kernel
theorem dX8_isSlot_2 : decode cX8_isSlot 2 = .ok (.iconst 4, 1) := by decide +kernel
theorem dX8_isSlot_3 : decode cX8_isSlot 3 = .ok (.invokestatic 92, 3) := by decide +kernel
theorem dX8_isSlot_6 : decode cX8_isSlot 6 = .ok (.ireturn, 1) := by decide +kernel
theorem dX8_sheet_0 : decode cX8_sheet 0 = .ok (.iload_n 1, 1) := by decide +kernel
theorem dX8_sheet_1 : decode cX8_sheet 1 = .ok (.invokestatic 210, 3) := by decide +kernel
theorem dX8_sheet_4 : decode cX8_sheet 4 = .ok (.ifCond .eq 22, 3) := by decide +kernel
theorem dX8_sheet_7 : decode cX8_sheet 7 = .ok (.iload_n 2, 1) := by decide +kernel
theorem dX8_sheet_8 : decode cX8_sheet 8 = .ok (.iconst (-1), 1) := by decide +kernel
theorem dX8_sheet_9 : decode cX8_sheet 9 = .ok (.iconst 1, 1) := by decide +kernel
theorem dX8_sheet_10 : decode cX8_sheet 10 = .ok (.invokestatic 92, 3) := by decide +kernel
theorem dX8_sheet_13 : decode cX8_sheet 13 = .ok (.ifCond .eq 13, 3) := by decide +kernel
theorem dX8_sheet_16 : decode cX8_sheet 16 = .ok (.iload_n 2, 1) := by decide +kernel
theorem dX8_sheet_17 : decode cX8_sheet 17 = .ok (.ifCond .lt 12, 3) := by decide +kernel
theorem dX8_sheet_20 : decode cX8_sheet 20 = .ok (.iload_n 3, 1) := by decide +kernel
theorem dX8_sheet_21 : decode cX8_sheet 21 = .ok (.bipush 24, 2) := by decide +kernel
theorem dX8_sheet_23 : decode cX8_sheet 23 = .ok (.if_icmp .le 6, 3) := by decide +kernel
theorem dX8_sheet_26 : decode cX8_sheet 26 = .ok (.ldc 111, 2) := by decide +kernel
theorem dX8_sheet_28 : decode cX8_sheet 28 = .ok (.ireturn, 1) := by decide +kernel
theorem dX8_sheet_29 : decode cX8_sheet 29 = .ok (.iload_n 2, 1) := by decide +kernel
theorem dX8_sheet_30 : decode cX8_sheet 30 = .ok (.ifCond .lt 11, 3) := by decide +kernel
theorem dX8_sheet_33 : decode cX8_sheet 33 = .ok (.iload_n 3, 1) := by decide +kernel
theorem dX8_sheet_34 : decode cX8_sheet 34 = .ok (.ifCond .ge 7, 3) := by decide +kernel
theorem dX8_sheet_37 : decode cX8_sheet 37 = .ok (.ldc_w 282, 3) := by decide +kernel
theorem dX8_sheet_40 : decode cX8_sheet 40 = .ok (.ireturn, 1) := by decide +kernel
theorem dX8_sheet_41 : decode cX8_sheet 41 = .ok (.aload_n 0, 1) := by decide +kernel
theorem dX8_sheet_42 : decode cX8_sheet 42 = .ok (.getfield 64, 3) := by decide +kernel
theorem dX8_sheet_45 : decode cX8_sheet 45 = .ok (.iload_n 1, 1) := by decide +kernel
theorem dX8_sheet_46 : decode cX8_sheet 46 = .ok (.iload_n 2, 1) := by decide +kernel
theorem dX8_sheet_47 : decode cX8_sheet 47 = .ok (.iastore, 1) := by decide +kernel
theorem dX8_sheet_48 : decode cX8_sheet 48 = .ok (.aload_n 0, 1) := by decide +kernel
theorem dX8_sheet_49 : decode cX8_sheet 49 = .ok (.getfield 67, 3) := by decide +kernel
theorem dX8_sheet_52 : decode cX8_sheet 52 = .ok (.iload_n 1, 1) := by decide +kernel
theorem dX8_sheet_53 : decode cX8_sheet 53 = .ok (.iload_n 2, 1) := by decide +kernel
theorem dX8_sheet_54 : decode cX8_sheet 54 = .ok (.ifCond .ge 7, 3) := by decide +kernel
theorem dX8_sheet_57 : decode cX8_sheet 57 = .ok (.iconst 0, 1) := by decide +kernel
theorem dX8_sheet_58 : decode cX8_sheet 58 = .ok (.goto 4, 3) := by decide +kernel
theorem dX8_sheet_61 : decode cX8_sheet 61 = .ok (.iload_n 3, 1) := by decide +kernel
theorem dX8_sheet_62 : decode cX8_sheet 62 = .ok (.iastore, 1) := by decide +kernel
theorem dX8_sheet_63 : decode cX8_sheet 63 = .ok (.iconst 0, 1) := by decide +kernel
theorem dX8_sheet_64 : decode cX8_sheet 64 = .ok (.istore 4, 2) := by decide +kernel
theorem dX8_sheet_66 : decode cX8_sheet 66 = .ok (.iload 4, 2) := by decide +kernel
theorem dX8_sheet_68 : decode cX8_sheet 68 = .ok (.bipush 24, 2) := by decide +kernel
theorem dX8_sheet_70 : decode cX8_sheet 70 = .ok (.if_icmp .ge 22, 3) := by decide +kernel
theorem dX8_sheet_73 : decode cX8_sheet 73 = .ok (.aload_n 0, 1) := by decide +kernel
theorem dX8_sheet_74 : decode cX8_sheet 74 = .ok (.getfield 70, 3) := by decide +kernel
theorem dX8_sheet_77 : decode cX8_sheet 77 = .ok (.bipush 24, 2) := by decide +kernel
theorem dX8_sheet_79 : decode cX8_sheet 79 = .ok (.iload_n 1, 1) := by decide +kernel
theorem dX8_sheet_80 : decode cX8_sheet 80 = .ok (.imul, 1) := by decide +kernel
theorem dX8_sheet_81 : decode cX8_sheet 81 = .ok (.iload 4, 2) := by decide +kernel
theorem dX8_sheet_83 : decode cX8_sheet 83 = .ok (.iadd, 1) := by decide +kernel
theorem dX8_sheet_84 : decode cX8_sheet 84 = .ok (.iconst 0, 1) := by decide +kernel
theorem dX8_sheet_85 : decode cX8_sheet 85 = .ok (.iastore, 1) := by decide +kernel
theorem dX8_sheet_86 : decode cX8_sheet 86 = .ok (.iinc 4 1, 3) := by decide +kernel
theorem dX8_sheet_89 : decode cX8_sheet 89 = .ok (.goto (-23), 3) := by decide +kernel
theorem dX8_sheet_92 : decode cX8_sheet 92 = .ok (.aload_n 0, 1) := by decide +kernel
theorem dX8_sheet_93 : decode cX8_sheet 93 = .ok (.getfield 67, 3) := by decide +kernel
theorem dX8_sheet_96 : decode cX8_sheet 96 = .ok (.iload_n 1, 1) := by decide +kernel
theorem dX8_sheet_97 : decode cX8_sheet 97 = .ok (.iaload, 1) := by decide +kernel
theorem dX8_sheet_98 : decode cX8_sheet 98 = .ok (.ireturn, 1) := by decide +kernel
theorem dX8_mark_0 : decode cX8_mark 0 = .ok (.iload_n 1, 1) := by decide +kernel
theorem dX8_mark_1 : decode cX8_mark 1 = .ok (.invokestatic 210, 3) := by decide +kernel
theorem dX8_mark_4 : decode cX8_mark 4 = .ok (.ifCond .ne 6, 3) := by decide +kernel
theorem dX8_mark_7 : decode cX8_mark 7 = .ok (.ldc 111, 2) := by decide +kernel
theorem dX8_mark_9 : decode cX8_mark 9 = .ok (.ireturn, 1) := by decide +kernel
theorem dX8_mark_10 : decode cX8_mark 10 = .ok (.aload_n 0, 1) := by decide +kernel
theorem dX8_mark_11 : decode cX8_mark 11 = .ok (.getfield 64, 3) := by decide +kernel
theorem dX8_mark_14 : decode cX8_mark 14 = .ok (.iload_n 1, 1) := by decide +kernel
theorem dX8_mark_15 : decode cX8_mark 15 = .ok (.iaload, 1) := by decide +kernel
theorem dX8_mark_16 : decode cX8_mark 16 = .ok (.ifCond .ge 6, 3) := by decide +kernel
theorem dX8_mark_19 : decode cX8_mark 19 = .ok (.ldc 213, 2) := by decide +kernel
theorem dX8_mark_21 : decode cX8_mark 21 = .ok (.ireturn, 1) := by decide +kernel
theorem dX8_mark_22 : decode cX8_mark 22 = .ok (.iload_n 2, 1) := by decide +kernel
theorem dX8_mark_23 : decode cX8_mark 23 = .ok (.iconst 0, 1) := by decide +kernel
theorem dX8_mark_24 : decode cX8_mark 24 = .ok (.aload_n 0, 1) := by decide +kernel
theorem dX8_mark_25 : decode cX8_mark 25 = .ok (.getfield 67, 3) := by decide +kernel
theorem dX8_mark_28 : decode cX8_mark 28 = .ok (.iload_n 1, 1) := by decide +kernel
theorem dX8_mark_29 : decode cX8_mark 29 = .ok (.iaload, 1) := by decide +kernel
theorem dX8_mark_30 : decode cX8_mark 30 = .ok (.iconst 1, 1) := by decide +kernel
theorem dX8_mark_31 : decode cX8_mark 31 = .ok (.isub, 1) := by decide +kernel
theorem dX8_mark_32 : decode cX8_mark 32 = .ok (.invokestatic 92, 3) := by decide +kernel
theorem dX8_mark_35 : decode cX8_mark 35 = .ok (.ifCond .ne 7, 3) := by decide +kernel
theorem dX8_mark_38 : decode cX8_mark 38 = .ok (.ldc_w 283, 3) := by decide +kernel
theorem dX8_mark_41 : decode cX8_mark 41 = .ok (.ireturn, 1) := by decide +kernel
theorem dX8_mark_42 : decode cX8_mark 42 = .ok (.aload_n 0, 1) := by decide +kernel
theorem dX8_mark_43 : decode cX8_mark 43 = .ok (.getfield 64, 3) := by decide +kernel
theorem dX8_mark_46 : decode cX8_mark 46 = .ok (.iload_n 1, 1) := by decide +kernel
theorem dX8_mark_47 : decode cX8_mark 47 = .ok (.iaload, 1) := by decide +kernel
theorem dX8_mark_48 : decode cX8_mark 48 = .ok (.ifCond .ne 12, 3) := by decide +kernel
theorem dX8_mark_51 : decode cX8_mark 51 = .ok (.iload_n 3, 1) := by decide +kernel
theorem dX8_mark_52 : decode cX8_mark 52 = .ok (.ldc 91, 2) := by decide +kernel
theorem dX8_mark_54 : decode cX8_mark 54 = .ok (.if_icmp .ne 6, 3) := by decide +kernel
theorem dX8_mark_57 : decode cX8_mark 57 = .ok (.ldc 132, 2) := by decide +kernel
theorem dX8_mark_59 : decode cX8_mark 59 = .ok (.ireturn, 1) := by decide +kernel
theorem dX8_mark_60 : decode cX8_mark 60 = .ok (.aload_n 0, 1) := by decide +kernel
theorem dX8_mark_61 : decode cX8_mark 61 = .ok (.getfield 64, 3) := by decide +kernel
theorem dX8_mark_64 : decode cX8_mark 64 = .ok (.iload_n 1, 1) := by decide +kernel
theorem dX8_mark_65 : decode cX8_mark 65 = .ok (.iaload, 1) := by decide +kernel
theorem dX8_mark_66 : decode cX8_mark 66 = .ok (.iconst 1, 1) := by decide +kernel
theorem dX8_mark_67 : decode cX8_mark 67 = .ok (.if_icmp .ne 25, 3) := by decide +kernel
theorem dX8_mark_70 : decode cX8_mark 70 = .ok (.iload_n 3, 1) := by decide +kernel
theorem dX8_mark_71 : decode cX8_mark 71 = .ok (.ldc 91, 2) := by decide +kernel
theorem dX8_mark_73 : decode cX8_mark 73 = .ok (.if_icmp .eq 19, 3) := by decide +kernel
theorem dX8_mark_76 : decode cX8_mark 76 = .ok (.iload_n 3, 1) := by decide +kernel
theorem dX8_mark_77 : decode cX8_mark 77 = .ok (.ldc_w 284, 3) := by decide +kernel
theorem dX8_mark_80 : decode cX8_mark 80 = .ok (.ldc_w 285, 3) := by decide +kernel
theorem dX8_mark_83 : decode cX8_mark 83 = .ok (.invokestatic 92, 3) := by decide +kernel
theorem dX8_mark_86 : decode cX8_mark 86 = .ok (.ifCond .ne 6, 3) := by decide +kernel
theorem dX8_mark_89 : decode cX8_mark 89 = .ok (.ldc 111, 2) := by decide +kernel
theorem dX8_mark_91 : decode cX8_mark 91 = .ok (.ireturn, 1) := by decide +kernel
theorem dX8_mark_92 : decode cX8_mark 92 = .ok (.aload_n 0, 1) := by decide +kernel
theorem dX8_mark_93 : decode cX8_mark 93 = .ok (.getfield 70, 3) := by decide +kernel
theorem dX8_mark_96 : decode cX8_mark 96 = .ok (.bipush 24, 2) := by decide +kernel
theorem dX8_mark_98 : decode cX8_mark 98 = .ok (.iload_n 1, 1) := by decide +kernel
theorem dX8_mark_99 : decode cX8_mark 99 = .ok (.imul, 1) := by decide +kernel
theorem dX8_mark_100 : decode cX8_mark 100 = .ok (.iload_n 2, 1) := by decide +kernel
theorem dX8_mark_101 : decode cX8_mark 101 = .ok (.iadd, 1) := by decide +kernel
theorem dX8_mark_102 : decode cX8_mark 102 = .ok (.aload_n 0, 1) := by decide +kernel
theorem dX8_mark_103 : decode cX8_mark 103 = .ok (.getfield 64, 3) := by decide +kernel
theorem dX8_mark_106 : decode cX8_mark 106 = .ok (.iload_n 1, 1) := by decide +kernel
theorem dX8_mark_107 : decode cX8_mark 107 = .ok (.iaload, 1) := by decide +kernel
theorem dX8_mark_108 : decode cX8_mark 108 = .ok (.ifCond .ne 8, 3) := by decide +kernel
theorem dX8_mark_111 : decode cX8_mark 111 = .ok (.iload_n 3, 1) := by decide +kernel
theorem dX8_mark_112 : decode cX8_mark 112 = .ok (.i2s, 1) := by decide +kernel
theorem dX8_mark_113 : decode cX8_mark 113 = .ok (.goto 4, 3) := by decide +kernel
theorem dX8_mark_116 : decode cX8_mark 116 = .ok (.iload_n 3, 1) := by decide +kernel
theorem dX8_mark_117 : decode cX8_mark 117 = .ok (.iastore, 1) := by decide +kernel
theorem dX8_mark_118 : decode cX8_mark 118 = .ok (.iconst 1, 1) := by decide +kernel
theorem dX8_mark_119 : decode cX8_mark 119 = .ok (.ireturn, 1) := by decide +kernel
theorem dX8_pour_0 : decode cX8_pour 0 = .ok (.iload_n 1, 1) := by decide +kernel
theorem dX8_pour_1 : decode cX8_pour 1 = .ok (.invokestatic 210, 3) := by decide +kernel
theorem dX8_pour_4 : decode cX8_pour 4 = .ok (.ifCond .ne 6, 3) := by decide +kernel
theorem dX8_pour_7 : decode cX8_pour 7 = .ok (.ldc 111, 2) := by decide +kernel
theorem dX8_pour_9 : decode cX8_pour 9 = .ok (.ireturn, 1) := by decide +kernel
theorem dX8_pour_10 : decode cX8_pour 10 = .ok (.aload_n 0, 1) := by decide +kernel
theorem dX8_pour_11 : decode cX8_pour 11 = .ok (.getfield 64, 3) := by decide +kernel
theorem dX8_pour_14 : decode cX8_pour 14 = .ok (.iload_n 1, 1) := by decide +kernel
theorem dX8_pour_15 : decode cX8_pour 15 = .ok (.iaload, 1) := by decide +kernel
theorem dX8_pour_16 : decode cX8_pour 16 = .ok (.ifCond .ge 6, 3) := by decide +kernel
theorem dX8_pour_19 : decode cX8_pour 19 = .ok (.ldc 213, 2) := by decide +kernel
theorem dX8_pour_21 : decode cX8_pour 21 = .ok (.ireturn, 1) := by decide +kernel
theorem dX8_pour_22 : decode cX8_pour 22 = .ok (.iconst 0, 1) := by decide +kernel
theorem dX8_pour_23 : decode cX8_pour 23 = .ok (.istore_n 2, 1) := by decide +kernel
theorem dX8_pour_24 : decode cX8_pour 24 = .ok (.iconst 0, 1) := by decide +kernel
theorem dX8_pour_25 : decode cX8_pour 25 = .ok (.istore_n 3, 1) := by decide +kernel
theorem dX8_pour_26 : decode cX8_pour 26 = .ok (.iload_n 3, 1) := by decide +kernel
theorem dX8_pour_27 : decode cX8_pour 27 = .ok (.aload_n 0, 1) := by decide +kernel
theorem dX8_pour_28 : decode cX8_pour 28 = .ok (.getfield 67, 3) := by decide +kernel
theorem dX8_pour_31 : decode cX8_pour 31 = .ok (.iload_n 1, 1) := by decide +kernel
theorem dX8_pour_32 : decode cX8_pour 32 = .ok (.iaload, 1) := by decide +kernel
theorem dX8_pour_33 : decode cX8_pour 33 = .ok (.if_icmp .ge 85, 3) := by decide +kernel
theorem dX8_pour_36 : decode cX8_pour 36 = .ok (.iload_n 3, 1) := by decide +kernel
theorem dX8_pour_37 : decode cX8_pour 37 = .ok (.aload_n 0, 1) := by decide +kernel
theorem dX8_pour_38 : decode cX8_pour 38 = .ok (.getfield 9, 3) := by decide +kernel
theorem dX8_pour_41 : decode cX8_pour 41 = .ok (.iconst 1, 1) := by decide +kernel
theorem dX8_pour_42 : decode cX8_pour 42 = .ok (.iaload, 1) := by decide +kernel
theorem dX8_pour_43 : decode cX8_pour 43 = .ok (.if_icmp .ge 75, 3) := by decide +kernel
theorem dX8_pour_46 : decode cX8_pour 46 = .ok (.aload_n 0, 1) := by decide +kernel
theorem dX8_pour_47 : decode cX8_pour 47 = .ok (.getfield 70, 3) := by decide +kernel
theorem dX8_pour_50 : decode cX8_pour 50 = .ok (.bipush 24, 2) := by decide +kernel
theorem dX8_pour_52 : decode cX8_pour 52 = .ok (.iload_n 1, 1) := by decide +kernel
theorem dX8_pour_53 : decode cX8_pour 53 = .ok (.imul, 1) := by decide +kernel
theorem dX8_pour_54 : decode cX8_pour 54 = .ok (.iload_n 3, 1) := by decide +kernel
theorem dX8_pour_55 : decode cX8_pour 55 = .ok (.iadd, 1) := by decide +kernel
theorem dX8_pour_56 : decode cX8_pour 56 = .ok (.iaload, 1) := by decide +kernel
theorem dX8_pour_57 : decode cX8_pour 57 = .ok (.istore 4, 2) := by decide +kernel
theorem dX8_pour_59 : decode cX8_pour 59 = .ok (.iload 4, 2) := by decide +kernel
theorem dX8_pour_61 : decode cX8_pour 61 = .ok (.ldc 91, 2) := by decide +kernel
theorem dX8_pour_63 : decode cX8_pour 63 = .ok (.if_icmp .ne 12, 3) := by decide +kernel
theorem dX8_pour_66 : decode cX8_pour 66 = .ok (.aload_n 0, 1) := by decide +kernel
theorem dX8_pour_67 : decode cX8_pour 67 = .ok (.iload_n 3, 1) := by decide +kernel
theorem dX8_pour_68 : decode cX8_pour 68 = .ok (.iconst 2, 1) := by decide +kernel
theorem dX8_pour_69 : decode cX8_pour 69 = .ok (.invokevirtual 117, 3) := by decide +kernel
theorem dX8_pour_72 : decode cX8_pour 72 = .ok (.goto 11, 3) := by decide +kernel
theorem dX8_pour_75 : decode cX8_pour 75 = .ok (.iload 4, 2) := by decide +kernel
theorem dX8_pour_77 : decode cX8_pour 77 = .ok (.iconst 0, 1) := by decide +kernel
theorem dX8_pour_78 : decode cX8_pour 78 = .ok (.bipush 99, 2) := by decide +kernel
theorem dX8_pour_80 : decode cX8_pour 80 = .ok (.invokestatic 142, 3) := by decide +kernel
theorem dX8_pour_83 : decode cX8_pour 83 = .ok (.istore 5, 2) := by decide +kernel
theorem dX8_pour_85 : decode cX8_pour 85 = .ok (.iload_n 2, 1) := by decide +kernel
theorem dX8_pour_86 : decode cX8_pour 86 = .ok (.aload_n 0, 1) := by decide +kernel
theorem dX8_pour_87 : decode cX8_pour 87 = .ok (.bipush 21, 2) := by decide +kernel
theorem dX8_pour_89 : decode cX8_pour 89 = .ok (.iconst 5, 1) := by decide +kernel
theorem dX8_pour_90 : decode cX8_pour 90 = .ok (.iload_n 3, 1) := by decide +kernel
theorem dX8_pour_91 : decode cX8_pour 91 = .ok (.imul, 1) := by decide +kernel
theorem dX8_pour_92 : decode cX8_pour 92 = .ok (.iadd, 1) := by decide +kernel
theorem dX8_pour_93 : decode cX8_pour 93 = .ok (.iconst 2, 1) := by decide +kernel
theorem dX8_pour_94 : decode cX8_pour 94 = .ok (.iadd, 1) := by decide +kernel
theorem dX8_pour_95 : decode cX8_pour 95 = .ok (.iload 5, 2) := by decide +kernel
theorem dX8_pour_97 : decode cX8_pour 97 = .ok (.invokevirtual 133, 3) := by decide +kernel
theorem dX8_pour_100 : decode cX8_pour 100 = .ok (.iload 5, 2) := by decide +kernel
theorem dX8_pour_102 : decode cX8_pour 102 = .ok (.if_icmp .ne 7, 3) := by decide +kernel
theorem dX8_pour_105 : decode cX8_pour 105 = .ok (.iconst 0, 1) := by decide +kernel
theorem dX8_pour_106 : decode cX8_pour 106 = .ok (.goto 4, 3) := by decide +kernel
theorem dX8_pour_109 : decode cX8_pour 109 = .ok (.iconst 1, 1) := by decide +kernel
theorem dX8_pour_110 : decode cX8_pour 110 = .ok (.iadd, 1) := by decide +kernel
theorem dX8_pour_111 : decode cX8_pour 111 = .ok (.istore_n 2, 1) := by decide +kernel
theorem dX8_pour_112 : decode cX8_pour 112 = .ok (.iinc 3 1, 3) := by decide +kernel
theorem dX8_pour_115 : decode cX8_pour 115 = .ok (.goto (-89), 3) := by decide +kernel
theorem dX8_pour_118 : decode cX8_pour 118 = .ok (.iload_n 2, 1) := by decide +kernel
theorem dX8_pour_119 : decode cX8_pour 119 = .ok (.ireturn, 1) := by decide +kernel
theorem dX8_reads_0 : decode cX8_reads 0 = .ok (.iload_n 1, 1) := by decide +kernel
theorem dX8_reads_1 : decode cX8_reads 1 = .ok (.invokestatic 210, 3) := by decide +kernel
theorem dX8_reads_4 : decode cX8_reads 4 = .ok (.ifCond .ne 6, 3) := by decide +kernel
theorem dX8_reads_7 : decode cX8_reads 7 = .ok (.ldc 111, 2) := by decide +kernel
theorem dX8_reads_9 : decode cX8_reads 9 = .ok (.ireturn, 1) := by decide +kernel
theorem dX8_reads_10 : decode cX8_reads 10 = .ok (.aload_n 0, 1) := by decide +kernel
theorem dX8_reads_11 : decode cX8_reads 11 = .ok (.getfield 64, 3) := by decide +kernel
theorem dX8_reads_14 : decode cX8_reads 14 = .ok (.iload_n 1, 1) := by decide +kernel
theorem dX8_reads_15 : decode cX8_reads 15 = .ok (.iaload, 1) := by decide +kernel
theorem dX8_reads_16 : decode cX8_reads 16 = .ok (.ifCond .ge 6, 3) := by decide +kernel
theorem dX8_reads_19 : decode cX8_reads 19 = .ok (.ldc 213, 2) := by decide +kernel
theorem dX8_reads_21 : decode cX8_reads 21 = .ok (.ireturn, 1) := by decide +kernel
theorem dX8_reads_22 : decode cX8_reads 22 = .ok (.iconst 0, 1) := by decide +kernel
theorem dX8_reads_23 : decode cX8_reads 23 = .ok (.istore_n 2, 1) := by decide +kernel
theorem dX8_reads_24 : decode cX8_reads 24 = .ok (.iload_n 2, 1) := by decide +kernel
theorem dX8_reads_25 : decode cX8_reads 25 = .ok (.aload_n 0, 1) := by decide +kernel
theorem dX8_reads_26 : decode cX8_reads 26 = .ok (.getfield 67, 3) := by decide +kernel
theorem dX8_reads_29 : decode cX8_reads 29 = .ok (.iload_n 1, 1) := by decide +kernel
theorem dX8_reads_30 : decode cX8_reads 30 = .ok (.iaload, 1) := by decide +kernel
theorem dX8_reads_31 : decode cX8_reads 31 = .ok (.if_icmp .ge 47, 3) := by decide +kernel
theorem dX8_reads_34 : decode cX8_reads 34 = .ok (.aload_n 0, 1) := by decide +kernel
theorem dX8_reads_35 : decode cX8_reads 35 = .ok (.getfield 70, 3) := by decide +kernel
theorem dX8_reads_38 : decode cX8_reads 38 = .ok (.bipush 24, 2) := by decide +kernel
theorem dX8_reads_40 : decode cX8_reads 40 = .ok (.iload_n 1, 1) := by decide +kernel
theorem dX8_reads_41 : decode cX8_reads 41 = .ok (.imul, 1) := by decide +kernel
theorem dX8_reads_42 : decode cX8_reads 42 = .ok (.iload_n 2, 1) := by decide +kernel
theorem dX8_reads_43 : decode cX8_reads 43 = .ok (.iadd, 1) := by decide +kernel
theorem dX8_reads_44 : decode cX8_reads 44 = .ok (.iaload, 1) := by decide +kernel
theorem dX8_reads_45 : decode cX8_reads 45 = .ok (.istore_n 3, 1) := by decide +kernel
theorem dX8_reads_46 : decode cX8_reads 46 = .ok (.iload_n 3, 1) := by decide +kernel
theorem dX8_reads_47 : decode cX8_reads 47 = .ok (.ldc 91, 2) := by decide +kernel
theorem dX8_reads_49 : decode cX8_reads 49 = .ok (.if_icmp .eq 23, 3) := by decide +kernel
theorem dX8_reads_52 : decode cX8_reads 52 = .ok (.aload_n 0, 1) := by decide +kernel
theorem dX8_reads_53 : decode cX8_reads 53 = .ok (.iload_n 2, 1) := by decide +kernel
theorem dX8_reads_54 : decode cX8_reads 54 = .ok (.invokevirtual 121, 3) := by decide +kernel
theorem dX8_reads_57 : decode cX8_reads 57 = .ok (.ifCond .eq 13, 3) := by decide +kernel
theorem dX8_reads_60 : decode cX8_reads 60 = .ok (.iload_n 3, 1) := by decide +kernel
theorem dX8_reads_61 : decode cX8_reads 61 = .ok (.aload_n 0, 1) := by decide +kernel
theorem dX8_reads_62 : decode cX8_reads 62 = .ok (.iload_n 2, 1) := by decide +kernel
theorem dX8_reads_63 : decode cX8_reads 63 = .ok (.iconst 2, 1) := by decide +kernel
theorem dX8_reads_64 : decode cX8_reads 64 = .ok (.invokevirtual 117, 3) := by decide +kernel
theorem dX8_reads_67 : decode cX8_reads 67 = .ok (.if_icmp .eq 5, 3) := by decide +kernel
theorem dX8_reads_70 : decode cX8_reads 70 = .ok (.iload_n 2, 1) := by decide +kernel
theorem dX8_reads_71 : decode cX8_reads 71 = .ok (.ireturn, 1) := by decide +kernel
theorem dX8_reads_72 : decode cX8_reads 72 = .ok (.iinc 2 1, 3) := by decide +kernel
theorem dX8_reads_75 : decode cX8_reads 75 = .ok (.goto (-51), 3) := by decide +kernel
theorem dX8_reads_78 : decode cX8_reads 78 = .ok (.ldc 91, 2) := by decide +kernel
theorem dX8_reads_80 : decode cX8_reads 80 = .ok (.ireturn, 1) := by decide +kernel
theorem dX8_copy_0 : decode cX8_copy 0 = .ok (.iload_n 1, 1) := by decide +kernel
theorem dX8_copy_1 : decode cX8_copy 1 = .ok (.invokestatic 210, 3) := by decide +kernel
theorem dX8_copy_4 : decode cX8_copy 4 = .ok (.ifCond .eq 10, 3) := by decide +kernel
theorem dX8_copy_7 : decode cX8_copy 7 = .ok (.iload_n 3, 1) := by decide +kernel
theorem dX8_copy_8 : decode cX8_copy 8 = .ok (.invokestatic 210, 3) := by decide +kernel
theorem dX8_copy_11 : decode cX8_copy 11 = .ok (.ifCond .ne 6, 3) := by decide +kernel
theorem dX8_copy_14 : decode cX8_copy 14 = .ok (.ldc 111, 2) := by decide +kernel
theorem dX8_copy_16 : decode cX8_copy 16 = .ok (.ireturn, 1) := by decide +kernel
theorem dX8_copy_17 : decode cX8_copy 17 = .ok (.aload_n 0, 1) := by decide +kernel
theorem dX8_copy_18 : decode cX8_copy 18 = .ok (.getfield 64, 3) := by decide +kernel
theorem dX8_copy_21 : decode cX8_copy 21 = .ok (.iload_n 1, 1) := by decide +kernel
theorem dX8_copy_22 : decode cX8_copy 22 = .ok (.iaload, 1) := by decide +kernel
theorem dX8_copy_23 : decode cX8_copy 23 = .ok (.ifCond .lt 12, 3) := by decide +kernel
theorem dX8_copy_26 : decode cX8_copy 26 = .ok (.aload_n 0, 1) := by decide +kernel
theorem dX8_copy_27 : decode cX8_copy 27 = .ok (.getfield 64, 3) := by decide +kernel
theorem dX8_copy_30 : decode cX8_copy 30 = .ok (.iload_n 3, 1) := by decide +kernel
theorem dX8_copy_31 : decode cX8_copy 31 = .ok (.iaload, 1) := by decide +kernel
theorem dX8_copy_32 : decode cX8_copy 32 = .ok (.ifCond .ge 6, 3) := by decide +kernel
theorem dX8_copy_35 : decode cX8_copy 35 = .ok (.ldc 213, 2) := by decide +kernel
theorem dX8_copy_37 : decode cX8_copy 37 = .ok (.ireturn, 1) := by decide +kernel
theorem dX8_copy_38 : decode cX8_copy 38 = .ok (.aload_n 0, 1) := by decide +kernel
theorem dX8_copy_39 : decode cX8_copy 39 = .ok (.getfield 64, 3) := by decide +kernel
theorem dX8_copy_42 : decode cX8_copy 42 = .ok (.iload_n 1, 1) := by decide +kernel
theorem dX8_copy_43 : decode cX8_copy 43 = .ok (.iaload, 1) := by decide +kernel
theorem dX8_copy_44 : decode cX8_copy 44 = .ok (.aload_n 0, 1) := by decide +kernel
theorem dX8_copy_45 : decode cX8_copy 45 = .ok (.getfield 64, 3) := by decide +kernel
theorem dX8_copy_48 : decode cX8_copy 48 = .ok (.iload_n 3, 1) := by decide +kernel
theorem dX8_copy_49 : decode cX8_copy 49 = .ok (.iaload, 1) := by decide +kernel
theorem dX8_copy_50 : decode cX8_copy 50 = .ok (.if_icmp .eq 6, 3) := by decide +kernel
theorem dX8_copy_53 : decode cX8_copy 53 = .ok (.ldc 132, 2) := by decide +kernel
theorem dX8_copy_55 : decode cX8_copy 55 = .ok (.ireturn, 1) := by decide +kernel
theorem dX8_copy_56 : decode cX8_copy 56 = .ok (.iload_n 2, 1) := by decide +kernel
theorem dX8_copy_57 : decode cX8_copy 57 = .ok (.ifCond .lt 40, 3) := by decide +kernel
theorem dX8_copy_60 : decode cX8_copy 60 = .ok (.iload 4, 2) := by decide +kernel
theorem dX8_copy_62 : decode cX8_copy 62 = .ok (.ifCond .lt 35, 3) := by decide +kernel
theorem dX8_copy_65 : decode cX8_copy 65 = .ok (.iload 5, 2) := by decide +kernel
theorem dX8_copy_67 : decode cX8_copy 67 = .ok (.ifCond .lt 30, 3) := by decide +kernel
theorem dX8_copy_70 : decode cX8_copy 70 = .ok (.iload_n 2, 1) := by decide +kernel
theorem dX8_copy_71 : decode cX8_copy 71 = .ok (.aload_n 0, 1) := by decide +kernel
theorem dX8_copy_72 : decode cX8_copy 72 = .ok (.getfield 67, 3) := by decide +kernel
theorem dX8_copy_75 : decode cX8_copy 75 = .ok (.iload_n 1, 1) := by decide +kernel
theorem dX8_copy_76 : decode cX8_copy 76 = .ok (.iaload, 1) := by decide +kernel
theorem dX8_copy_77 : decode cX8_copy 77 = .ok (.iload 5, 2) := by decide +kernel
theorem dX8_copy_79 : decode cX8_copy 79 = .ok (.isub, 1) := by decide +kernel
theorem dX8_copy_80 : decode cX8_copy 80 = .ok (.if_icmp .gt 17, 3) := by decide +kernel
theorem dX8_copy_83 : decode cX8_copy 83 = .ok (.iload 4, 2) := by decide +kernel
theorem dX8_copy_85 : decode cX8_copy 85 = .ok (.aload_n 0, 1) := by decide +kernel
theorem dX8_copy_86 : decode cX8_copy 86 = .ok (.getfield 67, 3) := by decide +kernel
theorem dX8_copy_89 : decode cX8_copy 89 = .ok (.iload_n 3, 1) := by decide +kernel
theorem dX8_copy_90 : decode cX8_copy 90 = .ok (.iaload, 1) := by decide +kernel
theorem dX8_copy_91 : decode cX8_copy 91 = .ok (.iload 5, 2) := by decide +kernel
theorem dX8_copy_93 : decode cX8_copy 93 = .ok (.isub, 1) := by decide +kernel
theorem dX8_copy_94 : decode cX8_copy 94 = .ok (.if_icmp .le 7, 3) := by decide +kernel
theorem dX8_copy_97 : decode cX8_copy 97 = .ok (.ldc_w 283, 3) := by decide +kernel
theorem dX8_copy_100 : decode cX8_copy 100 = .ok (.ireturn, 1) := by decide +kernel
theorem dX8_copy_101 : decode cX8_copy 101 = .ok (.iconst 0, 1) := by decide +kernel
theorem dX8_copy_102 : decode cX8_copy 102 = .ok (.istore 6, 2) := by decide +kernel
theorem dX8_copy_104 : decode cX8_copy 104 = .ok (.iload 6, 2) := by decide +kernel
theorem dX8_copy_106 : decode cX8_copy 106 = .ok (.iload 5, 2) := by decide +kernel
theorem dX8_copy_108 : decode cX8_copy 108 = .ok (.if_icmp .ge 30, 3) := by decide +kernel
theorem dX8_copy_111 : decode cX8_copy 111 = .ok (.aload_n 0, 1) := by decide +kernel
theorem dX8_copy_112 : decode cX8_copy 112 = .ok (.getfield 85, 3) := by decide +kernel
theorem dX8_copy_115 : decode cX8_copy 115 = .ok (.iload 6, 2) := by decide +kernel
theorem dX8_copy_117 : decode cX8_copy 117 = .ok (.aload_n 0, 1) := by decide +kernel
theorem dX8_copy_118 : decode cX8_copy 118 = .ok (.getfield 70, 3) := by decide +kernel
theorem dX8_copy_121 : decode cX8_copy 121 = .ok (.bipush 24, 2) := by decide +kernel
theorem dX8_copy_123 : decode cX8_copy 123 = .ok (.iload_n 1, 1) := by decide +kernel
theorem dX8_copy_124 : decode cX8_copy 124 = .ok (.imul, 1) := by decide +kernel
theorem dX8_copy_125 : decode cX8_copy 125 = .ok (.iload_n 2, 1) := by decide +kernel
theorem dX8_copy_126 : decode cX8_copy 126 = .ok (.iadd, 1) := by decide +kernel
theorem dX8_copy_127 : decode cX8_copy 127 = .ok (.iload 6, 2) := by decide +kernel
theorem dX8_copy_129 : decode cX8_copy 129 = .ok (.iadd, 1) := by decide +kernel
theorem dX8_copy_130 : decode cX8_copy 130 = .ok (.iaload, 1) := by decide +kernel
theorem dX8_copy_131 : decode cX8_copy 131 = .ok (.iastore, 1) := by decide +kernel
theorem dX8_copy_132 : decode cX8_copy 132 = .ok (.iinc 6 1, 3) := by decide +kernel
theorem dX8_copy_135 : decode cX8_copy 135 = .ok (.goto (-31), 3) := by decide +kernel
theorem dX8_copy_138 : decode cX8_copy 138 = .ok (.iconst 0, 1) := by decide +kernel
theorem dX8_copy_139 : decode cX8_copy 139 = .ok (.istore 6, 2) := by decide +kernel
theorem dX8_copy_141 : decode cX8_copy 141 = .ok (.iload 6, 2) := by decide +kernel
theorem dX8_copy_143 : decode cX8_copy 143 = .ok (.iload 5, 2) := by decide +kernel
theorem dX8_copy_145 : decode cX8_copy 145 = .ok (.if_icmp .ge 31, 3) := by decide +kernel
theorem dX8_copy_148 : decode cX8_copy 148 = .ok (.aload_n 0, 1) := by decide +kernel
theorem dX8_copy_149 : decode cX8_copy 149 = .ok (.getfield 70, 3) := by decide +kernel
theorem dX8_copy_152 : decode cX8_copy 152 = .ok (.bipush 24, 2) := by decide +kernel
theorem dX8_copy_154 : decode cX8_copy 154 = .ok (.iload_n 3, 1) := by decide +kernel
theorem dX8_copy_155 : decode cX8_copy 155 = .ok (.imul, 1) := by decide +kernel
theorem dX8_copy_156 : decode cX8_copy 156 = .ok (.iload 4, 2) := by decide +kernel
theorem dX8_copy_158 : decode cX8_copy 158 = .ok (.iadd, 1) := by decide +kernel
theorem dX8_copy_159 : decode cX8_copy 159 = .ok (.iload 6, 2) := by decide +kernel
theorem dX8_copy_161 : decode cX8_copy 161 = .ok (.iadd, 1) := by decide +kernel
theorem dX8_copy_162 : decode cX8_copy 162 = .ok (.aload_n 0, 1) := by decide +kernel
theorem dX8_copy_163 : decode cX8_copy 163 = .ok (.getfield 85, 3) := by decide +kernel
theorem dX8_copy_166 : decode cX8_copy 166 = .ok (.iload 6, 2) := by decide +kernel
theorem dX8_copy_168 : decode cX8_copy 168 = .ok (.iaload, 1) := by decide +kernel
theorem dX8_copy_169 : decode cX8_copy 169 = .ok (.iastore, 1) := by decide +kernel
theorem dX8_copy_170 : decode cX8_copy 170 = .ok (.iinc 6 1, 3) := by decide +kernel
theorem dX8_copy_173 : decode cX8_copy 173 = .ok (.goto (-32), 3) := by decide +kernel
theorem dX8_copy_176 : decode cX8_copy 176 = .ok (.iload 5, 2) := by decide +kernel
theorem dX8_copy_178 : decode cX8_copy 178 = .ok (.ireturn, 1) := by decide +kernel
theorem dX8_lay_0 : decode cX8_lay 0 = .ok (.iload_n 1, 1) := by decide +kernel
theorem dX8_lay_1 : decode cX8_lay 1 = .ok (.invokestatic 286, 3) := by decide +kernel
theorem dX8_lay_4 : decode cX8_lay 4 = .ok (.ifCond .eq 37, 3) := by decide +kernel
theorem dX8_lay_7 : decode cX8_lay 7 = .ok (.iload_n 2, 1) := by decide +kernel
theorem dX8_lay_8 : decode cX8_lay 8 = .ok (.iconst 0, 1) := by decide +kernel
theorem dX8_lay_9 : decode cX8_lay 9 = .ok (.iconst 3, 1) := by decide +kernel
theorem dX8_lay_10 : decode cX8_lay 10 = .ok (.invokestatic 92, 3) := by decide +kernel
theorem dX8_lay_13 : decode cX8_lay 13 = .ok (.ifCond .eq 28, 3) := by decide +kernel
theorem dX8_lay_16 : decode cX8_lay 16 = .ok (.iload_n 2, 1) := by decide +kernel
theorem dX8_lay_17 : decode cX8_lay 17 = .ok (.iconst 1, 1) := by decide +kernel
theorem dX8_lay_18 : decode cX8_lay 18 = .ok (.if_icmp .ne 11, 3) := by decide +kernel
theorem dX8_lay_21 : decode cX8_lay 21 = .ok (.aload_n 0, 1) := by decide +kernel
theorem dX8_lay_22 : decode cX8_lay 22 = .ok (.iload_n 3, 1) := by decide +kernel
theorem dX8_lay_23 : decode cX8_lay 23 = .ok (.invokevirtual 121, 3) := by decide +kernel
theorem dX8_lay_26 : decode cX8_lay 26 = .ok (.ifCond .eq 15, 3) := by decide +kernel
theorem dX8_lay_29 : decode cX8_lay 29 = .ok (.iload_n 2, 1) := by decide +kernel
theorem dX8_lay_30 : decode cX8_lay 30 = .ok (.iconst 2, 1) := by decide +kernel
theorem dX8_lay_31 : decode cX8_lay 31 = .ok (.if_icmp .ne 13, 3) := by decide +kernel
theorem dX8_lay_34 : decode cX8_lay 34 = .ok (.iload_n 3, 1) := by decide +kernel
theorem dX8_lay_35 : decode cX8_lay 35 = .ok (.invokestatic 210, 3) := by decide +kernel
theorem dX8_lay_38 : decode cX8_lay 38 = .ok (.ifCond .ne 6, 3) := by decide +kernel
theorem dX8_lay_41 : decode cX8_lay 41 = .ok (.ldc 111, 2) := by decide +kernel
theorem dX8_lay_43 : decode cX8_lay 43 = .ok (.ireturn, 1) := by decide +kernel
theorem dX8_lay_44 : decode cX8_lay 44 = .ok (.iload_n 2, 1) := by decide +kernel
theorem dX8_lay_45 : decode cX8_lay 45 = .ok (.iconst 2, 1) := by decide +kernel
theorem dX8_lay_46 : decode cX8_lay 46 = .ok (.if_icmp .ne 15, 3) := by decide +kernel
theorem dX8_lay_49 : decode cX8_lay 49 = .ok (.aload_n 0, 1) := by decide +kernel
theorem dX8_lay_50 : decode cX8_lay 50 = .ok (.getfield 64, 3) := by decide +kernel
theorem dX8_lay_53 : decode cX8_lay 53 = .ok (.iload_n 3, 1) := by decide +kernel
theorem dX8_lay_54 : decode cX8_lay 54 = .ok (.iaload, 1) := by decide +kernel
theorem dX8_lay_55 : decode cX8_lay 55 = .ok (.ifCond .ge 6, 3) := by decide +kernel
theorem dX8_lay_58 : decode cX8_lay 58 = .ok (.ldc 213, 2) := by decide +kernel
theorem dX8_lay_60 : decode cX8_lay 60 = .ok (.ireturn, 1) := by decide +kernel
theorem dX8_lay_61 : decode cX8_lay 61 = .ok (.aload_n 0, 1) := by decide +kernel
theorem dX8_lay_62 : decode cX8_lay 62 = .ok (.getfield 73, 3) := by decide +kernel
theorem dX8_lay_65 : decode cX8_lay 65 = .ok (.iload_n 1, 1) := by decide +kernel
theorem dX8_lay_66 : decode cX8_lay 66 = .ok (.iaload, 1) := by decide +kernel
theorem dX8_lay_67 : decode cX8_lay 67 = .ok (.istore 4, 2) := by decide +kernel
theorem dX8_lay_69 : decode cX8_lay 69 = .ok (.aload_n 0, 1) := by decide +kernel
theorem dX8_lay_70 : decode cX8_lay 70 = .ok (.getfield 73, 3) := by decide +kernel
theorem dX8_lay_73 : decode cX8_lay 73 = .ok (.iload_n 1, 1) := by decide +kernel
theorem dX8_lay_74 : decode cX8_lay 74 = .ok (.iload_n 2, 1) := by decide +kernel
theorem dX8_lay_75 : decode cX8_lay 75 = .ok (.iastore, 1) := by decide +kernel
theorem dX8_lay_76 : decode cX8_lay 76 = .ok (.aload_n 0, 1) := by decide +kernel
theorem dX8_lay_77 : decode cX8_lay 77 = .ok (.getfield 76, 3) := by decide +kernel
theorem dX8_lay_80 : decode cX8_lay 80 = .ok (.iload_n 1, 1) := by decide +kernel
theorem dX8_lay_81 : decode cX8_lay 81 = .ok (.iload_n 2, 1) := by decide +kernel
theorem dX8_lay_82 : decode cX8_lay 82 = .ok (.iconst 1, 1) := by decide +kernel
theorem dX8_lay_83 : decode cX8_lay 83 = .ok (.if_icmp .ne 12, 3) := by decide +kernel
theorem dX8_lay_86 : decode cX8_lay 86 = .ok (.aload_n 0, 1) := by decide +kernel
theorem dX8_lay_87 : decode cX8_lay 87 = .ok (.iload_n 3, 1) := by decide +kernel
theorem dX8_lay_88 : decode cX8_lay 88 = .ok (.iconst 0, 1) := by decide +kernel
theorem dX8_lay_89 : decode cX8_lay 89 = .ok (.invokevirtual 117, 3) := by decide +kernel
theorem dX8_lay_92 : decode cX8_lay 92 = .ok (.goto 18, 3) := by decide +kernel
theorem dX8_lay_95 : decode cX8_lay 95 = .ok (.iload_n 2, 1) := by decide +kernel
theorem dX8_lay_96 : decode cX8_lay 96 = .ok (.iconst 2, 1) := by decide +kernel
theorem dX8_lay_97 : decode cX8_lay 97 = .ok (.if_icmp .ne 12, 3) := by decide +kernel
theorem dX8_lay_100 : decode cX8_lay 100 = .ok (.aload_n 0, 1) := by decide +kernel
theorem dX8_lay_101 : decode cX8_lay 101 = .ok (.getfield 67, 3) := by decide +kernel
theorem dX8_lay_104 : decode cX8_lay 104 = .ok (.iload_n 3, 1) := by decide +kernel
theorem dX8_lay_105 : decode cX8_lay 105 = .ok (.iaload, 1) := by decide +kernel
theorem dX8_lay_106 : decode cX8_lay 106 = .ok (.goto 4, 3) := by decide +kernel
theorem dX8_lay_109 : decode cX8_lay 109 = .ok (.iload_n 3, 1) := by decide +kernel
theorem dX8_lay_110 : decode cX8_lay 110 = .ok (.iastore, 1) := by decide +kernel
theorem dX8_lay_111 : decode cX8_lay 111 = .ok (.aload_n 0, 1) := by decide +kernel
theorem dX8_lay_112 : decode cX8_lay 112 = .ok (.getfield 79, 3) := by decide +kernel
theorem dX8_lay_115 : decode cX8_lay 115 = .ok (.iload_n 1, 1) := by decide +kernel
theorem dX8_lay_116 : decode cX8_lay 116 = .ok (.iload_n 2, 1) := by decide +kernel
theorem dX8_lay_117 : decode cX8_lay 117 = .ok (.iconst 1, 1) := by decide +kernel
theorem dX8_lay_118 : decode cX8_lay 118 = .ok (.if_icmp .ne 11, 3) := by decide +kernel
theorem dX8_lay_121 : decode cX8_lay 121 = .ok (.aload_n 0, 1) := by decide +kernel
theorem dX8_lay_122 : decode cX8_lay 122 = .ok (.iload_n 3, 1) := by decide +kernel
theorem dX8_lay_123 : decode cX8_lay 123 = .ok (.invokevirtual 124, 3) := by decide +kernel
theorem dX8_lay_126 : decode cX8_lay 126 = .ok (.goto 4, 3) := by decide +kernel
theorem dX8_lay_129 : decode cX8_lay 129 = .ok (.iconst 0, 1) := by decide +kernel
theorem dX8_lay_130 : decode cX8_lay 130 = .ok (.iastore, 1) := by decide +kernel
theorem dX8_lay_131 : decode cX8_lay 131 = .ok (.iconst 0, 1) := by decide +kernel
theorem dX8_lay_132 : decode cX8_lay 132 = .ok (.istore 5, 2) := by decide +kernel
theorem dX8_lay_134 : decode cX8_lay 134 = .ok (.iload 5, 2) := by decide +kernel
theorem dX8_lay_136 : decode cX8_lay 136 = .ok (.bipush 24, 2) := by decide +kernel
theorem dX8_lay_138 : decode cX8_lay 138 = .ok (.if_icmp .ge 38, 3) := by decide +kernel
theorem dX8_lay_141 : decode cX8_lay 141 = .ok (.iload_n 2, 1) := by decide +kernel
theorem dX8_lay_142 : decode cX8_lay 142 = .ok (.iconst 2, 1) := by decide +kernel
theorem dX8_lay_143 : decode cX8_lay 143 = .ok (.if_icmp .ne 33, 3) := by decide +kernel
theorem dX8_lay_146 : decode cX8_lay 146 = .ok (.aload_n 0, 1) := by decide +kernel
theorem dX8_lay_147 : decode cX8_lay 147 = .ok (.getfield 82, 3) := by decide +kernel
theorem dX8_lay_150 : decode cX8_lay 150 = .ok (.bipush 24, 2) := by decide +kernel
theorem dX8_lay_152 : decode cX8_lay 152 = .ok (.iload_n 1, 1) := by decide +kernel
theorem dX8_lay_153 : decode cX8_lay 153 = .ok (.imul, 1) := by decide +kernel
theorem dX8_lay_154 : decode cX8_lay 154 = .ok (.iload 5, 2) := by decide +kernel
theorem dX8_lay_156 : decode cX8_lay 156 = .ok (.iadd, 1) := by decide +kernel
theorem dX8_lay_157 : decode cX8_lay 157 = .ok (.aload_n 0, 1) := by decide +kernel
theorem dX8_lay_158 : decode cX8_lay 158 = .ok (.getfield 70, 3) := by decide +kernel
theorem dX8_lay_161 : decode cX8_lay 161 = .ok (.bipush 24, 2) := by decide +kernel
theorem dX8_lay_163 : decode cX8_lay 163 = .ok (.iload_n 3, 1) := by decide +kernel
theorem dX8_lay_164 : decode cX8_lay 164 = .ok (.imul, 1) := by decide +kernel
theorem dX8_lay_165 : decode cX8_lay 165 = .ok (.iload 5, 2) := by decide +kernel
theorem dX8_lay_167 : decode cX8_lay 167 = .ok (.iadd, 1) := by decide +kernel
theorem dX8_lay_168 : decode cX8_lay 168 = .ok (.iaload, 1) := by decide +kernel
theorem dX8_lay_169 : decode cX8_lay 169 = .ok (.iastore, 1) := by decide +kernel
theorem dX8_lay_170 : decode cX8_lay 170 = .ok (.iinc 5 1, 3) := by decide +kernel
theorem dX8_lay_173 : decode cX8_lay 173 = .ok (.goto (-39), 3) := by decide +kernel
theorem dX8_lay_176 : decode cX8_lay 176 = .ok (.iload 4, 2) := by decide +kernel
theorem dX8_lay_178 : decode cX8_lay 178 = .ok (.ireturn, 1) := by decide +kernel
theorem dX8_ask_0 : decode cX8_ask 0 = .ok (.iload_n 1, 1) := by decide +kernel
theorem dX8_ask_1 : decode cX8_ask 1 = .ok (.invokestatic 286, 3) := by decide +kernel
theorem dX8_ask_4 : decode cX8_ask 4 = .ok (.ifCond .eq 12, 3) := by decide +kernel
theorem dX8_ask_7 : decode cX8_ask 7 = .ok (.iload_n 2, 1) := by decide +kernel
theorem dX8_ask_8 : decode cX8_ask 8 = .ok (.iconst 0, 1) := by decide +kernel
theorem dX8_ask_9 : decode cX8_ask 9 = .ok (.iconst 5, 1) := by decide +kernel
theorem dX8_ask_10 : decode cX8_ask 10 = .ok (.invokestatic 92, 3) := by decide +kernel
theorem dX8_ask_13 : decode cX8_ask 13 = .ok (.ifCond .ne 6, 3) := by decide +kernel
theorem dX8_ask_16 : decode cX8_ask 16 = .ok (.ldc 111, 2) := by decide +kernel
theorem dX8_ask_18 : decode cX8_ask 18 = .ok (.ireturn, 1) := by decide +kernel
theorem dX8_ask_19 : decode cX8_ask 19 = .ok (.aload_n 0, 1) := by decide +kernel
theorem dX8_ask_20 : decode cX8_ask 20 = .ok (.getfield 73, 3) := by decide +kernel
theorem dX8_ask_23 : decode cX8_ask 23 = .ok (.iload_n 1, 1) := by decide +kernel
theorem dX8_ask_24 : decode cX8_ask 24 = .ok (.iaload, 1) := by decide +kernel
theorem dX8_ask_25 : decode cX8_ask 25 = .ok (.ifCond .ne 6, 3) := by decide +kernel
theorem dX8_ask_28 : decode cX8_ask 28 = .ok (.ldc 213, 2) := by decide +kernel
theorem dX8_ask_30 : decode cX8_ask 30 = .ok (.ireturn, 1) := by decide +kernel
theorem dX8_ask_31 : decode cX8_ask 31 = .ok (.aload_n 0, 1) := by decide +kernel
theorem dX8_ask_32 : decode cX8_ask 32 = .ok (.getfield 73, 3) := by decide +kernel
theorem dX8_ask_35 : decode cX8_ask 35 = .ok (.iload_n 1, 1) := by decide +kernel
theorem dX8_ask_36 : decode cX8_ask 36 = .ok (.iaload, 1) := by decide +kernel
theorem dX8_ask_37 : decode cX8_ask 37 = .ok (.iconst 1, 1) := by decide +kernel
theorem dX8_ask_38 : decode cX8_ask 38 = .ok (.if_icmp .ne 25, 3) := by decide +kernel
theorem dX8_ask_41 : decode cX8_ask 41 = .ok (.aload_n 0, 1) := by decide +kernel
theorem dX8_ask_42 : decode cX8_ask 42 = .ok (.getfield 76, 3) := by decide +kernel
theorem dX8_ask_45 : decode cX8_ask 45 = .ok (.iload_n 1, 1) := by decide +kernel
theorem dX8_ask_46 : decode cX8_ask 46 = .ok (.iaload, 1) := by decide +kernel
theorem dX8_ask_47 : decode cX8_ask 47 = .ok (.iload_n 2, 1) := by decide +kernel
theorem dX8_ask_48 : decode cX8_ask 48 = .ok (.invokestatic 128, 3) := by decide +kernel
theorem dX8_ask_51 : decode cX8_ask 51 = .ok (.ifCond .eq 12, 3) := by decide +kernel
theorem dX8_ask_54 : decode cX8_ask 54 = .ok (.aload_n 0, 1) := by decide +kernel
theorem dX8_ask_55 : decode cX8_ask 55 = .ok (.getfield 79, 3) := by decide +kernel
theorem dX8_ask_58 : decode cX8_ask 58 = .ok (.iload_n 1, 1) := by decide +kernel
theorem dX8_ask_59 : decode cX8_ask 59 = .ok (.iaload, 1) := by decide +kernel
theorem dX8_ask_60 : decode cX8_ask 60 = .ok (.goto 5, 3) := by decide +kernel
theorem dX8_ask_63 : decode cX8_ask 63 = .ok (.ldc 132, 2) := by decide +kernel
theorem dX8_ask_65 : decode cX8_ask 65 = .ok (.ireturn, 1) := by decide +kernel
theorem dX8_item_0 : decode cX8_item 0 = .ok (.iload_n 1, 1) := by decide +kernel
theorem dX8_item_1 : decode cX8_item 1 = .ok (.invokestatic 286, 3) := by decide +kernel
theorem dX8_item_4 : decode cX8_item 4 = .ok (.ifCond .ne 6, 3) := by decide +kernel
theorem dX8_item_7 : decode cX8_item 7 = .ok (.ldc 111, 2) := by decide +kernel
theorem dX8_item_9 : decode cX8_item 9 = .ok (.ireturn, 1) := by decide +kernel
theorem dX8_item_10 : decode cX8_item 10 = .ok (.aload_n 0, 1) := by decide +kernel
theorem dX8_item_11 : decode cX8_item 11 = .ok (.getfield 73, 3) := by decide +kernel
theorem dX8_item_14 : decode cX8_item 14 = .ok (.iload_n 1, 1) := by decide +kernel
theorem dX8_item_15 : decode cX8_item 15 = .ok (.iaload, 1) := by decide +kernel
theorem dX8_item_16 : decode cX8_item 16 = .ok (.ifCond .ne 6, 3) := by decide +kernel
theorem dX8_item_19 : decode cX8_item 19 = .ok (.ldc 213, 2) := by decide +kernel
theorem dX8_item_21 : decode cX8_item 21 = .ok (.ireturn, 1) := by decide +kernel
theorem dX8_item_22 : decode cX8_item 22 = .ok (.aload_n 0, 1) := by decide +kernel
theorem dX8_item_23 : decode cX8_item 23 = .ok (.getfield 73, 3) := by decide +kernel
theorem dX8_item_26 : decode cX8_item 26 = .ok (.iload_n 1, 1) := by decide +kernel
theorem dX8_item_27 : decode cX8_item 27 = .ok (.iaload, 1) := by decide +kernel
theorem dX8_item_28 : decode cX8_item 28 = .ok (.iconst 2, 1) := by decide +kernel
theorem dX8_item_29 : decode cX8_item 29 = .ok (.if_icmp .eq 6, 3) := by decide +kernel
theorem dX8_item_32 : decode cX8_item 32 = .ok (.ldc 132, 2) := by decide +kernel
theorem dX8_item_34 : decode cX8_item 34 = .ok (.ireturn, 1) := by decide +kernel
theorem dX8_item_35 : decode cX8_item 35 = .ok (.iload_n 2, 1) := by decide +kernel
theorem dX8_item_36 : decode cX8_item 36 = .ok (.iconst 0, 1) := by decide +kernel
theorem dX8_item_37 : decode cX8_item 37 = .ok (.aload_n 0, 1) := by decide +kernel
theorem dX8_item_38 : decode cX8_item 38 = .ok (.getfield 76, 3) := by decide +kernel
theorem dX8_item_41 : decode cX8_item 41 = .ok (.iload_n 1, 1) := by decide +kernel
theorem dX8_item_42 : decode cX8_item 42 = .ok (.iaload, 1) := by decide +kernel
theorem dX8_item_43 : decode cX8_item 43 = .ok (.iconst 1, 1) := by decide +kernel
theorem dX8_item_44 : decode cX8_item 44 = .ok (.isub, 1) := by decide +kernel
theorem dX8_item_45 : decode cX8_item 45 = .ok (.invokestatic 92, 3) := by decide +kernel
theorem dX8_item_48 : decode cX8_item 48 = .ok (.ifCond .ne 7, 3) := by decide +kernel
theorem dX8_item_51 : decode cX8_item 51 = .ok (.ldc_w 283, 3) := by decide +kernel
theorem dX8_item_54 : decode cX8_item 54 = .ok (.ireturn, 1) := by decide +kernel
theorem dX8_item_55 : decode cX8_item 55 = .ok (.aload_n 0, 1) := by decide +kernel
theorem dX8_item_56 : decode cX8_item 56 = .ok (.getfield 82, 3) := by decide +kernel
theorem dX8_item_59 : decode cX8_item 59 = .ok (.bipush 24, 2) := by decide +kernel
theorem dX8_item_61 : decode cX8_item 61 = .ok (.iload_n 1, 1) := by decide +kernel
theorem dX8_item_62 : decode cX8_item 62 = .ok (.imul, 1) := by decide +kernel
theorem dX8_item_63 : decode cX8_item 63 = .ok (.iload_n 2, 1) := by decide +kernel
theorem dX8_item_64 : decode cX8_item 64 = .ok (.iadd, 1) := by decide +kernel
theorem dX8_item_65 : decode cX8_item 65 = .ok (.iaload, 1) := by decide +kernel
theorem dX8_item_66 : decode cX8_item 66 = .ok (.istore_n 3, 1) := by decide +kernel
theorem dX8_item_67 : decode cX8_item 67 = .ok (.iload_n 3, 1) := by decide +kernel
theorem dX8_item_68 : decode cX8_item 68 = .ok (.ldc 91, 2) := by decide +kernel
theorem dX8_item_70 : decode cX8_item 70 = .ok (.if_icmp .ne 8, 3) := by decide +kernel
theorem dX8_item_73 : decode cX8_item 73 = .ok (.ldc 132, 2) := by decide +kernel
theorem dX8_item_75 : decode cX8_item 75 = .ok (.goto 4, 3) := by decide +kernel
theorem dX8_item_78 : decode cX8_item 78 = .ok (.iload_n 3, 1) := by decide +kernel
theorem dX8_item_79 : decode cX8_item 79 = .ok (.ireturn, 1) := by decide +kernel
theorem dX8_rest_0 : decode cX8_rest 0 = .ok (.iload_n 1, 1) := by decide +kernel
theorem dX8_rest_1 : decode cX8_rest 1 = .ok (.invokestatic 286, 3) := by decide +kernel
theorem dX8_rest_4 : decode cX8_rest 4 = .ok (.ifCond .ne 6, 3) := by decide +kernel
theorem dX8_rest_7 : decode cX8_rest 7 = .ok (.ldc 111, 2) := by decide +kernel
theorem dX8_rest_9 : decode cX8_rest 9 = .ok (.ireturn, 1) := by decide +kernel
theorem dX8_rest_10 : decode cX8_rest 10 = .ok (.aload_n 0, 1) := by decide +kernel
theorem dX8_rest_11 : decode cX8_rest 11 = .ok (.getfield 73, 3) := by decide +kernel
theorem dX8_rest_14 : decode cX8_rest 14 = .ok (.iload_n 1, 1) := by decide +kernel
theorem dX8_rest_15 : decode cX8_rest 15 = .ok (.iaload, 1) := by decide +kernel
theorem dX8_rest_16 : decode cX8_rest 16 = .ok (.ifCond .ne 6, 3) := by decide +kernel
theorem dX8_rest_19 : decode cX8_rest 19 = .ok (.ldc 213, 2) := by decide +kernel
theorem dX8_rest_21 : decode cX8_rest 21 = .ok (.ireturn, 1) := by decide +kernel
theorem dX8_rest_22 : decode cX8_rest 22 = .ok (.aload_n 0, 1) := by decide +kernel
theorem dX8_rest_23 : decode cX8_rest 23 = .ok (.getfield 73, 3) := by decide +kernel
theorem dX8_rest_26 : decode cX8_rest 26 = .ok (.iload_n 1, 1) := by decide +kernel
theorem dX8_rest_27 : decode cX8_rest 27 = .ok (.iaload, 1) := by decide +kernel
theorem dX8_rest_28 : decode cX8_rest 28 = .ok (.iconst 3, 1) := by decide +kernel
theorem dX8_rest_29 : decode cX8_rest 29 = .ok (.if_icmp .eq 6, 3) := by decide +kernel
theorem dX8_rest_32 : decode cX8_rest 32 = .ok (.ldc 132, 2) := by decide +kernel
theorem dX8_rest_34 : decode cX8_rest 34 = .ok (.ireturn, 1) := by decide +kernel
theorem dX8_rest_35 : decode cX8_rest 35 = .ok (.iload_n 2, 1) := by decide +kernel
theorem dX8_rest_36 : decode cX8_rest 36 = .ok (.ifCond .ne 8, 3) := by decide +kernel
theorem dX8_rest_39 : decode cX8_rest 39 = .ok (.ldc 169, 2) := by decide +kernel
theorem dX8_rest_41 : decode cX8_rest 41 = .ok (.goto 20, 3) := by decide +kernel
theorem dX8_rest_44 : decode cX8_rest 44 = .ok (.iload_n 2, 1) := by decide +kernel
theorem dX8_rest_45 : decode cX8_rest 45 = .ok (.iconst (-1), 1) := by decide +kernel
theorem dX8_rest_46 : decode cX8_rest 46 = .ok (.if_icmp .ne 7, 3) := by decide +kernel
theorem dX8_rest_49 : decode cX8_rest 49 = .ok (.iconst 0, 1) := by decide +kernel
theorem dX8_rest_50 : decode cX8_rest 50 = .ok (.goto 11, 3) := by decide +kernel
theorem dX8_rest_53 : decode cX8_rest 53 = .ok (.aload_n 0, 1) := by decide +kernel
theorem dX8_rest_54 : decode cX8_rest 54 = .ok (.getfield 76, 3) := by decide +kernel
theorem dX8_rest_57 : decode cX8_rest 57 = .ok (.iload_n 1, 1) := by decide +kernel
theorem dX8_rest_58 : decode cX8_rest 58 = .ok (.iaload, 1) := by decide +kernel
theorem dX8_rest_59 : decode cX8_rest 59 = .ok (.iload_n 2, 1) := by decide +kernel
theorem dX8_rest_60 : decode cX8_rest 60 = .ok (.irem, 1) := by decide +kernel
theorem dX8_rest_61 : decode cX8_rest 61 = .ok (.ireturn, 1) := by decide +kernel
theorem dX8_tell_0 : decode cX8_tell 0 = .ok (.aload_n 0, 1) := by decide +kernel
theorem dX8_tell_1 : decode cX8_tell 1 = .ok (.getfield 289, 3) := by decide +kernel
theorem dX8_tell_4 : decode cX8_tell 4 = .ok (.bipush 60, 2) := by decide +kernel
theorem dX8_tell_6 : decode cX8_tell 6 = .ok (.if_icmp .ne 6, 3) := by decide +kernel
theorem dX8_tell_9 : decode cX8_tell 9 = .ok (.ldc 112, 2) := by decide +kernel
theorem dX8_tell_11 : decode cX8_tell 11 = .ok (.ireturn, 1) := by decide +kernel
theorem dX8_tell_12 : decode cX8_tell 12 = .ok (.aload_n 0, 1) := by decide +kernel
theorem dX8_tell_13 : decode cX8_tell 13 = .ok (.getfield 88, 3) := by decide +kernel
theorem dX8_tell_16 : decode cX8_tell 16 = .ok (.aload_n 0, 1) := by decide +kernel
theorem dX8_tell_17 : decode cX8_tell 17 = .ok (.getfield 289, 3) := by decide +kernel
theorem dX8_tell_20 : decode cX8_tell 20 = .ok (.iload_n 1, 1) := by decide +kernel
theorem dX8_tell_21 : decode cX8_tell 21 = .ok (.iastore, 1) := by decide +kernel
theorem dX8_tell_22 : decode cX8_tell 22 = .ok (.aload_n 0, 1) := by decide +kernel
theorem dX8_tell_23 : decode cX8_tell 23 = .ok (.dup, 1) := by decide +kernel
theorem dX8_tell_24 : decode cX8_tell 24 = .ok (.getfield 289, 3) := by decide +kernel
theorem dX8_tell_27 : decode cX8_tell 27 = .ok (.iconst 1, 1) := by decide +kernel
theorem dX8_tell_28 : decode cX8_tell 28 = .ok (.iadd, 1) := by decide +kernel
theorem dX8_tell_29 : decode cX8_tell 29 = .ok (.putfield 289, 3) := by decide +kernel
theorem dX8_tell_32 : decode cX8_tell 32 = .ok (.aload_n 0, 1) := by decide +kernel
theorem dX8_tell_33 : decode cX8_tell 33 = .ok (.getfield 289, 3) := by decide +kernel
theorem dX8_tell_36 : decode cX8_tell 36 = .ok (.ireturn, 1) := by decide +kernel
theorem dX8_check_0 : decode cX8_check 0 = .ok (.aload_n 0, 1) := by decide +kernel
theorem dX8_check_1 : decode cX8_check 1 = .ok (.getfield 289, 3) := by decide +kernel
theorem dX8_check_4 : decode cX8_check 4 = .ok (.istore_n 2, 1) := by decide +kernel
theorem dX8_check_5 : decode cX8_check 5 = .ok (.aload_n 0, 1) := by decide +kernel
theorem dX8_check_6 : decode cX8_check 6 = .ok (.iconst 0, 1) := by decide +kernel
theorem dX8_check_7 : decode cX8_check 7 = .ok (.putfield 289, 3) := by decide +kernel
theorem dX8_check_10 : decode cX8_check 10 = .ok (.iload_n 1, 1) := by decide +kernel
theorem dX8_check_11 : decode cX8_check 11 = .ok (.iconst 1, 1) := by decide +kernel
theorem dX8_check_12 : decode cX8_check 12 = .ok (.bipush 30, 2) := by decide +kernel
theorem dX8_check_14 : decode cX8_check 14 = .ok (.invokestatic 92, 3) := by decide +kernel
theorem dX8_check_17 : decode cX8_check 17 = .ok (.ifCond .ne 6, 3) := by decide +kernel
theorem dX8_check_20 : decode cX8_check 20 = .ok (.ldc 111, 2) := by decide +kernel
theorem dX8_check_22 : decode cX8_check 22 = .ok (.ireturn, 1) := by decide +kernel
theorem dX8_check_23 : decode cX8_check 23 = .ok (.aload_n 0, 1) := by decide +kernel
theorem dX8_check_24 : decode cX8_check 24 = .ok (.getfield 292, 3) := by decide +kernel
theorem dX8_check_27 : decode cX8_check 27 = .ok (.ifCond .ne 6, 3) := by decide +kernel
theorem dX8_check_30 : decode cX8_check 30 = .ok (.ldc 169, 2) := by decide +kernel
theorem dX8_check_32 : decode cX8_check 32 = .ok (.ireturn, 1) := by decide +kernel
theorem dX8_check_33 : decode cX8_check 33 = .ok (.aload_n 0, 1) := by decide +kernel
theorem dX8_check_34 : decode cX8_check 34 = .ok (.getfield 9, 3) := by decide +kernel
theorem dX8_check_37 : decode cX8_check 37 = .ok (.aload_n 0, 1) := by decide +kernel
theorem dX8_check_38 : decode cX8_check 38 = .ok (.getfield 16, 3) := by decide +kernel
theorem dX8_check_41 : decode cX8_check 41 = .ok (.invokestatic 296, 3) := by decide +kernel
theorem dX8_check_44 : decode cX8_check 44 = .ok (.aload_n 0, 1) := by decide +kernel
theorem dX8_check_45 : decode cX8_check 45 = .ok (.getfield 13, 3) := by decide +kernel
theorem dX8_check_48 : decode cX8_check 48 = .ok (.aload_n 0, 1) := by decide +kernel
theorem dX8_check_49 : decode cX8_check 49 = .ok (.getfield 9, 3) := by decide +kernel
theorem dX8_check_52 : decode cX8_check 52 = .ok (.invokestatic 296, 3) := by decide +kernel
theorem dX8_check_55 : decode cX8_check 55 = .ok (.iconst 2, 1) := by decide +kernel
theorem dX8_check_56 : decode cX8_check 56 = .ok (.sipush 9999, 3) := by decide +kernel
theorem dX8_check_59 : decode cX8_check 59 = .ok (.aload_n 0, 1) := by decide +kernel
theorem dX8_check_60 : decode cX8_check 60 = .ok (.getfield 9, 3) := by decide +kernel
theorem dX8_check_63 : decode cX8_check 63 = .ok (.iconst 2, 1) := by decide +kernel
theorem dX8_check_64 : decode cX8_check 64 = .ok (.iaload, 1) := by decide +kernel
theorem dX8_check_65 : decode cX8_check 65 = .ok (.isub, 1) := by decide +kernel
theorem dX8_check_66 : decode cX8_check 66 = .ok (.iconst 0, 1) := by decide +kernel
theorem dX8_check_67 : decode cX8_check 67 = .ok (.iload_n 1, 1) := by decide +kernel
theorem dX8_check_68 : decode cX8_check 68 = .ok (.invokestatic 142, 3) := by decide +kernel
theorem dX8_check_71 : decode cX8_check 71 = .ok (.imul, 1) := by decide +kernel
theorem dX8_check_72 : decode cX8_check 72 = .ok (.istore_n 3, 1) := by decide +kernel
theorem dX8_check_73 : decode cX8_check 73 = .ok (.iconst 0, 1) := by decide +kernel
theorem dX8_check_74 : decode cX8_check 74 = .ok (.istore 4, 2) := by decide +kernel
theorem dX8_check_76 : decode cX8_check 76 = .ok (.iconst 0, 1) := by decide +kernel
theorem dX8_check_77 : decode cX8_check 77 = .ok (.istore 5, 2) := by decide +kernel
theorem dX8_check_79 : decode cX8_check 79 = .ok (.iconst 2, 1) := by decide +kernel
theorem dX8_check_80 : decode cX8_check 80 = .ok (.iload 5, 2) := by decide +kernel
theorem dX8_check_82 : decode cX8_check 82 = .ok (.imul, 1) := by decide +kernel
theorem dX8_check_83 : decode cX8_check 83 = .ok (.iload_n 3, 1) := by decide +kernel
theorem dX8_check_84 : decode cX8_check 84 = .ok (.if_icmp .ge 93, 3) := by decide +kernel
theorem dX8_check_87 : decode cX8_check 87 = .ok (.iload 4, 2) := by decide +kernel
theorem dX8_check_89 : decode cX8_check 89 = .ok (.iconst 2, 1) := by decide +kernel
theorem dX8_check_90 : decode cX8_check 90 = .ok (.iload 5, 2) := by decide +kernel
theorem dX8_check_92 : decode cX8_check 92 = .ok (.imul, 1) := by decide +kernel
theorem dX8_check_93 : decode cX8_check 93 = .ok (.if_icmp .ne 84, 3) := by decide +kernel
theorem dX8_check_96 : decode cX8_check 96 = .ok (.aload_n 0, 1) := by decide +kernel
theorem dX8_check_97 : decode cX8_check 97 = .ok (.invokevirtual 188, 3) := by decide +kernel
theorem dX8_check_100 : decode cX8_check 100 = .ok (.iload 4, 2) := by decide +kernel
theorem dX8_check_102 : decode cX8_check 102 = .ok (.iload 4, 2) := by decide +kernel
theorem dX8_check_104 : decode cX8_check 104 = .ok (.iload_n 2, 1) := by decide +kernel
theorem dX8_check_105 : decode cX8_check 105 = .ok (.if_icmp .ge 21, 3) := by decide +kernel
theorem dX8_check_108 : decode cX8_check 108 = .ok (.aload_n 0, 1) := by decide +kernel
theorem dX8_check_109 : decode cX8_check 109 = .ok (.getfield 88, 3) := by decide +kernel
theorem dX8_check_112 : decode cX8_check 112 = .ok (.iload 4, 2) := by decide +kernel
theorem dX8_check_114 : decode cX8_check 114 = .ok (.iaload, 1) := by decide +kernel
theorem dX8_check_115 : decode cX8_check 115 = .ok (.aload_n 0, 1) := by decide +kernel
theorem dX8_check_116 : decode cX8_check 116 = .ok (.invokevirtual 201, 3) := by decide +kernel
theorem dX8_check_119 : decode cX8_check 119 = .ok (.if_icmp .ne 7, 3) := by decide +kernel
theorem dX8_check_122 : decode cX8_check 122 = .ok (.iconst 1, 1) := by decide +kernel
theorem dX8_check_123 : decode cX8_check 123 = .ok (.goto 4, 3) := by decide +kernel
theorem dX8_check_126 : decode cX8_check 126 = .ok (.iconst 0, 1) := by decide +kernel
theorem dX8_check_127 : decode cX8_check 127 = .ok (.iadd, 1) := by decide +kernel
theorem dX8_check_128 : decode cX8_check 128 = .ok (.istore 4, 2) := by decide +kernel
theorem dX8_check_130 : decode cX8_check 130 = .ok (.iload 4, 2) := by decide +kernel
theorem dX8_check_132 : decode cX8_check 132 = .ok (.iload 4, 2) := by decide +kernel
theorem dX8_check_134 : decode cX8_check 134 = .ok (.iconst 2, 1) := by decide +kernel
theorem dX8_check_135 : decode cX8_check 135 = .ok (.iload 5, 2) := by decide +kernel
theorem dX8_check_137 : decode cX8_check 137 = .ok (.imul, 1) := by decide +kernel
theorem dX8_check_138 : decode cX8_check 138 = .ok (.iconst 1, 1) := by decide +kernel
theorem dX8_check_139 : decode cX8_check 139 = .ok (.iadd, 1) := by decide +kernel
theorem dX8_check_140 : decode cX8_check 140 = .ok (.if_icmp .ne 27, 3) := by decide +kernel
theorem dX8_check_143 : decode cX8_check 143 = .ok (.iload 4, 2) := by decide +kernel
theorem dX8_check_145 : decode cX8_check 145 = .ok (.iload_n 2, 1) := by decide +kernel
theorem dX8_check_146 : decode cX8_check 146 = .ok (.if_icmp .ge 21, 3) := by decide +kernel
theorem dX8_check_149 : decode cX8_check 149 = .ok (.aload_n 0, 1) := by decide +kernel
theorem dX8_check_150 : decode cX8_check 150 = .ok (.getfield 88, 3) := by decide +kernel
theorem dX8_check_153 : decode cX8_check 153 = .ok (.iload 4, 2) := by decide +kernel
theorem dX8_check_155 : decode cX8_check 155 = .ok (.iaload, 1) := by decide +kernel
theorem dX8_check_156 : decode cX8_check 156 = .ok (.aload_n 0, 1) := by decide +kernel
theorem dX8_check_157 : decode cX8_check 157 = .ok (.invokevirtual 195, 3) := by decide +kernel
theorem dX8_check_160 : decode cX8_check 160 = .ok (.if_icmp .ne 7, 3) := by decide +kernel
theorem dX8_check_163 : decode cX8_check 163 = .ok (.iconst 1, 1) := by decide +kernel
theorem dX8_check_164 : decode cX8_check 164 = .ok (.goto 4, 3) := by decide +kernel
theorem dX8_check_167 : decode cX8_check 167 = .ok (.iconst 0, 1) := by decide +kernel
theorem dX8_check_168 : decode cX8_check 168 = .ok (.iadd, 1) := by decide +kernel
theorem dX8_check_169 : decode cX8_check 169 = .ok (.istore 4, 2) := by decide +kernel
theorem dX8_check_171 : decode cX8_check 171 = .ok (.iinc 5 1, 3) := by decide +kernel
theorem dX8_check_174 : decode cX8_check 174 = .ok (.goto (-95), 3) := by decide +kernel
theorem dX8_check_177 : decode cX8_check 177 = .ok (.aload_n 0, 1) := by decide +kernel
theorem dX8_check_178 : decode cX8_check 178 = .ok (.getfield 16, 3) := by decide +kernel
theorem dX8_check_181 : decode cX8_check 181 = .ok (.aload_n 0, 1) := by decide +kernel
theorem dX8_check_182 : decode cX8_check 182 = .ok (.getfield 9, 3) := by decide +kernel
theorem dX8_check_185 : decode cX8_check 185 = .ok (.invokestatic 296, 3) := by decide +kernel
theorem dX8_check_188 : decode cX8_check 188 = .ok (.iload 4, 2) := by decide +kernel
theorem dX8_check_190 : decode cX8_check 190 = .ok (.iload_n 2, 1) := by decide +kernel
theorem dX8_check_191 : decode cX8_check 191 = .ok (.if_icmp .ne 13, 3) := by decide +kernel
theorem dX8_check_194 : decode cX8_check 194 = .ok (.iload 4, 2) := by decide +kernel
theorem dX8_check_196 : decode cX8_check 196 = .ok (.iload_n 3, 1) := by decide +kernel
theorem dX8_check_197 : decode cX8_check 197 = .ok (.if_icmp .ne 7, 3) := by decide +kernel
theorem dX8_check_200 : decode cX8_check 200 = .ok (.iconst 0, 1) := by decide +kernel
theorem dX8_check_201 : decode cX8_check 201 = .ok (.goto 7, 3) := by decide +kernel
theorem dX8_check_204 : decode cX8_check 204 = .ok (.iconst 1, 1) := by decide +kernel
theorem dX8_check_205 : decode cX8_check 205 = .ok (.iload 4, 2) := by decide +kernel
theorem dX8_check_207 : decode cX8_check 207 = .ok (.iadd, 1) := by decide +kernel
theorem dX8_check_208 : decode cX8_check 208 = .ok (.ireturn, 1) := by decide +kernel
theorem dX8_keep_0 : decode cX8_keep 0 = .ok (.aload_n 0, 1) := by decide +kernel
theorem dX8_keep_1 : decode cX8_keep 1 = .ok (.getfield 9, 3) := by decide +kernel
theorem dX8_keep_4 : decode cX8_keep 4 = .ok (.aload_n 0, 1) := by decide +kernel
theorem dX8_keep_5 : decode cX8_keep 5 = .ok (.getfield 13, 3) := by decide +kernel
theorem dX8_keep_8 : decode cX8_keep 8 = .ok (.invokestatic 296, 3) := by decide +kernel
theorem dX8_keep_11 : decode cX8_keep 11 = .ok (.aload_n 0, 1) := by decide +kernel
theorem dX8_keep_12 : decode cX8_keep 12 = .ok (.iconst 1, 1) := by decide +kernel
theorem dX8_keep_13 : decode cX8_keep 13 = .ok (.putfield 292, 3) := by decide +kernel
theorem dX8_keep_16 : decode cX8_keep 16 = .ok (.aload_n 0, 1) := by decide +kernel
theorem dX8_keep_17 : decode cX8_keep 17 = .ok (.getfield 9, 3) := by decide +kernel
theorem dX8_keep_20 : decode cX8_keep 20 = .ok (.iconst 1, 1) := by decide +kernel
theorem dX8_keep_21 : decode cX8_keep 21 = .ok (.iaload, 1) := by decide +kernel
theorem dX8_keep_22 : decode cX8_keep 22 = .ok (.ireturn, 1) := by decide +kernel
theorem dX8_back_0 : decode cX8_back 0 = .ok (.aload_n 0, 1) := by decide +kernel
theorem dX8_back_1 : decode cX8_back 1 = .ok (.getfield 292, 3) := by decide +kernel
theorem dX8_back_4 : decode cX8_back 4 = .ok (.ifCond .ne 6, 3) := by decide +kernel
theorem dX8_back_7 : decode cX8_back 7 = .ok (.ldc 169, 2) := by decide +kernel
theorem dX8_back_9 : decode cX8_back 9 = .ok (.ireturn, 1) := by decide +kernel
theorem dX8_back_10 : decode cX8_back 10 = .ok (.aload_n 0, 1) := by decide +kernel
theorem dX8_back_11 : decode cX8_back 11 = .ok (.getfield 13, 3) := by decide +kernel
theorem dX8_back_14 : decode cX8_back 14 = .ok (.aload_n 0, 1) := by decide +kernel
theorem dX8_back_15 : decode cX8_back 15 = .ok (.getfield 9, 3) := by decide +kernel
theorem dX8_back_18 : decode cX8_back 18 = .ok (.invokestatic 296, 3) := by decide +kernel
theorem dX8_back_21 : decode cX8_back 21 = .ok (.aload_n 0, 1) := by decide +kernel
theorem dX8_back_22 : decode cX8_back 22 = .ok (.getfield 9, 3) := by decide +kernel
theorem dX8_back_25 : decode cX8_back 25 = .ok (.iconst 1, 1) := by decide +kernel
theorem dX8_back_26 : decode cX8_back 26 = .ok (.iaload, 1) := by decide +kernel
theorem dX8_back_27 : decode cX8_back 27 = .ok (.ireturn, 1) := by decide +kernel
theorem dX8_count_0 : decode cX8_count 0 = .ok (.iload_n 1, 1) := by decide +kernel
theorem dX8_count_1 : decode cX8_count 1 = .ok (.tableswitch 153 0 12 #[67, 74, 79, 87, 94, 99, 106, 114, 121, 128, 136, 141, 146], 67) := by decide +kernel
theorem dX8_count_68 : decode cX8_count 68 = .ok (.aload_n 0, 1) := by decide +kernel
theorem dX8_count_69 : decode cX8_count 69 = .ok (.getfield 9, 3) := by decide +kernel
theorem dX8_count_72 : decode cX8_count 72 = .ok (.iconst 1, 1) := by decide +kernel
theorem dX8_count_73 : decode cX8_count 73 = .ok (.iaload, 1) := by decide +kernel
theorem dX8_count_74 : decode cX8_count 74 = .ok (.ireturn, 1) := by decide +kernel
theorem dX8_count_75 : decode cX8_count 75 = .ok (.aload_n 0, 1) := by decide +kernel
theorem dX8_count_76 : decode cX8_count 76 = .ok (.invokevirtual 195, 3) := by decide +kernel
theorem dX8_count_79 : decode cX8_count 79 = .ok (.ireturn, 1) := by decide +kernel
theorem dX8_count_80 : decode cX8_count 80 = .ok (.aload_n 0, 1) := by decide +kernel
theorem dX8_count_81 : decode cX8_count 81 = .ok (.getfield 9, 3) := by decide +kernel
theorem dX8_count_84 : decode cX8_count 84 = .ok (.bipush 7, 2) := by decide +kernel
theorem dX8_count_86 : decode cX8_count 86 = .ok (.iaload, 1) := by decide +kernel
theorem dX8_count_87 : decode cX8_count 87 = .ok (.ireturn, 1) := by decide +kernel
theorem dX8_count_88 : decode cX8_count 88 = .ok (.aload_n 0, 1) := by decide +kernel
theorem dX8_count_89 : decode cX8_count 89 = .ok (.getfield 9, 3) := by decide +kernel
theorem dX8_count_92 : decode cX8_count 92 = .ok (.iconst 2, 1) := by decide +kernel
theorem dX8_count_93 : decode cX8_count 93 = .ok (.iaload, 1) := by decide +kernel
theorem dX8_count_94 : decode cX8_count 94 = .ok (.ireturn, 1) := by decide +kernel
theorem dX8_count_95 : decode cX8_count 95 = .ok (.aload_n 0, 1) := by decide +kernel
theorem dX8_count_96 : decode cX8_count 96 = .ok (.invokevirtual 201, 3) := by decide +kernel
theorem dX8_count_99 : decode cX8_count 99 = .ok (.ireturn, 1) := by decide +kernel
theorem dX8_count_100 : decode cX8_count 100 = .ok (.aload_n 0, 1) := by decide +kernel
theorem dX8_count_101 : decode cX8_count 101 = .ok (.getfield 9, 3) := by decide +kernel
theorem dX8_count_104 : decode cX8_count 104 = .ok (.iconst 5, 1) := by decide +kernel
theorem dX8_count_105 : decode cX8_count 105 = .ok (.iaload, 1) := by decide +kernel
theorem dX8_count_106 : decode cX8_count 106 = .ok (.ireturn, 1) := by decide +kernel
theorem dX8_count_107 : decode cX8_count 107 = .ok (.aload_n 0, 1) := by decide +kernel
theorem dX8_count_108 : decode cX8_count 108 = .ok (.getfield 9, 3) := by decide +kernel
theorem dX8_count_111 : decode cX8_count 111 = .ok (.bipush 6, 2) := by decide +kernel
theorem dX8_count_113 : decode cX8_count 113 = .ok (.iaload, 1) := by decide +kernel
theorem dX8_count_114 : decode cX8_count 114 = .ok (.ireturn, 1) := by decide +kernel
theorem dX8_count_115 : decode cX8_count 115 = .ok (.aload_n 0, 1) := by decide +kernel
theorem dX8_count_116 : decode cX8_count 116 = .ok (.getfield 9, 3) := by decide +kernel
theorem dX8_count_119 : decode cX8_count 119 = .ok (.iconst 3, 1) := by decide +kernel
theorem dX8_count_120 : decode cX8_count 120 = .ok (.iaload, 1) := by decide +kernel
theorem dX8_count_121 : decode cX8_count 121 = .ok (.ireturn, 1) := by decide +kernel
theorem dX8_count_122 : decode cX8_count 122 = .ok (.aload_n 0, 1) := by decide +kernel
theorem dX8_count_123 : decode cX8_count 123 = .ok (.getfield 9, 3) := by decide +kernel
theorem dX8_count_126 : decode cX8_count 126 = .ok (.iconst 4, 1) := by decide +kernel
theorem dX8_count_127 : decode cX8_count 127 = .ok (.iaload, 1) := by decide +kernel
theorem dX8_count_128 : decode cX8_count 128 = .ok (.ireturn, 1) := by decide +kernel
theorem dX8_count_129 : decode cX8_count 129 = .ok (.aload_n 0, 1) := by decide +kernel
theorem dX8_count_130 : decode cX8_count 130 = .ok (.getfield 9, 3) := by decide +kernel
theorem dX8_count_133 : decode cX8_count 133 = .ok (.bipush 8, 2) := by decide +kernel
theorem dX8_count_135 : decode cX8_count 135 = .ok (.iaload, 1) := by decide +kernel
theorem dX8_count_136 : decode cX8_count 136 = .ok (.ireturn, 1) := by decide +kernel
theorem dX8_count_137 : decode cX8_count 137 = .ok (.aload_n 0, 1) := by decide +kernel
theorem dX8_count_138 : decode cX8_count 138 = .ok (.getfield 289, 3) := by decide +kernel
theorem dX8_count_141 : decode cX8_count 141 = .ok (.ireturn, 1) := by decide +kernel
theorem dX8_count_142 : decode cX8_count 142 = .ok (.aload_n 0, 1) := by decide +kernel
theorem dX8_count_143 : decode cX8_count 143 = .ok (.getfield 214, 3) := by decide +kernel
theorem dX8_count_146 : decode cX8_count 146 = .ok (.ireturn, 1) := by decide +kernel
theorem dX8_count_147 : decode cX8_count 147 = .ok (.aload_n 0, 1) := by decide +kernel
theorem dX8_count_148 : decode cX8_count 148 = .ok (.getfield 9, 3) := by decide +kernel
theorem dX8_count_151 : decode cX8_count 151 = .ok (.iconst 0, 1) := by decide +kernel
theorem dX8_count_152 : decode cX8_count 152 = .ok (.iaload, 1) := by decide +kernel
theorem dX8_count_153 : decode cX8_count 153 = .ok (.ireturn, 1) := by decide +kernel
theorem dX8_count_154 : decode cX8_count 154 = .ok (.ldc 111, 2) := by decide +kernel
theorem dX8_count_156 : decode cX8_count 156 = .ok (.ireturn, 1) := by decide +kernel
theorem dJ9_abs_0f7a4_0 : decode cJ9_abs_0f7a4 0 = .ok (.iload_n 0, 1) := by decide +kernel
theorem dJ9_abs_0f7a4_1 : decode cJ9_abs_0f7a4 1 = .ok (.ifCond .ge 8, 3) := by decide +kernel
theorem dJ9_abs_0f7a4_4 : decode cJ9_abs_0f7a4 4 = .ok (.iload_n 0, 1) := by decide +kernel
theorem dJ9_abs_0f7a4_5 : decode cJ9_abs_0f7a4 5 = .ok (.ineg, 1) := by decide +kernel
theorem dJ9_abs_0f7a4_6 : decode cJ9_abs_0f7a4 6 = .ok (.goto 4, 3) := by decide +kernel
theorem dJ9_abs_0f7a4_9 : decode cJ9_abs_0f7a4 9 = .ok (.iload_n 0, 1) := by decide +kernel
theorem dJ9_abs_0f7a4_10 : decode cJ9_abs_0f7a4 10 = .ok (.ireturn, 1) := by decide +kernel
theorem dJ9_max_7cf53_0 : decode cJ9_max_7cf53 0 = .ok (.iload_n 0, 1) := by decide +kernel
theorem dJ9_max_7cf53_1 : decode cJ9_max_7cf53 1 = .ok (.iload_n 1, 1) := by decide +kernel
theorem dJ9_max_7cf53_2 : decode cJ9_max_7cf53 2 = .ok (.if_icmp .lt 7, 3) := by decide +kernel
theorem dJ9_max_7cf53_5 : decode cJ9_max_7cf53 5 = .ok (.iload_n 0, 1) := by decide +kernel
theorem dJ9_max_7cf53_6 : decode cJ9_max_7cf53 6 = .ok (.goto 4, 3) := by decide +kernel
theorem dJ9_max_7cf53_9 : decode cJ9_max_7cf53 9 = .ok (.iload_n 1, 1) := by decide +kernel
theorem dJ9_max_7cf53_10 : decode cJ9_max_7cf53 10 = .ok (.ireturn, 1) := by decide +kernel
theorem dJ9_min_7cf53_0 : decode cJ9_min_7cf53 0 = .ok (.iload_n 0, 1) := by decide +kernel
theorem dJ9_min_7cf53_1 : decode cJ9_min_7cf53 1 = .ok (.iload_n 1, 1) := by decide +kernel
theorem dJ9_min_7cf53_2 : decode cJ9_min_7cf53 2 = .ok (.if_icmp .gt 7, 3) := by decide +kernel
theorem dJ9_min_7cf53_5 : decode cJ9_min_7cf53 5 = .ok (.iload_n 0, 1) := by decide +kernel
theorem dJ9_min_7cf53_6 : decode cJ9_min_7cf53 6 = .ok (.goto 4, 3) := by decide +kernel
theorem dJ9_min_7cf53_9 : decode cJ9_min_7cf53 9 = .ok (.iload_n 1, 1) := by decide +kernel
theorem dJ9_min_7cf53_10 : decode cJ9_min_7cf53 10 = .ok (.ireturn, 1) := by decide +kernel
theorem dJ9_min_f86c9_0 : decode cJ9_min_f86c9 0 = .ok (.lload_n 0, 1) := by decide +kernel
theorem dJ9_min_f86c9_1 : decode cJ9_min_f86c9 1 = .ok (.lload_n 2, 1) := by decide +kernel
theorem dJ9_min_f86c9_2 : decode cJ9_min_f86c9 2 = .ok (.lcmp, 1) := by decide +kernel
theorem dJ9_min_f86c9_3 : decode cJ9_min_f86c9 3 = .ok (.ifCond .gt 7, 3) := by decide +kernel
theorem dJ9_min_f86c9_6 : decode cJ9_min_f86c9 6 = .ok (.lload_n 0, 1) := by decide +kernel
theorem dJ9_min_f86c9_7 : decode cJ9_min_f86c9 7 = .ok (.goto 4, 3) := by decide +kernel
theorem dJ9_min_f86c9_10 : decode cJ9_min_f86c9 10 = .ok (.lload_n 2, 1) := by decide +kernel
theorem dJ9_min_f86c9_11 : decode cJ9_min_f86c9 11 = .ok (.lreturn, 1) := by decide +kernel
theorem dJ0_length_8abf5_0 : decode cJ0_length_8abf5 0 = .ok (.aload_n 0, 1) := by decide +kernel
theorem dJ0_length_8abf5_1 : decode cJ0_length_8abf5 1 = .ok (.getfield 9, 3) := by decide +kernel
theorem dJ0_length_8abf5_4 : decode cJ0_length_8abf5 4 = .ok (.arraylength, 1) := by decide +kernel
theorem dJ0_length_8abf5_5 : decode cJ0_length_8abf5 5 = .ok (.aload_n 0, 1) := by decide +kernel
theorem dJ0_length_8abf5_6 : decode cJ0_length_8abf5 6 = .ok (.invokevirtual 335, 3) := by decide +kernel
theorem dJ0_length_8abf5_9 : decode cJ0_length_8abf5 9 = .ok (.ishr, 1) := by decide +kernel
theorem dJ0_length_8abf5_10 : decode cJ0_length_8abf5 10 = .ok (.ireturn, 1) := by decide +kernel
theorem dJ0_charAt_5068e_0 : decode cJ0_charAt_5068e 0 = .ok (.aload_n 0, 1) := by decide +kernel
theorem dJ0_charAt_5068e_1 : decode cJ0_charAt_5068e 1 = .ok (.invokevirtual 492, 3) := by decide +kernel
theorem dJ0_charAt_5068e_4 : decode cJ0_charAt_5068e 4 = .ok (.ifCond .eq 12, 3) := by decide +kernel
theorem dJ0_charAt_5068e_7 : decode cJ0_charAt_5068e 7 = .ok (.aload_n 0, 1) := by decide +kernel
theorem dJ0_charAt_5068e_8 : decode cJ0_charAt_5068e 8 = .ok (.getfield 9, 3) := by decide +kernel
theorem dJ0_charAt_5068e_11 : decode cJ0_charAt_5068e 11 = .ok (.iload_n 1, 1) := by decide +kernel
theorem dJ0_charAt_5068e_12 : decode cJ0_charAt_5068e 12 = .ok (.invokestatic 495, 3) := by decide +kernel
theorem dJ0_charAt_5068e_15 : decode cJ0_charAt_5068e 15 = .ok (.ireturn, 1) := by decide +kernel
theorem dJ0_charAt_5068e_16 : decode cJ0_charAt_5068e 16 = .ok (.aload_n 0, 1) := by decide +kernel
theorem dJ0_charAt_5068e_17 : decode cJ0_charAt_5068e 17 = .ok (.getfield 9, 3) := by decide +kernel
theorem dJ0_charAt_5068e_20 : decode cJ0_charAt_5068e 20 = .ok (.iload_n 1, 1) := by decide +kernel
theorem dJ0_indexOf_0f7a4_0 : decode cJ0_indexOf_0f7a4 0 = .ok (.aload_n 0, 1) := by decide +kernel
theorem dJ0_indexOf_0f7a4_1 : decode cJ0_indexOf_0f7a4 1 = .ok (.iload_n 1, 1) := by decide +kernel
theorem dJ0_indexOf_0f7a4_2 : decode cJ0_indexOf_0f7a4 2 = .ok (.iconst 0, 1) := by decide +kernel
theorem dJ0_indexOf_0f7a4_3 : decode cJ0_indexOf_0f7a4 3 = .ok (.invokevirtual 633, 3) := by decide +kernel
theorem dJ0_indexOf_0f7a4_6 : decode cJ0_indexOf_0f7a4 6 = .ok (.ireturn, 1) := by decide +kernel
theorem dJ0_indexOf_7cf53_0 : decode cJ0_indexOf_7cf53 0 = .ok (.aload_n 0, 1) := by decide +kernel
theorem dJ0_indexOf_7cf53_1 : decode cJ0_indexOf_7cf53 1 = .ok (.invokevirtual 492, 3) := by decide +kernel
theorem dJ0_indexOf_7cf53_4 : decode cJ0_indexOf_7cf53 4 = .ok (.ifCond .eq 19, 3) := by decide +kernel
theorem dJ0_indexOf_7cf53_7 : decode cJ0_indexOf_7cf53 7 = .ok (.aload_n 0, 1) := by decide +kernel
theorem dJ0_indexOf_7cf53_8 : decode cJ0_indexOf_7cf53 8 = .ok (.getfield 9, 3) := by decide +kernel
theorem dJ0_indexOf_7cf53_11 : decode cJ0_indexOf_7cf53 11 = .ok (.iload_n 1, 1) := by decide +kernel
theorem dJ0_indexOf_7cf53_12 : decode cJ0_indexOf_7cf53 12 = .ok (.iload_n 2, 1) := by decide +kernel
theorem dJ0_indexOf_7cf53_13 : decode cJ0_indexOf_7cf53 13 = .ok (.aload_n 0, 1) := by decide +kernel
theorem dJ0_indexOf_7cf53_14 : decode cJ0_indexOf_7cf53 14 = .ok (.invokevirtual 505, 3) := by decide +kernel
theorem dJ0_indexOf_7cf53_17 : decode cJ0_indexOf_7cf53 17 = .ok (.invokestatic 637, 3) := by decide +kernel
theorem dJ0_indexOf_7cf53_20 : decode cJ0_indexOf_7cf53 20 = .ok (.goto 16, 3) := by decide +kernel
theorem dJ0_indexOf_7cf53_23 : decode cJ0_indexOf_7cf53 23 = .ok (.aload_n 0, 1) := by decide +kernel
theorem dJ0_indexOf_7cf53_24 : decode cJ0_indexOf_7cf53 24 = .ok (.getfield 9, 3) := by decide +kernel
theorem dJ0_indexOf_7cf53_27 : decode cJ0_indexOf_7cf53 27 = .ok (.iload_n 1, 1) := by decide +kernel
theorem dJ0_indexOf_7cf53_28 : decode cJ0_indexOf_7cf53 28 = .ok (.iload_n 2, 1) := by decide +kernel
theorem dJ0_indexOf_7cf53_29 : decode cJ0_indexOf_7cf53 29 = .ok (.aload_n 0, 1) := by decide +kernel
theorem dJ0_indexOf_7cf53_30 : decode cJ0_indexOf_7cf53 30 = .ok (.invokevirtual 505, 3) := by decide +kernel
theorem dJ0_indexOf_7cf53_36 : decode cJ0_indexOf_7cf53 36 = .ok (.ireturn, 1) := by decide +kernel
theorem dJ0_coder_7d493_0 : decode cJ0_coder_7d493 0 = .ok (.getstatic 38, 3) := by decide +kernel
theorem dJ0_coder_7d493_3 : decode cJ0_coder_7d493 3 = .ok (.ifCond .eq 10, 3) := by decide +kernel
theorem dJ0_coder_7d493_6 : decode cJ0_coder_7d493 6 = .ok (.aload_n 0, 1) := by decide +kernel
theorem dJ0_coder_7d493_7 : decode cJ0_coder_7d493 7 = .ok (.getfield 15, 3) := by decide +kernel
theorem dJ0_coder_7d493_10 : decode cJ0_coder_7d493 10 = .ok (.goto 4, 3) := by decide +kernel
theorem dJ0_coder_7d493_13 : decode cJ0_coder_7d493 13 = .ok (.iconst 1, 1) := by decide +kernel
theorem dJ0_coder_7d493_14 : decode cJ0_coder_7d493 14 = .ok (.ireturn, 1) := by decide +kernel
theorem dJ0_isLatin1_aae02_0 : decode cJ0_isLatin1_aae02 0 = .ok (.getstatic 38, 3) := by decide +kernel
theorem dJ0_isLatin1_aae02_3 : decode cJ0_isLatin1_aae02 3 = .ok (.ifCond .eq 14, 3) := by decide +kernel
theorem dJ0_isLatin1_aae02_6 : decode cJ0_isLatin1_aae02 6 = .ok (.aload_n 0, 1) := by decide +kernel
theorem dJ0_isLatin1_aae02_7 : decode cJ0_isLatin1_aae02 7 = .ok (.getfield 15, 3) := by decide +kernel
theorem dJ0_isLatin1_aae02_10 : decode cJ0_isLatin1_aae02 10 = .ok (.ifCond .ne 7, 3) := by decide +kernel
theorem dJ0_isLatin1_aae02_13 : decode cJ0_isLatin1_aae02 13 = .ok (.iconst 1, 1) := by decide +kernel
theorem dJ0_isLatin1_aae02_14 : decode cJ0_isLatin1_aae02 14 = .ok (.goto 4, 3) := by decide +kernel
theorem dJ0_isLatin1_aae02_17 : decode cJ0_isLatin1_aae02 17 = .ok (.iconst 0, 1) := by decide +kernel
theorem dJ0_isLatin1_aae02_18 : decode cJ0_isLatin1_aae02 18 = .ok (.ireturn, 1) := by decide +kernel
theorem dJ0_checkIndex_df160_0 : decode cJ0_checkIndex_df160 0 = .ok (.iload_n 0, 1) := by decide +kernel
theorem dJ0_checkIndex_df160_1 : decode cJ0_checkIndex_df160 1 = .ok (.iload_n 1, 1) := by decide +kernel
theorem dJ0_checkIndex_df160_2 : decode cJ0_checkIndex_df160 2 = .ok (.getstatic 1053, 3) := by decide +kernel
theorem dJ0_checkIndex_df160_5 : decode cJ0_checkIndex_df160 5 = .ok (.invokestatic 1059, 3) := by decide +kernel
theorem dJ0_checkIndex_df160_8 : decode cJ0_checkIndex_df160 8 = .ok (.pop, 1) := by decide +kernel
theorem dJ0_checkIndex_df160_9 : decode cJ0_checkIndex_df160 9 = .ok (.return_, 1) := by decide +kernel
theorem dJ1_charAt_3b067_0 : decode cJ1_charAt_3b067 0 = .ok (.iload_n 1, 1) := by decide +kernel
theorem dJ1_charAt_3b067_1 : decode cJ1_charAt_3b067 1 = .ok (.aload_n 0, 1) := by decide +kernel
theorem dJ1_charAt_3b067_2 : decode cJ1_charAt_3b067 2 = .ok (.arraylength, 1) := by decide +kernel
theorem dJ1_charAt_3b067_3 : decode cJ1_charAt_3b067 3 = .ok (.invokestatic 9, 3) := by decide +kernel
theorem dJ1_charAt_3b067_6 : decode cJ1_charAt_3b067 6 = .ok (.aload_n 0, 1) := by decide +kernel
theorem dJ1_charAt_3b067_7 : decode cJ1_charAt_3b067 7 = .ok (.iload_n 1, 1) := by decide +kernel
theorem dJ1_charAt_3b067_8 : decode cJ1_charAt_3b067 8 = .ok (.baload, 1) := by decide +kernel
theorem dJ1_charAt_3b067_9 : decode cJ1_charAt_3b067 9 = .ok (.sipush 255, 3) := by decide +kernel
theorem dJ1_charAt_3b067_12 : decode cJ1_charAt_3b067 12 = .ok (.iand, 1) := by decide +kernel
theorem dJ1_charAt_3b067_13 : decode cJ1_charAt_3b067 13 = .ok (.i2c, 1) := by decide +kernel
theorem dJ1_charAt_3b067_14 : decode cJ1_charAt_3b067 14 = .ok (.ireturn, 1) := by decide +kernel
theorem dJ1_canEncode_9a6ad_0 : decode cJ1_canEncode_9a6ad 0 = .ok (.iload_n 0, 1) := by decide +kernel
theorem dJ1_canEncode_9a6ad_1 : decode cJ1_canEncode_9a6ad 1 = .ok (.ifCond .lt 14, 3) := by decide +kernel
theorem dJ1_canEncode_9a6ad_4 : decode cJ1_canEncode_9a6ad 4 = .ok (.iload_n 0, 1) := by decide +kernel
theorem dJ1_canEncode_9a6ad_5 : decode cJ1_canEncode_9a6ad 5 = .ok (.sipush 255, 3) := by decide +kernel
theorem dJ1_canEncode_9a6ad_8 : decode cJ1_canEncode_9a6ad 8 = .ok (.if_icmp .gt 7, 3) := by decide +kernel
theorem dJ1_canEncode_9a6ad_11 : decode cJ1_canEncode_9a6ad 11 = .ok (.iconst 1, 1) := by decide +kernel
theorem dJ1_canEncode_9a6ad_12 : decode cJ1_canEncode_9a6ad 12 = .ok (.goto 4, 3) := by decide +kernel
theorem dJ1_canEncode_9a6ad_15 : decode cJ1_canEncode_9a6ad 15 = .ok (.iconst 0, 1) := by decide +kernel
theorem dJ1_canEncode_9a6ad_16 : decode cJ1_canEncode_9a6ad 16 = .ok (.ireturn, 1) := by decide +kernel
theorem dJ1_indexOf_4cfef_0 : decode cJ1_indexOf_4cfef 0 = .ok (.iload_n 1, 1) := by decide +kernel
theorem dJ1_indexOf_4cfef_1 : decode cJ1_indexOf_4cfef 1 = .ok (.invokestatic 88, 3) := by decide +kernel
theorem dJ1_indexOf_4cfef_4 : decode cJ1_indexOf_4cfef 4 = .ok (.ifCond .ne 5, 3) := by decide +kernel
theorem dJ1_indexOf_4cfef_7 : decode cJ1_indexOf_4cfef 7 = .ok (.iconst (-1), 1) := by decide +kernel
theorem dJ1_indexOf_4cfef_8 : decode cJ1_indexOf_4cfef 8 = .ok (.ireturn, 1) := by decide +kernel
theorem dJ1_indexOf_4cfef_9 : decode cJ1_indexOf_4cfef 9 = .ok (.iload_n 2, 1) := by decide +kernel
theorem dJ1_indexOf_4cfef_10 : decode cJ1_indexOf_4cfef 10 = .ok (.iconst 0, 1) := by decide +kernel
theorem dJ1_indexOf_4cfef_11 : decode cJ1_indexOf_4cfef 11 = .ok (.invokestatic 92, 3) := by decide +kernel
theorem dJ1_indexOf_4cfef_14 : decode cJ1_indexOf_4cfef 14 = .ok (.istore_n 2, 1) := by decide +kernel
theorem dJ1_indexOf_4cfef_15 : decode cJ1_indexOf_4cfef 15 = .ok (.iload_n 3, 1) := by decide +kernel
theorem dJ1_indexOf_4cfef_16 : decode cJ1_indexOf_4cfef 16 = .ok (.aload_n 0, 1) := by decide +kernel
theorem dJ1_indexOf_4cfef_17 : decode cJ1_indexOf_4cfef 17 = .ok (.arraylength, 1) := by decide +kernel
theorem dJ1_indexOf_4cfef_18 : decode cJ1_indexOf_4cfef 18 = .ok (.invokestatic 38, 3) := by decide +kernel
theorem dJ1_indexOf_4cfef_21 : decode cJ1_indexOf_4cfef 21 = .ok (.istore_n 3, 1) := by decide +kernel
theorem dJ1_indexOf_4cfef_22 : decode cJ1_indexOf_4cfef 22 = .ok (.iload_n 2, 1) := by decide +kernel
theorem dJ1_indexOf_4cfef_23 : decode cJ1_indexOf_4cfef 23 = .ok (.iload_n 3, 1) := by decide +kernel
theorem dJ1_indexOf_4cfef_24 : decode cJ1_indexOf_4cfef 24 = .ok (.if_icmp .lt 5, 3) := by decide +kernel
theorem dJ1_indexOf_4cfef_27 : decode cJ1_indexOf_4cfef 27 = .ok (.iconst (-1), 1) := by decide +kernel
theorem dJ1_indexOf_4cfef_28 : decode cJ1_indexOf_4cfef 28 = .ok (.ireturn, 1) := by decide +kernel
theorem dJ1_indexOf_4cfef_29 : decode cJ1_indexOf_4cfef 29 = .ok (.aload_n 0, 1) := by decide +kernel
theorem dJ1_indexOf_4cfef_30 : decode cJ1_indexOf_4cfef 30 = .ok (.iload_n 1, 1) := by decide +kernel
theorem dJ1_indexOf_4cfef_31 : decode cJ1_indexOf_4cfef 31 = .ok (.iload_n 2, 1) := by decide +kernel
theorem dJ1_indexOf_4cfef_32 : decode cJ1_indexOf_4cfef 32 = .ok (.iload_n 3, 1) := by decide +kernel
theorem dJ1_indexOf_4cfef_33 : decode cJ1_indexOf_4cfef 33 = .ok (.invokestatic 95, 3) := by decide +kernel
theorem dJ1_indexOf_4cfef_36 : decode cJ1_indexOf_4cfef 36 = .ok (.ireturn, 1) := by decide +kernel
theorem dJ1_indexOfChar_4cfef_0 : decode cJ1_indexOfChar_4cfef 0 = .ok (.iload_n 1, 1) := by decide +kernel
theorem dJ1_indexOfChar_4cfef_1 : decode cJ1_indexOfChar_4cfef 1 = .ok (.i2b, 1) := by decide +kernel
theorem dJ1_indexOfChar_4cfef_2 : decode cJ1_indexOfChar_4cfef 2 = .ok (.istore 4, 2) := by decide +kernel
theorem dJ1_indexOfChar_4cfef_4 : decode cJ1_indexOfChar_4cfef 4 = .ok (.iload_n 2, 1) := by decide +kernel
theorem dJ1_indexOfChar_4cfef_5 : decode cJ1_indexOfChar_4cfef 5 = .ok (.istore 5, 2) := by decide +kernel
theorem dJ1_indexOfChar_4cfef_7 : decode cJ1_indexOfChar_4cfef 7 = .ok (.iload 5, 2) := by decide +kernel
theorem dJ1_indexOfChar_4cfef_9 : decode cJ1_indexOfChar_4cfef 9 = .ok (.iload_n 3, 1) := by decide +kernel
theorem dJ1_indexOfChar_4cfef_10 : decode cJ1_indexOfChar_4cfef 10 = .ok (.if_icmp .ge 21, 3) := by decide +kernel
theorem dJ1_indexOfChar_4cfef_13 : decode cJ1_indexOfChar_4cfef 13 = .ok (.aload_n 0, 1) := by decide +kernel
theorem dJ1_indexOfChar_4cfef_14 : decode cJ1_indexOfChar_4cfef 14 = .ok (.iload 5, 2) := by decide +kernel
theorem dJ1_indexOfChar_4cfef_16 : decode cJ1_indexOfChar_4cfef 16 = .ok (.baload, 1) := by decide +kernel
theorem dJ1_indexOfChar_4cfef_17 : decode cJ1_indexOfChar_4cfef 17 = .ok (.iload 4, 2) := by decide +kernel
theorem dJ1_indexOfChar_4cfef_19 : decode cJ1_indexOfChar_4cfef 19 = .ok (.if_icmp .ne 6, 3) := by decide +kernel
theorem dJ1_indexOfChar_4cfef_22 : decode cJ1_indexOfChar_4cfef 22 = .ok (.iload 5, 2) := by decide +kernel
theorem dJ1_indexOfChar_4cfef_24 : decode cJ1_indexOfChar_4cfef 24 = .ok (.ireturn, 1) := by decide +kernel
theorem dJ1_indexOfChar_4cfef_25 : decode cJ1_indexOfChar_4cfef 25 = .ok (.iinc 5 1, 3) := by decide +kernel
theorem dJ1_indexOfChar_4cfef_28 : decode cJ1_indexOfChar_4cfef 28 = .ok (.goto (-21), 3) := by decide +kernel
theorem dJ1_indexOfChar_4cfef_31 : decode cJ1_indexOfChar_4cfef 31 = .ok (.iconst (-1), 1) := by decide +kernel
theorem dJ1_indexOfChar_4cfef_32 : decode cJ1_indexOfChar_4cfef 32 = .ok (.ireturn, 1) := by decide +kernel
theorem dJ7_fill_d0a16_0 : decode cJ7_fill_d0a16 0 = .ok (.iconst 0, 1) := by decide +kernel
theorem dJ7_fill_d0a16_1 : decode cJ7_fill_d0a16 1 = .ok (.istore_n 3, 1) := by decide +kernel
theorem dJ7_fill_d0a16_2 : decode cJ7_fill_d0a16 2 = .ok (.aload_n 0, 1) := by decide +kernel
theorem dJ7_fill_d0a16_3 : decode cJ7_fill_d0a16 3 = .ok (.arraylength, 1) := by decide +kernel
theorem dJ7_fill_d0a16_4 : decode cJ7_fill_d0a16 4 = .ok (.istore 4, 2) := by decide +kernel
theorem dJ7_fill_d0a16_6 : decode cJ7_fill_d0a16 6 = .ok (.iload_n 3, 1) := by decide +kernel
theorem dJ7_fill_d0a16_7 : decode cJ7_fill_d0a16 7 = .ok (.iload 4, 2) := by decide +kernel
theorem dJ7_fill_d0a16_9 : decode cJ7_fill_d0a16 9 = .ok (.if_icmp .ge 13, 3) := by decide +kernel
theorem dJ7_fill_d0a16_12 : decode cJ7_fill_d0a16 12 = .ok (.aload_n 0, 1) := by decide +kernel
theorem dJ7_fill_d0a16_13 : decode cJ7_fill_d0a16 13 = .ok (.iload_n 3, 1) := by decide +kernel
theorem dJ7_fill_d0a16_14 : decode cJ7_fill_d0a16 14 = .ok (.lload_n 1, 1) := by decide +kernel
theorem dJ7_fill_d0a16_15 : decode cJ7_fill_d0a16 15 = .ok (.lastore, 1) := by decide +kernel
theorem dJ7_fill_d0a16_16 : decode cJ7_fill_d0a16 16 = .ok (.iinc 3 1, 3) := by decide +kernel
theorem dJ7_fill_d0a16_19 : decode cJ7_fill_d0a16 19 = .ok (.goto (-13), 3) := by decide +kernel
theorem dJ7_fill_d0a16_22 : decode cJ7_fill_d0a16 22 = .ok (.return_, 1) := by decide +kernel
theorem dJ7_fill_53178_0 : decode cJ7_fill_53178 0 = .ok (.iconst 0, 1) := by decide +kernel
theorem dJ7_fill_53178_1 : decode cJ7_fill_53178 1 = .ok (.istore_n 2, 1) := by decide +kernel
theorem dJ7_fill_53178_2 : decode cJ7_fill_53178 2 = .ok (.aload_n 0, 1) := by decide +kernel
theorem dJ7_fill_53178_3 : decode cJ7_fill_53178 3 = .ok (.arraylength, 1) := by decide +kernel
theorem dJ7_fill_53178_4 : decode cJ7_fill_53178 4 = .ok (.istore_n 3, 1) := by decide +kernel
theorem dJ7_fill_53178_5 : decode cJ7_fill_53178 5 = .ok (.iload_n 2, 1) := by decide +kernel
theorem dJ7_fill_53178_6 : decode cJ7_fill_53178 6 = .ok (.iload_n 3, 1) := by decide +kernel
theorem dJ7_fill_53178_7 : decode cJ7_fill_53178 7 = .ok (.if_icmp .ge 13, 3) := by decide +kernel
theorem dJ7_fill_53178_10 : decode cJ7_fill_53178 10 = .ok (.aload_n 0, 1) := by decide +kernel
theorem dJ7_fill_53178_11 : decode cJ7_fill_53178 11 = .ok (.iload_n 2, 1) := by decide +kernel
theorem dJ7_fill_53178_12 : decode cJ7_fill_53178 12 = .ok (.iload_n 1, 1) := by decide +kernel
theorem dJ7_fill_53178_13 : decode cJ7_fill_53178 13 = .ok (.iastore, 1) := by decide +kernel
theorem dJ7_fill_53178_14 : decode cJ7_fill_53178 14 = .ok (.iinc 2 1, 3) := by decide +kernel
theorem dJ7_fill_53178_17 : decode cJ7_fill_53178 17 = .ok (.goto (-12), 3) := by decide +kernel
theorem dJ7_fill_53178_20 : decode cJ7_fill_53178 20 = .ok (.return_, 1) := by decide +kernel
theorem dJ7_copyOf_59c91_0 : decode cJ7_copyOf_59c91 0 = .ok (.iload_n 1, 1) := by decide +kernel
theorem dJ7_copyOf_59c91_1 : decode cJ7_copyOf_59c91 1 = .ok (.aload_n 0, 1) := by decide +kernel
theorem dJ7_copyOf_59c91_2 : decode cJ7_copyOf_59c91 2 = .ok (.arraylength, 1) := by decide +kernel
theorem dJ7_copyOf_59c91_3 : decode cJ7_copyOf_59c91 3 = .ok (.if_icmp .ne 11, 3) := by decide +kernel
theorem dJ7_copyOf_59c91_6 : decode cJ7_copyOf_59c91 6 = .ok (.aload_n 0, 1) := by decide +kernel
theorem dJ7_copyOf_59c91_14 : decode cJ7_copyOf_59c91 14 = .ok (.iload_n 1, 1) := by decide +kernel
theorem dJ7_copyOf_59c91_15 : decode cJ7_copyOf_59c91 15 = .ok (.newarray .int, 2) := by decide +kernel
theorem dJ7_copyOf_59c91_17 : decode cJ7_copyOf_59c91 17 = .ok (.astore_n 2, 1) := by decide +kernel
theorem dJ7_copyOf_59c91_18 : decode cJ7_copyOf_59c91 18 = .ok (.aload_n 0, 1) := by decide +kernel
theorem dJ7_copyOf_59c91_19 : decode cJ7_copyOf_59c91 19 = .ok (.iconst 0, 1) := by decide +kernel
theorem dJ7_copyOf_59c91_20 : decode cJ7_copyOf_59c91 20 = .ok (.aload_n 2, 1) := by decide +kernel
theorem dJ7_copyOf_59c91_21 : decode cJ7_copyOf_59c91 21 = .ok (.iconst 0, 1) := by decide +kernel
theorem dJ7_copyOf_59c91_22 : decode cJ7_copyOf_59c91 22 = .ok (.aload_n 0, 1) := by decide +kernel
theorem dJ7_copyOf_59c91_23 : decode cJ7_copyOf_59c91 23 = .ok (.arraylength, 1) := by decide +kernel
theorem dJ7_copyOf_59c91_24 : decode cJ7_copyOf_59c91 24 = .ok (.iload_n 1, 1) := by decide +kernel
theorem dJ7_copyOf_59c91_25 : decode cJ7_copyOf_59c91 25 = .ok (.invokestatic 304, 3) := by decide +kernel
theorem dJ7_copyOf_59c91_28 : decode cJ7_copyOf_59c91 28 = .ok (.invokestatic 150, 3) := by decide +kernel
theorem dJ7_copyOf_59c91_31 : decode cJ7_copyOf_59c91 31 = .ok (.aload_n 2, 1) := by decide +kernel
theorem dJ7_copyOf_59c91_32 : decode cJ7_copyOf_59c91 32 = .ok (.areturn, 1) := by decide +kernel
theorem dJ3_checkIndex_8e157_0 : decode cJ3_checkIndex_8e157 0 = .ok (.iload_n 0, 1) := by decide +kernel
theorem dJ3_checkIndex_8e157_1 : decode cJ3_checkIndex_8e157 1 = .ok (.ifCond .lt 8, 3) := by decide +kernel
theorem dJ3_checkIndex_8e157_4 : decode cJ3_checkIndex_8e157 4 = .ok (.iload_n 0, 1) := by decide +kernel
theorem dJ3_checkIndex_8e157_5 : decode cJ3_checkIndex_8e157 5 = .ok (.iload_n 1, 1) := by decide +kernel
theorem dJ3_checkIndex_8e157_6 : decode cJ3_checkIndex_8e157 6 = .ok (.if_icmp .lt 10, 3) := by decide +kernel
theorem dJ3_checkIndex_8e157_9 : decode cJ3_checkIndex_8e157 9 = .ok (.aload_n 2, 1) := by decide +kernel
theorem dJ3_checkIndex_8e157_10 : decode cJ3_checkIndex_8e157 10 = .ok (.iload_n 0, 1) := by decide +kernel
theorem dJ3_checkIndex_8e157_11 : decode cJ3_checkIndex_8e157 11 = .ok (.iload_n 1, 1) := by decide +kernel
theorem dJ3_checkIndex_8e157_16 : decode cJ3_checkIndex_8e157 16 = .ok (.iload_n 0, 1) := by decide +kernel
theorem dJ3_checkIndex_8e157_17 : decode cJ3_checkIndex_8e157 17 = .ok (.ireturn, 1) := by decide +kernel
theorem dL_law_0 : decode cL_law 0 = .ok (.new 7, 3) := by decide +kernel
theorem dL_law_3 : decode cL_law 3 = .ok (.dup, 1) := by decide +kernel
theorem dL_law_4 : decode cL_law 4 = .ok (.invokespecial 9, 3) := by decide +kernel
theorem dL_law_7 : decode cL_law 7 = .ok (.astore_n 1, 1) := by decide +kernel
theorem dL_law_8 : decode cL_law 8 = .ok (.new 10, 3) := by decide +kernel
theorem dL_law_11 : decode cL_law 11 = .ok (.dup, 1) := by decide +kernel
theorem dL_law_12 : decode cL_law 12 = .ok (.invokespecial 12, 3) := by decide +kernel
theorem dL_law_15 : decode cL_law 15 = .ok (.astore_n 2, 1) := by decide +kernel
theorem dL_law_16 : decode cL_law 16 = .ok (.iconst 0, 1) := by decide +kernel
theorem dL_law_17 : decode cL_law 17 = .ok (.istore_n 3, 1) := by decide +kernel
theorem dL_law_18 : decode cL_law 18 = .ok (.iload_n 3, 1) := by decide +kernel
theorem dL_law_19 : decode cL_law 19 = .ok (.aload_n 0, 1) := by decide +kernel
theorem dL_law_20 : decode cL_law 20 = .ok (.arraylength, 1) := by decide +kernel
theorem dL_law_21 : decode cL_law 21 = .ok (.bipush 6, 2) := by decide +kernel
theorem dL_law_23 : decode cL_law 23 = .ok (.isub, 1) := by decide +kernel
theorem dL_law_24 : decode cL_law 24 = .ok (.if_icmp .gt 1471, 3) := by decide +kernel
theorem dL_law_27 : decode cL_law 27 = .ok (.aload_n 0, 1) := by decide +kernel
theorem dL_law_28 : decode cL_law 28 = .ok (.iload_n 3, 1) := by decide +kernel
theorem dL_law_29 : decode cL_law 29 = .ok (.iaload, 1) := by decide +kernel
theorem dL_law_30 : decode cL_law 30 = .ok (.bipush 63, 2) := by decide +kernel
theorem dL_law_32 : decode cL_law 32 = .ok (.iand, 1) := by decide +kernel
theorem dL_law_33 : decode cL_law 33 = .ok (.tableswitch 1456 0 42 #[187, 240, 273, 306, 339, 382, 415, 448, 471, 494, 527, 580, 613, 626, 649, 672, 695, 718, 751, 764, 797, 820, 833, 866, 889, 932, 955, 968, 1001, 1024, 1067, 1110, 1133, 1156, 1219, 1262, 1295, 1328, 1361, 1384, 1407, 1420, 1433], 187) := by decide +kernel
theorem dL_law_220 : decode cL_law 220 = .ok (.aload_n 1, 1) := by decide +kernel
theorem dL_law_221 : decode cL_law 221 = .ok (.aload_n 0, 1) := by decide +kernel
theorem dL_law_222 : decode cL_law 222 = .ok (.iload_n 3, 1) := by decide +kernel
theorem dL_law_223 : decode cL_law 223 = .ok (.iconst 1, 1) := by decide +kernel
theorem dL_law_224 : decode cL_law 224 = .ok (.iadd, 1) := by decide +kernel
theorem dL_law_225 : decode cL_law 225 = .ok (.iaload, 1) := by decide +kernel
theorem dL_law_226 : decode cL_law 226 = .ok (.aload_n 0, 1) := by decide +kernel
theorem dL_law_227 : decode cL_law 227 = .ok (.iload_n 3, 1) := by decide +kernel
theorem dL_law_228 : decode cL_law 228 = .ok (.iconst 2, 1) := by decide +kernel
theorem dL_law_229 : decode cL_law 229 = .ok (.iadd, 1) := by decide +kernel
theorem dL_law_230 : decode cL_law 230 = .ok (.iaload, 1) := by decide +kernel
theorem dL_law_231 : decode cL_law 231 = .ok (.aload_n 0, 1) := by decide +kernel
theorem dL_law_232 : decode cL_law 232 = .ok (.iload_n 3, 1) := by decide +kernel
theorem dL_law_233 : decode cL_law 233 = .ok (.iconst 3, 1) := by decide +kernel
theorem dL_law_234 : decode cL_law 234 = .ok (.iadd, 1) := by decide +kernel
theorem dL_law_235 : decode cL_law 235 = .ok (.iaload, 1) := by decide +kernel
theorem dL_law_236 : decode cL_law 236 = .ok (.aload_n 0, 1) := by decide +kernel
theorem dL_law_237 : decode cL_law 237 = .ok (.iload_n 3, 1) := by decide +kernel
theorem dL_law_238 : decode cL_law 238 = .ok (.iconst 4, 1) := by decide +kernel
theorem dL_law_239 : decode cL_law 239 = .ok (.iadd, 1) := by decide +kernel
theorem dL_law_240 : decode cL_law 240 = .ok (.iaload, 1) := by decide +kernel
theorem dL_law_241 : decode cL_law 241 = .ok (.invokevirtual 13, 3) := by decide +kernel
theorem dL_law_244 : decode cL_law 244 = .ok (.aload_n 2, 1) := by decide +kernel
theorem dL_law_245 : decode cL_law 245 = .ok (.aload_n 0, 1) := by decide +kernel
theorem dL_law_246 : decode cL_law 246 = .ok (.iload_n 3, 1) := by decide +kernel
theorem dL_law_247 : decode cL_law 247 = .ok (.iconst 1, 1) := by decide +kernel
theorem dL_law_248 : decode cL_law 248 = .ok (.iadd, 1) := by decide +kernel
theorem dL_law_249 : decode cL_law 249 = .ok (.iaload, 1) := by decide +kernel
theorem dL_law_250 : decode cL_law 250 = .ok (.aload_n 0, 1) := by decide +kernel
theorem dL_law_251 : decode cL_law 251 = .ok (.iload_n 3, 1) := by decide +kernel
theorem dL_law_252 : decode cL_law 252 = .ok (.iconst 2, 1) := by decide +kernel
theorem dL_law_253 : decode cL_law 253 = .ok (.iadd, 1) := by decide +kernel
theorem dL_law_254 : decode cL_law 254 = .ok (.iaload, 1) := by decide +kernel
theorem dL_law_255 : decode cL_law 255 = .ok (.aload_n 0, 1) := by decide +kernel
theorem dL_law_256 : decode cL_law 256 = .ok (.iload_n 3, 1) := by decide +kernel
theorem dL_law_257 : decode cL_law 257 = .ok (.iconst 3, 1) := by decide +kernel
theorem dL_law_258 : decode cL_law 258 = .ok (.iadd, 1) := by decide +kernel
theorem dL_law_259 : decode cL_law 259 = .ok (.iaload, 1) := by decide +kernel
theorem dL_law_260 : decode cL_law 260 = .ok (.aload_n 0, 1) := by decide +kernel
theorem dL_law_261 : decode cL_law 261 = .ok (.iload_n 3, 1) := by decide +kernel
theorem dL_law_262 : decode cL_law 262 = .ok (.iconst 4, 1) := by decide +kernel
theorem dL_law_263 : decode cL_law 263 = .ok (.iadd, 1) := by decide +kernel
theorem dL_law_264 : decode cL_law 264 = .ok (.iaload, 1) := by decide +kernel
theorem dL_law_265 : decode cL_law 265 = .ok (.invokevirtual 17, 3) := by decide +kernel
theorem dL_law_268 : decode cL_law 268 = .ok (.if_icmp .eq 1221, 3) := by decide +kernel
theorem dL_law_271 : decode cL_law 271 = .ok (.iconst 0, 1) := by decide +kernel
theorem dL_law_272 : decode cL_law 272 = .ok (.ireturn, 1) := by decide +kernel
theorem dL_law_273 : decode cL_law 273 = .ok (.aload_n 1, 1) := by decide +kernel
theorem dL_law_274 : decode cL_law 274 = .ok (.aload_n 0, 1) := by decide +kernel
theorem dL_law_275 : decode cL_law 275 = .ok (.iload_n 3, 1) := by decide +kernel
theorem dL_law_276 : decode cL_law 276 = .ok (.iconst 1, 1) := by decide +kernel
theorem dL_law_277 : decode cL_law 277 = .ok (.iadd, 1) := by decide +kernel
theorem dL_law_278 : decode cL_law 278 = .ok (.iaload, 1) := by decide +kernel
theorem dL_law_279 : decode cL_law 279 = .ok (.aload_n 0, 1) := by decide +kernel
theorem dL_law_280 : decode cL_law 280 = .ok (.iload_n 3, 1) := by decide +kernel
theorem dL_law_281 : decode cL_law 281 = .ok (.iconst 2, 1) := by decide +kernel
theorem dL_law_282 : decode cL_law 282 = .ok (.iadd, 1) := by decide +kernel
theorem dL_law_283 : decode cL_law 283 = .ok (.iaload, 1) := by decide +kernel
theorem dL_law_284 : decode cL_law 284 = .ok (.invokevirtual 18, 3) := by decide +kernel
theorem dL_law_287 : decode cL_law 287 = .ok (.aload_n 2, 1) := by decide +kernel
theorem dL_law_288 : decode cL_law 288 = .ok (.aload_n 0, 1) := by decide +kernel
theorem dL_law_289 : decode cL_law 289 = .ok (.iload_n 3, 1) := by decide +kernel
theorem dL_law_290 : decode cL_law 290 = .ok (.iconst 1, 1) := by decide +kernel
theorem dL_law_291 : decode cL_law 291 = .ok (.iadd, 1) := by decide +kernel
theorem dL_law_292 : decode cL_law 292 = .ok (.iaload, 1) := by decide +kernel
theorem dL_law_293 : decode cL_law 293 = .ok (.aload_n 0, 1) := by decide +kernel
theorem dL_law_294 : decode cL_law 294 = .ok (.iload_n 3, 1) := by decide +kernel
theorem dL_law_295 : decode cL_law 295 = .ok (.iconst 2, 1) := by decide +kernel
theorem dL_law_296 : decode cL_law 296 = .ok (.iadd, 1) := by decide +kernel
theorem dL_law_297 : decode cL_law 297 = .ok (.iaload, 1) := by decide +kernel
theorem dL_law_298 : decode cL_law 298 = .ok (.invokevirtual 22, 3) := by decide +kernel
theorem dL_law_301 : decode cL_law 301 = .ok (.if_icmp .eq 1188, 3) := by decide +kernel
theorem dL_law_304 : decode cL_law 304 = .ok (.iconst 0, 1) := by decide +kernel
theorem dL_law_305 : decode cL_law 305 = .ok (.ireturn, 1) := by decide +kernel
theorem dL_law_306 : decode cL_law 306 = .ok (.aload_n 1, 1) := by decide +kernel
theorem dL_law_307 : decode cL_law 307 = .ok (.aload_n 0, 1) := by decide +kernel
theorem dL_law_308 : decode cL_law 308 = .ok (.iload_n 3, 1) := by decide +kernel
theorem dL_law_309 : decode cL_law 309 = .ok (.iconst 1, 1) := by decide +kernel
theorem dL_law_310 : decode cL_law 310 = .ok (.iadd, 1) := by decide +kernel
theorem dL_law_311 : decode cL_law 311 = .ok (.iaload, 1) := by decide +kernel
theorem dL_law_312 : decode cL_law 312 = .ok (.aload_n 0, 1) := by decide +kernel
theorem dL_law_313 : decode cL_law 313 = .ok (.iload_n 3, 1) := by decide +kernel
theorem dL_law_314 : decode cL_law 314 = .ok (.iconst 2, 1) := by decide +kernel
theorem dL_law_315 : decode cL_law 315 = .ok (.iadd, 1) := by decide +kernel
theorem dL_law_316 : decode cL_law 316 = .ok (.iaload, 1) := by decide +kernel
theorem dL_law_317 : decode cL_law 317 = .ok (.invokevirtual 23, 3) := by decide +kernel
theorem dL_law_320 : decode cL_law 320 = .ok (.aload_n 2, 1) := by decide +kernel
theorem dL_law_321 : decode cL_law 321 = .ok (.aload_n 0, 1) := by decide +kernel
theorem dL_law_322 : decode cL_law 322 = .ok (.iload_n 3, 1) := by decide +kernel
theorem dL_law_323 : decode cL_law 323 = .ok (.iconst 1, 1) := by decide +kernel
theorem dL_law_324 : decode cL_law 324 = .ok (.iadd, 1) := by decide +kernel
theorem dL_law_325 : decode cL_law 325 = .ok (.iaload, 1) := by decide +kernel
theorem dL_law_326 : decode cL_law 326 = .ok (.aload_n 0, 1) := by decide +kernel
theorem dL_law_327 : decode cL_law 327 = .ok (.iload_n 3, 1) := by decide +kernel
theorem dL_law_328 : decode cL_law 328 = .ok (.iconst 2, 1) := by decide +kernel
theorem dL_law_329 : decode cL_law 329 = .ok (.iadd, 1) := by decide +kernel
theorem dL_law_330 : decode cL_law 330 = .ok (.iaload, 1) := by decide +kernel
theorem dL_law_331 : decode cL_law 331 = .ok (.invokevirtual 26, 3) := by decide +kernel
theorem dL_law_334 : decode cL_law 334 = .ok (.if_icmp .eq 1155, 3) := by decide +kernel
theorem dL_law_337 : decode cL_law 337 = .ok (.iconst 0, 1) := by decide +kernel
theorem dL_law_338 : decode cL_law 338 = .ok (.ireturn, 1) := by decide +kernel
theorem dL_law_339 : decode cL_law 339 = .ok (.aload_n 1, 1) := by decide +kernel
theorem dL_law_340 : decode cL_law 340 = .ok (.aload_n 0, 1) := by decide +kernel
theorem dL_law_341 : decode cL_law 341 = .ok (.iload_n 3, 1) := by decide +kernel
theorem dL_law_342 : decode cL_law 342 = .ok (.iconst 1, 1) := by decide +kernel
theorem dL_law_343 : decode cL_law 343 = .ok (.iadd, 1) := by decide +kernel
theorem dL_law_344 : decode cL_law 344 = .ok (.iaload, 1) := by decide +kernel
theorem dL_law_345 : decode cL_law 345 = .ok (.aload_n 0, 1) := by decide +kernel
theorem dL_law_346 : decode cL_law 346 = .ok (.iload_n 3, 1) := by decide +kernel
theorem dL_law_347 : decode cL_law 347 = .ok (.iconst 2, 1) := by decide +kernel
theorem dL_law_348 : decode cL_law 348 = .ok (.iadd, 1) := by decide +kernel
theorem dL_law_349 : decode cL_law 349 = .ok (.iaload, 1) := by decide +kernel
theorem dL_law_350 : decode cL_law 350 = .ok (.invokevirtual 27, 3) := by decide +kernel
theorem dL_law_353 : decode cL_law 353 = .ok (.aload_n 2, 1) := by decide +kernel
theorem dL_law_354 : decode cL_law 354 = .ok (.aload_n 0, 1) := by decide +kernel
theorem dL_law_355 : decode cL_law 355 = .ok (.iload_n 3, 1) := by decide +kernel
theorem dL_law_356 : decode cL_law 356 = .ok (.iconst 1, 1) := by decide +kernel
theorem dL_law_357 : decode cL_law 357 = .ok (.iadd, 1) := by decide +kernel
theorem dL_law_358 : decode cL_law 358 = .ok (.iaload, 1) := by decide +kernel
theorem dL_law_359 : decode cL_law 359 = .ok (.aload_n 0, 1) := by decide +kernel
theorem dL_law_360 : decode cL_law 360 = .ok (.iload_n 3, 1) := by decide +kernel
theorem dL_law_361 : decode cL_law 361 = .ok (.iconst 2, 1) := by decide +kernel
theorem dL_law_362 : decode cL_law 362 = .ok (.iadd, 1) := by decide +kernel
theorem dL_law_363 : decode cL_law 363 = .ok (.iaload, 1) := by decide +kernel
theorem dL_law_364 : decode cL_law 364 = .ok (.invokevirtual 30, 3) := by decide +kernel
theorem dL_law_367 : decode cL_law 367 = .ok (.if_icmp .eq 1122, 3) := by decide +kernel
theorem dL_law_370 : decode cL_law 370 = .ok (.iconst 0, 1) := by decide +kernel
theorem dL_law_371 : decode cL_law 371 = .ok (.ireturn, 1) := by decide +kernel
theorem dL_law_372 : decode cL_law 372 = .ok (.aload_n 1, 1) := by decide +kernel
theorem dL_law_373 : decode cL_law 373 = .ok (.aload_n 0, 1) := by decide +kernel
theorem dL_law_374 : decode cL_law 374 = .ok (.iload_n 3, 1) := by decide +kernel
theorem dL_law_375 : decode cL_law 375 = .ok (.iconst 1, 1) := by decide +kernel
theorem dL_law_376 : decode cL_law 376 = .ok (.iadd, 1) := by decide +kernel
theorem dL_law_377 : decode cL_law 377 = .ok (.iaload, 1) := by decide +kernel
theorem dL_law_378 : decode cL_law 378 = .ok (.aload_n 0, 1) := by decide +kernel
theorem dL_law_379 : decode cL_law 379 = .ok (.iload_n 3, 1) := by decide +kernel
theorem dL_law_380 : decode cL_law 380 = .ok (.iconst 2, 1) := by decide +kernel
theorem dL_law_381 : decode cL_law 381 = .ok (.iadd, 1) := by decide +kernel
theorem dL_law_382 : decode cL_law 382 = .ok (.iaload, 1) := by decide +kernel
theorem dL_law_383 : decode cL_law 383 = .ok (.aload_n 0, 1) := by decide +kernel
theorem dL_law_384 : decode cL_law 384 = .ok (.iload_n 3, 1) := by decide +kernel
theorem dL_law_385 : decode cL_law 385 = .ok (.iconst 3, 1) := by decide +kernel
theorem dL_law_386 : decode cL_law 386 = .ok (.iadd, 1) := by decide +kernel
theorem dL_law_387 : decode cL_law 387 = .ok (.iaload, 1) := by decide +kernel
theorem dL_law_388 : decode cL_law 388 = .ok (.invokevirtual 31, 3) := by decide +kernel
theorem dL_law_391 : decode cL_law 391 = .ok (.aload_n 2, 1) := by decide +kernel
theorem dL_law_392 : decode cL_law 392 = .ok (.aload_n 0, 1) := by decide +kernel
theorem dL_law_393 : decode cL_law 393 = .ok (.iload_n 3, 1) := by decide +kernel
theorem dL_law_394 : decode cL_law 394 = .ok (.iconst 1, 1) := by decide +kernel
theorem dL_law_395 : decode cL_law 395 = .ok (.iadd, 1) := by decide +kernel
theorem dL_law_396 : decode cL_law 396 = .ok (.iaload, 1) := by decide +kernel
theorem dL_law_397 : decode cL_law 397 = .ok (.aload_n 0, 1) := by decide +kernel
theorem dL_law_398 : decode cL_law 398 = .ok (.iload_n 3, 1) := by decide +kernel
theorem dL_law_399 : decode cL_law 399 = .ok (.iconst 2, 1) := by decide +kernel
theorem dL_law_400 : decode cL_law 400 = .ok (.iadd, 1) := by decide +kernel
theorem dL_law_401 : decode cL_law 401 = .ok (.iaload, 1) := by decide +kernel
theorem dL_law_402 : decode cL_law 402 = .ok (.aload_n 0, 1) := by decide +kernel
theorem dL_law_403 : decode cL_law 403 = .ok (.iload_n 3, 1) := by decide +kernel
theorem dL_law_404 : decode cL_law 404 = .ok (.iconst 3, 1) := by decide +kernel
theorem dL_law_405 : decode cL_law 405 = .ok (.iadd, 1) := by decide +kernel
theorem dL_law_406 : decode cL_law 406 = .ok (.iaload, 1) := by decide +kernel
theorem dL_law_407 : decode cL_law 407 = .ok (.invokevirtual 35, 3) := by decide +kernel
theorem dL_law_410 : decode cL_law 410 = .ok (.if_icmp .eq 1079, 3) := by decide +kernel
theorem dL_law_413 : decode cL_law 413 = .ok (.iconst 0, 1) := by decide +kernel
theorem dL_law_414 : decode cL_law 414 = .ok (.ireturn, 1) := by decide +kernel
theorem dL_law_415 : decode cL_law 415 = .ok (.aload_n 1, 1) := by decide +kernel
theorem dL_law_416 : decode cL_law 416 = .ok (.aload_n 0, 1) := by decide +kernel
theorem dL_law_417 : decode cL_law 417 = .ok (.iload_n 3, 1) := by decide +kernel
theorem dL_law_418 : decode cL_law 418 = .ok (.iconst 1, 1) := by decide +kernel
theorem dL_law_419 : decode cL_law 419 = .ok (.iadd, 1) := by decide +kernel
theorem dL_law_420 : decode cL_law 420 = .ok (.iaload, 1) := by decide +kernel
theorem dL_law_421 : decode cL_law 421 = .ok (.aload_n 0, 1) := by decide +kernel
theorem dL_law_422 : decode cL_law 422 = .ok (.iload_n 3, 1) := by decide +kernel
theorem dL_law_423 : decode cL_law 423 = .ok (.iconst 2, 1) := by decide +kernel
theorem dL_law_424 : decode cL_law 424 = .ok (.iadd, 1) := by decide +kernel
theorem dL_law_425 : decode cL_law 425 = .ok (.iaload, 1) := by decide +kernel
theorem dL_law_426 : decode cL_law 426 = .ok (.invokevirtual 36, 3) := by decide +kernel
theorem dL_law_429 : decode cL_law 429 = .ok (.aload_n 2, 1) := by decide +kernel
theorem dL_law_430 : decode cL_law 430 = .ok (.aload_n 0, 1) := by decide +kernel
theorem dL_law_431 : decode cL_law 431 = .ok (.iload_n 3, 1) := by decide +kernel
theorem dL_law_432 : decode cL_law 432 = .ok (.iconst 1, 1) := by decide +kernel
theorem dL_law_433 : decode cL_law 433 = .ok (.iadd, 1) := by decide +kernel
theorem dL_law_434 : decode cL_law 434 = .ok (.iaload, 1) := by decide +kernel
theorem dL_law_435 : decode cL_law 435 = .ok (.aload_n 0, 1) := by decide +kernel
theorem dL_law_436 : decode cL_law 436 = .ok (.iload_n 3, 1) := by decide +kernel
theorem dL_law_437 : decode cL_law 437 = .ok (.iconst 2, 1) := by decide +kernel
theorem dL_law_438 : decode cL_law 438 = .ok (.iadd, 1) := by decide +kernel
theorem dL_law_439 : decode cL_law 439 = .ok (.iaload, 1) := by decide +kernel
theorem dL_law_440 : decode cL_law 440 = .ok (.invokevirtual 39, 3) := by decide +kernel
theorem dL_law_443 : decode cL_law 443 = .ok (.if_icmp .eq 1046, 3) := by decide +kernel
theorem dL_law_446 : decode cL_law 446 = .ok (.iconst 0, 1) := by decide +kernel
theorem dL_law_447 : decode cL_law 447 = .ok (.ireturn, 1) := by decide +kernel
theorem dL_law_448 : decode cL_law 448 = .ok (.aload_n 1, 1) := by decide +kernel
theorem dL_law_449 : decode cL_law 449 = .ok (.aload_n 0, 1) := by decide +kernel
theorem dL_law_450 : decode cL_law 450 = .ok (.iload_n 3, 1) := by decide +kernel
theorem dL_law_451 : decode cL_law 451 = .ok (.iconst 1, 1) := by decide +kernel
theorem dL_law_452 : decode cL_law 452 = .ok (.iadd, 1) := by decide +kernel
theorem dL_law_453 : decode cL_law 453 = .ok (.iaload, 1) := by decide +kernel
theorem dL_law_454 : decode cL_law 454 = .ok (.aload_n 0, 1) := by decide +kernel
theorem dL_law_455 : decode cL_law 455 = .ok (.iload_n 3, 1) := by decide +kernel
theorem dL_law_456 : decode cL_law 456 = .ok (.iconst 2, 1) := by decide +kernel
theorem dL_law_457 : decode cL_law 457 = .ok (.iadd, 1) := by decide +kernel
theorem dL_law_458 : decode cL_law 458 = .ok (.iaload, 1) := by decide +kernel
theorem dL_law_459 : decode cL_law 459 = .ok (.invokevirtual 40, 3) := by decide +kernel
theorem dL_law_462 : decode cL_law 462 = .ok (.aload_n 2, 1) := by decide +kernel
theorem dL_law_463 : decode cL_law 463 = .ok (.aload_n 0, 1) := by decide +kernel
theorem dL_law_464 : decode cL_law 464 = .ok (.iload_n 3, 1) := by decide +kernel
theorem dL_law_465 : decode cL_law 465 = .ok (.iconst 1, 1) := by decide +kernel
theorem dL_law_466 : decode cL_law 466 = .ok (.iadd, 1) := by decide +kernel
theorem dL_law_467 : decode cL_law 467 = .ok (.iaload, 1) := by decide +kernel
theorem dL_law_468 : decode cL_law 468 = .ok (.aload_n 0, 1) := by decide +kernel
theorem dL_law_469 : decode cL_law 469 = .ok (.iload_n 3, 1) := by decide +kernel
theorem dL_law_470 : decode cL_law 470 = .ok (.iconst 2, 1) := by decide +kernel
theorem dL_law_471 : decode cL_law 471 = .ok (.iadd, 1) := by decide +kernel
theorem dL_law_472 : decode cL_law 472 = .ok (.iaload, 1) := by decide +kernel
theorem dL_law_473 : decode cL_law 473 = .ok (.invokevirtual 43, 3) := by decide +kernel
theorem dL_law_476 : decode cL_law 476 = .ok (.if_icmp .eq 1013, 3) := by decide +kernel
theorem dL_law_479 : decode cL_law 479 = .ok (.iconst 0, 1) := by decide +kernel
theorem dL_law_480 : decode cL_law 480 = .ok (.ireturn, 1) := by decide +kernel
theorem dL_law_481 : decode cL_law 481 = .ok (.aload_n 1, 1) := by decide +kernel
theorem dL_law_482 : decode cL_law 482 = .ok (.aload_n 0, 1) := by decide +kernel
theorem dL_law_483 : decode cL_law 483 = .ok (.iload_n 3, 1) := by decide +kernel
theorem dL_law_484 : decode cL_law 484 = .ok (.iconst 1, 1) := by decide +kernel
theorem dL_law_485 : decode cL_law 485 = .ok (.iadd, 1) := by decide +kernel
theorem dL_law_486 : decode cL_law 486 = .ok (.iaload, 1) := by decide +kernel
theorem dL_law_487 : decode cL_law 487 = .ok (.invokevirtual 44, 3) := by decide +kernel
theorem dL_law_490 : decode cL_law 490 = .ok (.aload_n 2, 1) := by decide +kernel
theorem dL_law_491 : decode cL_law 491 = .ok (.aload_n 0, 1) := by decide +kernel
theorem dL_law_492 : decode cL_law 492 = .ok (.iload_n 3, 1) := by decide +kernel
theorem dL_law_493 : decode cL_law 493 = .ok (.iconst 1, 1) := by decide +kernel
theorem dL_law_494 : decode cL_law 494 = .ok (.iadd, 1) := by decide +kernel
theorem dL_law_495 : decode cL_law 495 = .ok (.iaload, 1) := by decide +kernel
theorem dL_law_496 : decode cL_law 496 = .ok (.invokevirtual 48, 3) := by decide +kernel
theorem dL_law_499 : decode cL_law 499 = .ok (.if_icmp .eq 990, 3) := by decide +kernel
theorem dL_law_502 : decode cL_law 502 = .ok (.iconst 0, 1) := by decide +kernel
theorem dL_law_503 : decode cL_law 503 = .ok (.ireturn, 1) := by decide +kernel
theorem dL_law_504 : decode cL_law 504 = .ok (.aload_n 1, 1) := by decide +kernel
theorem dL_law_505 : decode cL_law 505 = .ok (.aload_n 0, 1) := by decide +kernel
theorem dL_law_506 : decode cL_law 506 = .ok (.iload_n 3, 1) := by decide +kernel
theorem dL_law_507 : decode cL_law 507 = .ok (.iconst 1, 1) := by decide +kernel
theorem dL_law_508 : decode cL_law 508 = .ok (.iadd, 1) := by decide +kernel
theorem dL_law_509 : decode cL_law 509 = .ok (.iaload, 1) := by decide +kernel
theorem dL_law_510 : decode cL_law 510 = .ok (.invokevirtual 49, 3) := by decide +kernel
theorem dL_law_513 : decode cL_law 513 = .ok (.aload_n 2, 1) := by decide +kernel
theorem dL_law_514 : decode cL_law 514 = .ok (.aload_n 0, 1) := by decide +kernel
theorem dL_law_515 : decode cL_law 515 = .ok (.iload_n 3, 1) := by decide +kernel
theorem dL_law_516 : decode cL_law 516 = .ok (.iconst 1, 1) := by decide +kernel
theorem dL_law_517 : decode cL_law 517 = .ok (.iadd, 1) := by decide +kernel
theorem dL_law_518 : decode cL_law 518 = .ok (.iaload, 1) := by decide +kernel
theorem dL_law_519 : decode cL_law 519 = .ok (.invokevirtual 52, 3) := by decide +kernel
theorem dL_law_522 : decode cL_law 522 = .ok (.if_icmp .eq 967, 3) := by decide +kernel
theorem dL_law_525 : decode cL_law 525 = .ok (.iconst 0, 1) := by decide +kernel
theorem dL_law_526 : decode cL_law 526 = .ok (.ireturn, 1) := by decide +kernel
theorem dL_law_527 : decode cL_law 527 = .ok (.aload_n 1, 1) := by decide +kernel
theorem dL_law_528 : decode cL_law 528 = .ok (.aload_n 0, 1) := by decide +kernel
theorem dL_law_529 : decode cL_law 529 = .ok (.iload_n 3, 1) := by decide +kernel
theorem dL_law_530 : decode cL_law 530 = .ok (.iconst 1, 1) := by decide +kernel
theorem dL_law_531 : decode cL_law 531 = .ok (.iadd, 1) := by decide +kernel
theorem dL_law_532 : decode cL_law 532 = .ok (.iaload, 1) := by decide +kernel
theorem dL_law_533 : decode cL_law 533 = .ok (.aload_n 0, 1) := by decide +kernel
theorem dL_law_534 : decode cL_law 534 = .ok (.iload_n 3, 1) := by decide +kernel
theorem dL_law_535 : decode cL_law 535 = .ok (.iconst 2, 1) := by decide +kernel
theorem dL_law_536 : decode cL_law 536 = .ok (.iadd, 1) := by decide +kernel
theorem dL_law_537 : decode cL_law 537 = .ok (.iaload, 1) := by decide +kernel
theorem dL_law_538 : decode cL_law 538 = .ok (.invokevirtual 53, 3) := by decide +kernel
theorem dL_law_541 : decode cL_law 541 = .ok (.aload_n 2, 1) := by decide +kernel
theorem dL_law_542 : decode cL_law 542 = .ok (.aload_n 0, 1) := by decide +kernel
theorem dL_law_543 : decode cL_law 543 = .ok (.iload_n 3, 1) := by decide +kernel
theorem dL_law_544 : decode cL_law 544 = .ok (.iconst 1, 1) := by decide +kernel
theorem dL_law_545 : decode cL_law 545 = .ok (.iadd, 1) := by decide +kernel
theorem dL_law_546 : decode cL_law 546 = .ok (.iaload, 1) := by decide +kernel
theorem dL_law_547 : decode cL_law 547 = .ok (.aload_n 0, 1) := by decide +kernel
theorem dL_law_548 : decode cL_law 548 = .ok (.iload_n 3, 1) := by decide +kernel
theorem dL_law_549 : decode cL_law 549 = .ok (.iconst 2, 1) := by decide +kernel
theorem dL_law_550 : decode cL_law 550 = .ok (.iadd, 1) := by decide +kernel
theorem dL_law_551 : decode cL_law 551 = .ok (.iaload, 1) := by decide +kernel
theorem dL_law_552 : decode cL_law 552 = .ok (.invokevirtual 56, 3) := by decide +kernel
theorem dL_law_555 : decode cL_law 555 = .ok (.if_icmp .eq 934, 3) := by decide +kernel
theorem dL_law_558 : decode cL_law 558 = .ok (.iconst 0, 1) := by decide +kernel
theorem dL_law_559 : decode cL_law 559 = .ok (.ireturn, 1) := by decide +kernel
theorem dL_law_560 : decode cL_law 560 = .ok (.aload_n 1, 1) := by decide +kernel
theorem dL_law_561 : decode cL_law 561 = .ok (.aload_n 0, 1) := by decide +kernel
theorem dL_law_562 : decode cL_law 562 = .ok (.iload_n 3, 1) := by decide +kernel
theorem dL_law_563 : decode cL_law 563 = .ok (.iconst 1, 1) := by decide +kernel
theorem dL_law_564 : decode cL_law 564 = .ok (.iadd, 1) := by decide +kernel
theorem dL_law_565 : decode cL_law 565 = .ok (.iaload, 1) := by decide +kernel
theorem dL_law_566 : decode cL_law 566 = .ok (.aload_n 0, 1) := by decide +kernel
theorem dL_law_567 : decode cL_law 567 = .ok (.iload_n 3, 1) := by decide +kernel
theorem dL_law_568 : decode cL_law 568 = .ok (.iconst 2, 1) := by decide +kernel
theorem dL_law_569 : decode cL_law 569 = .ok (.iadd, 1) := by decide +kernel
theorem dL_law_570 : decode cL_law 570 = .ok (.iaload, 1) := by decide +kernel
theorem dL_law_571 : decode cL_law 571 = .ok (.aload_n 0, 1) := by decide +kernel
theorem dL_law_572 : decode cL_law 572 = .ok (.iload_n 3, 1) := by decide +kernel
theorem dL_law_573 : decode cL_law 573 = .ok (.iconst 3, 1) := by decide +kernel
theorem dL_law_574 : decode cL_law 574 = .ok (.iadd, 1) := by decide +kernel
theorem dL_law_575 : decode cL_law 575 = .ok (.iaload, 1) := by decide +kernel
theorem dL_law_576 : decode cL_law 576 = .ok (.aload_n 0, 1) := by decide +kernel
theorem dL_law_577 : decode cL_law 577 = .ok (.iload_n 3, 1) := by decide +kernel
theorem dL_law_578 : decode cL_law 578 = .ok (.iconst 4, 1) := by decide +kernel
theorem dL_law_579 : decode cL_law 579 = .ok (.iadd, 1) := by decide +kernel
theorem dL_law_580 : decode cL_law 580 = .ok (.iaload, 1) := by decide +kernel
theorem dL_law_581 : decode cL_law 581 = .ok (.invokevirtual 57, 3) := by decide +kernel
theorem dL_law_584 : decode cL_law 584 = .ok (.aload_n 2, 1) := by decide +kernel
theorem dL_law_585 : decode cL_law 585 = .ok (.aload_n 0, 1) := by decide +kernel
theorem dL_law_586 : decode cL_law 586 = .ok (.iload_n 3, 1) := by decide +kernel
theorem dL_law_587 : decode cL_law 587 = .ok (.iconst 1, 1) := by decide +kernel
theorem dL_law_588 : decode cL_law 588 = .ok (.iadd, 1) := by decide +kernel
theorem dL_law_589 : decode cL_law 589 = .ok (.iaload, 1) := by decide +kernel
theorem dL_law_590 : decode cL_law 590 = .ok (.aload_n 0, 1) := by decide +kernel
theorem dL_law_591 : decode cL_law 591 = .ok (.iload_n 3, 1) := by decide +kernel
theorem dL_law_592 : decode cL_law 592 = .ok (.iconst 2, 1) := by decide +kernel
theorem dL_law_593 : decode cL_law 593 = .ok (.iadd, 1) := by decide +kernel
theorem dL_law_594 : decode cL_law 594 = .ok (.iaload, 1) := by decide +kernel
theorem dL_law_595 : decode cL_law 595 = .ok (.aload_n 0, 1) := by decide +kernel
theorem dL_law_596 : decode cL_law 596 = .ok (.iload_n 3, 1) := by decide +kernel
theorem dL_law_597 : decode cL_law 597 = .ok (.iconst 3, 1) := by decide +kernel
theorem dL_law_598 : decode cL_law 598 = .ok (.iadd, 1) := by decide +kernel
theorem dL_law_599 : decode cL_law 599 = .ok (.iaload, 1) := by decide +kernel
theorem dL_law_600 : decode cL_law 600 = .ok (.aload_n 0, 1) := by decide +kernel
theorem dL_law_601 : decode cL_law 601 = .ok (.iload_n 3, 1) := by decide +kernel
theorem dL_law_602 : decode cL_law 602 = .ok (.iconst 4, 1) := by decide +kernel
theorem dL_law_603 : decode cL_law 603 = .ok (.iadd, 1) := by decide +kernel
theorem dL_law_604 : decode cL_law 604 = .ok (.iaload, 1) := by decide +kernel
theorem dL_law_605 : decode cL_law 605 = .ok (.invokevirtual 60, 3) := by decide +kernel
theorem dL_law_608 : decode cL_law 608 = .ok (.if_icmp .eq 881, 3) := by decide +kernel
theorem dL_law_611 : decode cL_law 611 = .ok (.iconst 0, 1) := by decide +kernel
theorem dL_law_612 : decode cL_law 612 = .ok (.ireturn, 1) := by decide +kernel
theorem dL_law_613 : decode cL_law 613 = .ok (.aload_n 1, 1) := by decide +kernel
theorem dL_law_614 : decode cL_law 614 = .ok (.aload_n 0, 1) := by decide +kernel
theorem dL_law_615 : decode cL_law 615 = .ok (.iload_n 3, 1) := by decide +kernel
theorem dL_law_616 : decode cL_law 616 = .ok (.iconst 1, 1) := by decide +kernel
theorem dL_law_617 : decode cL_law 617 = .ok (.iadd, 1) := by decide +kernel
theorem dL_law_618 : decode cL_law 618 = .ok (.iaload, 1) := by decide +kernel
theorem dL_law_619 : decode cL_law 619 = .ok (.aload_n 0, 1) := by decide +kernel
theorem dL_law_620 : decode cL_law 620 = .ok (.iload_n 3, 1) := by decide +kernel
theorem dL_law_621 : decode cL_law 621 = .ok (.iconst 2, 1) := by decide +kernel
theorem dL_law_622 : decode cL_law 622 = .ok (.iadd, 1) := by decide +kernel
theorem dL_law_623 : decode cL_law 623 = .ok (.iaload, 1) := by decide +kernel
theorem dL_law_624 : decode cL_law 624 = .ok (.invokevirtual 61, 3) := by decide +kernel
theorem dL_law_627 : decode cL_law 627 = .ok (.aload_n 2, 1) := by decide +kernel
theorem dL_law_628 : decode cL_law 628 = .ok (.aload_n 0, 1) := by decide +kernel
theorem dL_law_629 : decode cL_law 629 = .ok (.iload_n 3, 1) := by decide +kernel
theorem dL_law_630 : decode cL_law 630 = .ok (.iconst 1, 1) := by decide +kernel
theorem dL_law_631 : decode cL_law 631 = .ok (.iadd, 1) := by decide +kernel
theorem dL_law_632 : decode cL_law 632 = .ok (.iaload, 1) := by decide +kernel
theorem dL_law_633 : decode cL_law 633 = .ok (.aload_n 0, 1) := by decide +kernel
theorem dL_law_634 : decode cL_law 634 = .ok (.iload_n 3, 1) := by decide +kernel
theorem dL_law_635 : decode cL_law 635 = .ok (.iconst 2, 1) := by decide +kernel
theorem dL_law_636 : decode cL_law 636 = .ok (.iadd, 1) := by decide +kernel
theorem dL_law_637 : decode cL_law 637 = .ok (.iaload, 1) := by decide +kernel
theorem dL_law_638 : decode cL_law 638 = .ok (.invokevirtual 64, 3) := by decide +kernel
theorem dL_law_641 : decode cL_law 641 = .ok (.if_icmp .eq 848, 3) := by decide +kernel
theorem dL_law_644 : decode cL_law 644 = .ok (.iconst 0, 1) := by decide +kernel
theorem dL_law_645 : decode cL_law 645 = .ok (.ireturn, 1) := by decide +kernel
theorem dL_law_646 : decode cL_law 646 = .ok (.aload_n 1, 1) := by decide +kernel
theorem dL_law_647 : decode cL_law 647 = .ok (.invokevirtual 65, 3) := by decide +kernel
theorem dL_law_650 : decode cL_law 650 = .ok (.aload_n 2, 1) := by decide +kernel
theorem dL_law_651 : decode cL_law 651 = .ok (.invokevirtual 69, 3) := by decide +kernel
theorem dL_law_654 : decode cL_law 654 = .ok (.if_icmp .eq 835, 3) := by decide +kernel
theorem dL_law_657 : decode cL_law 657 = .ok (.iconst 0, 1) := by decide +kernel
theorem dL_law_658 : decode cL_law 658 = .ok (.ireturn, 1) := by decide +kernel
theorem dL_law_659 : decode cL_law 659 = .ok (.aload_n 1, 1) := by decide +kernel
theorem dL_law_660 : decode cL_law 660 = .ok (.aload_n 0, 1) := by decide +kernel
theorem dL_law_661 : decode cL_law 661 = .ok (.iload_n 3, 1) := by decide +kernel
theorem dL_law_662 : decode cL_law 662 = .ok (.iconst 1, 1) := by decide +kernel
theorem dL_law_663 : decode cL_law 663 = .ok (.iadd, 1) := by decide +kernel
theorem dL_law_664 : decode cL_law 664 = .ok (.iaload, 1) := by decide +kernel
theorem dL_law_665 : decode cL_law 665 = .ok (.invokevirtual 70, 3) := by decide +kernel
theorem dL_law_668 : decode cL_law 668 = .ok (.aload_n 2, 1) := by decide +kernel
theorem dL_law_669 : decode cL_law 669 = .ok (.aload_n 0, 1) := by decide +kernel
theorem dL_law_670 : decode cL_law 670 = .ok (.iload_n 3, 1) := by decide +kernel
theorem dL_law_671 : decode cL_law 671 = .ok (.iconst 1, 1) := by decide +kernel
theorem dL_law_672 : decode cL_law 672 = .ok (.iadd, 1) := by decide +kernel
theorem dL_law_673 : decode cL_law 673 = .ok (.iaload, 1) := by decide +kernel
theorem dL_law_674 : decode cL_law 674 = .ok (.invokevirtual 73, 3) := by decide +kernel
theorem dL_law_677 : decode cL_law 677 = .ok (.if_icmp .eq 812, 3) := by decide +kernel
theorem dL_law_680 : decode cL_law 680 = .ok (.iconst 0, 1) := by decide +kernel
theorem dL_law_681 : decode cL_law 681 = .ok (.ireturn, 1) := by decide +kernel
theorem dL_law_682 : decode cL_law 682 = .ok (.aload_n 1, 1) := by decide +kernel
theorem dL_law_683 : decode cL_law 683 = .ok (.aload_n 0, 1) := by decide +kernel
theorem dL_law_684 : decode cL_law 684 = .ok (.iload_n 3, 1) := by decide +kernel
theorem dL_law_685 : decode cL_law 685 = .ok (.iconst 1, 1) := by decide +kernel
theorem dL_law_686 : decode cL_law 686 = .ok (.iadd, 1) := by decide +kernel
theorem dL_law_687 : decode cL_law 687 = .ok (.iaload, 1) := by decide +kernel
theorem dL_law_688 : decode cL_law 688 = .ok (.invokevirtual 74, 3) := by decide +kernel
theorem dL_law_691 : decode cL_law 691 = .ok (.aload_n 2, 1) := by decide +kernel
theorem dL_law_692 : decode cL_law 692 = .ok (.aload_n 0, 1) := by decide +kernel
theorem dL_law_693 : decode cL_law 693 = .ok (.iload_n 3, 1) := by decide +kernel
theorem dL_law_694 : decode cL_law 694 = .ok (.iconst 1, 1) := by decide +kernel
theorem dL_law_695 : decode cL_law 695 = .ok (.iadd, 1) := by decide +kernel
theorem dL_law_696 : decode cL_law 696 = .ok (.iaload, 1) := by decide +kernel
theorem dL_law_697 : decode cL_law 697 = .ok (.invokevirtual 77, 3) := by decide +kernel
theorem dL_law_700 : decode cL_law 700 = .ok (.if_icmp .eq 789, 3) := by decide +kernel
theorem dL_law_703 : decode cL_law 703 = .ok (.iconst 0, 1) := by decide +kernel
theorem dL_law_704 : decode cL_law 704 = .ok (.ireturn, 1) := by decide +kernel
theorem dL_law_705 : decode cL_law 705 = .ok (.aload_n 1, 1) := by decide +kernel
theorem dL_law_706 : decode cL_law 706 = .ok (.aload_n 0, 1) := by decide +kernel
theorem dL_law_707 : decode cL_law 707 = .ok (.iload_n 3, 1) := by decide +kernel
theorem dL_law_708 : decode cL_law 708 = .ok (.iconst 1, 1) := by decide +kernel
theorem dL_law_709 : decode cL_law 709 = .ok (.iadd, 1) := by decide +kernel
theorem dL_law_710 : decode cL_law 710 = .ok (.iaload, 1) := by decide +kernel
theorem dL_law_711 : decode cL_law 711 = .ok (.invokevirtual 78, 3) := by decide +kernel
theorem dL_law_714 : decode cL_law 714 = .ok (.aload_n 2, 1) := by decide +kernel
theorem dL_law_715 : decode cL_law 715 = .ok (.aload_n 0, 1) := by decide +kernel
theorem dL_law_716 : decode cL_law 716 = .ok (.iload_n 3, 1) := by decide +kernel
theorem dL_law_717 : decode cL_law 717 = .ok (.iconst 1, 1) := by decide +kernel
theorem dL_law_718 : decode cL_law 718 = .ok (.iadd, 1) := by decide +kernel
theorem dL_law_719 : decode cL_law 719 = .ok (.iaload, 1) := by decide +kernel
theorem dL_law_720 : decode cL_law 720 = .ok (.invokevirtual 81, 3) := by decide +kernel
theorem dL_law_723 : decode cL_law 723 = .ok (.if_icmp .eq 766, 3) := by decide +kernel
theorem dL_law_726 : decode cL_law 726 = .ok (.iconst 0, 1) := by decide +kernel
theorem dL_law_727 : decode cL_law 727 = .ok (.ireturn, 1) := by decide +kernel
theorem dL_law_728 : decode cL_law 728 = .ok (.aload_n 1, 1) := by decide +kernel
theorem dL_law_729 : decode cL_law 729 = .ok (.aload_n 0, 1) := by decide +kernel
theorem dL_law_730 : decode cL_law 730 = .ok (.iload_n 3, 1) := by decide +kernel
theorem dL_law_731 : decode cL_law 731 = .ok (.iconst 1, 1) := by decide +kernel
theorem dL_law_732 : decode cL_law 732 = .ok (.iadd, 1) := by decide +kernel
theorem dL_law_733 : decode cL_law 733 = .ok (.iaload, 1) := by decide +kernel
theorem dL_law_734 : decode cL_law 734 = .ok (.invokevirtual 82, 3) := by decide +kernel
theorem dL_law_737 : decode cL_law 737 = .ok (.aload_n 2, 1) := by decide +kernel
theorem dL_law_738 : decode cL_law 738 = .ok (.aload_n 0, 1) := by decide +kernel
theorem dL_law_739 : decode cL_law 739 = .ok (.iload_n 3, 1) := by decide +kernel
theorem dL_law_740 : decode cL_law 740 = .ok (.iconst 1, 1) := by decide +kernel
theorem dL_law_741 : decode cL_law 741 = .ok (.iadd, 1) := by decide +kernel
theorem dL_law_742 : decode cL_law 742 = .ok (.iaload, 1) := by decide +kernel
theorem dL_law_743 : decode cL_law 743 = .ok (.invokevirtual 85, 3) := by decide +kernel
theorem dL_law_746 : decode cL_law 746 = .ok (.if_icmp .eq 743, 3) := by decide +kernel
theorem dL_law_749 : decode cL_law 749 = .ok (.iconst 0, 1) := by decide +kernel
theorem dL_law_750 : decode cL_law 750 = .ok (.ireturn, 1) := by decide +kernel
theorem dL_law_751 : decode cL_law 751 = .ok (.aload_n 1, 1) := by decide +kernel
theorem dL_law_752 : decode cL_law 752 = .ok (.aload_n 0, 1) := by decide +kernel
theorem dL_law_753 : decode cL_law 753 = .ok (.iload_n 3, 1) := by decide +kernel
theorem dL_law_754 : decode cL_law 754 = .ok (.iconst 1, 1) := by decide +kernel
theorem dL_law_755 : decode cL_law 755 = .ok (.iadd, 1) := by decide +kernel
theorem dL_law_756 : decode cL_law 756 = .ok (.iaload, 1) := by decide +kernel
theorem dL_law_757 : decode cL_law 757 = .ok (.aload_n 0, 1) := by decide +kernel
theorem dL_law_758 : decode cL_law 758 = .ok (.iload_n 3, 1) := by decide +kernel
theorem dL_law_759 : decode cL_law 759 = .ok (.iconst 2, 1) := by decide +kernel
theorem dL_law_760 : decode cL_law 760 = .ok (.iadd, 1) := by decide +kernel
theorem dL_law_761 : decode cL_law 761 = .ok (.iaload, 1) := by decide +kernel
theorem dL_law_762 : decode cL_law 762 = .ok (.invokevirtual 86, 3) := by decide +kernel
theorem dL_law_765 : decode cL_law 765 = .ok (.aload_n 2, 1) := by decide +kernel
theorem dL_law_766 : decode cL_law 766 = .ok (.aload_n 0, 1) := by decide +kernel
theorem dL_law_767 : decode cL_law 767 = .ok (.iload_n 3, 1) := by decide +kernel
theorem dL_law_768 : decode cL_law 768 = .ok (.iconst 1, 1) := by decide +kernel
theorem dL_law_769 : decode cL_law 769 = .ok (.iadd, 1) := by decide +kernel
theorem dL_law_770 : decode cL_law 770 = .ok (.iaload, 1) := by decide +kernel
theorem dL_law_771 : decode cL_law 771 = .ok (.aload_n 0, 1) := by decide +kernel
theorem dL_law_772 : decode cL_law 772 = .ok (.iload_n 3, 1) := by decide +kernel
theorem dL_law_773 : decode cL_law 773 = .ok (.iconst 2, 1) := by decide +kernel
theorem dL_law_774 : decode cL_law 774 = .ok (.iadd, 1) := by decide +kernel
theorem dL_law_775 : decode cL_law 775 = .ok (.iaload, 1) := by decide +kernel
theorem dL_law_776 : decode cL_law 776 = .ok (.invokevirtual 89, 3) := by decide +kernel
theorem dL_law_779 : decode cL_law 779 = .ok (.if_icmp .eq 710, 3) := by decide +kernel
theorem dL_law_782 : decode cL_law 782 = .ok (.iconst 0, 1) := by decide +kernel
theorem dL_law_783 : decode cL_law 783 = .ok (.ireturn, 1) := by decide +kernel
theorem dL_law_784 : decode cL_law 784 = .ok (.aload_n 1, 1) := by decide +kernel
theorem dL_law_785 : decode cL_law 785 = .ok (.invokevirtual 90, 3) := by decide +kernel
theorem dL_law_788 : decode cL_law 788 = .ok (.aload_n 2, 1) := by decide +kernel
theorem dL_law_789 : decode cL_law 789 = .ok (.invokevirtual 93, 3) := by decide +kernel
theorem dL_law_792 : decode cL_law 792 = .ok (.if_icmp .eq 697, 3) := by decide +kernel
theorem dL_law_795 : decode cL_law 795 = .ok (.iconst 0, 1) := by decide +kernel
theorem dL_law_796 : decode cL_law 796 = .ok (.ireturn, 1) := by decide +kernel
theorem dL_law_797 : decode cL_law 797 = .ok (.aload_n 1, 1) := by decide +kernel
theorem dL_law_798 : decode cL_law 798 = .ok (.aload_n 0, 1) := by decide +kernel
theorem dL_law_799 : decode cL_law 799 = .ok (.iload_n 3, 1) := by decide +kernel
theorem dL_law_800 : decode cL_law 800 = .ok (.iconst 1, 1) := by decide +kernel
theorem dL_law_801 : decode cL_law 801 = .ok (.iadd, 1) := by decide +kernel
theorem dL_law_802 : decode cL_law 802 = .ok (.iaload, 1) := by decide +kernel
theorem dL_law_803 : decode cL_law 803 = .ok (.aload_n 0, 1) := by decide +kernel
theorem dL_law_804 : decode cL_law 804 = .ok (.iload_n 3, 1) := by decide +kernel
theorem dL_law_805 : decode cL_law 805 = .ok (.iconst 2, 1) := by decide +kernel
theorem dL_law_806 : decode cL_law 806 = .ok (.iadd, 1) := by decide +kernel
theorem dL_law_807 : decode cL_law 807 = .ok (.iaload, 1) := by decide +kernel
theorem dL_law_808 : decode cL_law 808 = .ok (.invokevirtual 94, 3) := by decide +kernel
theorem dL_law_811 : decode cL_law 811 = .ok (.aload_n 2, 1) := by decide +kernel
theorem dL_law_812 : decode cL_law 812 = .ok (.aload_n 0, 1) := by decide +kernel
theorem dL_law_813 : decode cL_law 813 = .ok (.iload_n 3, 1) := by decide +kernel
theorem dL_law_814 : decode cL_law 814 = .ok (.iconst 1, 1) := by decide +kernel
theorem dL_law_815 : decode cL_law 815 = .ok (.iadd, 1) := by decide +kernel
theorem dL_law_816 : decode cL_law 816 = .ok (.iaload, 1) := by decide +kernel
theorem dL_law_817 : decode cL_law 817 = .ok (.aload_n 0, 1) := by decide +kernel
theorem dL_law_818 : decode cL_law 818 = .ok (.iload_n 3, 1) := by decide +kernel
theorem dL_law_819 : decode cL_law 819 = .ok (.iconst 2, 1) := by decide +kernel
theorem dL_law_820 : decode cL_law 820 = .ok (.iadd, 1) := by decide +kernel
theorem dL_law_821 : decode cL_law 821 = .ok (.iaload, 1) := by decide +kernel
theorem dL_law_822 : decode cL_law 822 = .ok (.invokevirtual 97, 3) := by decide +kernel
theorem dL_law_825 : decode cL_law 825 = .ok (.if_icmp .eq 664, 3) := by decide +kernel
theorem dL_law_828 : decode cL_law 828 = .ok (.iconst 0, 1) := by decide +kernel
theorem dL_law_829 : decode cL_law 829 = .ok (.ireturn, 1) := by decide +kernel
theorem dL_law_830 : decode cL_law 830 = .ok (.aload_n 1, 1) := by decide +kernel
theorem dL_law_831 : decode cL_law 831 = .ok (.aload_n 0, 1) := by decide +kernel
theorem dL_law_832 : decode cL_law 832 = .ok (.iload_n 3, 1) := by decide +kernel
theorem dL_law_833 : decode cL_law 833 = .ok (.iconst 1, 1) := by decide +kernel
theorem dL_law_834 : decode cL_law 834 = .ok (.iadd, 1) := by decide +kernel
theorem dL_law_835 : decode cL_law 835 = .ok (.iaload, 1) := by decide +kernel
theorem dL_law_836 : decode cL_law 836 = .ok (.invokevirtual 98, 3) := by decide +kernel
theorem dL_law_839 : decode cL_law 839 = .ok (.aload_n 2, 1) := by decide +kernel
theorem dL_law_840 : decode cL_law 840 = .ok (.aload_n 0, 1) := by decide +kernel
theorem dL_law_841 : decode cL_law 841 = .ok (.iload_n 3, 1) := by decide +kernel
theorem dL_law_842 : decode cL_law 842 = .ok (.iconst 1, 1) := by decide +kernel
theorem dL_law_843 : decode cL_law 843 = .ok (.iadd, 1) := by decide +kernel
theorem dL_law_844 : decode cL_law 844 = .ok (.iaload, 1) := by decide +kernel
theorem dL_law_845 : decode cL_law 845 = .ok (.invokevirtual 101, 3) := by decide +kernel
theorem dL_law_848 : decode cL_law 848 = .ok (.if_icmp .eq 641, 3) := by decide +kernel
theorem dL_law_851 : decode cL_law 851 = .ok (.iconst 0, 1) := by decide +kernel
theorem dL_law_852 : decode cL_law 852 = .ok (.ireturn, 1) := by decide +kernel
theorem dL_law_853 : decode cL_law 853 = .ok (.aload_n 1, 1) := by decide +kernel
theorem dL_law_854 : decode cL_law 854 = .ok (.invokevirtual 102, 3) := by decide +kernel
theorem dL_law_857 : decode cL_law 857 = .ok (.aload_n 2, 1) := by decide +kernel
theorem dL_law_858 : decode cL_law 858 = .ok (.invokevirtual 105, 3) := by decide +kernel
theorem dL_law_861 : decode cL_law 861 = .ok (.if_icmp .eq 628, 3) := by decide +kernel
theorem dL_law_864 : decode cL_law 864 = .ok (.iconst 0, 1) := by decide +kernel
theorem dL_law_865 : decode cL_law 865 = .ok (.ireturn, 1) := by decide +kernel
theorem dL_law_866 : decode cL_law 866 = .ok (.aload_n 1, 1) := by decide +kernel
theorem dL_law_867 : decode cL_law 867 = .ok (.aload_n 0, 1) := by decide +kernel
theorem dL_law_868 : decode cL_law 868 = .ok (.iload_n 3, 1) := by decide +kernel
theorem dL_law_869 : decode cL_law 869 = .ok (.iconst 1, 1) := by decide +kernel
theorem dL_law_870 : decode cL_law 870 = .ok (.iadd, 1) := by decide +kernel
theorem dL_law_871 : decode cL_law 871 = .ok (.iaload, 1) := by decide +kernel
theorem dL_law_872 : decode cL_law 872 = .ok (.aload_n 0, 1) := by decide +kernel
theorem dL_law_873 : decode cL_law 873 = .ok (.iload_n 3, 1) := by decide +kernel
theorem dL_law_874 : decode cL_law 874 = .ok (.iconst 2, 1) := by decide +kernel
theorem dL_law_875 : decode cL_law 875 = .ok (.iadd, 1) := by decide +kernel
theorem dL_law_876 : decode cL_law 876 = .ok (.iaload, 1) := by decide +kernel
theorem dL_law_877 : decode cL_law 877 = .ok (.invokevirtual 106, 3) := by decide +kernel
theorem dL_law_880 : decode cL_law 880 = .ok (.aload_n 2, 1) := by decide +kernel
theorem dL_law_881 : decode cL_law 881 = .ok (.aload_n 0, 1) := by decide +kernel
theorem dL_law_882 : decode cL_law 882 = .ok (.iload_n 3, 1) := by decide +kernel
theorem dL_law_883 : decode cL_law 883 = .ok (.iconst 1, 1) := by decide +kernel
theorem dL_law_884 : decode cL_law 884 = .ok (.iadd, 1) := by decide +kernel
theorem dL_law_885 : decode cL_law 885 = .ok (.iaload, 1) := by decide +kernel
theorem dL_law_886 : decode cL_law 886 = .ok (.aload_n 0, 1) := by decide +kernel
theorem dL_law_887 : decode cL_law 887 = .ok (.iload_n 3, 1) := by decide +kernel
theorem dL_law_888 : decode cL_law 888 = .ok (.iconst 2, 1) := by decide +kernel
theorem dL_law_889 : decode cL_law 889 = .ok (.iadd, 1) := by decide +kernel
theorem dL_law_890 : decode cL_law 890 = .ok (.iaload, 1) := by decide +kernel
theorem dL_law_891 : decode cL_law 891 = .ok (.invokevirtual 109, 3) := by decide +kernel
theorem dL_law_894 : decode cL_law 894 = .ok (.if_icmp .eq 595, 3) := by decide +kernel
theorem dL_law_897 : decode cL_law 897 = .ok (.iconst 0, 1) := by decide +kernel
theorem dL_law_898 : decode cL_law 898 = .ok (.ireturn, 1) := by decide +kernel
theorem dL_law_899 : decode cL_law 899 = .ok (.aload_n 1, 1) := by decide +kernel
theorem dL_law_900 : decode cL_law 900 = .ok (.aload_n 0, 1) := by decide +kernel
theorem dL_law_901 : decode cL_law 901 = .ok (.iload_n 3, 1) := by decide +kernel
theorem dL_law_902 : decode cL_law 902 = .ok (.iconst 1, 1) := by decide +kernel
theorem dL_law_903 : decode cL_law 903 = .ok (.iadd, 1) := by decide +kernel
theorem dL_law_904 : decode cL_law 904 = .ok (.iaload, 1) := by decide +kernel
theorem dL_law_905 : decode cL_law 905 = .ok (.invokevirtual 110, 3) := by decide +kernel
theorem dL_law_908 : decode cL_law 908 = .ok (.aload_n 2, 1) := by decide +kernel
theorem dL_law_909 : decode cL_law 909 = .ok (.aload_n 0, 1) := by decide +kernel
theorem dL_law_910 : decode cL_law 910 = .ok (.iload_n 3, 1) := by decide +kernel
theorem dL_law_911 : decode cL_law 911 = .ok (.iconst 1, 1) := by decide +kernel
theorem dL_law_912 : decode cL_law 912 = .ok (.iadd, 1) := by decide +kernel
theorem dL_law_913 : decode cL_law 913 = .ok (.iaload, 1) := by decide +kernel
theorem dL_law_914 : decode cL_law 914 = .ok (.invokevirtual 113, 3) := by decide +kernel
theorem dL_law_917 : decode cL_law 917 = .ok (.if_icmp .eq 572, 3) := by decide +kernel
theorem dL_law_920 : decode cL_law 920 = .ok (.iconst 0, 1) := by decide +kernel
theorem dL_law_921 : decode cL_law 921 = .ok (.ireturn, 1) := by decide +kernel
theorem dL_law_922 : decode cL_law 922 = .ok (.aload_n 1, 1) := by decide +kernel
theorem dL_law_923 : decode cL_law 923 = .ok (.aload_n 0, 1) := by decide +kernel
theorem dL_law_924 : decode cL_law 924 = .ok (.iload_n 3, 1) := by decide +kernel
theorem dL_law_925 : decode cL_law 925 = .ok (.iconst 1, 1) := by decide +kernel
theorem dL_law_926 : decode cL_law 926 = .ok (.iadd, 1) := by decide +kernel
theorem dL_law_927 : decode cL_law 927 = .ok (.iaload, 1) := by decide +kernel
theorem dL_law_928 : decode cL_law 928 = .ok (.aload_n 0, 1) := by decide +kernel
theorem dL_law_929 : decode cL_law 929 = .ok (.iload_n 3, 1) := by decide +kernel
theorem dL_law_930 : decode cL_law 930 = .ok (.iconst 2, 1) := by decide +kernel
theorem dL_law_931 : decode cL_law 931 = .ok (.iadd, 1) := by decide +kernel
theorem dL_law_932 : decode cL_law 932 = .ok (.iaload, 1) := by decide +kernel
theorem dL_law_933 : decode cL_law 933 = .ok (.aload_n 0, 1) := by decide +kernel
theorem dL_law_934 : decode cL_law 934 = .ok (.iload_n 3, 1) := by decide +kernel
theorem dL_law_935 : decode cL_law 935 = .ok (.iconst 3, 1) := by decide +kernel
theorem dL_law_936 : decode cL_law 936 = .ok (.iadd, 1) := by decide +kernel
theorem dL_law_937 : decode cL_law 937 = .ok (.iaload, 1) := by decide +kernel
theorem dL_law_938 : decode cL_law 938 = .ok (.invokevirtual 114, 3) := by decide +kernel
theorem dL_law_941 : decode cL_law 941 = .ok (.aload_n 2, 1) := by decide +kernel
theorem dL_law_942 : decode cL_law 942 = .ok (.aload_n 0, 1) := by decide +kernel
theorem dL_law_943 : decode cL_law 943 = .ok (.iload_n 3, 1) := by decide +kernel
theorem dL_law_944 : decode cL_law 944 = .ok (.iconst 1, 1) := by decide +kernel
theorem dL_law_945 : decode cL_law 945 = .ok (.iadd, 1) := by decide +kernel
theorem dL_law_946 : decode cL_law 946 = .ok (.iaload, 1) := by decide +kernel
theorem dL_law_947 : decode cL_law 947 = .ok (.aload_n 0, 1) := by decide +kernel
theorem dL_law_948 : decode cL_law 948 = .ok (.iload_n 3, 1) := by decide +kernel
theorem dL_law_949 : decode cL_law 949 = .ok (.iconst 2, 1) := by decide +kernel
theorem dL_law_950 : decode cL_law 950 = .ok (.iadd, 1) := by decide +kernel
theorem dL_law_951 : decode cL_law 951 = .ok (.iaload, 1) := by decide +kernel
theorem dL_law_952 : decode cL_law 952 = .ok (.aload_n 0, 1) := by decide +kernel
theorem dL_law_953 : decode cL_law 953 = .ok (.iload_n 3, 1) := by decide +kernel
theorem dL_law_954 : decode cL_law 954 = .ok (.iconst 3, 1) := by decide +kernel
theorem dL_law_955 : decode cL_law 955 = .ok (.iadd, 1) := by decide +kernel
theorem dL_law_956 : decode cL_law 956 = .ok (.iaload, 1) := by decide +kernel
theorem dL_law_957 : decode cL_law 957 = .ok (.invokevirtual 117, 3) := by decide +kernel
theorem dL_law_960 : decode cL_law 960 = .ok (.if_icmp .eq 529, 3) := by decide +kernel
theorem dL_law_963 : decode cL_law 963 = .ok (.iconst 0, 1) := by decide +kernel
theorem dL_law_964 : decode cL_law 964 = .ok (.ireturn, 1) := by decide +kernel
theorem dL_law_965 : decode cL_law 965 = .ok (.aload_n 1, 1) := by decide +kernel
theorem dL_law_966 : decode cL_law 966 = .ok (.aload_n 0, 1) := by decide +kernel
theorem dL_law_967 : decode cL_law 967 = .ok (.iload_n 3, 1) := by decide +kernel
theorem dL_law_968 : decode cL_law 968 = .ok (.iconst 1, 1) := by decide +kernel
theorem dL_law_969 : decode cL_law 969 = .ok (.iadd, 1) := by decide +kernel
theorem dL_law_970 : decode cL_law 970 = .ok (.iaload, 1) := by decide +kernel
theorem dL_law_971 : decode cL_law 971 = .ok (.invokevirtual 118, 3) := by decide +kernel
theorem dL_law_974 : decode cL_law 974 = .ok (.aload_n 2, 1) := by decide +kernel
theorem dL_law_975 : decode cL_law 975 = .ok (.aload_n 0, 1) := by decide +kernel
theorem dL_law_976 : decode cL_law 976 = .ok (.iload_n 3, 1) := by decide +kernel
theorem dL_law_977 : decode cL_law 977 = .ok (.iconst 1, 1) := by decide +kernel
theorem dL_law_978 : decode cL_law 978 = .ok (.iadd, 1) := by decide +kernel
theorem dL_law_979 : decode cL_law 979 = .ok (.iaload, 1) := by decide +kernel
theorem dL_law_980 : decode cL_law 980 = .ok (.invokevirtual 121, 3) := by decide +kernel
theorem dL_law_983 : decode cL_law 983 = .ok (.if_icmp .eq 506, 3) := by decide +kernel
theorem dL_law_986 : decode cL_law 986 = .ok (.iconst 0, 1) := by decide +kernel
theorem dL_law_987 : decode cL_law 987 = .ok (.ireturn, 1) := by decide +kernel
theorem dL_law_988 : decode cL_law 988 = .ok (.aload_n 1, 1) := by decide +kernel
theorem dL_law_989 : decode cL_law 989 = .ok (.invokevirtual 122, 3) := by decide +kernel
theorem dL_law_992 : decode cL_law 992 = .ok (.aload_n 2, 1) := by decide +kernel
theorem dL_law_993 : decode cL_law 993 = .ok (.invokevirtual 125, 3) := by decide +kernel
theorem dL_law_996 : decode cL_law 996 = .ok (.if_icmp .eq 493, 3) := by decide +kernel
theorem dL_law_999 : decode cL_law 999 = .ok (.iconst 0, 1) := by decide +kernel
theorem dL_law_1000 : decode cL_law 1000 = .ok (.ireturn, 1) := by decide +kernel
theorem dL_law_1001 : decode cL_law 1001 = .ok (.aload_n 1, 1) := by decide +kernel
theorem dL_law_1002 : decode cL_law 1002 = .ok (.aload_n 0, 1) := by decide +kernel
theorem dL_law_1003 : decode cL_law 1003 = .ok (.iload_n 3, 1) := by decide +kernel
theorem dL_law_1004 : decode cL_law 1004 = .ok (.iconst 1, 1) := by decide +kernel
theorem dL_law_1005 : decode cL_law 1005 = .ok (.iadd, 1) := by decide +kernel
theorem dL_law_1006 : decode cL_law 1006 = .ok (.iaload, 1) := by decide +kernel
theorem dL_law_1007 : decode cL_law 1007 = .ok (.aload_n 0, 1) := by decide +kernel
theorem dL_law_1008 : decode cL_law 1008 = .ok (.iload_n 3, 1) := by decide +kernel
theorem dL_law_1009 : decode cL_law 1009 = .ok (.iconst 2, 1) := by decide +kernel
theorem dL_law_1010 : decode cL_law 1010 = .ok (.iadd, 1) := by decide +kernel
theorem dL_law_1011 : decode cL_law 1011 = .ok (.iaload, 1) := by decide +kernel
theorem dL_law_1012 : decode cL_law 1012 = .ok (.invokevirtual 126, 3) := by decide +kernel
theorem dL_law_1015 : decode cL_law 1015 = .ok (.aload_n 2, 1) := by decide +kernel
theorem dL_law_1016 : decode cL_law 1016 = .ok (.aload_n 0, 1) := by decide +kernel
theorem dL_law_1017 : decode cL_law 1017 = .ok (.iload_n 3, 1) := by decide +kernel
theorem dL_law_1018 : decode cL_law 1018 = .ok (.iconst 1, 1) := by decide +kernel
theorem dL_law_1019 : decode cL_law 1019 = .ok (.iadd, 1) := by decide +kernel
theorem dL_law_1020 : decode cL_law 1020 = .ok (.iaload, 1) := by decide +kernel
theorem dL_law_1021 : decode cL_law 1021 = .ok (.aload_n 0, 1) := by decide +kernel
theorem dL_law_1022 : decode cL_law 1022 = .ok (.iload_n 3, 1) := by decide +kernel
theorem dL_law_1023 : decode cL_law 1023 = .ok (.iconst 2, 1) := by decide +kernel
theorem dL_law_1024 : decode cL_law 1024 = .ok (.iadd, 1) := by decide +kernel
theorem dL_law_1025 : decode cL_law 1025 = .ok (.iaload, 1) := by decide +kernel
theorem dL_law_1026 : decode cL_law 1026 = .ok (.invokevirtual 129, 3) := by decide +kernel
theorem dL_law_1029 : decode cL_law 1029 = .ok (.if_icmp .eq 460, 3) := by decide +kernel
theorem dL_law_1032 : decode cL_law 1032 = .ok (.iconst 0, 1) := by decide +kernel
theorem dL_law_1033 : decode cL_law 1033 = .ok (.ireturn, 1) := by decide +kernel
theorem dL_law_1034 : decode cL_law 1034 = .ok (.aload_n 1, 1) := by decide +kernel
theorem dL_law_1035 : decode cL_law 1035 = .ok (.aload_n 0, 1) := by decide +kernel
theorem dL_law_1036 : decode cL_law 1036 = .ok (.iload_n 3, 1) := by decide +kernel
theorem dL_law_1037 : decode cL_law 1037 = .ok (.iconst 1, 1) := by decide +kernel
theorem dL_law_1038 : decode cL_law 1038 = .ok (.iadd, 1) := by decide +kernel
theorem dL_law_1039 : decode cL_law 1039 = .ok (.iaload, 1) := by decide +kernel
theorem dL_law_1040 : decode cL_law 1040 = .ok (.invokevirtual 130, 3) := by decide +kernel
theorem dL_law_1043 : decode cL_law 1043 = .ok (.aload_n 2, 1) := by decide +kernel
theorem dL_law_1044 : decode cL_law 1044 = .ok (.aload_n 0, 1) := by decide +kernel
theorem dL_law_1045 : decode cL_law 1045 = .ok (.iload_n 3, 1) := by decide +kernel
theorem dL_law_1046 : decode cL_law 1046 = .ok (.iconst 1, 1) := by decide +kernel
theorem dL_law_1047 : decode cL_law 1047 = .ok (.iadd, 1) := by decide +kernel
theorem dL_law_1048 : decode cL_law 1048 = .ok (.iaload, 1) := by decide +kernel
theorem dL_law_1049 : decode cL_law 1049 = .ok (.invokevirtual 133, 3) := by decide +kernel
theorem dL_law_1052 : decode cL_law 1052 = .ok (.if_icmp .eq 437, 3) := by decide +kernel
theorem dL_law_1055 : decode cL_law 1055 = .ok (.iconst 0, 1) := by decide +kernel
theorem dL_law_1056 : decode cL_law 1056 = .ok (.ireturn, 1) := by decide +kernel
theorem dL_law_1057 : decode cL_law 1057 = .ok (.aload_n 1, 1) := by decide +kernel
theorem dL_law_1058 : decode cL_law 1058 = .ok (.aload_n 0, 1) := by decide +kernel
theorem dL_law_1059 : decode cL_law 1059 = .ok (.iload_n 3, 1) := by decide +kernel
theorem dL_law_1060 : decode cL_law 1060 = .ok (.iconst 1, 1) := by decide +kernel
theorem dL_law_1061 : decode cL_law 1061 = .ok (.iadd, 1) := by decide +kernel
theorem dL_law_1062 : decode cL_law 1062 = .ok (.iaload, 1) := by decide +kernel
theorem dL_law_1063 : decode cL_law 1063 = .ok (.aload_n 0, 1) := by decide +kernel
theorem dL_law_1064 : decode cL_law 1064 = .ok (.iload_n 3, 1) := by decide +kernel
theorem dL_law_1065 : decode cL_law 1065 = .ok (.iconst 2, 1) := by decide +kernel
theorem dL_law_1066 : decode cL_law 1066 = .ok (.iadd, 1) := by decide +kernel
theorem dL_law_1067 : decode cL_law 1067 = .ok (.iaload, 1) := by decide +kernel
theorem dL_law_1068 : decode cL_law 1068 = .ok (.aload_n 0, 1) := by decide +kernel
theorem dL_law_1069 : decode cL_law 1069 = .ok (.iload_n 3, 1) := by decide +kernel
theorem dL_law_1070 : decode cL_law 1070 = .ok (.iconst 3, 1) := by decide +kernel
theorem dL_law_1071 : decode cL_law 1071 = .ok (.iadd, 1) := by decide +kernel
theorem dL_law_1072 : decode cL_law 1072 = .ok (.iaload, 1) := by decide +kernel
theorem dL_law_1073 : decode cL_law 1073 = .ok (.invokevirtual 134, 3) := by decide +kernel
theorem dL_law_1076 : decode cL_law 1076 = .ok (.aload_n 2, 1) := by decide +kernel
theorem dL_law_1077 : decode cL_law 1077 = .ok (.aload_n 0, 1) := by decide +kernel
theorem dL_law_1078 : decode cL_law 1078 = .ok (.iload_n 3, 1) := by decide +kernel
theorem dL_law_1079 : decode cL_law 1079 = .ok (.iconst 1, 1) := by decide +kernel
theorem dL_law_1080 : decode cL_law 1080 = .ok (.iadd, 1) := by decide +kernel
theorem dL_law_1081 : decode cL_law 1081 = .ok (.iaload, 1) := by decide +kernel
theorem dL_law_1082 : decode cL_law 1082 = .ok (.aload_n 0, 1) := by decide +kernel
theorem dL_law_1083 : decode cL_law 1083 = .ok (.iload_n 3, 1) := by decide +kernel
theorem dL_law_1084 : decode cL_law 1084 = .ok (.iconst 2, 1) := by decide +kernel
theorem dL_law_1085 : decode cL_law 1085 = .ok (.iadd, 1) := by decide +kernel
theorem dL_law_1086 : decode cL_law 1086 = .ok (.iaload, 1) := by decide +kernel
theorem dL_law_1087 : decode cL_law 1087 = .ok (.aload_n 0, 1) := by decide +kernel
theorem dL_law_1088 : decode cL_law 1088 = .ok (.iload_n 3, 1) := by decide +kernel
theorem dL_law_1089 : decode cL_law 1089 = .ok (.iconst 3, 1) := by decide +kernel
theorem dL_law_1090 : decode cL_law 1090 = .ok (.iadd, 1) := by decide +kernel
theorem dL_law_1091 : decode cL_law 1091 = .ok (.iaload, 1) := by decide +kernel
theorem dL_law_1092 : decode cL_law 1092 = .ok (.invokevirtual 137, 3) := by decide +kernel
theorem dL_law_1095 : decode cL_law 1095 = .ok (.if_icmp .eq 394, 3) := by decide +kernel
theorem dL_law_1098 : decode cL_law 1098 = .ok (.iconst 0, 1) := by decide +kernel
theorem dL_law_1099 : decode cL_law 1099 = .ok (.ireturn, 1) := by decide +kernel
theorem dL_law_1100 : decode cL_law 1100 = .ok (.aload_n 1, 1) := by decide +kernel
theorem dL_law_1101 : decode cL_law 1101 = .ok (.aload_n 0, 1) := by decide +kernel
theorem dL_law_1102 : decode cL_law 1102 = .ok (.iload_n 3, 1) := by decide +kernel
theorem dL_law_1103 : decode cL_law 1103 = .ok (.iconst 1, 1) := by decide +kernel
theorem dL_law_1104 : decode cL_law 1104 = .ok (.iadd, 1) := by decide +kernel
theorem dL_law_1105 : decode cL_law 1105 = .ok (.iaload, 1) := by decide +kernel
theorem dL_law_1106 : decode cL_law 1106 = .ok (.aload_n 0, 1) := by decide +kernel
theorem dL_law_1107 : decode cL_law 1107 = .ok (.iload_n 3, 1) := by decide +kernel
theorem dL_law_1108 : decode cL_law 1108 = .ok (.iconst 2, 1) := by decide +kernel
theorem dL_law_1109 : decode cL_law 1109 = .ok (.iadd, 1) := by decide +kernel
theorem dL_law_1110 : decode cL_law 1110 = .ok (.iaload, 1) := by decide +kernel
theorem dL_law_1111 : decode cL_law 1111 = .ok (.aload_n 0, 1) := by decide +kernel
theorem dL_law_1112 : decode cL_law 1112 = .ok (.iload_n 3, 1) := by decide +kernel
theorem dL_law_1113 : decode cL_law 1113 = .ok (.iconst 3, 1) := by decide +kernel
theorem dL_law_1114 : decode cL_law 1114 = .ok (.iadd, 1) := by decide +kernel
theorem dL_law_1115 : decode cL_law 1115 = .ok (.iaload, 1) := by decide +kernel
theorem dL_law_1116 : decode cL_law 1116 = .ok (.invokevirtual 138, 3) := by decide +kernel
theorem dL_law_1119 : decode cL_law 1119 = .ok (.aload_n 2, 1) := by decide +kernel
theorem dL_law_1120 : decode cL_law 1120 = .ok (.aload_n 0, 1) := by decide +kernel
theorem dL_law_1121 : decode cL_law 1121 = .ok (.iload_n 3, 1) := by decide +kernel
theorem dL_law_1122 : decode cL_law 1122 = .ok (.iconst 1, 1) := by decide +kernel
theorem dL_law_1123 : decode cL_law 1123 = .ok (.iadd, 1) := by decide +kernel
theorem dL_law_1124 : decode cL_law 1124 = .ok (.iaload, 1) := by decide +kernel
theorem dL_law_1125 : decode cL_law 1125 = .ok (.aload_n 0, 1) := by decide +kernel
theorem dL_law_1126 : decode cL_law 1126 = .ok (.iload_n 3, 1) := by decide +kernel
theorem dL_law_1127 : decode cL_law 1127 = .ok (.iconst 2, 1) := by decide +kernel
theorem dL_law_1128 : decode cL_law 1128 = .ok (.iadd, 1) := by decide +kernel
theorem dL_law_1129 : decode cL_law 1129 = .ok (.iaload, 1) := by decide +kernel
theorem dL_law_1130 : decode cL_law 1130 = .ok (.aload_n 0, 1) := by decide +kernel
theorem dL_law_1131 : decode cL_law 1131 = .ok (.iload_n 3, 1) := by decide +kernel
theorem dL_law_1132 : decode cL_law 1132 = .ok (.iconst 3, 1) := by decide +kernel
theorem dL_law_1133 : decode cL_law 1133 = .ok (.iadd, 1) := by decide +kernel
theorem dL_law_1134 : decode cL_law 1134 = .ok (.iaload, 1) := by decide +kernel
theorem dL_law_1135 : decode cL_law 1135 = .ok (.invokevirtual 141, 3) := by decide +kernel
theorem dL_law_1138 : decode cL_law 1138 = .ok (.if_icmp .eq 351, 3) := by decide +kernel
theorem dL_law_1141 : decode cL_law 1141 = .ok (.iconst 0, 1) := by decide +kernel
theorem dL_law_1142 : decode cL_law 1142 = .ok (.ireturn, 1) := by decide +kernel
theorem dL_law_1143 : decode cL_law 1143 = .ok (.aload_n 1, 1) := by decide +kernel
theorem dL_law_1144 : decode cL_law 1144 = .ok (.aload_n 0, 1) := by decide +kernel
theorem dL_law_1145 : decode cL_law 1145 = .ok (.iload_n 3, 1) := by decide +kernel
theorem dL_law_1146 : decode cL_law 1146 = .ok (.iconst 1, 1) := by decide +kernel
theorem dL_law_1147 : decode cL_law 1147 = .ok (.iadd, 1) := by decide +kernel
theorem dL_law_1148 : decode cL_law 1148 = .ok (.iaload, 1) := by decide +kernel
theorem dL_law_1149 : decode cL_law 1149 = .ok (.invokevirtual 142, 3) := by decide +kernel
theorem dL_law_1152 : decode cL_law 1152 = .ok (.aload_n 2, 1) := by decide +kernel
theorem dL_law_1153 : decode cL_law 1153 = .ok (.aload_n 0, 1) := by decide +kernel
theorem dL_law_1154 : decode cL_law 1154 = .ok (.iload_n 3, 1) := by decide +kernel
theorem dL_law_1155 : decode cL_law 1155 = .ok (.iconst 1, 1) := by decide +kernel
theorem dL_law_1156 : decode cL_law 1156 = .ok (.iadd, 1) := by decide +kernel
theorem dL_law_1157 : decode cL_law 1157 = .ok (.iaload, 1) := by decide +kernel
theorem dL_law_1158 : decode cL_law 1158 = .ok (.invokevirtual 145, 3) := by decide +kernel
theorem dL_law_1161 : decode cL_law 1161 = .ok (.if_icmp .eq 328, 3) := by decide +kernel
theorem dL_law_1164 : decode cL_law 1164 = .ok (.iconst 0, 1) := by decide +kernel
theorem dL_law_1165 : decode cL_law 1165 = .ok (.ireturn, 1) := by decide +kernel
theorem dL_law_1166 : decode cL_law 1166 = .ok (.aload_n 1, 1) := by decide +kernel
theorem dL_law_1167 : decode cL_law 1167 = .ok (.aload_n 0, 1) := by decide +kernel
theorem dL_law_1168 : decode cL_law 1168 = .ok (.iload_n 3, 1) := by decide +kernel
theorem dL_law_1169 : decode cL_law 1169 = .ok (.iconst 1, 1) := by decide +kernel
theorem dL_law_1170 : decode cL_law 1170 = .ok (.iadd, 1) := by decide +kernel
theorem dL_law_1171 : decode cL_law 1171 = .ok (.iaload, 1) := by decide +kernel
theorem dL_law_1172 : decode cL_law 1172 = .ok (.invokevirtual 146, 3) := by decide +kernel
theorem dL_law_1175 : decode cL_law 1175 = .ok (.aload_n 2, 1) := by decide +kernel
theorem dL_law_1176 : decode cL_law 1176 = .ok (.aload_n 0, 1) := by decide +kernel
theorem dL_law_1177 : decode cL_law 1177 = .ok (.iload_n 3, 1) := by decide +kernel
theorem dL_law_1178 : decode cL_law 1178 = .ok (.iconst 1, 1) := by decide +kernel
theorem dL_law_1179 : decode cL_law 1179 = .ok (.iadd, 1) := by decide +kernel
theorem dL_law_1180 : decode cL_law 1180 = .ok (.iaload, 1) := by decide +kernel
theorem dL_law_1181 : decode cL_law 1181 = .ok (.invokevirtual 149, 3) := by decide +kernel
theorem dL_law_1184 : decode cL_law 1184 = .ok (.if_icmp .eq 305, 3) := by decide +kernel
theorem dL_law_1187 : decode cL_law 1187 = .ok (.iconst 0, 1) := by decide +kernel
theorem dL_law_1188 : decode cL_law 1188 = .ok (.ireturn, 1) := by decide +kernel
theorem dL_law_1189 : decode cL_law 1189 = .ok (.aload_n 1, 1) := by decide +kernel
theorem dL_law_1190 : decode cL_law 1190 = .ok (.aload_n 0, 1) := by decide +kernel
theorem dL_law_1191 : decode cL_law 1191 = .ok (.iload_n 3, 1) := by decide +kernel
theorem dL_law_1192 : decode cL_law 1192 = .ok (.iconst 1, 1) := by decide +kernel
theorem dL_law_1193 : decode cL_law 1193 = .ok (.iadd, 1) := by decide +kernel
theorem dL_law_1194 : decode cL_law 1194 = .ok (.iaload, 1) := by decide +kernel
theorem dL_law_1195 : decode cL_law 1195 = .ok (.aload_n 0, 1) := by decide +kernel
theorem dL_law_1196 : decode cL_law 1196 = .ok (.iload_n 3, 1) := by decide +kernel
theorem dL_law_1197 : decode cL_law 1197 = .ok (.iconst 2, 1) := by decide +kernel
theorem dL_law_1198 : decode cL_law 1198 = .ok (.iadd, 1) := by decide +kernel
theorem dL_law_1199 : decode cL_law 1199 = .ok (.iaload, 1) := by decide +kernel
theorem dL_law_1200 : decode cL_law 1200 = .ok (.aload_n 0, 1) := by decide +kernel
theorem dL_law_1201 : decode cL_law 1201 = .ok (.iload_n 3, 1) := by decide +kernel
theorem dL_law_1202 : decode cL_law 1202 = .ok (.iconst 3, 1) := by decide +kernel
theorem dL_law_1203 : decode cL_law 1203 = .ok (.iadd, 1) := by decide +kernel
theorem dL_law_1204 : decode cL_law 1204 = .ok (.iaload, 1) := by decide +kernel
theorem dL_law_1205 : decode cL_law 1205 = .ok (.aload_n 0, 1) := by decide +kernel
theorem dL_law_1206 : decode cL_law 1206 = .ok (.iload_n 3, 1) := by decide +kernel
theorem dL_law_1207 : decode cL_law 1207 = .ok (.iconst 4, 1) := by decide +kernel
theorem dL_law_1208 : decode cL_law 1208 = .ok (.iadd, 1) := by decide +kernel
theorem dL_law_1209 : decode cL_law 1209 = .ok (.iaload, 1) := by decide +kernel
theorem dL_law_1210 : decode cL_law 1210 = .ok (.aload_n 0, 1) := by decide +kernel
theorem dL_law_1211 : decode cL_law 1211 = .ok (.iload_n 3, 1) := by decide +kernel
theorem dL_law_1212 : decode cL_law 1212 = .ok (.iconst 5, 1) := by decide +kernel
theorem dL_law_1213 : decode cL_law 1213 = .ok (.iadd, 1) := by decide +kernel
theorem dL_law_1214 : decode cL_law 1214 = .ok (.iaload, 1) := by decide +kernel
theorem dL_law_1215 : decode cL_law 1215 = .ok (.invokevirtual 150, 3) := by decide +kernel
theorem dL_law_1218 : decode cL_law 1218 = .ok (.aload_n 2, 1) := by decide +kernel
theorem dL_law_1219 : decode cL_law 1219 = .ok (.aload_n 0, 1) := by decide +kernel
theorem dL_law_1220 : decode cL_law 1220 = .ok (.iload_n 3, 1) := by decide +kernel
theorem dL_law_1221 : decode cL_law 1221 = .ok (.iconst 1, 1) := by decide +kernel
theorem dL_law_1222 : decode cL_law 1222 = .ok (.iadd, 1) := by decide +kernel
theorem dL_law_1223 : decode cL_law 1223 = .ok (.iaload, 1) := by decide +kernel
theorem dL_law_1224 : decode cL_law 1224 = .ok (.aload_n 0, 1) := by decide +kernel
theorem dL_law_1225 : decode cL_law 1225 = .ok (.iload_n 3, 1) := by decide +kernel
theorem dL_law_1226 : decode cL_law 1226 = .ok (.iconst 2, 1) := by decide +kernel
theorem dL_law_1227 : decode cL_law 1227 = .ok (.iadd, 1) := by decide +kernel
theorem dL_law_1228 : decode cL_law 1228 = .ok (.iaload, 1) := by decide +kernel
theorem dL_law_1229 : decode cL_law 1229 = .ok (.aload_n 0, 1) := by decide +kernel
theorem dL_law_1230 : decode cL_law 1230 = .ok (.iload_n 3, 1) := by decide +kernel
theorem dL_law_1231 : decode cL_law 1231 = .ok (.iconst 3, 1) := by decide +kernel
theorem dL_law_1232 : decode cL_law 1232 = .ok (.iadd, 1) := by decide +kernel
theorem dL_law_1233 : decode cL_law 1233 = .ok (.iaload, 1) := by decide +kernel
theorem dL_law_1234 : decode cL_law 1234 = .ok (.aload_n 0, 1) := by decide +kernel
theorem dL_law_1235 : decode cL_law 1235 = .ok (.iload_n 3, 1) := by decide +kernel
theorem dL_law_1236 : decode cL_law 1236 = .ok (.iconst 4, 1) := by decide +kernel
theorem dL_law_1237 : decode cL_law 1237 = .ok (.iadd, 1) := by decide +kernel
theorem dL_law_1238 : decode cL_law 1238 = .ok (.iaload, 1) := by decide +kernel
theorem dL_law_1239 : decode cL_law 1239 = .ok (.aload_n 0, 1) := by decide +kernel
theorem dL_law_1240 : decode cL_law 1240 = .ok (.iload_n 3, 1) := by decide +kernel
theorem dL_law_1241 : decode cL_law 1241 = .ok (.iconst 5, 1) := by decide +kernel
theorem dL_law_1242 : decode cL_law 1242 = .ok (.iadd, 1) := by decide +kernel
theorem dL_law_1243 : decode cL_law 1243 = .ok (.iaload, 1) := by decide +kernel
theorem dL_law_1244 : decode cL_law 1244 = .ok (.invokevirtual 154, 3) := by decide +kernel
theorem dL_law_1247 : decode cL_law 1247 = .ok (.if_icmp .eq 242, 3) := by decide +kernel
theorem dL_law_1250 : decode cL_law 1250 = .ok (.iconst 0, 1) := by decide +kernel
theorem dL_law_1251 : decode cL_law 1251 = .ok (.ireturn, 1) := by decide +kernel
theorem dL_law_1252 : decode cL_law 1252 = .ok (.aload_n 1, 1) := by decide +kernel
theorem dL_law_1253 : decode cL_law 1253 = .ok (.aload_n 0, 1) := by decide +kernel
theorem dL_law_1254 : decode cL_law 1254 = .ok (.iload_n 3, 1) := by decide +kernel
theorem dL_law_1255 : decode cL_law 1255 = .ok (.iconst 1, 1) := by decide +kernel
theorem dL_law_1256 : decode cL_law 1256 = .ok (.iadd, 1) := by decide +kernel
theorem dL_law_1257 : decode cL_law 1257 = .ok (.iaload, 1) := by decide +kernel
theorem dL_law_1258 : decode cL_law 1258 = .ok (.aload_n 0, 1) := by decide +kernel
theorem dL_law_1259 : decode cL_law 1259 = .ok (.iload_n 3, 1) := by decide +kernel
theorem dL_law_1260 : decode cL_law 1260 = .ok (.iconst 2, 1) := by decide +kernel
theorem dL_law_1261 : decode cL_law 1261 = .ok (.iadd, 1) := by decide +kernel
theorem dL_law_1262 : decode cL_law 1262 = .ok (.iaload, 1) := by decide +kernel
theorem dL_law_1263 : decode cL_law 1263 = .ok (.aload_n 0, 1) := by decide +kernel
theorem dL_law_1264 : decode cL_law 1264 = .ok (.iload_n 3, 1) := by decide +kernel
theorem dL_law_1265 : decode cL_law 1265 = .ok (.iconst 3, 1) := by decide +kernel
theorem dL_law_1266 : decode cL_law 1266 = .ok (.iadd, 1) := by decide +kernel
theorem dL_law_1267 : decode cL_law 1267 = .ok (.iaload, 1) := by decide +kernel
theorem dL_law_1268 : decode cL_law 1268 = .ok (.invokevirtual 155, 3) := by decide +kernel
theorem dL_law_1271 : decode cL_law 1271 = .ok (.aload_n 2, 1) := by decide +kernel
theorem dL_law_1272 : decode cL_law 1272 = .ok (.aload_n 0, 1) := by decide +kernel
theorem dL_law_1273 : decode cL_law 1273 = .ok (.iload_n 3, 1) := by decide +kernel
theorem dL_law_1274 : decode cL_law 1274 = .ok (.iconst 1, 1) := by decide +kernel
theorem dL_law_1275 : decode cL_law 1275 = .ok (.iadd, 1) := by decide +kernel
theorem dL_law_1276 : decode cL_law 1276 = .ok (.iaload, 1) := by decide +kernel
theorem dL_law_1277 : decode cL_law 1277 = .ok (.aload_n 0, 1) := by decide +kernel
theorem dL_law_1278 : decode cL_law 1278 = .ok (.iload_n 3, 1) := by decide +kernel
theorem dL_law_1279 : decode cL_law 1279 = .ok (.iconst 2, 1) := by decide +kernel
theorem dL_law_1280 : decode cL_law 1280 = .ok (.iadd, 1) := by decide +kernel
theorem dL_law_1281 : decode cL_law 1281 = .ok (.iaload, 1) := by decide +kernel
theorem dL_law_1282 : decode cL_law 1282 = .ok (.aload_n 0, 1) := by decide +kernel
theorem dL_law_1283 : decode cL_law 1283 = .ok (.iload_n 3, 1) := by decide +kernel
theorem dL_law_1284 : decode cL_law 1284 = .ok (.iconst 3, 1) := by decide +kernel
theorem dL_law_1285 : decode cL_law 1285 = .ok (.iadd, 1) := by decide +kernel
theorem dL_law_1286 : decode cL_law 1286 = .ok (.iaload, 1) := by decide +kernel
theorem dL_law_1287 : decode cL_law 1287 = .ok (.invokevirtual 158, 3) := by decide +kernel
theorem dL_law_1290 : decode cL_law 1290 = .ok (.if_icmp .eq 199, 3) := by decide +kernel
theorem dL_law_1293 : decode cL_law 1293 = .ok (.iconst 0, 1) := by decide +kernel
theorem dL_law_1294 : decode cL_law 1294 = .ok (.ireturn, 1) := by decide +kernel
theorem dL_law_1295 : decode cL_law 1295 = .ok (.aload_n 1, 1) := by decide +kernel
theorem dL_law_1296 : decode cL_law 1296 = .ok (.aload_n 0, 1) := by decide +kernel
theorem dL_law_1297 : decode cL_law 1297 = .ok (.iload_n 3, 1) := by decide +kernel
theorem dL_law_1298 : decode cL_law 1298 = .ok (.iconst 1, 1) := by decide +kernel
theorem dL_law_1299 : decode cL_law 1299 = .ok (.iadd, 1) := by decide +kernel
theorem dL_law_1300 : decode cL_law 1300 = .ok (.iaload, 1) := by decide +kernel
theorem dL_law_1301 : decode cL_law 1301 = .ok (.aload_n 0, 1) := by decide +kernel
theorem dL_law_1302 : decode cL_law 1302 = .ok (.iload_n 3, 1) := by decide +kernel
theorem dL_law_1303 : decode cL_law 1303 = .ok (.iconst 2, 1) := by decide +kernel
theorem dL_law_1304 : decode cL_law 1304 = .ok (.iadd, 1) := by decide +kernel
theorem dL_law_1305 : decode cL_law 1305 = .ok (.iaload, 1) := by decide +kernel
theorem dL_law_1306 : decode cL_law 1306 = .ok (.invokevirtual 159, 3) := by decide +kernel
theorem dL_law_1309 : decode cL_law 1309 = .ok (.aload_n 2, 1) := by decide +kernel
theorem dL_law_1310 : decode cL_law 1310 = .ok (.aload_n 0, 1) := by decide +kernel
theorem dL_law_1311 : decode cL_law 1311 = .ok (.iload_n 3, 1) := by decide +kernel
theorem dL_law_1312 : decode cL_law 1312 = .ok (.iconst 1, 1) := by decide +kernel
theorem dL_law_1313 : decode cL_law 1313 = .ok (.iadd, 1) := by decide +kernel
theorem dL_law_1314 : decode cL_law 1314 = .ok (.iaload, 1) := by decide +kernel
theorem dL_law_1315 : decode cL_law 1315 = .ok (.aload_n 0, 1) := by decide +kernel
theorem dL_law_1316 : decode cL_law 1316 = .ok (.iload_n 3, 1) := by decide +kernel
theorem dL_law_1317 : decode cL_law 1317 = .ok (.iconst 2, 1) := by decide +kernel
theorem dL_law_1318 : decode cL_law 1318 = .ok (.iadd, 1) := by decide +kernel
theorem dL_law_1319 : decode cL_law 1319 = .ok (.iaload, 1) := by decide +kernel
theorem dL_law_1320 : decode cL_law 1320 = .ok (.invokevirtual 162, 3) := by decide +kernel
theorem dL_law_1323 : decode cL_law 1323 = .ok (.if_icmp .eq 166, 3) := by decide +kernel
theorem dL_law_1326 : decode cL_law 1326 = .ok (.iconst 0, 1) := by decide +kernel
theorem dL_law_1327 : decode cL_law 1327 = .ok (.ireturn, 1) := by decide +kernel
theorem dL_law_1328 : decode cL_law 1328 = .ok (.aload_n 1, 1) := by decide +kernel
theorem dL_law_1329 : decode cL_law 1329 = .ok (.aload_n 0, 1) := by decide +kernel
theorem dL_law_1330 : decode cL_law 1330 = .ok (.iload_n 3, 1) := by decide +kernel
theorem dL_law_1331 : decode cL_law 1331 = .ok (.iconst 1, 1) := by decide +kernel
theorem dL_law_1332 : decode cL_law 1332 = .ok (.iadd, 1) := by decide +kernel
theorem dL_law_1333 : decode cL_law 1333 = .ok (.iaload, 1) := by decide +kernel
theorem dL_law_1334 : decode cL_law 1334 = .ok (.aload_n 0, 1) := by decide +kernel
theorem dL_law_1335 : decode cL_law 1335 = .ok (.iload_n 3, 1) := by decide +kernel
theorem dL_law_1336 : decode cL_law 1336 = .ok (.iconst 2, 1) := by decide +kernel
theorem dL_law_1337 : decode cL_law 1337 = .ok (.iadd, 1) := by decide +kernel
theorem dL_law_1338 : decode cL_law 1338 = .ok (.iaload, 1) := by decide +kernel
theorem dL_law_1339 : decode cL_law 1339 = .ok (.invokevirtual 163, 3) := by decide +kernel
theorem dL_law_1342 : decode cL_law 1342 = .ok (.aload_n 2, 1) := by decide +kernel
theorem dL_law_1343 : decode cL_law 1343 = .ok (.aload_n 0, 1) := by decide +kernel
theorem dL_law_1344 : decode cL_law 1344 = .ok (.iload_n 3, 1) := by decide +kernel
theorem dL_law_1345 : decode cL_law 1345 = .ok (.iconst 1, 1) := by decide +kernel
theorem dL_law_1346 : decode cL_law 1346 = .ok (.iadd, 1) := by decide +kernel
theorem dL_law_1347 : decode cL_law 1347 = .ok (.iaload, 1) := by decide +kernel
theorem dL_law_1348 : decode cL_law 1348 = .ok (.aload_n 0, 1) := by decide +kernel
theorem dL_law_1349 : decode cL_law 1349 = .ok (.iload_n 3, 1) := by decide +kernel
theorem dL_law_1350 : decode cL_law 1350 = .ok (.iconst 2, 1) := by decide +kernel
theorem dL_law_1351 : decode cL_law 1351 = .ok (.iadd, 1) := by decide +kernel
theorem dL_law_1352 : decode cL_law 1352 = .ok (.iaload, 1) := by decide +kernel
theorem dL_law_1353 : decode cL_law 1353 = .ok (.invokevirtual 166, 3) := by decide +kernel
theorem dL_law_1356 : decode cL_law 1356 = .ok (.if_icmp .eq 133, 3) := by decide +kernel
theorem dL_law_1359 : decode cL_law 1359 = .ok (.iconst 0, 1) := by decide +kernel
theorem dL_law_1360 : decode cL_law 1360 = .ok (.ireturn, 1) := by decide +kernel
theorem dL_law_1361 : decode cL_law 1361 = .ok (.aload_n 1, 1) := by decide +kernel
theorem dL_law_1362 : decode cL_law 1362 = .ok (.aload_n 0, 1) := by decide +kernel
theorem dL_law_1363 : decode cL_law 1363 = .ok (.iload_n 3, 1) := by decide +kernel
theorem dL_law_1364 : decode cL_law 1364 = .ok (.iconst 1, 1) := by decide +kernel
theorem dL_law_1365 : decode cL_law 1365 = .ok (.iadd, 1) := by decide +kernel
theorem dL_law_1366 : decode cL_law 1366 = .ok (.iaload, 1) := by decide +kernel
theorem dL_law_1367 : decode cL_law 1367 = .ok (.aload_n 0, 1) := by decide +kernel
theorem dL_law_1368 : decode cL_law 1368 = .ok (.iload_n 3, 1) := by decide +kernel
theorem dL_law_1369 : decode cL_law 1369 = .ok (.iconst 2, 1) := by decide +kernel
theorem dL_law_1370 : decode cL_law 1370 = .ok (.iadd, 1) := by decide +kernel
theorem dL_law_1371 : decode cL_law 1371 = .ok (.iaload, 1) := by decide +kernel
theorem dL_law_1372 : decode cL_law 1372 = .ok (.invokevirtual 167, 3) := by decide +kernel
theorem dL_law_1375 : decode cL_law 1375 = .ok (.aload_n 2, 1) := by decide +kernel
theorem dL_law_1376 : decode cL_law 1376 = .ok (.aload_n 0, 1) := by decide +kernel
theorem dL_law_1377 : decode cL_law 1377 = .ok (.iload_n 3, 1) := by decide +kernel
theorem dL_law_1378 : decode cL_law 1378 = .ok (.iconst 1, 1) := by decide +kernel
theorem dL_law_1379 : decode cL_law 1379 = .ok (.iadd, 1) := by decide +kernel
theorem dL_law_1380 : decode cL_law 1380 = .ok (.iaload, 1) := by decide +kernel
theorem dL_law_1381 : decode cL_law 1381 = .ok (.aload_n 0, 1) := by decide +kernel
theorem dL_law_1382 : decode cL_law 1382 = .ok (.iload_n 3, 1) := by decide +kernel
theorem dL_law_1383 : decode cL_law 1383 = .ok (.iconst 2, 1) := by decide +kernel
theorem dL_law_1384 : decode cL_law 1384 = .ok (.iadd, 1) := by decide +kernel
theorem dL_law_1385 : decode cL_law 1385 = .ok (.iaload, 1) := by decide +kernel
theorem dL_law_1386 : decode cL_law 1386 = .ok (.invokevirtual 170, 3) := by decide +kernel
theorem dL_law_1389 : decode cL_law 1389 = .ok (.if_icmp .eq 100, 3) := by decide +kernel
theorem dL_law_1392 : decode cL_law 1392 = .ok (.iconst 0, 1) := by decide +kernel
theorem dL_law_1393 : decode cL_law 1393 = .ok (.ireturn, 1) := by decide +kernel
theorem dL_law_1394 : decode cL_law 1394 = .ok (.aload_n 1, 1) := by decide +kernel
theorem dL_law_1395 : decode cL_law 1395 = .ok (.aload_n 0, 1) := by decide +kernel
theorem dL_law_1396 : decode cL_law 1396 = .ok (.iload_n 3, 1) := by decide +kernel
theorem dL_law_1397 : decode cL_law 1397 = .ok (.iconst 1, 1) := by decide +kernel
theorem dL_law_1398 : decode cL_law 1398 = .ok (.iadd, 1) := by decide +kernel
theorem dL_law_1399 : decode cL_law 1399 = .ok (.iaload, 1) := by decide +kernel
theorem dL_law_1400 : decode cL_law 1400 = .ok (.invokevirtual 171, 3) := by decide +kernel
theorem dL_law_1403 : decode cL_law 1403 = .ok (.aload_n 2, 1) := by decide +kernel
theorem dL_law_1404 : decode cL_law 1404 = .ok (.aload_n 0, 1) := by decide +kernel
theorem dL_law_1405 : decode cL_law 1405 = .ok (.iload_n 3, 1) := by decide +kernel
theorem dL_law_1406 : decode cL_law 1406 = .ok (.iconst 1, 1) := by decide +kernel
theorem dL_law_1407 : decode cL_law 1407 = .ok (.iadd, 1) := by decide +kernel
theorem dL_law_1408 : decode cL_law 1408 = .ok (.iaload, 1) := by decide +kernel
theorem dL_law_1409 : decode cL_law 1409 = .ok (.invokevirtual 174, 3) := by decide +kernel
theorem dL_law_1412 : decode cL_law 1412 = .ok (.if_icmp .eq 77, 3) := by decide +kernel
theorem dL_law_1415 : decode cL_law 1415 = .ok (.iconst 0, 1) := by decide +kernel
theorem dL_law_1416 : decode cL_law 1416 = .ok (.ireturn, 1) := by decide +kernel
theorem dL_law_1417 : decode cL_law 1417 = .ok (.aload_n 1, 1) := by decide +kernel
theorem dL_law_1418 : decode cL_law 1418 = .ok (.aload_n 0, 1) := by decide +kernel
theorem dL_law_1419 : decode cL_law 1419 = .ok (.iload_n 3, 1) := by decide +kernel
theorem dL_law_1420 : decode cL_law 1420 = .ok (.iconst 1, 1) := by decide +kernel
theorem dL_law_1421 : decode cL_law 1421 = .ok (.iadd, 1) := by decide +kernel
theorem dL_law_1422 : decode cL_law 1422 = .ok (.iaload, 1) := by decide +kernel
theorem dL_law_1423 : decode cL_law 1423 = .ok (.invokevirtual 175, 3) := by decide +kernel
theorem dL_law_1426 : decode cL_law 1426 = .ok (.aload_n 2, 1) := by decide +kernel
theorem dL_law_1427 : decode cL_law 1427 = .ok (.aload_n 0, 1) := by decide +kernel
theorem dL_law_1428 : decode cL_law 1428 = .ok (.iload_n 3, 1) := by decide +kernel
theorem dL_law_1429 : decode cL_law 1429 = .ok (.iconst 1, 1) := by decide +kernel
theorem dL_law_1430 : decode cL_law 1430 = .ok (.iadd, 1) := by decide +kernel
theorem dL_law_1431 : decode cL_law 1431 = .ok (.iaload, 1) := by decide +kernel
theorem dL_law_1432 : decode cL_law 1432 = .ok (.invokevirtual 178, 3) := by decide +kernel
theorem dL_law_1435 : decode cL_law 1435 = .ok (.if_icmp .eq 54, 3) := by decide +kernel
theorem dL_law_1438 : decode cL_law 1438 = .ok (.iconst 0, 1) := by decide +kernel
theorem dL_law_1439 : decode cL_law 1439 = .ok (.ireturn, 1) := by decide +kernel
theorem dL_law_1440 : decode cL_law 1440 = .ok (.aload_n 1, 1) := by decide +kernel
theorem dL_law_1441 : decode cL_law 1441 = .ok (.invokevirtual 179, 3) := by decide +kernel
theorem dL_law_1444 : decode cL_law 1444 = .ok (.aload_n 2, 1) := by decide +kernel
theorem dL_law_1445 : decode cL_law 1445 = .ok (.invokevirtual 182, 3) := by decide +kernel
theorem dL_law_1448 : decode cL_law 1448 = .ok (.if_icmp .eq 41, 3) := by decide +kernel
theorem dL_law_1451 : decode cL_law 1451 = .ok (.iconst 0, 1) := by decide +kernel
theorem dL_law_1452 : decode cL_law 1452 = .ok (.ireturn, 1) := by decide +kernel
theorem dL_law_1453 : decode cL_law 1453 = .ok (.aload_n 1, 1) := by decide +kernel
theorem dL_law_1454 : decode cL_law 1454 = .ok (.invokevirtual 183, 3) := by decide +kernel
theorem dL_law_1457 : decode cL_law 1457 = .ok (.aload_n 2, 1) := by decide +kernel
theorem dL_law_1458 : decode cL_law 1458 = .ok (.invokevirtual 186, 3) := by decide +kernel
theorem dL_law_1461 : decode cL_law 1461 = .ok (.if_icmp .eq 28, 3) := by decide +kernel
theorem dL_law_1464 : decode cL_law 1464 = .ok (.iconst 0, 1) := by decide +kernel
theorem dL_law_1465 : decode cL_law 1465 = .ok (.ireturn, 1) := by decide +kernel
theorem dL_law_1466 : decode cL_law 1466 = .ok (.aload_n 1, 1) := by decide +kernel
theorem dL_law_1467 : decode cL_law 1467 = .ok (.aload_n 0, 1) := by decide +kernel
theorem dL_law_1468 : decode cL_law 1468 = .ok (.iload_n 3, 1) := by decide +kernel
theorem dL_law_1469 : decode cL_law 1469 = .ok (.iconst 1, 1) := by decide +kernel
theorem dL_law_1470 : decode cL_law 1470 = .ok (.iadd, 1) := by decide +kernel
theorem dL_law_1471 : decode cL_law 1471 = .ok (.iaload, 1) := by decide +kernel
theorem dL_law_1472 : decode cL_law 1472 = .ok (.invokevirtual 187, 3) := by decide +kernel
theorem dL_law_1475 : decode cL_law 1475 = .ok (.aload_n 2, 1) := by decide +kernel
theorem dL_law_1476 : decode cL_law 1476 = .ok (.aload_n 0, 1) := by decide +kernel
theorem dL_law_1477 : decode cL_law 1477 = .ok (.iload_n 3, 1) := by decide +kernel
theorem dL_law_1478 : decode cL_law 1478 = .ok (.iconst 1, 1) := by decide +kernel
theorem dL_law_1479 : decode cL_law 1479 = .ok (.iadd, 1) := by decide +kernel
theorem dL_law_1480 : decode cL_law 1480 = .ok (.iaload, 1) := by decide +kernel
theorem dL_law_1481 : decode cL_law 1481 = .ok (.invokevirtual 190, 3) := by decide +kernel
theorem dL_law_1484 : decode cL_law 1484 = .ok (.if_icmp .eq 5, 3) := by decide +kernel
theorem dL_law_1487 : decode cL_law 1487 = .ok (.iconst 0, 1) := by decide +kernel
theorem dL_law_1488 : decode cL_law 1488 = .ok (.ireturn, 1) := by decide +kernel
theorem dL_law_1489 : decode cL_law 1489 = .ok (.iinc 3 6, 3) := by decide +kernel
theorem dL_law_1492 : decode cL_law 1492 = .ok (.goto (-1474), 3) := by decide +kernel
theorem dL_law_1495 : decode cL_law 1495 = .ok (.iconst 1, 1) := by decide +kernel
theorem dL_law_1496 : decode cL_law 1496 = .ok (.ireturn, 1) := by decide +kernel
end AM13
