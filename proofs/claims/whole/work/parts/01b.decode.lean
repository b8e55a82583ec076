section AM13b
theorem dX5_init_0 : decode cX5_init 0 = .ok (.aload_n 0, 1) := by decide +kernel
theorem dX5_init_1 : decode cX5_init 1 = .ok (.invokespecial 3, 3) := by decide +kernel
theorem dX5_init_4 : decode cX5_init 4 = .ok (.aload_n 0, 1) := by decide +kernel
theorem dX5_init_5 : decode cX5_init 5 = .ok (.bipush 96, 2) := by decide +kernel
theorem dX5_init_7 : decode cX5_init 7 = .ok (.newarray .int, 2) := by decide +kernel
theorem dX5_init_9 : decode cX5_init 9 = .ok (.putfield 9, 3) := by decide +kernel
theorem dX5_init_12 : decode cX5_init 12 = .ok (.aload_n 0, 1) := by decide +kernel
theorem dX5_init_13 : decode cX5_init 13 = .ok (.iconst 0, 1) := by decide +kernel
theorem dX5_init_14 : decode cX5_init 14 = .ok (.putfield 15, 3) := by decide +kernel
theorem dX5_init_17 : decode cX5_init 17 = .ok (.aload_n 0, 1) := by decide +kernel
theorem dX5_init_18 : decode cX5_init 18 = .ok (.iconst 0, 1) := by decide +kernel
theorem dX5_init_19 : decode cX5_init 19 = .ok (.putfield 19, 3) := by decide +kernel
theorem dX5_init_22 : decode cX5_init 22 = .ok (.aload_n 0, 1) := by decide +kernel
theorem dX5_init_23 : decode cX5_init 23 = .ok (.iconst 0, 1) := by decide +kernel
theorem dX5_init_24 : decode cX5_init 24 = .ok (.putfield 22, 3) := by decide +kernel
theorem dX5_init_27 : decode cX5_init 27 = .ok (.aload_n 0, 1) := by decide +kernel
theorem dX5_init_28 : decode cX5_init 28 = .ok (.iconst (-1), 1) := by decide +kernel
theorem dX5_init_29 : decode cX5_init 29 = .ok (.putfield 25, 3) := by decide +kernel
theorem dX5_init_32 : decode cX5_init 32 = .ok (.aload_n 0, 1) := by decide +kernel
theorem dX5_init_33 : decode cX5_init 33 = .ok (.iconst 0, 1) := by decide +kernel
theorem dX5_init_34 : decode cX5_init 34 = .ok (.putfield 28, 3) := by decide +kernel
theorem dX5_init_37 : decode cX5_init 37 = .ok (.aload_n 0, 1) := by decide +kernel
theorem dX5_init_38 : decode cX5_init 38 = .ok (.iconst 0, 1) := by decide +kernel
theorem dX5_init_39 : decode cX5_init 39 = .ok (.putfield 31, 3) := by decide +kernel
theorem dX5_init_42 : decode cX5_init 42 = .ok (.aload_n 0, 1) := by decide +kernel
theorem dX5_init_43 : decode cX5_init 43 = .ok (.iconst 0, 1) := by decide +kernel
theorem dX5_init_44 : decode cX5_init 44 = .ok (.putfield 34, 3) := by decide +kernel
theorem dX5_init_47 : decode cX5_init 47 = .ok (.aload_n 0, 1) := by decide +kernel
theorem dX5_init_48 : decode cX5_init 48 = .ok (.iconst 0, 1) := by decide +kernel
theorem dX5_init_49 : decode cX5_init 49 = .ok (.putfield 37, 3) := by decide +kernel
theorem dX5_init_52 : decode cX5_init 52 = .ok (.aload_n 0, 1) := by decide +kernel
theorem dX5_init_53 : decode cX5_init 53 = .ok (.bipush 96, 2) := by decide +kernel
theorem dX5_init_55 : decode cX5_init 55 = .ok (.newarray .int, 2) := by decide +kernel
theorem dX5_init_57 : decode cX5_init 57 = .ok (.putfield 40, 3) := by decide +kernel
theorem dX5_init_60 : decode cX5_init 60 = .ok (.aload_n 0, 1) := by decide +kernel
theorem dX5_init_61 : decode cX5_init 61 = .ok (.iconst 0, 1) := by decide +kernel
theorem dX5_init_62 : decode cX5_init 62 = .ok (.putfield 43, 3) := by decide +kernel
theorem dX5_init_65 : decode cX5_init 65 = .ok (.return_, 1) := by decide +kernel
theorem dX5_putBytes_0 : decode cX5_putBytes 0 = .ok (.bipush 24, 2) := by decide +kernel
theorem dX5_putBytes_2 : decode cX5_putBytes 2 = .ok (.istore_n 2, 1) := by decide +kernel
theorem dX5_putBytes_3 : decode cX5_putBytes 3 = .ok (.iload_n 2, 1) := by decide +kernel
theorem dX5_putBytes_4 : decode cX5_putBytes 4 = .ok (.ifCond .lt 44, 3) := by decide +kernel
theorem dX5_putBytes_7 : decode cX5_putBytes 7 = .ok (.aload_n 0, 1) := by decide +kernel
theorem dX5_putBytes_8 : decode cX5_putBytes 8 = .ok (.getfield 15, 3) := by decide +kernel
theorem dX5_putBytes_11 : decode cX5_putBytes 11 = .ok (.bipush 96, 2) := by decide +kernel
theorem dX5_putBytes_13 : decode cX5_putBytes 13 = .ok (.if_icmp .ge 35, 3) := by decide +kernel
theorem dX5_putBytes_16 : decode cX5_putBytes 16 = .ok (.aload_n 0, 1) := by decide +kernel
theorem dX5_putBytes_17 : decode cX5_putBytes 17 = .ok (.getfield 9, 3) := by decide +kernel
theorem dX5_putBytes_20 : decode cX5_putBytes 20 = .ok (.aload_n 0, 1) := by decide +kernel
theorem dX5_putBytes_21 : decode cX5_putBytes 21 = .ok (.getfield 15, 3) := by decide +kernel
theorem dX5_putBytes_24 : decode cX5_putBytes 24 = .ok (.iload_n 1, 1) := by decide +kernel
theorem dX5_putBytes_25 : decode cX5_putBytes 25 = .ok (.iload_n 2, 1) := by decide +kernel
theorem dX5_putBytes_26 : decode cX5_putBytes 26 = .ok (.iushr, 1) := by decide +kernel
theorem dX5_putBytes_27 : decode cX5_putBytes 27 = .ok (.sipush 255, 3) := by decide +kernel
theorem dX5_putBytes_30 : decode cX5_putBytes 30 = .ok (.iand, 1) := by decide +kernel
theorem dX5_putBytes_31 : decode cX5_putBytes 31 = .ok (.iastore, 1) := by decide +kernel
theorem dX5_putBytes_32 : decode cX5_putBytes 32 = .ok (.aload_n 0, 1) := by decide +kernel
theorem dX5_putBytes_33 : decode cX5_putBytes 33 = .ok (.dup, 1) := by decide +kernel
theorem dX5_putBytes_34 : decode cX5_putBytes 34 = .ok (.getfield 15, 3) := by decide +kernel
theorem dX5_putBytes_37 : decode cX5_putBytes 37 = .ok (.iconst 1, 1) := by decide +kernel
theorem dX5_putBytes_38 : decode cX5_putBytes 38 = .ok (.iadd, 1) := by decide +kernel
theorem dX5_putBytes_39 : decode cX5_putBytes 39 = .ok (.putfield 15, 3) := by decide +kernel
theorem dX5_putBytes_42 : decode cX5_putBytes 42 = .ok (.iinc 2 (-8), 3) := by decide +kernel
theorem dX5_putBytes_45 : decode cX5_putBytes 45 = .ok (.goto (-42), 3) := by decide +kernel
theorem dX5_putBytes_48 : decode cX5_putBytes 48 = .ok (.return_, 1) := by decide +kernel
theorem dX5_read_0 : decode cX5_read 0 = .ok (.aload_n 0, 1) := by decide +kernel
theorem dX5_read_1 : decode cX5_read 1 = .ok (.iconst 0, 1) := by decide +kernel
theorem dX5_read_2 : decode cX5_read 2 = .ok (.putfield 22, 3) := by decide +kernel
theorem dX5_read_5 : decode cX5_read 5 = .ok (.aload_n 0, 1) := by decide +kernel
theorem dX5_read_6 : decode cX5_read 6 = .ok (.iconst (-1), 1) := by decide +kernel
theorem dX5_read_7 : decode cX5_read 7 = .ok (.putfield 25, 3) := by decide +kernel
theorem dX5_read_10 : decode cX5_read 10 = .ok (.aload_n 0, 1) := by decide +kernel
theorem dX5_read_11 : decode cX5_read 11 = .ok (.iconst 0, 1) := by decide +kernel
theorem dX5_read_12 : decode cX5_read 12 = .ok (.putfield 31, 3) := by decide +kernel
theorem dX5_read_15 : decode cX5_read 15 = .ok (.aload_n 0, 1) := by decide +kernel
theorem dX5_read_16 : decode cX5_read 16 = .ok (.iconst 0, 1) := by decide +kernel
theorem dX5_read_17 : decode cX5_read 17 = .ok (.putfield 34, 3) := by decide +kernel
theorem dX5_read_20 : decode cX5_read 20 = .ok (.aload_n 0, 1) := by decide +kernel
theorem dX5_read_21 : decode cX5_read 21 = .ok (.iconst 0, 1) := by decide +kernel
theorem dX5_read_22 : decode cX5_read 22 = .ok (.putfield 37, 3) := by decide +kernel
theorem dX5_read_25 : decode cX5_read 25 = .ok (.aload_n 0, 1) := by decide +kernel
theorem dX5_read_26 : decode cX5_read 26 = .ok (.iconst 0, 1) := by decide +kernel
theorem dX5_read_27 : decode cX5_read 27 = .ok (.putfield 43, 3) := by decide +kernel
theorem dX5_read_30 : decode cX5_read 30 = .ok (.aload_n 0, 1) := by decide +kernel
theorem dX5_read_31 : decode cX5_read 31 = .ok (.invokevirtual 46, 3) := by decide +kernel
theorem dX5_read_34 : decode cX5_read 34 = .ok (.aload_n 0, 1) := by decide +kernel
theorem dX5_read_35 : decode cX5_read 35 = .ok (.aload_n 0, 1) := by decide +kernel
theorem dX5_read_36 : decode cX5_read 36 = .ok (.invokevirtual 49, 3) := by decide +kernel
theorem dX5_read_39 : decode cX5_read 39 = .ok (.putfield 28, 3) := by decide +kernel
theorem dX5_read_42 : decode cX5_read 42 = .ok (.aload_n 0, 1) := by decide +kernel
theorem dX5_read_43 : decode cX5_read 43 = .ok (.getfield 28, 3) := by decide +kernel
theorem dX5_read_46 : decode cX5_read 46 = .ok (.ifCond .ge 5, 3) := by decide +kernel
theorem dX5_read_49 : decode cX5_read 49 = .ok (.aconst_null, 1) := by decide +kernel
theorem dX5_read_50 : decode cX5_read 50 = .ok (.areturn, 1) := by decide +kernel
theorem dX5_read_51 : decode cX5_read 51 = .ok (.aload_n 0, 1) := by decide +kernel
theorem dX5_read_52 : decode cX5_read 52 = .ok (.invokevirtual 46, 3) := by decide +kernel
theorem dX5_read_55 : decode cX5_read 55 = .ok (.aload_n 0, 1) := by decide +kernel
theorem dX5_read_56 : decode cX5_read 56 = .ok (.iconst 0, 1) := by decide +kernel
theorem dX5_read_57 : decode cX5_read 57 = .ok (.invokevirtual 53, 3) := by decide +kernel
theorem dX5_read_60 : decode cX5_read 60 = .ok (.ifCond .eq 11, 3) := by decide +kernel
theorem dX5_read_63 : decode cX5_read 63 = .ok (.aload_n 0, 1) := by decide +kernel
theorem dX5_read_64 : decode cX5_read 64 = .ok (.getfield 25, 3) := by decide +kernel
theorem dX5_read_67 : decode cX5_read 67 = .ok (.iconst (-1), 1) := by decide +kernel
theorem dX5_read_68 : decode cX5_read 68 = .ok (.if_icmp .eq 5, 3) := by decide +kernel
theorem dX5_read_71 : decode cX5_read 71 = .ok (.aconst_null, 1) := by decide +kernel
theorem dX5_read_72 : decode cX5_read 72 = .ok (.areturn, 1) := by decide +kernel
theorem dX5_read_73 : decode cX5_read 73 = .ok (.new 57, 3) := by decide +kernel
theorem dX5_read_76 : decode cX5_read 76 = .ok (.dup, 1) := by decide +kernel
theorem dX5_read_77 : decode cX5_read 77 = .ok (.aload_n 0, 1) := by decide +kernel
theorem dX5_read_78 : decode cX5_read 78 = .ok (.getfield 28, 3) := by decide +kernel
theorem dX5_read_81 : decode cX5_read 81 = .ok (.aload_n 0, 1) := by decide +kernel
theorem dX5_read_82 : decode cX5_read 82 = .ok (.getfield 31, 3) := by decide +kernel
theorem dX5_read_85 : decode cX5_read 85 = .ok (.aload_n 0, 1) := by decide +kernel
theorem dX5_read_86 : decode cX5_read 86 = .ok (.getfield 40, 3) := by decide +kernel
theorem dX5_read_89 : decode cX5_read 89 = .ok (.aload_n 0, 1) := by decide +kernel
theorem dX5_read_90 : decode cX5_read 90 = .ok (.getfield 43, 3) := by decide +kernel
theorem dX5_read_93 : decode cX5_read 93 = .ok (.invokestatic 59, 3) := by decide +kernel
theorem dX5_read_96 : decode cX5_read 96 = .ok (.invokespecial 65, 3) := by decide +kernel
theorem dX5_read_99 : decode cX5_read 99 = .ok (.areturn, 1) := by decide +kernel
theorem dX5_step_0 : decode cX5_step 0 = .ok (.aload_n 0, 1) := by decide +kernel
theorem dX5_step_1 : decode cX5_step 1 = .ok (.getfield 25, 3) := by decide +kernel
theorem dX5_step_4 : decode cX5_step 4 = .ok (.sipush 256, 3) := by decide +kernel
theorem dX5_step_7 : decode cX5_step 7 = .ok (.if_icmp .eq 13, 3) := by decide +kernel
theorem dX5_step_10 : decode cX5_step 10 = .ok (.aload_n 0, 1) := by decide +kernel
theorem dX5_step_11 : decode cX5_step 11 = .ok (.getfield 25, 3) := by decide +kernel
theorem dX5_step_14 : decode cX5_step 14 = .ok (.sipush 257, 3) := by decide +kernel
theorem dX5_step_17 : decode cX5_step 17 = .ok (.if_icmp .ne 7, 3) := by decide +kernel
theorem dX5_step_20 : decode cX5_step 20 = .ok (.iconst 1, 1) := by decide +kernel
theorem dX5_step_21 : decode cX5_step 21 = .ok (.goto 4, 3) := by decide +kernel
theorem dX5_step_24 : decode cX5_step 24 = .ok (.iconst 0, 1) := by decide +kernel
theorem dX5_step_25 : decode cX5_step 25 = .ok (.istore_n 1, 1) := by decide +kernel
theorem dX5_step_26 : decode cX5_step 26 = .ok (.aload_n 0, 1) := by decide +kernel
theorem dX5_step_27 : decode cX5_step 27 = .ok (.getfield 22, 3) := by decide +kernel
theorem dX5_step_30 : decode cX5_step 30 = .ok (.istore_n 2, 1) := by decide +kernel
theorem dX5_step_31 : decode cX5_step 31 = .ok (.aload_n 0, 1) := by decide +kernel
theorem dX5_step_32 : decode cX5_step 32 = .ok (.aload_n 0, 1) := by decide +kernel
theorem dX5_step_33 : decode cX5_step 33 = .ok (.getfield 22, 3) := by decide +kernel
theorem dX5_step_36 : decode cX5_step 36 = .ok (.putfield 19, 3) := by decide +kernel
theorem dX5_step_39 : decode cX5_step 39 = .ok (.aload_n 0, 1) := by decide +kernel
theorem dX5_step_40 : decode cX5_step 40 = .ok (.getfield 19, 3) := by decide +kernel
theorem dX5_step_43 : decode cX5_step 43 = .ok (.aload_n 0, 1) := by decide +kernel
theorem dX5_step_44 : decode cX5_step 44 = .ok (.getfield 15, 3) := by decide +kernel
theorem dX5_step_47 : decode cX5_step 47 = .ok (.if_icmp .ge 30, 3) := by decide +kernel
theorem dX5_step_50 : decode cX5_step 50 = .ok (.aload_n 0, 1) := by decide +kernel
theorem dX5_step_51 : decode cX5_step 51 = .ok (.getfield 9, 3) := by decide +kernel
theorem dX5_step_54 : decode cX5_step 54 = .ok (.aload_n 0, 1) := by decide +kernel
theorem dX5_step_55 : decode cX5_step 55 = .ok (.getfield 19, 3) := by decide +kernel
theorem dX5_step_58 : decode cX5_step 58 = .ok (.iaload, 1) := by decide +kernel
theorem dX5_step_59 : decode cX5_step 59 = .ok (.bipush 32, 2) := by decide +kernel
theorem dX5_step_61 : decode cX5_step 61 = .ok (.if_icmp .ne 16, 3) := by decide +kernel
theorem dX5_step_64 : decode cX5_step 64 = .ok (.aload_n 0, 1) := by decide +kernel
theorem dX5_step_65 : decode cX5_step 65 = .ok (.dup, 1) := by decide +kernel
theorem dX5_step_66 : decode cX5_step 66 = .ok (.getfield 19, 3) := by decide +kernel
theorem dX5_step_69 : decode cX5_step 69 = .ok (.iconst 1, 1) := by decide +kernel
theorem dX5_step_70 : decode cX5_step 70 = .ok (.iadd, 1) := by decide +kernel
theorem dX5_step_71 : decode cX5_step 71 = .ok (.putfield 19, 3) := by decide +kernel
theorem dX5_step_74 : decode cX5_step 74 = .ok (.goto (-35), 3) := by decide +kernel
theorem dX5_step_77 : decode cX5_step 77 = .ok (.aload_n 0, 1) := by decide +kernel
theorem dX5_step_78 : decode cX5_step 78 = .ok (.aload_n 0, 1) := by decide +kernel
theorem dX5_step_79 : decode cX5_step 79 = .ok (.getfield 19, 3) := by decide +kernel
theorem dX5_step_82 : decode cX5_step 82 = .ok (.putfield 22, 3) := by decide +kernel
theorem dX5_step_85 : decode cX5_step 85 = .ok (.aload_n 0, 1) := by decide +kernel
theorem dX5_step_86 : decode cX5_step 86 = .ok (.getfield 19, 3) := by decide +kernel
theorem dX5_step_89 : decode cX5_step 89 = .ok (.aload_n 0, 1) := by decide +kernel
theorem dX5_step_90 : decode cX5_step 90 = .ok (.getfield 15, 3) := by decide +kernel
theorem dX5_step_93 : decode cX5_step 93 = .ok (.if_icmp .lt 9, 3) := by decide +kernel
theorem dX5_step_96 : decode cX5_step 96 = .ok (.aload_n 0, 1) := by decide +kernel
theorem dX5_step_97 : decode cX5_step 97 = .ok (.iconst (-1), 1) := by decide +kernel
theorem dX5_step_98 : decode cX5_step 98 = .ok (.putfield 25, 3) := by decide +kernel
theorem dX5_step_101 : decode cX5_step 101 = .ok (.return_, 1) := by decide +kernel
theorem dX5_step_102 : decode cX5_step 102 = .ok (.aload_n 0, 1) := by decide +kernel
theorem dX5_step_103 : decode cX5_step 103 = .ok (.aload_n 0, 1) := by decide +kernel
theorem dX5_step_104 : decode cX5_step 104 = .ok (.getfield 9, 3) := by decide +kernel
theorem dX5_step_107 : decode cX5_step 107 = .ok (.aload_n 0, 1) := by decide +kernel
theorem dX5_step_108 : decode cX5_step 108 = .ok (.getfield 19, 3) := by decide +kernel
theorem dX5_step_111 : decode cX5_step 111 = .ok (.iaload, 1) := by decide +kernel
theorem dX5_step_112 : decode cX5_step 112 = .ok (.invokestatic 68, 3) := by decide +kernel
theorem dX5_step_115 : decode cX5_step 115 = .ok (.putfield 25, 3) := by decide +kernel
theorem dX5_step_118 : decode cX5_step 118 = .ok (.aload_n 0, 1) := by decide +kernel
theorem dX5_step_119 : decode cX5_step 119 = .ok (.aload_n 0, 1) := by decide +kernel
theorem dX5_step_120 : decode cX5_step 120 = .ok (.getfield 19, 3) := by decide +kernel
theorem dX5_step_123 : decode cX5_step 123 = .ok (.iconst 1, 1) := by decide +kernel
theorem dX5_step_124 : decode cX5_step 124 = .ok (.iadd, 1) := by decide +kernel
theorem dX5_step_125 : decode cX5_step 125 = .ok (.putfield 22, 3) := by decide +kernel
theorem dX5_step_128 : decode cX5_step 128 = .ok (.aload_n 0, 1) := by decide +kernel
theorem dX5_step_129 : decode cX5_step 129 = .ok (.getfield 25, 3) := by decide +kernel
theorem dX5_step_132 : decode cX5_step 132 = .ok (.sipush 256, 3) := by decide +kernel
theorem dX5_step_135 : decode cX5_step 135 = .ok (.if_icmp .eq 14, 3) := by decide +kernel
theorem dX5_step_138 : decode cX5_step 138 = .ok (.aload_n 0, 1) := by decide +kernel
theorem dX5_step_139 : decode cX5_step 139 = .ok (.getfield 25, 3) := by decide +kernel
theorem dX5_step_142 : decode cX5_step 142 = .ok (.sipush 257, 3) := by decide +kernel
theorem dX5_step_145 : decode cX5_step 145 = .ok (.if_icmp .eq 4, 3) := by decide +kernel
theorem dX5_step_148 : decode cX5_step 148 = .ok (.return_, 1) := by decide +kernel
theorem dX5_step_149 : decode cX5_step 149 = .ok (.aload_n 0, 1) := by decide +kernel
theorem dX5_step_150 : decode cX5_step 150 = .ok (.getfield 22, 3) := by decide +kernel
theorem dX5_step_153 : decode cX5_step 153 = .ok (.aload_n 0, 1) := by decide +kernel
theorem dX5_step_154 : decode cX5_step 154 = .ok (.getfield 15, 3) := by decide +kernel
theorem dX5_step_157 : decode cX5_step 157 = .ok (.if_icmp .ge 35, 3) := by decide +kernel
theorem dX5_step_160 : decode cX5_step 160 = .ok (.aload_n 0, 1) := by decide +kernel
theorem dX5_step_161 : decode cX5_step 161 = .ok (.getfield 9, 3) := by decide +kernel
theorem dX5_step_164 : decode cX5_step 164 = .ok (.aload_n 0, 1) := by decide +kernel
theorem dX5_step_165 : decode cX5_step 165 = .ok (.getfield 22, 3) := by decide +kernel
theorem dX5_step_168 : decode cX5_step 168 = .ok (.iaload, 1) := by decide +kernel
theorem dX5_step_169 : decode cX5_step 169 = .ok (.invokestatic 68, 3) := by decide +kernel
theorem dX5_step_172 : decode cX5_step 172 = .ok (.aload_n 0, 1) := by decide +kernel
theorem dX5_step_173 : decode cX5_step 173 = .ok (.getfield 25, 3) := by decide +kernel
theorem dX5_step_176 : decode cX5_step 176 = .ok (.if_icmp .ne 16, 3) := by decide +kernel
theorem dX5_step_179 : decode cX5_step 179 = .ok (.aload_n 0, 1) := by decide +kernel
theorem dX5_step_180 : decode cX5_step 180 = .ok (.dup, 1) := by decide +kernel
theorem dX5_step_181 : decode cX5_step 181 = .ok (.getfield 22, 3) := by decide +kernel
theorem dX5_step_184 : decode cX5_step 184 = .ok (.iconst 1, 1) := by decide +kernel
theorem dX5_step_185 : decode cX5_step 185 = .ok (.iadd, 1) := by decide +kernel
theorem dX5_step_186 : decode cX5_step 186 = .ok (.putfield 22, 3) := by decide +kernel
theorem dX5_step_189 : decode cX5_step 189 = .ok (.goto (-40), 3) := by decide +kernel
theorem dX5_step_192 : decode cX5_step 192 = .ok (.iload_n 1, 1) := by decide +kernel
theorem dX5_step_193 : decode cX5_step 193 = .ok (.ifCond .eq 18, 3) := by decide +kernel
theorem dX5_step_196 : decode cX5_step 196 = .ok (.aload_n 0, 1) := by decide +kernel
theorem dX5_step_197 : decode cX5_step 197 = .ok (.getfield 19, 3) := by decide +kernel
theorem dX5_step_200 : decode cX5_step 200 = .ok (.iload_n 2, 1) := by decide +kernel
theorem dX5_step_201 : decode cX5_step 201 = .ok (.if_icmp .ne 10, 3) := by decide +kernel
theorem dX5_step_204 : decode cX5_step 204 = .ok (.aload_n 0, 1) := by decide +kernel
theorem dX5_step_205 : decode cX5_step 205 = .ok (.sipush 258, 3) := by decide +kernel
theorem dX5_step_208 : decode cX5_step 208 = .ok (.putfield 25, 3) := by decide +kernel
theorem dX5_step_211 : decode cX5_step 211 = .ok (.return_, 1) := by decide +kernel
theorem dX5_sortOf_0 : decode cX5_sortOf 0 = .ok (.iload_n 0, 1) := by decide +kernel
theorem dX5_sortOf_1 : decode cX5_sortOf 1 = .ok (.bipush 97, 2) := by decide +kernel
theorem dX5_sortOf_3 : decode cX5_sortOf 3 = .ok (.if_icmp .lt 13, 3) := by decide +kernel
theorem dX5_sortOf_6 : decode cX5_sortOf 6 = .ok (.iload_n 0, 1) := by decide +kernel
theorem dX5_sortOf_7 : decode cX5_sortOf 7 = .ok (.bipush 122, 2) := by decide +kernel
theorem dX5_sortOf_9 : decode cX5_sortOf 9 = .ok (.if_icmp .gt 7, 3) := by decide +kernel
theorem dX5_sortOf_12 : decode cX5_sortOf 12 = .ok (.sipush 256, 3) := by decide +kernel
theorem dX5_sortOf_15 : decode cX5_sortOf 15 = .ok (.ireturn, 1) := by decide +kernel
theorem dX5_sortOf_16 : decode cX5_sortOf 16 = .ok (.iload_n 0, 1) := by decide +kernel
theorem dX5_sortOf_17 : decode cX5_sortOf 17 = .ok (.bipush 48, 2) := by decide +kernel
theorem dX5_sortOf_19 : decode cX5_sortOf 19 = .ok (.if_icmp .lt 15, 3) := by decide +kernel
theorem dX5_sortOf_22 : decode cX5_sortOf 22 = .ok (.iload_n 0, 1) := by decide +kernel
theorem dX5_sortOf_23 : decode cX5_sortOf 23 = .ok (.bipush 57, 2) := by decide +kernel
theorem dX5_sortOf_25 : decode cX5_sortOf 25 = .ok (.if_icmp .gt 9, 3) := by decide +kernel
theorem dX5_sortOf_28 : decode cX5_sortOf 28 = .ok (.sipush 257, 3) := by decide +kernel
theorem dX5_sortOf_31 : decode cX5_sortOf 31 = .ok (.goto 4, 3) := by decide +kernel
theorem dX5_sortOf_34 : decode cX5_sortOf 34 = .ok (.iload_n 0, 1) := by decide +kernel
theorem dX5_sortOf_35 : decode cX5_sortOf 35 = .ok (.ireturn, 1) := by decide +kernel
theorem dX5_keyHere_0 : decode cX5_keyHere 0 = .ok (.aload_n 0, 1) := by decide +kernel
theorem dX5_keyHere_1 : decode cX5_keyHere 1 = .ok (.ldc 72, 2) := by decide +kernel
theorem dX5_keyHere_3 : decode cX5_keyHere 3 = .ok (.invokevirtual 74, 3) := by decide +kernel
theorem dX5_keyHere_6 : decode cX5_keyHere 6 = .ok (.ifCond .eq 5, 3) := by decide +kernel
theorem dX5_keyHere_9 : decode cX5_keyHere 9 = .ok (.iconst 0, 1) := by decide +kernel
theorem dX5_keyHere_10 : decode cX5_keyHere 10 = .ok (.ireturn, 1) := by decide +kernel
theorem dX5_keyHere_11 : decode cX5_keyHere 11 = .ok (.aload_n 0, 1) := by decide +kernel
theorem dX5_keyHere_12 : decode cX5_keyHere 12 = .ok (.ldc 78, 2) := by decide +kernel
theorem dX5_keyHere_14 : decode cX5_keyHere 14 = .ok (.invokevirtual 74, 3) := by decide +kernel
theorem dX5_keyHere_17 : decode cX5_keyHere 17 = .ok (.ifCond .eq 5, 3) := by decide +kernel
theorem dX5_keyHere_20 : decode cX5_keyHere 20 = .ok (.iconst 1, 1) := by decide +kernel
theorem dX5_keyHere_21 : decode cX5_keyHere 21 = .ok (.ireturn, 1) := by decide +kernel
theorem dX5_keyHere_22 : decode cX5_keyHere 22 = .ok (.aload_n 0, 1) := by decide +kernel
theorem dX5_keyHere_23 : decode cX5_keyHere 23 = .ok (.ldc 80, 2) := by decide +kernel
theorem dX5_keyHere_25 : decode cX5_keyHere 25 = .ok (.invokevirtual 74, 3) := by decide +kernel
theorem dX5_keyHere_28 : decode cX5_keyHere 28 = .ok (.ifCond .eq 7, 3) := by decide +kernel
theorem dX5_keyHere_31 : decode cX5_keyHere 31 = .ok (.iconst 2, 1) := by decide +kernel
theorem dX5_keyHere_32 : decode cX5_keyHere 32 = .ok (.goto 4, 3) := by decide +kernel
theorem dX5_keyHere_35 : decode cX5_keyHere 35 = .ok (.iconst (-1), 1) := by decide +kernel
theorem dX5_keyHere_36 : decode cX5_keyHere 36 = .ok (.ireturn, 1) := by decide +kernel
theorem dX5_isHere_0 : decode cX5_isHere 0 = .ok (.aload_n 0, 1) := by decide +kernel
theorem dX5_isHere_1 : decode cX5_isHere 1 = .ok (.getfield 25, 3) := by decide +kernel
theorem dX5_isHere_4 : decode cX5_isHere 4 = .ok (.sipush 256, 3) := by decide +kernel
theorem dX5_isHere_7 : decode cX5_isHere 7 = .ok (.if_icmp .ne 19, 3) := by decide +kernel
theorem dX5_isHere_10 : decode cX5_isHere 10 = .ok (.aload_n 0, 1) := by decide +kernel
theorem dX5_isHere_11 : decode cX5_isHere 11 = .ok (.getfield 22, 3) := by decide +kernel
theorem dX5_isHere_14 : decode cX5_isHere 14 = .ok (.aload_n 0, 1) := by decide +kernel
theorem dX5_isHere_15 : decode cX5_isHere 15 = .ok (.getfield 19, 3) := by decide +kernel
theorem dX5_isHere_18 : decode cX5_isHere 18 = .ok (.isub, 1) := by decide +kernel
theorem dX5_isHere_19 : decode cX5_isHere 19 = .ok (.aload_n 1, 1) := by decide +kernel
theorem dX5_isHere_20 : decode cX5_isHere 20 = .ok (.invokevirtual 82, 3) := by decide +kernel
theorem dX5_isHere_23 : decode cX5_isHere 23 = .ok (.if_icmp .eq 5, 3) := by decide +kernel
theorem dX5_isHere_26 : decode cX5_isHere 26 = .ok (.iconst 0, 1) := by decide +kernel
theorem dX5_isHere_27 : decode cX5_isHere 27 = .ok (.ireturn, 1) := by decide +kernel
theorem dX5_isHere_28 : decode cX5_isHere 28 = .ok (.iconst 0, 1) := by decide +kernel
theorem dX5_isHere_29 : decode cX5_isHere 29 = .ok (.istore_n 2, 1) := by decide +kernel
theorem dX5_isHere_30 : decode cX5_isHere 30 = .ok (.iload_n 2, 1) := by decide +kernel
theorem dX5_isHere_31 : decode cX5_isHere 31 = .ok (.aload_n 1, 1) := by decide +kernel
theorem dX5_isHere_32 : decode cX5_isHere 32 = .ok (.invokevirtual 82, 3) := by decide +kernel
theorem dX5_isHere_35 : decode cX5_isHere 35 = .ok (.if_icmp .ge 30, 3) := by decide +kernel
theorem dX5_isHere_38 : decode cX5_isHere 38 = .ok (.aload_n 0, 1) := by decide +kernel
theorem dX5_isHere_39 : decode cX5_isHere 39 = .ok (.getfield 9, 3) := by decide +kernel
theorem dX5_isHere_42 : decode cX5_isHere 42 = .ok (.aload_n 0, 1) := by decide +kernel
theorem dX5_isHere_43 : decode cX5_isHere 43 = .ok (.getfield 19, 3) := by decide +kernel
theorem dX5_isHere_46 : decode cX5_isHere 46 = .ok (.iload_n 2, 1) := by decide +kernel
theorem dX5_isHere_47 : decode cX5_isHere 47 = .ok (.iadd, 1) := by decide +kernel
theorem dX5_isHere_48 : decode cX5_isHere 48 = .ok (.iaload, 1) := by decide +kernel
theorem dX5_isHere_49 : decode cX5_isHere 49 = .ok (.aload_n 1, 1) := by decide +kernel
theorem dX5_isHere_50 : decode cX5_isHere 50 = .ok (.iload_n 2, 1) := by decide +kernel
theorem dX5_isHere_51 : decode cX5_isHere 51 = .ok (.invokevirtual 86, 3) := by decide +kernel
theorem dX5_isHere_54 : decode cX5_isHere 54 = .ok (.if_icmp .eq 5, 3) := by decide +kernel
theorem dX5_isHere_57 : decode cX5_isHere 57 = .ok (.iconst 0, 1) := by decide +kernel
theorem dX5_isHere_58 : decode cX5_isHere 58 = .ok (.ireturn, 1) := by decide +kernel
theorem dX5_isHere_59 : decode cX5_isHere 59 = .ok (.iinc 2 1, 3) := by decide +kernel
theorem dX5_isHere_62 : decode cX5_isHere 62 = .ok (.goto (-32), 3) := by decide +kernel
theorem dX5_isHere_65 : decode cX5_isHere 65 = .ok (.iconst 1, 1) := by decide +kernel
theorem dX5_isHere_66 : decode cX5_isHere 66 = .ok (.ireturn, 1) := by decide +kernel
theorem dX5_joinedBy_0 : decode cX5_joinedBy 0 = .ok (.aload_n 0, 1) := by decide +kernel
theorem dX5_joinedBy_1 : decode cX5_joinedBy 1 = .ok (.iload_n 1, 1) := by decide +kernel
theorem dX5_joinedBy_2 : decode cX5_joinedBy 2 = .ok (.invokevirtual 90, 3) := by decide +kernel
theorem dX5_joinedBy_5 : decode cX5_joinedBy 5 = .ok (.ifCond .ne 5, 3) := by decide +kernel
theorem dX5_joinedBy_8 : decode cX5_joinedBy 8 = .ok (.iconst 0, 1) := by decide +kernel
theorem dX5_joinedBy_9 : decode cX5_joinedBy 9 = .ok (.ireturn, 1) := by decide +kernel
theorem dX5_joinedBy_10 : decode cX5_joinedBy 10 = .ok (.iconst 0, 1) := by decide +kernel
theorem dX5_joinedBy_11 : decode cX5_joinedBy 11 = .ok (.istore_n 2, 1) := by decide +kernel
theorem dX5_joinedBy_12 : decode cX5_joinedBy 12 = .ok (.iload_n 2, 1) := by decide +kernel
theorem dX5_joinedBy_13 : decode cX5_joinedBy 13 = .ok (.bipush 96, 2) := by decide +kernel
theorem dX5_joinedBy_15 : decode cX5_joinedBy 15 = .ok (.if_icmp .ge 49, 3) := by decide +kernel
theorem dX5_joinedBy_18 : decode cX5_joinedBy 18 = .ok (.aload_n 0, 1) := by decide +kernel
theorem dX5_joinedBy_19 : decode cX5_joinedBy 19 = .ok (.iload_n 1, 1) := by decide +kernel
theorem dX5_joinedBy_20 : decode cX5_joinedBy 20 = .ok (.invokevirtual 93, 3) := by decide +kernel
theorem dX5_joinedBy_23 : decode cX5_joinedBy 23 = .ok (.ifCond .eq 41, 3) := by decide +kernel
theorem dX5_joinedBy_26 : decode cX5_joinedBy 26 = .ok (.aload_n 0, 1) := by decide +kernel
theorem dX5_joinedBy_27 : decode cX5_joinedBy 27 = .ok (.getfield 25, 3) := by decide +kernel
theorem dX5_joinedBy_30 : decode cX5_joinedBy 30 = .ok (.istore_n 3, 1) := by decide +kernel
theorem dX5_joinedBy_31 : decode cX5_joinedBy 31 = .ok (.aload_n 0, 1) := by decide +kernel
theorem dX5_joinedBy_32 : decode cX5_joinedBy 32 = .ok (.invokevirtual 46, 3) := by decide +kernel
theorem dX5_joinedBy_35 : decode cX5_joinedBy 35 = .ok (.aload_n 0, 1) := by decide +kernel
theorem dX5_joinedBy_36 : decode cX5_joinedBy 36 = .ok (.iload_n 1, 1) := by decide +kernel
theorem dX5_joinedBy_37 : decode cX5_joinedBy 37 = .ok (.invokevirtual 90, 3) := by decide +kernel
theorem dX5_joinedBy_40 : decode cX5_joinedBy 40 = .ok (.ifCond .ne 5, 3) := by decide +kernel
theorem dX5_joinedBy_43 : decode cX5_joinedBy 43 = .ok (.iconst 0, 1) := by decide +kernel
theorem dX5_joinedBy_44 : decode cX5_joinedBy 44 = .ok (.ireturn, 1) := by decide +kernel
theorem dX5_joinedBy_45 : decode cX5_joinedBy 45 = .ok (.aload_n 0, 1) := by decide +kernel
theorem dX5_joinedBy_46 : decode cX5_joinedBy 46 = .ok (.iload_n 3, 1) := by decide +kernel
theorem dX5_joinedBy_47 : decode cX5_joinedBy 47 = .ok (.ineg, 1) := by decide +kernel
theorem dX5_joinedBy_48 : decode cX5_joinedBy 48 = .ok (.invokevirtual 96, 3) := by decide +kernel
theorem dX5_joinedBy_51 : decode cX5_joinedBy 51 = .ok (.iload_n 1, 1) := by decide +kernel
theorem dX5_joinedBy_52 : decode cX5_joinedBy 52 = .ok (.iconst 2, 1) := by decide +kernel
theorem dX5_joinedBy_53 : decode cX5_joinedBy 53 = .ok (.if_icmp .ne 5, 3) := by decide +kernel
theorem dX5_joinedBy_56 : decode cX5_joinedBy 56 = .ok (.iconst 1, 1) := by decide +kernel
theorem dX5_joinedBy_57 : decode cX5_joinedBy 57 = .ok (.ireturn, 1) := by decide +kernel
theorem dX5_joinedBy_58 : decode cX5_joinedBy 58 = .ok (.iinc 2 1, 3) := by decide +kernel
theorem dX5_joinedBy_61 : decode cX5_joinedBy 61 = .ok (.goto (-49), 3) := by decide +kernel
theorem dX5_joinedBy_64 : decode cX5_joinedBy 64 = .ok (.iconst 1, 1) := by decide +kernel
theorem dX5_joinedBy_65 : decode cX5_joinedBy 65 = .ok (.ireturn, 1) := by decide +kernel
theorem dX5_partOf_0 : decode cX5_partOf 0 = .ok (.iload_n 1, 1) := by decide +kernel
theorem dX5_partOf_1 : decode cX5_partOf 1 = .ok (.iconst 4, 1) := by decide +kernel
theorem dX5_partOf_2 : decode cX5_partOf 2 = .ok (.if_icmp .lt 10, 3) := by decide +kernel
theorem dX5_partOf_5 : decode cX5_partOf 5 = .ok (.aload_n 0, 1) := by decide +kernel
theorem dX5_partOf_6 : decode cX5_partOf 6 = .ok (.invokevirtual 100, 3) := by decide +kernel
theorem dX5_partOf_9 : decode cX5_partOf 9 = .ok (.goto 10, 3) := by decide +kernel
theorem dX5_partOf_12 : decode cX5_partOf 12 = .ok (.aload_n 0, 1) := by decide +kernel
theorem dX5_partOf_13 : decode cX5_partOf 13 = .ok (.iload_n 1, 1) := by decide +kernel
theorem dX5_partOf_14 : decode cX5_partOf 14 = .ok (.iconst 1, 1) := by decide +kernel
theorem dX5_partOf_15 : decode cX5_partOf 15 = .ok (.iadd, 1) := by decide +kernel
theorem dX5_partOf_16 : decode cX5_partOf 16 = .ok (.invokevirtual 53, 3) := by decide +kernel
theorem dX5_partOf_19 : decode cX5_partOf 19 = .ok (.ireturn, 1) := by decide +kernel
theorem dX5_joins_0 : decode cX5_joins 0 = .ok (.iload_n 1, 1) := by decide +kernel
theorem dX5_joins_1 : decode cX5_joins 1 = .ok (.tableswitch 118 0 3 #[31, 46, 61, 94], 31) := by decide +kernel
theorem dX5_joins_32 : decode cX5_joins 32 = .ok (.aload_n 0, 1) := by decide +kernel
theorem dX5_joins_33 : decode cX5_joins 33 = .ok (.getfield 25, 3) := by decide +kernel
theorem dX5_joins_36 : decode cX5_joins 36 = .ok (.bipush 124, 2) := by decide +kernel
theorem dX5_joins_38 : decode cX5_joins 38 = .ok (.if_icmp .ne 7, 3) := by decide +kernel
theorem dX5_joins_41 : decode cX5_joins 41 = .ok (.iconst 1, 1) := by decide +kernel
theorem dX5_joins_42 : decode cX5_joins 42 = .ok (.goto 4, 3) := by decide +kernel
theorem dX5_joins_45 : decode cX5_joins 45 = .ok (.iconst 0, 1) := by decide +kernel
theorem dX5_joins_46 : decode cX5_joins 46 = .ok (.ireturn, 1) := by decide +kernel
theorem dX5_joins_47 : decode cX5_joins 47 = .ok (.aload_n 0, 1) := by decide +kernel
theorem dX5_joins_48 : decode cX5_joins 48 = .ok (.getfield 25, 3) := by decide +kernel
theorem dX5_joins_51 : decode cX5_joins 51 = .ok (.bipush 38, 2) := by decide +kernel
theorem dX5_joins_53 : decode cX5_joins 53 = .ok (.if_icmp .ne 7, 3) := by decide +kernel
theorem dX5_joins_56 : decode cX5_joins 56 = .ok (.iconst 1, 1) := by decide +kernel
theorem dX5_joins_57 : decode cX5_joins 57 = .ok (.goto 4, 3) := by decide +kernel
theorem dX5_joins_60 : decode cX5_joins 60 = .ok (.iconst 0, 1) := by decide +kernel
theorem dX5_joins_61 : decode cX5_joins 61 = .ok (.ireturn, 1) := by decide +kernel
theorem dX5_joins_62 : decode cX5_joins 62 = .ok (.aload_n 0, 1) := by decide +kernel
theorem dX5_joins_63 : decode cX5_joins 63 = .ok (.getfield 25, 3) := by decide +kernel
theorem dX5_joins_66 : decode cX5_joins 66 = .ok (.bipush 60, 2) := by decide +kernel
theorem dX5_joins_68 : decode cX5_joins 68 = .ok (.if_icmp .eq 21, 3) := by decide +kernel
theorem dX5_joins_71 : decode cX5_joins 71 = .ok (.aload_n 0, 1) := by decide +kernel
theorem dX5_joins_72 : decode cX5_joins 72 = .ok (.getfield 25, 3) := by decide +kernel
theorem dX5_joins_75 : decode cX5_joins 75 = .ok (.bipush 61, 2) := by decide +kernel
theorem dX5_joins_77 : decode cX5_joins 77 = .ok (.if_icmp .eq 12, 3) := by decide +kernel
theorem dX5_joins_80 : decode cX5_joins 80 = .ok (.aload_n 0, 1) := by decide +kernel
theorem dX5_joins_81 : decode cX5_joins 81 = .ok (.getfield 25, 3) := by decide +kernel
theorem dX5_joins_84 : decode cX5_joins 84 = .ok (.bipush 62, 2) := by decide +kernel
theorem dX5_joins_86 : decode cX5_joins 86 = .ok (.if_icmp .ne 7, 3) := by decide +kernel
theorem dX5_joins_89 : decode cX5_joins 89 = .ok (.iconst 1, 1) := by decide +kernel
theorem dX5_joins_90 : decode cX5_joins 90 = .ok (.goto 4, 3) := by decide +kernel
theorem dX5_joins_93 : decode cX5_joins 93 = .ok (.iconst 0, 1) := by decide +kernel
theorem dX5_joins_94 : decode cX5_joins 94 = .ok (.ireturn, 1) := by decide +kernel
theorem dX5_joins_95 : decode cX5_joins 95 = .ok (.aload_n 0, 1) := by decide +kernel
theorem dX5_joins_96 : decode cX5_joins 96 = .ok (.getfield 25, 3) := by decide +kernel
theorem dX5_joins_99 : decode cX5_joins 99 = .ok (.bipush 43, 2) := by decide +kernel
theorem dX5_joins_101 : decode cX5_joins 101 = .ok (.if_icmp .eq 12, 3) := by decide +kernel
theorem dX5_joins_104 : decode cX5_joins 104 = .ok (.aload_n 0, 1) := by decide +kernel
theorem dX5_joins_105 : decode cX5_joins 105 = .ok (.getfield 25, 3) := by decide +kernel
theorem dX5_joins_108 : decode cX5_joins 108 = .ok (.bipush 45, 2) := by decide +kernel
theorem dX5_joins_110 : decode cX5_joins 110 = .ok (.if_icmp .ne 7, 3) := by decide +kernel
theorem dX5_joins_113 : decode cX5_joins 113 = .ok (.iconst 1, 1) := by decide +kernel
theorem dX5_joins_114 : decode cX5_joins 114 = .ok (.goto 4, 3) := by decide +kernel
theorem dX5_joins_117 : decode cX5_joins 117 = .ok (.iconst 0, 1) := by decide +kernel
theorem dX5_joins_118 : decode cX5_joins 118 = .ok (.ireturn, 1) := by decide +kernel
theorem dX5_joins_119 : decode cX5_joins 119 = .ok (.aload_n 0, 1) := by decide +kernel
theorem dX5_joins_120 : decode cX5_joins 120 = .ok (.getfield 25, 3) := by decide +kernel
theorem dX5_joins_123 : decode cX5_joins 123 = .ok (.bipush 42, 2) := by decide +kernel
theorem dX5_joins_125 : decode cX5_joins 125 = .ok (.if_icmp .eq 12, 3) := by decide +kernel
theorem dX5_joins_128 : decode cX5_joins 128 = .ok (.aload_n 0, 1) := by decide +kernel
theorem dX5_joins_129 : decode cX5_joins 129 = .ok (.getfield 25, 3) := by decide +kernel
theorem dX5_joins_132 : decode cX5_joins 132 = .ok (.bipush 47, 2) := by decide +kernel
theorem dX5_joins_134 : decode cX5_joins 134 = .ok (.if_icmp .ne 7, 3) := by decide +kernel
theorem dX5_joins_137 : decode cX5_joins 137 = .ok (.iconst 1, 1) := by decide +kernel
theorem dX5_joins_138 : decode cX5_joins 138 = .ok (.goto 4, 3) := by decide +kernel
theorem dX5_joins_141 : decode cX5_joins 141 = .ok (.iconst 0, 1) := by decide +kernel
theorem dX5_joins_142 : decode cX5_joins 142 = .ok (.ireturn, 1) := by decide +kernel
theorem dX5_piece_0 : decode cX5_piece 0 = .ok (.aload_n 0, 1) := by decide +kernel
theorem dX5_piece_1 : decode cX5_piece 1 = .ok (.getfield 25, 3) := by decide +kernel
theorem dX5_piece_4 : decode cX5_piece 4 = .ok (.lookupswitch 64 #[(33, 54), (40, 59), (256, 49), (257, 44)], 44) := by decide +kernel
theorem dX5_piece_48 : decode cX5_piece 48 = .ok (.aload_n 0, 1) := by decide +kernel
theorem dX5_piece_49 : decode cX5_piece 49 = .ok (.invokevirtual 104, 3) := by decide +kernel
theorem dX5_piece_52 : decode cX5_piece 52 = .ok (.ireturn, 1) := by decide +kernel
theorem dX5_piece_53 : decode cX5_piece 53 = .ok (.aload_n 0, 1) := by decide +kernel
theorem dX5_piece_54 : decode cX5_piece 54 = .ok (.invokevirtual 107, 3) := by decide +kernel
theorem dX5_piece_57 : decode cX5_piece 57 = .ok (.ireturn, 1) := by decide +kernel
theorem dX5_piece_58 : decode cX5_piece 58 = .ok (.aload_n 0, 1) := by decide +kernel
theorem dX5_piece_59 : decode cX5_piece 59 = .ok (.invokevirtual 110, 3) := by decide +kernel
theorem dX5_piece_62 : decode cX5_piece 62 = .ok (.ireturn, 1) := by decide +kernel
theorem dX5_piece_63 : decode cX5_piece 63 = .ok (.aload_n 0, 1) := by decide +kernel
theorem dX5_piece_64 : decode cX5_piece 64 = .ok (.invokevirtual 113, 3) := by decide +kernel
theorem dX5_piece_67 : decode cX5_piece 67 = .ok (.ireturn, 1) := by decide +kernel
theorem dX5_piece_68 : decode cX5_piece 68 = .ok (.iconst 0, 1) := by decide +kernel
theorem dX5_piece_69 : decode cX5_piece 69 = .ok (.ireturn, 1) := by decide +kernel
theorem dX5_number_0 : decode cX5_number 0 = .ok (.aload_n 0, 1) := by decide +kernel
theorem dX5_number_1 : decode cX5_number 1 = .ok (.getfield 22, 3) := by decide +kernel
theorem dX5_number_4 : decode cX5_number 4 = .ok (.aload_n 0, 1) := by decide +kernel
theorem dX5_number_5 : decode cX5_number 5 = .ok (.getfield 19, 3) := by decide +kernel
theorem dX5_number_8 : decode cX5_number 8 = .ok (.isub, 1) := by decide +kernel
theorem dX5_number_9 : decode cX5_number 9 = .ok (.iconst 4, 1) := by decide +kernel
theorem dX5_number_10 : decode cX5_number 10 = .ok (.if_icmp .le 5, 3) := by decide +kernel
theorem dX5_number_13 : decode cX5_number 13 = .ok (.iconst 0, 1) := by decide +kernel
theorem dX5_number_14 : decode cX5_number 14 = .ok (.ireturn, 1) := by decide +kernel
theorem dX5_number_15 : decode cX5_number 15 = .ok (.iconst 0, 1) := by decide +kernel
theorem dX5_number_16 : decode cX5_number 16 = .ok (.istore_n 1, 1) := by decide +kernel
theorem dX5_number_17 : decode cX5_number 17 = .ok (.aload_n 0, 1) := by decide +kernel
theorem dX5_number_18 : decode cX5_number 18 = .ok (.getfield 19, 3) := by decide +kernel
theorem dX5_number_21 : decode cX5_number 21 = .ok (.istore_n 2, 1) := by decide +kernel
theorem dX5_number_22 : decode cX5_number 22 = .ok (.iload_n 2, 1) := by decide +kernel
theorem dX5_number_23 : decode cX5_number 23 = .ok (.aload_n 0, 1) := by decide +kernel
theorem dX5_number_24 : decode cX5_number 24 = .ok (.getfield 22, 3) := by decide +kernel
theorem dX5_number_27 : decode cX5_number 27 = .ok (.if_icmp .ge 24, 3) := by decide +kernel
theorem dX5_number_30 : decode cX5_number 30 = .ok (.iload_n 1, 1) := by decide +kernel
theorem dX5_number_31 : decode cX5_number 31 = .ok (.bipush 10, 2) := by decide +kernel
theorem dX5_number_33 : decode cX5_number 33 = .ok (.imul, 1) := by decide +kernel
theorem dX5_number_34 : decode cX5_number 34 = .ok (.aload_n 0, 1) := by decide +kernel
theorem dX5_number_35 : decode cX5_number 35 = .ok (.getfield 9, 3) := by decide +kernel
theorem dX5_number_38 : decode cX5_number 38 = .ok (.iload_n 2, 1) := by decide +kernel
theorem dX5_number_39 : decode cX5_number 39 = .ok (.iaload, 1) := by decide +kernel
theorem dX5_number_40 : decode cX5_number 40 = .ok (.iadd, 1) := by decide +kernel
theorem dX5_number_41 : decode cX5_number 41 = .ok (.bipush 48, 2) := by decide +kernel
theorem dX5_number_43 : decode cX5_number 43 = .ok (.isub, 1) := by decide +kernel
theorem dX5_number_44 : decode cX5_number 44 = .ok (.istore_n 1, 1) := by decide +kernel
theorem dX5_number_45 : decode cX5_number 45 = .ok (.iinc 2 1, 3) := by decide +kernel
theorem dX5_number_48 : decode cX5_number 48 = .ok (.goto (-26), 3) := by decide +kernel
theorem dX5_number_51 : decode cX5_number 51 = .ok (.aload_n 0, 1) := by decide +kernel
theorem dX5_number_52 : decode cX5_number 52 = .ok (.iload_n 1, 1) := by decide +kernel
theorem dX5_number_53 : decode cX5_number 53 = .ok (.invokevirtual 96, 3) := by decide +kernel
theorem dX5_number_56 : decode cX5_number 56 = .ok (.aload_n 0, 1) := by decide +kernel
theorem dX5_number_57 : decode cX5_number 57 = .ok (.dup, 1) := by decide +kernel
theorem dX5_number_58 : decode cX5_number 58 = .ok (.getfield 31, 3) := by decide +kernel
theorem dX5_number_61 : decode cX5_number 61 = .ok (.iconst 1, 1) := by decide +kernel
theorem dX5_number_62 : decode cX5_number 62 = .ok (.iadd, 1) := by decide +kernel
theorem dX5_number_63 : decode cX5_number 63 = .ok (.putfield 31, 3) := by decide +kernel
theorem dX5_number_66 : decode cX5_number 66 = .ok (.aload_n 0, 1) := by decide +kernel
theorem dX5_number_67 : decode cX5_number 67 = .ok (.invokevirtual 46, 3) := by decide +kernel
theorem dX5_number_70 : decode cX5_number 70 = .ok (.iconst 1, 1) := by decide +kernel
theorem dX5_number_71 : decode cX5_number 71 = .ok (.ireturn, 1) := by decide +kernel
theorem dX5_name_0 : decode cX5_name 0 = .ok (.aload_n 0, 1) := by decide +kernel
theorem dX5_name_1 : decode cX5_name 1 = .ok (.getfield 22, 3) := by decide +kernel
theorem dX5_name_4 : decode cX5_name 4 = .ok (.aload_n 0, 1) := by decide +kernel
theorem dX5_name_5 : decode cX5_name 5 = .ok (.getfield 19, 3) := by decide +kernel
theorem dX5_name_8 : decode cX5_name 8 = .ok (.isub, 1) := by decide +kernel
theorem dX5_name_9 : decode cX5_name 9 = .ok (.iconst 1, 1) := by decide +kernel
theorem dX5_name_10 : decode cX5_name 10 = .ok (.if_icmp .ne 26, 3) := by decide +kernel
theorem dX5_name_13 : decode cX5_name 13 = .ok (.aload_n 0, 1) := by decide +kernel
theorem dX5_name_14 : decode cX5_name 14 = .ok (.getfield 28, 3) := by decide +kernel
theorem dX5_name_17 : decode cX5_name 17 = .ok (.invokestatic 116, 3) := by decide +kernel
theorem dX5_name_20 : decode cX5_name 20 = .ok (.aload_n 0, 1) := by decide +kernel
theorem dX5_name_21 : decode cX5_name 21 = .ok (.getfield 9, 3) := by decide +kernel
theorem dX5_name_24 : decode cX5_name 24 = .ok (.aload_n 0, 1) := by decide +kernel
theorem dX5_name_25 : decode cX5_name 25 = .ok (.getfield 19, 3) := by decide +kernel
theorem dX5_name_28 : decode cX5_name 28 = .ok (.iaload, 1) := by decide +kernel
theorem dX5_name_29 : decode cX5_name 29 = .ok (.i2c, 1) := by decide +kernel
theorem dX5_name_30 : decode cX5_name 30 = .ok (.invokevirtual 120, 3) := by decide +kernel
theorem dX5_name_33 : decode cX5_name 33 = .ok (.goto 4, 3) := by decide +kernel
theorem dX5_name_36 : decode cX5_name 36 = .ok (.iconst (-1), 1) := by decide +kernel
theorem dX5_name_37 : decode cX5_name 37 = .ok (.istore_n 1, 1) := by decide +kernel
theorem dX5_name_38 : decode cX5_name 38 = .ok (.iload_n 1, 1) := by decide +kernel
theorem dX5_name_39 : decode cX5_name 39 = .ok (.ifCond .ge 5, 3) := by decide +kernel
theorem dX5_name_42 : decode cX5_name 42 = .ok (.iconst 0, 1) := by decide +kernel
theorem dX5_name_43 : decode cX5_name 43 = .ok (.ireturn, 1) := by decide +kernel
theorem dX5_name_44 : decode cX5_name 44 = .ok (.aload_n 0, 1) := by decide +kernel
theorem dX5_name_45 : decode cX5_name 45 = .ok (.iconst (-1), 1) := by decide +kernel
theorem dX5_name_46 : decode cX5_name 46 = .ok (.iload_n 1, 1) := by decide +kernel
theorem dX5_name_47 : decode cX5_name 47 = .ok (.isub, 1) := by decide +kernel
theorem dX5_name_48 : decode cX5_name 48 = .ok (.invokevirtual 96, 3) := by decide +kernel
theorem dX5_name_51 : decode cX5_name 51 = .ok (.aload_n 0, 1) := by decide +kernel
theorem dX5_name_52 : decode cX5_name 52 = .ok (.dup, 1) := by decide +kernel
theorem dX5_name_53 : decode cX5_name 53 = .ok (.getfield 31, 3) := by decide +kernel
theorem dX5_name_56 : decode cX5_name 56 = .ok (.iconst 1, 1) := by decide +kernel
theorem dX5_name_57 : decode cX5_name 57 = .ok (.iadd, 1) := by decide +kernel
theorem dX5_name_58 : decode cX5_name 58 = .ok (.putfield 31, 3) := by decide +kernel
theorem dX5_name_61 : decode cX5_name 61 = .ok (.aload_n 0, 1) := by decide +kernel
theorem dX5_name_62 : decode cX5_name 62 = .ok (.invokevirtual 46, 3) := by decide +kernel
theorem dX5_name_65 : decode cX5_name 65 = .ok (.iconst 1, 1) := by decide +kernel
theorem dX5_name_66 : decode cX5_name 66 = .ok (.ireturn, 1) := by decide +kernel
theorem dX5_namesOf_0 : decode cX5_namesOf 0 = .ok (.iload_n 0, 1) := by decide +kernel
theorem dX5_namesOf_1 : decode cX5_namesOf 1 = .ok (.lookupswitch 33 #[(0, 27), (1, 30)], 27) := by decide +kernel
theorem dX5_namesOf_28 : decode cX5_namesOf 28 = .ok (.ldc 123, 2) := by decide +kernel
theorem dX5_namesOf_30 : decode cX5_namesOf 30 = .ok (.areturn, 1) := by decide +kernel
theorem dX5_namesOf_31 : decode cX5_namesOf 31 = .ok (.ldc 125, 2) := by decide +kernel
theorem dX5_namesOf_33 : decode cX5_namesOf 33 = .ok (.areturn, 1) := by decide +kernel
theorem dX5_namesOf_34 : decode cX5_namesOf 34 = .ok (.ldc 127, 2) := by decide +kernel
theorem dX5_namesOf_36 : decode cX5_namesOf 36 = .ok (.areturn, 1) := by decide +kernel
theorem dX5_not_0 : decode cX5_not 0 = .ok (.aload_n 0, 1) := by decide +kernel
theorem dX5_not_1 : decode cX5_not 1 = .ok (.getfield 37, 3) := by decide +kernel
theorem dX5_not_4 : decode cX5_not 4 = .ok (.bipush 8, 2) := by decide +kernel
theorem dX5_not_6 : decode cX5_not 6 = .ok (.if_icmp .lt 5, 3) := by decide +kernel
theorem dX5_not_9 : decode cX5_not 9 = .ok (.iconst 0, 1) := by decide +kernel
theorem dX5_not_10 : decode cX5_not 10 = .ok (.ireturn, 1) := by decide +kernel
theorem dX5_not_11 : decode cX5_not 11 = .ok (.aload_n 0, 1) := by decide +kernel
theorem dX5_not_12 : decode cX5_not 12 = .ok (.dup, 1) := by decide +kernel
theorem dX5_not_13 : decode cX5_not 13 = .ok (.getfield 37, 3) := by decide +kernel
theorem dX5_not_16 : decode cX5_not 16 = .ok (.iconst 1, 1) := by decide +kernel
theorem dX5_not_17 : decode cX5_not 17 = .ok (.iadd, 1) := by decide +kernel
theorem dX5_not_18 : decode cX5_not 18 = .ok (.putfield 37, 3) := by decide +kernel
theorem dX5_not_21 : decode cX5_not 21 = .ok (.aload_n 0, 1) := by decide +kernel
theorem dX5_not_22 : decode cX5_not 22 = .ok (.invokevirtual 46, 3) := by decide +kernel
theorem dX5_not_25 : decode cX5_not 25 = .ok (.aload_n 0, 1) := by decide +kernel
theorem dX5_not_26 : decode cX5_not 26 = .ok (.invokevirtual 100, 3) := by decide +kernel
theorem dX5_not_29 : decode cX5_not 29 = .ok (.ifCond .ne 5, 3) := by decide +kernel
theorem dX5_not_32 : decode cX5_not 32 = .ok (.iconst 0, 1) := by decide +kernel
theorem dX5_not_33 : decode cX5_not 33 = .ok (.ireturn, 1) := by decide +kernel
theorem dX5_not_34 : decode cX5_not 34 = .ok (.aload_n 0, 1) := by decide +kernel
theorem dX5_not_35 : decode cX5_not 35 = .ok (.dup, 1) := by decide +kernel
theorem dX5_not_36 : decode cX5_not 36 = .ok (.getfield 37, 3) := by decide +kernel
theorem dX5_not_39 : decode cX5_not 39 = .ok (.iconst 1, 1) := by decide +kernel
theorem dX5_not_40 : decode cX5_not 40 = .ok (.isub, 1) := by decide +kernel
theorem dX5_not_41 : decode cX5_not 41 = .ok (.putfield 37, 3) := by decide +kernel
theorem dX5_not_44 : decode cX5_not 44 = .ok (.aload_n 0, 1) := by decide +kernel
theorem dX5_not_45 : decode cX5_not 45 = .ok (.bipush (-33), 2) := by decide +kernel
theorem dX5_not_47 : decode cX5_not 47 = .ok (.invokevirtual 96, 3) := by decide +kernel
theorem dX5_not_50 : decode cX5_not 50 = .ok (.iconst 1, 1) := by decide +kernel
theorem dX5_not_51 : decode cX5_not 51 = .ok (.ireturn, 1) := by decide +kernel
theorem dX5_brackets_0 : decode cX5_brackets 0 = .ok (.aload_n 0, 1) := by decide +kernel
theorem dX5_brackets_1 : decode cX5_brackets 1 = .ok (.getfield 34, 3) := by decide +kernel
theorem dX5_brackets_4 : decode cX5_brackets 4 = .ok (.bipush 8, 2) := by decide +kernel
theorem dX5_brackets_6 : decode cX5_brackets 6 = .ok (.if_icmp .lt 5, 3) := by decide +kernel
theorem dX5_brackets_9 : decode cX5_brackets 9 = .ok (.iconst 0, 1) := by decide +kernel
theorem dX5_brackets_10 : decode cX5_brackets 10 = .ok (.ireturn, 1) := by decide +kernel
theorem dX5_brackets_11 : decode cX5_brackets 11 = .ok (.aload_n 0, 1) := by decide +kernel
theorem dX5_brackets_12 : decode cX5_brackets 12 = .ok (.dup, 1) := by decide +kernel
theorem dX5_brackets_13 : decode cX5_brackets 13 = .ok (.getfield 34, 3) := by decide +kernel
theorem dX5_brackets_16 : decode cX5_brackets 16 = .ok (.iconst 1, 1) := by decide +kernel
theorem dX5_brackets_17 : decode cX5_brackets 17 = .ok (.iadd, 1) := by decide +kernel
theorem dX5_brackets_18 : decode cX5_brackets 18 = .ok (.putfield 34, 3) := by decide +kernel
theorem dX5_brackets_21 : decode cX5_brackets 21 = .ok (.aload_n 0, 1) := by decide +kernel
theorem dX5_brackets_22 : decode cX5_brackets 22 = .ok (.invokevirtual 46, 3) := by decide +kernel
theorem dX5_brackets_25 : decode cX5_brackets 25 = .ok (.aload_n 0, 1) := by decide +kernel
theorem dX5_brackets_26 : decode cX5_brackets 26 = .ok (.iconst 0, 1) := by decide +kernel
theorem dX5_brackets_27 : decode cX5_brackets 27 = .ok (.invokevirtual 53, 3) := by decide +kernel
theorem dX5_brackets_30 : decode cX5_brackets 30 = .ok (.ifCond .eq 12, 3) := by decide +kernel
theorem dX5_brackets_33 : decode cX5_brackets 33 = .ok (.aload_n 0, 1) := by decide +kernel
theorem dX5_brackets_34 : decode cX5_brackets 34 = .ok (.getfield 25, 3) := by decide +kernel
theorem dX5_brackets_37 : decode cX5_brackets 37 = .ok (.bipush 41, 2) := by decide +kernel
theorem dX5_brackets_39 : decode cX5_brackets 39 = .ok (.if_icmp .eq 5, 3) := by decide +kernel
theorem dX5_brackets_42 : decode cX5_brackets 42 = .ok (.iconst 0, 1) := by decide +kernel
theorem dX5_brackets_43 : decode cX5_brackets 43 = .ok (.ireturn, 1) := by decide +kernel
theorem dX5_brackets_44 : decode cX5_brackets 44 = .ok (.aload_n 0, 1) := by decide +kernel
theorem dX5_brackets_45 : decode cX5_brackets 45 = .ok (.dup, 1) := by decide +kernel
theorem dX5_brackets_46 : decode cX5_brackets 46 = .ok (.getfield 34, 3) := by decide +kernel
theorem dX5_brackets_49 : decode cX5_brackets 49 = .ok (.iconst 1, 1) := by decide +kernel
theorem dX5_brackets_50 : decode cX5_brackets 50 = .ok (.isub, 1) := by decide +kernel
theorem dX5_brackets_51 : decode cX5_brackets 51 = .ok (.putfield 34, 3) := by decide +kernel
theorem dX5_brackets_54 : decode cX5_brackets 54 = .ok (.aload_n 0, 1) := by decide +kernel
theorem dX5_brackets_55 : decode cX5_brackets 55 = .ok (.invokevirtual 46, 3) := by decide +kernel
theorem dX5_brackets_58 : decode cX5_brackets 58 = .ok (.iconst 1, 1) := by decide +kernel
theorem dX5_brackets_59 : decode cX5_brackets 59 = .ok (.ireturn, 1) := by decide +kernel
theorem dX5_put_0 : decode cX5_put 0 = .ok (.aload_n 0, 1) := by decide +kernel
theorem dX5_put_1 : decode cX5_put 1 = .ok (.getfield 43, 3) := by decide +kernel
theorem dX5_put_4 : decode cX5_put 4 = .ok (.aload_n 0, 1) := by decide +kernel
theorem dX5_put_5 : decode cX5_put 5 = .ok (.getfield 40, 3) := by decide +kernel
theorem dX5_put_8 : decode cX5_put 8 = .ok (.arraylength, 1) := by decide +kernel
theorem dX5_put_9 : decode cX5_put 9 = .ok (.if_icmp .ge 23, 3) := by decide +kernel
theorem dX5_put_12 : decode cX5_put 12 = .ok (.aload_n 0, 1) := by decide +kernel
theorem dX5_put_13 : decode cX5_put 13 = .ok (.getfield 40, 3) := by decide +kernel
theorem dX5_put_16 : decode cX5_put 16 = .ok (.aload_n 0, 1) := by decide +kernel
theorem dX5_put_17 : decode cX5_put 17 = .ok (.getfield 43, 3) := by decide +kernel
theorem dX5_put_20 : decode cX5_put 20 = .ok (.iload_n 1, 1) := by decide +kernel
theorem dX5_put_21 : decode cX5_put 21 = .ok (.iastore, 1) := by decide +kernel
theorem dX5_put_22 : decode cX5_put 22 = .ok (.aload_n 0, 1) := by decide +kernel
theorem dX5_put_23 : decode cX5_put 23 = .ok (.dup, 1) := by decide +kernel
theorem dX5_put_24 : decode cX5_put 24 = .ok (.getfield 43, 3) := by decide +kernel
theorem dX5_put_27 : decode cX5_put 27 = .ok (.iconst 1, 1) := by decide +kernel
theorem dX5_put_28 : decode cX5_put 28 = .ok (.iadd, 1) := by decide +kernel
theorem dX5_put_29 : decode cX5_put 29 = .ok (.putfield 43, 3) := by decide +kernel
theorem dX5_put_32 : decode cX5_put 32 = .ok (.return_, 1) := by decide +kernel
theorem dX6_init_0 : decode cX6_init 0 = .ok (.aload_n 0, 1) := by decide +kernel
theorem dX6_init_1 : decode cX6_init 1 = .ok (.invokespecial 1, 3) := by decide +kernel
theorem dX6_init_4 : decode cX6_init 4 = .ok (.aload_n 0, 1) := by decide +kernel
theorem dX6_init_5 : decode cX6_init 5 = .ok (.iload_n 1, 1) := by decide +kernel
theorem dX6_init_6 : decode cX6_init 6 = .ok (.putfield 7, 3) := by decide +kernel
theorem dX6_init_9 : decode cX6_init 9 = .ok (.aload_n 0, 1) := by decide +kernel
theorem dX6_init_10 : decode cX6_init 10 = .ok (.iload_n 2, 1) := by decide +kernel
theorem dX6_init_11 : decode cX6_init 11 = .ok (.putfield 13, 3) := by decide +kernel
theorem dX6_init_14 : decode cX6_init 14 = .ok (.aload_n 0, 1) := by decide +kernel
theorem dX6_init_15 : decode cX6_init 15 = .ok (.aload_n 3, 1) := by decide +kernel
theorem dX6_init_16 : decode cX6_init 16 = .ok (.putfield 16, 3) := by decide +kernel
theorem dX6_init_19 : decode cX6_init 19 = .ok (.aload_n 0, 1) := by decide +kernel
theorem dX6_init_20 : decode cX6_init 20 = .ok (.aload_n 3, 1) := by decide +kernel
theorem dX6_init_21 : decode cX6_init 21 = .ok (.arraylength, 1) := by decide +kernel
theorem dX6_init_22 : decode cX6_init 22 = .ok (.newarray .int, 2) := by decide +kernel
theorem dX6_init_24 : decode cX6_init 24 = .ok (.putfield 20, 3) := by decide +kernel
theorem dX6_init_27 : decode cX6_init 27 = .ok (.return_, 1) := by decide +kernel
theorem dX6_value_0 : decode cX6_value 0 = .ok (.iconst 0, 1) := by decide +kernel
theorem dX6_value_1 : decode cX6_value 1 = .ok (.istore 4, 2) := by decide +kernel
theorem dX6_value_3 : decode cX6_value 3 = .ok (.iconst 0, 1) := by decide +kernel
theorem dX6_value_4 : decode cX6_value 4 = .ok (.istore 5, 2) := by decide +kernel
theorem dX6_value_6 : decode cX6_value 6 = .ok (.iload 5, 2) := by decide +kernel
theorem dX6_value_8 : decode cX6_value 8 = .ok (.aload_n 0, 1) := by decide +kernel
theorem dX6_value_9 : decode cX6_value 9 = .ok (.getfield 16, 3) := by decide +kernel
theorem dX6_value_12 : decode cX6_value 12 = .ok (.arraylength, 1) := by decide +kernel
theorem dX6_value_13 : decode cX6_value 13 = .ok (.if_icmp .ge 138, 3) := by decide +kernel
theorem dX6_value_16 : decode cX6_value 16 = .ok (.aload_n 0, 1) := by decide +kernel
theorem dX6_value_17 : decode cX6_value 17 = .ok (.getfield 16, 3) := by decide +kernel
theorem dX6_value_20 : decode cX6_value 20 = .ok (.iload 5, 2) := by decide +kernel
theorem dX6_value_22 : decode cX6_value 22 = .ok (.iaload, 1) := by decide +kernel
theorem dX6_value_23 : decode cX6_value 23 = .ok (.istore 6, 2) := by decide +kernel
theorem dX6_value_25 : decode cX6_value 25 = .ok (.iload 6, 2) := by decide +kernel
theorem dX6_value_27 : decode cX6_value 27 = .ok (.bipush (-3), 2) := by decide +kernel
theorem dX6_value_29 : decode cX6_value 29 = .ok (.if_icmp .lt 34, 3) := by decide +kernel
theorem dX6_value_32 : decode cX6_value 32 = .ok (.iload 4, 2) := by decide +kernel
theorem dX6_value_34 : decode cX6_value 34 = .ok (.aload_n 0, 1) := by decide +kernel
theorem dX6_value_35 : decode cX6_value 35 = .ok (.getfield 20, 3) := by decide +kernel
theorem dX6_value_38 : decode cX6_value 38 = .ok (.arraylength, 1) := by decide +kernel
theorem dX6_value_39 : decode cX6_value 39 = .ok (.if_icmp .ge 24, 3) := by decide +kernel
theorem dX6_value_42 : decode cX6_value 42 = .ok (.aload_n 0, 1) := by decide +kernel
theorem dX6_value_43 : decode cX6_value 43 = .ok (.getfield 20, 3) := by decide +kernel
theorem dX6_value_46 : decode cX6_value 46 = .ok (.iload 4, 2) := by decide +kernel
theorem dX6_value_48 : decode cX6_value 48 = .ok (.iload 6, 2) := by decide +kernel
theorem dX6_value_50 : decode cX6_value 50 = .ok (.iload_n 1, 1) := by decide +kernel
theorem dX6_value_51 : decode cX6_value 51 = .ok (.iload_n 2, 1) := by decide +kernel
theorem dX6_value_52 : decode cX6_value 52 = .ok (.iload_n 3, 1) := by decide +kernel
theorem dX6_value_53 : decode cX6_value 53 = .ok (.invokestatic 23, 3) := by decide +kernel
theorem dX6_value_56 : decode cX6_value 56 = .ok (.iastore, 1) := by decide +kernel
theorem dX6_value_57 : decode cX6_value 57 = .ok (.iinc 4 1, 3) := by decide +kernel
theorem dX6_value_60 : decode cX6_value 60 = .ok (.goto 85, 3) := by decide +kernel
theorem dX6_value_63 : decode cX6_value 63 = .ok (.iload 6, 2) := by decide +kernel
theorem dX6_value_65 : decode cX6_value 65 = .ok (.bipush (-33), 2) := by decide +kernel
theorem dX6_value_67 : decode cX6_value 67 = .ok (.if_icmp .ne 38, 3) := by decide +kernel
theorem dX6_value_70 : decode cX6_value 70 = .ok (.iload 4, 2) := by decide +kernel
theorem dX6_value_72 : decode cX6_value 72 = .ok (.iconst 1, 1) := by decide +kernel
theorem dX6_value_73 : decode cX6_value 73 = .ok (.if_icmp .lt 32, 3) := by decide +kernel
theorem dX6_value_76 : decode cX6_value 76 = .ok (.aload_n 0, 1) := by decide +kernel
theorem dX6_value_77 : decode cX6_value 77 = .ok (.getfield 20, 3) := by decide +kernel
theorem dX6_value_80 : decode cX6_value 80 = .ok (.iload 4, 2) := by decide +kernel
theorem dX6_value_82 : decode cX6_value 82 = .ok (.iconst 1, 1) := by decide +kernel
theorem dX6_value_83 : decode cX6_value 83 = .ok (.isub, 1) := by decide +kernel
theorem dX6_value_84 : decode cX6_value 84 = .ok (.aload_n 0, 1) := by decide +kernel
theorem dX6_value_85 : decode cX6_value 85 = .ok (.getfield 20, 3) := by decide +kernel
theorem dX6_value_88 : decode cX6_value 88 = .ok (.iload 4, 2) := by decide +kernel
theorem dX6_value_90 : decode cX6_value 90 = .ok (.iconst 1, 1) := by decide +kernel
theorem dX6_value_91 : decode cX6_value 91 = .ok (.isub, 1) := by decide +kernel
theorem dX6_value_92 : decode cX6_value 92 = .ok (.iaload, 1) := by decide +kernel
theorem dX6_value_93 : decode cX6_value 93 = .ok (.ifCond .ne 7, 3) := by decide +kernel
theorem dX6_value_96 : decode cX6_value 96 = .ok (.iconst 1, 1) := by decide +kernel
theorem dX6_value_97 : decode cX6_value 97 = .ok (.goto 4, 3) := by decide +kernel
theorem dX6_value_100 : decode cX6_value 100 = .ok (.iconst 0, 1) := by decide +kernel
theorem dX6_value_101 : decode cX6_value 101 = .ok (.iastore, 1) := by decide +kernel
theorem dX6_value_102 : decode cX6_value 102 = .ok (.goto 43, 3) := by decide +kernel
theorem dX6_value_105 : decode cX6_value 105 = .ok (.iload 4, 2) := by decide +kernel
theorem dX6_value_107 : decode cX6_value 107 = .ok (.iconst 2, 1) := by decide +kernel
theorem dX6_value_108 : decode cX6_value 108 = .ok (.if_icmp .lt 37, 3) := by decide +kernel
theorem dX6_value_111 : decode cX6_value 111 = .ok (.iinc 4 (-1), 3) := by decide +kernel
theorem dX6_value_114 : decode cX6_value 114 = .ok (.aload_n 0, 1) := by decide +kernel
theorem dX6_value_115 : decode cX6_value 115 = .ok (.getfield 20, 3) := by decide +kernel
theorem dX6_value_118 : decode cX6_value 118 = .ok (.iload 4, 2) := by decide +kernel
theorem dX6_value_120 : decode cX6_value 120 = .ok (.iconst 1, 1) := by decide +kernel
theorem dX6_value_121 : decode cX6_value 121 = .ok (.isub, 1) := by decide +kernel
theorem dX6_value_122 : decode cX6_value 122 = .ok (.iload 6, 2) := by decide +kernel
theorem dX6_value_124 : decode cX6_value 124 = .ok (.ineg, 1) := by decide +kernel
theorem dX6_value_125 : decode cX6_value 125 = .ok (.aload_n 0, 1) := by decide +kernel
theorem dX6_value_126 : decode cX6_value 126 = .ok (.getfield 20, 3) := by decide +kernel
theorem dX6_value_129 : decode cX6_value 129 = .ok (.iload 4, 2) := by decide +kernel
theorem dX6_value_131 : decode cX6_value 131 = .ok (.iconst 1, 1) := by decide +kernel
theorem dX6_value_132 : decode cX6_value 132 = .ok (.isub, 1) := by decide +kernel
theorem dX6_value_133 : decode cX6_value 133 = .ok (.iaload, 1) := by decide +kernel
theorem dX6_value_134 : decode cX6_value 134 = .ok (.aload_n 0, 1) := by decide +kernel
theorem dX6_value_135 : decode cX6_value 135 = .ok (.getfield 20, 3) := by decide +kernel
theorem dX6_value_138 : decode cX6_value 138 = .ok (.iload 4, 2) := by decide +kernel
theorem dX6_value_140 : decode cX6_value 140 = .ok (.iaload, 1) := by decide +kernel
theorem dX6_value_141 : decode cX6_value 141 = .ok (.invokestatic 27, 3) := by decide +kernel
theorem dX6_value_144 : decode cX6_value 144 = .ok (.iastore, 1) := by decide +kernel
theorem dX6_value_145 : decode cX6_value 145 = .ok (.iinc 5 1, 3) := by decide +kernel
theorem dX6_value_148 : decode cX6_value 148 = .ok (.goto (-142), 3) := by decide +kernel
theorem dX6_value_151 : decode cX6_value 151 = .ok (.iload 4, 2) := by decide +kernel
theorem dX6_value_153 : decode cX6_value 153 = .ok (.iconst 1, 1) := by decide +kernel
theorem dX6_value_154 : decode cX6_value 154 = .ok (.if_icmp .lt 15, 3) := by decide +kernel
theorem dX6_value_157 : decode cX6_value 157 = .ok (.aload_n 0, 1) := by decide +kernel
theorem dX6_value_158 : decode cX6_value 158 = .ok (.getfield 20, 3) := by decide +kernel
theorem dX6_value_161 : decode cX6_value 161 = .ok (.iload 4, 2) := by decide +kernel
theorem dX6_value_163 : decode cX6_value 163 = .ok (.iconst 1, 1) := by decide +kernel
theorem dX6_value_164 : decode cX6_value 164 = .ok (.isub, 1) := by decide +kernel
theorem dX6_value_165 : decode cX6_value 165 = .ok (.iaload, 1) := by decide +kernel
theorem dX6_value_166 : decode cX6_value 166 = .ok (.goto 4, 3) := by decide +kernel
theorem dX6_value_169 : decode cX6_value 169 = .ok (.iconst 0, 1) := by decide +kernel
theorem dX6_value_170 : decode cX6_value 170 = .ok (.ireturn, 1) := by decide +kernel
theorem dX6_plain_0 : decode cX6_plain 0 = .ok (.iload_n 0, 1) := by decide +kernel
theorem dX6_plain_1 : decode cX6_plain 1 = .ok (.tableswitch 33 (-3) (-1) #[31, 29, 27], 27) := by decide +kernel
theorem dX6_plain_28 : decode cX6_plain 28 = .ok (.iload_n 1, 1) := by decide +kernel
theorem dX6_plain_29 : decode cX6_plain 29 = .ok (.ireturn, 1) := by decide +kernel
theorem dX6_plain_30 : decode cX6_plain 30 = .ok (.iload_n 2, 1) := by decide +kernel
theorem dX6_plain_31 : decode cX6_plain 31 = .ok (.ireturn, 1) := by decide +kernel
theorem dX6_plain_32 : decode cX6_plain 32 = .ok (.iload_n 3, 1) := by decide +kernel
theorem dX6_plain_33 : decode cX6_plain 33 = .ok (.ireturn, 1) := by decide +kernel
theorem dX6_plain_34 : decode cX6_plain 34 = .ok (.iload_n 0, 1) := by decide +kernel
theorem dX6_plain_35 : decode cX6_plain 35 = .ok (.ireturn, 1) := by decide +kernel
theorem dX6_joined_0 : decode cX6_joined 0 = .ok (.iload_n 0, 1) := by decide +kernel
theorem dX6_joined_1 : decode cX6_joined 1 = .ok (.lookupswitch 148 #[(38, 89), (42, 144), (43, 136), (45, 140), (60, 103), (61, 114), (62, 125), (124, 75)], 75) := by decide +kernel
theorem dX6_joined_76 : decode cX6_joined 76 = .ok (.iload_n 1, 1) := by decide +kernel
theorem dX6_joined_77 : decode cX6_joined 77 = .ok (.ifCond .ne 7, 3) := by decide +kernel
theorem dX6_joined_80 : decode cX6_joined 80 = .ok (.iload_n 2, 1) := by decide +kernel
theorem dX6_joined_81 : decode cX6_joined 81 = .ok (.ifCond .eq 7, 3) := by decide +kernel
theorem dX6_joined_84 : decode cX6_joined 84 = .ok (.iconst 1, 1) := by decide +kernel
theorem dX6_joined_85 : decode cX6_joined 85 = .ok (.goto 4, 3) := by decide +kernel
theorem dX6_joined_88 : decode cX6_joined 88 = .ok (.iconst 0, 1) := by decide +kernel
theorem dX6_joined_89 : decode cX6_joined 89 = .ok (.ireturn, 1) := by decide +kernel
theorem dX6_joined_90 : decode cX6_joined 90 = .ok (.iload_n 1, 1) := by decide +kernel
theorem dX6_joined_91 : decode cX6_joined 91 = .ok (.ifCond .eq 11, 3) := by decide +kernel
theorem dX6_joined_94 : decode cX6_joined 94 = .ok (.iload_n 2, 1) := by decide +kernel
theorem dX6_joined_95 : decode cX6_joined 95 = .ok (.ifCond .eq 7, 3) := by decide +kernel
theorem dX6_joined_98 : decode cX6_joined 98 = .ok (.iconst 1, 1) := by decide +kernel
theorem dX6_joined_99 : decode cX6_joined 99 = .ok (.goto 4, 3) := by decide +kernel
theorem dX6_joined_102 : decode cX6_joined 102 = .ok (.iconst 0, 1) := by decide +kernel
theorem dX6_joined_103 : decode cX6_joined 103 = .ok (.ireturn, 1) := by decide +kernel
theorem dX6_joined_104 : decode cX6_joined 104 = .ok (.iload_n 1, 1) := by decide +kernel
theorem dX6_joined_105 : decode cX6_joined 105 = .ok (.iload_n 2, 1) := by decide +kernel
theorem dX6_joined_106 : decode cX6_joined 106 = .ok (.if_icmp .ge 7, 3) := by decide +kernel
theorem dX6_joined_109 : decode cX6_joined 109 = .ok (.iconst 1, 1) := by decide +kernel
theorem dX6_joined_110 : decode cX6_joined 110 = .ok (.goto 4, 3) := by decide +kernel
theorem dX6_joined_113 : decode cX6_joined 113 = .ok (.iconst 0, 1) := by decide +kernel
theorem dX6_joined_114 : decode cX6_joined 114 = .ok (.ireturn, 1) := by decide +kernel
theorem dX6_joined_115 : decode cX6_joined 115 = .ok (.iload_n 1, 1) := by decide +kernel
theorem dX6_joined_116 : decode cX6_joined 116 = .ok (.iload_n 2, 1) := by decide +kernel
theorem dX6_joined_117 : decode cX6_joined 117 = .ok (.if_icmp .ne 7, 3) := by decide +kernel
theorem dX6_joined_120 : decode cX6_joined 120 = .ok (.iconst 1, 1) := by decide +kernel
theorem dX6_joined_121 : decode cX6_joined 121 = .ok (.goto 4, 3) := by decide +kernel
theorem dX6_joined_124 : decode cX6_joined 124 = .ok (.iconst 0, 1) := by decide +kernel
theorem dX6_joined_125 : decode cX6_joined 125 = .ok (.ireturn, 1) := by decide +kernel
theorem dX6_joined_126 : decode cX6_joined 126 = .ok (.iload_n 1, 1) := by decide +kernel
theorem dX6_joined_127 : decode cX6_joined 127 = .ok (.iload_n 2, 1) := by decide +kernel
theorem dX6_joined_128 : decode cX6_joined 128 = .ok (.if_icmp .le 7, 3) := by decide +kernel
theorem dX6_joined_131 : decode cX6_joined 131 = .ok (.iconst 1, 1) := by decide +kernel
theorem dX6_joined_132 : decode cX6_joined 132 = .ok (.goto 4, 3) := by decide +kernel
theorem dX6_joined_135 : decode cX6_joined 135 = .ok (.iconst 0, 1) := by decide +kernel
theorem dX6_joined_136 : decode cX6_joined 136 = .ok (.ireturn, 1) := by decide +kernel
theorem dX6_joined_137 : decode cX6_joined 137 = .ok (.iload_n 1, 1) := by decide +kernel
theorem dX6_joined_138 : decode cX6_joined 138 = .ok (.iload_n 2, 1) := by decide +kernel
theorem dX6_joined_139 : decode cX6_joined 139 = .ok (.iadd, 1) := by decide +kernel
theorem dX6_joined_140 : decode cX6_joined 140 = .ok (.ireturn, 1) := by decide +kernel
theorem dX6_joined_141 : decode cX6_joined 141 = .ok (.iload_n 1, 1) := by decide +kernel
theorem dX6_joined_142 : decode cX6_joined 142 = .ok (.iload_n 2, 1) := by decide +kernel
theorem dX6_joined_143 : decode cX6_joined 143 = .ok (.isub, 1) := by decide +kernel
theorem dX6_joined_144 : decode cX6_joined 144 = .ok (.ireturn, 1) := by decide +kernel
theorem dX6_joined_145 : decode cX6_joined 145 = .ok (.iload_n 1, 1) := by decide +kernel
theorem dX6_joined_146 : decode cX6_joined 146 = .ok (.iload_n 2, 1) := by decide +kernel
theorem dX6_joined_147 : decode cX6_joined 147 = .ok (.imul, 1) := by decide +kernel
theorem dX6_joined_148 : decode cX6_joined 148 = .ok (.ireturn, 1) := by decide +kernel
theorem dX6_joined_149 : decode cX6_joined 149 = .ok (.iload_n 2, 1) := by decide +kernel
theorem dX6_joined_150 : decode cX6_joined 150 = .ok (.ifCond .ne 7, 3) := by decide +kernel
theorem dX6_joined_153 : decode cX6_joined 153 = .ok (.iconst 0, 1) := by decide +kernel
theorem dX6_joined_154 : decode cX6_joined 154 = .ok (.goto 6, 3) := by decide +kernel
theorem dX6_joined_157 : decode cX6_joined 157 = .ok (.iload_n 1, 1) := by decide +kernel
theorem dX6_joined_158 : decode cX6_joined 158 = .ok (.iload_n 2, 1) := by decide +kernel
theorem dX6_joined_159 : decode cX6_joined 159 = .ok (.idiv, 1) := by decide +kernel
theorem dX6_joined_160 : decode cX6_joined 160 = .ok (.ireturn, 1) := by decide +kernel
end AM13b
