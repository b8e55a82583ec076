section AM13c
theorem dX7_init_0 : decode cX7_init 0 = .ok (.aload_n 0, 1) := by decide +kernel
theorem dX7_init_1 : decode cX7_init 1 = .ok (.invokespecial 1, 3) := by decide +kernel
theorem dX7_init_4 : decode cX7_init 4 = .ok (.aload_n 0, 1) := by decide +kernel
theorem dX7_init_5 : decode cX7_init 5 = .ok (.new 7, 3) := by decide +kernel
theorem dX7_init_8 : decode cX7_init 8 = .ok (.dup, 1) := by decide +kernel
theorem dX7_init_9 : decode cX7_init 9 = .ok (.invokespecial 9, 3) := by decide +kernel
theorem dX7_init_12 : decode cX7_init 12 = .ok (.putfield 10, 3) := by decide +kernel
theorem dX7_init_15 : decode cX7_init 15 = .ok (.aload_n 0, 1) := by decide +kernel
theorem dX7_init_16 : decode cX7_init 16 = .ok (.new 7, 3) := by decide +kernel
theorem dX7_init_19 : decode cX7_init 19 = .ok (.dup, 1) := by decide +kernel
theorem dX7_init_20 : decode cX7_init 20 = .ok (.invokespecial 9, 3) := by decide +kernel
theorem dX7_init_23 : decode cX7_init 23 = .ok (.putfield 16, 3) := by decide +kernel
theorem dX7_init_26 : decode cX7_init 26 = .ok (.aload_n 0, 1) := by decide +kernel
theorem dX7_init_27 : decode cX7_init 27 = .ok (.new 7, 3) := by decide +kernel
theorem dX7_init_30 : decode cX7_init 30 = .ok (.dup, 1) := by decide +kernel
theorem dX7_init_31 : decode cX7_init 31 = .ok (.invokespecial 9, 3) := by decide +kernel
theorem dX7_init_34 : decode cX7_init 34 = .ok (.putfield 19, 3) := by decide +kernel
theorem dX7_init_37 : decode cX7_init 37 = .ok (.aload_n 0, 1) := by decide +kernel
theorem dX7_init_38 : decode cX7_init 38 = .ok (.iconst 0, 1) := by decide +kernel
theorem dX7_init_39 : decode cX7_init 39 = .ok (.putfield 22, 3) := by decide +kernel
theorem dX7_init_42 : decode cX7_init 42 = .ok (.aload_n 0, 1) := by decide +kernel
theorem dX7_init_43 : decode cX7_init 43 = .ok (.new 26, 3) := by decide +kernel
theorem dX7_init_46 : decode cX7_init 46 = .ok (.dup, 1) := by decide +kernel
theorem dX7_init_47 : decode cX7_init 47 = .ok (.invokespecial 28, 3) := by decide +kernel
theorem dX7_init_50 : decode cX7_init 50 = .ok (.putfield 29, 3) := by decide +kernel
theorem dX7_init_53 : decode cX7_init 53 = .ok (.aload_n 0, 1) := by decide +kernel
theorem dX7_init_54 : decode cX7_init 54 = .ok (.new 33, 3) := by decide +kernel
theorem dX7_init_57 : decode cX7_init 57 = .ok (.dup, 1) := by decide +kernel
theorem dX7_init_58 : decode cX7_init 58 = .ok (.invokespecial 35, 3) := by decide +kernel
theorem dX7_init_61 : decode cX7_init 61 = .ok (.putfield 36, 3) := by decide +kernel
theorem dX7_init_64 : decode cX7_init 64 = .ok (.aload_n 0, 1) := by decide +kernel
theorem dX7_init_65 : decode cX7_init 65 = .ok (.iconst 4, 1) := by decide +kernel
theorem dX7_init_66 : decode cX7_init 66 = .ok (.anewarray 40, 3) := by decide +kernel
theorem dX7_init_69 : decode cX7_init 69 = .ok (.putfield 42, 3) := by decide +kernel
theorem dX7_init_72 : decode cX7_init 72 = .ok (.aload_n 0, 1) := by decide +kernel
theorem dX7_init_73 : decode cX7_init 73 = .ok (.iconst 5, 1) := by decide +kernel
theorem dX7_init_74 : decode cX7_init 74 = .ok (.anewarray 46, 3) := by decide +kernel
theorem dX7_init_77 : decode cX7_init 77 = .ok (.putfield 48, 3) := by decide +kernel
theorem dX7_init_80 : decode cX7_init 80 = .ok (.aload_n 0, 1) := by decide +kernel
theorem dX7_init_81 : decode cX7_init 81 = .ok (.bipush 60, 2) := by decide +kernel
theorem dX7_init_83 : decode cX7_init 83 = .ok (.newarray .int, 2) := by decide +kernel
theorem dX7_init_85 : decode cX7_init 85 = .ok (.putfield 52, 3) := by decide +kernel
theorem dX7_init_88 : decode cX7_init 88 = .ok (.aload_n 0, 1) := by decide +kernel
theorem dX7_init_89 : decode cX7_init 89 = .ok (.iconst 0, 1) := by decide +kernel
theorem dX7_init_90 : decode cX7_init 90 = .ok (.putfield 56, 3) := by decide +kernel
theorem dX7_init_93 : decode cX7_init 93 = .ok (.aload_n 0, 1) := by decide +kernel
theorem dX7_init_94 : decode cX7_init 94 = .ok (.bipush 10, 2) := by decide +kernel
theorem dX7_init_96 : decode cX7_init 96 = .ok (.newarray .int, 2) := by decide +kernel
theorem dX7_init_98 : decode cX7_init 98 = .ok (.putfield 60, 3) := by decide +kernel
theorem dX7_init_101 : decode cX7_init 101 = .ok (.iconst 0, 1) := by decide +kernel
theorem dX7_init_102 : decode cX7_init 102 = .ok (.istore_n 1, 1) := by decide +kernel
theorem dX7_init_103 : decode cX7_init 103 = .ok (.iload_n 1, 1) := by decide +kernel
theorem dX7_init_104 : decode cX7_init 104 = .ok (.iconst 4, 1) := by decide +kernel
theorem dX7_init_105 : decode cX7_init 105 = .ok (.if_icmp .ge 22, 3) := by decide +kernel
theorem dX7_init_108 : decode cX7_init 108 = .ok (.aload_n 0, 1) := by decide +kernel
theorem dX7_init_109 : decode cX7_init 109 = .ok (.getfield 42, 3) := by decide +kernel
theorem dX7_init_112 : decode cX7_init 112 = .ok (.iload_n 1, 1) := by decide +kernel
theorem dX7_init_113 : decode cX7_init 113 = .ok (.new 40, 3) := by decide +kernel
theorem dX7_init_116 : decode cX7_init 116 = .ok (.dup, 1) := by decide +kernel
theorem dX7_init_117 : decode cX7_init 117 = .ok (.invokespecial 63, 3) := by decide +kernel
theorem dX7_init_120 : decode cX7_init 120 = .ok (.aastore, 1) := by decide +kernel
theorem dX7_init_121 : decode cX7_init 121 = .ok (.iinc 1 1, 3) := by decide +kernel
theorem dX7_init_124 : decode cX7_init 124 = .ok (.goto (-21), 3) := by decide +kernel
theorem dX7_init_127 : decode cX7_init 127 = .ok (.iconst 0, 1) := by decide +kernel
theorem dX7_init_128 : decode cX7_init 128 = .ok (.istore_n 1, 1) := by decide +kernel
theorem dX7_init_129 : decode cX7_init 129 = .ok (.iload_n 1, 1) := by decide +kernel
theorem dX7_init_130 : decode cX7_init 130 = .ok (.iconst 5, 1) := by decide +kernel
theorem dX7_init_131 : decode cX7_init 131 = .ok (.if_icmp .ge 22, 3) := by decide +kernel
theorem dX7_init_134 : decode cX7_init 134 = .ok (.aload_n 0, 1) := by decide +kernel
theorem dX7_init_135 : decode cX7_init 135 = .ok (.getfield 48, 3) := by decide +kernel
theorem dX7_init_138 : decode cX7_init 138 = .ok (.iload_n 1, 1) := by decide +kernel
theorem dX7_init_139 : decode cX7_init 139 = .ok (.new 46, 3) := by decide +kernel
theorem dX7_init_142 : decode cX7_init 142 = .ok (.dup, 1) := by decide +kernel
theorem dX7_init_143 : decode cX7_init 143 = .ok (.invokespecial 64, 3) := by decide +kernel
theorem dX7_init_146 : decode cX7_init 146 = .ok (.aastore, 1) := by decide +kernel
theorem dX7_init_147 : decode cX7_init 147 = .ok (.iinc 1 1, 3) := by decide +kernel
theorem dX7_init_150 : decode cX7_init 150 = .ok (.goto (-21), 3) := by decide +kernel
theorem dX7_init_153 : decode cX7_init 153 = .ok (.return_, 1) := by decide +kernel
theorem dX7_hole_0 : decode cX7_hole 0 = .ok (.iload_n 1, 1) := by decide +kernel
theorem dX7_hole_1 : decode cX7_hole 1 = .ok (.iconst 5, 1) := by decide +kernel
theorem dX7_hole_2 : decode cX7_hole 2 = .ok (.invokestatic 65, 3) := by decide +kernel
theorem dX7_hole_5 : decode cX7_hole 5 = .ok (.ifCond .eq 12, 3) := by decide +kernel
theorem dX7_hole_8 : decode cX7_hole 8 = .ok (.iload_n 2, 1) := by decide +kernel
theorem dX7_hole_9 : decode cX7_hole 9 = .ok (.bipush 29, 2) := by decide +kernel
theorem dX7_hole_11 : decode cX7_hole 11 = .ok (.invokestatic 65, 3) := by decide +kernel
theorem dX7_hole_14 : decode cX7_hole 14 = .ok (.ifCond .ne 6, 3) := by decide +kernel
theorem dX7_hole_17 : decode cX7_hole 17 = .ok (.ldc 69, 2) := by decide +kernel
theorem dX7_hole_19 : decode cX7_hole 19 = .ok (.ireturn, 1) := by decide +kernel
theorem dX7_hole_20 : decode cX7_hole 20 = .ok (.iload_n 3, 1) := by decide +kernel
theorem dX7_hole_21 : decode cX7_hole 21 = .ok (.bipush 99, 2) := by decide +kernel
theorem dX7_hole_23 : decode cX7_hole 23 = .ok (.invokestatic 65, 3) := by decide +kernel
theorem dX7_hole_26 : decode cX7_hole 26 = .ok (.ifCond .eq 13, 3) := by decide +kernel
theorem dX7_hole_29 : decode cX7_hole 29 = .ok (.iload 4, 2) := by decide +kernel
theorem dX7_hole_31 : decode cX7_hole 31 = .ok (.bipush 7, 2) := by decide +kernel
theorem dX7_hole_33 : decode cX7_hole 33 = .ok (.invokestatic 65, 3) := by decide +kernel
theorem dX7_hole_36 : decode cX7_hole 36 = .ok (.ifCond .ne 6, 3) := by decide +kernel
theorem dX7_hole_39 : decode cX7_hole 39 = .ok (.ldc 69, 2) := by decide +kernel
theorem dX7_hole_41 : decode cX7_hole 41 = .ok (.ireturn, 1) := by decide +kernel
theorem dX7_hole_42 : decode cX7_hole 42 = .ok (.aload_n 0, 1) := by decide +kernel
theorem dX7_hole_43 : decode cX7_hole 43 = .ok (.getfield 10, 3) := by decide +kernel
theorem dX7_hole_46 : decode cX7_hole 46 = .ok (.getfield 70, 3) := by decide +kernel
theorem dX7_hole_49 : decode cX7_hole 49 = .ok (.bipush 10, 2) := by decide +kernel
theorem dX7_hole_51 : decode cX7_hole 51 = .ok (.if_icmp .lt 6, 3) := by decide +kernel
theorem dX7_hole_54 : decode cX7_hole 54 = .ok (.ldc 73, 2) := by decide +kernel
theorem dX7_hole_56 : decode cX7_hole 56 = .ok (.ireturn, 1) := by decide +kernel
theorem dX7_hole_57 : decode cX7_hole 57 = .ok (.aload_n 0, 1) := by decide +kernel
theorem dX7_hole_58 : decode cX7_hole 58 = .ok (.getfield 10, 3) := by decide +kernel
theorem dX7_hole_61 : decode cX7_hole 61 = .ok (.iload_n 1, 1) := by decide +kernel
theorem dX7_hole_62 : decode cX7_hole 62 = .ok (.iload_n 2, 1) := by decide +kernel
theorem dX7_hole_63 : decode cX7_hole 63 = .ok (.iload_n 3, 1) := by decide +kernel
theorem dX7_hole_64 : decode cX7_hole 64 = .ok (.iload 4, 2) := by decide +kernel
theorem dX7_hole_66 : decode cX7_hole 66 = .ok (.invokevirtual 74, 3) := by decide +kernel
theorem dX7_hole_69 : decode cX7_hole 69 = .ok (.ireturn, 1) := by decide +kernel
theorem dX7_told_0 : decode cX7_told 0 = .ok (.aload_n 0, 1) := by decide +kernel
theorem dX7_told_1 : decode cX7_told 1 = .ok (.getfield 10, 3) := by decide +kernel
theorem dX7_told_4 : decode cX7_told 4 = .ok (.iload_n 1, 1) := by decide +kernel
theorem dX7_told_5 : decode cX7_told 5 = .ok (.invokevirtual 78, 3) := by decide +kernel
theorem dX7_told_8 : decode cX7_told 8 = .ok (.astore_n 3, 1) := by decide +kernel
theorem dX7_told_9 : decode cX7_told 9 = .ok (.aload_n 3, 1) := by decide +kernel
theorem dX7_told_10 : decode cX7_told 10 = .ok (.ifnull 11, 3) := by decide +kernel
theorem dX7_told_13 : decode cX7_told 13 = .ok (.iload_n 2, 1) := by decide +kernel
theorem dX7_told_14 : decode cX7_told 14 = .ok (.iconst 5, 1) := by decide +kernel
theorem dX7_told_15 : decode cX7_told 15 = .ok (.invokestatic 65, 3) := by decide +kernel
theorem dX7_told_18 : decode cX7_told 18 = .ok (.ifCond .ne 6, 3) := by decide +kernel
theorem dX7_told_21 : decode cX7_told 21 = .ok (.ldc 69, 2) := by decide +kernel
theorem dX7_told_23 : decode cX7_told 23 = .ok (.ireturn, 1) := by decide +kernel
theorem dX7_told_24 : decode cX7_told 24 = .ok (.aload_n 3, 1) := by decide +kernel
theorem dX7_told_25 : decode cX7_told 25 = .ok (.iload_n 2, 1) := by decide +kernel
theorem dX7_told_26 : decode cX7_told 26 = .ok (.invokevirtual 82, 3) := by decide +kernel
theorem dX7_told_29 : decode cX7_told 29 = .ok (.ireturn, 1) := by decide +kernel
theorem dX7_as_0 : decode cX7_as 0 = .ok (.aload_n 0, 1) := by decide +kernel
theorem dX7_as_1 : decode cX7_as 1 = .ok (.getfield 10, 3) := by decide +kernel
theorem dX7_as_4 : decode cX7_as 4 = .ok (.iload_n 1, 1) := by decide +kernel
theorem dX7_as_5 : decode cX7_as 5 = .ok (.invokevirtual 78, 3) := by decide +kernel
theorem dX7_as_8 : decode cX7_as 8 = .ok (.astore_n 3, 1) := by decide +kernel
theorem dX7_as_9 : decode cX7_as 9 = .ok (.aload_n 3, 1) := by decide +kernel
theorem dX7_as_10 : decode cX7_as 10 = .ok (.ifnull 11, 3) := by decide +kernel
theorem dX7_as_13 : decode cX7_as 13 = .ok (.iload_n 2, 1) := by decide +kernel
theorem dX7_as_14 : decode cX7_as 14 = .ok (.iconst 5, 1) := by decide +kernel
theorem dX7_as_15 : decode cX7_as 15 = .ok (.invokestatic 65, 3) := by decide +kernel
theorem dX7_as_18 : decode cX7_as 18 = .ok (.ifCond .ne 6, 3) := by decide +kernel
theorem dX7_as_21 : decode cX7_as 21 = .ok (.ldc 69, 2) := by decide +kernel
theorem dX7_as_23 : decode cX7_as 23 = .ok (.ireturn, 1) := by decide +kernel
theorem dX7_as_24 : decode cX7_as 24 = .ok (.aload_n 3, 1) := by decide +kernel
theorem dX7_as_25 : decode cX7_as 25 = .ok (.iload_n 2, 1) := by decide +kernel
theorem dX7_as_26 : decode cX7_as 26 = .ok (.invokevirtual 88, 3) := by decide +kernel
theorem dX7_as_29 : decode cX7_as 29 = .ok (.ifCond .eq 10, 3) := by decide +kernel
theorem dX7_as_32 : decode cX7_as 32 = .ok (.aload_n 3, 1) := by decide +kernel
theorem dX7_as_33 : decode cX7_as 33 = .ok (.getfield 92, 3) := by decide +kernel
theorem dX7_as_36 : decode cX7_as 36 = .ok (.goto 5, 3) := by decide +kernel
theorem dX7_as_39 : decode cX7_as 39 = .ok (.ldc 95, 2) := by decide +kernel
theorem dX7_as_41 : decode cX7_as 41 = .ok (.ireturn, 1) := by decide +kernel
theorem dX7_turns_0 : decode cX7_turns 0 = .ok (.aload_n 0, 1) := by decide +kernel
theorem dX7_turns_1 : decode cX7_turns 1 = .ok (.getfield 10, 3) := by decide +kernel
theorem dX7_turns_4 : decode cX7_turns 4 = .ok (.iload_n 1, 1) := by decide +kernel
theorem dX7_turns_5 : decode cX7_turns 5 = .ok (.invokevirtual 78, 3) := by decide +kernel
theorem dX7_turns_8 : decode cX7_turns 8 = .ok (.astore_n 3, 1) := by decide +kernel
theorem dX7_turns_9 : decode cX7_turns 9 = .ok (.aload_n 3, 1) := by decide +kernel
theorem dX7_turns_10 : decode cX7_turns 10 = .ok (.ifnull 11, 3) := by decide +kernel
theorem dX7_turns_13 : decode cX7_turns 13 = .ok (.iload_n 2, 1) := by decide +kernel
theorem dX7_turns_14 : decode cX7_turns 14 = .ok (.iconst 5, 1) := by decide +kernel
theorem dX7_turns_15 : decode cX7_turns 15 = .ok (.invokestatic 65, 3) := by decide +kernel
theorem dX7_turns_18 : decode cX7_turns 18 = .ok (.ifCond .ne 6, 3) := by decide +kernel
theorem dX7_turns_21 : decode cX7_turns 21 = .ok (.ldc 69, 2) := by decide +kernel
theorem dX7_turns_23 : decode cX7_turns 23 = .ok (.ireturn, 1) := by decide +kernel
theorem dX7_turns_24 : decode cX7_turns 24 = .ok (.aload_n 3, 1) := by decide +kernel
theorem dX7_turns_25 : decode cX7_turns 25 = .ok (.getfield 96, 3) := by decide +kernel
theorem dX7_turns_28 : decode cX7_turns 28 = .ok (.istore 4, 2) := by decide +kernel
theorem dX7_turns_30 : decode cX7_turns 30 = .ok (.aload_n 3, 1) := by decide +kernel
theorem dX7_turns_31 : decode cX7_turns 31 = .ok (.iload_n 2, 1) := by decide +kernel
theorem dX7_turns_32 : decode cX7_turns 32 = .ok (.putfield 96, 3) := by decide +kernel
theorem dX7_turns_35 : decode cX7_turns 35 = .ok (.iload 4, 2) := by decide +kernel
theorem dX7_turns_37 : decode cX7_turns 37 = .ok (.ireturn, 1) := by decide +kernel
theorem dX7_set_0 : decode cX7_set 0 = .ok (.aload_n 0, 1) := by decide +kernel
theorem dX7_set_1 : decode cX7_set 1 = .ok (.getfield 10, 3) := by decide +kernel
theorem dX7_set_4 : decode cX7_set 4 = .ok (.iload_n 1, 1) := by decide +kernel
theorem dX7_set_5 : decode cX7_set 5 = .ok (.invokevirtual 78, 3) := by decide +kernel
theorem dX7_set_8 : decode cX7_set 8 = .ok (.astore 4, 2) := by decide +kernel
theorem dX7_set_10 : decode cX7_set 10 = .ok (.aload 4, 2) := by decide +kernel
theorem dX7_set_12 : decode cX7_set 12 = .ok (.ifnull 14, 3) := by decide +kernel
theorem dX7_set_15 : decode cX7_set 15 = .ok (.iload_n 3, 1) := by decide +kernel
theorem dX7_set_16 : decode cX7_set 16 = .ok (.iload_n 2, 1) := by decide +kernel
theorem dX7_set_17 : decode cX7_set 17 = .ok (.invokestatic 99, 3) := by decide +kernel
theorem dX7_set_20 : decode cX7_set 20 = .ok (.invokestatic 65, 3) := by decide +kernel
theorem dX7_set_23 : decode cX7_set 23 = .ok (.ifCond .ne 6, 3) := by decide +kernel
theorem dX7_set_26 : decode cX7_set 26 = .ok (.ldc 69, 2) := by decide +kernel
theorem dX7_set_28 : decode cX7_set 28 = .ok (.ireturn, 1) := by decide +kernel
theorem dX7_set_29 : decode cX7_set 29 = .ok (.aload 4, 2) := by decide +kernel
theorem dX7_set_31 : decode cX7_set 31 = .ok (.iload_n 2, 1) := by decide +kernel
theorem dX7_set_32 : decode cX7_set 32 = .ok (.invokevirtual 82, 3) := by decide +kernel
theorem dX7_set_35 : decode cX7_set 35 = .ok (.istore 5, 2) := by decide +kernel
theorem dX7_set_37 : decode cX7_set 37 = .ok (.aload 4, 2) := by decide +kernel
theorem dX7_set_39 : decode cX7_set 39 = .ok (.iload_n 2, 1) := by decide +kernel
theorem dX7_set_40 : decode cX7_set 40 = .ok (.iload_n 3, 1) := by decide +kernel
theorem dX7_set_41 : decode cX7_set 41 = .ok (.invokevirtual 102, 3) := by decide +kernel
theorem dX7_set_44 : decode cX7_set 44 = .ok (.iload 5, 2) := by decide +kernel
theorem dX7_set_46 : decode cX7_set 46 = .ok (.ireturn, 1) := by decide +kernel
theorem dX7_settles_0 : decode cX7_settles 0 = .ok (.aload_n 0, 1) := by decide +kernel
theorem dX7_settles_1 : decode cX7_settles 1 = .ok (.getfield 10, 3) := by decide +kernel
theorem dX7_settles_4 : decode cX7_settles 4 = .ok (.iload_n 1, 1) := by decide +kernel
theorem dX7_settles_5 : decode cX7_settles 5 = .ok (.invokevirtual 78, 3) := by decide +kernel
theorem dX7_settles_8 : decode cX7_settles 8 = .ok (.astore_n 3, 1) := by decide +kernel
theorem dX7_settles_9 : decode cX7_settles 9 = .ok (.aload_n 3, 1) := by decide +kernel
theorem dX7_settles_10 : decode cX7_settles 10 = .ok (.ifnull 12, 3) := by decide +kernel
theorem dX7_settles_13 : decode cX7_settles 13 = .ok (.iload_n 2, 1) := by decide +kernel
theorem dX7_settles_14 : decode cX7_settles 14 = .ok (.bipush 9, 2) := by decide +kernel
theorem dX7_settles_16 : decode cX7_settles 16 = .ok (.invokestatic 65, 3) := by decide +kernel
theorem dX7_settles_19 : decode cX7_settles 19 = .ok (.ifCond .ne 6, 3) := by decide +kernel
theorem dX7_settles_22 : decode cX7_settles 22 = .ok (.ldc 69, 2) := by decide +kernel
theorem dX7_settles_24 : decode cX7_settles 24 = .ok (.ireturn, 1) := by decide +kernel
theorem dX7_settles_25 : decode cX7_settles 25 = .ok (.aload_n 0, 1) := by decide +kernel
theorem dX7_settles_26 : decode cX7_settles 26 = .ok (.getfield 10, 3) := by decide +kernel
theorem dX7_settles_29 : decode cX7_settles 29 = .ok (.aload_n 3, 1) := by decide +kernel
theorem dX7_settles_30 : decode cX7_settles 30 = .ok (.iload_n 2, 1) := by decide +kernel
theorem dX7_settles_31 : decode cX7_settles 31 = .ok (.invokevirtual 106, 3) := by decide +kernel
theorem dX7_settles_34 : decode cX7_settles 34 = .ok (.ireturn, 1) := by decide +kernel
theorem dX7_rule_0 : decode cX7_rule 0 = .ok (.iload_n 1, 1) := by decide +kernel
theorem dX7_rule_1 : decode cX7_rule 1 = .ok (.ifCond .ne 30, 3) := by decide +kernel
theorem dX7_rule_4 : decode cX7_rule 4 = .ok (.iload_n 2, 1) := by decide +kernel
theorem dX7_rule_5 : decode cX7_rule 5 = .ok (.bipush 29, 2) := by decide +kernel
theorem dX7_rule_7 : decode cX7_rule 7 = .ok (.invokestatic 65, 3) := by decide +kernel
theorem dX7_rule_10 : decode cX7_rule 10 = .ok (.ifCond .eq 21, 3) := by decide +kernel
theorem dX7_rule_13 : decode cX7_rule 13 = .ok (.aload_n 0, 1) := by decide +kernel
theorem dX7_rule_14 : decode cX7_rule 14 = .ok (.getfield 10, 3) := by decide +kernel
theorem dX7_rule_17 : decode cX7_rule 17 = .ok (.getfield 110, 3) := by decide +kernel
theorem dX7_rule_20 : decode cX7_rule 20 = .ok (.istore_n 3, 1) := by decide +kernel
theorem dX7_rule_21 : decode cX7_rule 21 = .ok (.aload_n 0, 1) := by decide +kernel
theorem dX7_rule_22 : decode cX7_rule 22 = .ok (.getfield 10, 3) := by decide +kernel
theorem dX7_rule_25 : decode cX7_rule 25 = .ok (.iload_n 2, 1) := by decide +kernel
theorem dX7_rule_26 : decode cX7_rule 26 = .ok (.putfield 110, 3) := by decide +kernel
theorem dX7_rule_29 : decode cX7_rule 29 = .ok (.iload_n 3, 1) := by decide +kernel
theorem dX7_rule_30 : decode cX7_rule 30 = .ok (.ireturn, 1) := by decide +kernel
theorem dX7_rule_31 : decode cX7_rule 31 = .ok (.iload_n 1, 1) := by decide +kernel
theorem dX7_rule_32 : decode cX7_rule 32 = .ok (.iconst 1, 1) := by decide +kernel
theorem dX7_rule_33 : decode cX7_rule 33 = .ok (.if_icmp .ne 34, 3) := by decide +kernel
theorem dX7_rule_36 : decode cX7_rule 36 = .ok (.iload_n 2, 1) := by decide +kernel
theorem dX7_rule_37 : decode cX7_rule 37 = .ok (.bipush 50, 2) := by decide +kernel
theorem dX7_rule_39 : decode cX7_rule 39 = .ok (.if_icmp .lt 28, 3) := by decide +kernel
theorem dX7_rule_42 : decode cX7_rule 42 = .ok (.iload_n 2, 1) := by decide +kernel
theorem dX7_rule_43 : decode cX7_rule 43 = .ok (.sipush 200, 3) := by decide +kernel
theorem dX7_rule_46 : decode cX7_rule 46 = .ok (.if_icmp .gt 21, 3) := by decide +kernel
theorem dX7_rule_49 : decode cX7_rule 49 = .ok (.aload_n 0, 1) := by decide +kernel
theorem dX7_rule_50 : decode cX7_rule 50 = .ok (.getfield 10, 3) := by decide +kernel
theorem dX7_rule_53 : decode cX7_rule 53 = .ok (.getfield 113, 3) := by decide +kernel
theorem dX7_rule_56 : decode cX7_rule 56 = .ok (.istore_n 3, 1) := by decide +kernel
theorem dX7_rule_57 : decode cX7_rule 57 = .ok (.aload_n 0, 1) := by decide +kernel
theorem dX7_rule_58 : decode cX7_rule 58 = .ok (.getfield 10, 3) := by decide +kernel
theorem dX7_rule_61 : decode cX7_rule 61 = .ok (.iload_n 2, 1) := by decide +kernel
theorem dX7_rule_62 : decode cX7_rule 62 = .ok (.putfield 113, 3) := by decide +kernel
theorem dX7_rule_65 : decode cX7_rule 65 = .ok (.iload_n 3, 1) := by decide +kernel
theorem dX7_rule_66 : decode cX7_rule 66 = .ok (.ireturn, 1) := by decide +kernel
theorem dX7_rule_67 : decode cX7_rule 67 = .ok (.ldc 69, 2) := by decide +kernel
theorem dX7_rule_69 : decode cX7_rule 69 = .ok (.ireturn, 1) := by decide +kernel
theorem dX7_deal_0 : decode cX7_deal 0 = .ok (.iload_n 1, 1) := by decide +kernel
theorem dX7_deal_1 : decode cX7_deal 1 = .ok (.iconst 1, 1) := by decide +kernel
theorem dX7_deal_2 : decode cX7_deal 2 = .ok (.if_icmp .lt 9, 3) := by decide +kernel
theorem dX7_deal_5 : decode cX7_deal 5 = .ok (.iload_n 1, 1) := by decide +kernel
theorem dX7_deal_6 : decode cX7_deal 6 = .ok (.bipush 10, 2) := by decide +kernel
theorem dX7_deal_8 : decode cX7_deal 8 = .ok (.if_icmp .le 6, 3) := by decide +kernel
theorem dX7_deal_11 : decode cX7_deal 11 = .ok (.ldc 69, 2) := by decide +kernel
theorem dX7_deal_13 : decode cX7_deal 13 = .ok (.ireturn, 1) := by decide +kernel
theorem dX7_deal_14 : decode cX7_deal 14 = .ok (.iload_n 1, 1) := by decide +kernel
theorem dX7_deal_15 : decode cX7_deal 15 = .ok (.bipush 10, 2) := by decide +kernel
theorem dX7_deal_17 : decode cX7_deal 17 = .ok (.aload_n 0, 1) := by decide +kernel
theorem dX7_deal_18 : decode cX7_deal 18 = .ok (.getfield 10, 3) := by decide +kernel
theorem dX7_deal_21 : decode cX7_deal 21 = .ok (.getfield 70, 3) := by decide +kernel
theorem dX7_deal_24 : decode cX7_deal 24 = .ok (.isub, 1) := by decide +kernel
theorem dX7_deal_25 : decode cX7_deal 25 = .ok (.invokestatic 116, 3) := by decide +kernel
theorem dX7_deal_28 : decode cX7_deal 28 = .ok (.istore_n 2, 1) := by decide +kernel
theorem dX7_deal_29 : decode cX7_deal 29 = .ok (.iconst 0, 1) := by decide +kernel
theorem dX7_deal_30 : decode cX7_deal 30 = .ok (.istore_n 3, 1) := by decide +kernel
theorem dX7_deal_31 : decode cX7_deal 31 = .ok (.iload_n 3, 1) := by decide +kernel
theorem dX7_deal_32 : decode cX7_deal 32 = .ok (.iload_n 2, 1) := by decide +kernel
theorem dX7_deal_33 : decode cX7_deal 33 = .ok (.if_icmp .ge 16, 3) := by decide +kernel
theorem dX7_deal_36 : decode cX7_deal 36 = .ok (.aload_n 0, 1) := by decide +kernel
theorem dX7_deal_37 : decode cX7_deal 37 = .ok (.getfield 10, 3) := by decide +kernel
theorem dX7_deal_40 : decode cX7_deal 40 = .ok (.invokevirtual 122, 3) := by decide +kernel
theorem dX7_deal_43 : decode cX7_deal 43 = .ok (.iinc 3 1, 3) := by decide +kernel
theorem dX7_deal_46 : decode cX7_deal 46 = .ok (.goto (-15), 3) := by decide +kernel
theorem dX7_deal_49 : decode cX7_deal 49 = .ok (.iload_n 2, 1) := by decide +kernel
theorem dX7_deal_50 : decode cX7_deal 50 = .ok (.ireturn, 1) := by decide +kernel
theorem dX7_seed_0 : decode cX7_seed 0 = .ok (.aload_n 0, 1) := by decide +kernel
theorem dX7_seed_1 : decode cX7_seed 1 = .ok (.getfield 10, 3) := by decide +kernel
theorem dX7_seed_4 : decode cX7_seed 4 = .ok (.getfield 125, 3) := by decide +kernel
theorem dX7_seed_7 : decode cX7_seed 7 = .ok (.istore_n 2, 1) := by decide +kernel
theorem dX7_seed_8 : decode cX7_seed 8 = .ok (.aload_n 0, 1) := by decide +kernel
theorem dX7_seed_9 : decode cX7_seed 9 = .ok (.getfield 10, 3) := by decide +kernel
theorem dX7_seed_12 : decode cX7_seed 12 = .ok (.iload_n 1, 1) := by decide +kernel
theorem dX7_seed_13 : decode cX7_seed 13 = .ok (.putfield 125, 3) := by decide +kernel
theorem dX7_seed_16 : decode cX7_seed 16 = .ok (.iload_n 2, 1) := by decide +kernel
theorem dX7_seed_17 : decode cX7_seed 17 = .ok (.ireturn, 1) := by decide +kernel
theorem dX7_takes_0 : decode cX7_takes 0 = .ok (.iload_n 1, 1) := by decide +kernel
theorem dX7_takes_1 : decode cX7_takes 1 = .ok (.bipush 29, 2) := by decide +kernel
theorem dX7_takes_3 : decode cX7_takes 3 = .ok (.invokestatic 65, 3) := by decide +kernel
theorem dX7_takes_6 : decode cX7_takes 6 = .ok (.ifCond .eq 10, 3) := by decide +kernel
theorem dX7_takes_9 : decode cX7_takes 9 = .ok (.iload_n 2, 1) := by decide +kernel
theorem dX7_takes_10 : decode cX7_takes 10 = .ok (.invokestatic 128, 3) := by decide +kernel
theorem dX7_takes_13 : decode cX7_takes 13 = .ok (.ifCond .ne 6, 3) := by decide +kernel
theorem dX7_takes_16 : decode cX7_takes 16 = .ok (.ldc 69, 2) := by decide +kernel
theorem dX7_takes_18 : decode cX7_takes 18 = .ok (.ireturn, 1) := by decide +kernel
theorem dX7_takes_19 : decode cX7_takes 19 = .ok (.aload_n 0, 1) := by decide +kernel
theorem dX7_takes_20 : decode cX7_takes 20 = .ok (.getfield 10, 3) := by decide +kernel
theorem dX7_takes_23 : decode cX7_takes 23 = .ok (.iload_n 2, 1) := by decide +kernel
theorem dX7_takes_24 : decode cX7_takes 24 = .ok (.invokevirtual 131, 3) := by decide +kernel
theorem dX7_takes_27 : decode cX7_takes 27 = .ok (.istore_n 3, 1) := by decide +kernel
theorem dX7_takes_28 : decode cX7_takes 28 = .ok (.iconst 0, 1) := by decide +kernel
theorem dX7_takes_29 : decode cX7_takes 29 = .ok (.istore 4, 2) := by decide +kernel
theorem dX7_takes_31 : decode cX7_takes 31 = .ok (.iconst 0, 1) := by decide +kernel
theorem dX7_takes_32 : decode cX7_takes 32 = .ok (.istore 5, 2) := by decide +kernel
theorem dX7_takes_34 : decode cX7_takes 34 = .ok (.iload 5, 2) := by decide +kernel
theorem dX7_takes_36 : decode cX7_takes 36 = .ok (.aload_n 0, 1) := by decide +kernel
theorem dX7_takes_37 : decode cX7_takes 37 = .ok (.getfield 10, 3) := by decide +kernel
theorem dX7_takes_40 : decode cX7_takes 40 = .ok (.getfield 70, 3) := by decide +kernel
theorem dX7_takes_43 : decode cX7_takes 43 = .ok (.if_icmp .ge 40, 3) := by decide +kernel
theorem dX7_takes_46 : decode cX7_takes 46 = .ok (.aload_n 0, 1) := by decide +kernel
theorem dX7_takes_47 : decode cX7_takes 47 = .ok (.getfield 10, 3) := by decide +kernel
theorem dX7_takes_50 : decode cX7_takes 50 = .ok (.aload_n 0, 1) := by decide +kernel
theorem dX7_takes_51 : decode cX7_takes 51 = .ok (.getfield 10, 3) := by decide +kernel
theorem dX7_takes_54 : decode cX7_takes 54 = .ok (.getfield 134, 3) := by decide +kernel
theorem dX7_takes_57 : decode cX7_takes 57 = .ok (.iload 5, 2) := by decide +kernel
theorem dX7_takes_59 : decode cX7_takes 59 = .ok (.aaload, 1) := by decide +kernel
theorem dX7_takes_60 : decode cX7_takes 60 = .ok (.iload_n 3, 1) := by decide +kernel
theorem dX7_takes_61 : decode cX7_takes 61 = .ok (.iload_n 1, 1) := by decide +kernel
theorem dX7_takes_62 : decode cX7_takes 62 = .ok (.invokevirtual 138, 3) := by decide +kernel
theorem dX7_takes_65 : decode cX7_takes 65 = .ok (.ifCond .eq 12, 3) := by decide +kernel
theorem dX7_takes_68 : decode cX7_takes 68 = .ok (.iload 4, 2) := by decide +kernel
theorem dX7_takes_70 : decode cX7_takes 70 = .ok (.iconst 1, 1) := by decide +kernel
theorem dX7_takes_71 : decode cX7_takes 71 = .ok (.iload 5, 2) := by decide +kernel
theorem dX7_takes_73 : decode cX7_takes 73 = .ok (.ishl, 1) := by decide +kernel
theorem dX7_takes_74 : decode cX7_takes 74 = .ok (.ior, 1) := by decide +kernel
theorem dX7_takes_75 : decode cX7_takes 75 = .ok (.istore 4, 2) := by decide +kernel
theorem dX7_takes_77 : decode cX7_takes 77 = .ok (.iinc 5 1, 3) := by decide +kernel
theorem dX7_takes_80 : decode cX7_takes 80 = .ok (.goto (-46), 3) := by decide +kernel
theorem dX7_takes_83 : decode cX7_takes 83 = .ok (.iload 4, 2) := by decide +kernel
theorem dX7_takes_85 : decode cX7_takes 85 = .ok (.ireturn, 1) := by decide +kernel
theorem dX7_dig_0 : decode cX7_dig 0 = .ok (.aload_n 0, 1) := by decide +kernel
theorem dX7_dig_1 : decode cX7_dig 1 = .ok (.getfield 10, 3) := by decide +kernel
theorem dX7_dig_4 : decode cX7_dig 4 = .ok (.iload_n 3, 1) := by decide +kernel
theorem dX7_dig_5 : decode cX7_dig 5 = .ok (.invokevirtual 78, 3) := by decide +kernel
theorem dX7_dig_8 : decode cX7_dig 8 = .ok (.astore 5, 2) := by decide +kernel
theorem dX7_dig_10 : decode cX7_dig 10 = .ok (.aload 5, 2) := by decide +kernel
theorem dX7_dig_12 : decode cX7_dig 12 = .ok (.ifnull 29, 3) := by decide +kernel
theorem dX7_dig_15 : decode cX7_dig 15 = .ok (.iload_n 1, 1) := by decide +kernel
theorem dX7_dig_16 : decode cX7_dig 16 = .ok (.bipush 29, 2) := by decide +kernel
theorem dX7_dig_18 : decode cX7_dig 18 = .ok (.invokestatic 65, 3) := by decide +kernel
theorem dX7_dig_21 : decode cX7_dig 21 = .ok (.ifCond .eq 20, 3) := by decide +kernel
theorem dX7_dig_24 : decode cX7_dig 24 = .ok (.iload_n 2, 1) := by decide +kernel
theorem dX7_dig_25 : decode cX7_dig 25 = .ok (.invokestatic 128, 3) := by decide +kernel
theorem dX7_dig_28 : decode cX7_dig 28 = .ok (.ifCond .eq 13, 3) := by decide +kernel
theorem dX7_dig_31 : decode cX7_dig 31 = .ok (.iload 4, 2) := by decide +kernel
theorem dX7_dig_33 : decode cX7_dig 33 = .ok (.bipush 7, 2) := by decide +kernel
theorem dX7_dig_35 : decode cX7_dig 35 = .ok (.invokestatic 65, 3) := by decide +kernel
theorem dX7_dig_38 : decode cX7_dig 38 = .ok (.ifCond .ne 6, 3) := by decide +kernel
theorem dX7_dig_41 : decode cX7_dig 41 = .ok (.ldc 69, 2) := by decide +kernel
theorem dX7_dig_43 : decode cX7_dig 43 = .ok (.ireturn, 1) := by decide +kernel
theorem dX7_dig_44 : decode cX7_dig 44 = .ok (.aload_n 0, 1) := by decide +kernel
theorem dX7_dig_45 : decode cX7_dig 45 = .ok (.getfield 10, 3) := by decide +kernel
theorem dX7_dig_48 : decode cX7_dig 48 = .ok (.iload_n 2, 1) := by decide +kernel
theorem dX7_dig_49 : decode cX7_dig 49 = .ok (.invokevirtual 131, 3) := by decide +kernel
theorem dX7_dig_52 : decode cX7_dig 52 = .ok (.istore 6, 2) := by decide +kernel
theorem dX7_dig_54 : decode cX7_dig 54 = .ok (.aload_n 0, 1) := by decide +kernel
theorem dX7_dig_55 : decode cX7_dig 55 = .ok (.getfield 10, 3) := by decide +kernel
theorem dX7_dig_58 : decode cX7_dig 58 = .ok (.aload 5, 2) := by decide +kernel
theorem dX7_dig_60 : decode cX7_dig 60 = .ok (.iload 6, 2) := by decide +kernel
theorem dX7_dig_62 : decode cX7_dig 62 = .ok (.iload_n 1, 1) := by decide +kernel
theorem dX7_dig_63 : decode cX7_dig 63 = .ok (.invokevirtual 138, 3) := by decide +kernel
theorem dX7_dig_66 : decode cX7_dig 66 = .ok (.ifCond .ne 6, 3) := by decide +kernel
theorem dX7_dig_69 : decode cX7_dig 69 = .ok (.ldc 142, 2) := by decide +kernel
theorem dX7_dig_71 : decode cX7_dig 71 = .ok (.ireturn, 1) := by decide +kernel
theorem dX7_dig_72 : decode cX7_dig 72 = .ok (.aload_n 0, 1) := by decide +kernel
theorem dX7_dig_73 : decode cX7_dig 73 = .ok (.getfield 10, 3) := by decide +kernel
theorem dX7_dig_76 : decode cX7_dig 76 = .ok (.aload 5, 2) := by decide +kernel
theorem dX7_dig_78 : decode cX7_dig 78 = .ok (.iload 6, 2) := by decide +kernel
theorem dX7_dig_80 : decode cX7_dig 80 = .ok (.invokevirtual 143, 3) := by decide +kernel
theorem dX7_dig_83 : decode cX7_dig 83 = .ok (.istore 7, 2) := by decide +kernel
theorem dX7_dig_85 : decode cX7_dig 85 = .ok (.iload 7, 2) := by decide +kernel
theorem dX7_dig_87 : decode cX7_dig 87 = .ok (.ifCond .lt 10, 3) := by decide +kernel
theorem dX7_dig_90 : decode cX7_dig 90 = .ok (.iload 7, 2) := by decide +kernel
theorem dX7_dig_92 : decode cX7_dig 92 = .ok (.bipush 10, 2) := by decide +kernel
theorem dX7_dig_94 : decode cX7_dig 94 = .ok (.if_icmp .lt 6, 3) := by decide +kernel
theorem dX7_dig_97 : decode cX7_dig 97 = .ok (.ldc 73, 2) := by decide +kernel
theorem dX7_dig_99 : decode cX7_dig 99 = .ok (.ireturn, 1) := by decide +kernel
theorem dX7_dig_100 : decode cX7_dig 100 = .ok (.aload 5, 2) := by decide +kernel
theorem dX7_dig_102 : decode cX7_dig 102 = .ok (.dup, 1) := by decide +kernel
theorem dX7_dig_103 : decode cX7_dig 103 = .ok (.getfield 92, 3) := by decide +kernel
theorem dX7_dig_106 : decode cX7_dig 106 = .ok (.iload 6, 2) := by decide +kernel
theorem dX7_dig_108 : decode cX7_dig 108 = .ok (.isub, 1) := by decide +kernel
theorem dX7_dig_109 : decode cX7_dig 109 = .ok (.putfield 92, 3) := by decide +kernel
theorem dX7_dig_112 : decode cX7_dig 112 = .ok (.aload_n 0, 1) := by decide +kernel
theorem dX7_dig_113 : decode cX7_dig 113 = .ok (.getfield 10, 3) := by decide +kernel
theorem dX7_dig_116 : decode cX7_dig 116 = .ok (.dup, 1) := by decide +kernel
theorem dX7_dig_117 : decode cX7_dig 117 = .ok (.getfield 146, 3) := by decide +kernel
theorem dX7_dig_120 : decode cX7_dig 120 = .ok (.iload_n 2, 1) := by decide +kernel
theorem dX7_dig_121 : decode cX7_dig 121 = .ok (.iadd, 1) := by decide +kernel
theorem dX7_dig_122 : decode cX7_dig 122 = .ok (.putfield 146, 3) := by decide +kernel
theorem dX7_dig_125 : decode cX7_dig 125 = .ok (.iload 7, 2) := by decide +kernel
theorem dX7_dig_127 : decode cX7_dig 127 = .ok (.aload_n 0, 1) := by decide +kernel
theorem dX7_dig_128 : decode cX7_dig 128 = .ok (.getfield 10, 3) := by decide +kernel
theorem dX7_dig_131 : decode cX7_dig 131 = .ok (.getfield 70, 3) := by decide +kernel
theorem dX7_dig_134 : decode cX7_dig 134 = .ok (.if_icmp .ne 16, 3) := by decide +kernel
theorem dX7_dig_137 : decode cX7_dig 137 = .ok (.aload_n 0, 1) := by decide +kernel
theorem dX7_dig_138 : decode cX7_dig 138 = .ok (.getfield 10, 3) := by decide +kernel
theorem dX7_dig_141 : decode cX7_dig 141 = .ok (.iconst 0, 1) := by decide +kernel
theorem dX7_dig_142 : decode cX7_dig 142 = .ok (.iload_n 1, 1) := by decide +kernel
theorem dX7_dig_143 : decode cX7_dig 143 = .ok (.iload_n 2, 1) := by decide +kernel
theorem dX7_dig_144 : decode cX7_dig 144 = .ok (.iload 4, 2) := by decide +kernel
theorem dX7_dig_146 : decode cX7_dig 146 = .ok (.invokevirtual 74, 3) := by decide +kernel
theorem dX7_dig_149 : decode cX7_dig 149 = .ok (.ireturn, 1) := by decide +kernel
theorem dX7_dig_150 : decode cX7_dig 150 = .ok (.aload_n 0, 1) := by decide +kernel
theorem dX7_dig_151 : decode cX7_dig 151 = .ok (.getfield 10, 3) := by decide +kernel
theorem dX7_dig_154 : decode cX7_dig 154 = .ok (.getfield 134, 3) := by decide +kernel
theorem dX7_dig_157 : decode cX7_dig 157 = .ok (.iload 7, 2) := by decide +kernel
theorem dX7_dig_159 : decode cX7_dig 159 = .ok (.aaload, 1) := by decide +kernel
theorem dX7_dig_160 : decode cX7_dig 160 = .ok (.iconst 0, 1) := by decide +kernel
theorem dX7_dig_161 : decode cX7_dig 161 = .ok (.iload_n 1, 1) := by decide +kernel
theorem dX7_dig_162 : decode cX7_dig 162 = .ok (.iload_n 2, 1) := by decide +kernel
theorem dX7_dig_163 : decode cX7_dig 163 = .ok (.iload 4, 2) := by decide +kernel
theorem dX7_dig_165 : decode cX7_dig 165 = .ok (.invokevirtual 149, 3) := by decide +kernel
theorem dX7_dig_168 : decode cX7_dig 168 = .ok (.iload 7, 2) := by decide +kernel
theorem dX7_dig_170 : decode cX7_dig 170 = .ok (.ireturn, 1) := by decide +kernel
theorem dX7_want_0 : decode cX7_want 0 = .ok (.iload_n 1, 1) := by decide +kernel
theorem dX7_want_1 : decode cX7_want 1 = .ok (.bipush 29, 2) := by decide +kernel
theorem dX7_want_3 : decode cX7_want 3 = .ok (.invokestatic 65, 3) := by decide +kernel
theorem dX7_want_6 : decode cX7_want 6 = .ok (.ifCond .eq 10, 3) := by decide +kernel
theorem dX7_want_9 : decode cX7_want 9 = .ok (.iload_n 2, 1) := by decide +kernel
theorem dX7_want_10 : decode cX7_want 10 = .ok (.invokestatic 128, 3) := by decide +kernel
theorem dX7_want_13 : decode cX7_want 13 = .ok (.ifCond .ne 6, 3) := by decide +kernel
theorem dX7_want_16 : decode cX7_want 16 = .ok (.ldc 69, 2) := by decide +kernel
theorem dX7_want_18 : decode cX7_want 18 = .ok (.ireturn, 1) := by decide +kernel
theorem dX7_want_19 : decode cX7_want 19 = .ok (.aload_n 0, 1) := by decide +kernel
theorem dX7_want_20 : decode cX7_want 20 = .ok (.getfield 10, 3) := by decide +kernel
theorem dX7_want_23 : decode cX7_want 23 = .ok (.getfield 153, 3) := by decide +kernel
theorem dX7_want_26 : decode cX7_want 26 = .ok (.istore_n 3, 1) := by decide +kernel
theorem dX7_want_27 : decode cX7_want 27 = .ok (.iload_n 3, 1) := by decide +kernel
theorem dX7_want_28 : decode cX7_want 28 = .ok (.bipush 6, 2) := by decide +kernel
theorem dX7_want_30 : decode cX7_want 30 = .ok (.if_icmp .lt 6, 3) := by decide +kernel
theorem dX7_want_33 : decode cX7_want 33 = .ok (.ldc 73, 2) := by decide +kernel
theorem dX7_want_35 : decode cX7_want 35 = .ok (.ireturn, 1) := by decide +kernel
theorem dX7_want_36 : decode cX7_want 36 = .ok (.aload_n 0, 1) := by decide +kernel
theorem dX7_want_37 : decode cX7_want 37 = .ok (.getfield 10, 3) := by decide +kernel
theorem dX7_want_40 : decode cX7_want 40 = .ok (.getfield 156, 3) := by decide +kernel
theorem dX7_want_43 : decode cX7_want 43 = .ok (.iload_n 3, 1) := by decide +kernel
theorem dX7_want_44 : decode cX7_want 44 = .ok (.iload_n 1, 1) := by decide +kernel
theorem dX7_want_45 : decode cX7_want 45 = .ok (.iastore, 1) := by decide +kernel
theorem dX7_want_46 : decode cX7_want 46 = .ok (.aload_n 0, 1) := by decide +kernel
theorem dX7_want_47 : decode cX7_want 47 = .ok (.getfield 10, 3) := by decide +kernel
theorem dX7_want_50 : decode cX7_want 50 = .ok (.getfield 159, 3) := by decide +kernel
theorem dX7_want_53 : decode cX7_want 53 = .ok (.iload_n 3, 1) := by decide +kernel
theorem dX7_want_54 : decode cX7_want 54 = .ok (.iload_n 2, 1) := by decide +kernel
theorem dX7_want_55 : decode cX7_want 55 = .ok (.iastore, 1) := by decide +kernel
theorem dX7_want_56 : decode cX7_want 56 = .ok (.aload_n 0, 1) := by decide +kernel
theorem dX7_want_57 : decode cX7_want 57 = .ok (.getfield 10, 3) := by decide +kernel
theorem dX7_want_60 : decode cX7_want 60 = .ok (.iload_n 3, 1) := by decide +kernel
theorem dX7_want_61 : decode cX7_want 61 = .ok (.iconst 1, 1) := by decide +kernel
theorem dX7_want_62 : decode cX7_want 62 = .ok (.iadd, 1) := by decide +kernel
theorem dX7_want_63 : decode cX7_want 63 = .ok (.putfield 153, 3) := by decide +kernel
theorem dX7_want_66 : decode cX7_want 66 = .ok (.iload_n 3, 1) := by decide +kernel
theorem dX7_want_67 : decode cX7_want 67 = .ok (.ireturn, 1) := by decide +kernel
theorem dX7_forget_0 : decode cX7_forget 0 = .ok (.aload_n 0, 1) := by decide +kernel
theorem dX7_forget_1 : decode cX7_forget 1 = .ok (.getfield 10, 3) := by decide +kernel
theorem dX7_forget_4 : decode cX7_forget 4 = .ok (.getfield 153, 3) := by decide +kernel
theorem dX7_forget_7 : decode cX7_forget 7 = .ok (.istore_n 1, 1) := by decide +kernel
theorem dX7_forget_8 : decode cX7_forget 8 = .ok (.aload_n 0, 1) := by decide +kernel
theorem dX7_forget_9 : decode cX7_forget 9 = .ok (.getfield 10, 3) := by decide +kernel
theorem dX7_forget_12 : decode cX7_forget 12 = .ok (.iconst 0, 1) := by decide +kernel
theorem dX7_forget_13 : decode cX7_forget 13 = .ok (.putfield 153, 3) := by decide +kernel
theorem dX7_forget_16 : decode cX7_forget 16 = .ok (.iload_n 1, 1) := by decide +kernel
theorem dX7_forget_17 : decode cX7_forget 17 = .ok (.ireturn, 1) := by decide +kernel
theorem dX7_dealing_0 : decode cX7_dealing 0 = .ok (.iload_n 1, 1) := by decide +kernel
theorem dX7_dealing_1 : decode cX7_dealing 1 = .ok (.aload_n 0, 1) := by decide +kernel
theorem dX7_dealing_2 : decode cX7_dealing 2 = .ok (.getfield 10, 3) := by decide +kernel
theorem dX7_dealing_5 : decode cX7_dealing 5 = .ok (.getfield 153, 3) := by decide +kernel
theorem dX7_dealing_8 : decode cX7_dealing 8 = .ok (.iconst 1, 1) := by decide +kernel
theorem dX7_dealing_9 : decode cX7_dealing 9 = .ok (.iadd, 1) := by decide +kernel
theorem dX7_dealing_10 : decode cX7_dealing 10 = .ok (.invokestatic 65, 3) := by decide +kernel
theorem dX7_dealing_13 : decode cX7_dealing 13 = .ok (.ifCond .ne 6, 3) := by decide +kernel
theorem dX7_dealing_16 : decode cX7_dealing 16 = .ok (.ldc 69, 2) := by decide +kernel
theorem dX7_dealing_18 : decode cX7_dealing 18 = .ok (.ireturn, 1) := by decide +kernel
theorem dX7_dealing_19 : decode cX7_dealing 19 = .ok (.aload_n 0, 1) := by decide +kernel
theorem dX7_dealing_20 : decode cX7_dealing 20 = .ok (.getfield 29, 3) := by decide +kernel
theorem dX7_dealing_23 : decode cX7_dealing 23 = .ok (.aload_n 0, 1) := by decide +kernel
theorem dX7_dealing_24 : decode cX7_dealing 24 = .ok (.getfield 10, 3) := by decide +kernel
theorem dX7_dealing_27 : decode cX7_dealing 27 = .ok (.iconst (-1), 1) := by decide +kernel
theorem dX7_dealing_28 : decode cX7_dealing 28 = .ok (.iconst (-1), 1) := by decide +kernel
theorem dX7_dealing_29 : decode cX7_dealing 29 = .ok (.invokevirtual 162, 3) := by decide +kernel
theorem dX7_dealing_32 : decode cX7_dealing 32 = .ok (.istore_n 2, 1) := by decide +kernel
theorem dX7_dealing_33 : decode cX7_dealing 33 = .ok (.iload_n 1, 1) := by decide +kernel
theorem dX7_dealing_34 : decode cX7_dealing 34 = .ok (.ifCond .ne 5, 3) := by decide +kernel
theorem dX7_dealing_37 : decode cX7_dealing 37 = .ok (.iload_n 2, 1) := by decide +kernel
theorem dX7_dealing_38 : decode cX7_dealing 38 = .ok (.ireturn, 1) := by decide +kernel
theorem dX7_dealing_39 : decode cX7_dealing 39 = .ok (.iload_n 1, 1) := by decide +kernel
theorem dX7_dealing_40 : decode cX7_dealing 40 = .ok (.iconst 1, 1) := by decide +kernel
theorem dX7_dealing_41 : decode cX7_dealing 41 = .ok (.if_icmp .ne 13, 3) := by decide +kernel
theorem dX7_dealing_44 : decode cX7_dealing 44 = .ok (.aload_n 0, 1) := by decide +kernel
theorem dX7_dealing_45 : decode cX7_dealing 45 = .ok (.getfield 29, 3) := by decide +kernel
theorem dX7_dealing_48 : decode cX7_dealing 48 = .ok (.invokevirtual 166, 3) := by decide +kernel
theorem dX7_dealing_51 : decode cX7_dealing 51 = .ok (.goto 13, 3) := by decide +kernel
theorem dX7_dealing_54 : decode cX7_dealing 54 = .ok (.aload_n 0, 1) := by decide +kernel
theorem dX7_dealing_55 : decode cX7_dealing 55 = .ok (.getfield 29, 3) := by decide +kernel
theorem dX7_dealing_58 : decode cX7_dealing 58 = .ok (.iload_n 1, 1) := by decide +kernel
theorem dX7_dealing_59 : decode cX7_dealing 59 = .ok (.iconst 2, 1) := by decide +kernel
theorem dX7_dealing_60 : decode cX7_dealing 60 = .ok (.isub, 1) := by decide +kernel
theorem dX7_dealing_61 : decode cX7_dealing 61 = .ok (.invokevirtual 170, 3) := by decide +kernel
theorem dX7_dealing_64 : decode cX7_dealing 64 = .ok (.ireturn, 1) := by decide +kernel
theorem dX7_adds_0 : decode cX7_adds 0 = .ok (.aload_n 0, 1) := by decide +kernel
theorem dX7_adds_1 : decode cX7_adds 1 = .ok (.getfield 10, 3) := by decide +kernel
theorem dX7_adds_4 : decode cX7_adds 4 = .ok (.iload_n 1, 1) := by decide +kernel
theorem dX7_adds_5 : decode cX7_adds 5 = .ok (.invokevirtual 78, 3) := by decide +kernel
theorem dX7_adds_8 : decode cX7_adds 8 = .ok (.ifnonnull 6, 3) := by decide +kernel
theorem dX7_adds_11 : decode cX7_adds 11 = .ok (.ldc 69, 2) := by decide +kernel
theorem dX7_adds_13 : decode cX7_adds 13 = .ok (.ireturn, 1) := by decide +kernel
theorem dX7_adds_14 : decode cX7_adds 14 = .ok (.aload_n 0, 1) := by decide +kernel
theorem dX7_adds_15 : decode cX7_adds 15 = .ok (.getfield 29, 3) := by decide +kernel
theorem dX7_adds_18 : decode cX7_adds 18 = .ok (.aload_n 0, 1) := by decide +kernel
theorem dX7_adds_19 : decode cX7_adds 19 = .ok (.getfield 10, 3) := by decide +kernel
theorem dX7_adds_22 : decode cX7_adds 22 = .ok (.iconst (-1), 1) := by decide +kernel
theorem dX7_adds_23 : decode cX7_adds 23 = .ok (.iconst (-1), 1) := by decide +kernel
theorem dX7_adds_24 : decode cX7_adds 24 = .ok (.invokevirtual 162, 3) := by decide +kernel
theorem dX7_adds_27 : decode cX7_adds 27 = .ok (.aload_n 0, 1) := by decide +kernel
theorem dX7_adds_28 : decode cX7_adds 28 = .ok (.getfield 29, 3) := by decide +kernel
theorem dX7_adds_31 : decode cX7_adds 31 = .ok (.aload_n 0, 1) := by decide +kernel
theorem dX7_adds_32 : decode cX7_adds 32 = .ok (.getfield 10, 3) := by decide +kernel
theorem dX7_adds_35 : decode cX7_adds 35 = .ok (.iload_n 1, 1) := by decide +kernel
theorem dX7_adds_36 : decode cX7_adds 36 = .ok (.iconst (-1), 1) := by decide +kernel
theorem dX7_adds_37 : decode cX7_adds 37 = .ok (.invokevirtual 162, 3) := by decide +kernel
theorem dX7_adds_40 : decode cX7_adds 40 = .ok (.isub, 1) := by decide +kernel
theorem dX7_adds_41 : decode cX7_adds 41 = .ok (.ireturn, 1) := by decide +kernel
theorem dX7_frees_0 : decode cX7_frees 0 = .ok (.iload_n 1, 1) := by decide +kernel
theorem dX7_frees_1 : decode cX7_frees 1 = .ok (.bipush 29, 2) := by decide +kernel
theorem dX7_frees_3 : decode cX7_frees 3 = .ok (.invokestatic 65, 3) := by decide +kernel
theorem dX7_frees_6 : decode cX7_frees 6 = .ok (.ifCond .ne 6, 3) := by decide +kernel
theorem dX7_frees_9 : decode cX7_frees 9 = .ok (.ldc 69, 2) := by decide +kernel
theorem dX7_frees_11 : decode cX7_frees 11 = .ok (.ireturn, 1) := by decide +kernel
theorem dX7_frees_12 : decode cX7_frees 12 = .ok (.aload_n 0, 1) := by decide +kernel
theorem dX7_frees_13 : decode cX7_frees 13 = .ok (.getfield 29, 3) := by decide +kernel
theorem dX7_frees_16 : decode cX7_frees 16 = .ok (.aload_n 0, 1) := by decide +kernel
theorem dX7_frees_17 : decode cX7_frees 17 = .ok (.getfield 10, 3) := by decide +kernel
theorem dX7_frees_20 : decode cX7_frees 20 = .ok (.iconst (-1), 1) := by decide +kernel
theorem dX7_frees_21 : decode cX7_frees 21 = .ok (.iconst (-1), 1) := by decide +kernel
theorem dX7_frees_22 : decode cX7_frees 22 = .ok (.invokevirtual 162, 3) := by decide +kernel
theorem dX7_frees_25 : decode cX7_frees 25 = .ok (.istore_n 2, 1) := by decide +kernel
theorem dX7_frees_26 : decode cX7_frees 26 = .ok (.bipush 100, 2) := by decide +kernel
theorem dX7_frees_28 : decode cX7_frees 28 = .ok (.istore_n 3, 1) := by decide +kernel
theorem dX7_frees_29 : decode cX7_frees 29 = .ok (.iconst 0, 1) := by decide +kernel
theorem dX7_frees_30 : decode cX7_frees 30 = .ok (.istore 4, 2) := by decide +kernel
theorem dX7_frees_32 : decode cX7_frees 32 = .ok (.iload 4, 2) := by decide +kernel
theorem dX7_frees_34 : decode cX7_frees 34 = .ok (.aload_n 0, 1) := by decide +kernel
theorem dX7_frees_35 : decode cX7_frees 35 = .ok (.getfield 10, 3) := by decide +kernel
theorem dX7_frees_38 : decode cX7_frees 38 = .ok (.getfield 153, 3) := by decide +kernel
theorem dX7_frees_41 : decode cX7_frees 41 = .ok (.if_icmp .ge 96, 3) := by decide +kernel
theorem dX7_frees_44 : decode cX7_frees 44 = .ok (.iconst 1, 1) := by decide +kernel
theorem dX7_frees_45 : decode cX7_frees 45 = .ok (.aload_n 0, 1) := by decide +kernel
theorem dX7_frees_46 : decode cX7_frees 46 = .ok (.getfield 10, 3) := by decide +kernel
theorem dX7_frees_49 : decode cX7_frees 49 = .ok (.aload_n 0, 1) := by decide +kernel
theorem dX7_frees_50 : decode cX7_frees 50 = .ok (.getfield 10, 3) := by decide +kernel
theorem dX7_frees_53 : decode cX7_frees 53 = .ok (.getfield 159, 3) := by decide +kernel
theorem dX7_frees_56 : decode cX7_frees 56 = .ok (.iload 4, 2) := by decide +kernel
theorem dX7_frees_58 : decode cX7_frees 58 = .ok (.iaload, 1) := by decide +kernel
theorem dX7_frees_59 : decode cX7_frees 59 = .ok (.invokevirtual 131, 3) := by decide +kernel
theorem dX7_frees_62 : decode cX7_frees 62 = .ok (.invokestatic 173, 3) := by decide +kernel
theorem dX7_frees_65 : decode cX7_frees 65 = .ok (.istore 5, 2) := by decide +kernel
theorem dX7_frees_67 : decode cX7_frees 67 = .ok (.iload_n 1, 1) := by decide +kernel
theorem dX7_frees_68 : decode cX7_frees 68 = .ok (.aload_n 0, 1) := by decide +kernel
theorem dX7_frees_69 : decode cX7_frees 69 = .ok (.getfield 10, 3) := by decide +kernel
theorem dX7_frees_72 : decode cX7_frees 72 = .ok (.getfield 156, 3) := by decide +kernel
theorem dX7_frees_75 : decode cX7_frees 75 = .ok (.iload 4, 2) := by decide +kernel
theorem dX7_frees_77 : decode cX7_frees 77 = .ok (.iaload, 1) := by decide +kernel
theorem dX7_frees_78 : decode cX7_frees 78 = .ok (.isub, 1) := by decide +kernel
theorem dX7_frees_79 : decode cX7_frees 79 = .ok (.invokestatic 176, 3) := by decide +kernel
theorem dX7_frees_82 : decode cX7_frees 82 = .ok (.aload_n 0, 1) := by decide +kernel
theorem dX7_frees_83 : decode cX7_frees 83 = .ok (.getfield 10, 3) := by decide +kernel
theorem dX7_frees_86 : decode cX7_frees 86 = .ok (.getfield 110, 3) := by decide +kernel
theorem dX7_frees_89 : decode cX7_frees 89 = .ok (.if_icmp .gt 7, 3) := by decide +kernel
theorem dX7_frees_92 : decode cX7_frees 92 = .ok (.iconst 1, 1) := by decide +kernel
theorem dX7_frees_93 : decode cX7_frees 93 = .ok (.goto 4, 3) := by decide +kernel
theorem dX7_frees_96 : decode cX7_frees 96 = .ok (.iconst 0, 1) := by decide +kernel
theorem dX7_frees_97 : decode cX7_frees 97 = .ok (.istore 6, 2) := by decide +kernel
theorem dX7_frees_99 : decode cX7_frees 99 = .ok (.iload 6, 2) := by decide +kernel
theorem dX7_frees_101 : decode cX7_frees 101 = .ok (.ifCond .eq 30, 3) := by decide +kernel
theorem dX7_frees_104 : decode cX7_frees 104 = .ok (.iload 5, 2) := by decide +kernel
theorem dX7_frees_106 : decode cX7_frees 106 = .ok (.iload_n 3, 1) := by decide +kernel
theorem dX7_frees_107 : decode cX7_frees 107 = .ok (.if_icmp .ge 24, 3) := by decide +kernel
theorem dX7_frees_110 : decode cX7_frees 110 = .ok (.aload_n 0, 1) := by decide +kernel
theorem dX7_frees_111 : decode cX7_frees 111 = .ok (.getfield 29, 3) := by decide +kernel
theorem dX7_frees_114 : decode cX7_frees 114 = .ok (.aload_n 0, 1) := by decide +kernel
theorem dX7_frees_115 : decode cX7_frees 115 = .ok (.getfield 10, 3) := by decide +kernel
theorem dX7_frees_118 : decode cX7_frees 118 = .ok (.iconst (-1), 1) := by decide +kernel
theorem dX7_frees_119 : decode cX7_frees 119 = .ok (.iload 4, 2) := by decide +kernel
theorem dX7_frees_121 : decode cX7_frees 121 = .ok (.invokevirtual 162, 3) := by decide +kernel
theorem dX7_frees_124 : decode cX7_frees 124 = .ok (.iload_n 2, 1) := by decide +kernel
theorem dX7_frees_125 : decode cX7_frees 125 = .ok (.if_icmp .ne 6, 3) := by decide +kernel
theorem dX7_frees_128 : decode cX7_frees 128 = .ok (.iload 5, 2) := by decide +kernel
theorem dX7_frees_130 : decode cX7_frees 130 = .ok (.istore_n 3, 1) := by decide +kernel
theorem dX7_frees_131 : decode cX7_frees 131 = .ok (.iinc 4 1, 3) := by decide +kernel
theorem dX7_frees_134 : decode cX7_frees 134 = .ok (.goto (-102), 3) := by decide +kernel
theorem dX7_frees_137 : decode cX7_frees 137 = .ok (.iload_n 3, 1) := by decide +kernel
theorem dX7_frees_138 : decode cX7_frees 138 = .ok (.bipush 99, 2) := by decide +kernel
theorem dX7_frees_140 : decode cX7_frees 140 = .ok (.if_icmp .gt 7, 3) := by decide +kernel
theorem dX7_frees_143 : decode cX7_frees 143 = .ok (.iload_n 3, 1) := by decide +kernel
theorem dX7_frees_144 : decode cX7_frees 144 = .ok (.goto 5, 3) := by decide +kernel
theorem dX7_frees_147 : decode cX7_frees 147 = .ok (.ldc 179, 2) := by decide +kernel
theorem dX7_frees_149 : decode cX7_frees 149 = .ok (.ireturn, 1) := by decide +kernel
theorem dX7_days_0 : decode cX7_days 0 = .ok (.iload_n 1, 1) := by decide +kernel
theorem dX7_days_1 : decode cX7_days 1 = .ok (.iconst 1, 1) := by decide +kernel
theorem dX7_days_2 : decode cX7_days 2 = .ok (.if_icmp .lt 9, 3) := by decide +kernel
theorem dX7_days_5 : decode cX7_days 5 = .ok (.iload_n 1, 1) := by decide +kernel
theorem dX7_days_6 : decode cX7_days 6 = .ok (.bipush 100, 2) := by decide +kernel
theorem dX7_days_8 : decode cX7_days 8 = .ok (.if_icmp .le 6, 3) := by decide +kernel
theorem dX7_days_11 : decode cX7_days 11 = .ok (.ldc 69, 2) := by decide +kernel
theorem dX7_days_13 : decode cX7_days 13 = .ok (.ireturn, 1) := by decide +kernel
theorem dX7_days_14 : decode cX7_days 14 = .ok (.iload_n 1, 1) := by decide +kernel
theorem dX7_days_15 : decode cX7_days 15 = .ok (.sipush 9999, 3) := by decide +kernel
theorem dX7_days_18 : decode cX7_days 18 = .ok (.aload_n 0, 1) := by decide +kernel
theorem dX7_days_19 : decode cX7_days 19 = .ok (.getfield 10, 3) := by decide +kernel
theorem dX7_days_22 : decode cX7_days 22 = .ok (.getfield 180, 3) := by decide +kernel
theorem dX7_days_25 : decode cX7_days 25 = .ok (.isub, 1) := by decide +kernel
theorem dX7_days_26 : decode cX7_days 26 = .ok (.invokestatic 116, 3) := by decide +kernel
theorem dX7_days_29 : decode cX7_days 29 = .ok (.istore_n 2, 1) := by decide +kernel
theorem dX7_days_30 : decode cX7_days 30 = .ok (.iconst 0, 1) := by decide +kernel
theorem dX7_days_31 : decode cX7_days 31 = .ok (.istore_n 3, 1) := by decide +kernel
theorem dX7_days_32 : decode cX7_days 32 = .ok (.iload_n 3, 1) := by decide +kernel
theorem dX7_days_33 : decode cX7_days 33 = .ok (.iload_n 2, 1) := by decide +kernel
theorem dX7_days_34 : decode cX7_days 34 = .ok (.if_icmp .ge 16, 3) := by decide +kernel
theorem dX7_days_37 : decode cX7_days 37 = .ok (.aload_n 0, 1) := by decide +kernel
theorem dX7_days_38 : decode cX7_days 38 = .ok (.getfield 10, 3) := by decide +kernel
theorem dX7_days_41 : decode cX7_days 41 = .ok (.invokevirtual 183, 3) := by decide +kernel
theorem dX7_days_44 : decode cX7_days 44 = .ok (.iinc 3 1, 3) := by decide +kernel
theorem dX7_days_47 : decode cX7_days 47 = .ok (.goto (-15), 3) := by decide +kernel
theorem dX7_days_50 : decode cX7_days 50 = .ok (.aload_n 0, 1) := by decide +kernel
theorem dX7_days_51 : decode cX7_days 51 = .ok (.getfield 10, 3) := by decide +kernel
theorem dX7_days_54 : decode cX7_days 54 = .ok (.invokevirtual 186, 3) := by decide +kernel
theorem dX7_days_57 : decode cX7_days 57 = .ok (.ireturn, 1) := by decide +kernel
theorem dX7_behind_0 : decode cX7_behind 0 = .ok (.iload_n 1, 1) := by decide +kernel
theorem dX7_behind_1 : decode cX7_behind 1 = .ok (.bipush 100, 2) := by decide +kernel
theorem dX7_behind_3 : decode cX7_behind 3 = .ok (.invokestatic 65, 3) := by decide +kernel
theorem dX7_behind_6 : decode cX7_behind 6 = .ok (.ifCond .eq 11, 3) := by decide +kernel
theorem dX7_behind_9 : decode cX7_behind 9 = .ok (.iload_n 2, 1) := by decide +kernel
theorem dX7_behind_10 : decode cX7_behind 10 = .ok (.iconst 2, 1) := by decide +kernel
theorem dX7_behind_11 : decode cX7_behind 11 = .ok (.invokestatic 65, 3) := by decide +kernel
theorem dX7_behind_14 : decode cX7_behind 14 = .ok (.ifCond .ne 6, 3) := by decide +kernel
theorem dX7_behind_17 : decode cX7_behind 17 = .ok (.ldc 69, 2) := by decide +kernel
theorem dX7_behind_19 : decode cX7_behind 19 = .ok (.ireturn, 1) := by decide +kernel
theorem dX7_behind_20 : decode cX7_behind 20 = .ok (.aload_n 0, 1) := by decide +kernel
theorem dX7_behind_21 : decode cX7_behind 21 = .ok (.getfield 16, 3) := by decide +kernel
theorem dX7_behind_24 : decode cX7_behind 24 = .ok (.aload_n 0, 1) := by decide +kernel
theorem dX7_behind_25 : decode cX7_behind 25 = .ok (.getfield 10, 3) := by decide +kernel
theorem dX7_behind_28 : decode cX7_behind 28 = .ok (.invokevirtual 189, 3) := by decide +kernel
theorem dX7_behind_31 : decode cX7_behind 31 = .ok (.iconst 0, 1) := by decide +kernel
theorem dX7_behind_32 : decode cX7_behind 32 = .ok (.istore_n 3, 1) := by decide +kernel
theorem dX7_behind_33 : decode cX7_behind 33 = .ok (.iload_n 3, 1) := by decide +kernel
theorem dX7_behind_34 : decode cX7_behind 34 = .ok (.iload_n 1, 1) := by decide +kernel
theorem dX7_behind_35 : decode cX7_behind 35 = .ok (.if_icmp .ge 16, 3) := by decide +kernel
theorem dX7_behind_38 : decode cX7_behind 38 = .ok (.aload_n 0, 1) := by decide +kernel
theorem dX7_behind_39 : decode cX7_behind 39 = .ok (.getfield 16, 3) := by decide +kernel
theorem dX7_behind_42 : decode cX7_behind 42 = .ok (.invokevirtual 183, 3) := by decide +kernel
theorem dX7_behind_45 : decode cX7_behind 45 = .ok (.iinc 3 1, 3) := by decide +kernel
theorem dX7_behind_48 : decode cX7_behind 48 = .ok (.goto (-15), 3) := by decide +kernel
theorem dX7_behind_51 : decode cX7_behind 51 = .ok (.iload_n 2, 1) := by decide +kernel
theorem dX7_behind_52 : decode cX7_behind 52 = .ok (.ifCond .ne 17, 3) := by decide +kernel
theorem dX7_behind_55 : decode cX7_behind 55 = .ok (.aload_n 0, 1) := by decide +kernel
theorem dX7_behind_56 : decode cX7_behind 56 = .ok (.getfield 29, 3) := by decide +kernel
theorem dX7_behind_59 : decode cX7_behind 59 = .ok (.aload_n 0, 1) := by decide +kernel
theorem dX7_behind_60 : decode cX7_behind 60 = .ok (.getfield 16, 3) := by decide +kernel
theorem dX7_behind_63 : decode cX7_behind 63 = .ok (.iconst (-1), 1) := by decide +kernel
theorem dX7_behind_64 : decode cX7_behind 64 = .ok (.iconst (-1), 1) := by decide +kernel
theorem dX7_behind_65 : decode cX7_behind 65 = .ok (.invokevirtual 162, 3) := by decide +kernel
theorem dX7_behind_68 : decode cX7_behind 68 = .ok (.ireturn, 1) := by decide +kernel
theorem dX7_behind_69 : decode cX7_behind 69 = .ok (.iload_n 2, 1) := by decide +kernel
theorem dX7_behind_70 : decode cX7_behind 70 = .ok (.iconst 1, 1) := by decide +kernel
theorem dX7_behind_71 : decode cX7_behind 71 = .ok (.if_icmp .ne 13, 3) := by decide +kernel
theorem dX7_behind_74 : decode cX7_behind 74 = .ok (.aload_n 0, 1) := by decide +kernel
theorem dX7_behind_75 : decode cX7_behind 75 = .ok (.getfield 16, 3) := by decide +kernel
theorem dX7_behind_78 : decode cX7_behind 78 = .ok (.invokevirtual 193, 3) := by decide +kernel
theorem dX7_behind_81 : decode cX7_behind 81 = .ok (.goto 10, 3) := by decide +kernel
theorem dX7_behind_84 : decode cX7_behind 84 = .ok (.aload_n 0, 1) := by decide +kernel
theorem dX7_behind_85 : decode cX7_behind 85 = .ok (.getfield 16, 3) := by decide +kernel
theorem dX7_behind_88 : decode cX7_behind 88 = .ok (.invokevirtual 186, 3) := by decide +kernel
theorem dX7_behind_91 : decode cX7_behind 91 = .ok (.ireturn, 1) := by decide +kernel
theorem dX7_paid_0 : decode cX7_paid 0 = .ok (.aload_n 0, 1) := by decide +kernel
theorem dX7_paid_1 : decode cX7_paid 1 = .ok (.getfield 16, 3) := by decide +kernel
theorem dX7_paid_4 : decode cX7_paid 4 = .ok (.aload_n 0, 1) := by decide +kernel
theorem dX7_paid_5 : decode cX7_paid 5 = .ok (.getfield 10, 3) := by decide +kernel
theorem dX7_paid_8 : decode cX7_paid 8 = .ok (.invokevirtual 189, 3) := by decide +kernel
theorem dX7_paid_11 : decode cX7_paid 11 = .ok (.iconst 0, 1) := by decide +kernel
theorem dX7_paid_12 : decode cX7_paid 12 = .ok (.istore_n 1, 1) := by decide +kernel
theorem dX7_paid_13 : decode cX7_paid 13 = .ok (.iload_n 1, 1) := by decide +kernel
theorem dX7_paid_14 : decode cX7_paid 14 = .ok (.sipush 300, 3) := by decide +kernel
theorem dX7_paid_17 : decode cX7_paid 17 = .ok (.if_icmp .gt 35, 3) := by decide +kernel
theorem dX7_paid_20 : decode cX7_paid 20 = .ok (.aload_n 0, 1) := by decide +kernel
theorem dX7_paid_21 : decode cX7_paid 21 = .ok (.getfield 16, 3) := by decide +kernel
theorem dX7_paid_24 : decode cX7_paid 24 = .ok (.invokevirtual 186, 3) := by decide +kernel
theorem dX7_paid_27 : decode cX7_paid 27 = .ok (.aload_n 0, 1) := by decide +kernel
theorem dX7_paid_28 : decode cX7_paid 28 = .ok (.getfield 16, 3) := by decide +kernel
theorem dX7_paid_31 : decode cX7_paid 31 = .ok (.getfield 70, 3) := by decide +kernel
theorem dX7_paid_34 : decode cX7_paid 34 = .ok (.if_icmp .ne 5, 3) := by decide +kernel
theorem dX7_paid_37 : decode cX7_paid 37 = .ok (.iload_n 1, 1) := by decide +kernel
theorem dX7_paid_38 : decode cX7_paid 38 = .ok (.ireturn, 1) := by decide +kernel
theorem dX7_paid_39 : decode cX7_paid 39 = .ok (.aload_n 0, 1) := by decide +kernel
theorem dX7_paid_40 : decode cX7_paid 40 = .ok (.getfield 16, 3) := by decide +kernel
theorem dX7_paid_43 : decode cX7_paid 43 = .ok (.invokevirtual 183, 3) := by decide +kernel
theorem dX7_paid_46 : decode cX7_paid 46 = .ok (.iinc 1 1, 3) := by decide +kernel
theorem dX7_paid_49 : decode cX7_paid 49 = .ok (.goto (-36), 3) := by decide +kernel
theorem dX7_paid_52 : decode cX7_paid 52 = .ok (.ldc 179, 2) := by decide +kernel
theorem dX7_paid_54 : decode cX7_paid 54 = .ok (.ireturn, 1) := by decide +kernel
theorem dX7_best_0 : decode cX7_best 0 = .ok (.iload_n 1, 1) := by decide +kernel
theorem dX7_best_1 : decode cX7_best 1 = .ok (.bipush 30, 2) := by decide +kernel
theorem dX7_best_3 : decode cX7_best 3 = .ok (.invokestatic 65, 3) := by decide +kernel
theorem dX7_best_6 : decode cX7_best 6 = .ok (.ifCond .eq 11, 3) := by decide +kernel
theorem dX7_best_9 : decode cX7_best 9 = .ok (.iload_n 2, 1) := by decide +kernel
theorem dX7_best_10 : decode cX7_best 10 = .ok (.iconst 1, 1) := by decide +kernel
theorem dX7_best_11 : decode cX7_best 11 = .ok (.invokestatic 65, 3) := by decide +kernel
theorem dX7_best_14 : decode cX7_best 14 = .ok (.ifCond .ne 6, 3) := by decide +kernel
theorem dX7_best_17 : decode cX7_best 17 = .ok (.ldc 69, 2) := by decide +kernel
theorem dX7_best_19 : decode cX7_best 19 = .ok (.ireturn, 1) := by decide +kernel
theorem dX7_best_20 : decode cX7_best 20 = .ok (.aload_n 0, 1) := by decide +kernel
theorem dX7_best_21 : decode cX7_best 21 = .ok (.getfield 16, 3) := by decide +kernel
theorem dX7_best_24 : decode cX7_best 24 = .ok (.aload_n 0, 1) := by decide +kernel
theorem dX7_best_25 : decode cX7_best 25 = .ok (.getfield 10, 3) := by decide +kernel
theorem dX7_best_28 : decode cX7_best 28 = .ok (.invokevirtual 189, 3) := by decide +kernel
theorem dX7_best_31 : decode cX7_best 31 = .ok (.iconst 0, 1) := by decide +kernel
theorem dX7_best_32 : decode cX7_best 32 = .ok (.istore_n 3, 1) := by decide +kernel
theorem dX7_best_33 : decode cX7_best 33 = .ok (.iconst (-1), 1) := by decide +kernel
theorem dX7_best_34 : decode cX7_best 34 = .ok (.istore 4, 2) := by decide +kernel
theorem dX7_best_36 : decode cX7_best 36 = .ok (.iconst 0, 1) := by decide +kernel
theorem dX7_best_37 : decode cX7_best 37 = .ok (.istore 5, 2) := by decide +kernel
theorem dX7_best_39 : decode cX7_best 39 = .ok (.iload 5, 2) := by decide +kernel
theorem dX7_best_41 : decode cX7_best 41 = .ok (.iload_n 1, 1) := by decide +kernel
theorem dX7_best_42 : decode cX7_best 42 = .ok (.if_icmp .gt 45, 3) := by decide +kernel
theorem dX7_best_45 : decode cX7_best 45 = .ok (.aload_n 0, 1) := by decide +kernel
theorem dX7_best_46 : decode cX7_best 46 = .ok (.getfield 29, 3) := by decide +kernel
theorem dX7_best_49 : decode cX7_best 49 = .ok (.aload_n 0, 1) := by decide +kernel
theorem dX7_best_50 : decode cX7_best 50 = .ok (.getfield 16, 3) := by decide +kernel
theorem dX7_best_53 : decode cX7_best 53 = .ok (.iconst (-1), 1) := by decide +kernel
theorem dX7_best_54 : decode cX7_best 54 = .ok (.iconst (-1), 1) := by decide +kernel
theorem dX7_best_55 : decode cX7_best 55 = .ok (.invokevirtual 162, 3) := by decide +kernel
theorem dX7_best_58 : decode cX7_best 58 = .ok (.istore 6, 2) := by decide +kernel
theorem dX7_best_60 : decode cX7_best 60 = .ok (.iload 6, 2) := by decide +kernel
theorem dX7_best_62 : decode cX7_best 62 = .ok (.iload 4, 2) := by decide +kernel
theorem dX7_best_64 : decode cX7_best 64 = .ok (.if_icmp .le 10, 3) := by decide +kernel
theorem dX7_best_67 : decode cX7_best 67 = .ok (.iload 6, 2) := by decide +kernel
theorem dX7_best_69 : decode cX7_best 69 = .ok (.istore 4, 2) := by decide +kernel
theorem dX7_best_71 : decode cX7_best 71 = .ok (.iload 5, 2) := by decide +kernel
theorem dX7_best_73 : decode cX7_best 73 = .ok (.istore_n 3, 1) := by decide +kernel
theorem dX7_best_74 : decode cX7_best 74 = .ok (.aload_n 0, 1) := by decide +kernel
theorem dX7_best_75 : decode cX7_best 75 = .ok (.getfield 16, 3) := by decide +kernel
theorem dX7_best_78 : decode cX7_best 78 = .ok (.invokevirtual 183, 3) := by decide +kernel
theorem dX7_best_81 : decode cX7_best 81 = .ok (.iinc 5 1, 3) := by decide +kernel
theorem dX7_best_84 : decode cX7_best 84 = .ok (.goto (-45), 3) := by decide +kernel
theorem dX7_best_87 : decode cX7_best 87 = .ok (.iload_n 2, 1) := by decide +kernel
theorem dX7_best_88 : decode cX7_best 88 = .ok (.ifCond .ne 7, 3) := by decide +kernel
theorem dX7_best_91 : decode cX7_best 91 = .ok (.iload_n 3, 1) := by decide +kernel
theorem dX7_best_92 : decode cX7_best 92 = .ok (.goto 5, 3) := by decide +kernel
theorem dX7_best_95 : decode cX7_best 95 = .ok (.iload 4, 2) := by decide +kernel
theorem dX7_best_97 : decode cX7_best 97 = .ok (.ireturn, 1) := by decide +kernel
theorem dX7_owes_0 : decode cX7_owes 0 = .ok (.iload_n 1, 1) := by decide +kernel
theorem dX7_owes_1 : decode cX7_owes 1 = .ok (.bipush 7, 2) := by decide +kernel
theorem dX7_owes_3 : decode cX7_owes 3 = .ok (.invokestatic 65, 3) := by decide +kernel
theorem dX7_owes_6 : decode cX7_owes 6 = .ok (.ifCond .eq 14, 3) := by decide +kernel
theorem dX7_owes_9 : decode cX7_owes 9 = .ok (.aload_n 0, 1) := by decide +kernel
theorem dX7_owes_10 : decode cX7_owes 10 = .ok (.getfield 10, 3) := by decide +kernel
theorem dX7_owes_13 : decode cX7_owes 13 = .ok (.iload_n 1, 1) := by decide +kernel
theorem dX7_owes_14 : decode cX7_owes 14 = .ok (.invokevirtual 196, 3) := by decide +kernel
theorem dX7_owes_17 : decode cX7_owes 17 = .ok (.goto 5, 3) := by decide +kernel
theorem dX7_owes_20 : decode cX7_owes 20 = .ok (.ldc 69, 2) := by decide +kernel
theorem dX7_owes_22 : decode cX7_owes 22 = .ok (.ireturn, 1) := by decide +kernel
theorem dX7_debtor_0 : decode cX7_debtor 0 = .ok (.iconst 0, 1) := by decide +kernel
theorem dX7_debtor_1 : decode cX7_debtor 1 = .ok (.istore_n 1, 1) := by decide +kernel
theorem dX7_debtor_2 : decode cX7_debtor 2 = .ok (.iconst 1, 1) := by decide +kernel
theorem dX7_debtor_3 : decode cX7_debtor 3 = .ok (.istore_n 2, 1) := by decide +kernel
theorem dX7_debtor_4 : decode cX7_debtor 4 = .ok (.iload_n 2, 1) := by decide +kernel
theorem dX7_debtor_5 : decode cX7_debtor 5 = .ok (.bipush 7, 2) := by decide +kernel
theorem dX7_debtor_7 : decode cX7_debtor 7 = .ok (.if_icmp .gt 30, 3) := by decide +kernel
theorem dX7_debtor_10 : decode cX7_debtor 10 = .ok (.aload_n 0, 1) := by decide +kernel
theorem dX7_debtor_11 : decode cX7_debtor 11 = .ok (.getfield 10, 3) := by decide +kernel
theorem dX7_debtor_14 : decode cX7_debtor 14 = .ok (.iload_n 2, 1) := by decide +kernel
theorem dX7_debtor_15 : decode cX7_debtor 15 = .ok (.invokevirtual 196, 3) := by decide +kernel
theorem dX7_debtor_18 : decode cX7_debtor 18 = .ok (.aload_n 0, 1) := by decide +kernel
theorem dX7_debtor_19 : decode cX7_debtor 19 = .ok (.getfield 10, 3) := by decide +kernel
theorem dX7_debtor_22 : decode cX7_debtor 22 = .ok (.iload_n 1, 1) := by decide +kernel
theorem dX7_debtor_23 : decode cX7_debtor 23 = .ok (.invokevirtual 196, 3) := by decide +kernel
theorem dX7_debtor_26 : decode cX7_debtor 26 = .ok (.if_icmp .le 5, 3) := by decide +kernel
theorem dX7_debtor_29 : decode cX7_debtor 29 = .ok (.iload_n 2, 1) := by decide +kernel
theorem dX7_debtor_30 : decode cX7_debtor 30 = .ok (.istore_n 1, 1) := by decide +kernel
theorem dX7_debtor_31 : decode cX7_debtor 31 = .ok (.iinc 2 1, 3) := by decide +kernel
theorem dX7_debtor_34 : decode cX7_debtor 34 = .ok (.goto (-30), 3) := by decide +kernel
theorem dX7_debtor_37 : decode cX7_debtor 37 = .ok (.iload_n 1, 1) := by decide +kernel
theorem dX7_debtor_38 : decode cX7_debtor 38 = .ok (.ireturn, 1) := by decide +kernel
theorem dX7_dug_0 : decode cX7_dug 0 = .ok (.aload_n 0, 1) := by decide +kernel
theorem dX7_dug_1 : decode cX7_dug 1 = .ok (.iload_n 1, 1) := by decide +kernel
theorem dX7_dug_2 : decode cX7_dug 2 = .ok (.invokevirtual 199, 3) := by decide +kernel
theorem dX7_dug_5 : decode cX7_dug 5 = .ok (.astore_n 3, 1) := by decide +kernel
theorem dX7_dug_6 : decode cX7_dug 6 = .ok (.aload_n 3, 1) := by decide +kernel
theorem dX7_dug_7 : decode cX7_dug 7 = .ok (.ifnull 11, 3) := by decide +kernel
theorem dX7_dug_10 : decode cX7_dug 10 = .ok (.iload_n 2, 1) := by decide +kernel
theorem dX7_dug_11 : decode cX7_dug 11 = .ok (.iconst 1, 1) := by decide +kernel
theorem dX7_dug_12 : decode cX7_dug 12 = .ok (.invokestatic 65, 3) := by decide +kernel
theorem dX7_dug_15 : decode cX7_dug 15 = .ok (.ifCond .ne 6, 3) := by decide +kernel
theorem dX7_dug_18 : decode cX7_dug 18 = .ok (.ldc 69, 2) := by decide +kernel
theorem dX7_dug_20 : decode cX7_dug 20 = .ok (.ireturn, 1) := by decide +kernel
theorem dX7_dug_21 : decode cX7_dug 21 = .ok (.aload_n 3, 1) := by decide +kernel
theorem dX7_dug_22 : decode cX7_dug 22 = .ok (.getfield 203, 3) := by decide +kernel
theorem dX7_dug_25 : decode cX7_dug 25 = .ok (.iconst (-1), 1) := by decide +kernel
theorem dX7_dug_26 : decode cX7_dug 26 = .ok (.if_icmp .ne 6, 3) := by decide +kernel
theorem dX7_dug_29 : decode cX7_dug 29 = .ok (.ldc 206, 2) := by decide +kernel
theorem dX7_dug_31 : decode cX7_dug 31 = .ok (.ireturn, 1) := by decide +kernel
theorem dX7_dug_32 : decode cX7_dug 32 = .ok (.aload_n 0, 1) := by decide +kernel
theorem dX7_dug_33 : decode cX7_dug 33 = .ok (.getfield 10, 3) := by decide +kernel
theorem dX7_dug_36 : decode cX7_dug 36 = .ok (.getfield 70, 3) := by decide +kernel
theorem dX7_dug_39 : decode cX7_dug 39 = .ok (.ifCond .ne 6, 3) := by decide +kernel
theorem dX7_dug_42 : decode cX7_dug 42 = .ok (.ldc 179, 2) := by decide +kernel
theorem dX7_dug_44 : decode cX7_dug 44 = .ok (.ireturn, 1) := by decide +kernel
theorem dX7_dug_45 : decode cX7_dug 45 = .ok (.aload_n 0, 1) := by decide +kernel
theorem dX7_dug_46 : decode cX7_dug 46 = .ok (.aload_n 3, 1) := by decide +kernel
theorem dX7_dug_47 : decode cX7_dug 47 = .ok (.invokevirtual 207, 3) := by decide +kernel
theorem dX7_dug_50 : decode cX7_dug 50 = .ok (.iconst 0, 1) := by decide +kernel
theorem dX7_dug_51 : decode cX7_dug 51 = .ok (.istore 4, 2) := by decide +kernel
theorem dX7_dug_53 : decode cX7_dug 53 = .ok (.iconst 1, 1) := by decide +kernel
theorem dX7_dug_54 : decode cX7_dug 54 = .ok (.istore 5, 2) := by decide +kernel
theorem dX7_dug_56 : decode cX7_dug 56 = .ok (.iload 5, 2) := by decide +kernel
theorem dX7_dug_58 : decode cX7_dug 58 = .ok (.aload_n 0, 1) := by decide +kernel
theorem dX7_dug_59 : decode cX7_dug 59 = .ok (.getfield 10, 3) := by decide +kernel
theorem dX7_dug_62 : decode cX7_dug 62 = .ok (.getfield 70, 3) := by decide +kernel
theorem dX7_dug_65 : decode cX7_dug 65 = .ok (.if_icmp .ge 30, 3) := by decide +kernel
theorem dX7_dug_68 : decode cX7_dug 68 = .ok (.aload_n 0, 1) := by decide +kernel
theorem dX7_dug_69 : decode cX7_dug 69 = .ok (.getfield 60, 3) := by decide +kernel
theorem dX7_dug_72 : decode cX7_dug 72 = .ok (.iload 5, 2) := by decide +kernel
theorem dX7_dug_74 : decode cX7_dug 74 = .ok (.iaload, 1) := by decide +kernel
theorem dX7_dug_75 : decode cX7_dug 75 = .ok (.aload_n 0, 1) := by decide +kernel
theorem dX7_dug_76 : decode cX7_dug 76 = .ok (.getfield 60, 3) := by decide +kernel
theorem dX7_dug_79 : decode cX7_dug 79 = .ok (.iload 4, 2) := by decide +kernel
theorem dX7_dug_81 : decode cX7_dug 81 = .ok (.iaload, 1) := by decide +kernel
theorem dX7_dug_82 : decode cX7_dug 82 = .ok (.if_icmp .ge 7, 3) := by decide +kernel
theorem dX7_dug_85 : decode cX7_dug 85 = .ok (.iload 5, 2) := by decide +kernel
theorem dX7_dug_87 : decode cX7_dug 87 = .ok (.istore 4, 2) := by decide +kernel
theorem dX7_dug_89 : decode cX7_dug 89 = .ok (.iinc 5 1, 3) := by decide +kernel
theorem dX7_dug_92 : decode cX7_dug 92 = .ok (.goto (-36), 3) := by decide +kernel
theorem dX7_dug_95 : decode cX7_dug 95 = .ok (.iload_n 2, 1) := by decide +kernel
theorem dX7_dug_96 : decode cX7_dug 96 = .ok (.ifCond .ne 8, 3) := by decide +kernel
theorem dX7_dug_99 : decode cX7_dug 99 = .ok (.iload 4, 2) := by decide +kernel
theorem dX7_dug_101 : decode cX7_dug 101 = .ok (.goto 10, 3) := by decide +kernel
theorem dX7_dug_104 : decode cX7_dug 104 = .ok (.aload_n 0, 1) := by decide +kernel
theorem dX7_dug_105 : decode cX7_dug 105 = .ok (.getfield 60, 3) := by decide +kernel
theorem dX7_dug_108 : decode cX7_dug 108 = .ok (.iload 4, 2) := by decide +kernel
theorem dX7_dug_110 : decode cX7_dug 110 = .ok (.iaload, 1) := by decide +kernel
theorem dX7_dug_111 : decode cX7_dug 111 = .ok (.ireturn, 1) := by decide +kernel
theorem dX7_fine_0 : decode cX7_fine 0 = .ok (.iload_n 1, 1) := by decide +kernel
theorem dX7_fine_1 : decode cX7_fine 1 = .ok (.bipush 7, 2) := by decide +kernel
theorem dX7_fine_3 : decode cX7_fine 3 = .ok (.invokestatic 65, 3) := by decide +kernel
theorem dX7_fine_6 : decode cX7_fine 6 = .ok (.ifCond .eq 14, 3) := by decide +kernel
theorem dX7_fine_9 : decode cX7_fine 9 = .ok (.aload_n 0, 1) := by decide +kernel
theorem dX7_fine_10 : decode cX7_fine 10 = .ok (.getfield 10, 3) := by decide +kernel
theorem dX7_fine_13 : decode cX7_fine 13 = .ok (.iload_n 1, 1) := by decide +kernel
theorem dX7_fine_14 : decode cX7_fine 14 = .ok (.invokevirtual 211, 3) := by decide +kernel
theorem dX7_fine_17 : decode cX7_fine 17 = .ok (.goto 5, 3) := by decide +kernel
theorem dX7_fine_20 : decode cX7_fine 20 = .ok (.ldc 69, 2) := by decide +kernel
theorem dX7_fine_22 : decode cX7_fine 22 = .ok (.ireturn, 1) := by decide +kernel
theorem dX7_feed_0 : decode cX7_feed 0 = .ok (.aload_n 0, 1) := by decide +kernel
theorem dX7_feed_1 : decode cX7_feed 1 = .ok (.getfield 36, 3) := by decide +kernel
theorem dX7_feed_4 : decode cX7_feed 4 = .ok (.getfield 214, 3) := by decide +kernel
theorem dX7_feed_7 : decode cX7_feed 7 = .ok (.bipush 12, 2) := by decide +kernel
theorem dX7_feed_9 : decode cX7_feed 9 = .ok (.iadd, 1) := by decide +kernel
theorem dX7_feed_10 : decode cX7_feed 10 = .ok (.bipush 96, 2) := by decide +kernel
theorem dX7_feed_12 : decode cX7_feed 12 = .ok (.if_icmp .le 6, 3) := by decide +kernel
theorem dX7_feed_15 : decode cX7_feed 15 = .ok (.ldc 73, 2) := by decide +kernel
theorem dX7_feed_17 : decode cX7_feed 17 = .ok (.ireturn, 1) := by decide +kernel
theorem dX7_feed_18 : decode cX7_feed 18 = .ok (.aload_n 0, 1) := by decide +kernel
theorem dX7_feed_19 : decode cX7_feed 19 = .ok (.getfield 36, 3) := by decide +kernel
theorem dX7_feed_22 : decode cX7_feed 22 = .ok (.iload_n 1, 1) := by decide +kernel
theorem dX7_feed_23 : decode cX7_feed 23 = .ok (.invokevirtual 217, 3) := by decide +kernel
theorem dX7_feed_26 : decode cX7_feed 26 = .ok (.aload_n 0, 1) := by decide +kernel
theorem dX7_feed_27 : decode cX7_feed 27 = .ok (.getfield 36, 3) := by decide +kernel
theorem dX7_feed_30 : decode cX7_feed 30 = .ok (.iload_n 2, 1) := by decide +kernel
theorem dX7_feed_31 : decode cX7_feed 31 = .ok (.invokevirtual 217, 3) := by decide +kernel
theorem dX7_feed_34 : decode cX7_feed 34 = .ok (.aload_n 0, 1) := by decide +kernel
theorem dX7_feed_35 : decode cX7_feed 35 = .ok (.getfield 36, 3) := by decide +kernel
theorem dX7_feed_38 : decode cX7_feed 38 = .ok (.iload_n 3, 1) := by decide +kernel
theorem dX7_feed_39 : decode cX7_feed 39 = .ok (.invokevirtual 217, 3) := by decide +kernel
theorem dX7_feed_42 : decode cX7_feed 42 = .ok (.aload_n 0, 1) := by decide +kernel
theorem dX7_feed_43 : decode cX7_feed 43 = .ok (.getfield 36, 3) := by decide +kernel
theorem dX7_feed_46 : decode cX7_feed 46 = .ok (.getfield 214, 3) := by decide +kernel
theorem dX7_feed_49 : decode cX7_feed 49 = .ok (.ireturn, 1) := by decide +kernel
theorem dX7_trim_0 : decode cX7_trim 0 = .ok (.iload_n 1, 1) := by decide +kernel
theorem dX7_trim_1 : decode cX7_trim 1 = .ok (.aload_n 0, 1) := by decide +kernel
theorem dX7_trim_2 : decode cX7_trim 2 = .ok (.getfield 36, 3) := by decide +kernel
theorem dX7_trim_5 : decode cX7_trim 5 = .ok (.getfield 214, 3) := by decide +kernel
theorem dX7_trim_8 : decode cX7_trim 8 = .ok (.invokestatic 65, 3) := by decide +kernel
theorem dX7_trim_11 : decode cX7_trim 11 = .ok (.ifCond .ne 6, 3) := by decide +kernel
theorem dX7_trim_14 : decode cX7_trim 14 = .ok (.ldc 69, 2) := by decide +kernel
theorem dX7_trim_16 : decode cX7_trim 16 = .ok (.ireturn, 1) := by decide +kernel
theorem dX7_trim_17 : decode cX7_trim 17 = .ok (.aload_n 0, 1) := by decide +kernel
theorem dX7_trim_18 : decode cX7_trim 18 = .ok (.getfield 36, 3) := by decide +kernel
theorem dX7_trim_21 : decode cX7_trim 21 = .ok (.iload_n 1, 1) := by decide +kernel
theorem dX7_trim_22 : decode cX7_trim 22 = .ok (.putfield 214, 3) := by decide +kernel
theorem dX7_trim_25 : decode cX7_trim 25 = .ok (.iload_n 1, 1) := by decide +kernel
theorem dX7_trim_26 : decode cX7_trim 26 = .ok (.ireturn, 1) := by decide +kernel
theorem dX7_text_0 : decode cX7_text 0 = .ok (.aload_n 0, 1) := by decide +kernel
theorem dX7_text_1 : decode cX7_text 1 = .ok (.getfield 36, 3) := by decide +kernel
theorem dX7_text_4 : decode cX7_text 4 = .ok (.invokevirtual 221, 3) := by decide +kernel
theorem dX7_text_7 : decode cX7_text 7 = .ok (.astore_n 1, 1) := by decide +kernel
theorem dX7_text_8 : decode cX7_text 8 = .ok (.aload_n 0, 1) := by decide +kernel
theorem dX7_text_9 : decode cX7_text 9 = .ok (.getfield 36, 3) := by decide +kernel
theorem dX7_text_12 : decode cX7_text 12 = .ok (.iconst 0, 1) := by decide +kernel
theorem dX7_text_13 : decode cX7_text 13 = .ok (.putfield 214, 3) := by decide +kernel
theorem dX7_text_16 : decode cX7_text 16 = .ok (.aload_n 1, 1) := by decide +kernel
theorem dX7_text_17 : decode cX7_text 17 = .ok (.ifnonnull 14, 3) := by decide +kernel
theorem dX7_text_20 : decode cX7_text 20 = .ok (.bipush (-100), 2) := by decide +kernel
theorem dX7_text_22 : decode cX7_text 22 = .ok (.aload_n 0, 1) := by decide +kernel
theorem dX7_text_23 : decode cX7_text 23 = .ok (.getfield 36, 3) := by decide +kernel
theorem dX7_text_26 : decode cX7_text 26 = .ok (.getfield 225, 3) := by decide +kernel
theorem dX7_text_29 : decode cX7_text 29 = .ok (.isub, 1) := by decide +kernel
theorem dX7_text_30 : decode cX7_text 30 = .ok (.ireturn, 1) := by decide +kernel
theorem dX7_text_31 : decode cX7_text 31 = .ok (.aload_n 0, 1) := by decide +kernel
theorem dX7_text_32 : decode cX7_text 32 = .ok (.getfield 10, 3) := by decide +kernel
theorem dX7_text_35 : decode cX7_text 35 = .ok (.getfield 228, 3) := by decide +kernel
theorem dX7_text_38 : decode cX7_text 38 = .ok (.bipush 14, 2) := by decide +kernel
theorem dX7_text_40 : decode cX7_text 40 = .ok (.if_icmp .lt 6, 3) := by decide +kernel
theorem dX7_text_43 : decode cX7_text 43 = .ok (.ldc 73, 2) := by decide +kernel
theorem dX7_text_45 : decode cX7_text 45 = .ok (.ireturn, 1) := by decide +kernel
theorem dX7_text_46 : decode cX7_text 46 = .ok (.aload_n 0, 1) := by decide +kernel
theorem dX7_text_47 : decode cX7_text 47 = .ok (.getfield 10, 3) := by decide +kernel
theorem dX7_text_50 : decode cX7_text 50 = .ok (.aload_n 1, 1) := by decide +kernel
theorem dX7_text_51 : decode cX7_text 51 = .ok (.invokevirtual 231, 3) := by decide +kernel
theorem dX7_text_54 : decode cX7_text 54 = .ok (.ireturn, 1) := by decide +kernel
theorem dX7_textTold_0 : decode cX7_textTold 0 = .ok (.aload_n 0, 1) := by decide +kernel
theorem dX7_textTold_1 : decode cX7_textTold 1 = .ok (.getfield 10, 3) := by decide +kernel
theorem dX7_textTold_4 : decode cX7_textTold 4 = .ok (.iload_n 1, 1) := by decide +kernel
theorem dX7_textTold_5 : decode cX7_textTold 5 = .ok (.invokevirtual 235, 3) := by decide +kernel
theorem dX7_textTold_8 : decode cX7_textTold 8 = .ok (.astore_n 3, 1) := by decide +kernel
theorem dX7_textTold_9 : decode cX7_textTold 9 = .ok (.aload_n 3, 1) := by decide +kernel
theorem dX7_textTold_10 : decode cX7_textTold 10 = .ok (.ifnull 11, 3) := by decide +kernel
theorem dX7_textTold_13 : decode cX7_textTold 13 = .ok (.iload_n 2, 1) := by decide +kernel
theorem dX7_textTold_14 : decode cX7_textTold 14 = .ok (.iconst 1, 1) := by decide +kernel
theorem dX7_textTold_15 : decode cX7_textTold 15 = .ok (.invokestatic 65, 3) := by decide +kernel
theorem dX7_textTold_18 : decode cX7_textTold 18 = .ok (.ifCond .ne 6, 3) := by decide +kernel
theorem dX7_textTold_21 : decode cX7_textTold 21 = .ok (.ldc 69, 2) := by decide +kernel
theorem dX7_textTold_23 : decode cX7_textTold 23 = .ok (.ireturn, 1) := by decide +kernel
theorem dX7_textTold_24 : decode cX7_textTold 24 = .ok (.iload_n 2, 1) := by decide +kernel
theorem dX7_textTold_25 : decode cX7_textTold 25 = .ok (.ifCond .ne 10, 3) := by decide +kernel
theorem dX7_textTold_28 : decode cX7_textTold 28 = .ok (.aload_n 3, 1) := by decide +kernel
theorem dX7_textTold_29 : decode cX7_textTold 29 = .ok (.getfield 239, 3) := by decide +kernel
theorem dX7_textTold_32 : decode cX7_textTold 32 = .ok (.goto 7, 3) := by decide +kernel
theorem dX7_textTold_35 : decode cX7_textTold 35 = .ok (.aload_n 3, 1) := by decide +kernel
theorem dX7_textTold_36 : decode cX7_textTold 36 = .ok (.getfield 244, 3) := by decide +kernel
theorem dX7_textTold_39 : decode cX7_textTold 39 = .ok (.ireturn, 1) := by decide +kernel
theorem dX7_why_0 : decode cX7_why 0 = .ok (.iload_n 1, 1) := by decide +kernel
theorem dX7_why_1 : decode cX7_why 1 = .ok (.iconst 2, 1) := by decide +kernel
theorem dX7_why_2 : decode cX7_why 2 = .ok (.invokestatic 65, 3) := by decide +kernel
theorem dX7_why_5 : decode cX7_why 5 = .ok (.ifCond .ne 6, 3) := by decide +kernel
theorem dX7_why_8 : decode cX7_why 8 = .ok (.ldc 69, 2) := by decide +kernel
theorem dX7_why_10 : decode cX7_why 10 = .ok (.ireturn, 1) := by decide +kernel
theorem dX7_why_11 : decode cX7_why 11 = .ok (.aload_n 0, 1) := by decide +kernel
theorem dX7_why_12 : decode cX7_why 12 = .ok (.getfield 10, 3) := by decide +kernel
theorem dX7_why_15 : decode cX7_why 15 = .ok (.getfield 247, 3) := by decide +kernel
theorem dX7_why_18 : decode cX7_why 18 = .ok (.iload_n 1, 1) := by decide +kernel
theorem dX7_why_19 : decode cX7_why 19 = .ok (.iaload, 1) := by decide +kernel
theorem dX7_why_20 : decode cX7_why 20 = .ok (.istore_n 2, 1) := by decide +kernel
theorem dX7_why_21 : decode cX7_why 21 = .ok (.iload_n 2, 1) := by decide +kernel
theorem dX7_why_22 : decode cX7_why 22 = .ok (.ifCond .ge 8, 3) := by decide +kernel
theorem dX7_why_25 : decode cX7_why 25 = .ok (.ldc 179, 2) := by decide +kernel
theorem dX7_why_27 : decode cX7_why 27 = .ok (.goto 4, 3) := by decide +kernel
theorem dX7_why_30 : decode cX7_why 30 = .ok (.iload_n 2, 1) := by decide +kernel
theorem dX7_why_31 : decode cX7_why 31 = .ok (.ireturn, 1) := by decide +kernel
theorem dX7_sheet_0 : decode cX7_sheet 0 = .ok (.aload_n 0, 1) := by decide +kernel
theorem dX7_sheet_1 : decode cX7_sheet 1 = .ok (.iload_n 1, 1) := by decide +kernel
theorem dX7_sheet_2 : decode cX7_sheet 2 = .ok (.invokevirtual 199, 3) := by decide +kernel
theorem dX7_sheet_5 : decode cX7_sheet 5 = .ok (.astore 4, 2) := by decide +kernel
theorem dX7_sheet_7 : decode cX7_sheet 7 = .ok (.aload 4, 2) := by decide +kernel
theorem dX7_sheet_9 : decode cX7_sheet 9 = .ok (.ifnull 13, 3) := by decide +kernel
theorem dX7_sheet_12 : decode cX7_sheet 12 = .ok (.iload_n 2, 1) := by decide +kernel
theorem dX7_sheet_13 : decode cX7_sheet 13 = .ok (.iconst (-1), 1) := by decide +kernel
theorem dX7_sheet_14 : decode cX7_sheet 14 = .ok (.if_icmp .lt 8, 3) := by decide +kernel
theorem dX7_sheet_17 : decode cX7_sheet 17 = .ok (.iload_n 2, 1) := by decide +kernel
theorem dX7_sheet_18 : decode cX7_sheet 18 = .ok (.iconst 1, 1) := by decide +kernel
theorem dX7_sheet_19 : decode cX7_sheet 19 = .ok (.if_icmp .le 6, 3) := by decide +kernel
theorem dX7_sheet_22 : decode cX7_sheet 22 = .ok (.ldc 69, 2) := by decide +kernel
theorem dX7_sheet_24 : decode cX7_sheet 24 = .ok (.ireturn, 1) := by decide +kernel
theorem dX7_sheet_25 : decode cX7_sheet 25 = .ok (.iload_n 2, 1) := by decide +kernel
theorem dX7_sheet_26 : decode cX7_sheet 26 = .ok (.iconst (-1), 1) := by decide +kernel
theorem dX7_sheet_27 : decode cX7_sheet 27 = .ok (.if_icmp .ne 12, 3) := by decide +kernel
theorem dX7_sheet_30 : decode cX7_sheet 30 = .ok (.aload 4, 2) := by decide +kernel
theorem dX7_sheet_32 : decode cX7_sheet 32 = .ok (.iconst (-1), 1) := by decide +kernel
theorem dX7_sheet_33 : decode cX7_sheet 33 = .ok (.iconst 0, 1) := by decide +kernel
theorem dX7_sheet_34 : decode cX7_sheet 34 = .ok (.invokevirtual 250, 3) := by decide +kernel
theorem dX7_sheet_37 : decode cX7_sheet 37 = .ok (.iconst 0, 1) := by decide +kernel
theorem dX7_sheet_38 : decode cX7_sheet 38 = .ok (.ireturn, 1) := by decide +kernel
theorem dX7_sheet_39 : decode cX7_sheet 39 = .ok (.iload_n 3, 1) := by decide +kernel
theorem dX7_sheet_40 : decode cX7_sheet 40 = .ok (.bipush 24, 2) := by decide +kernel
theorem dX7_sheet_42 : decode cX7_sheet 42 = .ok (.if_icmp .le 6, 3) := by decide +kernel
theorem dX7_sheet_45 : decode cX7_sheet 45 = .ok (.ldc 69, 2) := by decide +kernel
theorem dX7_sheet_47 : decode cX7_sheet 47 = .ok (.ireturn, 1) := by decide +kernel
theorem dX7_sheet_48 : decode cX7_sheet 48 = .ok (.iload_n 3, 1) := by decide +kernel
theorem dX7_sheet_49 : decode cX7_sheet 49 = .ok (.ifCond .ge 6, 3) := by decide +kernel
theorem dX7_sheet_52 : decode cX7_sheet 52 = .ok (.ldc 253, 2) := by decide +kernel
theorem dX7_sheet_54 : decode cX7_sheet 54 = .ok (.ireturn, 1) := by decide +kernel
theorem dX7_sheet_55 : decode cX7_sheet 55 = .ok (.aload 4, 2) := by decide +kernel
theorem dX7_sheet_57 : decode cX7_sheet 57 = .ok (.iload_n 2, 1) := by decide +kernel
theorem dX7_sheet_58 : decode cX7_sheet 58 = .ok (.iload_n 3, 1) := by decide +kernel
theorem dX7_sheet_59 : decode cX7_sheet 59 = .ok (.invokevirtual 250, 3) := by decide +kernel
theorem dX7_sheet_62 : decode cX7_sheet 62 = .ok (.iload_n 3, 1) := by decide +kernel
theorem dX7_sheet_63 : decode cX7_sheet 63 = .ok (.ireturn, 1) := by decide +kernel
theorem dX7_mark_0 : decode cX7_mark 0 = .ok (.aload_n 0, 1) := by decide +kernel
theorem dX7_mark_1 : decode cX7_mark 1 = .ok (.iload_n 1, 1) := by decide +kernel
theorem dX7_mark_2 : decode cX7_mark 2 = .ok (.invokevirtual 199, 3) := by decide +kernel
theorem dX7_mark_5 : decode cX7_mark 5 = .ok (.astore 4, 2) := by decide +kernel
theorem dX7_mark_7 : decode cX7_mark 7 = .ok (.aload 4, 2) := by decide +kernel
theorem dX7_mark_9 : decode cX7_mark 9 = .ok (.ifnonnull 6, 3) := by decide +kernel
theorem dX7_mark_12 : decode cX7_mark 12 = .ok (.ldc 69, 2) := by decide +kernel
theorem dX7_mark_14 : decode cX7_mark 14 = .ok (.ireturn, 1) := by decide +kernel
theorem dX7_mark_15 : decode cX7_mark 15 = .ok (.aload 4, 2) := by decide +kernel
theorem dX7_mark_17 : decode cX7_mark 17 = .ok (.getfield 203, 3) := by decide +kernel
theorem dX7_mark_20 : decode cX7_mark 20 = .ok (.iconst (-1), 1) := by decide +kernel
theorem dX7_mark_21 : decode cX7_mark 21 = .ok (.if_icmp .ne 6, 3) := by decide +kernel
theorem dX7_mark_24 : decode cX7_mark 24 = .ok (.ldc 206, 2) := by decide +kernel
theorem dX7_mark_26 : decode cX7_mark 26 = .ok (.ireturn, 1) := by decide +kernel
theorem dX7_mark_27 : decode cX7_mark 27 = .ok (.aload 4, 2) := by decide +kernel
theorem dX7_mark_29 : decode cX7_mark 29 = .ok (.iload_n 2, 1) := by decide +kernel
theorem dX7_mark_30 : decode cX7_mark 30 = .ok (.invokevirtual 254, 3) := by decide +kernel
theorem dX7_mark_33 : decode cX7_mark 33 = .ok (.ifCond .ne 7, 3) := by decide +kernel
theorem dX7_mark_36 : decode cX7_mark 36 = .ok (.ldc_w 257, 3) := by decide +kernel
theorem dX7_mark_39 : decode cX7_mark 39 = .ok (.ireturn, 1) := by decide +kernel
theorem dX7_mark_40 : decode cX7_mark 40 = .ok (.aload 4, 2) := by decide +kernel
theorem dX7_mark_42 : decode cX7_mark 42 = .ok (.getfield 203, 3) := by decide +kernel
theorem dX7_mark_45 : decode cX7_mark 45 = .ok (.ifCond .ne 23, 3) := by decide +kernel
theorem dX7_mark_48 : decode cX7_mark 48 = .ok (.iload_n 3, 1) := by decide +kernel
theorem dX7_mark_49 : decode cX7_mark 49 = .ok (.ldc 179, 2) := by decide +kernel
theorem dX7_mark_51 : decode cX7_mark 51 = .ok (.if_icmp .ne 6, 3) := by decide +kernel
theorem dX7_mark_54 : decode cX7_mark 54 = .ok (.ldc 95, 2) := by decide +kernel
theorem dX7_mark_56 : decode cX7_mark 56 = .ok (.ireturn, 1) := by decide +kernel
theorem dX7_mark_57 : decode cX7_mark 57 = .ok (.aload 4, 2) := by decide +kernel
theorem dX7_mark_59 : decode cX7_mark 59 = .ok (.getfield 258, 3) := by decide +kernel
theorem dX7_mark_62 : decode cX7_mark 62 = .ok (.iload_n 2, 1) := by decide +kernel
theorem dX7_mark_63 : decode cX7_mark 63 = .ok (.iload_n 3, 1) := by decide +kernel
theorem dX7_mark_64 : decode cX7_mark 64 = .ok (.i2s, 1) := by decide +kernel
theorem dX7_mark_65 : decode cX7_mark 65 = .ok (.iastore, 1) := by decide +kernel
theorem dX7_mark_66 : decode cX7_mark 66 = .ok (.iconst 1, 1) := by decide +kernel
theorem dX7_mark_67 : decode cX7_mark 67 = .ok (.ireturn, 1) := by decide +kernel
theorem dX7_mark_68 : decode cX7_mark 68 = .ok (.iload_n 3, 1) := by decide +kernel
theorem dX7_mark_69 : decode cX7_mark 69 = .ok (.ldc 179, 2) := by decide +kernel
theorem dX7_mark_71 : decode cX7_mark 71 = .ok (.if_icmp .eq 20, 3) := by decide +kernel
theorem dX7_mark_74 : decode cX7_mark 74 = .ok (.iload_n 3, 1) := by decide +kernel
theorem dX7_mark_75 : decode cX7_mark 75 = .ok (.ldc_w 261, 3) := by decide +kernel
theorem dX7_mark_78 : decode cX7_mark 78 = .ok (.if_icmp .lt 10, 3) := by decide +kernel
theorem dX7_mark_81 : decode cX7_mark 81 = .ok (.iload_n 3, 1) := by decide +kernel
theorem dX7_mark_82 : decode cX7_mark 82 = .ok (.ldc_w 262, 3) := by decide +kernel
theorem dX7_mark_85 : decode cX7_mark 85 = .ok (.if_icmp .le 6, 3) := by decide +kernel
theorem dX7_mark_88 : decode cX7_mark 88 = .ok (.ldc 69, 2) := by decide +kernel
theorem dX7_mark_90 : decode cX7_mark 90 = .ok (.ireturn, 1) := by decide +kernel
theorem dX7_mark_91 : decode cX7_mark 91 = .ok (.aload 4, 2) := by decide +kernel
theorem dX7_mark_93 : decode cX7_mark 93 = .ok (.getfield 258, 3) := by decide +kernel
theorem dX7_mark_96 : decode cX7_mark 96 = .ok (.iload_n 2, 1) := by decide +kernel
theorem dX7_mark_97 : decode cX7_mark 97 = .ok (.iload_n 3, 1) := by decide +kernel
theorem dX7_mark_98 : decode cX7_mark 98 = .ok (.iastore, 1) := by decide +kernel
theorem dX7_mark_99 : decode cX7_mark 99 = .ok (.iconst 1, 1) := by decide +kernel
theorem dX7_mark_100 : decode cX7_mark 100 = .ok (.ireturn, 1) := by decide +kernel
theorem dX7_pour_0 : decode cX7_pour 0 = .ok (.aload_n 0, 1) := by decide +kernel
theorem dX7_pour_1 : decode cX7_pour 1 = .ok (.iload_n 1, 1) := by decide +kernel
theorem dX7_pour_2 : decode cX7_pour 2 = .ok (.invokevirtual 199, 3) := by decide +kernel
theorem dX7_pour_5 : decode cX7_pour 5 = .ok (.astore_n 2, 1) := by decide +kernel
theorem dX7_pour_6 : decode cX7_pour 6 = .ok (.aload_n 2, 1) := by decide +kernel
theorem dX7_pour_7 : decode cX7_pour 7 = .ok (.ifnonnull 6, 3) := by decide +kernel
theorem dX7_pour_10 : decode cX7_pour 10 = .ok (.ldc 69, 2) := by decide +kernel
theorem dX7_pour_12 : decode cX7_pour 12 = .ok (.ireturn, 1) := by decide +kernel
theorem dX7_pour_13 : decode cX7_pour 13 = .ok (.aload_n 2, 1) := by decide +kernel
theorem dX7_pour_14 : decode cX7_pour 14 = .ok (.getfield 203, 3) := by decide +kernel
theorem dX7_pour_17 : decode cX7_pour 17 = .ok (.iconst (-1), 1) := by decide +kernel
theorem dX7_pour_18 : decode cX7_pour 18 = .ok (.if_icmp .ne 6, 3) := by decide +kernel
theorem dX7_pour_21 : decode cX7_pour 21 = .ok (.ldc 206, 2) := by decide +kernel
theorem dX7_pour_23 : decode cX7_pour 23 = .ok (.ireturn, 1) := by decide +kernel
theorem dX7_pour_24 : decode cX7_pour 24 = .ok (.iconst 0, 1) := by decide +kernel
theorem dX7_pour_25 : decode cX7_pour 25 = .ok (.istore_n 3, 1) := by decide +kernel
theorem dX7_pour_26 : decode cX7_pour 26 = .ok (.iconst 0, 1) := by decide +kernel
theorem dX7_pour_27 : decode cX7_pour 27 = .ok (.istore 4, 2) := by decide +kernel
theorem dX7_pour_29 : decode cX7_pour 29 = .ok (.iload 4, 2) := by decide +kernel
theorem dX7_pour_31 : decode cX7_pour 31 = .ok (.aload_n 0, 1) := by decide +kernel
theorem dX7_pour_32 : decode cX7_pour 32 = .ok (.getfield 10, 3) := by decide +kernel
theorem dX7_pour_35 : decode cX7_pour 35 = .ok (.getfield 70, 3) := by decide +kernel
theorem dX7_pour_38 : decode cX7_pour 38 = .ok (.if_icmp .ge 72, 3) := by decide +kernel
theorem dX7_pour_41 : decode cX7_pour 41 = .ok (.aload_n 0, 1) := by decide +kernel
theorem dX7_pour_42 : decode cX7_pour 42 = .ok (.getfield 10, 3) := by decide +kernel
theorem dX7_pour_45 : decode cX7_pour 45 = .ok (.getfield 134, 3) := by decide +kernel
theorem dX7_pour_48 : decode cX7_pour 48 = .ok (.iload 4, 2) := by decide +kernel
theorem dX7_pour_50 : decode cX7_pour 50 = .ok (.aaload, 1) := by decide +kernel
theorem dX7_pour_51 : decode cX7_pour 51 = .ok (.astore 5, 2) := by decide +kernel
theorem dX7_pour_53 : decode cX7_pour 53 = .ok (.aload_n 2, 1) := by decide +kernel
theorem dX7_pour_54 : decode cX7_pour 54 = .ok (.iload 4, 2) := by decide +kernel
theorem dX7_pour_56 : decode cX7_pour 56 = .ok (.invokevirtual 263, 3) := by decide +kernel
theorem dX7_pour_59 : decode cX7_pour 59 = .ok (.ifCond .eq 18, 3) := by decide +kernel
theorem dX7_pour_62 : decode cX7_pour 62 = .ok (.aload_n 2, 1) := by decide +kernel
theorem dX7_pour_63 : decode cX7_pour 63 = .ok (.getfield 258, 3) := by decide +kernel
theorem dX7_pour_66 : decode cX7_pour 66 = .ok (.iload 4, 2) := by decide +kernel
theorem dX7_pour_68 : decode cX7_pour 68 = .ok (.iaload, 1) := by decide +kernel
theorem dX7_pour_69 : decode cX7_pour 69 = .ok (.bipush 99, 2) := by decide +kernel
theorem dX7_pour_71 : decode cX7_pour 71 = .ok (.invokestatic 266, 3) := by decide +kernel
theorem dX7_pour_74 : decode cX7_pour 74 = .ok (.goto 8, 3) := by decide +kernel
theorem dX7_pour_77 : decode cX7_pour 77 = .ok (.aload 5, 2) := by decide +kernel
theorem dX7_pour_79 : decode cX7_pour 79 = .ok (.getfield 92, 3) := by decide +kernel
theorem dX7_pour_82 : decode cX7_pour 82 = .ok (.istore 6, 2) := by decide +kernel
theorem dX7_pour_84 : decode cX7_pour 84 = .ok (.iload 6, 2) := by decide +kernel
theorem dX7_pour_86 : decode cX7_pour 86 = .ok (.aload 5, 2) := by decide +kernel
theorem dX7_pour_88 : decode cX7_pour 88 = .ok (.getfield 92, 3) := by decide +kernel
theorem dX7_pour_91 : decode cX7_pour 91 = .ok (.if_icmp .eq 6, 3) := by decide +kernel
theorem dX7_pour_94 : decode cX7_pour 94 = .ok (.iinc 3 1, 3) := by decide +kernel
theorem dX7_pour_97 : decode cX7_pour 97 = .ok (.aload 5, 2) := by decide +kernel
theorem dX7_pour_99 : decode cX7_pour 99 = .ok (.iload 6, 2) := by decide +kernel
theorem dX7_pour_101 : decode cX7_pour 101 = .ok (.putfield 92, 3) := by decide +kernel
theorem dX7_pour_104 : decode cX7_pour 104 = .ok (.iinc 4 1, 3) := by decide +kernel
theorem dX7_pour_107 : decode cX7_pour 107 = .ok (.goto (-78), 3) := by decide +kernel
theorem dX7_pour_110 : decode cX7_pour 110 = .ok (.iload_n 3, 1) := by decide +kernel
theorem dX7_pour_111 : decode cX7_pour 111 = .ok (.ireturn, 1) := by decide +kernel
theorem dX7_reads_0 : decode cX7_reads 0 = .ok (.aload_n 0, 1) := by decide +kernel
theorem dX7_reads_1 : decode cX7_reads 1 = .ok (.iload_n 1, 1) := by decide +kernel
theorem dX7_reads_2 : decode cX7_reads 2 = .ok (.invokevirtual 199, 3) := by decide +kernel
theorem dX7_reads_5 : decode cX7_reads 5 = .ok (.astore_n 2, 1) := by decide +kernel
theorem dX7_reads_6 : decode cX7_reads 6 = .ok (.aload_n 2, 1) := by decide +kernel
theorem dX7_reads_7 : decode cX7_reads 7 = .ok (.ifnonnull 6, 3) := by decide +kernel
theorem dX7_reads_10 : decode cX7_reads 10 = .ok (.ldc 69, 2) := by decide +kernel
theorem dX7_reads_12 : decode cX7_reads 12 = .ok (.ireturn, 1) := by decide +kernel
theorem dX7_reads_13 : decode cX7_reads 13 = .ok (.aload_n 2, 1) := by decide +kernel
theorem dX7_reads_14 : decode cX7_reads 14 = .ok (.getfield 203, 3) := by decide +kernel
theorem dX7_reads_17 : decode cX7_reads 17 = .ok (.iconst (-1), 1) := by decide +kernel
theorem dX7_reads_18 : decode cX7_reads 18 = .ok (.if_icmp .ne 6, 3) := by decide +kernel
theorem dX7_reads_21 : decode cX7_reads 21 = .ok (.ldc 206, 2) := by decide +kernel
theorem dX7_reads_23 : decode cX7_reads 23 = .ok (.ireturn, 1) := by decide +kernel
theorem dX7_reads_24 : decode cX7_reads 24 = .ok (.iconst 0, 1) := by decide +kernel
theorem dX7_reads_25 : decode cX7_reads 25 = .ok (.istore_n 3, 1) := by decide +kernel
theorem dX7_reads_26 : decode cX7_reads 26 = .ok (.iload_n 3, 1) := by decide +kernel
theorem dX7_reads_27 : decode cX7_reads 27 = .ok (.aload_n 2, 1) := by decide +kernel
theorem dX7_reads_28 : decode cX7_reads 28 = .ok (.getfield 269, 3) := by decide +kernel
theorem dX7_reads_31 : decode cX7_reads 31 = .ok (.if_icmp .ge 48, 3) := by decide +kernel
theorem dX7_reads_34 : decode cX7_reads 34 = .ok (.aload_n 0, 1) := by decide +kernel
theorem dX7_reads_35 : decode cX7_reads 35 = .ok (.getfield 10, 3) := by decide +kernel
theorem dX7_reads_38 : decode cX7_reads 38 = .ok (.iload_n 3, 1) := by decide +kernel
theorem dX7_reads_39 : decode cX7_reads 39 = .ok (.invokevirtual 78, 3) := by decide +kernel
theorem dX7_reads_42 : decode cX7_reads 42 = .ok (.astore 4, 2) := by decide +kernel
theorem dX7_reads_44 : decode cX7_reads 44 = .ok (.aload_n 2, 1) := by decide +kernel
theorem dX7_reads_45 : decode cX7_reads 45 = .ok (.iload_n 3, 1) := by decide +kernel
theorem dX7_reads_46 : decode cX7_reads 46 = .ok (.invokevirtual 263, 3) := by decide +kernel
theorem dX7_reads_49 : decode cX7_reads 49 = .ok (.ifCond .eq 24, 3) := by decide +kernel
theorem dX7_reads_52 : decode cX7_reads 52 = .ok (.aload 4, 2) := by decide +kernel
theorem dX7_reads_54 : decode cX7_reads 54 = .ok (.ifnull 17, 3) := by decide +kernel
theorem dX7_reads_57 : decode cX7_reads 57 = .ok (.aload 4, 2) := by decide +kernel
theorem dX7_reads_59 : decode cX7_reads 59 = .ok (.getfield 92, 3) := by decide +kernel
theorem dX7_reads_62 : decode cX7_reads 62 = .ok (.aload_n 2, 1) := by decide +kernel
theorem dX7_reads_63 : decode cX7_reads 63 = .ok (.getfield 258, 3) := by decide +kernel
theorem dX7_reads_66 : decode cX7_reads 66 = .ok (.iload_n 3, 1) := by decide +kernel
theorem dX7_reads_67 : decode cX7_reads 67 = .ok (.iaload, 1) := by decide +kernel
theorem dX7_reads_68 : decode cX7_reads 68 = .ok (.if_icmp .eq 5, 3) := by decide +kernel
theorem dX7_reads_71 : decode cX7_reads 71 = .ok (.iload_n 3, 1) := by decide +kernel
theorem dX7_reads_72 : decode cX7_reads 72 = .ok (.ireturn, 1) := by decide +kernel
theorem dX7_reads_73 : decode cX7_reads 73 = .ok (.iinc 3 1, 3) := by decide +kernel
theorem dX7_reads_76 : decode cX7_reads 76 = .ok (.goto (-50), 3) := by decide +kernel
theorem dX7_reads_79 : decode cX7_reads 79 = .ok (.ldc 179, 2) := by decide +kernel
theorem dX7_reads_81 : decode cX7_reads 81 = .ok (.ireturn, 1) := by decide +kernel
theorem dX7_copy_0 : decode cX7_copy 0 = .ok (.aload_n 0, 1) := by decide +kernel
theorem dX7_copy_1 : decode cX7_copy 1 = .ok (.iload_n 1, 1) := by decide +kernel
theorem dX7_copy_2 : decode cX7_copy 2 = .ok (.invokevirtual 199, 3) := by decide +kernel
theorem dX7_copy_5 : decode cX7_copy 5 = .ok (.astore 6, 2) := by decide +kernel
theorem dX7_copy_7 : decode cX7_copy 7 = .ok (.aload_n 0, 1) := by decide +kernel
theorem dX7_copy_8 : decode cX7_copy 8 = .ok (.iload_n 3, 1) := by decide +kernel
theorem dX7_copy_9 : decode cX7_copy 9 = .ok (.invokevirtual 199, 3) := by decide +kernel
theorem dX7_copy_12 : decode cX7_copy 12 = .ok (.astore 7, 2) := by decide +kernel
theorem dX7_copy_14 : decode cX7_copy 14 = .ok (.aload 6, 2) := by decide +kernel
theorem dX7_copy_16 : decode cX7_copy 16 = .ok (.ifnull 8, 3) := by decide +kernel
theorem dX7_copy_19 : decode cX7_copy 19 = .ok (.aload 7, 2) := by decide +kernel
theorem dX7_copy_21 : decode cX7_copy 21 = .ok (.ifnonnull 6, 3) := by decide +kernel
theorem dX7_copy_24 : decode cX7_copy 24 = .ok (.ldc 69, 2) := by decide +kernel
theorem dX7_copy_26 : decode cX7_copy 26 = .ok (.ireturn, 1) := by decide +kernel
theorem dX7_copy_27 : decode cX7_copy 27 = .ok (.aload 6, 2) := by decide +kernel
theorem dX7_copy_29 : decode cX7_copy 29 = .ok (.getfield 203, 3) := by decide +kernel
theorem dX7_copy_32 : decode cX7_copy 32 = .ok (.iconst (-1), 1) := by decide +kernel
theorem dX7_copy_33 : decode cX7_copy 33 = .ok (.if_icmp .eq 12, 3) := by decide +kernel
theorem dX7_copy_36 : decode cX7_copy 36 = .ok (.aload 7, 2) := by decide +kernel
theorem dX7_copy_38 : decode cX7_copy 38 = .ok (.getfield 203, 3) := by decide +kernel
theorem dX7_copy_41 : decode cX7_copy 41 = .ok (.iconst (-1), 1) := by decide +kernel
theorem dX7_copy_42 : decode cX7_copy 42 = .ok (.if_icmp .ne 6, 3) := by decide +kernel
theorem dX7_copy_45 : decode cX7_copy 45 = .ok (.ldc 206, 2) := by decide +kernel
theorem dX7_copy_47 : decode cX7_copy 47 = .ok (.ireturn, 1) := by decide +kernel
theorem dX7_copy_48 : decode cX7_copy 48 = .ok (.aload 6, 2) := by decide +kernel
theorem dX7_copy_50 : decode cX7_copy 50 = .ok (.getfield 203, 3) := by decide +kernel
theorem dX7_copy_53 : decode cX7_copy 53 = .ok (.aload 7, 2) := by decide +kernel
theorem dX7_copy_55 : decode cX7_copy 55 = .ok (.getfield 203, 3) := by decide +kernel
theorem dX7_copy_58 : decode cX7_copy 58 = .ok (.if_icmp .eq 6, 3) := by decide +kernel
theorem dX7_copy_61 : decode cX7_copy 61 = .ok (.ldc 95, 2) := by decide +kernel
theorem dX7_copy_63 : decode cX7_copy 63 = .ok (.ireturn, 1) := by decide +kernel
theorem dX7_copy_64 : decode cX7_copy 64 = .ok (.aload 6, 2) := by decide +kernel
theorem dX7_copy_66 : decode cX7_copy 66 = .ok (.iload_n 2, 1) := by decide +kernel
theorem dX7_copy_67 : decode cX7_copy 67 = .ok (.iload 5, 2) := by decide +kernel
theorem dX7_copy_69 : decode cX7_copy 69 = .ok (.invokevirtual 272, 3) := by decide +kernel
theorem dX7_copy_72 : decode cX7_copy 72 = .ok (.ifCond .eq 15, 3) := by decide +kernel
theorem dX7_copy_75 : decode cX7_copy 75 = .ok (.aload 7, 2) := by decide +kernel
theorem dX7_copy_77 : decode cX7_copy 77 = .ok (.iload 4, 2) := by decide +kernel
theorem dX7_copy_79 : decode cX7_copy 79 = .ok (.iload 5, 2) := by decide +kernel
theorem dX7_copy_81 : decode cX7_copy 81 = .ok (.invokevirtual 272, 3) := by decide +kernel
theorem dX7_copy_84 : decode cX7_copy 84 = .ok (.ifCond .ne 7, 3) := by decide +kernel
theorem dX7_copy_87 : decode cX7_copy 87 = .ok (.ldc_w 257, 3) := by decide +kernel
theorem dX7_copy_90 : decode cX7_copy 90 = .ok (.ireturn, 1) := by decide +kernel
theorem dX7_copy_91 : decode cX7_copy 91 = .ok (.aload 6, 2) := by decide +kernel
theorem dX7_copy_93 : decode cX7_copy 93 = .ok (.getfield 258, 3) := by decide +kernel
theorem dX7_copy_96 : decode cX7_copy 96 = .ok (.iload_n 2, 1) := by decide +kernel
theorem dX7_copy_97 : decode cX7_copy 97 = .ok (.aload 7, 2) := by decide +kernel
theorem dX7_copy_99 : decode cX7_copy 99 = .ok (.getfield 258, 3) := by decide +kernel
theorem dX7_copy_102 : decode cX7_copy 102 = .ok (.iload 4, 2) := by decide +kernel
theorem dX7_copy_104 : decode cX7_copy 104 = .ok (.iload 5, 2) := by decide +kernel
theorem dX7_copy_106 : decode cX7_copy 106 = .ok (.invokestatic 275, 3) := by decide +kernel
theorem dX7_copy_109 : decode cX7_copy 109 = .ok (.iload 5, 2) := by decide +kernel
theorem dX7_copy_111 : decode cX7_copy 111 = .ok (.ireturn, 1) := by decide +kernel
theorem dX7_lay_0 : decode cX7_lay 0 = .ok (.aload_n 0, 1) := by decide +kernel
theorem dX7_lay_1 : decode cX7_lay 1 = .ok (.iload_n 1, 1) := by decide +kernel
theorem dX7_lay_2 : decode cX7_lay 2 = .ok (.invokevirtual 281, 3) := by decide +kernel
theorem dX7_lay_5 : decode cX7_lay 5 = .ok (.astore 4, 2) := by decide +kernel
theorem dX7_lay_7 : decode cX7_lay 7 = .ok (.aload 4, 2) := by decide +kernel
theorem dX7_lay_9 : decode cX7_lay 9 = .ok (.ifnull 11, 3) := by decide +kernel
theorem dX7_lay_12 : decode cX7_lay 12 = .ok (.iload_n 2, 1) := by decide +kernel
theorem dX7_lay_13 : decode cX7_lay 13 = .ok (.iconst 3, 1) := by decide +kernel
theorem dX7_lay_14 : decode cX7_lay 14 = .ok (.invokestatic 65, 3) := by decide +kernel
theorem dX7_lay_17 : decode cX7_lay 17 = .ok (.ifCond .ne 6, 3) := by decide +kernel
theorem dX7_lay_20 : decode cX7_lay 20 = .ok (.ldc 69, 2) := by decide +kernel
theorem dX7_lay_22 : decode cX7_lay 22 = .ok (.ireturn, 1) := by decide +kernel
theorem dX7_lay_23 : decode cX7_lay 23 = .ok (.aload_n 0, 1) := by decide +kernel
theorem dX7_lay_24 : decode cX7_lay 24 = .ok (.getfield 10, 3) := by decide +kernel
theorem dX7_lay_27 : decode cX7_lay 27 = .ok (.iload_n 3, 1) := by decide +kernel
theorem dX7_lay_28 : decode cX7_lay 28 = .ok (.invokevirtual 78, 3) := by decide +kernel
theorem dX7_lay_31 : decode cX7_lay 31 = .ok (.astore 5, 2) := by decide +kernel
theorem dX7_lay_33 : decode cX7_lay 33 = .ok (.aload_n 0, 1) := by decide +kernel
theorem dX7_lay_34 : decode cX7_lay 34 = .ok (.iload_n 3, 1) := by decide +kernel
theorem dX7_lay_35 : decode cX7_lay 35 = .ok (.invokevirtual 199, 3) := by decide +kernel
theorem dX7_lay_38 : decode cX7_lay 38 = .ok (.astore 6, 2) := by decide +kernel
theorem dX7_lay_40 : decode cX7_lay 40 = .ok (.iload_n 2, 1) := by decide +kernel
theorem dX7_lay_41 : decode cX7_lay 41 = .ok (.iconst 1, 1) := by decide +kernel
theorem dX7_lay_42 : decode cX7_lay 42 = .ok (.if_icmp .ne 8, 3) := by decide +kernel
theorem dX7_lay_45 : decode cX7_lay 45 = .ok (.aload 5, 2) := by decide +kernel
theorem dX7_lay_47 : decode cX7_lay 47 = .ok (.ifnull 13, 3) := by decide +kernel
theorem dX7_lay_50 : decode cX7_lay 50 = .ok (.iload_n 2, 1) := by decide +kernel
theorem dX7_lay_51 : decode cX7_lay 51 = .ok (.iconst 2, 1) := by decide +kernel
theorem dX7_lay_52 : decode cX7_lay 52 = .ok (.if_icmp .ne 11, 3) := by decide +kernel
theorem dX7_lay_55 : decode cX7_lay 55 = .ok (.aload 6, 2) := by decide +kernel
theorem dX7_lay_57 : decode cX7_lay 57 = .ok (.ifnonnull 6, 3) := by decide +kernel
theorem dX7_lay_60 : decode cX7_lay 60 = .ok (.ldc 69, 2) := by decide +kernel
theorem dX7_lay_62 : decode cX7_lay 62 = .ok (.ireturn, 1) := by decide +kernel
theorem dX7_lay_63 : decode cX7_lay 63 = .ok (.iload_n 2, 1) := by decide +kernel
theorem dX7_lay_64 : decode cX7_lay 64 = .ok (.iconst 2, 1) := by decide +kernel
theorem dX7_lay_65 : decode cX7_lay 65 = .ok (.if_icmp .ne 20, 3) := by decide +kernel
theorem dX7_lay_68 : decode cX7_lay 68 = .ok (.aload 6, 2) := by decide +kernel
theorem dX7_lay_70 : decode cX7_lay 70 = .ok (.ifnull 15, 3) := by decide +kernel
theorem dX7_lay_73 : decode cX7_lay 73 = .ok (.aload 6, 2) := by decide +kernel
theorem dX7_lay_75 : decode cX7_lay 75 = .ok (.getfield 203, 3) := by decide +kernel
theorem dX7_lay_78 : decode cX7_lay 78 = .ok (.iconst (-1), 1) := by decide +kernel
theorem dX7_lay_79 : decode cX7_lay 79 = .ok (.if_icmp .ne 6, 3) := by decide +kernel
theorem dX7_lay_82 : decode cX7_lay 82 = .ok (.ldc 206, 2) := by decide +kernel
theorem dX7_lay_84 : decode cX7_lay 84 = .ok (.ireturn, 1) := by decide +kernel
theorem dX7_lay_85 : decode cX7_lay 85 = .ok (.aload 4, 2) := by decide +kernel
theorem dX7_lay_87 : decode cX7_lay 87 = .ok (.getfield 285, 3) := by decide +kernel
theorem dX7_lay_90 : decode cX7_lay 90 = .ok (.istore 7, 2) := by decide +kernel
theorem dX7_lay_92 : decode cX7_lay 92 = .ok (.aload 4, 2) := by decide +kernel
theorem dX7_lay_94 : decode cX7_lay 94 = .ok (.iload_n 2, 1) := by decide +kernel
theorem dX7_lay_95 : decode cX7_lay 95 = .ok (.putfield 285, 3) := by decide +kernel
theorem dX7_lay_98 : decode cX7_lay 98 = .ok (.aload 4, 2) := by decide +kernel
theorem dX7_lay_100 : decode cX7_lay 100 = .ok (.iload_n 3, 1) := by decide +kernel
theorem dX7_lay_101 : decode cX7_lay 101 = .ok (.putfield 288, 3) := by decide +kernel
theorem dX7_lay_104 : decode cX7_lay 104 = .ok (.iload_n 2, 1) := by decide +kernel
theorem dX7_lay_105 : decode cX7_lay 105 = .ok (.iconst 1, 1) := by decide +kernel
theorem dX7_lay_106 : decode cX7_lay 106 = .ok (.if_icmp .ne 18, 3) := by decide +kernel
theorem dX7_lay_109 : decode cX7_lay 109 = .ok (.aload 5, 2) := by decide +kernel
theorem dX7_lay_111 : decode cX7_lay 111 = .ok (.ifnull 13, 3) := by decide +kernel
theorem dX7_lay_114 : decode cX7_lay 114 = .ok (.aload 4, 2) := by decide +kernel
theorem dX7_lay_116 : decode cX7_lay 116 = .ok (.getfield 291, 3) := by decide +kernel
theorem dX7_lay_119 : decode cX7_lay 119 = .ok (.aload 5, 2) := by decide +kernel
theorem dX7_lay_121 : decode cX7_lay 121 = .ok (.invokevirtual 295, 3) := by decide +kernel
theorem dX7_lay_124 : decode cX7_lay 124 = .ok (.iload_n 2, 1) := by decide +kernel
theorem dX7_lay_125 : decode cX7_lay 125 = .ok (.iconst 2, 1) := by decide +kernel
theorem dX7_lay_126 : decode cX7_lay 126 = .ok (.if_icmp .ne 18, 3) := by decide +kernel
theorem dX7_lay_129 : decode cX7_lay 129 = .ok (.aload 6, 2) := by decide +kernel
theorem dX7_lay_131 : decode cX7_lay 131 = .ok (.ifnull 13, 3) := by decide +kernel
theorem dX7_lay_134 : decode cX7_lay 134 = .ok (.aload 4, 2) := by decide +kernel
theorem dX7_lay_136 : decode cX7_lay 136 = .ok (.getfield 298, 3) := by decide +kernel
theorem dX7_lay_139 : decode cX7_lay 139 = .ok (.aload 6, 2) := by decide +kernel
theorem dX7_lay_141 : decode cX7_lay 141 = .ok (.invokevirtual 302, 3) := by decide +kernel
theorem dX7_lay_144 : decode cX7_lay 144 = .ok (.iload 7, 2) := by decide +kernel
theorem dX7_lay_146 : decode cX7_lay 146 = .ok (.ireturn, 1) := by decide +kernel
theorem dX7_ask_0 : decode cX7_ask 0 = .ok (.aload_n 0, 1) := by decide +kernel
theorem dX7_ask_1 : decode cX7_ask 1 = .ok (.iload_n 1, 1) := by decide +kernel
theorem dX7_ask_2 : decode cX7_ask 2 = .ok (.invokevirtual 281, 3) := by decide +kernel
theorem dX7_ask_5 : decode cX7_ask 5 = .ok (.astore_n 3, 1) := by decide +kernel
theorem dX7_ask_6 : decode cX7_ask 6 = .ok (.aload_n 3, 1) := by decide +kernel
theorem dX7_ask_7 : decode cX7_ask 7 = .ok (.ifnull 11, 3) := by decide +kernel
theorem dX7_ask_10 : decode cX7_ask 10 = .ok (.iload_n 2, 1) := by decide +kernel
theorem dX7_ask_11 : decode cX7_ask 11 = .ok (.iconst 5, 1) := by decide +kernel
theorem dX7_ask_12 : decode cX7_ask 12 = .ok (.invokestatic 65, 3) := by decide +kernel
theorem dX7_ask_15 : decode cX7_ask 15 = .ok (.ifCond .ne 6, 3) := by decide +kernel
theorem dX7_ask_18 : decode cX7_ask 18 = .ok (.ldc 69, 2) := by decide +kernel
theorem dX7_ask_20 : decode cX7_ask 20 = .ok (.ireturn, 1) := by decide +kernel
theorem dX7_ask_21 : decode cX7_ask 21 = .ok (.aload_n 3, 1) := by decide +kernel
theorem dX7_ask_22 : decode cX7_ask 22 = .ok (.getfield 285, 3) := by decide +kernel
theorem dX7_ask_25 : decode cX7_ask 25 = .ok (.ifCond .ne 6, 3) := by decide +kernel
theorem dX7_ask_28 : decode cX7_ask 28 = .ok (.ldc 206, 2) := by decide +kernel
theorem dX7_ask_30 : decode cX7_ask 30 = .ok (.ireturn, 1) := by decide +kernel
theorem dX7_ask_31 : decode cX7_ask 31 = .ok (.aload_n 3, 1) := by decide +kernel
theorem dX7_ask_32 : decode cX7_ask 32 = .ok (.getfield 285, 3) := by decide +kernel
theorem dX7_ask_35 : decode cX7_ask 35 = .ok (.iconst 1, 1) := by decide +kernel
theorem dX7_ask_36 : decode cX7_ask 36 = .ok (.if_icmp .ne 14, 3) := by decide +kernel
theorem dX7_ask_39 : decode cX7_ask 39 = .ok (.aload_n 3, 1) := by decide +kernel
theorem dX7_ask_40 : decode cX7_ask 40 = .ok (.getfield 291, 3) := by decide +kernel
theorem dX7_ask_43 : decode cX7_ask 43 = .ok (.iload_n 2, 1) := by decide +kernel
theorem dX7_ask_44 : decode cX7_ask 44 = .ok (.invokevirtual 88, 3) := by decide +kernel
theorem dX7_ask_47 : decode cX7_ask 47 = .ok (.ifCond .ne 6, 3) := by decide +kernel
theorem dX7_ask_50 : decode cX7_ask 50 = .ok (.ldc 95, 2) := by decide +kernel
theorem dX7_ask_52 : decode cX7_ask 52 = .ok (.ireturn, 1) := by decide +kernel
theorem dX7_ask_53 : decode cX7_ask 53 = .ok (.aload_n 3, 1) := by decide +kernel
theorem dX7_ask_54 : decode cX7_ask 54 = .ok (.getfield 291, 3) := by decide +kernel
theorem dX7_ask_57 : decode cX7_ask 57 = .ok (.invokevirtual 304, 3) := by decide +kernel
theorem dX7_ask_60 : decode cX7_ask 60 = .ok (.ireturn, 1) := by decide +kernel
theorem dX7_item_0 : decode cX7_item 0 = .ok (.aload_n 0, 1) := by decide +kernel
theorem dX7_item_1 : decode cX7_item 1 = .ok (.iload_n 1, 1) := by decide +kernel
theorem dX7_item_2 : decode cX7_item 2 = .ok (.invokevirtual 281, 3) := by decide +kernel
theorem dX7_item_5 : decode cX7_item 5 = .ok (.astore_n 3, 1) := by decide +kernel
theorem dX7_item_6 : decode cX7_item 6 = .ok (.aload_n 3, 1) := by decide +kernel
theorem dX7_item_7 : decode cX7_item 7 = .ok (.ifnonnull 6, 3) := by decide +kernel
theorem dX7_item_10 : decode cX7_item 10 = .ok (.ldc 69, 2) := by decide +kernel
theorem dX7_item_12 : decode cX7_item 12 = .ok (.ireturn, 1) := by decide +kernel
theorem dX7_item_13 : decode cX7_item 13 = .ok (.aload_n 3, 1) := by decide +kernel
theorem dX7_item_14 : decode cX7_item 14 = .ok (.getfield 285, 3) := by decide +kernel
theorem dX7_item_17 : decode cX7_item 17 = .ok (.ifCond .ne 6, 3) := by decide +kernel
theorem dX7_item_20 : decode cX7_item 20 = .ok (.ldc 206, 2) := by decide +kernel
theorem dX7_item_22 : decode cX7_item 22 = .ok (.ireturn, 1) := by decide +kernel
theorem dX7_item_23 : decode cX7_item 23 = .ok (.aload_n 3, 1) := by decide +kernel
theorem dX7_item_24 : decode cX7_item 24 = .ok (.getfield 285, 3) := by decide +kernel
theorem dX7_item_27 : decode cX7_item 27 = .ok (.iconst 2, 1) := by decide +kernel
theorem dX7_item_28 : decode cX7_item 28 = .ok (.if_icmp .eq 6, 3) := by decide +kernel
theorem dX7_item_31 : decode cX7_item 31 = .ok (.ldc 95, 2) := by decide +kernel
theorem dX7_item_33 : decode cX7_item 33 = .ok (.ireturn, 1) := by decide +kernel
theorem dX7_item_34 : decode cX7_item 34 = .ok (.aload_n 3, 1) := by decide +kernel
theorem dX7_item_35 : decode cX7_item 35 = .ok (.getfield 298, 3) := by decide +kernel
theorem dX7_item_38 : decode cX7_item 38 = .ok (.iload_n 2, 1) := by decide +kernel
theorem dX7_item_39 : decode cX7_item 39 = .ok (.invokevirtual 254, 3) := by decide +kernel
theorem dX7_item_42 : decode cX7_item 42 = .ok (.ifCond .ne 7, 3) := by decide +kernel
theorem dX7_item_45 : decode cX7_item 45 = .ok (.ldc_w 257, 3) := by decide +kernel
theorem dX7_item_48 : decode cX7_item 48 = .ok (.ireturn, 1) := by decide +kernel
theorem dX7_item_49 : decode cX7_item 49 = .ok (.aload_n 3, 1) := by decide +kernel
theorem dX7_item_50 : decode cX7_item 50 = .ok (.getfield 298, 3) := by decide +kernel
theorem dX7_item_53 : decode cX7_item 53 = .ok (.iload_n 2, 1) := by decide +kernel
theorem dX7_item_54 : decode cX7_item 54 = .ok (.invokevirtual 263, 3) := by decide +kernel
theorem dX7_item_57 : decode cX7_item 57 = .ok (.ifCond .eq 15, 3) := by decide +kernel
theorem dX7_item_60 : decode cX7_item 60 = .ok (.aload_n 3, 1) := by decide +kernel
theorem dX7_item_61 : decode cX7_item 61 = .ok (.getfield 298, 3) := by decide +kernel
theorem dX7_item_64 : decode cX7_item 64 = .ok (.getfield 258, 3) := by decide +kernel
theorem dX7_item_67 : decode cX7_item 67 = .ok (.iload_n 2, 1) := by decide +kernel
theorem dX7_item_68 : decode cX7_item 68 = .ok (.iaload, 1) := by decide +kernel
theorem dX7_item_69 : decode cX7_item 69 = .ok (.goto 5, 3) := by decide +kernel
theorem dX7_item_72 : decode cX7_item 72 = .ok (.ldc 95, 2) := by decide +kernel
theorem dX7_item_74 : decode cX7_item 74 = .ok (.ireturn, 1) := by decide +kernel
theorem dX7_rest_0 : decode cX7_rest 0 = .ok (.aload_n 0, 1) := by decide +kernel
theorem dX7_rest_1 : decode cX7_rest 1 = .ok (.iload_n 1, 1) := by decide +kernel
theorem dX7_rest_2 : decode cX7_rest 2 = .ok (.invokevirtual 281, 3) := by decide +kernel
theorem dX7_rest_5 : decode cX7_rest 5 = .ok (.astore_n 3, 1) := by decide +kernel
theorem dX7_rest_6 : decode cX7_rest 6 = .ok (.aload_n 3, 1) := by decide +kernel
theorem dX7_rest_7 : decode cX7_rest 7 = .ok (.ifnonnull 6, 3) := by decide +kernel
theorem dX7_rest_10 : decode cX7_rest 10 = .ok (.ldc 69, 2) := by decide +kernel
theorem dX7_rest_12 : decode cX7_rest 12 = .ok (.ireturn, 1) := by decide +kernel
theorem dX7_rest_13 : decode cX7_rest 13 = .ok (.aload_n 3, 1) := by decide +kernel
theorem dX7_rest_14 : decode cX7_rest 14 = .ok (.getfield 285, 3) := by decide +kernel
theorem dX7_rest_17 : decode cX7_rest 17 = .ok (.ifCond .ne 6, 3) := by decide +kernel
theorem dX7_rest_20 : decode cX7_rest 20 = .ok (.ldc 206, 2) := by decide +kernel
theorem dX7_rest_22 : decode cX7_rest 22 = .ok (.ireturn, 1) := by decide +kernel
theorem dX7_rest_23 : decode cX7_rest 23 = .ok (.aload_n 3, 1) := by decide +kernel
theorem dX7_rest_24 : decode cX7_rest 24 = .ok (.getfield 285, 3) := by decide +kernel
theorem dX7_rest_27 : decode cX7_rest 27 = .ok (.iconst 3, 1) := by decide +kernel
theorem dX7_rest_28 : decode cX7_rest 28 = .ok (.if_icmp .eq 6, 3) := by decide +kernel
theorem dX7_rest_31 : decode cX7_rest 31 = .ok (.ldc 95, 2) := by decide +kernel
theorem dX7_rest_33 : decode cX7_rest 33 = .ok (.ireturn, 1) := by decide +kernel
theorem dX7_rest_34 : decode cX7_rest 34 = .ok (.iload_n 2, 1) := by decide +kernel
theorem dX7_rest_35 : decode cX7_rest 35 = .ok (.ifCond .ne 8, 3) := by decide +kernel
theorem dX7_rest_38 : decode cX7_rest 38 = .ok (.ldc 142, 2) := by decide +kernel
theorem dX7_rest_40 : decode cX7_rest 40 = .ok (.goto 9, 3) := by decide +kernel
theorem dX7_rest_43 : decode cX7_rest 43 = .ok (.aload_n 3, 1) := by decide +kernel
theorem dX7_rest_44 : decode cX7_rest 44 = .ok (.getfield 288, 3) := by decide +kernel
theorem dX7_rest_47 : decode cX7_rest 47 = .ok (.iload_n 2, 1) := by decide +kernel
theorem dX7_rest_48 : decode cX7_rest 48 = .ok (.irem, 1) := by decide +kernel
theorem dX7_rest_49 : decode cX7_rest 49 = .ok (.ireturn, 1) := by decide +kernel
theorem dX7_tell_0 : decode cX7_tell 0 = .ok (.aload_n 0, 1) := by decide +kernel
theorem dX7_tell_1 : decode cX7_tell 1 = .ok (.getfield 56, 3) := by decide +kernel
theorem dX7_tell_4 : decode cX7_tell 4 = .ok (.bipush 60, 2) := by decide +kernel
theorem dX7_tell_6 : decode cX7_tell 6 = .ok (.if_icmp .lt 6, 3) := by decide +kernel
theorem dX7_tell_9 : decode cX7_tell 9 = .ok (.ldc 73, 2) := by decide +kernel
theorem dX7_tell_11 : decode cX7_tell 11 = .ok (.ireturn, 1) := by decide +kernel
theorem dX7_tell_12 : decode cX7_tell 12 = .ok (.aload_n 0, 1) := by decide +kernel
theorem dX7_tell_13 : decode cX7_tell 13 = .ok (.getfield 52, 3) := by decide +kernel
theorem dX7_tell_16 : decode cX7_tell 16 = .ok (.aload_n 0, 1) := by decide +kernel
theorem dX7_tell_17 : decode cX7_tell 17 = .ok (.getfield 56, 3) := by decide +kernel
theorem dX7_tell_20 : decode cX7_tell 20 = .ok (.iload_n 1, 1) := by decide +kernel
theorem dX7_tell_21 : decode cX7_tell 21 = .ok (.iastore, 1) := by decide +kernel
theorem dX7_tell_22 : decode cX7_tell 22 = .ok (.aload_n 0, 1) := by decide +kernel
theorem dX7_tell_23 : decode cX7_tell 23 = .ok (.dup, 1) := by decide +kernel
theorem dX7_tell_24 : decode cX7_tell 24 = .ok (.getfield 56, 3) := by decide +kernel
theorem dX7_tell_27 : decode cX7_tell 27 = .ok (.iconst 1, 1) := by decide +kernel
theorem dX7_tell_28 : decode cX7_tell 28 = .ok (.iadd, 1) := by decide +kernel
theorem dX7_tell_29 : decode cX7_tell 29 = .ok (.putfield 56, 3) := by decide +kernel
theorem dX7_tell_32 : decode cX7_tell 32 = .ok (.aload_n 0, 1) := by decide +kernel
theorem dX7_tell_33 : decode cX7_tell 33 = .ok (.getfield 56, 3) := by decide +kernel
theorem dX7_tell_36 : decode cX7_tell 36 = .ok (.ireturn, 1) := by decide +kernel
theorem dX7_check_0 : decode cX7_check 0 = .ok (.aload_n 0, 1) := by decide +kernel
theorem dX7_check_1 : decode cX7_check 1 = .ok (.getfield 56, 3) := by decide +kernel
theorem dX7_check_4 : decode cX7_check 4 = .ok (.istore_n 2, 1) := by decide +kernel
theorem dX7_check_5 : decode cX7_check 5 = .ok (.aload_n 0, 1) := by decide +kernel
theorem dX7_check_6 : decode cX7_check 6 = .ok (.iconst 0, 1) := by decide +kernel
theorem dX7_check_7 : decode cX7_check 7 = .ok (.putfield 56, 3) := by decide +kernel
theorem dX7_check_10 : decode cX7_check 10 = .ok (.iload_n 1, 1) := by decide +kernel
theorem dX7_check_11 : decode cX7_check 11 = .ok (.iconst 1, 1) := by decide +kernel
theorem dX7_check_12 : decode cX7_check 12 = .ok (.if_icmp .lt 9, 3) := by decide +kernel
theorem dX7_check_15 : decode cX7_check 15 = .ok (.iload_n 1, 1) := by decide +kernel
theorem dX7_check_16 : decode cX7_check 16 = .ok (.bipush 30, 2) := by decide +kernel
theorem dX7_check_18 : decode cX7_check 18 = .ok (.if_icmp .le 6, 3) := by decide +kernel
theorem dX7_check_21 : decode cX7_check 21 = .ok (.ldc 69, 2) := by decide +kernel
theorem dX7_check_23 : decode cX7_check 23 = .ok (.ireturn, 1) := by decide +kernel
theorem dX7_check_24 : decode cX7_check 24 = .ok (.aload_n 0, 1) := by decide +kernel
theorem dX7_check_25 : decode cX7_check 25 = .ok (.getfield 22, 3) := by decide +kernel
theorem dX7_check_28 : decode cX7_check 28 = .ok (.ifCond .ne 6, 3) := by decide +kernel
theorem dX7_check_31 : decode cX7_check 31 = .ok (.ldc 142, 2) := by decide +kernel
theorem dX7_check_33 : decode cX7_check 33 = .ok (.ireturn, 1) := by decide +kernel
theorem dX7_check_34 : decode cX7_check 34 = .ok (.aload_n 0, 1) := by decide +kernel
theorem dX7_check_35 : decode cX7_check 35 = .ok (.getfield 16, 3) := by decide +kernel
theorem dX7_check_38 : decode cX7_check 38 = .ok (.aload_n 0, 1) := by decide +kernel
theorem dX7_check_39 : decode cX7_check 39 = .ok (.getfield 19, 3) := by decide +kernel
theorem dX7_check_42 : decode cX7_check 42 = .ok (.invokevirtual 189, 3) := by decide +kernel
theorem dX7_check_45 : decode cX7_check 45 = .ok (.iload_n 1, 1) := by decide +kernel
theorem dX7_check_46 : decode cX7_check 46 = .ok (.sipush 9999, 3) := by decide +kernel
theorem dX7_check_49 : decode cX7_check 49 = .ok (.aload_n 0, 1) := by decide +kernel
theorem dX7_check_50 : decode cX7_check 50 = .ok (.getfield 19, 3) := by decide +kernel
theorem dX7_check_53 : decode cX7_check 53 = .ok (.getfield 180, 3) := by decide +kernel
theorem dX7_check_56 : decode cX7_check 56 = .ok (.isub, 1) := by decide +kernel
theorem dX7_check_57 : decode cX7_check 57 = .ok (.invokestatic 116, 3) := by decide +kernel
theorem dX7_check_60 : decode cX7_check 60 = .ok (.istore_n 3, 1) := by decide +kernel
theorem dX7_check_61 : decode cX7_check 61 = .ok (.iconst 0, 1) := by decide +kernel
theorem dX7_check_62 : decode cX7_check 62 = .ok (.istore 4, 2) := by decide +kernel
theorem dX7_check_64 : decode cX7_check 64 = .ok (.iconst 0, 1) := by decide +kernel
theorem dX7_check_65 : decode cX7_check 65 = .ok (.istore 5, 2) := by decide +kernel
theorem dX7_check_67 : decode cX7_check 67 = .ok (.iload 5, 2) := by decide +kernel
theorem dX7_check_69 : decode cX7_check 69 = .ok (.iload_n 3, 1) := by decide +kernel
theorem dX7_check_70 : decode cX7_check 70 = .ok (.if_icmp .ge 78, 3) := by decide +kernel
theorem dX7_check_73 : decode cX7_check 73 = .ok (.aload_n 0, 1) := by decide +kernel
theorem dX7_check_74 : decode cX7_check 74 = .ok (.getfield 16, 3) := by decide +kernel
theorem dX7_check_77 : decode cX7_check 77 = .ok (.invokevirtual 183, 3) := by decide +kernel
theorem dX7_check_80 : decode cX7_check 80 = .ok (.iload 4, 2) := by decide +kernel
theorem dX7_check_82 : decode cX7_check 82 = .ok (.iload_n 2, 1) := by decide +kernel
theorem dX7_check_83 : decode cX7_check 83 = .ok (.if_icmp .ge 20, 3) := by decide +kernel
theorem dX7_check_86 : decode cX7_check 86 = .ok (.aload_n 0, 1) := by decide +kernel
theorem dX7_check_87 : decode cX7_check 87 = .ok (.getfield 52, 3) := by decide +kernel
theorem dX7_check_90 : decode cX7_check 90 = .ok (.iload 4, 2) := by decide +kernel
theorem dX7_check_92 : decode cX7_check 92 = .ok (.iaload, 1) := by decide +kernel
theorem dX7_check_93 : decode cX7_check 93 = .ok (.aload_n 0, 1) := by decide +kernel
theorem dX7_check_94 : decode cX7_check 94 = .ok (.getfield 16, 3) := by decide +kernel
theorem dX7_check_97 : decode cX7_check 97 = .ok (.invokevirtual 193, 3) := by decide +kernel
theorem dX7_check_100 : decode cX7_check 100 = .ok (.if_icmp .eq 8, 3) := by decide +kernel
theorem dX7_check_103 : decode cX7_check 103 = .ok (.iconst 1, 1) := by decide +kernel
theorem dX7_check_104 : decode cX7_check 104 = .ok (.iload 4, 2) := by decide +kernel
theorem dX7_check_106 : decode cX7_check 106 = .ok (.iadd, 1) := by decide +kernel
theorem dX7_check_107 : decode cX7_check 107 = .ok (.ireturn, 1) := by decide +kernel
theorem dX7_check_108 : decode cX7_check 108 = .ok (.iinc 4 1, 3) := by decide +kernel
theorem dX7_check_111 : decode cX7_check 111 = .ok (.iload 4, 2) := by decide +kernel
theorem dX7_check_113 : decode cX7_check 113 = .ok (.iload_n 2, 1) := by decide +kernel
theorem dX7_check_114 : decode cX7_check 114 = .ok (.if_icmp .ge 20, 3) := by decide +kernel
theorem dX7_check_117 : decode cX7_check 117 = .ok (.aload_n 0, 1) := by decide +kernel
theorem dX7_check_118 : decode cX7_check 118 = .ok (.getfield 52, 3) := by decide +kernel
theorem dX7_check_121 : decode cX7_check 121 = .ok (.iload 4, 2) := by decide +kernel
theorem dX7_check_123 : decode cX7_check 123 = .ok (.iaload, 1) := by decide +kernel
theorem dX7_check_124 : decode cX7_check 124 = .ok (.aload_n 0, 1) := by decide +kernel
theorem dX7_check_125 : decode cX7_check 125 = .ok (.getfield 16, 3) := by decide +kernel
theorem dX7_check_128 : decode cX7_check 128 = .ok (.invokevirtual 186, 3) := by decide +kernel
theorem dX7_check_131 : decode cX7_check 131 = .ok (.if_icmp .eq 8, 3) := by decide +kernel
theorem dX7_check_134 : decode cX7_check 134 = .ok (.iconst 1, 1) := by decide +kernel
theorem dX7_check_135 : decode cX7_check 135 = .ok (.iload 4, 2) := by decide +kernel
theorem dX7_check_137 : decode cX7_check 137 = .ok (.iadd, 1) := by decide +kernel
theorem dX7_check_138 : decode cX7_check 138 = .ok (.ireturn, 1) := by decide +kernel
theorem dX7_check_139 : decode cX7_check 139 = .ok (.iinc 4 1, 3) := by decide +kernel
theorem dX7_check_142 : decode cX7_check 142 = .ok (.iinc 5 1, 3) := by decide +kernel
theorem dX7_check_145 : decode cX7_check 145 = .ok (.goto (-78), 3) := by decide +kernel
theorem dX7_check_148 : decode cX7_check 148 = .ok (.iload 4, 2) := by decide +kernel
theorem dX7_check_150 : decode cX7_check 150 = .ok (.iload_n 2, 1) := by decide +kernel
theorem dX7_check_151 : decode cX7_check 151 = .ok (.if_icmp .ne 7, 3) := by decide +kernel
theorem dX7_check_154 : decode cX7_check 154 = .ok (.iconst 0, 1) := by decide +kernel
theorem dX7_check_155 : decode cX7_check 155 = .ok (.goto 7, 3) := by decide +kernel
theorem dX7_check_158 : decode cX7_check 158 = .ok (.iconst 1, 1) := by decide +kernel
theorem dX7_check_159 : decode cX7_check 159 = .ok (.iload 4, 2) := by decide +kernel
theorem dX7_check_161 : decode cX7_check 161 = .ok (.iadd, 1) := by decide +kernel
theorem dX7_check_162 : decode cX7_check 162 = .ok (.ireturn, 1) := by decide +kernel
theorem dX7_keep_0 : decode cX7_keep 0 = .ok (.aload_n 0, 1) := by decide +kernel
theorem dX7_keep_1 : decode cX7_keep 1 = .ok (.getfield 19, 3) := by decide +kernel
theorem dX7_keep_4 : decode cX7_keep 4 = .ok (.aload_n 0, 1) := by decide +kernel
theorem dX7_keep_5 : decode cX7_keep 5 = .ok (.getfield 10, 3) := by decide +kernel
theorem dX7_keep_8 : decode cX7_keep 8 = .ok (.invokevirtual 189, 3) := by decide +kernel
theorem dX7_keep_11 : decode cX7_keep 11 = .ok (.aload_n 0, 1) := by decide +kernel
theorem dX7_keep_12 : decode cX7_keep 12 = .ok (.iconst 1, 1) := by decide +kernel
theorem dX7_keep_13 : decode cX7_keep 13 = .ok (.putfield 22, 3) := by decide +kernel
theorem dX7_keep_16 : decode cX7_keep 16 = .ok (.aload_n 0, 1) := by decide +kernel
theorem dX7_keep_17 : decode cX7_keep 17 = .ok (.getfield 10, 3) := by decide +kernel
theorem dX7_keep_20 : decode cX7_keep 20 = .ok (.getfield 70, 3) := by decide +kernel
theorem dX7_keep_23 : decode cX7_keep 23 = .ok (.ireturn, 1) := by decide +kernel
theorem dX7_back_0 : decode cX7_back 0 = .ok (.aload_n 0, 1) := by decide +kernel
theorem dX7_back_1 : decode cX7_back 1 = .ok (.getfield 22, 3) := by decide +kernel
theorem dX7_back_4 : decode cX7_back 4 = .ok (.ifCond .ne 6, 3) := by decide +kernel
theorem dX7_back_7 : decode cX7_back 7 = .ok (.ldc 142, 2) := by decide +kernel
theorem dX7_back_9 : decode cX7_back 9 = .ok (.ireturn, 1) := by decide +kernel
theorem dX7_back_10 : decode cX7_back 10 = .ok (.aload_n 0, 1) := by decide +kernel
theorem dX7_back_11 : decode cX7_back 11 = .ok (.getfield 10, 3) := by decide +kernel
theorem dX7_back_14 : decode cX7_back 14 = .ok (.aload_n 0, 1) := by decide +kernel
theorem dX7_back_15 : decode cX7_back 15 = .ok (.getfield 19, 3) := by decide +kernel
theorem dX7_back_18 : decode cX7_back 18 = .ok (.invokevirtual 189, 3) := by decide +kernel
theorem dX7_back_21 : decode cX7_back 21 = .ok (.aload_n 0, 1) := by decide +kernel
theorem dX7_back_22 : decode cX7_back 22 = .ok (.getfield 10, 3) := by decide +kernel
theorem dX7_back_25 : decode cX7_back 25 = .ok (.getfield 70, 3) := by decide +kernel
theorem dX7_back_28 : decode cX7_back 28 = .ok (.ireturn, 1) := by decide +kernel
theorem dX7_count_0 : decode cX7_count 0 = .ok (.iload_n 1, 1) := by decide +kernel
theorem dX7_count_1 : decode cX7_count 1 = .ok (.tableswitch 168 0 12 #[67, 75, 83, 91, 99, 107, 115, 123, 131, 139, 147, 152, 160], 67) := by decide +kernel
theorem dX7_count_68 : decode cX7_count 68 = .ok (.aload_n 0, 1) := by decide +kernel
theorem dX7_count_69 : decode cX7_count 69 = .ok (.getfield 10, 3) := by decide +kernel
theorem dX7_count_72 : decode cX7_count 72 = .ok (.getfield 70, 3) := by decide +kernel
theorem dX7_count_75 : decode cX7_count 75 = .ok (.ireturn, 1) := by decide +kernel
theorem dX7_count_76 : decode cX7_count 76 = .ok (.aload_n 0, 1) := by decide +kernel
theorem dX7_count_77 : decode cX7_count 77 = .ok (.getfield 10, 3) := by decide +kernel
theorem dX7_count_80 : decode cX7_count 80 = .ok (.invokevirtual 186, 3) := by decide +kernel
theorem dX7_count_83 : decode cX7_count 83 = .ok (.ireturn, 1) := by decide +kernel
theorem dX7_count_84 : decode cX7_count 84 = .ok (.aload_n 0, 1) := by decide +kernel
theorem dX7_count_85 : decode cX7_count 85 = .ok (.getfield 10, 3) := by decide +kernel
theorem dX7_count_88 : decode cX7_count 88 = .ok (.getfield 153, 3) := by decide +kernel
theorem dX7_count_91 : decode cX7_count 91 = .ok (.ireturn, 1) := by decide +kernel
theorem dX7_count_92 : decode cX7_count 92 = .ok (.aload_n 0, 1) := by decide +kernel
theorem dX7_count_93 : decode cX7_count 93 = .ok (.getfield 10, 3) := by decide +kernel
theorem dX7_count_96 : decode cX7_count 96 = .ok (.getfield 180, 3) := by decide +kernel
theorem dX7_count_99 : decode cX7_count 99 = .ok (.ireturn, 1) := by decide +kernel
theorem dX7_count_100 : decode cX7_count 100 = .ok (.aload_n 0, 1) := by decide +kernel
theorem dX7_count_101 : decode cX7_count 101 = .ok (.getfield 10, 3) := by decide +kernel
theorem dX7_count_104 : decode cX7_count 104 = .ok (.invokevirtual 193, 3) := by decide +kernel
theorem dX7_count_107 : decode cX7_count 107 = .ok (.ireturn, 1) := by decide +kernel
theorem dX7_count_108 : decode cX7_count 108 = .ok (.aload_n 0, 1) := by decide +kernel
theorem dX7_count_109 : decode cX7_count 109 = .ok (.getfield 10, 3) := by decide +kernel
theorem dX7_count_112 : decode cX7_count 112 = .ok (.getfield 146, 3) := by decide +kernel
theorem dX7_count_115 : decode cX7_count 115 = .ok (.ireturn, 1) := by decide +kernel
theorem dX7_count_116 : decode cX7_count 116 = .ok (.aload_n 0, 1) := by decide +kernel
theorem dX7_count_117 : decode cX7_count 117 = .ok (.getfield 10, 3) := by decide +kernel
theorem dX7_count_120 : decode cX7_count 120 = .ok (.getfield 307, 3) := by decide +kernel
theorem dX7_count_123 : decode cX7_count 123 = .ok (.ireturn, 1) := by decide +kernel
theorem dX7_count_124 : decode cX7_count 124 = .ok (.aload_n 0, 1) := by decide +kernel
theorem dX7_count_125 : decode cX7_count 125 = .ok (.getfield 10, 3) := by decide +kernel
theorem dX7_count_128 : decode cX7_count 128 = .ok (.getfield 110, 3) := by decide +kernel
theorem dX7_count_131 : decode cX7_count 131 = .ok (.ireturn, 1) := by decide +kernel
theorem dX7_count_132 : decode cX7_count 132 = .ok (.aload_n 0, 1) := by decide +kernel
theorem dX7_count_133 : decode cX7_count 133 = .ok (.getfield 10, 3) := by decide +kernel
theorem dX7_count_136 : decode cX7_count 136 = .ok (.getfield 113, 3) := by decide +kernel
theorem dX7_count_139 : decode cX7_count 139 = .ok (.ireturn, 1) := by decide +kernel
theorem dX7_count_140 : decode cX7_count 140 = .ok (.aload_n 0, 1) := by decide +kernel
theorem dX7_count_141 : decode cX7_count 141 = .ok (.getfield 10, 3) := by decide +kernel
theorem dX7_count_144 : decode cX7_count 144 = .ok (.getfield 228, 3) := by decide +kernel
theorem dX7_count_147 : decode cX7_count 147 = .ok (.ireturn, 1) := by decide +kernel
theorem dX7_count_148 : decode cX7_count 148 = .ok (.aload_n 0, 1) := by decide +kernel
theorem dX7_count_149 : decode cX7_count 149 = .ok (.getfield 56, 3) := by decide +kernel
theorem dX7_count_152 : decode cX7_count 152 = .ok (.ireturn, 1) := by decide +kernel
theorem dX7_count_153 : decode cX7_count 153 = .ok (.aload_n 0, 1) := by decide +kernel
theorem dX7_count_154 : decode cX7_count 154 = .ok (.getfield 36, 3) := by decide +kernel
theorem dX7_count_157 : decode cX7_count 157 = .ok (.getfield 214, 3) := by decide +kernel
theorem dX7_count_160 : decode cX7_count 160 = .ok (.ireturn, 1) := by decide +kernel
theorem dX7_count_161 : decode cX7_count 161 = .ok (.aload_n 0, 1) := by decide +kernel
theorem dX7_count_162 : decode cX7_count 162 = .ok (.getfield 10, 3) := by decide +kernel
theorem dX7_count_165 : decode cX7_count 165 = .ok (.getfield 125, 3) := by decide +kernel
theorem dX7_count_168 : decode cX7_count 168 = .ok (.ireturn, 1) := by decide +kernel
theorem dX7_count_169 : decode cX7_count 169 = .ok (.ldc 69, 2) := by decide +kernel
theorem dX7_count_171 : decode cX7_count 171 = .ok (.ireturn, 1) := by decide +kernel
theorem dX7_within_0 : decode cX7_within 0 = .ok (.iload_n 0, 1) := by decide +kernel
theorem dX7_within_1 : decode cX7_within 1 = .ok (.ifCond .lt 12, 3) := by decide +kernel
theorem dX7_within_4 : decode cX7_within 4 = .ok (.iload_n 0, 1) := by decide +kernel
theorem dX7_within_5 : decode cX7_within 5 = .ok (.iload_n 1, 1) := by decide +kernel
theorem dX7_within_6 : decode cX7_within 6 = .ok (.if_icmp .gt 7, 3) := by decide +kernel
theorem dX7_within_9 : decode cX7_within 9 = .ok (.iconst 1, 1) := by decide +kernel
theorem dX7_within_10 : decode cX7_within 10 = .ok (.goto 4, 3) := by decide +kernel
theorem dX7_within_13 : decode cX7_within 13 = .ok (.iconst 0, 1) := by decide +kernel
theorem dX7_within_14 : decode cX7_within 14 = .ok (.ireturn, 1) := by decide +kernel
theorem dX7_isSpades_0 : decode cX7_isSpades 0 = .ok (.iload_n 0, 1) := by decide +kernel
theorem dX7_isSpades_1 : decode cX7_isSpades 1 = .ok (.iconst 1, 1) := by decide +kernel
theorem dX7_isSpades_2 : decode cX7_isSpades 2 = .ok (.if_icmp .lt 13, 3) := by decide +kernel
theorem dX7_isSpades_5 : decode cX7_isSpades 5 = .ok (.iload_n 0, 1) := by decide +kernel
theorem dX7_isSpades_6 : decode cX7_isSpades 6 = .ok (.bipush 99, 2) := by decide +kernel
theorem dX7_isSpades_8 : decode cX7_isSpades 8 = .ok (.if_icmp .gt 7, 3) := by decide +kernel
theorem dX7_isSpades_11 : decode cX7_isSpades 11 = .ok (.iconst 1, 1) := by decide +kernel
theorem dX7_isSpades_12 : decode cX7_isSpades 12 = .ok (.goto 4, 3) := by decide +kernel
theorem dX7_isSpades_15 : decode cX7_isSpades 15 = .ok (.iconst 0, 1) := by decide +kernel
theorem dX7_isSpades_16 : decode cX7_isSpades 16 = .ok (.ireturn, 1) := by decide +kernel
theorem dX7_held_0 : decode cX7_held 0 = .ok (.iconst 0, 1) := by decide +kernel
theorem dX7_held_1 : decode cX7_held 1 = .ok (.iload_n 1, 1) := by decide +kernel
theorem dX7_held_2 : decode cX7_held 2 = .ok (.iload_n 0, 1) := by decide +kernel
theorem dX7_held_3 : decode cX7_held 3 = .ok (.invokestatic 116, 3) := by decide +kernel
theorem dX7_held_6 : decode cX7_held 6 = .ok (.invokestatic 173, 3) := by decide +kernel
theorem dX7_held_9 : decode cX7_held 9 = .ok (.ireturn, 1) := by decide +kernel
theorem dX7_mostOf_0 : decode cX7_mostOf 0 = .ok (.iload_n 0, 1) := by decide +kernel
theorem dX7_mostOf_1 : decode cX7_mostOf 1 = .ok (.tableswitch 44 1 4 #[31, 34, 37, 40], 31) := by decide +kernel
theorem dX7_mostOf_32 : decode cX7_mostOf 32 = .ok (.bipush 29, 2) := by decide +kernel
theorem dX7_mostOf_34 : decode cX7_mostOf 34 = .ok (.ireturn, 1) := by decide +kernel
theorem dX7_mostOf_35 : decode cX7_mostOf 35 = .ok (.bipush 99, 2) := by decide +kernel
theorem dX7_mostOf_37 : decode cX7_mostOf 37 = .ok (.ireturn, 1) := by decide +kernel
theorem dX7_mostOf_38 : decode cX7_mostOf 38 = .ok (.bipush 7, 2) := by decide +kernel
theorem dX7_mostOf_40 : decode cX7_mostOf 40 = .ok (.ireturn, 1) := by decide +kernel
theorem dX7_mostOf_41 : decode cX7_mostOf 41 = .ok (.sipush 999, 3) := by decide +kernel
theorem dX7_mostOf_44 : decode cX7_mostOf 44 = .ok (.ireturn, 1) := by decide +kernel
theorem dX7_mostOf_45 : decode cX7_mostOf 45 = .ok (.iconst (-1), 1) := by decide +kernel
theorem dX7_mostOf_46 : decode cX7_mostOf 46 = .ok (.ireturn, 1) := by decide +kernel
theorem dX7_addDifferences_0 : decode cX7_addDifferences 0 = .ok (.aload_n 0, 1) := by decide +kernel
theorem dX7_addDifferences_1 : decode cX7_addDifferences 1 = .ok (.getfield 60, 3) := by decide +kernel
theorem dX7_addDifferences_4 : decode cX7_addDifferences 4 = .ok (.iconst 0, 1) := by decide +kernel
theorem dX7_addDifferences_5 : decode cX7_addDifferences 5 = .ok (.invokestatic 310, 3) := by decide +kernel
theorem dX7_addDifferences_8 : decode cX7_addDifferences 8 = .ok (.aload_n 0, 1) := by decide +kernel
theorem dX7_addDifferences_9 : decode cX7_addDifferences 9 = .ok (.getfield 16, 3) := by decide +kernel
theorem dX7_addDifferences_12 : decode cX7_addDifferences 12 = .ok (.aload_n 0, 1) := by decide +kernel
theorem dX7_addDifferences_13 : decode cX7_addDifferences 13 = .ok (.getfield 10, 3) := by decide +kernel
theorem dX7_addDifferences_16 : decode cX7_addDifferences 16 = .ok (.invokevirtual 189, 3) := by decide +kernel
theorem dX7_addDifferences_19 : decode cX7_addDifferences 19 = .ok (.iconst 0, 1) := by decide +kernel
theorem dX7_addDifferences_20 : decode cX7_addDifferences 20 = .ok (.istore_n 2, 1) := by decide +kernel
theorem dX7_addDifferences_21 : decode cX7_addDifferences 21 = .ok (.iload_n 2, 1) := by decide +kernel
theorem dX7_addDifferences_22 : decode cX7_addDifferences 22 = .ok (.aload_n 1, 1) := by decide +kernel
theorem dX7_addDifferences_23 : decode cX7_addDifferences 23 = .ok (.getfield 269, 3) := by decide +kernel
theorem dX7_addDifferences_26 : decode cX7_addDifferences 26 = .ok (.if_icmp .ge 74, 3) := by decide +kernel
theorem dX7_addDifferences_29 : decode cX7_addDifferences 29 = .ok (.iconst 0, 1) := by decide +kernel
theorem dX7_addDifferences_30 : decode cX7_addDifferences 30 = .ok (.istore_n 3, 1) := by decide +kernel
theorem dX7_addDifferences_31 : decode cX7_addDifferences 31 = .ok (.iload_n 3, 1) := by decide +kernel
theorem dX7_addDifferences_32 : decode cX7_addDifferences 32 = .ok (.aload_n 0, 1) := by decide +kernel
theorem dX7_addDifferences_33 : decode cX7_addDifferences 33 = .ok (.getfield 16, 3) := by decide +kernel
theorem dX7_addDifferences_36 : decode cX7_addDifferences 36 = .ok (.getfield 70, 3) := by decide +kernel
theorem dX7_addDifferences_39 : decode cX7_addDifferences 39 = .ok (.if_icmp .ge 48, 3) := by decide +kernel
theorem dX7_addDifferences_42 : decode cX7_addDifferences 42 = .ok (.aload_n 1, 1) := by decide +kernel
theorem dX7_addDifferences_43 : decode cX7_addDifferences 43 = .ok (.iload_n 2, 1) := by decide +kernel
theorem dX7_addDifferences_44 : decode cX7_addDifferences 44 = .ok (.invokevirtual 263, 3) := by decide +kernel
theorem dX7_addDifferences_47 : decode cX7_addDifferences 47 = .ok (.ifCond .eq 40, 3) := by decide +kernel
theorem dX7_addDifferences_50 : decode cX7_addDifferences 50 = .ok (.aload_n 0, 1) := by decide +kernel
theorem dX7_addDifferences_51 : decode cX7_addDifferences 51 = .ok (.getfield 60, 3) := by decide +kernel
theorem dX7_addDifferences_54 : decode cX7_addDifferences 54 = .ok (.iload_n 3, 1) := by decide +kernel
theorem dX7_addDifferences_55 : decode cX7_addDifferences 55 = .ok (.dup2, 1) := by decide +kernel
theorem dX7_addDifferences_56 : decode cX7_addDifferences 56 = .ok (.iaload, 1) := by decide +kernel
theorem dX7_addDifferences_57 : decode cX7_addDifferences 57 = .ok (.aload_n 0, 1) := by decide +kernel
theorem dX7_addDifferences_58 : decode cX7_addDifferences 58 = .ok (.getfield 16, 3) := by decide +kernel
theorem dX7_addDifferences_61 : decode cX7_addDifferences 61 = .ok (.getfield 134, 3) := by decide +kernel
theorem dX7_addDifferences_64 : decode cX7_addDifferences 64 = .ok (.iload_n 3, 1) := by decide +kernel
theorem dX7_addDifferences_65 : decode cX7_addDifferences 65 = .ok (.aaload, 1) := by decide +kernel
theorem dX7_addDifferences_66 : decode cX7_addDifferences 66 = .ok (.getfield 92, 3) := by decide +kernel
theorem dX7_addDifferences_69 : decode cX7_addDifferences 69 = .ok (.aload_n 1, 1) := by decide +kernel
theorem dX7_addDifferences_70 : decode cX7_addDifferences 70 = .ok (.getfield 258, 3) := by decide +kernel
theorem dX7_addDifferences_73 : decode cX7_addDifferences 73 = .ok (.iload_n 2, 1) := by decide +kernel
theorem dX7_addDifferences_74 : decode cX7_addDifferences 74 = .ok (.iaload, 1) := by decide +kernel
theorem dX7_addDifferences_75 : decode cX7_addDifferences 75 = .ok (.isub, 1) := by decide +kernel
theorem dX7_addDifferences_76 : decode cX7_addDifferences 76 = .ok (.invokestatic 176, 3) := by decide +kernel
theorem dX7_addDifferences_79 : decode cX7_addDifferences 79 = .ok (.iadd, 1) := by decide +kernel
theorem dX7_addDifferences_80 : decode cX7_addDifferences 80 = .ok (.iastore, 1) := by decide +kernel
theorem dX7_addDifferences_81 : decode cX7_addDifferences 81 = .ok (.iinc 3 1, 3) := by decide +kernel
theorem dX7_addDifferences_84 : decode cX7_addDifferences 84 = .ok (.goto (-53), 3) := by decide +kernel
theorem dX7_addDifferences_87 : decode cX7_addDifferences 87 = .ok (.aload_n 0, 1) := by decide +kernel
theorem dX7_addDifferences_88 : decode cX7_addDifferences 88 = .ok (.getfield 16, 3) := by decide +kernel
theorem dX7_addDifferences_91 : decode cX7_addDifferences 91 = .ok (.invokevirtual 183, 3) := by decide +kernel
theorem dX7_addDifferences_94 : decode cX7_addDifferences 94 = .ok (.iinc 2 1, 3) := by decide +kernel
theorem dX7_addDifferences_97 : decode cX7_addDifferences 97 = .ok (.goto (-76), 3) := by decide +kernel
theorem dX7_addDifferences_100 : decode cX7_addDifferences 100 = .ok (.return_, 1) := by decide +kernel
theorem dX7_sheetAt_0 : decode cX7_sheetAt 0 = .ok (.iload_n 1, 1) := by decide +kernel
theorem dX7_sheetAt_1 : decode cX7_sheetAt 1 = .ok (.iconst 3, 1) := by decide +kernel
theorem dX7_sheetAt_2 : decode cX7_sheetAt 2 = .ok (.invokestatic 65, 3) := by decide +kernel
theorem dX7_sheetAt_5 : decode cX7_sheetAt 5 = .ok (.ifCond .eq 12, 3) := by decide +kernel
theorem dX7_sheetAt_8 : decode cX7_sheetAt 8 = .ok (.aload_n 0, 1) := by decide +kernel
theorem dX7_sheetAt_9 : decode cX7_sheetAt 9 = .ok (.getfield 42, 3) := by decide +kernel
theorem dX7_sheetAt_12 : decode cX7_sheetAt 12 = .ok (.iload_n 1, 1) := by decide +kernel
theorem dX7_sheetAt_13 : decode cX7_sheetAt 13 = .ok (.aaload, 1) := by decide +kernel
theorem dX7_sheetAt_14 : decode cX7_sheetAt 14 = .ok (.goto 4, 3) := by decide +kernel
theorem dX7_sheetAt_17 : decode cX7_sheetAt 17 = .ok (.aconst_null, 1) := by decide +kernel
theorem dX7_sheetAt_18 : decode cX7_sheetAt 18 = .ok (.areturn, 1) := by decide +kernel
theorem dX7_slotAt_0 : decode cX7_slotAt 0 = .ok (.iload_n 1, 1) := by decide +kernel
theorem dX7_slotAt_1 : decode cX7_slotAt 1 = .ok (.iconst 4, 1) := by decide +kernel
theorem dX7_slotAt_2 : decode cX7_slotAt 2 = .ok (.invokestatic 65, 3) := by decide +kernel
theorem dX7_slotAt_5 : decode cX7_slotAt 5 = .ok (.ifCond .eq 12, 3) := by decide +kernel
theorem dX7_slotAt_8 : decode cX7_slotAt 8 = .ok (.aload_n 0, 1) := by decide +kernel
theorem dX7_slotAt_9 : decode cX7_slotAt 9 = .ok (.getfield 48, 3) := by decide +kernel
theorem dX7_slotAt_12 : decode cX7_slotAt 12 = .ok (.iload_n 1, 1) := by decide +kernel
theorem dX7_slotAt_13 : decode cX7_slotAt 13 = .ok (.aaload, 1) := by decide +kernel
theorem dX7_slotAt_14 : decode cX7_slotAt 14 = .ok (.goto 4, 3) := by decide +kernel
theorem dX7_slotAt_17 : decode cX7_slotAt 17 = .ok (.aconst_null, 1) := by decide +kernel
theorem dX7_slotAt_18 : decode cX7_slotAt 18 = .ok (.areturn, 1) := by decide +kernel
end AM13c
