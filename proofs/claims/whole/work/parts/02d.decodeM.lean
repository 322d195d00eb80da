theorem dX8_init_0 : decode cX8_init 0 = .ok (.aload_n 0, 1) := by decide +kernel
theorem dX8_init_1 : decode cX8_init 1 = .ok (.invokespecial 1, 3) := by decide +kernel
theorem dX8_init_4 : decode cX8_init 4 = .ok (.aload_n 0, 1) := by decide +kernel
theorem dX8_init_5 : decode cX8_init 5 = .ok (.sipush 200, 3) := by decide +kernel
theorem dX8_init_8 : decode cX8_init 8 = .ok (.newarray .int, 2) := by decide +kernel
theorem dX8_init_10 : decode cX8_init 10 = .ok (.putfield 7, 3) := by decide +kernel
theorem dX8_init_13 : decode cX8_init 13 = .ok (.aload_n 0, 1) := by decide +kernel
theorem dX8_init_14 : decode cX8_init 14 = .ok (.bipush 8, 2) := by decide +kernel
theorem dX8_init_16 : decode cX8_init 16 = .ok (.newarray .int, 2) := by decide +kernel
theorem dX8_init_18 : decode cX8_init 18 = .ok (.putfield 13, 3) := by decide +kernel
theorem dX8_init_21 : decode cX8_init 21 = .ok (.aload_n 0, 1) := by decide +kernel
theorem dX8_init_22 : decode cX8_init 22 = .ok (.bipush 8, 2) := by decide +kernel
theorem dX8_init_24 : decode cX8_init 24 = .ok (.newarray .int, 2) := by decide +kernel
theorem dX8_init_26 : decode cX8_init 26 = .ok (.putfield 16, 3) := by decide +kernel
theorem dX8_init_29 : decode cX8_init 29 = .ok (.aload_n 0, 1) := by decide +kernel
theorem dX8_init_30 : decode cX8_init 30 = .ok (.bipush 60, 2) := by decide +kernel
theorem dX8_init_32 : decode cX8_init 32 = .ok (.newarray .int, 2) := by decide +kernel
theorem dX8_init_34 : decode cX8_init 34 = .ok (.putfield 19, 3) := by decide +kernel
theorem dX8_init_37 : decode cX8_init 37 = .ok (.aload_n 0, 1) := by decide +kernel
theorem dX8_init_38 : decode cX8_init 38 = .ok (.bipush 60, 2) := by decide +kernel
theorem dX8_init_40 : decode cX8_init 40 = .ok (.newarray .int, 2) := by decide +kernel
theorem dX8_init_42 : decode cX8_init 42 = .ok (.putfield 22, 3) := by decide +kernel
theorem dX8_init_45 : decode cX8_init 45 = .ok (.aload_n 0, 1) := by decide +kernel
theorem dX8_init_46 : decode cX8_init 46 = .ok (.bipush 60, 2) := by decide +kernel
theorem dX8_init_48 : decode cX8_init 48 = .ok (.newarray .int, 2) := by decide +kernel
theorem dX8_init_50 : decode cX8_init 50 = .ok (.putfield 25, 3) := by decide +kernel
theorem dX8_init_53 : decode cX8_init 53 = .ok (.aload_n 0, 1) := by decide +kernel
theorem dX8_init_54 : decode cX8_init 54 = .ok (.bipush 60, 2) := by decide +kernel
theorem dX8_init_56 : decode cX8_init 56 = .ok (.newarray .int, 2) := by decide +kernel
theorem dX8_init_58 : decode cX8_init 58 = .ok (.putfield 28, 3) := by decide +kernel
theorem dX8_init_61 : decode cX8_init 61 = .ok (.aload_n 0, 1) := by decide +kernel
theorem dX8_init_62 : decode cX8_init 62 = .ok (.bipush 60, 2) := by decide +kernel
theorem dX8_init_64 : decode cX8_init 64 = .ok (.newarray .int, 2) := by decide +kernel
theorem dX8_init_66 : decode cX8_init 66 = .ok (.putfield 31, 3) := by decide +kernel
theorem dX8_init_69 : decode cX8_init 69 = .ok (.aload_n 0, 1) := by decide +kernel
theorem dX8_init_70 : decode cX8_init 70 = .ok (.bipush 50, 2) := by decide +kernel
theorem dX8_init_72 : decode cX8_init 72 = .ok (.newarray .int, 2) := by decide +kernel
theorem dX8_init_74 : decode cX8_init 74 = .ok (.putfield 34, 3) := by decide +kernel
theorem dX8_init_77 : decode cX8_init 77 = .ok (.aload_n 0, 1) := by decide +kernel
theorem dX8_init_78 : decode cX8_init 78 = .ok (.bipush 50, 2) := by decide +kernel
theorem dX8_init_80 : decode cX8_init 80 = .ok (.newarray .long, 2) := by decide +kernel
theorem dX8_init_82 : decode cX8_init 82 = .ok (.putfield 37, 3) := by decide +kernel
theorem dX8_init_85 : decode cX8_init 85 = .ok (.aload_n 0, 1) := by decide +kernel
theorem dX8_init_86 : decode cX8_init 86 = .ok (.bipush 50, 2) := by decide +kernel
theorem dX8_init_88 : decode cX8_init 88 = .ok (.newarray .int, 2) := by decide +kernel
theorem dX8_init_90 : decode cX8_init 90 = .ok (.putfield 41, 3) := by decide +kernel
theorem dX8_init_93 : decode cX8_init 93 = .ok (.aload_n 0, 1) := by decide +kernel
theorem dX8_init_94 : decode cX8_init 94 = .ok (.sipush 201, 3) := by decide +kernel
theorem dX8_init_97 : decode cX8_init 97 = .ok (.newarray .int, 2) := by decide +kernel
theorem dX8_init_99 : decode cX8_init 99 = .ok (.putfield 44, 3) := by decide +kernel
theorem dX8_init_102 : decode cX8_init 102 = .ok (.aload_n 0, 1) := by decide +kernel
theorem dX8_init_103 : decode cX8_init 103 = .ok (.sipush 200, 3) := by decide +kernel
theorem dX8_init_106 : decode cX8_init 106 = .ok (.newarray .long, 2) := by decide +kernel
theorem dX8_init_108 : decode cX8_init 108 = .ok (.putfield 47, 3) := by decide +kernel
theorem dX8_init_111 : decode cX8_init 111 = .ok (.aload_n 0, 1) := by decide +kernel
theorem dX8_init_112 : decode cX8_init 112 = .ok (.bipush 120, 2) := by decide +kernel
theorem dX8_init_114 : decode cX8_init 114 = .ok (.newarray .int, 2) := by decide +kernel
theorem dX8_init_116 : decode cX8_init 116 = .ok (.putfield 50, 3) := by decide +kernel
theorem dX8_init_119 : decode cX8_init 119 = .ok (.aload_n 0, 1) := by decide +kernel
theorem dX8_init_120 : decode cX8_init 120 = .ok (.bipush 120, 2) := by decide +kernel
theorem dX8_init_122 : decode cX8_init 122 = .ok (.newarray .int, 2) := by decide +kernel
theorem dX8_init_124 : decode cX8_init 124 = .ok (.putfield 53, 3) := by decide +kernel
theorem dX8_init_127 : decode cX8_init 127 = .ok (.aload_n 0, 1) := by decide +kernel
theorem dX8_init_128 : decode cX8_init 128 = .ok (.bipush 31, 2) := by decide +kernel
theorem dX8_init_130 : decode cX8_init 130 = .ok (.newarray .long, 2) := by decide +kernel
theorem dX8_init_132 : decode cX8_init 132 = .ok (.putfield 56, 3) := by decide +kernel
theorem dX8_init_135 : decode cX8_init 135 = .ok (.aload_n 0, 1) := by decide +kernel
theorem dX8_init_136 : decode cX8_init 136 = .ok (.sipush 460, 3) := by decide +kernel
theorem dX8_init_139 : decode cX8_init 139 = .ok (.newarray .int, 2) := by decide +kernel
theorem dX8_init_141 : decode cX8_init 141 = .ok (.putfield 59, 3) := by decide +kernel
theorem dX8_init_144 : decode cX8_init 144 = .ok (.aload_n 0, 1) := by decide +kernel
theorem dX8_init_145 : decode cX8_init 145 = .ok (.iconst 2, 1) := by decide +kernel
theorem dX8_init_146 : decode cX8_init 146 = .ok (.newarray .boolean, 2) := by decide +kernel
theorem dX8_init_148 : decode cX8_init 148 = .ok (.putfield 62, 3) := by decide +kernel
theorem dX8_init_151 : decode cX8_init 151 = .ok (.return_, 1) := by decide +kernel
theorem dX8_in_0 : decode cX8_in 0 = .ok (.lload_n 0, 1) := by decide +kernel
theorem dX8_in_1 : decode cX8_in 1 = .ok (.lload_n 2, 1) := by decide +kernel
theorem dX8_in_2 : decode cX8_in 2 = .ok (.lcmp, 1) := by decide +kernel
theorem dX8_in_3 : decode cX8_in 3 = .ok (.ifCond .lt 14, 3) := by decide +kernel
theorem dX8_in_6 : decode cX8_in 6 = .ok (.lload_n 0, 1) := by decide +kernel
theorem dX8_in_7 : decode cX8_in 7 = .ok (.lload 4, 2) := by decide +kernel
theorem dX8_in_9 : decode cX8_in 9 = .ok (.lcmp, 1) := by decide +kernel
theorem dX8_in_10 : decode cX8_in 10 = .ok (.ifCond .gt 7, 3) := by decide +kernel
theorem dX8_in_13 : decode cX8_in 13 = .ok (.iconst 1, 1) := by decide +kernel
theorem dX8_in_14 : decode cX8_in 14 = .ok (.goto 4, 3) := by decide +kernel
theorem dX8_in_17 : decode cX8_in 17 = .ok (.iconst 0, 1) := by decide +kernel
theorem dX8_in_18 : decode cX8_in 18 = .ok (.ireturn, 1) := by decide +kernel
theorem dX8_isSet_0 : decode cX8_isSet 0 = .ok (.iload_n 0, 1) := by decide +kernel
theorem dX8_isSet_1 : decode cX8_isSet 1 = .ok (.i2l, 1) := by decide +kernel
theorem dX8_isSet_2 : decode cX8_isSet 2 = .ok (.lconst 0, 1) := by decide +kernel
theorem dX8_isSet_3 : decode cX8_isSet 3 = .ok (.ldc2_w 66, 3) := by decide +kernel
theorem dX8_isSet_6 : decode cX8_isSet 6 = .ok (.invokestatic 68, 3) := by decide +kernel
theorem dX8_isSet_9 : decode cX8_isSet 9 = .ok (.ireturn, 1) := by decide +kernel
theorem dX8_isKey_0 : decode cX8_isKey 0 = .ok (.iload_n 0, 1) := by decide +kernel
theorem dX8_isKey_1 : decode cX8_isKey 1 = .ok (.i2l, 1) := by decide +kernel
theorem dX8_isKey_2 : decode cX8_isKey 2 = .ok (.lconst 0, 1) := by decide +kernel
theorem dX8_isKey_3 : decode cX8_isKey 3 = .ok (.ldc2_w 72, 3) := by decide +kernel
theorem dX8_isKey_6 : decode cX8_isKey 6 = .ok (.invokestatic 68, 3) := by decide +kernel
theorem dX8_isKey_9 : decode cX8_isKey 9 = .ok (.ireturn, 1) := by decide +kernel
theorem dX8_has_0 : decode cX8_has 0 = .ok (.aload_n 0, 1) := by decide +kernel
theorem dX8_has_1 : decode cX8_has 1 = .ok (.getfield 7, 3) := by decide +kernel
theorem dX8_has_4 : decode cX8_has 4 = .ok (.bipush 50, 2) := by decide +kernel
theorem dX8_has_6 : decode cX8_has 6 = .ok (.iload_n 1, 1) := by decide +kernel
theorem dX8_has_7 : decode cX8_has 7 = .ok (.imul, 1) := by decide +kernel
theorem dX8_has_8 : decode cX8_has 8 = .ok (.iload_n 2, 1) := by decide +kernel
theorem dX8_has_9 : decode cX8_has 9 = .ok (.iadd, 1) := by decide +kernel
theorem dX8_has_10 : decode cX8_has 10 = .ok (.iaload, 1) := by decide +kernel
theorem dX8_has_11 : decode cX8_has 11 = .ok (.iconst 1, 1) := by decide +kernel
theorem dX8_has_12 : decode cX8_has 12 = .ok (.if_icmp .ne 7, 3) := by decide +kernel
theorem dX8_has_15 : decode cX8_has 15 = .ok (.iconst 1, 1) := by decide +kernel
theorem dX8_has_16 : decode cX8_has 16 = .ok (.goto 4, 3) := by decide +kernel
theorem dX8_has_19 : decode cX8_has 19 = .ok (.iconst 0, 1) := by decide +kernel
theorem dX8_has_20 : decode cX8_has 20 = .ok (.ireturn, 1) := by decide +kernel
theorem dX8_many_0 : decode cX8_many 0 = .ok (.iconst 0, 1) := by decide +kernel
theorem dX8_many_1 : decode cX8_many 1 = .ok (.istore_n 2, 1) := by decide +kernel
theorem dX8_many_2 : decode cX8_many 2 = .ok (.iconst 0, 1) := by decide +kernel
theorem dX8_many_3 : decode cX8_many 3 = .ok (.istore_n 3, 1) := by decide +kernel
theorem dX8_many_4 : decode cX8_many 4 = .ok (.iload_n 3, 1) := by decide +kernel
theorem dX8_many_5 : decode cX8_many 5 = .ok (.bipush 50, 2) := by decide +kernel
theorem dX8_many_7 : decode cX8_many 7 = .ok (.if_icmp .ge 23, 3) := by decide +kernel
theorem dX8_many_10 : decode cX8_many 10 = .ok (.iload_n 2, 1) := by decide +kernel
theorem dX8_many_11 : decode cX8_many 11 = .ok (.aload_n 0, 1) := by decide +kernel
theorem dX8_many_12 : decode cX8_many 12 = .ok (.getfield 7, 3) := by decide +kernel
theorem dX8_many_15 : decode cX8_many 15 = .ok (.bipush 50, 2) := by decide +kernel
theorem dX8_many_17 : decode cX8_many 17 = .ok (.iload_n 1, 1) := by decide +kernel
theorem dX8_many_18 : decode cX8_many 18 = .ok (.imul, 1) := by decide +kernel
theorem dX8_many_19 : decode cX8_many 19 = .ok (.iload_n 3, 1) := by decide +kernel
theorem dX8_many_20 : decode cX8_many 20 = .ok (.iadd, 1) := by decide +kernel
theorem dX8_many_21 : decode cX8_many 21 = .ok (.iaload, 1) := by decide +kernel
theorem dX8_many_22 : decode cX8_many 22 = .ok (.iadd, 1) := by decide +kernel
theorem dX8_many_23 : decode cX8_many 23 = .ok (.istore_n 2, 1) := by decide +kernel
theorem dX8_many_24 : decode cX8_many 24 = .ok (.iinc 3 1, 3) := by decide +kernel
theorem dX8_many_27 : decode cX8_many 27 = .ok (.goto (-23), 3) := by decide +kernel
theorem dX8_many_30 : decode cX8_many 30 = .ok (.iload_n 2, 1) := by decide +kernel
theorem dX8_many_31 : decode cX8_many 31 = .ok (.ireturn, 1) := by decide +kernel
theorem dX8_priorityBy_0 : decode cX8_priorityBy 0 = .ok (.iload_n 0, 1) := by decide +kernel
theorem dX8_priorityBy_1 : decode cX8_priorityBy 1 = .ok (.sipush 131, 3) := by decide +kernel
theorem dX8_priorityBy_4 : decode cX8_priorityBy 4 = .ok (.iload_n 1, 1) := by decide +kernel
theorem dX8_priorityBy_5 : decode cX8_priorityBy 5 = .ok (.imul, 1) := by decide +kernel
theorem dX8_priorityBy_6 : decode cX8_priorityBy 6 = .ok (.iadd, 1) := by decide +kernel
theorem dX8_priorityBy_7 : decode cX8_priorityBy 7 = .ok (.sipush 10007, 3) := by decide +kernel
theorem dX8_priorityBy_10 : decode cX8_priorityBy 10 = .ok (.irem, 1) := by decide +kernel
theorem dX8_priorityBy_11 : decode cX8_priorityBy 11 = .ok (.istore_n 2, 1) := by decide +kernel
theorem dX8_priorityBy_12 : decode cX8_priorityBy 12 = .ok (.iload_n 2, 1) := by decide +kernel
theorem dX8_priorityBy_13 : decode cX8_priorityBy 13 = .ok (.iload_n 2, 1) := by decide +kernel
theorem dX8_priorityBy_14 : decode cX8_priorityBy 14 = .ok (.imul, 1) := by decide +kernel
theorem dX8_priorityBy_15 : decode cX8_priorityBy 15 = .ok (.sipush 10007, 3) := by decide +kernel
theorem dX8_priorityBy_18 : decode cX8_priorityBy 18 = .ok (.irem, 1) := by decide +kernel
theorem dX8_priorityBy_19 : decode cX8_priorityBy 19 = .ok (.ireturn, 1) := by decide +kernel
theorem dX8_ranksBy_0 : decode cX8_ranksBy 0 = .ok (.iload_n 0, 1) := by decide +kernel
theorem dX8_ranksBy_1 : decode cX8_ranksBy 1 = .ok (.iload_n 1, 1) := by decide +kernel
theorem dX8_ranksBy_2 : decode cX8_ranksBy 2 = .ok (.invokestatic 74, 3) := by decide +kernel
theorem dX8_ranksBy_5 : decode cX8_ranksBy 5 = .ok (.istore_n 3, 1) := by decide +kernel
theorem dX8_ranksBy_6 : decode cX8_ranksBy 6 = .ok (.iload_n 0, 1) := by decide +kernel
theorem dX8_ranksBy_7 : decode cX8_ranksBy 7 = .ok (.iload_n 2, 1) := by decide +kernel
theorem dX8_ranksBy_8 : decode cX8_ranksBy 8 = .ok (.invokestatic 74, 3) := by decide +kernel
theorem dX8_ranksBy_11 : decode cX8_ranksBy 11 = .ok (.istore 4, 2) := by decide +kernel
theorem dX8_ranksBy_13 : decode cX8_ranksBy 13 = .ok (.iload_n 3, 1) := by decide +kernel
theorem dX8_ranksBy_14 : decode cX8_ranksBy 14 = .ok (.iload 4, 2) := by decide +kernel
theorem dX8_ranksBy_16 : decode cX8_ranksBy 16 = .ok (.if_icmp .gt 14, 3) := by decide +kernel
theorem dX8_ranksBy_19 : decode cX8_ranksBy 19 = .ok (.iload_n 3, 1) := by decide +kernel
theorem dX8_ranksBy_20 : decode cX8_ranksBy 20 = .ok (.iload 4, 2) := by decide +kernel
theorem dX8_ranksBy_22 : decode cX8_ranksBy 22 = .ok (.if_icmp .ne 12, 3) := by decide +kernel
theorem dX8_ranksBy_25 : decode cX8_ranksBy 25 = .ok (.iload_n 1, 1) := by decide +kernel
theorem dX8_ranksBy_26 : decode cX8_ranksBy 26 = .ok (.iload_n 2, 1) := by decide +kernel
theorem dX8_ranksBy_27 : decode cX8_ranksBy 27 = .ok (.if_icmp .ge 7, 3) := by decide +kernel
theorem dX8_ranksBy_30 : decode cX8_ranksBy 30 = .ok (.iconst 1, 1) := by decide +kernel
theorem dX8_ranksBy_31 : decode cX8_ranksBy 31 = .ok (.goto 4, 3) := by decide +kernel
theorem dX8_ranksBy_34 : decode cX8_ranksBy 34 = .ok (.iconst 0, 1) := by decide +kernel
theorem dX8_ranksBy_35 : decode cX8_ranksBy 35 = .ok (.ireturn, 1) := by decide +kernel
theorem dX8_ranks_0 : decode cX8_ranks 0 = .ok (.aload_n 0, 1) := by decide +kernel
theorem dX8_ranks_1 : decode cX8_ranks 1 = .ok (.getfield 78, 3) := by decide +kernel
theorem dX8_ranks_4 : decode cX8_ranks 4 = .ok (.iload_n 1, 1) := by decide +kernel
theorem dX8_ranks_5 : decode cX8_ranks 5 = .ok (.iload_n 2, 1) := by decide +kernel
theorem dX8_ranks_6 : decode cX8_ranks 6 = .ok (.invokestatic 82, 3) := by decide +kernel
theorem dX8_ranks_9 : decode cX8_ranks 9 = .ok (.ireturn, 1) := by decide +kernel
theorem dX8_seed_0 : decode cX8_seed 0 = .ok (.iload_n 1, 1) := by decide +kernel
theorem dX8_seed_1 : decode cX8_seed 1 = .ok (.i2l, 1) := by decide +kernel
theorem dX8_seed_2 : decode cX8_seed 2 = .ok (.lconst 0, 1) := by decide +kernel
theorem dX8_seed_3 : decode cX8_seed 3 = .ok (.ldc2_w 86, 3) := by decide +kernel
theorem dX8_seed_6 : decode cX8_seed 6 = .ok (.invokestatic 68, 3) := by decide +kernel
theorem dX8_seed_9 : decode cX8_seed 9 = .ok (.ifCond .ne 6, 3) := by decide +kernel
theorem dX8_seed_12 : decode cX8_seed 12 = .ok (.bipush (-2), 2) := by decide +kernel
theorem dX8_seed_14 : decode cX8_seed 14 = .ok (.ireturn, 1) := by decide +kernel
theorem dX8_seed_15 : decode cX8_seed 15 = .ok (.aload_n 0, 1) := by decide +kernel
theorem dX8_seed_16 : decode cX8_seed 16 = .ok (.getfield 78, 3) := by decide +kernel
theorem dX8_seed_19 : decode cX8_seed 19 = .ok (.istore_n 2, 1) := by decide +kernel
theorem dX8_seed_20 : decode cX8_seed 20 = .ok (.aload_n 0, 1) := by decide +kernel
theorem dX8_seed_21 : decode cX8_seed 21 = .ok (.iload_n 1, 1) := by decide +kernel
theorem dX8_seed_22 : decode cX8_seed 22 = .ok (.putfield 78, 3) := by decide +kernel
theorem dX8_seed_25 : decode cX8_seed 25 = .ok (.iload_n 2, 1) := by decide +kernel
theorem dX8_seed_26 : decode cX8_seed 26 = .ok (.ireturn, 1) := by decide +kernel
theorem dX8_put_0 : decode cX8_put 0 = .ok (.iload_n 1, 1) := by decide +kernel
theorem dX8_put_1 : decode cX8_put 1 = .ok (.invokestatic 88, 3) := by decide +kernel
theorem dX8_put_4 : decode cX8_put 4 = .ok (.ifCond .eq 10, 3) := by decide +kernel
theorem dX8_put_7 : decode cX8_put 7 = .ok (.iload_n 2, 1) := by decide +kernel
theorem dX8_put_8 : decode cX8_put 8 = .ok (.invokestatic 92, 3) := by decide +kernel
theorem dX8_put_11 : decode cX8_put 11 = .ok (.ifCond .ne 5, 3) := by decide +kernel
theorem dX8_put_14 : decode cX8_put 14 = .ok (.iconst (-1), 1) := by decide +kernel
theorem dX8_put_15 : decode cX8_put 15 = .ok (.ireturn, 1) := by decide +kernel
theorem dX8_put_16 : decode cX8_put 16 = .ok (.iload_n 3, 1) := by decide +kernel
theorem dX8_put_17 : decode cX8_put 17 = .ok (.ifCond .eq 25, 3) := by decide +kernel
theorem dX8_put_20 : decode cX8_put 20 = .ok (.aload_n 0, 1) := by decide +kernel
theorem dX8_put_21 : decode cX8_put 21 = .ok (.iload_n 1, 1) := by decide +kernel
theorem dX8_put_22 : decode cX8_put 22 = .ok (.iload_n 2, 1) := by decide +kernel
theorem dX8_put_23 : decode cX8_put 23 = .ok (.invokevirtual 95, 3) := by decide +kernel
theorem dX8_put_26 : decode cX8_put 26 = .ok (.ifCond .ne 16, 3) := by decide +kernel
theorem dX8_put_29 : decode cX8_put 29 = .ok (.aload_n 0, 1) := by decide +kernel
theorem dX8_put_30 : decode cX8_put 30 = .ok (.iload_n 1, 1) := by decide +kernel
theorem dX8_put_31 : decode cX8_put 31 = .ok (.invokevirtual 99, 3) := by decide +kernel
theorem dX8_put_34 : decode cX8_put 34 = .ok (.bipush 40, 2) := by decide +kernel
theorem dX8_put_36 : decode cX8_put 36 = .ok (.if_icmp .ne 6, 3) := by decide +kernel
theorem dX8_put_39 : decode cX8_put 39 = .ok (.bipush (-4), 2) := by decide +kernel
theorem dX8_put_41 : decode cX8_put 41 = .ok (.ireturn, 1) := by decide +kernel
theorem dX8_put_42 : decode cX8_put 42 = .ok (.aload_n 0, 1) := by decide +kernel
theorem dX8_put_43 : decode cX8_put 43 = .ok (.getfield 7, 3) := by decide +kernel
theorem dX8_put_46 : decode cX8_put 46 = .ok (.bipush 50, 2) := by decide +kernel
theorem dX8_put_48 : decode cX8_put 48 = .ok (.iload_n 1, 1) := by decide +kernel
theorem dX8_put_49 : decode cX8_put 49 = .ok (.imul, 1) := by decide +kernel
theorem dX8_put_50 : decode cX8_put 50 = .ok (.iload_n 2, 1) := by decide +kernel
theorem dX8_put_51 : decode cX8_put 51 = .ok (.iadd, 1) := by decide +kernel
theorem dX8_put_52 : decode cX8_put 52 = .ok (.iload_n 3, 1) := by decide +kernel
theorem dX8_put_53 : decode cX8_put 53 = .ok (.ifCond .eq 7, 3) := by decide +kernel
theorem dX8_put_56 : decode cX8_put 56 = .ok (.iconst 1, 1) := by decide +kernel
theorem dX8_put_57 : decode cX8_put 57 = .ok (.goto 4, 3) := by decide +kernel
theorem dX8_put_60 : decode cX8_put 60 = .ok (.iconst 0, 1) := by decide +kernel
theorem dX8_put_61 : decode cX8_put 61 = .ok (.iastore, 1) := by decide +kernel
theorem dX8_put_62 : decode cX8_put 62 = .ok (.aload_n 0, 1) := by decide +kernel
theorem dX8_put_63 : decode cX8_put 63 = .ok (.iload_n 1, 1) := by decide +kernel
theorem dX8_put_64 : decode cX8_put 64 = .ok (.invokevirtual 99, 3) := by decide +kernel
theorem dX8_put_67 : decode cX8_put 67 = .ok (.ireturn, 1) := by decide +kernel
theorem dX8_say_0 : decode cX8_say 0 = .ok (.iload_n 1, 1) := by decide +kernel
theorem dX8_say_1 : decode cX8_say 1 = .ok (.i2l, 1) := by decide +kernel
theorem dX8_say_2 : decode cX8_say 2 = .ok (.ldc2_w 103, 3) := by decide +kernel
theorem dX8_say_5 : decode cX8_say 5 = .ok (.ldc2_w 105, 3) := by decide +kernel
theorem dX8_say_8 : decode cX8_say 8 = .ok (.invokestatic 68, 3) := by decide +kernel
theorem dX8_say_11 : decode cX8_say 11 = .ok (.ifCond .ne 6, 3) := by decide +kernel
theorem dX8_say_14 : decode cX8_say 14 = .ok (.bipush (-2), 2) := by decide +kernel
theorem dX8_say_16 : decode cX8_say 16 = .ok (.ireturn, 1) := by decide +kernel
theorem dX8_say_17 : decode cX8_say 17 = .ok (.aload_n 0, 1) := by decide +kernel
theorem dX8_say_18 : decode cX8_say 18 = .ok (.getfield 107, 3) := by decide +kernel
theorem dX8_say_21 : decode cX8_say 21 = .ok (.bipush 60, 2) := by decide +kernel
theorem dX8_say_23 : decode cX8_say 23 = .ok (.if_icmp .ne 6, 3) := by decide +kernel
theorem dX8_say_26 : decode cX8_say 26 = .ok (.bipush (-4), 2) := by decide +kernel
theorem dX8_say_28 : decode cX8_say 28 = .ok (.ireturn, 1) := by decide +kernel
theorem dX8_say_29 : decode cX8_say 29 = .ok (.aload_n 0, 1) := by decide +kernel
theorem dX8_say_30 : decode cX8_say 30 = .ok (.getfield 19, 3) := by decide +kernel
theorem dX8_say_33 : decode cX8_say 33 = .ok (.aload_n 0, 1) := by decide +kernel
theorem dX8_say_34 : decode cX8_say 34 = .ok (.getfield 107, 3) := by decide +kernel
theorem dX8_say_37 : decode cX8_say 37 = .ok (.iload_n 1, 1) := by decide +kernel
theorem dX8_say_38 : decode cX8_say 38 = .ok (.iastore, 1) := by decide +kernel
theorem dX8_say_39 : decode cX8_say 39 = .ok (.aload_n 0, 1) := by decide +kernel
theorem dX8_say_40 : decode cX8_say 40 = .ok (.dup, 1) := by decide +kernel
theorem dX8_say_41 : decode cX8_say 41 = .ok (.getfield 107, 3) := by decide +kernel
theorem dX8_say_44 : decode cX8_say 44 = .ok (.iconst 1, 1) := by decide +kernel
theorem dX8_say_45 : decode cX8_say 45 = .ok (.iadd, 1) := by decide +kernel
theorem dX8_say_46 : decode cX8_say 46 = .ok (.putfield 107, 3) := by decide +kernel
theorem dX8_say_49 : decode cX8_say 49 = .ok (.aload_n 0, 1) := by decide +kernel
theorem dX8_say_50 : decode cX8_say 50 = .ok (.getfield 107, 3) := by decide +kernel
theorem dX8_say_53 : decode cX8_say 53 = .ok (.ireturn, 1) := by decide +kernel
theorem dX8_wipe_0 : decode cX8_wipe 0 = .ok (.aload_n 0, 1) := by decide +kernel
theorem dX8_wipe_1 : decode cX8_wipe 1 = .ok (.getfield 107, 3) := by decide +kernel
theorem dX8_wipe_4 : decode cX8_wipe 4 = .ok (.istore_n 1, 1) := by decide +kernel
theorem dX8_wipe_5 : decode cX8_wipe 5 = .ok (.aload_n 0, 1) := by decide +kernel
theorem dX8_wipe_6 : decode cX8_wipe 6 = .ok (.iconst 0, 1) := by decide +kernel
theorem dX8_wipe_7 : decode cX8_wipe 7 = .ok (.putfield 107, 3) := by decide +kernel
theorem dX8_wipe_10 : decode cX8_wipe 10 = .ok (.iload_n 1, 1) := by decide +kernel
theorem dX8_wipe_11 : decode cX8_wipe 11 = .ok (.ireturn, 1) := by decide +kernel
theorem dX8_ends_0 : decode cX8_ends 0 = .ok (.aload_n 0, 1) := by decide +kernel
theorem dX8_ends_1 : decode cX8_ends 1 = .ok (.dup, 1) := by decide +kernel
theorem dX8_ends_2 : decode cX8_ends 2 = .ok (.getfield 110, 3) := by decide +kernel
theorem dX8_ends_5 : decode cX8_ends 5 = .ok (.iconst 1, 1) := by decide +kernel
theorem dX8_ends_6 : decode cX8_ends 6 = .ok (.iadd, 1) := by decide +kernel
theorem dX8_ends_7 : decode cX8_ends 7 = .ok (.putfield 110, 3) := by decide +kernel
theorem dX8_ends_10 : decode cX8_ends 10 = .ok (.iconst 0, 1) := by decide +kernel
theorem dX8_ends_11 : decode cX8_ends 11 = .ok (.ireturn, 1) := by decide +kernel
theorem dX8_begin_0 : decode cX8_begin 0 = .ok (.aload_n 0, 1) := by decide +kernel
theorem dX8_begin_1 : decode cX8_begin 1 = .ok (.getfield 25, 3) := by decide +kernel
theorem dX8_begin_4 : decode cX8_begin 4 = .ok (.aload_n 0, 1) := by decide +kernel
theorem dX8_begin_5 : decode cX8_begin 5 = .ok (.getfield 110, 3) := by decide +kernel
theorem dX8_begin_8 : decode cX8_begin 8 = .ok (.iload_n 1, 1) := by decide +kernel
theorem dX8_begin_9 : decode cX8_begin 9 = .ok (.i2l, 1) := by decide +kernel
theorem dX8_begin_10 : decode cX8_begin 10 = .ok (.ldc2_w 113, 3) := by decide +kernel
theorem dX8_begin_13 : decode cX8_begin 13 = .ok (.ldc2_w 115, 3) := by decide +kernel
theorem dX8_begin_16 : decode cX8_begin 16 = .ok (.invokestatic 68, 3) := by decide +kernel
theorem dX8_begin_19 : decode cX8_begin 19 = .ok (.ifCond .eq 10, 3) := by decide +kernel
theorem dX8_begin_22 : decode cX8_begin 22 = .ok (.iload_n 1, 1) := by decide +kernel
theorem dX8_begin_23 : decode cX8_begin 23 = .ok (.bipush 65, 2) := by decide +kernel
theorem dX8_begin_25 : decode cX8_begin 25 = .ok (.isub, 1) := by decide +kernel
theorem dX8_begin_26 : decode cX8_begin 26 = .ok (.goto 4, 3) := by decide +kernel
theorem dX8_begin_29 : decode cX8_begin 29 = .ok (.iconst 0, 1) := by decide +kernel
theorem dX8_begin_30 : decode cX8_begin 30 = .ok (.iastore, 1) := by decide +kernel
theorem dX8_begin_31 : decode cX8_begin 31 = .ok (.aload_n 0, 1) := by decide +kernel
theorem dX8_begin_32 : decode cX8_begin 32 = .ok (.getfield 28, 3) := by decide +kernel
theorem dX8_begin_35 : decode cX8_begin 35 = .ok (.aload_n 0, 1) := by decide +kernel
theorem dX8_begin_36 : decode cX8_begin 36 = .ok (.getfield 110, 3) := by decide +kernel
theorem dX8_begin_39 : decode cX8_begin 39 = .ok (.iconst 0, 1) := by decide +kernel
theorem dX8_begin_40 : decode cX8_begin 40 = .ok (.iastore, 1) := by decide +kernel
theorem dX8_begin_41 : decode cX8_begin 41 = .ok (.aload_n 0, 1) := by decide +kernel
theorem dX8_begin_42 : decode cX8_begin 42 = .ok (.getfield 31, 3) := by decide +kernel
theorem dX8_begin_45 : decode cX8_begin 45 = .ok (.aload_n 0, 1) := by decide +kernel
theorem dX8_begin_46 : decode cX8_begin 46 = .ok (.getfield 110, 3) := by decide +kernel
theorem dX8_begin_49 : decode cX8_begin 49 = .ok (.iconst 0, 1) := by decide +kernel
theorem dX8_begin_50 : decode cX8_begin 50 = .ok (.iastore, 1) := by decide +kernel
theorem dX8_begin_51 : decode cX8_begin 51 = .ok (.aload_n 0, 1) := by decide +kernel
theorem dX8_begin_52 : decode cX8_begin 52 = .ok (.getfield 22, 3) := by decide +kernel
theorem dX8_begin_55 : decode cX8_begin 55 = .ok (.aload_n 0, 1) := by decide +kernel
theorem dX8_begin_56 : decode cX8_begin 56 = .ok (.getfield 110, 3) := by decide +kernel
theorem dX8_begin_59 : decode cX8_begin 59 = .ok (.bipush 7, 2) := by decide +kernel
theorem dX8_begin_61 : decode cX8_begin 61 = .ok (.iastore, 1) := by decide +kernel
theorem dX8_begin_62 : decode cX8_begin 62 = .ok (.iload_n 1, 1) := by decide +kernel
theorem dX8_begin_63 : decode cX8_begin 63 = .ok (.bipush 33, 2) := by decide +kernel
theorem dX8_begin_65 : decode cX8_begin 65 = .ok (.if_icmp .ne 10, 3) := by decide +kernel
theorem dX8_begin_68 : decode cX8_begin 68 = .ok (.aload_n 0, 1) := by decide +kernel
theorem dX8_begin_69 : decode cX8_begin 69 = .ok (.invokevirtual 117, 3) := by decide +kernel
theorem dX8_begin_72 : decode cX8_begin 72 = .ok (.goto 23, 3) := by decide +kernel
theorem dX8_begin_75 : decode cX8_begin 75 = .ok (.iload_n 1, 1) := by decide +kernel
theorem dX8_begin_76 : decode cX8_begin 76 = .ok (.i2l, 1) := by decide +kernel
theorem dX8_begin_77 : decode cX8_begin 77 = .ok (.ldc2_w 113, 3) := by decide +kernel
theorem dX8_begin_80 : decode cX8_begin 80 = .ok (.ldc2_w 115, 3) := by decide +kernel
theorem dX8_begin_83 : decode cX8_begin 83 = .ok (.invokestatic 68, 3) := by decide +kernel
theorem dX8_begin_86 : decode cX8_begin 86 = .ok (.ifCond .eq 7, 3) := by decide +kernel
theorem dX8_begin_89 : decode cX8_begin 89 = .ok (.iconst 1, 1) := by decide +kernel
theorem dX8_begin_90 : decode cX8_begin 90 = .ok (.goto 5, 3) := by decide +kernel
theorem dX8_begin_93 : decode cX8_begin 93 = .ok (.bipush (-6), 2) := by decide +kernel
theorem dX8_begin_95 : decode cX8_begin 95 = .ok (.ireturn, 1) := by decide +kernel
theorem dX8_deed_0 : decode cX8_deed 0 = .ok (.aload_n 0, 1) := by decide +kernel
theorem dX8_deed_1 : decode cX8_deed 1 = .ok (.getfield 22, 3) := by decide +kernel
theorem dX8_deed_4 : decode cX8_deed 4 = .ok (.aload_n 0, 1) := by decide +kernel
theorem dX8_deed_5 : decode cX8_deed 5 = .ok (.getfield 110, 3) := by decide +kernel
theorem dX8_deed_8 : decode cX8_deed 8 = .ok (.iload_n 1, 1) := by decide +kernel
theorem dX8_deed_9 : decode cX8_deed 9 = .ok (.iastore, 1) := by decide +kernel
theorem dX8_deed_10 : decode cX8_deed 10 = .ok (.iload_n 2, 1) := by decide +kernel
theorem dX8_deed_11 : decode cX8_deed 11 = .ok (.ireturn, 1) := by decide +kernel
theorem dX8_begun_0 : decode cX8_begun 0 = .ok (.iload_n 1, 1) := by decide +kernel
theorem dX8_begun_1 : decode cX8_begun 1 = .ok (.lookupswitch 117 #[(38, 88), (43, 67), (45, 74), (47, 81), (61, 95), (124, 102), (126, 109)], 67) := by decide +kernel
theorem dX8_begun_68 : decode cX8_begun 68 = .ok (.aload_n 0, 1) := by decide +kernel
theorem dX8_begun_69 : decode cX8_begun 69 = .ok (.iconst 0, 1) := by decide +kernel
theorem dX8_begun_70 : decode cX8_begun 70 = .ok (.iconst 2, 1) := by decide +kernel
theorem dX8_begun_71 : decode cX8_begun 71 = .ok (.invokevirtual 121, 3) := by decide +kernel
theorem dX8_begun_74 : decode cX8_begun 74 = .ok (.ireturn, 1) := by decide +kernel
theorem dX8_begun_75 : decode cX8_begun 75 = .ok (.aload_n 0, 1) := by decide +kernel
theorem dX8_begun_76 : decode cX8_begun 76 = .ok (.iconst 1, 1) := by decide +kernel
theorem dX8_begun_77 : decode cX8_begun 77 = .ok (.iconst 2, 1) := by decide +kernel
theorem dX8_begun_78 : decode cX8_begun 78 = .ok (.invokevirtual 121, 3) := by decide +kernel
theorem dX8_begun_81 : decode cX8_begun 81 = .ok (.ireturn, 1) := by decide +kernel
theorem dX8_begun_82 : decode cX8_begun 82 = .ok (.aload_n 0, 1) := by decide +kernel
theorem dX8_begun_83 : decode cX8_begun 83 = .ok (.iconst 2, 1) := by decide +kernel
theorem dX8_begun_84 : decode cX8_begun 84 = .ok (.iconst 2, 1) := by decide +kernel
theorem dX8_begun_85 : decode cX8_begun 85 = .ok (.invokevirtual 121, 3) := by decide +kernel
theorem dX8_begun_88 : decode cX8_begun 88 = .ok (.ireturn, 1) := by decide +kernel
theorem dX8_begun_89 : decode cX8_begun 89 = .ok (.aload_n 0, 1) := by decide +kernel
theorem dX8_begun_90 : decode cX8_begun 90 = .ok (.iconst 3, 1) := by decide +kernel
theorem dX8_begun_91 : decode cX8_begun 91 = .ok (.iconst 4, 1) := by decide +kernel
theorem dX8_begun_92 : decode cX8_begun 92 = .ok (.invokevirtual 121, 3) := by decide +kernel
theorem dX8_begun_95 : decode cX8_begun 95 = .ok (.ireturn, 1) := by decide +kernel
theorem dX8_begun_96 : decode cX8_begun 96 = .ok (.aload_n 0, 1) := by decide +kernel
theorem dX8_begun_97 : decode cX8_begun 97 = .ok (.iconst 4, 1) := by decide +kernel
theorem dX8_begun_98 : decode cX8_begun 98 = .ok (.iconst 4, 1) := by decide +kernel
theorem dX8_begun_99 : decode cX8_begun 99 = .ok (.invokevirtual 121, 3) := by decide +kernel
theorem dX8_begun_102 : decode cX8_begun 102 = .ok (.ireturn, 1) := by decide +kernel
theorem dX8_begun_103 : decode cX8_begun 103 = .ok (.aload_n 0, 1) := by decide +kernel
theorem dX8_begun_104 : decode cX8_begun 104 = .ok (.iconst 5, 1) := by decide +kernel
theorem dX8_begun_105 : decode cX8_begun 105 = .ok (.iconst 4, 1) := by decide +kernel
theorem dX8_begun_106 : decode cX8_begun 106 = .ok (.invokevirtual 121, 3) := by decide +kernel
theorem dX8_begun_109 : decode cX8_begun 109 = .ok (.ireturn, 1) := by decide +kernel
theorem dX8_begun_110 : decode cX8_begun 110 = .ok (.aload_n 0, 1) := by decide +kernel
theorem dX8_begun_111 : decode cX8_begun 111 = .ok (.bipush 6, 2) := by decide +kernel
theorem dX8_begun_113 : decode cX8_begun 113 = .ok (.iconst 4, 1) := by decide +kernel
theorem dX8_begun_114 : decode cX8_begun 114 = .ok (.invokevirtual 121, 3) := by decide +kernel
theorem dX8_begun_117 : decode cX8_begun 117 = .ok (.ireturn, 1) := by decide +kernel
theorem dX8_begun_118 : decode cX8_begun 118 = .ok (.bipush (-6), 2) := by decide +kernel
theorem dX8_begun_120 : decode cX8_begun 120 = .ok (.ireturn, 1) := by decide +kernel
theorem dX8_figure_0 : decode cX8_figure 0 = .ok (.aload_n 0, 1) := by decide +kernel
theorem dX8_figure_1 : decode cX8_figure 1 = .ok (.getfield 28, 3) := by decide +kernel
theorem dX8_figure_4 : decode cX8_figure 4 = .ok (.aload_n 0, 1) := by decide +kernel
theorem dX8_figure_5 : decode cX8_figure 5 = .ok (.getfield 110, 3) := by decide +kernel
theorem dX8_figure_8 : decode cX8_figure 8 = .ok (.bipush 10, 2) := by decide +kernel
theorem dX8_figure_10 : decode cX8_figure 10 = .ok (.aload_n 0, 1) := by decide +kernel
theorem dX8_figure_11 : decode cX8_figure 11 = .ok (.getfield 28, 3) := by decide +kernel
theorem dX8_figure_14 : decode cX8_figure 14 = .ok (.aload_n 0, 1) := by decide +kernel
theorem dX8_figure_15 : decode cX8_figure 15 = .ok (.getfield 110, 3) := by decide +kernel
theorem dX8_figure_18 : decode cX8_figure 18 = .ok (.iaload, 1) := by decide +kernel
theorem dX8_figure_19 : decode cX8_figure 19 = .ok (.imul, 1) := by decide +kernel
theorem dX8_figure_20 : decode cX8_figure 20 = .ok (.iload_n 1, 1) := by decide +kernel
theorem dX8_figure_21 : decode cX8_figure 21 = .ok (.iadd, 1) := by decide +kernel
theorem dX8_figure_22 : decode cX8_figure 22 = .ok (.bipush 48, 2) := by decide +kernel
theorem dX8_figure_24 : decode cX8_figure 24 = .ok (.isub, 1) := by decide +kernel
theorem dX8_figure_25 : decode cX8_figure 25 = .ok (.iastore, 1) := by decide +kernel
theorem dX8_figure_26 : decode cX8_figure 26 = .ok (.iload_n 1, 1) := by decide +kernel
theorem dX8_figure_27 : decode cX8_figure 27 = .ok (.i2l, 1) := by decide +kernel
theorem dX8_figure_28 : decode cX8_figure 28 = .ok (.ldc2_w 124, 3) := by decide +kernel
theorem dX8_figure_31 : decode cX8_figure 31 = .ok (.iload_n 2, 1) := by decide +kernel
theorem dX8_figure_32 : decode cX8_figure 32 = .ok (.iconst 2, 1) := by decide +kernel
theorem dX8_figure_33 : decode cX8_figure 33 = .ok (.if_icmp .ne 9, 3) := by decide +kernel
theorem dX8_figure_36 : decode cX8_figure 36 = .ok (.ldc2_w 126, 3) := by decide +kernel
theorem dX8_figure_39 : decode cX8_figure 39 = .ok (.goto 6, 3) := by decide +kernel
theorem dX8_figure_42 : decode cX8_figure 42 = .ok (.ldc2_w 128, 3) := by decide +kernel
theorem dX8_figure_45 : decode cX8_figure 45 = .ok (.invokestatic 68, 3) := by decide +kernel
theorem dX8_figure_48 : decode cX8_figure 48 = .ok (.istore_n 3, 1) := by decide +kernel
theorem dX8_figure_49 : decode cX8_figure 49 = .ok (.iload_n 3, 1) := by decide +kernel
theorem dX8_figure_50 : decode cX8_figure 50 = .ok (.ifCond .ne 8, 3) := by decide +kernel
theorem dX8_figure_53 : decode cX8_figure 53 = .ok (.bipush (-6), 2) := by decide +kernel
theorem dX8_figure_55 : decode cX8_figure 55 = .ok (.goto 33, 3) := by decide +kernel
theorem dX8_figure_58 : decode cX8_figure 58 = .ok (.iload_n 2, 1) := by decide +kernel
theorem dX8_figure_59 : decode cX8_figure 59 = .ok (.iconst 2, 1) := by decide +kernel
theorem dX8_figure_60 : decode cX8_figure 60 = .ok (.if_icmp .ne 7, 3) := by decide +kernel
theorem dX8_figure_63 : decode cX8_figure 63 = .ok (.iconst 3, 1) := by decide +kernel
theorem dX8_figure_64 : decode cX8_figure 64 = .ok (.goto 24, 3) := by decide +kernel
theorem dX8_figure_67 : decode cX8_figure 67 = .ok (.aload_n 0, 1) := by decide +kernel
theorem dX8_figure_68 : decode cX8_figure 68 = .ok (.getfield 22, 3) := by decide +kernel
theorem dX8_figure_71 : decode cX8_figure 71 = .ok (.aload_n 0, 1) := by decide +kernel
theorem dX8_figure_72 : decode cX8_figure 72 = .ok (.getfield 110, 3) := by decide +kernel
theorem dX8_figure_75 : decode cX8_figure 75 = .ok (.iaload, 1) := by decide +kernel
theorem dX8_figure_76 : decode cX8_figure 76 = .ok (.iconst 2, 1) := by decide +kernel
theorem dX8_figure_77 : decode cX8_figure 77 = .ok (.if_icmp .ne 7, 3) := by decide +kernel
theorem dX8_figure_80 : decode cX8_figure 80 = .ok (.iconst 4, 1) := by decide +kernel
theorem dX8_figure_81 : decode cX8_figure 81 = .ok (.goto 7, 3) := by decide +kernel
theorem dX8_figure_84 : decode cX8_figure 84 = .ok (.aload_n 0, 1) := by decide +kernel
theorem dX8_figure_85 : decode cX8_figure 85 = .ok (.invokevirtual 117, 3) := by decide +kernel
theorem dX8_figure_88 : decode cX8_figure 88 = .ok (.ireturn, 1) := by decide +kernel
theorem dX8_another_0 : decode cX8_another 0 = .ok (.aload_n 0, 1) := by decide +kernel
theorem dX8_another_1 : decode cX8_another 1 = .ok (.getfield 31, 3) := by decide +kernel
theorem dX8_another_4 : decode cX8_another 4 = .ok (.aload_n 0, 1) := by decide +kernel
theorem dX8_another_5 : decode cX8_another 5 = .ok (.getfield 110, 3) := by decide +kernel
theorem dX8_another_8 : decode cX8_another 8 = .ok (.iload_n 1, 1) := by decide +kernel
theorem dX8_another_9 : decode cX8_another 9 = .ok (.bipush 65, 2) := by decide +kernel
theorem dX8_another_11 : decode cX8_another 11 = .ok (.isub, 1) := by decide +kernel
theorem dX8_another_12 : decode cX8_another 12 = .ok (.iastore, 1) := by decide +kernel
theorem dX8_another_13 : decode cX8_another 13 = .ok (.iload_n 1, 1) := by decide +kernel
theorem dX8_another_14 : decode cX8_another 14 = .ok (.i2l, 1) := by decide +kernel
theorem dX8_another_15 : decode cX8_another 15 = .ok (.ldc2_w 113, 3) := by decide +kernel
theorem dX8_another_18 : decode cX8_another 18 = .ok (.ldc2_w 115, 3) := by decide +kernel
theorem dX8_another_21 : decode cX8_another 21 = .ok (.invokestatic 68, 3) := by decide +kernel
theorem dX8_another_24 : decode cX8_another 24 = .ok (.ifCond .eq 10, 3) := by decide +kernel
theorem dX8_another_27 : decode cX8_another 27 = .ok (.aload_n 0, 1) := by decide +kernel
theorem dX8_another_28 : decode cX8_another 28 = .ok (.invokevirtual 117, 3) := by decide +kernel
theorem dX8_another_31 : decode cX8_another 31 = .ok (.goto 5, 3) := by decide +kernel
theorem dX8_another_34 : decode cX8_another 34 = .ok (.bipush (-6), 2) := by decide +kernel
theorem dX8_another_36 : decode cX8_another 36 = .ok (.ireturn, 1) := by decide +kernel
theorem dX8_readOn_0 : decode cX8_readOn 0 = .ok (.iload_n 1, 1) := by decide +kernel
theorem dX8_readOn_1 : decode cX8_readOn 1 = .ok (.ifCond .ne 11, 3) := by decide +kernel
theorem dX8_readOn_4 : decode cX8_readOn 4 = .ok (.aload_n 0, 1) := by decide +kernel
theorem dX8_readOn_5 : decode cX8_readOn 5 = .ok (.iload_n 2, 1) := by decide +kernel
theorem dX8_readOn_6 : decode cX8_readOn 6 = .ok (.invokevirtual 130, 3) := by decide +kernel
theorem dX8_readOn_9 : decode cX8_readOn 9 = .ok (.goto 35, 3) := by decide +kernel
theorem dX8_readOn_12 : decode cX8_readOn 12 = .ok (.iload_n 1, 1) := by decide +kernel
theorem dX8_readOn_13 : decode cX8_readOn 13 = .ok (.iconst 1, 1) := by decide +kernel
theorem dX8_readOn_14 : decode cX8_readOn 14 = .ok (.if_icmp .ne 11, 3) := by decide +kernel
theorem dX8_readOn_17 : decode cX8_readOn 17 = .ok (.aload_n 0, 1) := by decide +kernel
theorem dX8_readOn_18 : decode cX8_readOn 18 = .ok (.iload_n 2, 1) := by decide +kernel
theorem dX8_readOn_19 : decode cX8_readOn 19 = .ok (.invokevirtual 133, 3) := by decide +kernel
theorem dX8_readOn_22 : decode cX8_readOn 22 = .ok (.goto 22, 3) := by decide +kernel
theorem dX8_readOn_25 : decode cX8_readOn 25 = .ok (.iload_n 1, 1) := by decide +kernel
theorem dX8_readOn_26 : decode cX8_readOn 26 = .ok (.iconst 4, 1) := by decide +kernel
theorem dX8_readOn_27 : decode cX8_readOn 27 = .ok (.if_icmp .ne 11, 3) := by decide +kernel
theorem dX8_readOn_30 : decode cX8_readOn 30 = .ok (.aload_n 0, 1) := by decide +kernel
theorem dX8_readOn_31 : decode cX8_readOn 31 = .ok (.iload_n 2, 1) := by decide +kernel
theorem dX8_readOn_32 : decode cX8_readOn 32 = .ok (.invokevirtual 136, 3) := by decide +kernel
theorem dX8_readOn_35 : decode cX8_readOn 35 = .ok (.goto 9, 3) := by decide +kernel
theorem dX8_readOn_38 : decode cX8_readOn 38 = .ok (.aload_n 0, 1) := by decide +kernel
theorem dX8_readOn_39 : decode cX8_readOn 39 = .ok (.iload_n 2, 1) := by decide +kernel
theorem dX8_readOn_40 : decode cX8_readOn 40 = .ok (.iload_n 1, 1) := by decide +kernel
theorem dX8_readOn_41 : decode cX8_readOn 41 = .ok (.invokevirtual 139, 3) := by decide +kernel
theorem dX8_readOn_44 : decode cX8_readOn 44 = .ok (.ireturn, 1) := by decide +kernel
theorem dX8_fault_0 : decode cX8_fault 0 = .ok (.aload_n 0, 1) := by decide +kernel
theorem dX8_fault_1 : decode cX8_fault 1 = .ok (.iconst 0, 1) := by decide +kernel
theorem dX8_fault_2 : decode cX8_fault 2 = .ok (.putfield 110, 3) := by decide +kernel
theorem dX8_fault_5 : decode cX8_fault 5 = .ok (.iconst 0, 1) := by decide +kernel
theorem dX8_fault_6 : decode cX8_fault 6 = .ok (.istore_n 1, 1) := by decide +kernel
theorem dX8_fault_7 : decode cX8_fault 7 = .ok (.iconst 0, 1) := by decide +kernel
theorem dX8_fault_8 : decode cX8_fault 8 = .ok (.istore_n 2, 1) := by decide +kernel
theorem dX8_fault_9 : decode cX8_fault 9 = .ok (.iload_n 2, 1) := by decide +kernel
theorem dX8_fault_10 : decode cX8_fault 10 = .ok (.aload_n 0, 1) := by decide +kernel
theorem dX8_fault_11 : decode cX8_fault 11 = .ok (.getfield 107, 3) := by decide +kernel
theorem dX8_fault_14 : decode cX8_fault 14 = .ok (.if_icmp .ge 27, 3) := by decide +kernel
theorem dX8_fault_17 : decode cX8_fault 17 = .ok (.aload_n 0, 1) := by decide +kernel
theorem dX8_fault_18 : decode cX8_fault 18 = .ok (.iload_n 1, 1) := by decide +kernel
theorem dX8_fault_19 : decode cX8_fault 19 = .ok (.aload_n 0, 1) := by decide +kernel
theorem dX8_fault_20 : decode cX8_fault 20 = .ok (.getfield 19, 3) := by decide +kernel
theorem dX8_fault_23 : decode cX8_fault 23 = .ok (.iload_n 2, 1) := by decide +kernel
theorem dX8_fault_24 : decode cX8_fault 24 = .ok (.iaload, 1) := by decide +kernel
theorem dX8_fault_25 : decode cX8_fault 25 = .ok (.invokevirtual 142, 3) := by decide +kernel
theorem dX8_fault_28 : decode cX8_fault 28 = .ok (.istore_n 1, 1) := by decide +kernel
theorem dX8_fault_29 : decode cX8_fault 29 = .ok (.iload_n 1, 1) := by decide +kernel
theorem dX8_fault_30 : decode cX8_fault 30 = .ok (.ifCond .ge 5, 3) := by decide +kernel
theorem dX8_fault_33 : decode cX8_fault 33 = .ok (.iload_n 2, 1) := by decide +kernel
theorem dX8_fault_34 : decode cX8_fault 34 = .ok (.ireturn, 1) := by decide +kernel
theorem dX8_fault_35 : decode cX8_fault 35 = .ok (.iinc 2 1, 3) := by decide +kernel
theorem dX8_fault_38 : decode cX8_fault 38 = .ok (.goto (-29), 3) := by decide +kernel
theorem dX8_fault_41 : decode cX8_fault 41 = .ok (.iload_n 1, 1) := by decide +kernel
theorem dX8_fault_42 : decode cX8_fault 42 = .ok (.ifCond .ne 8, 3) := by decide +kernel
theorem dX8_fault_45 : decode cX8_fault 45 = .ok (.bipush (-6), 2) := by decide +kernel
theorem dX8_fault_47 : decode cX8_fault 47 = .ok (.goto 7, 3) := by decide +kernel
theorem dX8_fault_50 : decode cX8_fault 50 = .ok (.aload_n 0, 1) := by decide +kernel
theorem dX8_fault_51 : decode cX8_fault 51 = .ok (.getfield 107, 3) := by decide +kernel
theorem dX8_fault_54 : decode cX8_fault 54 = .ok (.ireturn, 1) := by decide +kernel
theorem dX8_ofBoth_0 : decode cX8_ofBoth 0 = .ok (.iconst 0, 1) := by decide +kernel
theorem dX8_ofBoth_1 : decode cX8_ofBoth 1 = .ok (.istore_n 3, 1) := by decide +kernel
theorem dX8_ofBoth_2 : decode cX8_ofBoth 2 = .ok (.iconst 0, 1) := by decide +kernel
theorem dX8_ofBoth_3 : decode cX8_ofBoth 3 = .ok (.istore 4, 2) := by decide +kernel
theorem dX8_ofBoth_5 : decode cX8_ofBoth 5 = .ok (.iload 4, 2) := by decide +kernel
theorem dX8_ofBoth_7 : decode cX8_ofBoth 7 = .ok (.bipush 50, 2) := by decide +kernel
theorem dX8_ofBoth_9 : decode cX8_ofBoth 9 = .ok (.if_icmp .ge 37, 3) := by decide +kernel
theorem dX8_ofBoth_12 : decode cX8_ofBoth 12 = .ok (.iload_n 3, 1) := by decide +kernel
theorem dX8_ofBoth_13 : decode cX8_ofBoth 13 = .ok (.aload_n 0, 1) := by decide +kernel
theorem dX8_ofBoth_14 : decode cX8_ofBoth 14 = .ok (.iload_n 1, 1) := by decide +kernel
theorem dX8_ofBoth_15 : decode cX8_ofBoth 15 = .ok (.iload 4, 2) := by decide +kernel
theorem dX8_ofBoth_17 : decode cX8_ofBoth 17 = .ok (.invokevirtual 95, 3) := by decide +kernel
theorem dX8_ofBoth_20 : decode cX8_ofBoth 20 = .ok (.ifCond .ne 13, 3) := by decide +kernel
theorem dX8_ofBoth_23 : decode cX8_ofBoth 23 = .ok (.aload_n 0, 1) := by decide +kernel
theorem dX8_ofBoth_24 : decode cX8_ofBoth 24 = .ok (.iload_n 2, 1) := by decide +kernel
theorem dX8_ofBoth_25 : decode cX8_ofBoth 25 = .ok (.iload 4, 2) := by decide +kernel
theorem dX8_ofBoth_27 : decode cX8_ofBoth 27 = .ok (.invokevirtual 95, 3) := by decide +kernel
theorem dX8_ofBoth_30 : decode cX8_ofBoth 30 = .ok (.ifCond .eq 7, 3) := by decide +kernel
theorem dX8_ofBoth_33 : decode cX8_ofBoth 33 = .ok (.iconst 1, 1) := by decide +kernel
theorem dX8_ofBoth_34 : decode cX8_ofBoth 34 = .ok (.goto 4, 3) := by decide +kernel
theorem dX8_ofBoth_37 : decode cX8_ofBoth 37 = .ok (.iconst 0, 1) := by decide +kernel
theorem dX8_ofBoth_38 : decode cX8_ofBoth 38 = .ok (.iadd, 1) := by decide +kernel
theorem dX8_ofBoth_39 : decode cX8_ofBoth 39 = .ok (.istore_n 3, 1) := by decide +kernel
theorem dX8_ofBoth_40 : decode cX8_ofBoth 40 = .ok (.iinc 4 1, 3) := by decide +kernel
theorem dX8_ofBoth_43 : decode cX8_ofBoth 43 = .ok (.goto (-38), 3) := by decide +kernel
theorem dX8_ofBoth_46 : decode cX8_ofBoth 46 = .ok (.iload_n 3, 1) := by decide +kernel
theorem dX8_ofBoth_47 : decode cX8_ofBoth 47 = .ok (.ireturn, 1) := by decide +kernel
theorem dX8_isBeyond_0 : decode cX8_isBeyond 0 = .ok (.bipush (-6), 2) := by decide +kernel
theorem dX8_isBeyond_2 : decode cX8_isBeyond 2 = .ok (.istore_n 3, 1) := by decide +kernel
theorem dX8_isBeyond_3 : decode cX8_isBeyond 3 = .ok (.iconst 0, 1) := by decide +kernel
theorem dX8_isBeyond_4 : decode cX8_isBeyond 4 = .ok (.istore 4, 2) := by decide +kernel
theorem dX8_isBeyond_6 : decode cX8_isBeyond 6 = .ok (.iload 4, 2) := by decide +kernel
theorem dX8_isBeyond_8 : decode cX8_isBeyond 8 = .ok (.bipush 50, 2) := by decide +kernel
theorem dX8_isBeyond_10 : decode cX8_isBeyond 10 = .ok (.if_icmp .ge 26, 3) := by decide +kernel
theorem dX8_isBeyond_13 : decode cX8_isBeyond 13 = .ok (.aload_n 0, 1) := by decide +kernel
theorem dX8_isBeyond_14 : decode cX8_isBeyond 14 = .ok (.iload_n 1, 1) := by decide +kernel
theorem dX8_isBeyond_15 : decode cX8_isBeyond 15 = .ok (.iload 4, 2) := by decide +kernel
theorem dX8_isBeyond_17 : decode cX8_isBeyond 17 = .ok (.invokevirtual 95, 3) := by decide +kernel
theorem dX8_isBeyond_20 : decode cX8_isBeyond 20 = .ok (.ifCond .eq 8, 3) := by decide +kernel
theorem dX8_isBeyond_23 : decode cX8_isBeyond 23 = .ok (.iload 4, 2) := by decide +kernel
theorem dX8_isBeyond_25 : decode cX8_isBeyond 25 = .ok (.goto 4, 3) := by decide +kernel
theorem dX8_isBeyond_28 : decode cX8_isBeyond 28 = .ok (.iload_n 3, 1) := by decide +kernel
theorem dX8_isBeyond_29 : decode cX8_isBeyond 29 = .ok (.istore_n 3, 1) := by decide +kernel
theorem dX8_isBeyond_30 : decode cX8_isBeyond 30 = .ok (.iinc 4 1, 3) := by decide +kernel
theorem dX8_isBeyond_33 : decode cX8_isBeyond 33 = .ok (.goto (-27), 3) := by decide +kernel
theorem dX8_isBeyond_36 : decode cX8_isBeyond 36 = .ok (.iconst 1, 1) := by decide +kernel
theorem dX8_isBeyond_37 : decode cX8_isBeyond 37 = .ok (.istore 4, 2) := by decide +kernel
theorem dX8_isBeyond_39 : decode cX8_isBeyond 39 = .ok (.iconst 0, 1) := by decide +kernel
theorem dX8_isBeyond_40 : decode cX8_isBeyond 40 = .ok (.istore 5, 2) := by decide +kernel
theorem dX8_isBeyond_42 : decode cX8_isBeyond 42 = .ok (.iload 5, 2) := by decide +kernel
theorem dX8_isBeyond_44 : decode cX8_isBeyond 44 = .ok (.bipush 50, 2) := by decide +kernel
theorem dX8_isBeyond_46 : decode cX8_isBeyond 46 = .ok (.if_icmp .ge 37, 3) := by decide +kernel
theorem dX8_isBeyond_49 : decode cX8_isBeyond 49 = .ok (.iload 4, 2) := by decide +kernel
theorem dX8_isBeyond_51 : decode cX8_isBeyond 51 = .ok (.ifCond .eq 23, 3) := by decide +kernel
theorem dX8_isBeyond_54 : decode cX8_isBeyond 54 = .ok (.aload_n 0, 1) := by decide +kernel
theorem dX8_isBeyond_55 : decode cX8_isBeyond 55 = .ok (.iload_n 2, 1) := by decide +kernel
theorem dX8_isBeyond_56 : decode cX8_isBeyond 56 = .ok (.iload 5, 2) := by decide +kernel
theorem dX8_isBeyond_58 : decode cX8_isBeyond 58 = .ok (.invokevirtual 95, 3) := by decide +kernel
theorem dX8_isBeyond_61 : decode cX8_isBeyond 61 = .ok (.ifCond .eq 9, 3) := by decide +kernel
theorem dX8_isBeyond_64 : decode cX8_isBeyond 64 = .ok (.iload 5, 2) := by decide +kernel
theorem dX8_isBeyond_66 : decode cX8_isBeyond 66 = .ok (.iload_n 3, 1) := by decide +kernel
theorem dX8_isBeyond_67 : decode cX8_isBeyond 67 = .ok (.if_icmp .le 7, 3) := by decide +kernel
theorem dX8_isBeyond_70 : decode cX8_isBeyond 70 = .ok (.iconst 1, 1) := by decide +kernel
theorem dX8_isBeyond_71 : decode cX8_isBeyond 71 = .ok (.goto 4, 3) := by decide +kernel
theorem dX8_isBeyond_74 : decode cX8_isBeyond 74 = .ok (.iconst 0, 1) := by decide +kernel
theorem dX8_isBeyond_75 : decode cX8_isBeyond 75 = .ok (.istore 4, 2) := by decide +kernel
theorem dX8_isBeyond_77 : decode cX8_isBeyond 77 = .ok (.iinc 5 1, 3) := by decide +kernel
theorem dX8_isBeyond_80 : decode cX8_isBeyond 80 = .ok (.goto (-38), 3) := by decide +kernel
theorem dX8_isBeyond_83 : decode cX8_isBeyond 83 = .ok (.iload 4, 2) := by decide +kernel
theorem dX8_isBeyond_85 : decode cX8_isBeyond 85 = .ok (.ireturn, 1) := by decide +kernel
theorem dX8_whyNoKey_0 : decode cX8_whyNoKey 0 = .ok (.aload_n 0, 1) := by decide +kernel
theorem dX8_whyNoKey_1 : decode cX8_whyNoKey 1 = .ok (.iload_n 2, 1) := by decide +kernel
theorem dX8_whyNoKey_2 : decode cX8_whyNoKey 2 = .ok (.iload_n 3, 1) := by decide +kernel
theorem dX8_whyNoKey_3 : decode cX8_whyNoKey 3 = .ok (.invokevirtual 95, 3) := by decide +kernel
theorem dX8_whyNoKey_6 : decode cX8_whyNoKey 6 = .ok (.iload_n 1, 1) := by decide +kernel
theorem dX8_whyNoKey_7 : decode cX8_whyNoKey 7 = .ok (.iconst 1, 1) := by decide +kernel
theorem dX8_whyNoKey_8 : decode cX8_whyNoKey 8 = .ok (.if_icmp .ne 7, 3) := by decide +kernel
theorem dX8_whyNoKey_11 : decode cX8_whyNoKey 11 = .ok (.iconst 1, 1) := by decide +kernel
theorem dX8_whyNoKey_12 : decode cX8_whyNoKey 12 = .ok (.goto 4, 3) := by decide +kernel
theorem dX8_whyNoKey_15 : decode cX8_whyNoKey 15 = .ok (.iconst 0, 1) := by decide +kernel
theorem dX8_whyNoKey_16 : decode cX8_whyNoKey 16 = .ok (.if_icmp .eq 5, 3) := by decide +kernel
theorem dX8_whyNoKey_19 : decode cX8_whyNoKey 19 = .ok (.iconst 2, 1) := by decide +kernel
theorem dX8_whyNoKey_20 : decode cX8_whyNoKey 20 = .ok (.ireturn, 1) := by decide +kernel
theorem dX8_whyNoKey_21 : decode cX8_whyNoKey 21 = .ok (.iload_n 1, 1) := by decide +kernel
theorem dX8_whyNoKey_22 : decode cX8_whyNoKey 22 = .ok (.ifCond .ne 17, 3) := by decide +kernel
theorem dX8_whyNoKey_25 : decode cX8_whyNoKey 25 = .ok (.aload_n 0, 1) := by decide +kernel
theorem dX8_whyNoKey_26 : decode cX8_whyNoKey 26 = .ok (.iload_n 2, 1) := by decide +kernel
theorem dX8_whyNoKey_27 : decode cX8_whyNoKey 27 = .ok (.invokevirtual 99, 3) := by decide +kernel
theorem dX8_whyNoKey_30 : decode cX8_whyNoKey 30 = .ok (.bipush 40, 2) := by decide +kernel
theorem dX8_whyNoKey_32 : decode cX8_whyNoKey 32 = .ok (.if_icmp .ne 7, 3) := by decide +kernel
theorem dX8_whyNoKey_35 : decode cX8_whyNoKey 35 = .ok (.iconst 3, 1) := by decide +kernel
theorem dX8_whyNoKey_36 : decode cX8_whyNoKey 36 = .ok (.goto 4, 3) := by decide +kernel
theorem dX8_whyNoKey_39 : decode cX8_whyNoKey 39 = .ok (.iconst 0, 1) := by decide +kernel
theorem dX8_whyNoKey_40 : decode cX8_whyNoKey 40 = .ok (.ireturn, 1) := by decide +kernel
theorem dX8_whyNoJoin_0 : decode cX8_whyNoJoin 0 = .ok (.aload_n 0, 1) := by decide +kernel
theorem dX8_whyNoJoin_1 : decode cX8_whyNoJoin 1 = .ok (.iload_n 1, 1) := by decide +kernel
theorem dX8_whyNoJoin_2 : decode cX8_whyNoJoin 2 = .ok (.invokevirtual 99, 3) := by decide +kernel
theorem dX8_whyNoJoin_5 : decode cX8_whyNoJoin 5 = .ok (.aload_n 0, 1) := by decide +kernel
theorem dX8_whyNoJoin_6 : decode cX8_whyNoJoin 6 = .ok (.iload_n 2, 1) := by decide +kernel
theorem dX8_whyNoJoin_7 : decode cX8_whyNoJoin 7 = .ok (.invokevirtual 99, 3) := by decide +kernel
theorem dX8_whyNoJoin_10 : decode cX8_whyNoJoin 10 = .ok (.iadd, 1) := by decide +kernel
theorem dX8_whyNoJoin_11 : decode cX8_whyNoJoin 11 = .ok (.bipush 40, 2) := by decide +kernel
theorem dX8_whyNoJoin_13 : decode cX8_whyNoJoin 13 = .ok (.if_icmp .le 18, 3) := by decide +kernel
theorem dX8_whyNoJoin_16 : decode cX8_whyNoJoin 16 = .ok (.aload_n 0, 1) := by decide +kernel
theorem dX8_whyNoJoin_17 : decode cX8_whyNoJoin 17 = .ok (.iload_n 1, 1) := by decide +kernel
theorem dX8_whyNoJoin_18 : decode cX8_whyNoJoin 18 = .ok (.iload_n 2, 1) := by decide +kernel
theorem dX8_whyNoJoin_19 : decode cX8_whyNoJoin 19 = .ok (.invokevirtual 145, 3) := by decide +kernel
theorem dX8_whyNoJoin_22 : decode cX8_whyNoJoin 22 = .ok (.bipush 40, 2) := by decide +kernel
theorem dX8_whyNoJoin_24 : decode cX8_whyNoJoin 24 = .ok (.if_icmp .le 7, 3) := by decide +kernel
theorem dX8_whyNoJoin_27 : decode cX8_whyNoJoin 27 = .ok (.iconst 3, 1) := by decide +kernel
theorem dX8_whyNoJoin_28 : decode cX8_whyNoJoin 28 = .ok (.goto 17, 3) := by decide +kernel
theorem dX8_whyNoJoin_31 : decode cX8_whyNoJoin 31 = .ok (.aload_n 0, 1) := by decide +kernel
theorem dX8_whyNoJoin_32 : decode cX8_whyNoJoin 32 = .ok (.iload_n 1, 1) := by decide +kernel
theorem dX8_whyNoJoin_33 : decode cX8_whyNoJoin 33 = .ok (.iload_n 2, 1) := by decide +kernel
theorem dX8_whyNoJoin_34 : decode cX8_whyNoJoin 34 = .ok (.invokevirtual 148, 3) := by decide +kernel
theorem dX8_whyNoJoin_37 : decode cX8_whyNoJoin 37 = .ok (.ifCond .eq 7, 3) := by decide +kernel
theorem dX8_whyNoJoin_40 : decode cX8_whyNoJoin 40 = .ok (.iconst 0, 1) := by decide +kernel
theorem dX8_whyNoJoin_41 : decode cX8_whyNoJoin 41 = .ok (.goto 4, 3) := by decide +kernel
theorem dX8_whyNoJoin_44 : decode cX8_whyNoJoin 44 = .ok (.iconst 5, 1) := by decide +kernel
theorem dX8_whyNoJoin_45 : decode cX8_whyNoJoin 45 = .ok (.ireturn, 1) := by decide +kernel
theorem dX8_whyNot_0 : decode cX8_whyNot 0 = .ok (.iload_n 1, 1) := by decide +kernel
theorem dX8_whyNot_1 : decode cX8_whyNot 1 = .ok (.bipush 7, 2) := by decide +kernel
theorem dX8_whyNot_3 : decode cX8_whyNot 3 = .ok (.if_icmp .ne 20, 3) := by decide +kernel
theorem dX8_whyNot_6 : decode cX8_whyNot 6 = .ok (.aload_n 0, 1) := by decide +kernel
theorem dX8_whyNot_7 : decode cX8_whyNot 7 = .ok (.getfield 78, 3) := by decide +kernel
theorem dX8_whyNot_10 : decode cX8_whyNot 10 = .ok (.sipush 9999, 3) := by decide +kernel
theorem dX8_whyNot_13 : decode cX8_whyNot 13 = .ok (.if_icmp .ne 8, 3) := by decide +kernel
theorem dX8_whyNot_16 : decode cX8_whyNot 16 = .ok (.bipush 6, 2) := by decide +kernel
theorem dX8_whyNot_18 : decode cX8_whyNot 18 = .ok (.goto 4, 3) := by decide +kernel
theorem dX8_whyNot_21 : decode cX8_whyNot 21 = .ok (.iconst 0, 1) := by decide +kernel
theorem dX8_whyNot_22 : decode cX8_whyNot 22 = .ok (.ireturn, 1) := by decide +kernel
theorem dX8_whyNot_23 : decode cX8_whyNot 23 = .ok (.iload_n 1, 1) := by decide +kernel
theorem dX8_whyNot_24 : decode cX8_whyNot 24 = .ok (.iconst 2, 1) := by decide +kernel
theorem dX8_whyNot_25 : decode cX8_whyNot 25 = .ok (.if_icmp .ge 11, 3) := by decide +kernel
theorem dX8_whyNot_28 : decode cX8_whyNot 28 = .ok (.aload_n 0, 1) := by decide +kernel
theorem dX8_whyNot_29 : decode cX8_whyNot 29 = .ok (.iload_n 1, 1) := by decide +kernel
theorem dX8_whyNot_30 : decode cX8_whyNot 30 = .ok (.iload_n 2, 1) := by decide +kernel
theorem dX8_whyNot_31 : decode cX8_whyNot 31 = .ok (.iload_n 3, 1) := by decide +kernel
theorem dX8_whyNot_32 : decode cX8_whyNot 32 = .ok (.invokevirtual 151, 3) := by decide +kernel
theorem dX8_whyNot_35 : decode cX8_whyNot 35 = .ok (.ireturn, 1) := by decide +kernel
theorem dX8_whyNot_36 : decode cX8_whyNot 36 = .ok (.iload_n 2, 1) := by decide +kernel
theorem dX8_whyNot_37 : decode cX8_whyNot 37 = .ok (.iload 4, 2) := by decide +kernel
theorem dX8_whyNot_39 : decode cX8_whyNot 39 = .ok (.if_icmp .ne 5, 3) := by decide +kernel
theorem dX8_whyNot_42 : decode cX8_whyNot 42 = .ok (.iconst 1, 1) := by decide +kernel
theorem dX8_whyNot_43 : decode cX8_whyNot 43 = .ok (.ireturn, 1) := by decide +kernel
theorem dX8_whyNot_44 : decode cX8_whyNot 44 = .ok (.iload_n 1, 1) := by decide +kernel
theorem dX8_whyNot_45 : decode cX8_whyNot 45 = .ok (.tableswitch 72 2 5 #[31, 46, 72, 54], 31) := by decide +kernel
theorem dX8_whyNot_76 : decode cX8_whyNot 76 = .ok (.aload_n 0, 1) := by decide +kernel
theorem dX8_whyNot_77 : decode cX8_whyNot 77 = .ok (.iload 4, 2) := by decide +kernel
theorem dX8_whyNot_79 : decode cX8_whyNot 79 = .ok (.invokevirtual 99, 3) := by decide +kernel
theorem dX8_whyNot_82 : decode cX8_whyNot 82 = .ok (.ifCond .le 7, 3) := by decide +kernel
theorem dX8_whyNot_85 : decode cX8_whyNot 85 = .ok (.iconst 4, 1) := by decide +kernel
theorem dX8_whyNot_86 : decode cX8_whyNot 86 = .ok (.goto 4, 3) := by decide +kernel
theorem dX8_whyNot_89 : decode cX8_whyNot 89 = .ok (.iconst 0, 1) := by decide +kernel
theorem dX8_whyNot_90 : decode cX8_whyNot 90 = .ok (.ireturn, 1) := by decide +kernel
theorem dX8_whyNot_91 : decode cX8_whyNot 91 = .ok (.aload_n 0, 1) := by decide +kernel
theorem dX8_whyNot_92 : decode cX8_whyNot 92 = .ok (.iload_n 2, 1) := by decide +kernel
theorem dX8_whyNot_93 : decode cX8_whyNot 93 = .ok (.iload 4, 2) := by decide +kernel
theorem dX8_whyNot_95 : decode cX8_whyNot 95 = .ok (.invokevirtual 155, 3) := by decide +kernel
theorem dX8_whyNot_98 : decode cX8_whyNot 98 = .ok (.ireturn, 1) := by decide +kernel
theorem dX8_whyNot_99 : decode cX8_whyNot 99 = .ok (.aload_n 0, 1) := by decide +kernel
theorem dX8_whyNot_100 : decode cX8_whyNot 100 = .ok (.iload_n 2, 1) := by decide +kernel
theorem dX8_whyNot_101 : decode cX8_whyNot 101 = .ok (.iload 4, 2) := by decide +kernel
theorem dX8_whyNot_103 : decode cX8_whyNot 103 = .ok (.invokevirtual 145, 3) := by decide +kernel
theorem dX8_whyNot_106 : decode cX8_whyNot 106 = .ok (.bipush 40, 2) := by decide +kernel
theorem dX8_whyNot_108 : decode cX8_whyNot 108 = .ok (.if_icmp .le 7, 3) := by decide +kernel
theorem dX8_whyNot_111 : decode cX8_whyNot 111 = .ok (.iconst 3, 1) := by decide +kernel
theorem dX8_whyNot_112 : decode cX8_whyNot 112 = .ok (.goto 4, 3) := by decide +kernel
theorem dX8_whyNot_115 : decode cX8_whyNot 115 = .ok (.iconst 0, 1) := by decide +kernel
theorem dX8_whyNot_116 : decode cX8_whyNot 116 = .ok (.ireturn, 1) := by decide +kernel
theorem dX8_whyNot_117 : decode cX8_whyNot 117 = .ok (.iconst 0, 1) := by decide +kernel
theorem dX8_whyNot_118 : decode cX8_whyNot 118 = .ok (.ireturn, 1) := by decide +kernel
theorem dX8_part_0 : decode cX8_part 0 = .ok (.iload_n 2, 1) := by decide +kernel
theorem dX8_part_1 : decode cX8_part 1 = .ok (.istore 4, 2) := by decide +kernel
theorem dX8_part_3 : decode cX8_part 3 = .ok (.iload 4, 2) := by decide +kernel
theorem dX8_part_5 : decode cX8_part 5 = .ok (.bipush 50, 2) := by decide +kernel
theorem dX8_part_7 : decode cX8_part 7 = .ok (.if_icmp .ge 46, 3) := by decide +kernel
theorem dX8_part_10 : decode cX8_part 10 = .ok (.aload_n 0, 1) := by decide +kernel
theorem dX8_part_11 : decode cX8_part 11 = .ok (.getfield 7, 3) := by decide +kernel
theorem dX8_part_14 : decode cX8_part 14 = .ok (.bipush 50, 2) := by decide +kernel
theorem dX8_part_16 : decode cX8_part 16 = .ok (.iload_n 3, 1) := by decide +kernel
theorem dX8_part_17 : decode cX8_part 17 = .ok (.imul, 1) := by decide +kernel
theorem dX8_part_18 : decode cX8_part 18 = .ok (.iload 4, 2) := by decide +kernel
theorem dX8_part_20 : decode cX8_part 20 = .ok (.iadd, 1) := by decide +kernel
theorem dX8_part_21 : decode cX8_part 21 = .ok (.aload_n 0, 1) := by decide +kernel
theorem dX8_part_22 : decode cX8_part 22 = .ok (.getfield 7, 3) := by decide +kernel
theorem dX8_part_25 : decode cX8_part 25 = .ok (.bipush 50, 2) := by decide +kernel
theorem dX8_part_27 : decode cX8_part 27 = .ok (.iload_n 1, 1) := by decide +kernel
theorem dX8_part_28 : decode cX8_part 28 = .ok (.imul, 1) := by decide +kernel
theorem dX8_part_29 : decode cX8_part 29 = .ok (.iload 4, 2) := by decide +kernel
theorem dX8_part_31 : decode cX8_part 31 = .ok (.iadd, 1) := by decide +kernel
theorem dX8_part_32 : decode cX8_part 32 = .ok (.iaload, 1) := by decide +kernel
theorem dX8_part_33 : decode cX8_part 33 = .ok (.iastore, 1) := by decide +kernel
theorem dX8_part_34 : decode cX8_part 34 = .ok (.aload_n 0, 1) := by decide +kernel
theorem dX8_part_35 : decode cX8_part 35 = .ok (.getfield 7, 3) := by decide +kernel
theorem dX8_part_38 : decode cX8_part 38 = .ok (.bipush 50, 2) := by decide +kernel
theorem dX8_part_40 : decode cX8_part 40 = .ok (.iload_n 1, 1) := by decide +kernel
theorem dX8_part_41 : decode cX8_part 41 = .ok (.imul, 1) := by decide +kernel
theorem dX8_part_42 : decode cX8_part 42 = .ok (.iload 4, 2) := by decide +kernel
theorem dX8_part_44 : decode cX8_part 44 = .ok (.iadd, 1) := by decide +kernel
theorem dX8_part_45 : decode cX8_part 45 = .ok (.iconst 0, 1) := by decide +kernel
theorem dX8_part_46 : decode cX8_part 46 = .ok (.iastore, 1) := by decide +kernel
theorem dX8_part_47 : decode cX8_part 47 = .ok (.iinc 4 1, 3) := by decide +kernel
theorem dX8_part_50 : decode cX8_part 50 = .ok (.goto (-47), 3) := by decide +kernel
theorem dX8_part_53 : decode cX8_part 53 = .ok (.return_, 1) := by decide +kernel
theorem dX8_by_0 : decode cX8_by 0 = .ok (.iload_n 1, 1) := by decide +kernel
theorem dX8_by_1 : decode cX8_by 1 = .ok (.lookupswitch 40 #[(4, 27), (6, 29)], 27) := by decide +kernel
theorem dX8_by_28 : decode cX8_by 28 = .ok (.iload_n 3, 1) := by decide +kernel
theorem dX8_by_29 : decode cX8_by 29 = .ok (.ireturn, 1) := by decide +kernel
theorem dX8_by_30 : decode cX8_by 30 = .ok (.iload_n 3, 1) := by decide +kernel
theorem dX8_by_31 : decode cX8_by 31 = .ok (.iconst 1, 1) := by decide +kernel
theorem dX8_by_32 : decode cX8_by 32 = .ok (.if_icmp .ne 7, 3) := by decide +kernel
theorem dX8_by_35 : decode cX8_by 35 = .ok (.iconst 0, 1) := by decide +kernel
theorem dX8_by_36 : decode cX8_by 36 = .ok (.goto 4, 3) := by decide +kernel
theorem dX8_by_39 : decode cX8_by 39 = .ok (.iload_n 2, 1) := by decide +kernel
theorem dX8_by_40 : decode cX8_by 40 = .ok (.ireturn, 1) := by decide +kernel
theorem dX8_by_41 : decode cX8_by 41 = .ok (.iload_n 3, 1) := by decide +kernel
theorem dX8_by_42 : decode cX8_by 42 = .ok (.iconst 1, 1) := by decide +kernel
theorem dX8_by_43 : decode cX8_by 43 = .ok (.if_icmp .ne 7, 3) := by decide +kernel
theorem dX8_by_46 : decode cX8_by 46 = .ok (.iconst 1, 1) := by decide +kernel
theorem dX8_by_47 : decode cX8_by 47 = .ok (.goto 4, 3) := by decide +kernel
theorem dX8_by_50 : decode cX8_by 50 = .ok (.iload_n 2, 1) := by decide +kernel
theorem dX8_by_51 : decode cX8_by 51 = .ok (.ireturn, 1) := by decide +kernel
theorem dX8_both_0 : decode cX8_both 0 = .ok (.iconst 0, 1) := by decide +kernel
theorem dX8_both_1 : decode cX8_both 1 = .ok (.istore 4, 2) := by decide +kernel
theorem dX8_both_3 : decode cX8_both 3 = .ok (.iload 4, 2) := by decide +kernel
theorem dX8_both_5 : decode cX8_both 5 = .ok (.bipush 50, 2) := by decide +kernel
theorem dX8_both_7 : decode cX8_both 7 = .ok (.if_icmp .ge 83, 3) := by decide +kernel
theorem dX8_both_10 : decode cX8_both 10 = .ok (.aload_n 0, 1) := by decide +kernel
theorem dX8_both_11 : decode cX8_both 11 = .ok (.getfield 7, 3) := by decide +kernel
theorem dX8_both_14 : decode cX8_both 14 = .ok (.bipush 50, 2) := by decide +kernel
theorem dX8_both_16 : decode cX8_both 16 = .ok (.iload_n 2, 1) := by decide +kernel
theorem dX8_both_17 : decode cX8_both 17 = .ok (.imul, 1) := by decide +kernel
theorem dX8_both_18 : decode cX8_both 18 = .ok (.iload 4, 2) := by decide +kernel
theorem dX8_both_20 : decode cX8_both 20 = .ok (.iadd, 1) := by decide +kernel
theorem dX8_both_21 : decode cX8_both 21 = .ok (.aload_n 0, 1) := by decide +kernel
theorem dX8_both_22 : decode cX8_both 22 = .ok (.iload_n 1, 1) := by decide +kernel
theorem dX8_both_23 : decode cX8_both 23 = .ok (.aload_n 0, 1) := by decide +kernel
theorem dX8_both_24 : decode cX8_both 24 = .ok (.getfield 7, 3) := by decide +kernel
theorem dX8_both_27 : decode cX8_both 27 = .ok (.bipush 50, 2) := by decide +kernel
theorem dX8_both_29 : decode cX8_both 29 = .ok (.iload_n 2, 1) := by decide +kernel
theorem dX8_both_30 : decode cX8_both 30 = .ok (.imul, 1) := by decide +kernel
theorem dX8_both_31 : decode cX8_both 31 = .ok (.iload 4, 2) := by decide +kernel
theorem dX8_both_33 : decode cX8_both 33 = .ok (.iadd, 1) := by decide +kernel
theorem dX8_both_34 : decode cX8_both 34 = .ok (.iaload, 1) := by decide +kernel
theorem dX8_both_35 : decode cX8_both 35 = .ok (.aload_n 0, 1) := by decide +kernel
theorem dX8_both_36 : decode cX8_both 36 = .ok (.getfield 7, 3) := by decide +kernel
theorem dX8_both_39 : decode cX8_both 39 = .ok (.bipush 50, 2) := by decide +kernel
theorem dX8_both_41 : decode cX8_both 41 = .ok (.iload_n 3, 1) := by decide +kernel
theorem dX8_both_42 : decode cX8_both 42 = .ok (.imul, 1) := by decide +kernel
theorem dX8_both_43 : decode cX8_both 43 = .ok (.iload 4, 2) := by decide +kernel
theorem dX8_both_45 : decode cX8_both 45 = .ok (.iadd, 1) := by decide +kernel
theorem dX8_both_46 : decode cX8_both 46 = .ok (.iaload, 1) := by decide +kernel
theorem dX8_both_47 : decode cX8_both 47 = .ok (.invokevirtual 158, 3) := by decide +kernel
theorem dX8_both_50 : decode cX8_both 50 = .ok (.iastore, 1) := by decide +kernel
theorem dX8_both_51 : decode cX8_both 51 = .ok (.aload_n 0, 1) := by decide +kernel
theorem dX8_both_52 : decode cX8_both 52 = .ok (.getfield 7, 3) := by decide +kernel
theorem dX8_both_55 : decode cX8_both 55 = .ok (.bipush 50, 2) := by decide +kernel
theorem dX8_both_57 : decode cX8_both 57 = .ok (.iload_n 3, 1) := by decide +kernel
theorem dX8_both_58 : decode cX8_both 58 = .ok (.imul, 1) := by decide +kernel
theorem dX8_both_59 : decode cX8_both 59 = .ok (.iload 4, 2) := by decide +kernel
theorem dX8_both_61 : decode cX8_both 61 = .ok (.iadd, 1) := by decide +kernel
theorem dX8_both_62 : decode cX8_both 62 = .ok (.iload_n 1, 1) := by decide +kernel
theorem dX8_both_63 : decode cX8_both 63 = .ok (.iconst 3, 1) := by decide +kernel
theorem dX8_both_64 : decode cX8_both 64 = .ok (.if_icmp .ne 7, 3) := by decide +kernel
theorem dX8_both_67 : decode cX8_both 67 = .ok (.iconst 0, 1) := by decide +kernel
theorem dX8_both_68 : decode cX8_both 68 = .ok (.goto 15, 3) := by decide +kernel
theorem dX8_both_71 : decode cX8_both 71 = .ok (.aload_n 0, 1) := by decide +kernel
theorem dX8_both_72 : decode cX8_both 72 = .ok (.getfield 7, 3) := by decide +kernel
theorem dX8_both_75 : decode cX8_both 75 = .ok (.bipush 50, 2) := by decide +kernel
theorem dX8_both_77 : decode cX8_both 77 = .ok (.iload_n 3, 1) := by decide +kernel
theorem dX8_both_78 : decode cX8_both 78 = .ok (.imul, 1) := by decide +kernel
theorem dX8_both_79 : decode cX8_both 79 = .ok (.iload 4, 2) := by decide +kernel
theorem dX8_both_81 : decode cX8_both 81 = .ok (.iadd, 1) := by decide +kernel
theorem dX8_both_82 : decode cX8_both 82 = .ok (.iaload, 1) := by decide +kernel
theorem dX8_both_83 : decode cX8_both 83 = .ok (.iastore, 1) := by decide +kernel
theorem dX8_both_84 : decode cX8_both 84 = .ok (.iinc 4 1, 3) := by decide +kernel
theorem dX8_both_87 : decode cX8_both 87 = .ok (.goto (-84), 3) := by decide +kernel
theorem dX8_both_90 : decode cX8_both 90 = .ok (.return_, 1) := by decide +kernel
theorem dX8_happen_0 : decode cX8_happen 0 = .ok (.iload_n 1, 1) := by decide +kernel
theorem dX8_happen_1 : decode cX8_happen 1 = .ok (.tableswitch 101 0 7 #[47, 62, 77, 101, 101, 101, 101, 88], 47) := by decide +kernel
theorem dX8_happen_48 : decode cX8_happen 48 = .ok (.aload_n 0, 1) := by decide +kernel
theorem dX8_happen_49 : decode cX8_happen 49 = .ok (.getfield 7, 3) := by decide +kernel
theorem dX8_happen_52 : decode cX8_happen 52 = .ok (.bipush 50, 2) := by decide +kernel
theorem dX8_happen_54 : decode cX8_happen 54 = .ok (.iload_n 2, 1) := by decide +kernel
theorem dX8_happen_55 : decode cX8_happen 55 = .ok (.imul, 1) := by decide +kernel
theorem dX8_happen_56 : decode cX8_happen 56 = .ok (.iload_n 3, 1) := by decide +kernel
theorem dX8_happen_57 : decode cX8_happen 57 = .ok (.iadd, 1) := by decide +kernel
theorem dX8_happen_58 : decode cX8_happen 58 = .ok (.iconst 1, 1) := by decide +kernel
theorem dX8_happen_59 : decode cX8_happen 59 = .ok (.iastore, 1) := by decide +kernel
theorem dX8_happen_60 : decode cX8_happen 60 = .ok (.goto 50, 3) := by decide +kernel
theorem dX8_happen_63 : decode cX8_happen 63 = .ok (.aload_n 0, 1) := by decide +kernel
theorem dX8_happen_64 : decode cX8_happen 64 = .ok (.getfield 7, 3) := by decide +kernel
theorem dX8_happen_67 : decode cX8_happen 67 = .ok (.bipush 50, 2) := by decide +kernel
theorem dX8_happen_69 : decode cX8_happen 69 = .ok (.iload_n 2, 1) := by decide +kernel
theorem dX8_happen_70 : decode cX8_happen 70 = .ok (.imul, 1) := by decide +kernel
theorem dX8_happen_71 : decode cX8_happen 71 = .ok (.iload_n 3, 1) := by decide +kernel
theorem dX8_happen_72 : decode cX8_happen 72 = .ok (.iadd, 1) := by decide +kernel
theorem dX8_happen_73 : decode cX8_happen 73 = .ok (.iconst 0, 1) := by decide +kernel
theorem dX8_happen_74 : decode cX8_happen 74 = .ok (.iastore, 1) := by decide +kernel
theorem dX8_happen_75 : decode cX8_happen 75 = .ok (.goto 35, 3) := by decide +kernel
theorem dX8_happen_78 : decode cX8_happen 78 = .ok (.aload_n 0, 1) := by decide +kernel
theorem dX8_happen_79 : decode cX8_happen 79 = .ok (.iload_n 2, 1) := by decide +kernel
theorem dX8_happen_80 : decode cX8_happen 80 = .ok (.iload_n 3, 1) := by decide +kernel
theorem dX8_happen_81 : decode cX8_happen 81 = .ok (.iload 4, 2) := by decide +kernel
theorem dX8_happen_83 : decode cX8_happen 83 = .ok (.invokevirtual 161, 3) := by decide +kernel
theorem dX8_happen_86 : decode cX8_happen 86 = .ok (.goto 24, 3) := by decide +kernel
theorem dX8_happen_89 : decode cX8_happen 89 = .ok (.aload_n 0, 1) := by decide +kernel
theorem dX8_happen_90 : decode cX8_happen 90 = .ok (.dup, 1) := by decide +kernel
theorem dX8_happen_91 : decode cX8_happen 91 = .ok (.getfield 78, 3) := by decide +kernel
theorem dX8_happen_94 : decode cX8_happen 94 = .ok (.iconst 1, 1) := by decide +kernel
theorem dX8_happen_95 : decode cX8_happen 95 = .ok (.iadd, 1) := by decide +kernel
theorem dX8_happen_96 : decode cX8_happen 96 = .ok (.putfield 78, 3) := by decide +kernel
theorem dX8_happen_99 : decode cX8_happen 99 = .ok (.goto 11, 3) := by decide +kernel
theorem dX8_happen_102 : decode cX8_happen 102 = .ok (.aload_n 0, 1) := by decide +kernel
theorem dX8_happen_103 : decode cX8_happen 103 = .ok (.iload_n 1, 1) := by decide +kernel
theorem dX8_happen_104 : decode cX8_happen 104 = .ok (.iload_n 2, 1) := by decide +kernel
theorem dX8_happen_105 : decode cX8_happen 105 = .ok (.iload 4, 2) := by decide +kernel
theorem dX8_happen_107 : decode cX8_happen 107 = .ok (.invokevirtual 165, 3) := by decide +kernel
theorem dX8_happen_110 : decode cX8_happen 110 = .ok (.return_, 1) := by decide +kernel
theorem dX8_below_0 : decode cX8_below 0 = .ok (.iload_n 2, 1) := by decide +kernel
theorem dX8_below_1 : decode cX8_below 1 = .ok (.iconst 1, 1) := by decide +kernel
theorem dX8_below_2 : decode cX8_below 2 = .ok (.isub, 1) := by decide +kernel
theorem dX8_below_3 : decode cX8_below 3 = .ok (.istore 4, 2) := by decide +kernel
theorem dX8_below_5 : decode cX8_below 5 = .ok (.iload 4, 2) := by decide +kernel
theorem dX8_below_7 : decode cX8_below 7 = .ok (.iload_n 3, 1) := by decide +kernel
theorem dX8_below_8 : decode cX8_below 8 = .ok (.if_icmp .lt 29, 3) := by decide +kernel
theorem dX8_below_11 : decode cX8_below 11 = .ok (.aload_n 0, 1) := by decide +kernel
theorem dX8_below_12 : decode cX8_below 12 = .ok (.iload_n 1, 1) := by decide +kernel
theorem dX8_below_13 : decode cX8_below 13 = .ok (.iload 4, 2) := by decide +kernel
theorem dX8_below_15 : decode cX8_below 15 = .ok (.invokevirtual 95, 3) := by decide +kernel
theorem dX8_below_18 : decode cX8_below 18 = .ok (.ifCond .eq 13, 3) := by decide +kernel
theorem dX8_below_21 : decode cX8_below 21 = .ok (.aload_n 0, 1) := by decide +kernel
theorem dX8_below_22 : decode cX8_below 22 = .ok (.iload 4, 2) := by decide +kernel
theorem dX8_below_24 : decode cX8_below 24 = .ok (.iload_n 2, 1) := by decide +kernel
theorem dX8_below_25 : decode cX8_below 25 = .ok (.invokevirtual 168, 3) := by decide +kernel
theorem dX8_below_28 : decode cX8_below 28 = .ok (.ifCond .ne 9, 3) := by decide +kernel
theorem dX8_below_31 : decode cX8_below 31 = .ok (.iinc 4 (-1), 3) := by decide +kernel
theorem dX8_below_34 : decode cX8_below 34 = .ok (.goto (-29), 3) := by decide +kernel
theorem dX8_below_37 : decode cX8_below 37 = .ok (.iload 4, 2) := by decide +kernel
theorem dX8_below_39 : decode cX8_below 39 = .ok (.ireturn, 1) := by decide +kernel
theorem dX8_beyond_0 : decode cX8_beyond 0 = .ok (.iload_n 2, 1) := by decide +kernel
theorem dX8_beyond_1 : decode cX8_beyond 1 = .ok (.iconst 1, 1) := by decide +kernel
theorem dX8_beyond_2 : decode cX8_beyond 2 = .ok (.iadd, 1) := by decide +kernel
theorem dX8_beyond_3 : decode cX8_beyond 3 = .ok (.istore 4, 2) := by decide +kernel
theorem dX8_beyond_5 : decode cX8_beyond 5 = .ok (.iload 4, 2) := by decide +kernel
theorem dX8_beyond_7 : decode cX8_beyond 7 = .ok (.iload_n 3, 1) := by decide +kernel
theorem dX8_beyond_8 : decode cX8_beyond 8 = .ok (.if_icmp .gt 29, 3) := by decide +kernel
theorem dX8_beyond_11 : decode cX8_beyond 11 = .ok (.aload_n 0, 1) := by decide +kernel
theorem dX8_beyond_12 : decode cX8_beyond 12 = .ok (.iload_n 1, 1) := by decide +kernel
theorem dX8_beyond_13 : decode cX8_beyond 13 = .ok (.iload 4, 2) := by decide +kernel
theorem dX8_beyond_15 : decode cX8_beyond 15 = .ok (.invokevirtual 95, 3) := by decide +kernel
theorem dX8_beyond_18 : decode cX8_beyond 18 = .ok (.ifCond .eq 13, 3) := by decide +kernel
theorem dX8_beyond_21 : decode cX8_beyond 21 = .ok (.aload_n 0, 1) := by decide +kernel
theorem dX8_beyond_22 : decode cX8_beyond 22 = .ok (.iload 4, 2) := by decide +kernel
theorem dX8_beyond_24 : decode cX8_beyond 24 = .ok (.iload_n 2, 1) := by decide +kernel
theorem dX8_beyond_25 : decode cX8_beyond 25 = .ok (.invokevirtual 168, 3) := by decide +kernel
theorem dX8_beyond_28 : decode cX8_beyond 28 = .ok (.ifCond .ne 9, 3) := by decide +kernel
theorem dX8_beyond_31 : decode cX8_beyond 31 = .ok (.iinc 4 1, 3) := by decide +kernel
theorem dX8_beyond_34 : decode cX8_beyond 34 = .ok (.goto (-29), 3) := by decide +kernel
theorem dX8_beyond_37 : decode cX8_beyond 37 = .ok (.iload 4, 2) := by decide +kernel
theorem dX8_beyond_39 : decode cX8_beyond 39 = .ok (.ireturn, 1) := by decide +kernel
theorem dX8_rootOf_0 : decode cX8_rootOf 0 = .ok (.bipush (-6), 2) := by decide +kernel
theorem dX8_rootOf_2 : decode cX8_rootOf 2 = .ok (.istore 4, 2) := by decide +kernel
theorem dX8_rootOf_4 : decode cX8_rootOf 4 = .ok (.iload_n 2, 1) := by decide +kernel
theorem dX8_rootOf_5 : decode cX8_rootOf 5 = .ok (.istore 5, 2) := by decide +kernel
theorem dX8_rootOf_7 : decode cX8_rootOf 7 = .ok (.iload 5, 2) := by decide +kernel
theorem dX8_rootOf_9 : decode cX8_rootOf 9 = .ok (.iload_n 3, 1) := by decide +kernel
theorem dX8_rootOf_10 : decode cX8_rootOf 10 = .ok (.if_icmp .gt 44, 3) := by decide +kernel
theorem dX8_rootOf_13 : decode cX8_rootOf 13 = .ok (.aload_n 0, 1) := by decide +kernel
theorem dX8_rootOf_14 : decode cX8_rootOf 14 = .ok (.iload_n 1, 1) := by decide +kernel
theorem dX8_rootOf_15 : decode cX8_rootOf 15 = .ok (.iload 5, 2) := by decide +kernel
theorem dX8_rootOf_17 : decode cX8_rootOf 17 = .ok (.invokevirtual 95, 3) := by decide +kernel
theorem dX8_rootOf_20 : decode cX8_rootOf 20 = .ok (.ifCond .eq 24, 3) := by decide +kernel
theorem dX8_rootOf_23 : decode cX8_rootOf 23 = .ok (.iload 4, 2) := by decide +kernel
theorem dX8_rootOf_25 : decode cX8_rootOf 25 = .ok (.ifCond .lt 14, 3) := by decide +kernel
theorem dX8_rootOf_28 : decode cX8_rootOf 28 = .ok (.aload_n 0, 1) := by decide +kernel
theorem dX8_rootOf_29 : decode cX8_rootOf 29 = .ok (.iload 5, 2) := by decide +kernel
theorem dX8_rootOf_31 : decode cX8_rootOf 31 = .ok (.iload 4, 2) := by decide +kernel
theorem dX8_rootOf_33 : decode cX8_rootOf 33 = .ok (.invokevirtual 168, 3) := by decide +kernel
theorem dX8_rootOf_36 : decode cX8_rootOf 36 = .ok (.ifCond .eq 8, 3) := by decide +kernel
theorem dX8_rootOf_39 : decode cX8_rootOf 39 = .ok (.iload 5, 2) := by decide +kernel
theorem dX8_rootOf_41 : decode cX8_rootOf 41 = .ok (.goto 5, 3) := by decide +kernel
theorem dX8_rootOf_44 : decode cX8_rootOf 44 = .ok (.iload 4, 2) := by decide +kernel
theorem dX8_rootOf_46 : decode cX8_rootOf 46 = .ok (.istore 4, 2) := by decide +kernel
theorem dX8_rootOf_48 : decode cX8_rootOf 48 = .ok (.iinc 5 1, 3) := by decide +kernel
theorem dX8_rootOf_51 : decode cX8_rootOf 51 = .ok (.goto (-44), 3) := by decide +kernel
theorem dX8_rootOf_54 : decode cX8_rootOf 54 = .ok (.iload 4, 2) := by decide +kernel
theorem dX8_rootOf_56 : decode cX8_rootOf 56 = .ok (.ireturn, 1) := by decide +kernel
theorem dX8_treeOf_0 : decode cX8_treeOf 0 = .ok (.lconst 0, 1) := by decide +kernel
theorem dX8_treeOf_1 : decode cX8_treeOf 1 = .ok (.lstore_n 3, 1) := by decide +kernel
theorem dX8_treeOf_2 : decode cX8_treeOf 2 = .ok (.aload_n 0, 1) := by decide +kernel
theorem dX8_treeOf_3 : decode cX8_treeOf 3 = .ok (.iload_n 1, 1) := by decide +kernel
theorem dX8_treeOf_4 : decode cX8_treeOf 4 = .ok (.iload_n 2, 1) := by decide +kernel
theorem dX8_treeOf_5 : decode cX8_treeOf 5 = .ok (.bipush 49, 2) := by decide +kernel
theorem dX8_treeOf_7 : decode cX8_treeOf 7 = .ok (.invokevirtual 171, 3) := by decide +kernel
theorem dX8_treeOf_10 : decode cX8_treeOf 10 = .ok (.istore 5, 2) := by decide +kernel
theorem dX8_treeOf_12 : decode cX8_treeOf 12 = .ok (.aload_n 0, 1) := by decide +kernel
theorem dX8_treeOf_13 : decode cX8_treeOf 13 = .ok (.iload_n 1, 1) := by decide +kernel
theorem dX8_treeOf_14 : decode cX8_treeOf 14 = .ok (.iload_n 2, 1) := by decide +kernel
theorem dX8_treeOf_15 : decode cX8_treeOf 15 = .ok (.iconst 0, 1) := by decide +kernel
theorem dX8_treeOf_16 : decode cX8_treeOf 16 = .ok (.invokevirtual 174, 3) := by decide +kernel
theorem dX8_treeOf_19 : decode cX8_treeOf 19 = .ok (.iconst 1, 1) := by decide +kernel
theorem dX8_treeOf_20 : decode cX8_treeOf 20 = .ok (.iadd, 1) := by decide +kernel
theorem dX8_treeOf_21 : decode cX8_treeOf 21 = .ok (.istore 6, 2) := by decide +kernel
theorem dX8_treeOf_23 : decode cX8_treeOf 23 = .ok (.iload 6, 2) := by decide +kernel
theorem dX8_treeOf_25 : decode cX8_treeOf 25 = .ok (.iload 5, 2) := by decide +kernel
theorem dX8_treeOf_27 : decode cX8_treeOf 27 = .ok (.if_icmp .ge 30, 3) := by decide +kernel
theorem dX8_treeOf_30 : decode cX8_treeOf 30 = .ok (.lload_n 3, 1) := by decide +kernel
theorem dX8_treeOf_31 : decode cX8_treeOf 31 = .ok (.aload_n 0, 1) := by decide +kernel
theorem dX8_treeOf_32 : decode cX8_treeOf 32 = .ok (.iload_n 1, 1) := by decide +kernel
theorem dX8_treeOf_33 : decode cX8_treeOf 33 = .ok (.iload 6, 2) := by decide +kernel
theorem dX8_treeOf_35 : decode cX8_treeOf 35 = .ok (.invokevirtual 95, 3) := by decide +kernel
theorem dX8_treeOf_38 : decode cX8_treeOf 38 = .ok (.ifCond .eq 10, 3) := by decide +kernel
theorem dX8_treeOf_41 : decode cX8_treeOf 41 = .ok (.lconst 1, 1) := by decide +kernel
theorem dX8_treeOf_42 : decode cX8_treeOf 42 = .ok (.iload 6, 2) := by decide +kernel
theorem dX8_treeOf_44 : decode cX8_treeOf 44 = .ok (.lshl, 1) := by decide +kernel
theorem dX8_treeOf_45 : decode cX8_treeOf 45 = .ok (.goto 4, 3) := by decide +kernel
theorem dX8_treeOf_48 : decode cX8_treeOf 48 = .ok (.lconst 0, 1) := by decide +kernel
theorem dX8_treeOf_49 : decode cX8_treeOf 49 = .ok (.lor, 1) := by decide +kernel
theorem dX8_treeOf_50 : decode cX8_treeOf 50 = .ok (.lstore_n 3, 1) := by decide +kernel
theorem dX8_treeOf_51 : decode cX8_treeOf 51 = .ok (.iinc 6 1, 3) := by decide +kernel
theorem dX8_treeOf_54 : decode cX8_treeOf 54 = .ok (.goto (-31), 3) := by decide +kernel
theorem dX8_treeOf_57 : decode cX8_treeOf 57 = .ok (.lload_n 3, 1) := by decide +kernel
theorem dX8_treeOf_58 : decode cX8_treeOf 58 = .ok (.lreturn, 1) := by decide +kernel
theorem dX8_ones_0 : decode cX8_ones 0 = .ok (.iconst 0, 1) := by decide +kernel
theorem dX8_ones_1 : decode cX8_ones 1 = .ok (.istore_n 2, 1) := by decide +kernel
theorem dX8_ones_2 : decode cX8_ones 2 = .ok (.lload_n 0, 1) := by decide +kernel
theorem dX8_ones_3 : decode cX8_ones 3 = .ok (.lstore_n 3, 1) := by decide +kernel
theorem dX8_ones_4 : decode cX8_ones 4 = .ok (.lload_n 3, 1) := by decide +kernel
theorem dX8_ones_5 : decode cX8_ones 5 = .ok (.lconst 0, 1) := by decide +kernel
theorem dX8_ones_6 : decode cX8_ones 6 = .ok (.lcmp, 1) := by decide +kernel
theorem dX8_ones_7 : decode cX8_ones 7 = .ok (.ifCond .eq 15, 3) := by decide +kernel
theorem dX8_ones_10 : decode cX8_ones 10 = .ok (.iinc 2 1, 3) := by decide +kernel
theorem dX8_ones_13 : decode cX8_ones 13 = .ok (.lload_n 3, 1) := by decide +kernel
theorem dX8_ones_14 : decode cX8_ones 14 = .ok (.lload_n 3, 1) := by decide +kernel
theorem dX8_ones_15 : decode cX8_ones 15 = .ok (.lconst 1, 1) := by decide +kernel
theorem dX8_ones_16 : decode cX8_ones 16 = .ok (.lsub, 1) := by decide +kernel
theorem dX8_ones_17 : decode cX8_ones 17 = .ok (.land, 1) := by decide +kernel
theorem dX8_ones_18 : decode cX8_ones 18 = .ok (.lstore_n 3, 1) := by decide +kernel
theorem dX8_ones_19 : decode cX8_ones 19 = .ok (.goto (-15), 3) := by decide +kernel
theorem dX8_ones_22 : decode cX8_ones 22 = .ok (.iload_n 2, 1) := by decide +kernel
theorem dX8_ones_23 : decode cX8_ones 23 = .ok (.ireturn, 1) := by decide +kernel
theorem dX8_findOrder_0 : decode cX8_findOrder 0 = .ok (.iconst 0, 1) := by decide +kernel
theorem dX8_findOrder_1 : decode cX8_findOrder 1 = .ok (.istore_n 1, 1) := by decide +kernel
theorem dX8_findOrder_2 : decode cX8_findOrder 2 = .ok (.iload_n 1, 1) := by decide +kernel
theorem dX8_findOrder_3 : decode cX8_findOrder 3 = .ok (.bipush 50, 2) := by decide +kernel
theorem dX8_findOrder_5 : decode cX8_findOrder 5 = .ok (.if_icmp .ge 54, 3) := by decide +kernel
theorem dX8_findOrder_8 : decode cX8_findOrder 8 = .ok (.iconst 0, 1) := by decide +kernel
theorem dX8_findOrder_9 : decode cX8_findOrder 9 = .ok (.istore_n 2, 1) := by decide +kernel
theorem dX8_findOrder_10 : decode cX8_findOrder 10 = .ok (.iconst 0, 1) := by decide +kernel
theorem dX8_findOrder_11 : decode cX8_findOrder 11 = .ok (.istore_n 3, 1) := by decide +kernel
theorem dX8_findOrder_12 : decode cX8_findOrder 12 = .ok (.iload_n 3, 1) := by decide +kernel
theorem dX8_findOrder_13 : decode cX8_findOrder 13 = .ok (.bipush 50, 2) := by decide +kernel
theorem dX8_findOrder_15 : decode cX8_findOrder 15 = .ok (.if_icmp .ge 31, 3) := by decide +kernel
theorem dX8_findOrder_18 : decode cX8_findOrder 18 = .ok (.iload_n 2, 1) := by decide +kernel
theorem dX8_findOrder_19 : decode cX8_findOrder 19 = .ok (.iload_n 3, 1) := by decide +kernel
theorem dX8_findOrder_20 : decode cX8_findOrder 20 = .ok (.iload_n 1, 1) := by decide +kernel
theorem dX8_findOrder_21 : decode cX8_findOrder 21 = .ok (.if_icmp .eq 16, 3) := by decide +kernel
theorem dX8_findOrder_24 : decode cX8_findOrder 24 = .ok (.aload_n 0, 1) := by decide +kernel
theorem dX8_findOrder_25 : decode cX8_findOrder 25 = .ok (.iload_n 1, 1) := by decide +kernel
theorem dX8_findOrder_26 : decode cX8_findOrder 26 = .ok (.iload_n 3, 1) := by decide +kernel
theorem dX8_findOrder_27 : decode cX8_findOrder 27 = .ok (.invokevirtual 168, 3) := by decide +kernel
theorem dX8_findOrder_30 : decode cX8_findOrder 30 = .ok (.ifCond .eq 7, 3) := by decide +kernel
theorem dX8_findOrder_33 : decode cX8_findOrder 33 = .ok (.iconst 1, 1) := by decide +kernel
theorem dX8_findOrder_34 : decode cX8_findOrder 34 = .ok (.goto 4, 3) := by decide +kernel
theorem dX8_findOrder_37 : decode cX8_findOrder 37 = .ok (.iconst 0, 1) := by decide +kernel
theorem dX8_findOrder_38 : decode cX8_findOrder 38 = .ok (.iadd, 1) := by decide +kernel
theorem dX8_findOrder_39 : decode cX8_findOrder 39 = .ok (.istore_n 2, 1) := by decide +kernel
theorem dX8_findOrder_40 : decode cX8_findOrder 40 = .ok (.iinc 3 1, 3) := by decide +kernel
theorem dX8_findOrder_43 : decode cX8_findOrder 43 = .ok (.goto (-31), 3) := by decide +kernel
theorem dX8_findOrder_46 : decode cX8_findOrder 46 = .ok (.aload_n 0, 1) := by decide +kernel
theorem dX8_findOrder_47 : decode cX8_findOrder 47 = .ok (.getfield 34, 3) := by decide +kernel
theorem dX8_findOrder_50 : decode cX8_findOrder 50 = .ok (.iload_n 2, 1) := by decide +kernel
theorem dX8_findOrder_51 : decode cX8_findOrder 51 = .ok (.iload_n 1, 1) := by decide +kernel
theorem dX8_findOrder_52 : decode cX8_findOrder 52 = .ok (.iastore, 1) := by decide +kernel
theorem dX8_findOrder_53 : decode cX8_findOrder 53 = .ok (.iinc 1 1, 3) := by decide +kernel
theorem dX8_findOrder_56 : decode cX8_findOrder 56 = .ok (.goto (-54), 3) := by decide +kernel
theorem dX8_findOrder_59 : decode cX8_findOrder 59 = .ok (.return_, 1) := by decide +kernel
theorem dX8_findOne_0 : decode cX8_findOne 0 = .ok (.aload_n 0, 1) := by decide +kernel
theorem dX8_findOne_1 : decode cX8_findOne 1 = .ok (.iload_n 1, 1) := by decide +kernel
theorem dX8_findOne_2 : decode cX8_findOne 2 = .ok (.aload_n 0, 1) := by decide +kernel
theorem dX8_findOne_3 : decode cX8_findOne 3 = .ok (.iload_n 1, 1) := by decide +kernel
theorem dX8_findOne_4 : decode cX8_findOne 4 = .ok (.iload_n 2, 1) := by decide +kernel
theorem dX8_findOne_5 : decode cX8_findOne 5 = .ok (.iload_n 3, 1) := by decide +kernel
theorem dX8_findOne_6 : decode cX8_findOne 6 = .ok (.invokevirtual 174, 3) := by decide +kernel
theorem dX8_findOne_9 : decode cX8_findOne 9 = .ok (.iconst 1, 1) := by decide +kernel
theorem dX8_findOne_10 : decode cX8_findOne 10 = .ok (.iadd, 1) := by decide +kernel
theorem dX8_findOne_11 : decode cX8_findOne 11 = .ok (.iload_n 2, 1) := by decide +kernel
theorem dX8_findOne_12 : decode cX8_findOne 12 = .ok (.iconst 1, 1) := by decide +kernel
theorem dX8_findOne_13 : decode cX8_findOne 13 = .ok (.isub, 1) := by decide +kernel
theorem dX8_findOne_14 : decode cX8_findOne 14 = .ok (.invokevirtual 177, 3) := by decide +kernel
theorem dX8_findOne_17 : decode cX8_findOne 17 = .ok (.istore 5, 2) := by decide +kernel
theorem dX8_findOne_19 : decode cX8_findOne 19 = .ok (.aload_n 0, 1) := by decide +kernel
theorem dX8_findOne_20 : decode cX8_findOne 20 = .ok (.iload_n 1, 1) := by decide +kernel
theorem dX8_findOne_21 : decode cX8_findOne 21 = .ok (.iload_n 2, 1) := by decide +kernel
theorem dX8_findOne_22 : decode cX8_findOne 22 = .ok (.iconst 1, 1) := by decide +kernel
theorem dX8_findOne_23 : decode cX8_findOne 23 = .ok (.iadd, 1) := by decide +kernel
theorem dX8_findOne_24 : decode cX8_findOne 24 = .ok (.aload_n 0, 1) := by decide +kernel
theorem dX8_findOne_25 : decode cX8_findOne 25 = .ok (.iload_n 1, 1) := by decide +kernel
theorem dX8_findOne_26 : decode cX8_findOne 26 = .ok (.iload_n 2, 1) := by decide +kernel
theorem dX8_findOne_27 : decode cX8_findOne 27 = .ok (.iload 4, 2) := by decide +kernel
theorem dX8_findOne_29 : decode cX8_findOne 29 = .ok (.invokevirtual 171, 3) := by decide +kernel
theorem dX8_findOne_32 : decode cX8_findOne 32 = .ok (.iconst 1, 1) := by decide +kernel
theorem dX8_findOne_33 : decode cX8_findOne 33 = .ok (.isub, 1) := by decide +kernel
theorem dX8_findOne_34 : decode cX8_findOne 34 = .ok (.invokevirtual 177, 3) := by decide +kernel
theorem dX8_findOne_37 : decode cX8_findOne 37 = .ok (.istore 6, 2) := by decide +kernel
theorem dX8_findOne_39 : decode cX8_findOne 39 = .ok (.iload 5, 2) := by decide +kernel
theorem dX8_findOne_41 : decode cX8_findOne 41 = .ok (.ifCond .ge 7, 3) := by decide +kernel
theorem dX8_findOne_44 : decode cX8_findOne 44 = .ok (.lconst 0, 1) := by decide +kernel
theorem dX8_findOne_45 : decode cX8_findOne 45 = .ok (.goto 10, 3) := by decide +kernel
theorem dX8_findOne_48 : decode cX8_findOne 48 = .ok (.aload_n 0, 1) := by decide +kernel
theorem dX8_findOne_49 : decode cX8_findOne 49 = .ok (.getfield 37, 3) := by decide +kernel
theorem dX8_findOne_52 : decode cX8_findOne 52 = .ok (.iload 5, 2) := by decide +kernel
theorem dX8_findOne_54 : decode cX8_findOne 54 = .ok (.laload, 1) := by decide +kernel
theorem dX8_findOne_55 : decode cX8_findOne 55 = .ok (.lstore 7, 2) := by decide +kernel
theorem dX8_findOne_57 : decode cX8_findOne 57 = .ok (.iload 6, 2) := by decide +kernel
theorem dX8_findOne_59 : decode cX8_findOne 59 = .ok (.ifCond .ge 7, 3) := by decide +kernel
theorem dX8_findOne_62 : decode cX8_findOne 62 = .ok (.lconst 0, 1) := by decide +kernel
theorem dX8_findOne_63 : decode cX8_findOne 63 = .ok (.goto 10, 3) := by decide +kernel
theorem dX8_findOne_66 : decode cX8_findOne 66 = .ok (.aload_n 0, 1) := by decide +kernel
theorem dX8_findOne_67 : decode cX8_findOne 67 = .ok (.getfield 37, 3) := by decide +kernel
theorem dX8_findOne_70 : decode cX8_findOne 70 = .ok (.iload 6, 2) := by decide +kernel
theorem dX8_findOne_72 : decode cX8_findOne 72 = .ok (.laload, 1) := by decide +kernel
theorem dX8_findOne_73 : decode cX8_findOne 73 = .ok (.lstore 9, 2) := by decide +kernel
theorem dX8_findOne_75 : decode cX8_findOne 75 = .ok (.iload 5, 2) := by decide +kernel
theorem dX8_findOne_77 : decode cX8_findOne 77 = .ok (.ifCond .ge 7, 3) := by decide +kernel
theorem dX8_findOne_80 : decode cX8_findOne 80 = .ok (.iconst 0, 1) := by decide +kernel
theorem dX8_findOne_81 : decode cX8_findOne 81 = .ok (.goto 10, 3) := by decide +kernel
theorem dX8_findOne_84 : decode cX8_findOne 84 = .ok (.aload_n 0, 1) := by decide +kernel
theorem dX8_findOne_85 : decode cX8_findOne 85 = .ok (.getfield 41, 3) := by decide +kernel
theorem dX8_findOne_88 : decode cX8_findOne 88 = .ok (.iload 5, 2) := by decide +kernel
theorem dX8_findOne_90 : decode cX8_findOne 90 = .ok (.iaload, 1) := by decide +kernel
theorem dX8_findOne_91 : decode cX8_findOne 91 = .ok (.istore 11, 2) := by decide +kernel
theorem dX8_findOne_93 : decode cX8_findOne 93 = .ok (.iload 6, 2) := by decide +kernel
theorem dX8_findOne_95 : decode cX8_findOne 95 = .ok (.ifCond .ge 7, 3) := by decide +kernel
theorem dX8_findOne_98 : decode cX8_findOne 98 = .ok (.iconst 0, 1) := by decide +kernel
theorem dX8_findOne_99 : decode cX8_findOne 99 = .ok (.goto 10, 3) := by decide +kernel
theorem dX8_findOne_102 : decode cX8_findOne 102 = .ok (.aload_n 0, 1) := by decide +kernel
theorem dX8_findOne_103 : decode cX8_findOne 103 = .ok (.getfield 41, 3) := by decide +kernel
theorem dX8_findOne_106 : decode cX8_findOne 106 = .ok (.iload 6, 2) := by decide +kernel
theorem dX8_findOne_108 : decode cX8_findOne 108 = .ok (.iaload, 1) := by decide +kernel
theorem dX8_findOne_109 : decode cX8_findOne 109 = .ok (.istore 12, 2) := by decide +kernel
theorem dX8_findOne_111 : decode cX8_findOne 111 = .ok (.aload_n 0, 1) := by decide +kernel
theorem dX8_findOne_112 : decode cX8_findOne 112 = .ok (.getfield 37, 3) := by decide +kernel
theorem dX8_findOne_115 : decode cX8_findOne 115 = .ok (.iload_n 2, 1) := by decide +kernel
theorem dX8_findOne_116 : decode cX8_findOne 116 = .ok (.lconst 1, 1) := by decide +kernel
theorem dX8_findOne_117 : decode cX8_findOne 117 = .ok (.ldc2_w 180, 3) := by decide +kernel
theorem dX8_findOne_120 : decode cX8_findOne 120 = .ok (.lload 7, 2) := by decide +kernel
theorem dX8_findOne_122 : decode cX8_findOne 122 = .ok (.lmul, 1) := by decide +kernel
theorem dX8_findOne_123 : decode cX8_findOne 123 = .ok (.ldc2_w 128, 3) := by decide +kernel
theorem dX8_findOne_126 : decode cX8_findOne 126 = .ok (.lload 9, 2) := by decide +kernel
theorem dX8_findOne_128 : decode cX8_findOne 128 = .ok (.lmul, 1) := by decide +kernel
theorem dX8_findOne_129 : decode cX8_findOne 129 = .ok (.ladd, 1) := by decide +kernel
theorem dX8_findOne_130 : decode cX8_findOne 130 = .ok (.ldc2_w 182, 3) := by decide +kernel
theorem dX8_findOne_133 : decode cX8_findOne 133 = .ok (.iload_n 2, 1) := by decide +kernel
theorem dX8_findOne_134 : decode cX8_findOne 134 = .ok (.iconst 1, 1) := by decide +kernel
theorem dX8_findOne_135 : decode cX8_findOne 135 = .ok (.iadd, 1) := by decide +kernel
theorem dX8_findOne_136 : decode cX8_findOne 136 = .ok (.i2l, 1) := by decide +kernel
theorem dX8_findOne_137 : decode cX8_findOne 137 = .ok (.lmul, 1) := by decide +kernel
theorem dX8_findOne_138 : decode cX8_findOne 138 = .ok (.ladd, 1) := by decide +kernel
theorem dX8_findOne_139 : decode cX8_findOne 139 = .ok (.ldc2_w 184, 3) := by decide +kernel
theorem dX8_findOne_142 : decode cX8_findOne 142 = .ok (.lrem, 1) := by decide +kernel
theorem dX8_findOne_143 : decode cX8_findOne 143 = .ok (.ladd, 1) := by decide +kernel
theorem dX8_findOne_144 : decode cX8_findOne 144 = .ok (.lastore, 1) := by decide +kernel
theorem dX8_findOne_145 : decode cX8_findOne 145 = .ok (.aload_n 0, 1) := by decide +kernel
theorem dX8_findOne_146 : decode cX8_findOne 146 = .ok (.getfield 41, 3) := by decide +kernel
theorem dX8_findOne_149 : decode cX8_findOne 149 = .ok (.iload_n 2, 1) := by decide +kernel
theorem dX8_findOne_150 : decode cX8_findOne 150 = .ok (.iconst 1, 1) := by decide +kernel
theorem dX8_findOne_151 : decode cX8_findOne 151 = .ok (.iload 11, 2) := by decide +kernel
theorem dX8_findOne_153 : decode cX8_findOne 153 = .ok (.iload 12, 2) := by decide +kernel
theorem dX8_findOne_155 : decode cX8_findOne 155 = .ok (.if_icmp .le 8, 3) := by decide +kernel
theorem dX8_findOne_158 : decode cX8_findOne 158 = .ok (.iload 11, 2) := by decide +kernel
theorem dX8_findOne_160 : decode cX8_findOne 160 = .ok (.goto 5, 3) := by decide +kernel
theorem dX8_findOne_163 : decode cX8_findOne 163 = .ok (.iload 12, 2) := by decide +kernel
theorem dX8_findOne_165 : decode cX8_findOne 165 = .ok (.iadd, 1) := by decide +kernel
theorem dX8_findOne_166 : decode cX8_findOne 166 = .ok (.iastore, 1) := by decide +kernel
theorem dX8_findOne_167 : decode cX8_findOne 167 = .ok (.return_, 1) := by decide +kernel
theorem dX8_digestOf_0 : decode cX8_digestOf 0 = .ok (.aload_n 0, 1) := by decide +kernel
theorem dX8_digestOf_1 : decode cX8_digestOf 1 = .ok (.invokevirtual 186, 3) := by decide +kernel
theorem dX8_digestOf_4 : decode cX8_digestOf 4 = .ok (.iconst 0, 1) := by decide +kernel
theorem dX8_digestOf_5 : decode cX8_digestOf 5 = .ok (.istore 4, 2) := by decide +kernel
theorem dX8_digestOf_7 : decode cX8_digestOf 7 = .ok (.iload 4, 2) := by decide +kernel
theorem dX8_digestOf_9 : decode cX8_digestOf 9 = .ok (.bipush 50, 2) := by decide +kernel
theorem dX8_digestOf_11 : decode cX8_digestOf 11 = .ok (.if_icmp .ge 50, 3) := by decide +kernel
theorem dX8_digestOf_14 : decode cX8_digestOf 14 = .ok (.aload_n 0, 1) := by decide +kernel
theorem dX8_digestOf_15 : decode cX8_digestOf 15 = .ok (.getfield 34, 3) := by decide +kernel
theorem dX8_digestOf_18 : decode cX8_digestOf 18 = .ok (.iload 4, 2) := by decide +kernel
theorem dX8_digestOf_20 : decode cX8_digestOf 20 = .ok (.iaload, 1) := by decide +kernel
theorem dX8_digestOf_21 : decode cX8_digestOf 21 = .ok (.istore 5, 2) := by decide +kernel
theorem dX8_digestOf_23 : decode cX8_digestOf 23 = .ok (.iload 5, 2) := by decide +kernel
theorem dX8_digestOf_25 : decode cX8_digestOf 25 = .ok (.i2l, 1) := by decide +kernel
theorem dX8_digestOf_26 : decode cX8_digestOf 26 = .ok (.iload_n 2, 1) := by decide +kernel
theorem dX8_digestOf_27 : decode cX8_digestOf 27 = .ok (.i2l, 1) := by decide +kernel
theorem dX8_digestOf_28 : decode cX8_digestOf 28 = .ok (.iload_n 3, 1) := by decide +kernel
theorem dX8_digestOf_29 : decode cX8_digestOf 29 = .ok (.i2l, 1) := by decide +kernel
theorem dX8_digestOf_30 : decode cX8_digestOf 30 = .ok (.invokestatic 68, 3) := by decide +kernel
theorem dX8_digestOf_33 : decode cX8_digestOf 33 = .ok (.ifCond .eq 22, 3) := by decide +kernel
theorem dX8_digestOf_36 : decode cX8_digestOf 36 = .ok (.aload_n 0, 1) := by decide +kernel
theorem dX8_digestOf_37 : decode cX8_digestOf 37 = .ok (.iload_n 1, 1) := by decide +kernel
theorem dX8_digestOf_38 : decode cX8_digestOf 38 = .ok (.iload 5, 2) := by decide +kernel
theorem dX8_digestOf_40 : decode cX8_digestOf 40 = .ok (.invokevirtual 95, 3) := by decide +kernel
theorem dX8_digestOf_43 : decode cX8_digestOf 43 = .ok (.ifCond .eq 12, 3) := by decide +kernel
theorem dX8_digestOf_46 : decode cX8_digestOf 46 = .ok (.aload_n 0, 1) := by decide +kernel
theorem dX8_digestOf_47 : decode cX8_digestOf 47 = .ok (.iload_n 1, 1) := by decide +kernel
theorem dX8_digestOf_48 : decode cX8_digestOf 48 = .ok (.iload 5, 2) := by decide +kernel
theorem dX8_digestOf_50 : decode cX8_digestOf 50 = .ok (.iload_n 2, 1) := by decide +kernel
theorem dX8_digestOf_51 : decode cX8_digestOf 51 = .ok (.iload_n 3, 1) := by decide +kernel
theorem dX8_digestOf_52 : decode cX8_digestOf 52 = .ok (.invokevirtual 189, 3) := by decide +kernel
theorem dX8_digestOf_55 : decode cX8_digestOf 55 = .ok (.iinc 4 1, 3) := by decide +kernel
theorem dX8_digestOf_58 : decode cX8_digestOf 58 = .ok (.goto (-51), 3) := by decide +kernel
theorem dX8_digestOf_61 : decode cX8_digestOf 61 = .ok (.aload_n 0, 1) := by decide +kernel
theorem dX8_digestOf_62 : decode cX8_digestOf 62 = .ok (.iload_n 1, 1) := by decide +kernel
theorem dX8_digestOf_63 : decode cX8_digestOf 63 = .ok (.iload_n 2, 1) := by decide +kernel
theorem dX8_digestOf_64 : decode cX8_digestOf 64 = .ok (.iload_n 3, 1) := by decide +kernel
theorem dX8_digestOf_65 : decode cX8_digestOf 65 = .ok (.invokevirtual 177, 3) := by decide +kernel
theorem dX8_digestOf_68 : decode cX8_digestOf 68 = .ok (.istore 4, 2) := by decide +kernel
theorem dX8_digestOf_70 : decode cX8_digestOf 70 = .ok (.iload 4, 2) := by decide +kernel
theorem dX8_digestOf_72 : decode cX8_digestOf 72 = .ok (.ifCond .ge 7, 3) := by decide +kernel
theorem dX8_digestOf_75 : decode cX8_digestOf 75 = .ok (.iconst 0, 1) := by decide +kernel
theorem dX8_digestOf_76 : decode cX8_digestOf 76 = .ok (.goto 11, 3) := by decide +kernel
theorem dX8_digestOf_79 : decode cX8_digestOf 79 = .ok (.aload_n 0, 1) := by decide +kernel
theorem dX8_digestOf_80 : decode cX8_digestOf 80 = .ok (.getfield 37, 3) := by decide +kernel
theorem dX8_digestOf_83 : decode cX8_digestOf 83 = .ok (.iload 4, 2) := by decide +kernel
theorem dX8_digestOf_85 : decode cX8_digestOf 85 = .ok (.laload, 1) := by decide +kernel
theorem dX8_digestOf_86 : decode cX8_digestOf 86 = .ok (.l2i, 1) := by decide +kernel
theorem dX8_digestOf_87 : decode cX8_digestOf 87 = .ok (.ireturn, 1) := by decide +kernel
theorem dX8_keepNow_0 : decode cX8_keepNow 0 = .ok (.iconst 0, 1) := by decide +kernel
theorem dX8_keepNow_1 : decode cX8_keepNow 1 = .ok (.istore_n 1, 1) := by decide +kernel
theorem dX8_keepNow_2 : decode cX8_keepNow 2 = .ok (.iload_n 1, 1) := by decide +kernel
theorem dX8_keepNow_3 : decode cX8_keepNow 3 = .ok (.sipush 200, 3) := by decide +kernel
theorem dX8_keepNow_6 : decode cX8_keepNow 6 = .ok (.if_icmp .ge 21, 3) := by decide +kernel
theorem dX8_keepNow_9 : decode cX8_keepNow 9 = .ok (.aload_n 0, 1) := by decide +kernel
theorem dX8_keepNow_10 : decode cX8_keepNow 10 = .ok (.getfield 44, 3) := by decide +kernel
theorem dX8_keepNow_13 : decode cX8_keepNow 13 = .ok (.iload_n 1, 1) := by decide +kernel
theorem dX8_keepNow_14 : decode cX8_keepNow 14 = .ok (.aload_n 0, 1) := by decide +kernel
theorem dX8_keepNow_15 : decode cX8_keepNow 15 = .ok (.getfield 7, 3) := by decide +kernel
theorem dX8_keepNow_18 : decode cX8_keepNow 18 = .ok (.iload_n 1, 1) := by decide +kernel
theorem dX8_keepNow_19 : decode cX8_keepNow 19 = .ok (.iaload, 1) := by decide +kernel
theorem dX8_keepNow_20 : decode cX8_keepNow 20 = .ok (.iastore, 1) := by decide +kernel
theorem dX8_keepNow_21 : decode cX8_keepNow 21 = .ok (.iinc 1 1, 3) := by decide +kernel
theorem dX8_keepNow_24 : decode cX8_keepNow 24 = .ok (.goto (-22), 3) := by decide +kernel
theorem dX8_keepNow_27 : decode cX8_keepNow 27 = .ok (.aload_n 0, 1) := by decide +kernel
theorem dX8_keepNow_28 : decode cX8_keepNow 28 = .ok (.getfield 44, 3) := by decide +kernel
theorem dX8_keepNow_31 : decode cX8_keepNow 31 = .ok (.sipush 200, 3) := by decide +kernel
theorem dX8_keepNow_34 : decode cX8_keepNow 34 = .ok (.aload_n 0, 1) := by decide +kernel
theorem dX8_keepNow_35 : decode cX8_keepNow 35 = .ok (.getfield 78, 3) := by decide +kernel
theorem dX8_keepNow_38 : decode cX8_keepNow 38 = .ok (.iastore, 1) := by decide +kernel
theorem dX8_keepNow_39 : decode cX8_keepNow 39 = .ok (.return_, 1) := by decide +kernel
theorem dX8_back_0 : decode cX8_back 0 = .ok (.iconst 0, 1) := by decide +kernel
theorem dX8_back_1 : decode cX8_back 1 = .ok (.istore_n 2, 1) := by decide +kernel
theorem dX8_back_2 : decode cX8_back 2 = .ok (.iload_n 2, 1) := by decide +kernel
theorem dX8_back_3 : decode cX8_back 3 = .ok (.sipush 200, 3) := by decide +kernel
theorem dX8_back_6 : decode cX8_back 6 = .ok (.if_icmp .ge 21, 3) := by decide +kernel
theorem dX8_back_9 : decode cX8_back 9 = .ok (.aload_n 0, 1) := by decide +kernel
theorem dX8_back_10 : decode cX8_back 10 = .ok (.getfield 7, 3) := by decide +kernel
theorem dX8_back_13 : decode cX8_back 13 = .ok (.iload_n 2, 1) := by decide +kernel
theorem dX8_back_14 : decode cX8_back 14 = .ok (.aload_n 0, 1) := by decide +kernel
theorem dX8_back_15 : decode cX8_back 15 = .ok (.getfield 44, 3) := by decide +kernel
theorem dX8_back_18 : decode cX8_back 18 = .ok (.iload_n 2, 1) := by decide +kernel
theorem dX8_back_19 : decode cX8_back 19 = .ok (.iaload, 1) := by decide +kernel
theorem dX8_back_20 : decode cX8_back 20 = .ok (.iastore, 1) := by decide +kernel
theorem dX8_back_21 : decode cX8_back 21 = .ok (.iinc 2 1, 3) := by decide +kernel
theorem dX8_back_24 : decode cX8_back 24 = .ok (.goto (-22), 3) := by decide +kernel
theorem dX8_back_27 : decode cX8_back 27 = .ok (.aload_n 0, 1) := by decide +kernel
theorem dX8_back_28 : decode cX8_back 28 = .ok (.aload_n 0, 1) := by decide +kernel
theorem dX8_back_29 : decode cX8_back 29 = .ok (.getfield 44, 3) := by decide +kernel
theorem dX8_back_32 : decode cX8_back 32 = .ok (.sipush 200, 3) := by decide +kernel
theorem dX8_back_35 : decode cX8_back 35 = .ok (.iaload, 1) := by decide +kernel
theorem dX8_back_36 : decode cX8_back 36 = .ok (.putfield 78, 3) := by decide +kernel
theorem dX8_back_39 : decode cX8_back 39 = .ok (.iload_n 1, 1) := by decide +kernel
theorem dX8_back_40 : decode cX8_back 40 = .ok (.ireturn, 1) := by decide +kernel
theorem dX8_findTrees_0 : decode cX8_findTrees 0 = .ok (.iconst 0, 1) := by decide +kernel
theorem dX8_findTrees_1 : decode cX8_findTrees 1 = .ok (.istore_n 1, 1) := by decide +kernel
theorem dX8_findTrees_2 : decode cX8_findTrees 2 = .ok (.iload_n 1, 1) := by decide +kernel
theorem dX8_findTrees_3 : decode cX8_findTrees 3 = .ok (.sipush 200, 3) := by decide +kernel
theorem dX8_findTrees_6 : decode cX8_findTrees 6 = .ok (.if_icmp .ge 41, 3) := by decide +kernel
theorem dX8_findTrees_9 : decode cX8_findTrees 9 = .ok (.aload_n 0, 1) := by decide +kernel
theorem dX8_findTrees_10 : decode cX8_findTrees 10 = .ok (.getfield 47, 3) := by decide +kernel
theorem dX8_findTrees_13 : decode cX8_findTrees 13 = .ok (.iload_n 1, 1) := by decide +kernel
theorem dX8_findTrees_14 : decode cX8_findTrees 14 = .ok (.aload_n 0, 1) := by decide +kernel
theorem dX8_findTrees_15 : decode cX8_findTrees 15 = .ok (.getfield 7, 3) := by decide +kernel
theorem dX8_findTrees_18 : decode cX8_findTrees 18 = .ok (.iload_n 1, 1) := by decide +kernel
theorem dX8_findTrees_19 : decode cX8_findTrees 19 = .ok (.iaload, 1) := by decide +kernel
theorem dX8_findTrees_20 : decode cX8_findTrees 20 = .ok (.iconst 1, 1) := by decide +kernel
theorem dX8_findTrees_21 : decode cX8_findTrees 21 = .ok (.if_icmp .ne 18, 3) := by decide +kernel
theorem dX8_findTrees_24 : decode cX8_findTrees 24 = .ok (.aload_n 0, 1) := by decide +kernel
theorem dX8_findTrees_25 : decode cX8_findTrees 25 = .ok (.iload_n 1, 1) := by decide +kernel
theorem dX8_findTrees_26 : decode cX8_findTrees 26 = .ok (.bipush 50, 2) := by decide +kernel
theorem dX8_findTrees_28 : decode cX8_findTrees 28 = .ok (.idiv, 1) := by decide +kernel
theorem dX8_findTrees_29 : decode cX8_findTrees 29 = .ok (.iload_n 1, 1) := by decide +kernel
theorem dX8_findTrees_30 : decode cX8_findTrees 30 = .ok (.bipush 50, 2) := by decide +kernel
theorem dX8_findTrees_32 : decode cX8_findTrees 32 = .ok (.irem, 1) := by decide +kernel
theorem dX8_findTrees_33 : decode cX8_findTrees 33 = .ok (.invokevirtual 193, 3) := by decide +kernel
theorem dX8_findTrees_36 : decode cX8_findTrees 36 = .ok (.goto 4, 3) := by decide +kernel
theorem dX8_findTrees_39 : decode cX8_findTrees 39 = .ok (.lconst 0, 1) := by decide +kernel
theorem dX8_findTrees_40 : decode cX8_findTrees 40 = .ok (.lastore, 1) := by decide +kernel
theorem dX8_findTrees_41 : decode cX8_findTrees 41 = .ok (.iinc 1 1, 3) := by decide +kernel
theorem dX8_findTrees_44 : decode cX8_findTrees 44 = .ok (.goto (-42), 3) := by decide +kernel
theorem dX8_findTrees_47 : decode cX8_findTrees 47 = .ok (.return_, 1) := by decide +kernel
theorem dX8_workNow_0 : decode cX8_workNow 0 = .ok (.iconst 0, 1) := by decide +kernel
theorem dX8_workNow_1 : decode cX8_workNow 1 = .ok (.istore_n 1, 1) := by decide +kernel
theorem dX8_workNow_2 : decode cX8_workNow 2 = .ok (.iconst 0, 1) := by decide +kernel
theorem dX8_workNow_3 : decode cX8_workNow 3 = .ok (.istore_n 2, 1) := by decide +kernel
theorem dX8_workNow_4 : decode cX8_workNow 4 = .ok (.iload_n 2, 1) := by decide +kernel
theorem dX8_workNow_5 : decode cX8_workNow 5 = .ok (.sipush 200, 3) := by decide +kernel
theorem dX8_workNow_8 : decode cX8_workNow 8 = .ok (.if_icmp .ge 49, 3) := by decide +kernel
theorem dX8_workNow_11 : decode cX8_workNow 11 = .ok (.iload_n 1, 1) := by decide +kernel
theorem dX8_workNow_12 : decode cX8_workNow 12 = .ok (.aload_n 0, 1) := by decide +kernel
theorem dX8_workNow_13 : decode cX8_workNow 13 = .ok (.getfield 7, 3) := by decide +kernel
theorem dX8_workNow_16 : decode cX8_workNow 16 = .ok (.iload_n 2, 1) := by decide +kernel
theorem dX8_workNow_17 : decode cX8_workNow 17 = .ok (.iaload, 1) := by decide +kernel
theorem dX8_workNow_18 : decode cX8_workNow 18 = .ok (.iconst 1, 1) := by decide +kernel
theorem dX8_workNow_19 : decode cX8_workNow 19 = .ok (.if_icmp .ne 29, 3) := by decide +kernel
theorem dX8_workNow_22 : decode cX8_workNow 22 = .ok (.aload_n 0, 1) := by decide +kernel
theorem dX8_workNow_23 : decode cX8_workNow 23 = .ok (.iload_n 2, 1) := by decide +kernel
theorem dX8_workNow_24 : decode cX8_workNow 24 = .ok (.bipush 50, 2) := by decide +kernel
theorem dX8_workNow_26 : decode cX8_workNow 26 = .ok (.idiv, 1) := by decide +kernel
theorem dX8_workNow_27 : decode cX8_workNow 27 = .ok (.iload_n 2, 1) := by decide +kernel
theorem dX8_workNow_28 : decode cX8_workNow 28 = .ok (.bipush 50, 2) := by decide +kernel
theorem dX8_workNow_30 : decode cX8_workNow 30 = .ok (.irem, 1) := by decide +kernel
theorem dX8_workNow_31 : decode cX8_workNow 31 = .ok (.invokevirtual 193, 3) := by decide +kernel
theorem dX8_workNow_34 : decode cX8_workNow 34 = .ok (.aload_n 0, 1) := by decide +kernel
theorem dX8_workNow_35 : decode cX8_workNow 35 = .ok (.getfield 47, 3) := by decide +kernel
theorem dX8_workNow_38 : decode cX8_workNow 38 = .ok (.iload_n 2, 1) := by decide +kernel
theorem dX8_workNow_39 : decode cX8_workNow 39 = .ok (.laload, 1) := by decide +kernel
theorem dX8_workNow_40 : decode cX8_workNow 40 = .ok (.lcmp, 1) := by decide +kernel
theorem dX8_workNow_41 : decode cX8_workNow 41 = .ok (.ifCond .eq 7, 3) := by decide +kernel
theorem dX8_workNow_44 : decode cX8_workNow 44 = .ok (.iconst 1, 1) := by decide +kernel
theorem dX8_workNow_45 : decode cX8_workNow 45 = .ok (.goto 4, 3) := by decide +kernel
theorem dX8_workNow_48 : decode cX8_workNow 48 = .ok (.iconst 0, 1) := by decide +kernel
theorem dX8_workNow_49 : decode cX8_workNow 49 = .ok (.iadd, 1) := by decide +kernel
theorem dX8_workNow_50 : decode cX8_workNow 50 = .ok (.istore_n 1, 1) := by decide +kernel
theorem dX8_workNow_51 : decode cX8_workNow 51 = .ok (.iinc 2 1, 3) := by decide +kernel
theorem dX8_workNow_54 : decode cX8_workNow 54 = .ok (.goto (-50), 3) := by decide +kernel
theorem dX8_workNow_57 : decode cX8_workNow 57 = .ok (.iload_n 1, 1) := by decide +kernel
theorem dX8_workNow_58 : decode cX8_workNow 58 = .ok (.ireturn, 1) := by decide +kernel
theorem dX8_areAlike_0 : decode cX8_areAlike 0 = .ok (.aload_n 0, 1) := by decide +kernel
theorem dX8_areAlike_1 : decode cX8_areAlike 1 = .ok (.iload_n 1, 1) := by decide +kernel
theorem dX8_areAlike_2 : decode cX8_areAlike 2 = .ok (.invokevirtual 99, 3) := by decide +kernel
theorem dX8_areAlike_5 : decode cX8_areAlike 5 = .ok (.ifCond .le 7, 3) := by decide +kernel
theorem dX8_areAlike_8 : decode cX8_areAlike 8 = .ok (.iconst 1, 1) := by decide +kernel
theorem dX8_areAlike_9 : decode cX8_areAlike 9 = .ok (.goto 4, 3) := by decide +kernel
theorem dX8_areAlike_12 : decode cX8_areAlike 12 = .ok (.iconst 0, 1) := by decide +kernel
theorem dX8_areAlike_13 : decode cX8_areAlike 13 = .ok (.istore_n 3, 1) := by decide +kernel
theorem dX8_areAlike_14 : decode cX8_areAlike 14 = .ok (.iconst 0, 1) := by decide +kernel
theorem dX8_areAlike_15 : decode cX8_areAlike 15 = .ok (.istore 4, 2) := by decide +kernel
theorem dX8_areAlike_17 : decode cX8_areAlike 17 = .ok (.iload 4, 2) := by decide +kernel
theorem dX8_areAlike_19 : decode cX8_areAlike 19 = .ok (.bipush 50, 2) := by decide +kernel
theorem dX8_areAlike_21 : decode cX8_areAlike 21 = .ok (.if_icmp .ge 36, 3) := by decide +kernel
theorem dX8_areAlike_24 : decode cX8_areAlike 24 = .ok (.iload_n 3, 1) := by decide +kernel
theorem dX8_areAlike_25 : decode cX8_areAlike 25 = .ok (.ifCond .eq 24, 3) := by decide +kernel
theorem dX8_areAlike_28 : decode cX8_areAlike 28 = .ok (.aload_n 0, 1) := by decide +kernel
theorem dX8_areAlike_29 : decode cX8_areAlike 29 = .ok (.iload_n 1, 1) := by decide +kernel
theorem dX8_areAlike_30 : decode cX8_areAlike 30 = .ok (.iload 4, 2) := by decide +kernel
theorem dX8_areAlike_32 : decode cX8_areAlike 32 = .ok (.invokevirtual 95, 3) := by decide +kernel
theorem dX8_areAlike_35 : decode cX8_areAlike 35 = .ok (.aload_n 0, 1) := by decide +kernel
theorem dX8_areAlike_36 : decode cX8_areAlike 36 = .ok (.iload_n 2, 1) := by decide +kernel
theorem dX8_areAlike_37 : decode cX8_areAlike 37 = .ok (.iload 4, 2) := by decide +kernel
theorem dX8_areAlike_39 : decode cX8_areAlike 39 = .ok (.invokevirtual 95, 3) := by decide +kernel
theorem dX8_areAlike_42 : decode cX8_areAlike 42 = .ok (.if_icmp .ne 7, 3) := by decide +kernel
theorem dX8_areAlike_45 : decode cX8_areAlike 45 = .ok (.iconst 1, 1) := by decide +kernel
theorem dX8_areAlike_46 : decode cX8_areAlike 46 = .ok (.goto 4, 3) := by decide +kernel
theorem dX8_areAlike_49 : decode cX8_areAlike 49 = .ok (.iconst 0, 1) := by decide +kernel
theorem dX8_areAlike_50 : decode cX8_areAlike 50 = .ok (.istore_n 3, 1) := by decide +kernel
theorem dX8_areAlike_51 : decode cX8_areAlike 51 = .ok (.iinc 4 1, 3) := by decide +kernel
theorem dX8_areAlike_54 : decode cX8_areAlike 54 = .ok (.goto (-37), 3) := by decide +kernel
theorem dX8_areAlike_57 : decode cX8_areAlike 57 = .ok (.iload_n 3, 1) := by decide +kernel
theorem dX8_areAlike_58 : decode cX8_areAlike 58 = .ok (.ireturn, 1) := by decide +kernel
theorem dX8_alikeOnes_0 : decode cX8_alikeOnes 0 = .ok (.iconst 0, 1) := by decide +kernel
theorem dX8_alikeOnes_1 : decode cX8_alikeOnes 1 = .ok (.istore_n 1, 1) := by decide +kernel
theorem dX8_alikeOnes_2 : decode cX8_alikeOnes 2 = .ok (.iconst 0, 1) := by decide +kernel
theorem dX8_alikeOnes_3 : decode cX8_alikeOnes 3 = .ok (.istore_n 2, 1) := by decide +kernel
theorem dX8_alikeOnes_4 : decode cX8_alikeOnes 4 = .ok (.iload_n 2, 1) := by decide +kernel
theorem dX8_alikeOnes_5 : decode cX8_alikeOnes 5 = .ok (.iconst 4, 1) := by decide +kernel
theorem dX8_alikeOnes_6 : decode cX8_alikeOnes 6 = .ok (.if_icmp .ge 47, 3) := by decide +kernel
theorem dX8_alikeOnes_9 : decode cX8_alikeOnes 9 = .ok (.iload_n 2, 1) := by decide +kernel
theorem dX8_alikeOnes_10 : decode cX8_alikeOnes 10 = .ok (.iconst 1, 1) := by decide +kernel
theorem dX8_alikeOnes_11 : decode cX8_alikeOnes 11 = .ok (.iadd, 1) := by decide +kernel
theorem dX8_alikeOnes_12 : decode cX8_alikeOnes 12 = .ok (.istore_n 3, 1) := by decide +kernel
theorem dX8_alikeOnes_13 : decode cX8_alikeOnes 13 = .ok (.iload_n 3, 1) := by decide +kernel
theorem dX8_alikeOnes_14 : decode cX8_alikeOnes 14 = .ok (.iconst 4, 1) := by decide +kernel
theorem dX8_alikeOnes_15 : decode cX8_alikeOnes 15 = .ok (.if_icmp .ge 32, 3) := by decide +kernel
theorem dX8_alikeOnes_18 : decode cX8_alikeOnes 18 = .ok (.iload_n 1, 1) := by decide +kernel
theorem dX8_alikeOnes_19 : decode cX8_alikeOnes 19 = .ok (.aload_n 0, 1) := by decide +kernel
theorem dX8_alikeOnes_20 : decode cX8_alikeOnes 20 = .ok (.iload_n 2, 1) := by decide +kernel
theorem dX8_alikeOnes_21 : decode cX8_alikeOnes 21 = .ok (.iload_n 3, 1) := by decide +kernel
theorem dX8_alikeOnes_22 : decode cX8_alikeOnes 22 = .ok (.invokevirtual 197, 3) := by decide +kernel
theorem dX8_alikeOnes_25 : decode cX8_alikeOnes 25 = .ok (.ifCond .eq 13, 3) := by decide +kernel
theorem dX8_alikeOnes_28 : decode cX8_alikeOnes 28 = .ok (.iconst 1, 1) := by decide +kernel
theorem dX8_alikeOnes_29 : decode cX8_alikeOnes 29 = .ok (.iconst 4, 1) := by decide +kernel
theorem dX8_alikeOnes_30 : decode cX8_alikeOnes 30 = .ok (.iload_n 2, 1) := by decide +kernel
theorem dX8_alikeOnes_31 : decode cX8_alikeOnes 31 = .ok (.imul, 1) := by decide +kernel
theorem dX8_alikeOnes_32 : decode cX8_alikeOnes 32 = .ok (.iload_n 3, 1) := by decide +kernel
theorem dX8_alikeOnes_33 : decode cX8_alikeOnes 33 = .ok (.iadd, 1) := by decide +kernel
theorem dX8_alikeOnes_34 : decode cX8_alikeOnes 34 = .ok (.ishl, 1) := by decide +kernel
theorem dX8_alikeOnes_35 : decode cX8_alikeOnes 35 = .ok (.goto 4, 3) := by decide +kernel
theorem dX8_alikeOnes_38 : decode cX8_alikeOnes 38 = .ok (.iconst 0, 1) := by decide +kernel
theorem dX8_alikeOnes_39 : decode cX8_alikeOnes 39 = .ok (.ior, 1) := by decide +kernel
theorem dX8_alikeOnes_40 : decode cX8_alikeOnes 40 = .ok (.istore_n 1, 1) := by decide +kernel
theorem dX8_alikeOnes_41 : decode cX8_alikeOnes 41 = .ok (.iinc 3 1, 3) := by decide +kernel
theorem dX8_alikeOnes_44 : decode cX8_alikeOnes 44 = .ok (.goto (-31), 3) := by decide +kernel
theorem dX8_alikeOnes_47 : decode cX8_alikeOnes 47 = .ok (.iinc 2 1, 3) := by decide +kernel
theorem dX8_alikeOnes_50 : decode cX8_alikeOnes 50 = .ok (.goto (-46), 3) := by decide +kernel
theorem dX8_alikeOnes_53 : decode cX8_alikeOnes 53 = .ok (.iload_n 1, 1) := by decide +kernel
theorem dX8_alikeOnes_54 : decode cX8_alikeOnes 54 = .ok (.ireturn, 1) := by decide +kernel
theorem dX8_leastOf_0 : decode cX8_leastOf 0 = .ok (.iconst 0, 1) := by decide +kernel
theorem dX8_leastOf_1 : decode cX8_leastOf 1 = .ok (.istore_n 1, 1) := by decide +kernel
theorem dX8_leastOf_2 : decode cX8_leastOf 2 = .ok (.iload_n 0, 1) := by decide +kernel
theorem dX8_leastOf_3 : decode cX8_leastOf 3 = .ok (.iload_n 1, 1) := by decide +kernel
theorem dX8_leastOf_4 : decode cX8_leastOf 4 = .ok (.ishr, 1) := by decide +kernel
theorem dX8_leastOf_5 : decode cX8_leastOf 5 = .ok (.iconst 1, 1) := by decide +kernel
theorem dX8_leastOf_6 : decode cX8_leastOf 6 = .ok (.iand, 1) := by decide +kernel
theorem dX8_leastOf_7 : decode cX8_leastOf 7 = .ok (.ifCond .ne 9, 3) := by decide +kernel
theorem dX8_leastOf_10 : decode cX8_leastOf 10 = .ok (.iinc 1 1, 3) := by decide +kernel
theorem dX8_leastOf_13 : decode cX8_leastOf 13 = .ok (.goto (-11), 3) := by decide +kernel
theorem dX8_leastOf_16 : decode cX8_leastOf 16 = .ok (.iload_n 1, 1) := by decide +kernel
theorem dX8_leastOf_17 : decode cX8_leastOf 17 = .ok (.ireturn, 1) := by decide +kernel
theorem dX8_goOne_0 : decode cX8_goOne 0 = .ok (.aload_n 0, 1) := by decide +kernel
theorem dX8_goOne_1 : decode cX8_goOne 1 = .ok (.invokevirtual 200, 3) := by decide +kernel
theorem dX8_goOne_4 : decode cX8_goOne 4 = .ok (.istore_n 2, 1) := by decide +kernel
theorem dX8_goOne_5 : decode cX8_goOne 5 = .ok (.aload_n 0, 1) := by decide +kernel
theorem dX8_goOne_6 : decode cX8_goOne 6 = .ok (.getfield 203, 3) := by decide +kernel
theorem dX8_goOne_9 : decode cX8_goOne 9 = .ok (.ifCond .eq 7, 3) := by decide +kernel
theorem dX8_goOne_12 : decode cX8_goOne 12 = .ok (.aload_n 0, 1) := by decide +kernel
theorem dX8_goOne_13 : decode cX8_goOne 13 = .ok (.invokevirtual 207, 3) := by decide +kernel
theorem dX8_goOne_16 : decode cX8_goOne 16 = .ok (.aload_n 0, 1) := by decide +kernel
theorem dX8_goOne_17 : decode cX8_goOne 17 = .ok (.aload_n 0, 1) := by decide +kernel
theorem dX8_goOne_18 : decode cX8_goOne 18 = .ok (.getfield 22, 3) := by decide +kernel
theorem dX8_goOne_21 : decode cX8_goOne 21 = .ok (.iload_n 1, 1) := by decide +kernel
theorem dX8_goOne_22 : decode cX8_goOne 22 = .ok (.iaload, 1) := by decide +kernel
theorem dX8_goOne_23 : decode cX8_goOne 23 = .ok (.aload_n 0, 1) := by decide +kernel
theorem dX8_goOne_24 : decode cX8_goOne 24 = .ok (.getfield 25, 3) := by decide +kernel
theorem dX8_goOne_27 : decode cX8_goOne 27 = .ok (.iload_n 1, 1) := by decide +kernel
theorem dX8_goOne_28 : decode cX8_goOne 28 = .ok (.iaload, 1) := by decide +kernel
theorem dX8_goOne_29 : decode cX8_goOne 29 = .ok (.aload_n 0, 1) := by decide +kernel
theorem dX8_goOne_30 : decode cX8_goOne 30 = .ok (.getfield 28, 3) := by decide +kernel
theorem dX8_goOne_33 : decode cX8_goOne 33 = .ok (.iload_n 1, 1) := by decide +kernel
theorem dX8_goOne_34 : decode cX8_goOne 34 = .ok (.iaload, 1) := by decide +kernel
theorem dX8_goOne_35 : decode cX8_goOne 35 = .ok (.aload_n 0, 1) := by decide +kernel
theorem dX8_goOne_36 : decode cX8_goOne 36 = .ok (.getfield 31, 3) := by decide +kernel
theorem dX8_goOne_39 : decode cX8_goOne 39 = .ok (.iload_n 1, 1) := by decide +kernel
theorem dX8_goOne_40 : decode cX8_goOne 40 = .ok (.iaload, 1) := by decide +kernel
theorem dX8_goOne_41 : decode cX8_goOne 41 = .ok (.invokevirtual 210, 3) := by decide +kernel
theorem dX8_goOne_44 : decode cX8_goOne 44 = .ok (.aload_n 0, 1) := by decide +kernel
theorem dX8_goOne_45 : decode cX8_goOne 45 = .ok (.dup, 1) := by decide +kernel
theorem dX8_goOne_46 : decode cX8_goOne 46 = .ok (.getfield 213, 3) := by decide +kernel
theorem dX8_goOne_49 : decode cX8_goOne 49 = .ok (.aload_n 0, 1) := by decide +kernel
theorem dX8_goOne_50 : decode cX8_goOne 50 = .ok (.getfield 203, 3) := by decide +kernel
theorem dX8_goOne_53 : decode cX8_goOne 53 = .ok (.ifCond .eq 10, 3) := by decide +kernel
theorem dX8_goOne_56 : decode cX8_goOne 56 = .ok (.aload_n 0, 1) := by decide +kernel
theorem dX8_goOne_57 : decode cX8_goOne 57 = .ok (.invokevirtual 216, 3) := by decide +kernel
theorem dX8_goOne_60 : decode cX8_goOne 60 = .ok (.goto 4, 3) := by decide +kernel
theorem dX8_goOne_63 : decode cX8_goOne 63 = .ok (.iconst 0, 1) := by decide +kernel
theorem dX8_goOne_64 : decode cX8_goOne 64 = .ok (.iadd, 1) := by decide +kernel
theorem dX8_goOne_65 : decode cX8_goOne 65 = .ok (.putfield 213, 3) := by decide +kernel
theorem dX8_goOne_68 : decode cX8_goOne 68 = .ok (.aload_n 0, 1) := by decide +kernel
theorem dX8_goOne_69 : decode cX8_goOne 69 = .ok (.invokevirtual 200, 3) := by decide +kernel
theorem dX8_goOne_72 : decode cX8_goOne 72 = .ok (.iload_n 2, 1) := by decide +kernel
theorem dX8_goOne_73 : decode cX8_goOne 73 = .ok (.iconst (-1), 1) := by decide +kernel
theorem dX8_goOne_74 : decode cX8_goOne 74 = .ok (.ixor, 1) := by decide +kernel
theorem dX8_goOne_75 : decode cX8_goOne 75 = .ok (.iand, 1) := by decide +kernel
theorem dX8_goOne_76 : decode cX8_goOne 76 = .ok (.istore_n 3, 1) := by decide +kernel
theorem dX8_goOne_77 : decode cX8_goOne 77 = .ok (.iload_n 3, 1) := by decide +kernel
theorem dX8_goOne_78 : decode cX8_goOne 78 = .ok (.ifCond .eq 35, 3) := by decide +kernel
theorem dX8_goOne_81 : decode cX8_goOne 81 = .ok (.aload_n 0, 1) := by decide +kernel
theorem dX8_goOne_82 : decode cX8_goOne 82 = .ok (.getfield 219, 3) := by decide +kernel
theorem dX8_goOne_85 : decode cX8_goOne 85 = .ok (.ifCond .ge 28, 3) := by decide +kernel
theorem dX8_goOne_88 : decode cX8_goOne 88 = .ok (.aload_n 0, 1) := by decide +kernel
theorem dX8_goOne_89 : decode cX8_goOne 89 = .ok (.iload_n 1, 1) := by decide +kernel
theorem dX8_goOne_90 : decode cX8_goOne 90 = .ok (.putfield 219, 3) := by decide +kernel
theorem dX8_goOne_93 : decode cX8_goOne 93 = .ok (.aload_n 0, 1) := by decide +kernel
theorem dX8_goOne_94 : decode cX8_goOne 94 = .ok (.bipush 10, 2) := by decide +kernel
theorem dX8_goOne_96 : decode cX8_goOne 96 = .ok (.iload_n 3, 1) := by decide +kernel
theorem dX8_goOne_97 : decode cX8_goOne 97 = .ok (.invokestatic 222, 3) := by decide +kernel
theorem dX8_goOne_100 : decode cX8_goOne 100 = .ok (.iconst 4, 1) := by decide +kernel
theorem dX8_goOne_101 : decode cX8_goOne 101 = .ok (.idiv, 1) := by decide +kernel
theorem dX8_goOne_102 : decode cX8_goOne 102 = .ok (.imul, 1) := by decide +kernel
theorem dX8_goOne_103 : decode cX8_goOne 103 = .ok (.iload_n 3, 1) := by decide +kernel
theorem dX8_goOne_104 : decode cX8_goOne 104 = .ok (.invokestatic 222, 3) := by decide +kernel
theorem dX8_goOne_107 : decode cX8_goOne 107 = .ok (.iconst 4, 1) := by decide +kernel
theorem dX8_goOne_108 : decode cX8_goOne 108 = .ok (.irem, 1) := by decide +kernel
theorem dX8_goOne_109 : decode cX8_goOne 109 = .ok (.iadd, 1) := by decide +kernel
theorem dX8_goOne_110 : decode cX8_goOne 110 = .ok (.putfield 225, 3) := by decide +kernel
theorem dX8_goOne_113 : decode cX8_goOne 113 = .ok (.return_, 1) := by decide +kernel
theorem dX8_goActs_0 : decode cX8_goActs 0 = .ok (.aload_n 0, 1) := by decide +kernel
theorem dX8_goActs_1 : decode cX8_goActs 1 = .ok (.bipush (-6), 2) := by decide +kernel
theorem dX8_goActs_3 : decode cX8_goActs 3 = .ok (.putfield 228, 3) := by decide +kernel
theorem dX8_goActs_6 : decode cX8_goActs 6 = .ok (.aload_n 0, 1) := by decide +kernel
theorem dX8_goActs_7 : decode cX8_goActs 7 = .ok (.bipush (-6), 2) := by decide +kernel
theorem dX8_goActs_9 : decode cX8_goActs 9 = .ok (.putfield 231, 3) := by decide +kernel
