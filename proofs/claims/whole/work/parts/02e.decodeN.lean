theorem dX8_goActs_12 : decode cX8_goActs 12 = .ok (.aload_n 0, 1) := by decide +kernel
theorem dX8_goActs_13 : decode cX8_goActs 13 = .ok (.bipush (-6), 2) := by decide +kernel
theorem dX8_goActs_15 : decode cX8_goActs 15 = .ok (.putfield 219, 3) := by decide +kernel
theorem dX8_goActs_18 : decode cX8_goActs 18 = .ok (.aload_n 0, 1) := by decide +kernel
theorem dX8_goActs_19 : decode cX8_goActs 19 = .ok (.bipush (-6), 2) := by decide +kernel
theorem dX8_goActs_21 : decode cX8_goActs 21 = .ok (.putfield 225, 3) := by decide +kernel
theorem dX8_goActs_24 : decode cX8_goActs 24 = .ok (.aload_n 0, 1) := by decide +kernel
theorem dX8_goActs_25 : decode cX8_goActs 25 = .ok (.iconst 0, 1) := by decide +kernel
theorem dX8_goActs_26 : decode cX8_goActs 26 = .ok (.putfield 213, 3) := by decide +kernel
theorem dX8_goActs_29 : decode cX8_goActs 29 = .ok (.iconst 0, 1) := by decide +kernel
theorem dX8_goActs_30 : decode cX8_goActs 30 = .ok (.istore_n 1, 1) := by decide +kernel
theorem dX8_goActs_31 : decode cX8_goActs 31 = .ok (.iload_n 1, 1) := by decide +kernel
theorem dX8_goActs_32 : decode cX8_goActs 32 = .ok (.aload_n 0, 1) := by decide +kernel
theorem dX8_goActs_33 : decode cX8_goActs 33 = .ok (.getfield 110, 3) := by decide +kernel
theorem dX8_goActs_36 : decode cX8_goActs 36 = .ok (.if_icmp .ge 82, 3) := by decide +kernel
theorem dX8_goActs_39 : decode cX8_goActs 39 = .ok (.aload_n 0, 1) := by decide +kernel
theorem dX8_goActs_40 : decode cX8_goActs 40 = .ok (.getfield 228, 3) := by decide +kernel
theorem dX8_goActs_43 : decode cX8_goActs 43 = .ok (.ifCond .ge 75, 3) := by decide +kernel
theorem dX8_goActs_46 : decode cX8_goActs 46 = .ok (.aload_n 0, 1) := by decide +kernel
theorem dX8_goActs_47 : decode cX8_goActs 47 = .ok (.aload_n 0, 1) := by decide +kernel
theorem dX8_goActs_48 : decode cX8_goActs 48 = .ok (.getfield 22, 3) := by decide +kernel
theorem dX8_goActs_51 : decode cX8_goActs 51 = .ok (.iload_n 1, 1) := by decide +kernel
theorem dX8_goActs_52 : decode cX8_goActs 52 = .ok (.iaload, 1) := by decide +kernel
theorem dX8_goActs_53 : decode cX8_goActs 53 = .ok (.aload_n 0, 1) := by decide +kernel
theorem dX8_goActs_54 : decode cX8_goActs 54 = .ok (.getfield 25, 3) := by decide +kernel
theorem dX8_goActs_57 : decode cX8_goActs 57 = .ok (.iload_n 1, 1) := by decide +kernel
theorem dX8_goActs_58 : decode cX8_goActs 58 = .ok (.iaload, 1) := by decide +kernel
theorem dX8_goActs_59 : decode cX8_goActs 59 = .ok (.aload_n 0, 1) := by decide +kernel
theorem dX8_goActs_60 : decode cX8_goActs 60 = .ok (.getfield 28, 3) := by decide +kernel
theorem dX8_goActs_63 : decode cX8_goActs 63 = .ok (.iload_n 1, 1) := by decide +kernel
theorem dX8_goActs_64 : decode cX8_goActs 64 = .ok (.iaload, 1) := by decide +kernel
theorem dX8_goActs_65 : decode cX8_goActs 65 = .ok (.aload_n 0, 1) := by decide +kernel
theorem dX8_goActs_66 : decode cX8_goActs 66 = .ok (.getfield 31, 3) := by decide +kernel
theorem dX8_goActs_69 : decode cX8_goActs 69 = .ok (.iload_n 1, 1) := by decide +kernel
theorem dX8_goActs_70 : decode cX8_goActs 70 = .ok (.iaload, 1) := by decide +kernel
theorem dX8_goActs_71 : decode cX8_goActs 71 = .ok (.invokevirtual 234, 3) := by decide +kernel
theorem dX8_goActs_74 : decode cX8_goActs 74 = .ok (.istore_n 2, 1) := by decide +kernel
theorem dX8_goActs_75 : decode cX8_goActs 75 = .ok (.aload_n 0, 1) := by decide +kernel
theorem dX8_goActs_76 : decode cX8_goActs 76 = .ok (.iload_n 2, 1) := by decide +kernel
theorem dX8_goActs_77 : decode cX8_goActs 77 = .ok (.ifCond .le 7, 3) := by decide +kernel
theorem dX8_goActs_80 : decode cX8_goActs 80 = .ok (.iload_n 1, 1) := by decide +kernel
theorem dX8_goActs_81 : decode cX8_goActs 81 = .ok (.goto 5, 3) := by decide +kernel
theorem dX8_goActs_84 : decode cX8_goActs 84 = .ok (.bipush (-6), 2) := by decide +kernel
theorem dX8_goActs_86 : decode cX8_goActs 86 = .ok (.putfield 228, 3) := by decide +kernel
theorem dX8_goActs_89 : decode cX8_goActs 89 = .ok (.aload_n 0, 1) := by decide +kernel
theorem dX8_goActs_90 : decode cX8_goActs 90 = .ok (.iload_n 2, 1) := by decide +kernel
theorem dX8_goActs_91 : decode cX8_goActs 91 = .ok (.ifCond .le 7, 3) := by decide +kernel
theorem dX8_goActs_94 : decode cX8_goActs 94 = .ok (.iload_n 2, 1) := by decide +kernel
theorem dX8_goActs_95 : decode cX8_goActs 95 = .ok (.goto 5, 3) := by decide +kernel
theorem dX8_goActs_98 : decode cX8_goActs 98 = .ok (.bipush (-6), 2) := by decide +kernel
theorem dX8_goActs_100 : decode cX8_goActs 100 = .ok (.putfield 231, 3) := by decide +kernel
theorem dX8_goActs_103 : decode cX8_goActs 103 = .ok (.iload_n 2, 1) := by decide +kernel
theorem dX8_goActs_104 : decode cX8_goActs 104 = .ok (.ifCond .ne 8, 3) := by decide +kernel
theorem dX8_goActs_107 : decode cX8_goActs 107 = .ok (.aload_n 0, 1) := by decide +kernel
theorem dX8_goActs_108 : decode cX8_goActs 108 = .ok (.iload_n 1, 1) := by decide +kernel
theorem dX8_goActs_109 : decode cX8_goActs 109 = .ok (.invokevirtual 238, 3) := by decide +kernel
theorem dX8_goActs_112 : decode cX8_goActs 112 = .ok (.iinc 1 1, 3) := by decide +kernel
theorem dX8_goActs_115 : decode cX8_goActs 115 = .ok (.goto (-84), 3) := by decide +kernel
theorem dX8_goActs_118 : decode cX8_goActs 118 = .ok (.return_, 1) := by decide +kernel
theorem dX8_refusal_0 : decode cX8_refusal 0 = .ok (.aload_n 0, 1) := by decide +kernel
theorem dX8_refusal_1 : decode cX8_refusal 1 = .ok (.invokevirtual 242, 3) := by decide +kernel
theorem dX8_refusal_4 : decode cX8_refusal 4 = .ok (.aload_n 0, 1) := by decide +kernel
theorem dX8_refusal_5 : decode cX8_refusal 5 = .ok (.iload_n 1, 1) := by decide +kernel
theorem dX8_refusal_6 : decode cX8_refusal 6 = .ok (.putfield 203, 3) := by decide +kernel
theorem dX8_refusal_9 : decode cX8_refusal 9 = .ok (.aload_n 0, 1) := by decide +kernel
theorem dX8_refusal_10 : decode cX8_refusal 10 = .ok (.invokevirtual 245, 3) := by decide +kernel
theorem dX8_refusal_13 : decode cX8_refusal 13 = .ok (.ifCond .lt 6, 3) := by decide +kernel
theorem dX8_refusal_16 : decode cX8_refusal 16 = .ok (.bipush (-5), 2) := by decide +kernel
theorem dX8_refusal_18 : decode cX8_refusal 18 = .ok (.ireturn, 1) := by decide +kernel
theorem dX8_refusal_19 : decode cX8_refusal 19 = .ok (.aload_n 0, 1) := by decide +kernel
theorem dX8_refusal_20 : decode cX8_refusal 20 = .ok (.invokevirtual 248, 3) := by decide +kernel
theorem dX8_refusal_23 : decode cX8_refusal 23 = .ok (.aload_n 0, 1) := by decide +kernel
theorem dX8_refusal_24 : decode cX8_refusal 24 = .ok (.getfield 228, 3) := by decide +kernel
theorem dX8_refusal_27 : decode cX8_refusal 27 = .ok (.ifCond .lt 8, 3) := by decide +kernel
theorem dX8_refusal_30 : decode cX8_refusal 30 = .ok (.bipush (-3), 2) := by decide +kernel
theorem dX8_refusal_32 : decode cX8_refusal 32 = .ok (.goto 5, 3) := by decide +kernel
theorem dX8_refusal_35 : decode cX8_refusal 35 = .ok (.bipush (-6), 2) := by decide +kernel
theorem dX8_refusal_37 : decode cX8_refusal 37 = .ok (.ireturn, 1) := by decide +kernel
theorem dX8_judge_0 : decode cX8_judge 0 = .ok (.iload_n 1, 1) := by decide +kernel
theorem dX8_judge_1 : decode cX8_judge 1 = .ok (.i2l, 1) := by decide +kernel
theorem dX8_judge_2 : decode cX8_judge 2 = .ok (.lconst 0, 1) := by decide +kernel
theorem dX8_judge_3 : decode cX8_judge 3 = .ok (.ldc2_w 251, 3) := by decide +kernel
theorem dX8_judge_6 : decode cX8_judge 6 = .ok (.invokestatic 68, 3) := by decide +kernel
theorem dX8_judge_9 : decode cX8_judge 9 = .ok (.ifCond .ne 6, 3) := by decide +kernel
theorem dX8_judge_12 : decode cX8_judge 12 = .ok (.bipush (-2), 2) := by decide +kernel
theorem dX8_judge_14 : decode cX8_judge 14 = .ok (.ireturn, 1) := by decide +kernel
theorem dX8_judge_15 : decode cX8_judge 15 = .ok (.aload_n 0, 1) := by decide +kernel
theorem dX8_judge_16 : decode cX8_judge 16 = .ok (.aload_n 0, 1) := by decide +kernel
theorem dX8_judge_17 : decode cX8_judge 17 = .ok (.iload_n 1, 1) := by decide +kernel
theorem dX8_judge_18 : decode cX8_judge 18 = .ok (.iconst 2, 1) := by decide +kernel
theorem dX8_judge_19 : decode cX8_judge 19 = .ok (.if_icmp .ne 7, 3) := by decide +kernel
theorem dX8_judge_22 : decode cX8_judge 22 = .ok (.iconst 1, 1) := by decide +kernel
theorem dX8_judge_23 : decode cX8_judge 23 = .ok (.goto 4, 3) := by decide +kernel
theorem dX8_judge_26 : decode cX8_judge 26 = .ok (.iconst 0, 1) := by decide +kernel
theorem dX8_judge_27 : decode cX8_judge 27 = .ok (.invokevirtual 253, 3) := by decide +kernel
theorem dX8_judge_30 : decode cX8_judge 30 = .ok (.invokevirtual 257, 3) := by decide +kernel
theorem dX8_judge_33 : decode cX8_judge 33 = .ok (.istore_n 2, 1) := by decide +kernel
theorem dX8_judge_34 : decode cX8_judge 34 = .ok (.iload_n 2, 1) := by decide +kernel
theorem dX8_judge_35 : decode cX8_judge 35 = .ok (.bipush (-5), 2) := by decide +kernel
theorem dX8_judge_37 : decode cX8_judge 37 = .ok (.if_icmp .eq 14, 3) := by decide +kernel
theorem dX8_judge_40 : decode cX8_judge 40 = .ok (.iload_n 1, 1) := by decide +kernel
theorem dX8_judge_41 : decode cX8_judge 41 = .ok (.iconst 1, 1) := by decide +kernel
theorem dX8_judge_42 : decode cX8_judge 42 = .ok (.if_icmp .le 11, 3) := by decide +kernel
theorem dX8_judge_45 : decode cX8_judge 45 = .ok (.iload_n 2, 1) := by decide +kernel
theorem dX8_judge_46 : decode cX8_judge 46 = .ok (.bipush (-3), 2) := by decide +kernel
theorem dX8_judge_48 : decode cX8_judge 48 = .ok (.if_icmp .ne 5, 3) := by decide +kernel
theorem dX8_judge_51 : decode cX8_judge 51 = .ok (.iload_n 2, 1) := by decide +kernel
theorem dX8_judge_52 : decode cX8_judge 52 = .ok (.ireturn, 1) := by decide +kernel
theorem dX8_judge_53 : decode cX8_judge 53 = .ok (.iload_n 1, 1) := by decide +kernel
theorem dX8_judge_54 : decode cX8_judge 54 = .ok (.ifCond .ne 10, 3) := by decide +kernel
theorem dX8_judge_57 : decode cX8_judge 57 = .ok (.aload_n 0, 1) := by decide +kernel
theorem dX8_judge_58 : decode cX8_judge 58 = .ok (.getfield 228, 3) := by decide +kernel
theorem dX8_judge_61 : decode cX8_judge 61 = .ok (.goto 19, 3) := by decide +kernel
theorem dX8_judge_64 : decode cX8_judge 64 = .ok (.iload_n 1, 1) := by decide +kernel
theorem dX8_judge_65 : decode cX8_judge 65 = .ok (.iconst 1, 1) := by decide +kernel
theorem dX8_judge_66 : decode cX8_judge 66 = .ok (.if_icmp .ne 10, 3) := by decide +kernel
theorem dX8_judge_69 : decode cX8_judge 69 = .ok (.aload_n 0, 1) := by decide +kernel
theorem dX8_judge_70 : decode cX8_judge 70 = .ok (.getfield 231, 3) := by decide +kernel
theorem dX8_judge_73 : decode cX8_judge 73 = .ok (.goto 7, 3) := by decide +kernel
theorem dX8_judge_76 : decode cX8_judge 76 = .ok (.aload_n 0, 1) := by decide +kernel
theorem dX8_judge_77 : decode cX8_judge 77 = .ok (.getfield 213, 3) := by decide +kernel
theorem dX8_judge_80 : decode cX8_judge 80 = .ok (.ireturn, 1) := by decide +kernel
theorem dX8_ofSet_0 : decode cX8_ofSet 0 = .ok (.aload_n 0, 1) := by decide +kernel
theorem dX8_ofSet_1 : decode cX8_ofSet 1 = .ok (.iload_n 1, 1) := by decide +kernel
theorem dX8_ofSet_2 : decode cX8_ofSet 2 = .ok (.iconst 0, 1) := by decide +kernel
theorem dX8_ofSet_3 : decode cX8_ofSet 3 = .ok (.bipush 49, 2) := by decide +kernel
theorem dX8_ofSet_5 : decode cX8_ofSet 5 = .ok (.invokevirtual 260, 3) := by decide +kernel
theorem dX8_ofSet_8 : decode cX8_ofSet 8 = .ok (.istore_n 3, 1) := by decide +kernel
theorem dX8_ofSet_9 : decode cX8_ofSet 9 = .ok (.aload_n 0, 1) := by decide +kernel
theorem dX8_ofSet_10 : decode cX8_ofSet 10 = .ok (.iload_n 1, 1) := by decide +kernel
theorem dX8_ofSet_11 : decode cX8_ofSet 11 = .ok (.iconst 0, 1) := by decide +kernel
theorem dX8_ofSet_12 : decode cX8_ofSet 12 = .ok (.bipush 49, 2) := by decide +kernel
theorem dX8_ofSet_14 : decode cX8_ofSet 14 = .ok (.invokevirtual 177, 3) := by decide +kernel
theorem dX8_ofSet_17 : decode cX8_ofSet 17 = .ok (.istore 4, 2) := by decide +kernel
theorem dX8_ofSet_19 : decode cX8_ofSet 19 = .ok (.iload_n 2, 1) := by decide +kernel
theorem dX8_ofSet_20 : decode cX8_ofSet 20 = .ok (.ifCond .ne 11, 3) := by decide +kernel
theorem dX8_ofSet_23 : decode cX8_ofSet 23 = .ok (.aload_n 0, 1) := by decide +kernel
theorem dX8_ofSet_24 : decode cX8_ofSet 24 = .ok (.iload_n 1, 1) := by decide +kernel
theorem dX8_ofSet_25 : decode cX8_ofSet 25 = .ok (.invokevirtual 99, 3) := by decide +kernel
theorem dX8_ofSet_28 : decode cX8_ofSet 28 = .ok (.goto 38, 3) := by decide +kernel
theorem dX8_ofSet_31 : decode cX8_ofSet 31 = .ok (.iload_n 2, 1) := by decide +kernel
theorem dX8_ofSet_32 : decode cX8_ofSet 32 = .ok (.iconst 1, 1) := by decide +kernel
theorem dX8_ofSet_33 : decode cX8_ofSet 33 = .ok (.if_icmp .ne 7, 3) := by decide +kernel
theorem dX8_ofSet_36 : decode cX8_ofSet 36 = .ok (.iload_n 3, 1) := by decide +kernel
theorem dX8_ofSet_37 : decode cX8_ofSet 37 = .ok (.goto 29, 3) := by decide +kernel
theorem dX8_ofSet_40 : decode cX8_ofSet 40 = .ok (.iload_n 2, 1) := by decide +kernel
theorem dX8_ofSet_41 : decode cX8_ofSet 41 = .ok (.iconst 2, 1) := by decide +kernel
theorem dX8_ofSet_42 : decode cX8_ofSet 42 = .ok (.if_icmp .ne 8, 3) := by decide +kernel
theorem dX8_ofSet_45 : decode cX8_ofSet 45 = .ok (.iload 4, 2) := by decide +kernel
theorem dX8_ofSet_47 : decode cX8_ofSet 47 = .ok (.goto 19, 3) := by decide +kernel
theorem dX8_ofSet_50 : decode cX8_ofSet 50 = .ok (.iload 4, 2) := by decide +kernel
theorem dX8_ofSet_52 : decode cX8_ofSet 52 = .ok (.ifCond .ge 7, 3) := by decide +kernel
theorem dX8_ofSet_55 : decode cX8_ofSet 55 = .ok (.iconst 0, 1) := by decide +kernel
theorem dX8_ofSet_56 : decode cX8_ofSet 56 = .ok (.goto 10, 3) := by decide +kernel
theorem dX8_ofSet_59 : decode cX8_ofSet 59 = .ok (.aload_n 0, 1) := by decide +kernel
theorem dX8_ofSet_60 : decode cX8_ofSet 60 = .ok (.getfield 41, 3) := by decide +kernel
theorem dX8_ofSet_63 : decode cX8_ofSet 63 = .ok (.iload 4, 2) := by decide +kernel
theorem dX8_ofSet_65 : decode cX8_ofSet 65 = .ok (.iaload, 1) := by decide +kernel
theorem dX8_ofSet_66 : decode cX8_ofSet 66 = .ok (.ireturn, 1) := by decide +kernel
theorem dX8_behind_0 : decode cX8_behind 0 = .ok (.iload_n 1, 1) := by decide +kernel
theorem dX8_behind_1 : decode cX8_behind 1 = .ok (.invokestatic 88, 3) := by decide +kernel
theorem dX8_behind_4 : decode cX8_behind 4 = .ok (.ifCond .ne 5, 3) := by decide +kernel
theorem dX8_behind_7 : decode cX8_behind 7 = .ok (.iconst (-1), 1) := by decide +kernel
theorem dX8_behind_8 : decode cX8_behind 8 = .ok (.ireturn, 1) := by decide +kernel
theorem dX8_behind_9 : decode cX8_behind 9 = .ok (.iload_n 2, 1) := by decide +kernel
theorem dX8_behind_10 : decode cX8_behind 10 = .ok (.i2l, 1) := by decide +kernel
theorem dX8_behind_11 : decode cX8_behind 11 = .ok (.lconst 0, 1) := by decide +kernel
theorem dX8_behind_12 : decode cX8_behind 12 = .ok (.ldc2_w 66, 3) := by decide +kernel
theorem dX8_behind_15 : decode cX8_behind 15 = .ok (.invokestatic 68, 3) := by decide +kernel
theorem dX8_behind_18 : decode cX8_behind 18 = .ok (.ifCond .ne 6, 3) := by decide +kernel
theorem dX8_behind_21 : decode cX8_behind 21 = .ok (.bipush (-2), 2) := by decide +kernel
theorem dX8_behind_23 : decode cX8_behind 23 = .ok (.ireturn, 1) := by decide +kernel
theorem dX8_behind_24 : decode cX8_behind 24 = .ok (.aload_n 0, 1) := by decide +kernel
theorem dX8_behind_25 : decode cX8_behind 25 = .ok (.iconst 0, 1) := by decide +kernel
theorem dX8_behind_26 : decode cX8_behind 26 = .ok (.invokevirtual 253, 3) := by decide +kernel
theorem dX8_behind_29 : decode cX8_behind 29 = .ok (.istore_n 3, 1) := by decide +kernel
theorem dX8_behind_30 : decode cX8_behind 30 = .ok (.aload_n 0, 1) := by decide +kernel
theorem dX8_behind_31 : decode cX8_behind 31 = .ok (.iload_n 3, 1) := by decide +kernel
theorem dX8_behind_32 : decode cX8_behind 32 = .ok (.bipush (-6), 2) := by decide +kernel
theorem dX8_behind_34 : decode cX8_behind 34 = .ok (.if_icmp .eq 7, 3) := by decide +kernel
theorem dX8_behind_37 : decode cX8_behind 37 = .ok (.iload_n 3, 1) := by decide +kernel
theorem dX8_behind_38 : decode cX8_behind 38 = .ok (.goto 9, 3) := by decide +kernel
theorem dX8_behind_41 : decode cX8_behind 41 = .ok (.aload_n 0, 1) := by decide +kernel
theorem dX8_behind_42 : decode cX8_behind 42 = .ok (.iload_n 1, 1) := by decide +kernel
theorem dX8_behind_43 : decode cX8_behind 43 = .ok (.iload_n 2, 1) := by decide +kernel
theorem dX8_behind_44 : decode cX8_behind 44 = .ok (.invokevirtual 263, 3) := by decide +kernel
theorem dX8_behind_47 : decode cX8_behind 47 = .ok (.invokevirtual 257, 3) := by decide +kernel
theorem dX8_behind_50 : decode cX8_behind 50 = .ok (.ireturn, 1) := by decide +kernel
theorem dX8_alike_0 : decode cX8_alike 0 = .ok (.iload_n 1, 1) := by decide +kernel
theorem dX8_alike_1 : decode cX8_alike 1 = .ok (.i2l, 1) := by decide +kernel
theorem dX8_alike_2 : decode cX8_alike 2 = .ok (.lconst 0, 1) := by decide +kernel
theorem dX8_alike_3 : decode cX8_alike 3 = .ok (.ldc2_w 251, 3) := by decide +kernel
theorem dX8_alike_6 : decode cX8_alike 6 = .ok (.invokestatic 68, 3) := by decide +kernel
theorem dX8_alike_9 : decode cX8_alike 9 = .ok (.ifCond .ne 6, 3) := by decide +kernel
theorem dX8_alike_12 : decode cX8_alike 12 = .ok (.bipush (-2), 2) := by decide +kernel
theorem dX8_alike_14 : decode cX8_alike 14 = .ok (.ireturn, 1) := by decide +kernel
theorem dX8_alike_15 : decode cX8_alike 15 = .ok (.aload_n 0, 1) := by decide +kernel
theorem dX8_alike_16 : decode cX8_alike 16 = .ok (.iconst 0, 1) := by decide +kernel
theorem dX8_alike_17 : decode cX8_alike 17 = .ok (.invokevirtual 253, 3) := by decide +kernel
theorem dX8_alike_20 : decode cX8_alike 20 = .ok (.istore_n 2, 1) := by decide +kernel
theorem dX8_alike_21 : decode cX8_alike 21 = .ok (.aload_n 0, 1) := by decide +kernel
theorem dX8_alike_22 : decode cX8_alike 22 = .ok (.iload_n 2, 1) := by decide +kernel
theorem dX8_alike_23 : decode cX8_alike 23 = .ok (.bipush (-6), 2) := by decide +kernel
theorem dX8_alike_25 : decode cX8_alike 25 = .ok (.if_icmp .eq 7, 3) := by decide +kernel
theorem dX8_alike_28 : decode cX8_alike 28 = .ok (.iload_n 2, 1) := by decide +kernel
theorem dX8_alike_29 : decode cX8_alike 29 = .ok (.goto 30, 3) := by decide +kernel
theorem dX8_alike_32 : decode cX8_alike 32 = .ok (.iload_n 1, 1) := by decide +kernel
theorem dX8_alike_33 : decode cX8_alike 33 = .ok (.ifCond .ne 10, 3) := by decide +kernel
theorem dX8_alike_36 : decode cX8_alike 36 = .ok (.aload_n 0, 1) := by decide +kernel
theorem dX8_alike_37 : decode cX8_alike 37 = .ok (.getfield 219, 3) := by decide +kernel
theorem dX8_alike_40 : decode cX8_alike 40 = .ok (.goto 19, 3) := by decide +kernel
theorem dX8_alike_43 : decode cX8_alike 43 = .ok (.iload_n 1, 1) := by decide +kernel
theorem dX8_alike_44 : decode cX8_alike 44 = .ok (.iconst 1, 1) := by decide +kernel
theorem dX8_alike_45 : decode cX8_alike 45 = .ok (.if_icmp .ne 10, 3) := by decide +kernel
theorem dX8_alike_48 : decode cX8_alike 48 = .ok (.aload_n 0, 1) := by decide +kernel
theorem dX8_alike_49 : decode cX8_alike 49 = .ok (.getfield 225, 3) := by decide +kernel
theorem dX8_alike_52 : decode cX8_alike 52 = .ok (.goto 7, 3) := by decide +kernel
theorem dX8_alike_55 : decode cX8_alike 55 = .ok (.aload_n 0, 1) := by decide +kernel
theorem dX8_alike_56 : decode cX8_alike 56 = .ok (.getfield 78, 3) := by decide +kernel
theorem dX8_alike_59 : decode cX8_alike 59 = .ok (.invokevirtual 257, 3) := by decide +kernel
theorem dX8_alike_62 : decode cX8_alike 62 = .ok (.ireturn, 1) := by decide +kernel
theorem dX8_done_0 : decode cX8_done 0 = .ok (.aload_n 0, 1) := by decide +kernel
theorem dX8_done_1 : decode cX8_done 1 = .ok (.iconst 0, 1) := by decide +kernel
theorem dX8_done_2 : decode cX8_done 2 = .ok (.invokevirtual 253, 3) := by decide +kernel
theorem dX8_done_5 : decode cX8_done 5 = .ok (.istore_n 1, 1) := by decide +kernel
theorem dX8_done_6 : decode cX8_done 6 = .ok (.iload_n 1, 1) := by decide +kernel
theorem dX8_done_7 : decode cX8_done 7 = .ok (.bipush (-6), 2) := by decide +kernel
theorem dX8_done_9 : decode cX8_done 9 = .ok (.if_icmp .eq 9, 3) := by decide +kernel
theorem dX8_done_12 : decode cX8_done 12 = .ok (.aload_n 0, 1) := by decide +kernel
theorem dX8_done_13 : decode cX8_done 13 = .ok (.iload_n 1, 1) := by decide +kernel
theorem dX8_done_14 : decode cX8_done 14 = .ok (.invokevirtual 257, 3) := by decide +kernel
theorem dX8_done_17 : decode cX8_done 17 = .ok (.ireturn, 1) := by decide +kernel
theorem dX8_done_18 : decode cX8_done 18 = .ok (.aload_n 0, 1) := by decide +kernel
theorem dX8_done_19 : decode cX8_done 19 = .ok (.iconst 0, 1) := by decide +kernel
theorem dX8_done_20 : decode cX8_done 20 = .ok (.putfield 107, 3) := by decide +kernel
theorem dX8_done_23 : decode cX8_done 23 = .ok (.aload_n 0, 1) := by decide +kernel
theorem dX8_done_24 : decode cX8_done 24 = .ok (.getfield 110, 3) := by decide +kernel
theorem dX8_done_27 : decode cX8_done 27 = .ok (.ireturn, 1) := by decide +kernel
theorem dX8_aboveOf_0 : decode cX8_aboveOf 0 = .ok (.aload_n 0, 1) := by decide +kernel
theorem dX8_aboveOf_1 : decode cX8_aboveOf 1 = .ok (.iload_n 1, 1) := by decide +kernel
theorem dX8_aboveOf_2 : decode cX8_aboveOf 2 = .ok (.iload_n 2, 1) := by decide +kernel
theorem dX8_aboveOf_3 : decode cX8_aboveOf 3 = .ok (.iconst 0, 1) := by decide +kernel
theorem dX8_aboveOf_4 : decode cX8_aboveOf 4 = .ok (.invokevirtual 174, 3) := by decide +kernel
theorem dX8_aboveOf_7 : decode cX8_aboveOf 7 = .ok (.istore_n 3, 1) := by decide +kernel
theorem dX8_aboveOf_8 : decode cX8_aboveOf 8 = .ok (.aload_n 0, 1) := by decide +kernel
theorem dX8_aboveOf_9 : decode cX8_aboveOf 9 = .ok (.iload_n 1, 1) := by decide +kernel
theorem dX8_aboveOf_10 : decode cX8_aboveOf 10 = .ok (.iload_n 2, 1) := by decide +kernel
theorem dX8_aboveOf_11 : decode cX8_aboveOf 11 = .ok (.bipush 49, 2) := by decide +kernel
theorem dX8_aboveOf_13 : decode cX8_aboveOf 13 = .ok (.invokevirtual 171, 3) := by decide +kernel
theorem dX8_aboveOf_16 : decode cX8_aboveOf 16 = .ok (.istore 4, 2) := by decide +kernel
theorem dX8_aboveOf_18 : decode cX8_aboveOf 18 = .ok (.iload_n 3, 1) := by decide +kernel
theorem dX8_aboveOf_19 : decode cX8_aboveOf 19 = .ok (.ifCond .ge 18, 3) := by decide +kernel
theorem dX8_aboveOf_22 : decode cX8_aboveOf 22 = .ok (.iload 4, 2) := by decide +kernel
theorem dX8_aboveOf_24 : decode cX8_aboveOf 24 = .ok (.bipush 50, 2) := by decide +kernel
theorem dX8_aboveOf_26 : decode cX8_aboveOf 26 = .ok (.if_icmp .ge 8, 3) := by decide +kernel
theorem dX8_aboveOf_29 : decode cX8_aboveOf 29 = .ok (.iload 4, 2) := by decide +kernel
theorem dX8_aboveOf_31 : decode cX8_aboveOf 31 = .ok (.goto 5, 3) := by decide +kernel
theorem dX8_aboveOf_34 : decode cX8_aboveOf 34 = .ok (.bipush (-6), 2) := by decide +kernel
theorem dX8_aboveOf_36 : decode cX8_aboveOf 36 = .ok (.ireturn, 1) := by decide +kernel
theorem dX8_aboveOf_37 : decode cX8_aboveOf 37 = .ok (.iload 4, 2) := by decide +kernel
theorem dX8_aboveOf_39 : decode cX8_aboveOf 39 = .ok (.bipush 50, 2) := by decide +kernel
theorem dX8_aboveOf_41 : decode cX8_aboveOf 41 = .ok (.if_icmp .eq 13, 3) := by decide +kernel
theorem dX8_aboveOf_44 : decode cX8_aboveOf 44 = .ok (.aload_n 0, 1) := by decide +kernel
theorem dX8_aboveOf_45 : decode cX8_aboveOf 45 = .ok (.iload 4, 2) := by decide +kernel
theorem dX8_aboveOf_47 : decode cX8_aboveOf 47 = .ok (.iload_n 3, 1) := by decide +kernel
theorem dX8_aboveOf_48 : decode cX8_aboveOf 48 = .ok (.invokevirtual 168, 3) := by decide +kernel
theorem dX8_aboveOf_51 : decode cX8_aboveOf 51 = .ok (.ifCond .eq 7, 3) := by decide +kernel
theorem dX8_aboveOf_54 : decode cX8_aboveOf 54 = .ok (.iload_n 3, 1) := by decide +kernel
theorem dX8_aboveOf_55 : decode cX8_aboveOf 55 = .ok (.goto 5, 3) := by decide +kernel
theorem dX8_aboveOf_58 : decode cX8_aboveOf 58 = .ok (.iload 4, 2) := by decide +kernel
theorem dX8_aboveOf_60 : decode cX8_aboveOf 60 = .ok (.ireturn, 1) := by decide +kernel
theorem dX8_depthOf_0 : decode cX8_depthOf 0 = .ok (.iconst 0, 1) := by decide +kernel
theorem dX8_depthOf_1 : decode cX8_depthOf 1 = .ok (.istore_n 3, 1) := by decide +kernel
theorem dX8_depthOf_2 : decode cX8_depthOf 2 = .ok (.aload_n 0, 1) := by decide +kernel
theorem dX8_depthOf_3 : decode cX8_depthOf 3 = .ok (.iload_n 1, 1) := by decide +kernel
theorem dX8_depthOf_4 : decode cX8_depthOf 4 = .ok (.iload_n 2, 1) := by decide +kernel
theorem dX8_depthOf_5 : decode cX8_depthOf 5 = .ok (.invokevirtual 266, 3) := by decide +kernel
theorem dX8_depthOf_8 : decode cX8_depthOf 8 = .ok (.istore 4, 2) := by decide +kernel
theorem dX8_depthOf_10 : decode cX8_depthOf 10 = .ok (.iload 4, 2) := by decide +kernel
theorem dX8_depthOf_12 : decode cX8_depthOf 12 = .ok (.ifCond .lt 18, 3) := by decide +kernel
theorem dX8_depthOf_15 : decode cX8_depthOf 15 = .ok (.iinc 3 1, 3) := by decide +kernel
theorem dX8_depthOf_18 : decode cX8_depthOf 18 = .ok (.aload_n 0, 1) := by decide +kernel
theorem dX8_depthOf_19 : decode cX8_depthOf 19 = .ok (.iload_n 1, 1) := by decide +kernel
theorem dX8_depthOf_20 : decode cX8_depthOf 20 = .ok (.iload 4, 2) := by decide +kernel
theorem dX8_depthOf_22 : decode cX8_depthOf 22 = .ok (.invokevirtual 266, 3) := by decide +kernel
theorem dX8_depthOf_25 : decode cX8_depthOf 25 = .ok (.istore 4, 2) := by decide +kernel
theorem dX8_depthOf_27 : decode cX8_depthOf 27 = .ok (.goto (-17), 3) := by decide +kernel
theorem dX8_depthOf_30 : decode cX8_depthOf 30 = .ok (.iload_n 3, 1) := by decide +kernel
theorem dX8_depthOf_31 : decode cX8_depthOf 31 = .ok (.ireturn, 1) := by decide +kernel
theorem dX8_digestAt_0 : decode cX8_digestAt 0 = .ok (.aload_n 0, 1) := by decide +kernel
theorem dX8_digestAt_1 : decode cX8_digestAt 1 = .ok (.iload_n 1, 1) := by decide +kernel
theorem dX8_digestAt_2 : decode cX8_digestAt 2 = .ok (.iconst 0, 1) := by decide +kernel
theorem dX8_digestAt_3 : decode cX8_digestAt 3 = .ok (.bipush 49, 2) := by decide +kernel
theorem dX8_digestAt_5 : decode cX8_digestAt 5 = .ok (.invokevirtual 260, 3) := by decide +kernel
theorem dX8_digestAt_8 : decode cX8_digestAt 8 = .ok (.pop, 1) := by decide +kernel
theorem dX8_digestAt_9 : decode cX8_digestAt 9 = .ok (.aload_n 0, 1) := by decide +kernel
theorem dX8_digestAt_10 : decode cX8_digestAt 10 = .ok (.getfield 37, 3) := by decide +kernel
theorem dX8_digestAt_13 : decode cX8_digestAt 13 = .ok (.iload_n 2, 1) := by decide +kernel
theorem dX8_digestAt_14 : decode cX8_digestAt 14 = .ok (.laload, 1) := by decide +kernel
theorem dX8_digestAt_15 : decode cX8_digestAt 15 = .ok (.l2i, 1) := by decide +kernel
theorem dX8_digestAt_16 : decode cX8_digestAt 16 = .ok (.ireturn, 1) := by decide +kernel
theorem dX8_node_0 : decode cX8_node 0 = .ok (.iload_n 1, 1) := by decide +kernel
theorem dX8_node_1 : decode cX8_node 1 = .ok (.invokestatic 88, 3) := by decide +kernel
theorem dX8_node_4 : decode cX8_node 4 = .ok (.ifCond .eq 10, 3) := by decide +kernel
theorem dX8_node_7 : decode cX8_node 7 = .ok (.iload_n 2, 1) := by decide +kernel
theorem dX8_node_8 : decode cX8_node 8 = .ok (.invokestatic 92, 3) := by decide +kernel
theorem dX8_node_11 : decode cX8_node 11 = .ok (.ifCond .ne 5, 3) := by decide +kernel
theorem dX8_node_14 : decode cX8_node 14 = .ok (.iconst (-1), 1) := by decide +kernel
theorem dX8_node_15 : decode cX8_node 15 = .ok (.ireturn, 1) := by decide +kernel
theorem dX8_node_16 : decode cX8_node 16 = .ok (.iload_n 3, 1) := by decide +kernel
theorem dX8_node_17 : decode cX8_node 17 = .ok (.i2l, 1) := by decide +kernel
theorem dX8_node_18 : decode cX8_node 18 = .ok (.lconst 0, 1) := by decide +kernel
theorem dX8_node_19 : decode cX8_node 19 = .ok (.ldc2_w 269, 3) := by decide +kernel
theorem dX8_node_22 : decode cX8_node 22 = .ok (.invokestatic 68, 3) := by decide +kernel
theorem dX8_node_25 : decode cX8_node 25 = .ok (.ifCond .ne 6, 3) := by decide +kernel
theorem dX8_node_28 : decode cX8_node 28 = .ok (.bipush (-2), 2) := by decide +kernel
theorem dX8_node_30 : decode cX8_node 30 = .ok (.ireturn, 1) := by decide +kernel
theorem dX8_node_31 : decode cX8_node 31 = .ok (.aload_n 0, 1) := by decide +kernel
theorem dX8_node_32 : decode cX8_node 32 = .ok (.iload_n 1, 1) := by decide +kernel
theorem dX8_node_33 : decode cX8_node 33 = .ok (.iload_n 2, 1) := by decide +kernel
theorem dX8_node_34 : decode cX8_node 34 = .ok (.invokevirtual 95, 3) := by decide +kernel
theorem dX8_node_37 : decode cX8_node 37 = .ok (.ifCond .ne 6, 3) := by decide +kernel
theorem dX8_node_40 : decode cX8_node 40 = .ok (.bipush (-3), 2) := by decide +kernel
theorem dX8_node_42 : decode cX8_node 42 = .ok (.ireturn, 1) := by decide +kernel
theorem dX8_node_43 : decode cX8_node 43 = .ok (.iload_n 3, 1) := by decide +kernel
theorem dX8_node_44 : decode cX8_node 44 = .ok (.tableswitch 108 0 5 #[40, 47, 65, 84, 94, 101], 40) := by decide +kernel
theorem dX8_node_84 : decode cX8_node 84 = .ok (.aload_n 0, 1) := by decide +kernel
theorem dX8_node_85 : decode cX8_node 85 = .ok (.iload_n 1, 1) := by decide +kernel
theorem dX8_node_86 : decode cX8_node 86 = .ok (.iload_n 2, 1) := by decide +kernel
theorem dX8_node_87 : decode cX8_node 87 = .ok (.invokevirtual 266, 3) := by decide +kernel
theorem dX8_node_90 : decode cX8_node 90 = .ok (.ireturn, 1) := by decide +kernel
theorem dX8_node_91 : decode cX8_node 91 = .ok (.aload_n 0, 1) := by decide +kernel
theorem dX8_node_92 : decode cX8_node 92 = .ok (.iload_n 1, 1) := by decide +kernel
theorem dX8_node_93 : decode cX8_node 93 = .ok (.aload_n 0, 1) := by decide +kernel
theorem dX8_node_94 : decode cX8_node 94 = .ok (.iload_n 1, 1) := by decide +kernel
theorem dX8_node_95 : decode cX8_node 95 = .ok (.iload_n 2, 1) := by decide +kernel
theorem dX8_node_96 : decode cX8_node 96 = .ok (.iconst 0, 1) := by decide +kernel
theorem dX8_node_97 : decode cX8_node 97 = .ok (.invokevirtual 174, 3) := by decide +kernel
theorem dX8_node_100 : decode cX8_node 100 = .ok (.iconst 1, 1) := by decide +kernel
theorem dX8_node_101 : decode cX8_node 101 = .ok (.iadd, 1) := by decide +kernel
theorem dX8_node_102 : decode cX8_node 102 = .ok (.iload_n 2, 1) := by decide +kernel
theorem dX8_node_103 : decode cX8_node 103 = .ok (.iconst 1, 1) := by decide +kernel
theorem dX8_node_104 : decode cX8_node 104 = .ok (.isub, 1) := by decide +kernel
theorem dX8_node_105 : decode cX8_node 105 = .ok (.invokevirtual 177, 3) := by decide +kernel
theorem dX8_node_108 : decode cX8_node 108 = .ok (.ireturn, 1) := by decide +kernel
theorem dX8_node_109 : decode cX8_node 109 = .ok (.aload_n 0, 1) := by decide +kernel
theorem dX8_node_110 : decode cX8_node 110 = .ok (.iload_n 1, 1) := by decide +kernel
theorem dX8_node_111 : decode cX8_node 111 = .ok (.iload_n 2, 1) := by decide +kernel
theorem dX8_node_112 : decode cX8_node 112 = .ok (.iconst 1, 1) := by decide +kernel
theorem dX8_node_113 : decode cX8_node 113 = .ok (.iadd, 1) := by decide +kernel
theorem dX8_node_114 : decode cX8_node 114 = .ok (.aload_n 0, 1) := by decide +kernel
theorem dX8_node_115 : decode cX8_node 115 = .ok (.iload_n 1, 1) := by decide +kernel
theorem dX8_node_116 : decode cX8_node 116 = .ok (.iload_n 2, 1) := by decide +kernel
theorem dX8_node_117 : decode cX8_node 117 = .ok (.bipush 49, 2) := by decide +kernel
theorem dX8_node_119 : decode cX8_node 119 = .ok (.invokevirtual 171, 3) := by decide +kernel
theorem dX8_node_122 : decode cX8_node 122 = .ok (.iconst 1, 1) := by decide +kernel
theorem dX8_node_123 : decode cX8_node 123 = .ok (.isub, 1) := by decide +kernel
theorem dX8_node_124 : decode cX8_node 124 = .ok (.invokevirtual 177, 3) := by decide +kernel
theorem dX8_node_127 : decode cX8_node 127 = .ok (.ireturn, 1) := by decide +kernel
theorem dX8_node_128 : decode cX8_node 128 = .ok (.aload_n 0, 1) := by decide +kernel
theorem dX8_node_129 : decode cX8_node 129 = .ok (.iload_n 1, 1) := by decide +kernel
theorem dX8_node_130 : decode cX8_node 130 = .ok (.iload_n 2, 1) := by decide +kernel
theorem dX8_node_131 : decode cX8_node 131 = .ok (.invokevirtual 193, 3) := by decide +kernel
theorem dX8_node_134 : decode cX8_node 134 = .ok (.invokestatic 271, 3) := by decide +kernel
theorem dX8_node_137 : decode cX8_node 137 = .ok (.ireturn, 1) := by decide +kernel
theorem dX8_node_138 : decode cX8_node 138 = .ok (.aload_n 0, 1) := by decide +kernel
theorem dX8_node_139 : decode cX8_node 139 = .ok (.iload_n 1, 1) := by decide +kernel
theorem dX8_node_140 : decode cX8_node 140 = .ok (.iload_n 2, 1) := by decide +kernel
theorem dX8_node_141 : decode cX8_node 141 = .ok (.invokevirtual 275, 3) := by decide +kernel
theorem dX8_node_144 : decode cX8_node 144 = .ok (.ireturn, 1) := by decide +kernel
theorem dX8_node_145 : decode cX8_node 145 = .ok (.aload_n 0, 1) := by decide +kernel
theorem dX8_node_146 : decode cX8_node 146 = .ok (.iload_n 1, 1) := by decide +kernel
theorem dX8_node_147 : decode cX8_node 147 = .ok (.iload_n 2, 1) := by decide +kernel
theorem dX8_node_148 : decode cX8_node 148 = .ok (.invokevirtual 278, 3) := by decide +kernel
theorem dX8_node_151 : decode cX8_node 151 = .ok (.ireturn, 1) := by decide +kernel
theorem dX8_node_152 : decode cX8_node 152 = .ok (.aload_n 0, 1) := by decide +kernel
theorem dX8_node_153 : decode cX8_node 153 = .ok (.getfield 78, 3) := by decide +kernel
theorem dX8_node_156 : decode cX8_node 156 = .ok (.iload_n 2, 1) := by decide +kernel
theorem dX8_node_157 : decode cX8_node 157 = .ok (.invokestatic 74, 3) := by decide +kernel
theorem dX8_node_160 : decode cX8_node 160 = .ok (.ireturn, 1) := by decide +kernel
theorem dX8_place_0 : decode cX8_place 0 = .ok (.iload_n 1, 1) := by decide +kernel
theorem dX8_place_1 : decode cX8_place 1 = .ok (.invokestatic 88, 3) := by decide +kernel
theorem dX8_place_4 : decode cX8_place 4 = .ok (.ifCond .eq 10, 3) := by decide +kernel
theorem dX8_place_7 : decode cX8_place 7 = .ok (.iload_n 2, 1) := by decide +kernel
theorem dX8_place_8 : decode cX8_place 8 = .ok (.invokestatic 92, 3) := by decide +kernel
theorem dX8_place_11 : decode cX8_place 11 = .ok (.ifCond .ne 5, 3) := by decide +kernel
theorem dX8_place_14 : decode cX8_place 14 = .ok (.iconst (-1), 1) := by decide +kernel
theorem dX8_place_15 : decode cX8_place 15 = .ok (.ireturn, 1) := by decide +kernel
theorem dX8_place_16 : decode cX8_place 16 = .ok (.iconst 0, 1) := by decide +kernel
theorem dX8_place_17 : decode cX8_place 17 = .ok (.istore_n 3, 1) := by decide +kernel
theorem dX8_place_18 : decode cX8_place 18 = .ok (.iconst 0, 1) := by decide +kernel
theorem dX8_place_19 : decode cX8_place 19 = .ok (.istore 4, 2) := by decide +kernel
theorem dX8_place_21 : decode cX8_place 21 = .ok (.iload 4, 2) := by decide +kernel
theorem dX8_place_23 : decode cX8_place 23 = .ok (.iload_n 2, 1) := by decide +kernel
theorem dX8_place_24 : decode cX8_place 24 = .ok (.if_icmp .ge 24, 3) := by decide +kernel
theorem dX8_place_27 : decode cX8_place 27 = .ok (.iload_n 3, 1) := by decide +kernel
theorem dX8_place_28 : decode cX8_place 28 = .ok (.aload_n 0, 1) := by decide +kernel
theorem dX8_place_29 : decode cX8_place 29 = .ok (.getfield 7, 3) := by decide +kernel
theorem dX8_place_32 : decode cX8_place 32 = .ok (.bipush 50, 2) := by decide +kernel
theorem dX8_place_34 : decode cX8_place 34 = .ok (.iload_n 1, 1) := by decide +kernel
theorem dX8_place_35 : decode cX8_place 35 = .ok (.imul, 1) := by decide +kernel
theorem dX8_place_36 : decode cX8_place 36 = .ok (.iload 4, 2) := by decide +kernel
theorem dX8_place_38 : decode cX8_place 38 = .ok (.iadd, 1) := by decide +kernel
theorem dX8_place_39 : decode cX8_place 39 = .ok (.iaload, 1) := by decide +kernel
theorem dX8_place_40 : decode cX8_place 40 = .ok (.iadd, 1) := by decide +kernel
theorem dX8_place_41 : decode cX8_place 41 = .ok (.istore_n 3, 1) := by decide +kernel
theorem dX8_place_42 : decode cX8_place 42 = .ok (.iinc 4 1, 3) := by decide +kernel
theorem dX8_place_45 : decode cX8_place 45 = .ok (.goto (-24), 3) := by decide +kernel
theorem dX8_place_48 : decode cX8_place 48 = .ok (.iload_n 3, 1) := by decide +kernel
theorem dX8_place_49 : decode cX8_place 49 = .ok (.ireturn, 1) := by decide +kernel
theorem dX8_at_0 : decode cX8_at 0 = .ok (.iload_n 1, 1) := by decide +kernel
theorem dX8_at_1 : decode cX8_at 1 = .ok (.invokestatic 88, 3) := by decide +kernel
theorem dX8_at_4 : decode cX8_at 4 = .ok (.ifCond .ne 5, 3) := by decide +kernel
theorem dX8_at_7 : decode cX8_at 7 = .ok (.iconst (-1), 1) := by decide +kernel
theorem dX8_at_8 : decode cX8_at 8 = .ok (.ireturn, 1) := by decide +kernel
theorem dX8_at_9 : decode cX8_at 9 = .ok (.iconst 0, 1) := by decide +kernel
theorem dX8_at_10 : decode cX8_at 10 = .ok (.istore_n 3, 1) := by decide +kernel
theorem dX8_at_11 : decode cX8_at 11 = .ok (.iconst 0, 1) := by decide +kernel
theorem dX8_at_12 : decode cX8_at 12 = .ok (.istore 4, 2) := by decide +kernel
theorem dX8_at_14 : decode cX8_at 14 = .ok (.iload 4, 2) := by decide +kernel
theorem dX8_at_16 : decode cX8_at 16 = .ok (.bipush 50, 2) := by decide +kernel
theorem dX8_at_18 : decode cX8_at 18 = .ok (.if_icmp .ge 30, 3) := by decide +kernel
theorem dX8_at_21 : decode cX8_at 21 = .ok (.aload_n 0, 1) := by decide +kernel
theorem dX8_at_22 : decode cX8_at 22 = .ok (.iload_n 1, 1) := by decide +kernel
theorem dX8_at_23 : decode cX8_at 23 = .ok (.iload 4, 2) := by decide +kernel
theorem dX8_at_25 : decode cX8_at 25 = .ok (.invokevirtual 95, 3) := by decide +kernel
theorem dX8_at_28 : decode cX8_at 28 = .ok (.ifCond .eq 14, 3) := by decide +kernel
theorem dX8_at_31 : decode cX8_at 31 = .ok (.iload_n 3, 1) := by decide +kernel
theorem dX8_at_32 : decode cX8_at 32 = .ok (.iload_n 2, 1) := by decide +kernel
theorem dX8_at_33 : decode cX8_at 33 = .ok (.if_icmp .ne 6, 3) := by decide +kernel
theorem dX8_at_36 : decode cX8_at 36 = .ok (.iload 4, 2) := by decide +kernel
theorem dX8_at_38 : decode cX8_at 38 = .ok (.ireturn, 1) := by decide +kernel
theorem dX8_at_39 : decode cX8_at 39 = .ok (.iinc 3 1, 3) := by decide +kernel
theorem dX8_at_42 : decode cX8_at 42 = .ok (.iinc 4 1, 3) := by decide +kernel
theorem dX8_at_45 : decode cX8_at 45 = .ok (.goto (-31), 3) := by decide +kernel
theorem dX8_at_48 : decode cX8_at 48 = .ok (.bipush (-6), 2) := by decide +kernel
theorem dX8_at_50 : decode cX8_at 50 = .ok (.ireturn, 1) := by decide +kernel
theorem dX8_partsAt_0 : decode cX8_partsAt 0 = .ok (.aload_n 0, 1) := by decide +kernel
theorem dX8_partsAt_1 : decode cX8_partsAt 1 = .ok (.iload_n 1, 1) := by decide +kernel
theorem dX8_partsAt_2 : decode cX8_partsAt 2 = .ok (.iload_n 3, 1) := by decide +kernel
theorem dX8_partsAt_3 : decode cX8_partsAt 3 = .ok (.iload 4, 2) := by decide +kernel
theorem dX8_partsAt_5 : decode cX8_partsAt 5 = .ok (.invokevirtual 177, 3) := by decide +kernel
theorem dX8_partsAt_8 : decode cX8_partsAt 8 = .ok (.istore 5, 2) := by decide +kernel
theorem dX8_partsAt_10 : decode cX8_partsAt 10 = .ok (.aload_n 0, 1) := by decide +kernel
theorem dX8_partsAt_11 : decode cX8_partsAt 11 = .ok (.iload_n 2, 1) := by decide +kernel
theorem dX8_partsAt_12 : decode cX8_partsAt 12 = .ok (.iload_n 3, 1) := by decide +kernel
theorem dX8_partsAt_13 : decode cX8_partsAt 13 = .ok (.iload 4, 2) := by decide +kernel
theorem dX8_partsAt_15 : decode cX8_partsAt 15 = .ok (.invokevirtual 177, 3) := by decide +kernel
theorem dX8_partsAt_18 : decode cX8_partsAt 18 = .ok (.istore 6, 2) := by decide +kernel
theorem dX8_partsAt_20 : decode cX8_partsAt 20 = .ok (.iload 5, 2) := by decide +kernel
theorem dX8_partsAt_22 : decode cX8_partsAt 22 = .ok (.ifCond .lt 27, 3) := by decide +kernel
theorem dX8_partsAt_25 : decode cX8_partsAt 25 = .ok (.iload 6, 2) := by decide +kernel
theorem dX8_partsAt_27 : decode cX8_partsAt 27 = .ok (.ifCond .lt 22, 3) := by decide +kernel
theorem dX8_partsAt_30 : decode cX8_partsAt 30 = .ok (.aload_n 0, 1) := by decide +kernel
theorem dX8_partsAt_31 : decode cX8_partsAt 31 = .ok (.iload_n 1, 1) := by decide +kernel
theorem dX8_partsAt_32 : decode cX8_partsAt 32 = .ok (.iload_n 3, 1) := by decide +kernel
theorem dX8_partsAt_33 : decode cX8_partsAt 33 = .ok (.iload 4, 2) := by decide +kernel
theorem dX8_partsAt_35 : decode cX8_partsAt 35 = .ok (.invokevirtual 260, 3) := by decide +kernel
theorem dX8_partsAt_38 : decode cX8_partsAt 38 = .ok (.aload_n 0, 1) := by decide +kernel
theorem dX8_partsAt_39 : decode cX8_partsAt 39 = .ok (.iload_n 2, 1) := by decide +kernel
theorem dX8_partsAt_40 : decode cX8_partsAt 40 = .ok (.iload_n 3, 1) := by decide +kernel
theorem dX8_partsAt_41 : decode cX8_partsAt 41 = .ok (.iload 4, 2) := by decide +kernel
theorem dX8_partsAt_43 : decode cX8_partsAt 43 = .ok (.invokevirtual 260, 3) := by decide +kernel
theorem dX8_partsAt_46 : decode cX8_partsAt 46 = .ok (.if_icmp .ne 6, 3) := by decide +kernel
theorem dX8_partsAt_49 : decode cX8_partsAt 49 = .ok (.bipush (-6), 2) := by decide +kernel
theorem dX8_partsAt_51 : decode cX8_partsAt 51 = .ok (.ireturn, 1) := by decide +kernel
theorem dX8_partsAt_52 : decode cX8_partsAt 52 = .ok (.iload 5, 2) := by decide +kernel
theorem dX8_partsAt_54 : decode cX8_partsAt 54 = .ok (.iload 6, 2) := by decide +kernel
theorem dX8_partsAt_56 : decode cX8_partsAt 56 = .ok (.if_icmp .eq 14, 3) := by decide +kernel
theorem dX8_partsAt_59 : decode cX8_partsAt 59 = .ok (.aload_n 0, 1) := by decide +kernel
theorem dX8_partsAt_60 : decode cX8_partsAt 60 = .ok (.iload 5, 2) := by decide +kernel
theorem dX8_partsAt_62 : decode cX8_partsAt 62 = .ok (.iload 6, 2) := by decide +kernel
theorem dX8_partsAt_64 : decode cX8_partsAt 64 = .ok (.invokevirtual 168, 3) := by decide +kernel
theorem dX8_partsAt_67 : decode cX8_partsAt 67 = .ok (.ifCond .eq 8, 3) := by decide +kernel
theorem dX8_partsAt_70 : decode cX8_partsAt 70 = .ok (.iload 5, 2) := by decide +kernel
theorem dX8_partsAt_72 : decode cX8_partsAt 72 = .ok (.goto 5, 3) := by decide +kernel
theorem dX8_partsAt_75 : decode cX8_partsAt 75 = .ok (.iload 6, 2) := by decide +kernel
theorem dX8_partsAt_77 : decode cX8_partsAt 77 = .ok (.ireturn, 1) := by decide +kernel
theorem dX8_looks_0 : decode cX8_looks 0 = .ok (.iconst 0, 1) := by decide +kernel
theorem dX8_looks_1 : decode cX8_looks 1 = .ok (.istore_n 3, 1) := by decide +kernel
theorem dX8_looks_2 : decode cX8_looks 2 = .ok (.iconst 1, 1) := by decide +kernel
theorem dX8_looks_3 : decode cX8_looks 3 = .ok (.istore 4, 2) := by decide +kernel
theorem dX8_looks_5 : decode cX8_looks 5 = .ok (.aload_n 0, 1) := by decide +kernel
theorem dX8_looks_6 : decode cX8_looks 6 = .ok (.getfield 50, 3) := by decide +kernel
theorem dX8_looks_9 : decode cX8_looks 9 = .ok (.iconst 0, 1) := by decide +kernel
theorem dX8_looks_10 : decode cX8_looks 10 = .ok (.iconst 0, 1) := by decide +kernel
theorem dX8_looks_11 : decode cX8_looks 11 = .ok (.iastore, 1) := by decide +kernel
theorem dX8_looks_12 : decode cX8_looks 12 = .ok (.aload_n 0, 1) := by decide +kernel
theorem dX8_looks_13 : decode cX8_looks 13 = .ok (.getfield 53, 3) := by decide +kernel
theorem dX8_looks_16 : decode cX8_looks 16 = .ok (.iconst 0, 1) := by decide +kernel
theorem dX8_looks_17 : decode cX8_looks 17 = .ok (.bipush 49, 2) := by decide +kernel
theorem dX8_looks_19 : decode cX8_looks 19 = .ok (.iastore, 1) := by decide +kernel
theorem dX8_looks_20 : decode cX8_looks 20 = .ok (.iload 4, 2) := by decide +kernel
theorem dX8_looks_22 : decode cX8_looks 22 = .ok (.ifCond .le 94, 3) := by decide +kernel
theorem dX8_looks_25 : decode cX8_looks 25 = .ok (.iinc 4 (-1), 3) := by decide +kernel
theorem dX8_looks_28 : decode cX8_looks 28 = .ok (.iinc 3 1, 3) := by decide +kernel
theorem dX8_looks_31 : decode cX8_looks 31 = .ok (.aload_n 0, 1) := by decide +kernel
theorem dX8_looks_32 : decode cX8_looks 32 = .ok (.getfield 50, 3) := by decide +kernel
theorem dX8_looks_35 : decode cX8_looks 35 = .ok (.iload 4, 2) := by decide +kernel
theorem dX8_looks_37 : decode cX8_looks 37 = .ok (.iaload, 1) := by decide +kernel
theorem dX8_looks_38 : decode cX8_looks 38 = .ok (.istore 5, 2) := by decide +kernel
theorem dX8_looks_40 : decode cX8_looks 40 = .ok (.aload_n 0, 1) := by decide +kernel
theorem dX8_looks_41 : decode cX8_looks 41 = .ok (.getfield 53, 3) := by decide +kernel
theorem dX8_looks_44 : decode cX8_looks 44 = .ok (.iload 4, 2) := by decide +kernel
theorem dX8_looks_46 : decode cX8_looks 46 = .ok (.iaload, 1) := by decide +kernel
theorem dX8_looks_47 : decode cX8_looks 47 = .ok (.istore 6, 2) := by decide +kernel
theorem dX8_looks_49 : decode cX8_looks 49 = .ok (.aload_n 0, 1) := by decide +kernel
theorem dX8_looks_50 : decode cX8_looks 50 = .ok (.iload_n 1, 1) := by decide +kernel
theorem dX8_looks_51 : decode cX8_looks 51 = .ok (.iload_n 2, 1) := by decide +kernel
theorem dX8_looks_52 : decode cX8_looks 52 = .ok (.iload 5, 2) := by decide +kernel
theorem dX8_looks_54 : decode cX8_looks 54 = .ok (.iload 6, 2) := by decide +kernel
theorem dX8_looks_56 : decode cX8_looks 56 = .ok (.invokevirtual 281, 3) := by decide +kernel
theorem dX8_looks_59 : decode cX8_looks 59 = .ok (.istore 7, 2) := by decide +kernel
theorem dX8_looks_61 : decode cX8_looks 61 = .ok (.iload 7, 2) := by decide +kernel
theorem dX8_looks_63 : decode cX8_looks 63 = .ok (.ifCond .lt 50, 3) := by decide +kernel
theorem dX8_looks_66 : decode cX8_looks 66 = .ok (.aload_n 0, 1) := by decide +kernel
theorem dX8_looks_67 : decode cX8_looks 67 = .ok (.getfield 50, 3) := by decide +kernel
theorem dX8_looks_70 : decode cX8_looks 70 = .ok (.iload 4, 2) := by decide +kernel
theorem dX8_looks_72 : decode cX8_looks 72 = .ok (.iload 5, 2) := by decide +kernel
theorem dX8_looks_74 : decode cX8_looks 74 = .ok (.iastore, 1) := by decide +kernel
theorem dX8_looks_75 : decode cX8_looks 75 = .ok (.aload_n 0, 1) := by decide +kernel
theorem dX8_looks_76 : decode cX8_looks 76 = .ok (.getfield 53, 3) := by decide +kernel
theorem dX8_looks_79 : decode cX8_looks 79 = .ok (.iload 4, 2) := by decide +kernel
theorem dX8_looks_81 : decode cX8_looks 81 = .ok (.iload 7, 2) := by decide +kernel
theorem dX8_looks_83 : decode cX8_looks 83 = .ok (.iconst 1, 1) := by decide +kernel
theorem dX8_looks_84 : decode cX8_looks 84 = .ok (.isub, 1) := by decide +kernel
theorem dX8_looks_85 : decode cX8_looks 85 = .ok (.iastore, 1) := by decide +kernel
theorem dX8_looks_86 : decode cX8_looks 86 = .ok (.aload_n 0, 1) := by decide +kernel
theorem dX8_looks_87 : decode cX8_looks 87 = .ok (.getfield 50, 3) := by decide +kernel
theorem dX8_looks_90 : decode cX8_looks 90 = .ok (.iload 4, 2) := by decide +kernel
theorem dX8_looks_92 : decode cX8_looks 92 = .ok (.iconst 1, 1) := by decide +kernel
theorem dX8_looks_93 : decode cX8_looks 93 = .ok (.iadd, 1) := by decide +kernel
theorem dX8_looks_94 : decode cX8_looks 94 = .ok (.iload 7, 2) := by decide +kernel
theorem dX8_looks_96 : decode cX8_looks 96 = .ok (.iconst 1, 1) := by decide +kernel
theorem dX8_looks_97 : decode cX8_looks 97 = .ok (.iadd, 1) := by decide +kernel
theorem dX8_looks_98 : decode cX8_looks 98 = .ok (.iastore, 1) := by decide +kernel
theorem dX8_looks_99 : decode cX8_looks 99 = .ok (.aload_n 0, 1) := by decide +kernel
theorem dX8_looks_100 : decode cX8_looks 100 = .ok (.getfield 53, 3) := by decide +kernel
theorem dX8_looks_103 : decode cX8_looks 103 = .ok (.iload 4, 2) := by decide +kernel
theorem dX8_looks_105 : decode cX8_looks 105 = .ok (.iconst 1, 1) := by decide +kernel
theorem dX8_looks_106 : decode cX8_looks 106 = .ok (.iadd, 1) := by decide +kernel
theorem dX8_looks_107 : decode cX8_looks 107 = .ok (.iload 6, 2) := by decide +kernel
theorem dX8_looks_109 : decode cX8_looks 109 = .ok (.iastore, 1) := by decide +kernel
theorem dX8_looks_110 : decode cX8_looks 110 = .ok (.iinc 4 2, 3) := by decide +kernel
theorem dX8_looks_113 : decode cX8_looks 113 = .ok (.goto (-93), 3) := by decide +kernel
theorem dX8_looks_116 : decode cX8_looks 116 = .ok (.iload_n 3, 1) := by decide +kernel
theorem dX8_looks_117 : decode cX8_looks 117 = .ok (.ireturn, 1) := by decide +kernel
theorem dX8_apartMany_0 : decode cX8_apartMany 0 = .ok (.iconst 0, 1) := by decide +kernel
theorem dX8_apartMany_1 : decode cX8_apartMany 1 = .ok (.istore_n 3, 1) := by decide +kernel
theorem dX8_apartMany_2 : decode cX8_apartMany 2 = .ok (.iconst 0, 1) := by decide +kernel
theorem dX8_apartMany_3 : decode cX8_apartMany 3 = .ok (.istore 4, 2) := by decide +kernel
theorem dX8_apartMany_5 : decode cX8_apartMany 5 = .ok (.iload 4, 2) := by decide +kernel
theorem dX8_apartMany_7 : decode cX8_apartMany 7 = .ok (.bipush 50, 2) := by decide +kernel
theorem dX8_apartMany_9 : decode cX8_apartMany 9 = .ok (.if_icmp .ge 34, 3) := by decide +kernel
theorem dX8_apartMany_12 : decode cX8_apartMany 12 = .ok (.iload_n 3, 1) := by decide +kernel
theorem dX8_apartMany_13 : decode cX8_apartMany 13 = .ok (.aload_n 0, 1) := by decide +kernel
theorem dX8_apartMany_14 : decode cX8_apartMany 14 = .ok (.iload_n 1, 1) := by decide +kernel
theorem dX8_apartMany_15 : decode cX8_apartMany 15 = .ok (.iload 4, 2) := by decide +kernel
theorem dX8_apartMany_17 : decode cX8_apartMany 17 = .ok (.invokevirtual 95, 3) := by decide +kernel
theorem dX8_apartMany_20 : decode cX8_apartMany 20 = .ok (.aload_n 0, 1) := by decide +kernel
theorem dX8_apartMany_21 : decode cX8_apartMany 21 = .ok (.iload_n 2, 1) := by decide +kernel
theorem dX8_apartMany_22 : decode cX8_apartMany 22 = .ok (.iload 4, 2) := by decide +kernel
theorem dX8_apartMany_24 : decode cX8_apartMany 24 = .ok (.invokevirtual 95, 3) := by decide +kernel
theorem dX8_apartMany_27 : decode cX8_apartMany 27 = .ok (.if_icmp .ne 7, 3) := by decide +kernel
theorem dX8_apartMany_30 : decode cX8_apartMany 30 = .ok (.iconst 0, 1) := by decide +kernel
theorem dX8_apartMany_31 : decode cX8_apartMany 31 = .ok (.goto 4, 3) := by decide +kernel
theorem dX8_apartMany_34 : decode cX8_apartMany 34 = .ok (.iconst 1, 1) := by decide +kernel
theorem dX8_apartMany_35 : decode cX8_apartMany 35 = .ok (.iadd, 1) := by decide +kernel
theorem dX8_apartMany_36 : decode cX8_apartMany 36 = .ok (.istore_n 3, 1) := by decide +kernel
theorem dX8_apartMany_37 : decode cX8_apartMany 37 = .ok (.iinc 4 1, 3) := by decide +kernel
theorem dX8_apartMany_40 : decode cX8_apartMany 40 = .ok (.goto (-35), 3) := by decide +kernel
theorem dX8_apartMany_43 : decode cX8_apartMany 43 = .ok (.iload_n 3, 1) := by decide +kernel
theorem dX8_apartMany_44 : decode cX8_apartMany 44 = .ok (.ireturn, 1) := by decide +kernel
theorem dX8_shared_0 : decode cX8_shared 0 = .ok (.iconst 0, 1) := by decide +kernel
theorem dX8_shared_1 : decode cX8_shared 1 = .ok (.istore_n 3, 1) := by decide +kernel
theorem dX8_shared_2 : decode cX8_shared 2 = .ok (.iconst 0, 1) := by decide +kernel
theorem dX8_shared_3 : decode cX8_shared 3 = .ok (.istore 4, 2) := by decide +kernel
theorem dX8_shared_5 : decode cX8_shared 5 = .ok (.iload 4, 2) := by decide +kernel
theorem dX8_shared_7 : decode cX8_shared 7 = .ok (.bipush 50, 2) := by decide +kernel
theorem dX8_shared_9 : decode cX8_shared 9 = .ok (.if_icmp .ge 55, 3) := by decide +kernel
theorem dX8_shared_12 : decode cX8_shared 12 = .ok (.iload_n 3, 1) := by decide +kernel
theorem dX8_shared_13 : decode cX8_shared 13 = .ok (.aload_n 0, 1) := by decide +kernel
theorem dX8_shared_14 : decode cX8_shared 14 = .ok (.iload_n 1, 1) := by decide +kernel
theorem dX8_shared_15 : decode cX8_shared 15 = .ok (.iload 4, 2) := by decide +kernel
theorem dX8_shared_17 : decode cX8_shared 17 = .ok (.invokevirtual 95, 3) := by decide +kernel
theorem dX8_shared_20 : decode cX8_shared 20 = .ok (.ifCond .eq 35, 3) := by decide +kernel
theorem dX8_shared_23 : decode cX8_shared 23 = .ok (.aload_n 0, 1) := by decide +kernel
theorem dX8_shared_24 : decode cX8_shared 24 = .ok (.iload_n 2, 1) := by decide +kernel
theorem dX8_shared_25 : decode cX8_shared 25 = .ok (.iload 4, 2) := by decide +kernel
theorem dX8_shared_27 : decode cX8_shared 27 = .ok (.invokevirtual 95, 3) := by decide +kernel
theorem dX8_shared_30 : decode cX8_shared 30 = .ok (.ifCond .eq 25, 3) := by decide +kernel
theorem dX8_shared_33 : decode cX8_shared 33 = .ok (.aload_n 0, 1) := by decide +kernel
theorem dX8_shared_34 : decode cX8_shared 34 = .ok (.iload_n 1, 1) := by decide +kernel
theorem dX8_shared_35 : decode cX8_shared 35 = .ok (.iload 4, 2) := by decide +kernel
theorem dX8_shared_37 : decode cX8_shared 37 = .ok (.invokevirtual 193, 3) := by decide +kernel
theorem dX8_shared_40 : decode cX8_shared 40 = .ok (.aload_n 0, 1) := by decide +kernel
theorem dX8_shared_41 : decode cX8_shared 41 = .ok (.iload_n 2, 1) := by decide +kernel
theorem dX8_shared_42 : decode cX8_shared 42 = .ok (.iload 4, 2) := by decide +kernel
theorem dX8_shared_44 : decode cX8_shared 44 = .ok (.invokevirtual 193, 3) := by decide +kernel
theorem dX8_shared_47 : decode cX8_shared 47 = .ok (.lcmp, 1) := by decide +kernel
theorem dX8_shared_48 : decode cX8_shared 48 = .ok (.ifCond .ne 7, 3) := by decide +kernel
theorem dX8_shared_51 : decode cX8_shared 51 = .ok (.iconst 1, 1) := by decide +kernel
theorem dX8_shared_52 : decode cX8_shared 52 = .ok (.goto 4, 3) := by decide +kernel
theorem dX8_shared_55 : decode cX8_shared 55 = .ok (.iconst 0, 1) := by decide +kernel
theorem dX8_shared_56 : decode cX8_shared 56 = .ok (.iadd, 1) := by decide +kernel
theorem dX8_shared_57 : decode cX8_shared 57 = .ok (.istore_n 3, 1) := by decide +kernel
theorem dX8_shared_58 : decode cX8_shared 58 = .ok (.iinc 4 1, 3) := by decide +kernel
theorem dX8_shared_61 : decode cX8_shared 61 = .ok (.goto (-56), 3) := by decide +kernel
theorem dX8_shared_64 : decode cX8_shared 64 = .ok (.iload_n 3, 1) := by decide +kernel
theorem dX8_shared_65 : decode cX8_shared 65 = .ok (.ireturn, 1) := by decide +kernel
theorem dX8_apart_0 : decode cX8_apart 0 = .ok (.iload_n 1, 1) := by decide +kernel
theorem dX8_apart_1 : decode cX8_apart 1 = .ok (.invokestatic 88, 3) := by decide +kernel
theorem dX8_apart_4 : decode cX8_apart 4 = .ok (.ifCond .eq 10, 3) := by decide +kernel
theorem dX8_apart_7 : decode cX8_apart 7 = .ok (.iload_n 2, 1) := by decide +kernel
theorem dX8_apart_8 : decode cX8_apart 8 = .ok (.invokestatic 88, 3) := by decide +kernel
theorem dX8_apart_11 : decode cX8_apart 11 = .ok (.ifCond .ne 5, 3) := by decide +kernel
theorem dX8_apart_14 : decode cX8_apart 14 = .ok (.iconst (-1), 1) := by decide +kernel
theorem dX8_apart_15 : decode cX8_apart 15 = .ok (.ireturn, 1) := by decide +kernel
theorem dX8_apart_16 : decode cX8_apart 16 = .ok (.iload_n 3, 1) := by decide +kernel
theorem dX8_apart_17 : decode cX8_apart 17 = .ok (.i2l, 1) := by decide +kernel
theorem dX8_apart_18 : decode cX8_apart 18 = .ok (.lconst 0, 1) := by decide +kernel
theorem dX8_apart_19 : decode cX8_apart 19 = .ok (.ldc2_w 251, 3) := by decide +kernel
theorem dX8_apart_22 : decode cX8_apart 22 = .ok (.invokestatic 68, 3) := by decide +kernel
theorem dX8_apart_25 : decode cX8_apart 25 = .ok (.ifCond .ne 6, 3) := by decide +kernel
theorem dX8_apart_28 : decode cX8_apart 28 = .ok (.bipush (-2), 2) := by decide +kernel
theorem dX8_apart_30 : decode cX8_apart 30 = .ok (.ireturn, 1) := by decide +kernel
theorem dX8_apart_31 : decode cX8_apart 31 = .ok (.iload_n 3, 1) := by decide +kernel
theorem dX8_apart_32 : decode cX8_apart 32 = .ok (.ifCond .ne 12, 3) := by decide +kernel
theorem dX8_apart_35 : decode cX8_apart 35 = .ok (.aload_n 0, 1) := by decide +kernel
theorem dX8_apart_36 : decode cX8_apart 36 = .ok (.iload_n 1, 1) := by decide +kernel
theorem dX8_apart_37 : decode cX8_apart 37 = .ok (.iload_n 2, 1) := by decide +kernel
theorem dX8_apart_38 : decode cX8_apart 38 = .ok (.invokevirtual 284, 3) := by decide +kernel
theorem dX8_apart_41 : decode cX8_apart 41 = .ok (.goto 23, 3) := by decide +kernel
theorem dX8_apart_44 : decode cX8_apart 44 = .ok (.iload_n 3, 1) := by decide +kernel
theorem dX8_apart_45 : decode cX8_apart 45 = .ok (.iconst 1, 1) := by decide +kernel
theorem dX8_apart_46 : decode cX8_apart 46 = .ok (.if_icmp .ne 12, 3) := by decide +kernel
theorem dX8_apart_49 : decode cX8_apart 49 = .ok (.aload_n 0, 1) := by decide +kernel
theorem dX8_apart_50 : decode cX8_apart 50 = .ok (.iload_n 1, 1) := by decide +kernel
theorem dX8_apart_51 : decode cX8_apart 51 = .ok (.iload_n 2, 1) := by decide +kernel
theorem dX8_apart_52 : decode cX8_apart 52 = .ok (.invokevirtual 287, 3) := by decide +kernel
theorem dX8_apart_55 : decode cX8_apart 55 = .ok (.goto 9, 3) := by decide +kernel
theorem dX8_apart_58 : decode cX8_apart 58 = .ok (.aload_n 0, 1) := by decide +kernel
theorem dX8_apart_59 : decode cX8_apart 59 = .ok (.iload_n 1, 1) := by decide +kernel
theorem dX8_apart_60 : decode cX8_apart 60 = .ok (.iload_n 2, 1) := by decide +kernel
theorem dX8_apart_61 : decode cX8_apart 61 = .ok (.invokevirtual 290, 3) := by decide +kernel
theorem dX8_apart_64 : decode cX8_apart 64 = .ok (.ireturn, 1) := by decide +kernel
theorem dX8_differs_0 : decode cX8_differs 0 = .ok (.iload_n 1, 1) := by decide +kernel
theorem dX8_differs_1 : decode cX8_differs 1 = .ok (.invokestatic 88, 3) := by decide +kernel
theorem dX8_differs_4 : decode cX8_differs 4 = .ok (.ifCond .eq 10, 3) := by decide +kernel
theorem dX8_differs_7 : decode cX8_differs 7 = .ok (.iload_n 2, 1) := by decide +kernel
theorem dX8_differs_8 : decode cX8_differs 8 = .ok (.invokestatic 88, 3) := by decide +kernel
theorem dX8_differs_11 : decode cX8_differs 11 = .ok (.ifCond .ne 5, 3) := by decide +kernel
theorem dX8_differs_14 : decode cX8_differs 14 = .ok (.iconst (-1), 1) := by decide +kernel
theorem dX8_differs_15 : decode cX8_differs 15 = .ok (.ireturn, 1) := by decide +kernel
theorem dX8_differs_16 : decode cX8_differs 16 = .ok (.iconst 0, 1) := by decide +kernel
theorem dX8_differs_17 : decode cX8_differs 17 = .ok (.istore 4, 2) := by decide +kernel
theorem dX8_differs_19 : decode cX8_differs 19 = .ok (.iconst 0, 1) := by decide +kernel
theorem dX8_differs_20 : decode cX8_differs 20 = .ok (.istore 5, 2) := by decide +kernel
theorem dX8_differs_22 : decode cX8_differs 22 = .ok (.iload 5, 2) := by decide +kernel
theorem dX8_differs_24 : decode cX8_differs 24 = .ok (.bipush 50, 2) := by decide +kernel
theorem dX8_differs_26 : decode cX8_differs 26 = .ok (.if_icmp .ge 38, 3) := by decide +kernel
theorem dX8_differs_29 : decode cX8_differs 29 = .ok (.aload_n 0, 1) := by decide +kernel
theorem dX8_differs_30 : decode cX8_differs 30 = .ok (.iload_n 1, 1) := by decide +kernel
theorem dX8_differs_31 : decode cX8_differs 31 = .ok (.iload 5, 2) := by decide +kernel
theorem dX8_differs_33 : decode cX8_differs 33 = .ok (.invokevirtual 95, 3) := by decide +kernel
theorem dX8_differs_36 : decode cX8_differs 36 = .ok (.aload_n 0, 1) := by decide +kernel
theorem dX8_differs_37 : decode cX8_differs 37 = .ok (.iload_n 2, 1) := by decide +kernel
theorem dX8_differs_38 : decode cX8_differs 38 = .ok (.iload 5, 2) := by decide +kernel
theorem dX8_differs_40 : decode cX8_differs 40 = .ok (.invokevirtual 95, 3) := by decide +kernel
theorem dX8_differs_43 : decode cX8_differs 43 = .ok (.if_icmp .eq 15, 3) := by decide +kernel
theorem dX8_differs_46 : decode cX8_differs 46 = .ok (.iload 4, 2) := by decide +kernel
theorem dX8_differs_48 : decode cX8_differs 48 = .ok (.iload_n 3, 1) := by decide +kernel
theorem dX8_differs_49 : decode cX8_differs 49 = .ok (.if_icmp .ne 6, 3) := by decide +kernel
theorem dX8_differs_52 : decode cX8_differs 52 = .ok (.iload 5, 2) := by decide +kernel
theorem dX8_differs_54 : decode cX8_differs 54 = .ok (.ireturn, 1) := by decide +kernel
theorem dX8_differs_55 : decode cX8_differs 55 = .ok (.iinc 4 1, 3) := by decide +kernel
theorem dX8_differs_58 : decode cX8_differs 58 = .ok (.iinc 5 1, 3) := by decide +kernel
theorem dX8_differs_61 : decode cX8_differs 61 = .ok (.goto (-39), 3) := by decide +kernel
theorem dX8_differs_64 : decode cX8_differs 64 = .ok (.bipush (-6), 2) := by decide +kernel
theorem dX8_differs_66 : decode cX8_differs 66 = .ok (.ireturn, 1) := by decide +kernel
theorem dX8_above_0 : decode cX8_above 0 = .ok (.iload_n 1, 1) := by decide +kernel
theorem dX8_above_1 : decode cX8_above 1 = .ok (.invokestatic 92, 3) := by decide +kernel
theorem dX8_above_4 : decode cX8_above 4 = .ok (.ifCond .eq 10, 3) := by decide +kernel
theorem dX8_above_7 : decode cX8_above 7 = .ok (.iload_n 2, 1) := by decide +kernel
theorem dX8_above_8 : decode cX8_above 8 = .ok (.invokestatic 92, 3) := by decide +kernel
theorem dX8_above_11 : decode cX8_above 11 = .ok (.ifCond .ne 5, 3) := by decide +kernel
theorem dX8_above_14 : decode cX8_above 14 = .ok (.iconst (-1), 1) := by decide +kernel
theorem dX8_above_15 : decode cX8_above 15 = .ok (.ireturn, 1) := by decide +kernel
theorem dX8_above_16 : decode cX8_above 16 = .ok (.iload_n 1, 1) := by decide +kernel
theorem dX8_above_17 : decode cX8_above 17 = .ok (.iload_n 2, 1) := by decide +kernel
theorem dX8_above_18 : decode cX8_above 18 = .ok (.if_icmp .ne 6, 3) := by decide +kernel
theorem dX8_above_21 : decode cX8_above 21 = .ok (.bipush (-2), 2) := by decide +kernel
theorem dX8_above_23 : decode cX8_above 23 = .ok (.ireturn, 1) := by decide +kernel
theorem dX8_above_24 : decode cX8_above 24 = .ok (.aload_n 0, 1) := by decide +kernel
theorem dX8_above_25 : decode cX8_above 25 = .ok (.getfield 293, 3) := by decide +kernel
theorem dX8_above_28 : decode cX8_above 28 = .ok (.bipush 8, 2) := by decide +kernel
theorem dX8_above_30 : decode cX8_above 30 = .ok (.if_icmp .ne 6, 3) := by decide +kernel
theorem dX8_above_33 : decode cX8_above 33 = .ok (.bipush (-4), 2) := by decide +kernel
theorem dX8_above_35 : decode cX8_above 35 = .ok (.ireturn, 1) := by decide +kernel
theorem dX8_above_36 : decode cX8_above 36 = .ok (.aload_n 0, 1) := by decide +kernel
theorem dX8_above_37 : decode cX8_above 37 = .ok (.getfield 13, 3) := by decide +kernel
theorem dX8_above_40 : decode cX8_above 40 = .ok (.aload_n 0, 1) := by decide +kernel
theorem dX8_above_41 : decode cX8_above 41 = .ok (.getfield 293, 3) := by decide +kernel
theorem dX8_above_44 : decode cX8_above 44 = .ok (.iload_n 1, 1) := by decide +kernel
theorem dX8_above_45 : decode cX8_above 45 = .ok (.iastore, 1) := by decide +kernel
theorem dX8_above_46 : decode cX8_above 46 = .ok (.aload_n 0, 1) := by decide +kernel
theorem dX8_above_47 : decode cX8_above 47 = .ok (.getfield 16, 3) := by decide +kernel
theorem dX8_above_50 : decode cX8_above 50 = .ok (.aload_n 0, 1) := by decide +kernel
theorem dX8_above_51 : decode cX8_above 51 = .ok (.getfield 293, 3) := by decide +kernel
theorem dX8_above_54 : decode cX8_above 54 = .ok (.iload_n 2, 1) := by decide +kernel
theorem dX8_above_55 : decode cX8_above 55 = .ok (.iastore, 1) := by decide +kernel
theorem dX8_above_56 : decode cX8_above 56 = .ok (.aload_n 0, 1) := by decide +kernel
theorem dX8_above_57 : decode cX8_above 57 = .ok (.dup, 1) := by decide +kernel
theorem dX8_above_58 : decode cX8_above 58 = .ok (.getfield 293, 3) := by decide +kernel
theorem dX8_above_61 : decode cX8_above 61 = .ok (.iconst 1, 1) := by decide +kernel
theorem dX8_above_62 : decode cX8_above 62 = .ok (.iadd, 1) := by decide +kernel
theorem dX8_above_63 : decode cX8_above 63 = .ok (.putfield 293, 3) := by decide +kernel
theorem dX8_above_66 : decode cX8_above 66 = .ok (.aload_n 0, 1) := by decide +kernel
theorem dX8_above_67 : decode cX8_above 67 = .ok (.getfield 293, 3) := by decide +kernel
theorem dX8_above_70 : decode cX8_above 70 = .ok (.ireturn, 1) := by decide +kernel
theorem dX8_forget_0 : decode cX8_forget 0 = .ok (.aload_n 0, 1) := by decide +kernel
theorem dX8_forget_1 : decode cX8_forget 1 = .ok (.getfield 293, 3) := by decide +kernel
theorem dX8_forget_4 : decode cX8_forget 4 = .ok (.istore_n 1, 1) := by decide +kernel
theorem dX8_forget_5 : decode cX8_forget 5 = .ok (.aload_n 0, 1) := by decide +kernel
theorem dX8_forget_6 : decode cX8_forget 6 = .ok (.iconst 0, 1) := by decide +kernel
theorem dX8_forget_7 : decode cX8_forget 7 = .ok (.putfield 293, 3) := by decide +kernel
theorem dX8_forget_10 : decode cX8_forget 10 = .ok (.iload_n 1, 1) := by decide +kernel
theorem dX8_forget_11 : decode cX8_forget 11 = .ok (.ireturn, 1) := by decide +kernel
theorem dX8_isFit_0 : decode cX8_isFit 0 = .ok (.iconst 1, 1) := by decide +kernel
theorem dX8_isFit_1 : decode cX8_isFit 1 = .ok (.istore_n 2, 1) := by decide +kernel
theorem dX8_isFit_2 : decode cX8_isFit 2 = .ok (.iconst 0, 1) := by decide +kernel
theorem dX8_isFit_3 : decode cX8_isFit 3 = .ok (.istore_n 3, 1) := by decide +kernel
theorem dX8_isFit_4 : decode cX8_isFit 4 = .ok (.iload_n 3, 1) := by decide +kernel
theorem dX8_isFit_5 : decode cX8_isFit 5 = .ok (.aload_n 0, 1) := by decide +kernel
theorem dX8_isFit_6 : decode cX8_isFit 6 = .ok (.getfield 293, 3) := by decide +kernel
theorem dX8_isFit_9 : decode cX8_isFit 9 = .ok (.if_icmp .ge 38, 3) := by decide +kernel
theorem dX8_isFit_12 : decode cX8_isFit 12 = .ok (.iload_n 2, 1) := by decide +kernel
theorem dX8_isFit_13 : decode cX8_isFit 13 = .ok (.ifCond .eq 26, 3) := by decide +kernel
theorem dX8_isFit_16 : decode cX8_isFit 16 = .ok (.iload_n 1, 1) := by decide +kernel
theorem dX8_isFit_17 : decode cX8_isFit 17 = .ok (.aload_n 0, 1) := by decide +kernel
theorem dX8_isFit_18 : decode cX8_isFit 18 = .ok (.getfield 13, 3) := by decide +kernel
theorem dX8_isFit_21 : decode cX8_isFit 21 = .ok (.iload_n 3, 1) := by decide +kernel
theorem dX8_isFit_22 : decode cX8_isFit 22 = .ok (.iaload, 1) := by decide +kernel
theorem dX8_isFit_23 : decode cX8_isFit 23 = .ok (.aload_n 0, 1) := by decide +kernel
theorem dX8_isFit_24 : decode cX8_isFit 24 = .ok (.getfield 16, 3) := by decide +kernel
theorem dX8_isFit_27 : decode cX8_isFit 27 = .ok (.iload_n 3, 1) := by decide +kernel
theorem dX8_isFit_28 : decode cX8_isFit 28 = .ok (.iaload, 1) := by decide +kernel
theorem dX8_isFit_29 : decode cX8_isFit 29 = .ok (.invokestatic 82, 3) := by decide +kernel
theorem dX8_isFit_32 : decode cX8_isFit 32 = .ok (.ifCond .eq 7, 3) := by decide +kernel
theorem dX8_isFit_35 : decode cX8_isFit 35 = .ok (.iconst 1, 1) := by decide +kernel
theorem dX8_isFit_36 : decode cX8_isFit 36 = .ok (.goto 4, 3) := by decide +kernel
theorem dX8_isFit_39 : decode cX8_isFit 39 = .ok (.iconst 0, 1) := by decide +kernel
theorem dX8_isFit_40 : decode cX8_isFit 40 = .ok (.istore_n 2, 1) := by decide +kernel
theorem dX8_isFit_41 : decode cX8_isFit 41 = .ok (.iinc 3 1, 3) := by decide +kernel
theorem dX8_isFit_44 : decode cX8_isFit 44 = .ok (.goto (-40), 3) := by decide +kernel
theorem dX8_isFit_47 : decode cX8_isFit 47 = .ok (.iload_n 2, 1) := by decide +kernel
theorem dX8_isFit_48 : decode cX8_isFit 48 = .ok (.ireturn, 1) := by decide +kernel
theorem dX8_seeds_0 : decode cX8_seeds 0 = .ok (.iconst 0, 1) := by decide +kernel
theorem dX8_seeds_1 : decode cX8_seeds 1 = .ok (.istore_n 2, 1) := by decide +kernel
theorem dX8_seeds_2 : decode cX8_seeds 2 = .ok (.iconst 0, 1) := by decide +kernel
theorem dX8_seeds_3 : decode cX8_seeds 3 = .ok (.istore_n 3, 1) := by decide +kernel
theorem dX8_seeds_4 : decode cX8_seeds 4 = .ok (.iload_n 3, 1) := by decide +kernel
theorem dX8_seeds_5 : decode cX8_seeds 5 = .ok (.sipush 9999, 3) := by decide +kernel
theorem dX8_seeds_8 : decode cX8_seeds 8 = .ok (.if_icmp .gt 27, 3) := by decide +kernel
theorem dX8_seeds_11 : decode cX8_seeds 11 = .ok (.aload_n 0, 1) := by decide +kernel
theorem dX8_seeds_12 : decode cX8_seeds 12 = .ok (.iload_n 3, 1) := by decide +kernel
theorem dX8_seeds_13 : decode cX8_seeds 13 = .ok (.invokevirtual 296, 3) := by decide +kernel
theorem dX8_seeds_16 : decode cX8_seeds 16 = .ok (.ifCond .eq 13, 3) := by decide +kernel
theorem dX8_seeds_19 : decode cX8_seeds 19 = .ok (.iload_n 2, 1) := by decide +kernel
theorem dX8_seeds_20 : decode cX8_seeds 20 = .ok (.iload_n 1, 1) := by decide +kernel
theorem dX8_seeds_21 : decode cX8_seeds 21 = .ok (.if_icmp .ne 5, 3) := by decide +kernel
theorem dX8_seeds_24 : decode cX8_seeds 24 = .ok (.iload_n 3, 1) := by decide +kernel
theorem dX8_seeds_25 : decode cX8_seeds 25 = .ok (.ireturn, 1) := by decide +kernel
theorem dX8_seeds_26 : decode cX8_seeds 26 = .ok (.iinc 2 1, 3) := by decide +kernel
theorem dX8_seeds_29 : decode cX8_seeds 29 = .ok (.iinc 3 1, 3) := by decide +kernel
theorem dX8_seeds_32 : decode cX8_seeds 32 = .ok (.goto (-28), 3) := by decide +kernel
theorem dX8_seeds_35 : decode cX8_seeds 35 = .ok (.iload_n 1, 1) := by decide +kernel
theorem dX8_seeds_36 : decode cX8_seeds 36 = .ok (.iconst (-1), 1) := by decide +kernel
theorem dX8_seeds_37 : decode cX8_seeds 37 = .ok (.if_icmp .ne 7, 3) := by decide +kernel
theorem dX8_seeds_40 : decode cX8_seeds 40 = .ok (.iload_n 2, 1) := by decide +kernel
theorem dX8_seeds_41 : decode cX8_seeds 41 = .ok (.goto 5, 3) := by decide +kernel
theorem dX8_seeds_44 : decode cX8_seeds 44 = .ok (.bipush (-6), 2) := by decide +kernel
theorem dX8_seeds_46 : decode cX8_seeds 46 = .ok (.ireturn, 1) := by decide +kernel
theorem dX8_orders_0 : decode cX8_orders 0 = .ok (.iload_n 1, 1) := by decide +kernel
theorem dX8_orders_1 : decode cX8_orders 1 = .ok (.invokestatic 88, 3) := by decide +kernel
theorem dX8_orders_4 : decode cX8_orders 4 = .ok (.ifCond .ne 7, 3) := by decide +kernel
theorem dX8_orders_7 : decode cX8_orders 7 = .ok (.ldc2_w 299, 3) := by decide +kernel
theorem dX8_orders_10 : decode cX8_orders 10 = .ok (.lreturn, 1) := by decide +kernel
theorem dX8_orders_11 : decode cX8_orders 11 = .ok (.aload_n 0, 1) := by decide +kernel
theorem dX8_orders_12 : decode cX8_orders 12 = .ok (.iload_n 1, 1) := by decide +kernel
theorem dX8_orders_13 : decode cX8_orders 13 = .ok (.invokevirtual 99, 3) := by decide +kernel
theorem dX8_orders_16 : decode cX8_orders 16 = .ok (.bipush 20, 2) := by decide +kernel
theorem dX8_orders_18 : decode cX8_orders 18 = .ok (.if_icmp .le 7, 3) := by decide +kernel
theorem dX8_orders_21 : decode cX8_orders 21 = .ok (.ldc2_w 301, 3) := by decide +kernel
theorem dX8_orders_24 : decode cX8_orders 24 = .ok (.lreturn, 1) := by decide +kernel
theorem dX8_orders_25 : decode cX8_orders 25 = .ok (.lconst 1, 1) := by decide +kernel
theorem dX8_orders_26 : decode cX8_orders 26 = .ok (.lstore_n 2, 1) := by decide +kernel
theorem dX8_orders_27 : decode cX8_orders 27 = .ok (.iconst 2, 1) := by decide +kernel
theorem dX8_orders_28 : decode cX8_orders 28 = .ok (.istore 4, 2) := by decide +kernel
theorem dX8_orders_30 : decode cX8_orders 30 = .ok (.iload 4, 2) := by decide +kernel
theorem dX8_orders_32 : decode cX8_orders 32 = .ok (.aload_n 0, 1) := by decide +kernel
theorem dX8_orders_33 : decode cX8_orders 33 = .ok (.iload_n 1, 1) := by decide +kernel
theorem dX8_orders_34 : decode cX8_orders 34 = .ok (.invokevirtual 99, 3) := by decide +kernel
theorem dX8_orders_37 : decode cX8_orders 37 = .ok (.if_icmp .gt 15, 3) := by decide +kernel
theorem dX8_orders_40 : decode cX8_orders 40 = .ok (.lload_n 2, 1) := by decide +kernel
theorem dX8_orders_41 : decode cX8_orders 41 = .ok (.iload 4, 2) := by decide +kernel
theorem dX8_orders_43 : decode cX8_orders 43 = .ok (.i2l, 1) := by decide +kernel
theorem dX8_orders_44 : decode cX8_orders 44 = .ok (.lmul, 1) := by decide +kernel
theorem dX8_orders_45 : decode cX8_orders 45 = .ok (.lstore_n 2, 1) := by decide +kernel
theorem dX8_orders_46 : decode cX8_orders 46 = .ok (.iinc 4 1, 3) := by decide +kernel
theorem dX8_orders_49 : decode cX8_orders 49 = .ok (.goto (-19), 3) := by decide +kernel
theorem dX8_orders_52 : decode cX8_orders 52 = .ok (.iconst 0, 1) := by decide +kernel
theorem dX8_orders_53 : decode cX8_orders 53 = .ok (.istore 4, 2) := by decide +kernel
theorem dX8_orders_55 : decode cX8_orders 55 = .ok (.iload 4, 2) := by decide +kernel
theorem dX8_orders_57 : decode cX8_orders 57 = .ok (.bipush 50, 2) := by decide +kernel
theorem dX8_orders_59 : decode cX8_orders 59 = .ok (.if_icmp .ge 37, 3) := by decide +kernel
theorem dX8_orders_62 : decode cX8_orders 62 = .ok (.lload_n 2, 1) := by decide +kernel
theorem dX8_orders_63 : decode cX8_orders 63 = .ok (.aload_n 0, 1) := by decide +kernel
theorem dX8_orders_64 : decode cX8_orders 64 = .ok (.iload_n 1, 1) := by decide +kernel
theorem dX8_orders_65 : decode cX8_orders 65 = .ok (.iload 4, 2) := by decide +kernel
theorem dX8_orders_67 : decode cX8_orders 67 = .ok (.invokevirtual 95, 3) := by decide +kernel
theorem dX8_orders_70 : decode cX8_orders 70 = .ok (.ifCond .eq 17, 3) := by decide +kernel
theorem dX8_orders_73 : decode cX8_orders 73 = .ok (.aload_n 0, 1) := by decide +kernel
theorem dX8_orders_74 : decode cX8_orders 74 = .ok (.iload_n 1, 1) := by decide +kernel
theorem dX8_orders_75 : decode cX8_orders 75 = .ok (.iload 4, 2) := by decide +kernel
theorem dX8_orders_77 : decode cX8_orders 77 = .ok (.invokevirtual 193, 3) := by decide +kernel
theorem dX8_orders_80 : decode cX8_orders 80 = .ok (.invokestatic 271, 3) := by decide +kernel
theorem dX8_orders_83 : decode cX8_orders 83 = .ok (.i2l, 1) := by decide +kernel
theorem dX8_orders_84 : decode cX8_orders 84 = .ok (.goto 4, 3) := by decide +kernel
theorem dX8_orders_87 : decode cX8_orders 87 = .ok (.lconst 1, 1) := by decide +kernel
theorem dX8_orders_88 : decode cX8_orders 88 = .ok (.ldiv, 1) := by decide +kernel
theorem dX8_orders_89 : decode cX8_orders 89 = .ok (.lstore_n 2, 1) := by decide +kernel
theorem dX8_orders_90 : decode cX8_orders 90 = .ok (.iinc 4 1, 3) := by decide +kernel
theorem dX8_orders_93 : decode cX8_orders 93 = .ok (.goto (-38), 3) := by decide +kernel
theorem dX8_orders_96 : decode cX8_orders 96 = .ok (.lload_n 2, 1) := by decide +kernel
theorem dX8_orders_97 : decode cX8_orders 97 = .ok (.lreturn, 1) := by decide +kernel
theorem dX8_shapes_0 : decode cX8_shapes 0 = .ok (.iload_n 1, 1) := by decide +kernel
theorem dX8_shapes_1 : decode cX8_shapes 1 = .ok (.i2l, 1) := by decide +kernel
theorem dX8_shapes_2 : decode cX8_shapes 2 = .ok (.lconst 0, 1) := by decide +kernel
theorem dX8_shapes_3 : decode cX8_shapes 3 = .ok (.ldc2_w 303, 3) := by decide +kernel
theorem dX8_shapes_6 : decode cX8_shapes 6 = .ok (.invokestatic 68, 3) := by decide +kernel
theorem dX8_shapes_9 : decode cX8_shapes 9 = .ok (.ifCond .ne 7, 3) := by decide +kernel
theorem dX8_shapes_12 : decode cX8_shapes 12 = .ok (.ldc2_w 305, 3) := by decide +kernel
theorem dX8_shapes_15 : decode cX8_shapes 15 = .ok (.lreturn, 1) := by decide +kernel
theorem dX8_shapes_16 : decode cX8_shapes 16 = .ok (.aload_n 0, 1) := by decide +kernel
theorem dX8_shapes_17 : decode cX8_shapes 17 = .ok (.getfield 56, 3) := by decide +kernel
theorem dX8_shapes_20 : decode cX8_shapes 20 = .ok (.iconst 0, 1) := by decide +kernel
theorem dX8_shapes_21 : decode cX8_shapes 21 = .ok (.lconst 1, 1) := by decide +kernel
theorem dX8_shapes_22 : decode cX8_shapes 22 = .ok (.lastore, 1) := by decide +kernel
theorem dX8_shapes_23 : decode cX8_shapes 23 = .ok (.iconst 1, 1) := by decide +kernel
theorem dX8_shapes_24 : decode cX8_shapes 24 = .ok (.istore_n 2, 1) := by decide +kernel
theorem dX8_shapes_25 : decode cX8_shapes 25 = .ok (.iload_n 2, 1) := by decide +kernel
theorem dX8_shapes_26 : decode cX8_shapes 26 = .ok (.iload_n 1, 1) := by decide +kernel
theorem dX8_shapes_27 : decode cX8_shapes 27 = .ok (.if_icmp .gt 55, 3) := by decide +kernel
theorem dX8_shapes_30 : decode cX8_shapes 30 = .ok (.aload_n 0, 1) := by decide +kernel
theorem dX8_shapes_31 : decode cX8_shapes 31 = .ok (.getfield 56, 3) := by decide +kernel
theorem dX8_shapes_34 : decode cX8_shapes 34 = .ok (.iload_n 2, 1) := by decide +kernel
theorem dX8_shapes_35 : decode cX8_shapes 35 = .ok (.lconst 0, 1) := by decide +kernel
theorem dX8_shapes_36 : decode cX8_shapes 36 = .ok (.lastore, 1) := by decide +kernel
theorem dX8_shapes_37 : decode cX8_shapes 37 = .ok (.iconst 0, 1) := by decide +kernel
theorem dX8_shapes_38 : decode cX8_shapes 38 = .ok (.istore_n 3, 1) := by decide +kernel
theorem dX8_shapes_39 : decode cX8_shapes 39 = .ok (.iload_n 3, 1) := by decide +kernel
theorem dX8_shapes_40 : decode cX8_shapes 40 = .ok (.iload_n 2, 1) := by decide +kernel
theorem dX8_shapes_41 : decode cX8_shapes 41 = .ok (.if_icmp .ge 35, 3) := by decide +kernel
theorem dX8_shapes_44 : decode cX8_shapes 44 = .ok (.aload_n 0, 1) := by decide +kernel
theorem dX8_shapes_45 : decode cX8_shapes 45 = .ok (.getfield 56, 3) := by decide +kernel
theorem dX8_shapes_48 : decode cX8_shapes 48 = .ok (.iload_n 2, 1) := by decide +kernel
theorem dX8_shapes_49 : decode cX8_shapes 49 = .ok (.dup2, 1) := by decide +kernel
theorem dX8_shapes_50 : decode cX8_shapes 50 = .ok (.laload, 1) := by decide +kernel
theorem dX8_shapes_51 : decode cX8_shapes 51 = .ok (.aload_n 0, 1) := by decide +kernel
theorem dX8_shapes_52 : decode cX8_shapes 52 = .ok (.getfield 56, 3) := by decide +kernel
theorem dX8_shapes_55 : decode cX8_shapes 55 = .ok (.iload_n 3, 1) := by decide +kernel
theorem dX8_shapes_56 : decode cX8_shapes 56 = .ok (.laload, 1) := by decide +kernel
theorem dX8_shapes_57 : decode cX8_shapes 57 = .ok (.aload_n 0, 1) := by decide +kernel
theorem dX8_shapes_58 : decode cX8_shapes 58 = .ok (.getfield 56, 3) := by decide +kernel
theorem dX8_shapes_61 : decode cX8_shapes 61 = .ok (.iload_n 2, 1) := by decide +kernel
theorem dX8_shapes_62 : decode cX8_shapes 62 = .ok (.iconst 1, 1) := by decide +kernel
theorem dX8_shapes_63 : decode cX8_shapes 63 = .ok (.isub, 1) := by decide +kernel
theorem dX8_shapes_64 : decode cX8_shapes 64 = .ok (.iload_n 3, 1) := by decide +kernel
theorem dX8_shapes_65 : decode cX8_shapes 65 = .ok (.isub, 1) := by decide +kernel
theorem dX8_shapes_66 : decode cX8_shapes 66 = .ok (.laload, 1) := by decide +kernel
theorem dX8_shapes_67 : decode cX8_shapes 67 = .ok (.lmul, 1) := by decide +kernel
theorem dX8_shapes_68 : decode cX8_shapes 68 = .ok (.ladd, 1) := by decide +kernel
theorem dX8_shapes_69 : decode cX8_shapes 69 = .ok (.lastore, 1) := by decide +kernel
theorem dX8_shapes_70 : decode cX8_shapes 70 = .ok (.iinc 3 1, 3) := by decide +kernel
theorem dX8_shapes_73 : decode cX8_shapes 73 = .ok (.goto (-34), 3) := by decide +kernel
theorem dX8_shapes_76 : decode cX8_shapes 76 = .ok (.iinc 2 1, 3) := by decide +kernel
theorem dX8_shapes_79 : decode cX8_shapes 79 = .ok (.goto (-54), 3) := by decide +kernel
theorem dX8_shapes_82 : decode cX8_shapes 82 = .ok (.aload_n 0, 1) := by decide +kernel
theorem dX8_shapes_83 : decode cX8_shapes 83 = .ok (.getfield 56, 3) := by decide +kernel
theorem dX8_shapes_86 : decode cX8_shapes 86 = .ok (.iload_n 1, 1) := by decide +kernel
theorem dX8_shapes_87 : decode cX8_shapes 87 = .ok (.laload, 1) := by decide +kernel
theorem dX8_shapes_88 : decode cX8_shapes 88 = .ok (.lreturn, 1) := by decide +kernel
theorem dX8_divisor_0 : decode cX8_divisor 0 = .ok (.lload_n 2, 1) := by decide +kernel
theorem dX8_divisor_1 : decode cX8_divisor 1 = .ok (.lstore 4, 2) := by decide +kernel
theorem dX8_divisor_3 : decode cX8_divisor 3 = .ok (.lload_n 0, 1) := by decide +kernel
theorem dX8_divisor_4 : decode cX8_divisor 4 = .ok (.lstore 6, 2) := by decide +kernel
theorem dX8_divisor_6 : decode cX8_divisor 6 = .ok (.lload 6, 2) := by decide +kernel
theorem dX8_divisor_8 : decode cX8_divisor 8 = .ok (.lconst 0, 1) := by decide +kernel
theorem dX8_divisor_9 : decode cX8_divisor 9 = .ok (.lcmp, 1) := by decide +kernel
theorem dX8_divisor_10 : decode cX8_divisor 10 = .ok (.ifCond .eq 21, 3) := by decide +kernel
theorem dX8_divisor_13 : decode cX8_divisor 13 = .ok (.lload 4, 2) := by decide +kernel
theorem dX8_divisor_15 : decode cX8_divisor 15 = .ok (.lload 6, 2) := by decide +kernel
theorem dX8_divisor_17 : decode cX8_divisor 17 = .ok (.lrem, 1) := by decide +kernel
theorem dX8_divisor_18 : decode cX8_divisor 18 = .ok (.lstore 8, 2) := by decide +kernel
theorem dX8_divisor_20 : decode cX8_divisor 20 = .ok (.lload 6, 2) := by decide +kernel
theorem dX8_divisor_22 : decode cX8_divisor 22 = .ok (.lstore 4, 2) := by decide +kernel
theorem dX8_divisor_24 : decode cX8_divisor 24 = .ok (.lload 8, 2) := by decide +kernel
theorem dX8_divisor_26 : decode cX8_divisor 26 = .ok (.lstore 6, 2) := by decide +kernel
theorem dX8_divisor_28 : decode cX8_divisor 28 = .ok (.goto (-22), 3) := by decide +kernel
theorem dX8_divisor_31 : decode cX8_divisor 31 = .ok (.lload 4, 2) := by decide +kernel
theorem dX8_divisor_33 : decode cX8_divisor 33 = .ok (.lreturn, 1) := by decide +kernel
theorem dX8_deep_0 : decode cX8_deep 0 = .ok (.iload_n 1, 1) := by decide +kernel
theorem dX8_deep_1 : decode cX8_deep 1 = .ok (.i2l, 1) := by decide +kernel
theorem dX8_deep_2 : decode cX8_deep 2 = .ok (.lconst 1, 1) := by decide +kernel
theorem dX8_deep_3 : decode cX8_deep 3 = .ok (.ldc2_w 307, 3) := by decide +kernel
theorem dX8_deep_6 : decode cX8_deep 6 = .ok (.invokestatic 68, 3) := by decide +kernel
theorem dX8_deep_9 : decode cX8_deep 9 = .ok (.ifCond .eq 26, 3) := by decide +kernel
theorem dX8_deep_12 : decode cX8_deep 12 = .ok (.iload_n 2, 1) := by decide +kernel
theorem dX8_deep_13 : decode cX8_deep 13 = .ok (.i2l, 1) := by decide +kernel
theorem dX8_deep_14 : decode cX8_deep 14 = .ok (.lconst 0, 1) := by decide +kernel
theorem dX8_deep_15 : decode cX8_deep 15 = .ok (.iload_n 1, 1) := by decide +kernel
theorem dX8_deep_16 : decode cX8_deep 16 = .ok (.iconst 1, 1) := by decide +kernel
theorem dX8_deep_17 : decode cX8_deep 17 = .ok (.isub, 1) := by decide +kernel
theorem dX8_deep_18 : decode cX8_deep 18 = .ok (.i2l, 1) := by decide +kernel
theorem dX8_deep_19 : decode cX8_deep 19 = .ok (.invokestatic 68, 3) := by decide +kernel
theorem dX8_deep_22 : decode cX8_deep 22 = .ok (.ifCond .eq 13, 3) := by decide +kernel
theorem dX8_deep_25 : decode cX8_deep 25 = .ok (.iload_n 3, 1) := by decide +kernel
theorem dX8_deep_26 : decode cX8_deep 26 = .ok (.i2l, 1) := by decide +kernel
theorem dX8_deep_27 : decode cX8_deep 27 = .ok (.lconst 0, 1) := by decide +kernel
theorem dX8_deep_28 : decode cX8_deep 28 = .ok (.lconst 1, 1) := by decide +kernel
theorem dX8_deep_29 : decode cX8_deep 29 = .ok (.invokestatic 68, 3) := by decide +kernel
theorem dX8_deep_32 : decode cX8_deep 32 = .ok (.ifCond .ne 7, 3) := by decide +kernel
theorem dX8_deep_35 : decode cX8_deep 35 = .ok (.ldc2_w 309, 3) := by decide +kernel
theorem dX8_deep_38 : decode cX8_deep 38 = .ok (.lreturn, 1) := by decide +kernel
theorem dX8_deep_39 : decode cX8_deep 39 = .ok (.lconst 1, 1) := by decide +kernel
theorem dX8_deep_40 : decode cX8_deep 40 = .ok (.lstore 4, 2) := by decide +kernel
theorem dX8_deep_42 : decode cX8_deep 42 = .ok (.iconst 2, 1) := by decide +kernel
theorem dX8_deep_43 : decode cX8_deep 43 = .ok (.istore 6, 2) := by decide +kernel
theorem dX8_deep_45 : decode cX8_deep 45 = .ok (.iload 6, 2) := by decide +kernel
theorem dX8_deep_47 : decode cX8_deep 47 = .ok (.bipush 20, 2) := by decide +kernel
theorem dX8_deep_49 : decode cX8_deep 49 = .ok (.if_icmp .gt 26, 3) := by decide +kernel
theorem dX8_deep_52 : decode cX8_deep 52 = .ok (.lload 4, 2) := by decide +kernel
theorem dX8_deep_54 : decode cX8_deep 54 = .ok (.lload 4, 2) := by decide +kernel
theorem dX8_deep_56 : decode cX8_deep 56 = .ok (.iload 6, 2) := by decide +kernel
theorem dX8_deep_58 : decode cX8_deep 58 = .ok (.i2l, 1) := by decide +kernel
theorem dX8_deep_59 : decode cX8_deep 59 = .ok (.invokestatic 311, 3) := by decide +kernel
theorem dX8_deep_62 : decode cX8_deep 62 = .ok (.ldiv, 1) := by decide +kernel
theorem dX8_deep_63 : decode cX8_deep 63 = .ok (.iload 6, 2) := by decide +kernel
theorem dX8_deep_65 : decode cX8_deep 65 = .ok (.i2l, 1) := by decide +kernel
theorem dX8_deep_66 : decode cX8_deep 66 = .ok (.lmul, 1) := by decide +kernel
theorem dX8_deep_67 : decode cX8_deep 67 = .ok (.lstore 4, 2) := by decide +kernel
theorem dX8_deep_69 : decode cX8_deep 69 = .ok (.iinc 6 1, 3) := by decide +kernel
theorem dX8_deep_72 : decode cX8_deep 72 = .ok (.goto (-27), 3) := by decide +kernel
theorem dX8_deep_75 : decode cX8_deep 75 = .ok (.lconst 0, 1) := by decide +kernel
theorem dX8_deep_76 : decode cX8_deep 76 = .ok (.lstore 6, 2) := by decide +kernel
theorem dX8_deep_78 : decode cX8_deep 78 = .ok (.iconst 0, 1) := by decide +kernel
theorem dX8_deep_79 : decode cX8_deep 79 = .ok (.istore 8, 2) := by decide +kernel
theorem dX8_deep_81 : decode cX8_deep 81 = .ok (.iload 8, 2) := by decide +kernel
theorem dX8_deep_83 : decode cX8_deep 83 = .ok (.iload_n 1, 1) := by decide +kernel
theorem dX8_deep_84 : decode cX8_deep 84 = .ok (.if_icmp .ge 50, 3) := by decide +kernel
theorem dX8_deep_87 : decode cX8_deep 87 = .ok (.iload 8, 2) := by decide +kernel
theorem dX8_deep_89 : decode cX8_deep 89 = .ok (.iload_n 2, 1) := by decide +kernel
theorem dX8_deep_90 : decode cX8_deep 90 = .ok (.if_icmp .ge 10, 3) := by decide +kernel
theorem dX8_deep_93 : decode cX8_deep 93 = .ok (.iload_n 2, 1) := by decide +kernel
theorem dX8_deep_94 : decode cX8_deep 94 = .ok (.iload 8, 2) := by decide +kernel
theorem dX8_deep_96 : decode cX8_deep 96 = .ok (.isub, 1) := by decide +kernel
theorem dX8_deep_97 : decode cX8_deep 97 = .ok (.goto 7, 3) := by decide +kernel
theorem dX8_deep_100 : decode cX8_deep 100 = .ok (.iload 8, 2) := by decide +kernel
theorem dX8_deep_102 : decode cX8_deep 102 = .ok (.iload_n 2, 1) := by decide +kernel
theorem dX8_deep_103 : decode cX8_deep 103 = .ok (.isub, 1) := by decide +kernel
theorem dX8_deep_104 : decode cX8_deep 104 = .ok (.istore 9, 2) := by decide +kernel
theorem dX8_deep_106 : decode cX8_deep 106 = .ok (.lload 6, 2) := by decide +kernel
theorem dX8_deep_108 : decode cX8_deep 108 = .ok (.iload 9, 2) := by decide +kernel
theorem dX8_deep_110 : decode cX8_deep 110 = .ok (.ifCond .ne 7, 3) := by decide +kernel
theorem dX8_deep_113 : decode cX8_deep 113 = .ok (.lconst 0, 1) := by decide +kernel
theorem dX8_deep_114 : decode cX8_deep 114 = .ok (.goto 11, 3) := by decide +kernel
theorem dX8_deep_117 : decode cX8_deep 117 = .ok (.lload 4, 2) := by decide +kernel
theorem dX8_deep_119 : decode cX8_deep 119 = .ok (.iload 9, 2) := by decide +kernel
theorem dX8_deep_121 : decode cX8_deep 121 = .ok (.iconst 1, 1) := by decide +kernel
theorem dX8_deep_122 : decode cX8_deep 122 = .ok (.iadd, 1) := by decide +kernel
theorem dX8_deep_123 : decode cX8_deep 123 = .ok (.i2l, 1) := by decide +kernel
theorem dX8_deep_124 : decode cX8_deep 124 = .ok (.ldiv, 1) := by decide +kernel
theorem dX8_deep_125 : decode cX8_deep 125 = .ok (.ladd, 1) := by decide +kernel
theorem dX8_deep_126 : decode cX8_deep 126 = .ok (.lstore 6, 2) := by decide +kernel
theorem dX8_deep_128 : decode cX8_deep 128 = .ok (.iinc 8 1, 3) := by decide +kernel
theorem dX8_deep_131 : decode cX8_deep 131 = .ok (.goto (-50), 3) := by decide +kernel
theorem dX8_deep_134 : decode cX8_deep 134 = .ok (.lload 6, 2) := by decide +kernel
theorem dX8_deep_136 : decode cX8_deep 136 = .ok (.lload 4, 2) := by decide +kernel
theorem dX8_deep_138 : decode cX8_deep 138 = .ok (.invokestatic 311, 3) := by decide +kernel
theorem dX8_deep_141 : decode cX8_deep 141 = .ok (.lstore 8, 2) := by decide +kernel
theorem dX8_deep_143 : decode cX8_deep 143 = .ok (.iload_n 3, 1) := by decide +kernel
theorem dX8_deep_144 : decode cX8_deep 144 = .ok (.ifCond .ne 11, 3) := by decide +kernel
theorem dX8_deep_147 : decode cX8_deep 147 = .ok (.lload 6, 2) := by decide +kernel
theorem dX8_deep_149 : decode cX8_deep 149 = .ok (.lload 8, 2) := by decide +kernel
theorem dX8_deep_151 : decode cX8_deep 151 = .ok (.ldiv, 1) := by decide +kernel
theorem dX8_deep_152 : decode cX8_deep 152 = .ok (.goto 8, 3) := by decide +kernel
theorem dX8_deep_155 : decode cX8_deep 155 = .ok (.lload 4, 2) := by decide +kernel
theorem dX8_deep_157 : decode cX8_deep 157 = .ok (.lload 8, 2) := by decide +kernel
theorem dX8_deep_159 : decode cX8_deep 159 = .ok (.ldiv, 1) := by decide +kernel
theorem dX8_deep_160 : decode cX8_deep 160 = .ok (.lreturn, 1) := by decide +kernel
theorem dX8_actBy_0 : decode cX8_actBy 0 = .ok (.iload_n 0, 1) := by decide +kernel
theorem dX8_actBy_1 : decode cX8_actBy 1 = .ok (.iconst 3, 1) := by decide +kernel
theorem dX8_actBy_2 : decode cX8_actBy 2 = .ok (.if_icmp .ge 7, 3) := by decide +kernel
theorem dX8_actBy_5 : decode cX8_actBy 5 = .ok (.iconst 0, 1) := by decide +kernel
theorem dX8_actBy_6 : decode cX8_actBy 6 = .ok (.goto 56, 3) := by decide +kernel
theorem dX8_actBy_9 : decode cX8_actBy 9 = .ok (.iload_n 0, 1) := by decide +kernel
theorem dX8_actBy_10 : decode cX8_actBy 10 = .ok (.iconst 5, 1) := by decide +kernel
theorem dX8_actBy_11 : decode cX8_actBy 11 = .ok (.if_icmp .ge 7, 3) := by decide +kernel
theorem dX8_actBy_14 : decode cX8_actBy 14 = .ok (.iconst 1, 1) := by decide +kernel
theorem dX8_actBy_15 : decode cX8_actBy 15 = .ok (.goto 47, 3) := by decide +kernel
theorem dX8_actBy_18 : decode cX8_actBy 18 = .ok (.iload_n 0, 1) := by decide +kernel
theorem dX8_actBy_19 : decode cX8_actBy 19 = .ok (.iconst 5, 1) := by decide +kernel
theorem dX8_actBy_20 : decode cX8_actBy 20 = .ok (.if_icmp .ne 7, 3) := by decide +kernel
theorem dX8_actBy_23 : decode cX8_actBy 23 = .ok (.iconst 2, 1) := by decide +kernel
theorem dX8_actBy_24 : decode cX8_actBy 24 = .ok (.goto 38, 3) := by decide +kernel
theorem dX8_actBy_27 : decode cX8_actBy 27 = .ok (.iload_n 0, 1) := by decide +kernel
theorem dX8_actBy_28 : decode cX8_actBy 28 = .ok (.bipush 6, 2) := by decide +kernel
theorem dX8_actBy_30 : decode cX8_actBy 30 = .ok (.if_icmp .ne 20, 3) := by decide +kernel
theorem dX8_actBy_33 : decode cX8_actBy 33 = .ok (.iload_n 1, 1) := by decide +kernel
theorem dX8_actBy_34 : decode cX8_actBy 34 = .ok (.bipush 16, 2) := by decide +kernel
theorem dX8_actBy_36 : decode cX8_actBy 36 = .ok (.idiv, 1) := by decide +kernel
theorem dX8_actBy_37 : decode cX8_actBy 37 = .ok (.iconst 2, 1) := by decide +kernel
theorem dX8_actBy_38 : decode cX8_actBy 38 = .ok (.irem, 1) := by decide +kernel
theorem dX8_actBy_39 : decode cX8_actBy 39 = .ok (.ifCond .ne 7, 3) := by decide +kernel
theorem dX8_actBy_42 : decode cX8_actBy 42 = .ok (.iconst 3, 1) := by decide +kernel
theorem dX8_actBy_43 : decode cX8_actBy 43 = .ok (.goto 19, 3) := by decide +kernel
theorem dX8_actBy_46 : decode cX8_actBy 46 = .ok (.iconst 5, 1) := by decide +kernel
theorem dX8_actBy_47 : decode cX8_actBy 47 = .ok (.goto 15, 3) := by decide +kernel
theorem dX8_actBy_50 : decode cX8_actBy 50 = .ok (.iload_n 1, 1) := by decide +kernel
theorem dX8_actBy_51 : decode cX8_actBy 51 = .ok (.iconst 4, 1) := by decide +kernel
theorem dX8_actBy_52 : decode cX8_actBy 52 = .ok (.irem, 1) := by decide +kernel
theorem dX8_actBy_53 : decode cX8_actBy 53 = .ok (.ifCond .ne 8, 3) := by decide +kernel
theorem dX8_actBy_56 : decode cX8_actBy 56 = .ok (.bipush 7, 2) := by decide +kernel
theorem dX8_actBy_58 : decode cX8_actBy 58 = .ok (.goto 4, 3) := by decide +kernel
theorem dX8_actBy_61 : decode cX8_actBy 61 = .ok (.iconst 4, 1) := by decide +kernel
theorem dX8_actBy_62 : decode cX8_actBy 62 = .ok (.ireturn, 1) := by decide +kernel
theorem dX8_drawn_0 : decode cX8_drawn 0 = .ok (.iload_n 1, 1) := by decide +kernel
theorem dX8_drawn_1 : decode cX8_drawn 1 = .ok (.iload_n 2, 1) := by decide +kernel
theorem dX8_drawn_2 : decode cX8_drawn 2 = .ok (.invokestatic 315, 3) := by decide +kernel
theorem dX8_drawn_5 : decode cX8_drawn 5 = .ok (.istore_n 3, 1) := by decide +kernel
theorem dX8_drawn_6 : decode cX8_drawn 6 = .ok (.iload_n 1, 1) := by decide +kernel
theorem dX8_drawn_7 : decode cX8_drawn 7 = .ok (.iconst 5, 1) := by decide +kernel
theorem dX8_drawn_8 : decode cX8_drawn 8 = .ok (.if_icmp .ge 12, 3) := by decide +kernel
theorem dX8_drawn_11 : decode cX8_drawn 11 = .ok (.iload_n 2, 1) := by decide +kernel
theorem dX8_drawn_12 : decode cX8_drawn 12 = .ok (.bipush 50, 2) := by decide +kernel
theorem dX8_drawn_14 : decode cX8_drawn 14 = .ok (.idiv, 1) := by decide +kernel
theorem dX8_drawn_15 : decode cX8_drawn 15 = .ok (.iconst 4, 1) := by decide +kernel
theorem dX8_drawn_16 : decode cX8_drawn 16 = .ok (.irem, 1) := by decide +kernel
theorem dX8_drawn_17 : decode cX8_drawn 17 = .ok (.goto 20, 3) := by decide +kernel
theorem dX8_drawn_20 : decode cX8_drawn 20 = .ok (.iload_n 1, 1) := by decide +kernel
theorem dX8_drawn_21 : decode cX8_drawn 21 = .ok (.bipush 7, 2) := by decide +kernel
theorem dX8_drawn_23 : decode cX8_drawn 23 = .ok (.if_icmp .ne 11, 3) := by decide +kernel
theorem dX8_drawn_26 : decode cX8_drawn 26 = .ok (.iload_n 2, 1) := by decide +kernel
theorem dX8_drawn_27 : decode cX8_drawn 27 = .ok (.iconst 4, 1) := by decide +kernel
theorem dX8_drawn_28 : decode cX8_drawn 28 = .ok (.idiv, 1) := by decide +kernel
theorem dX8_drawn_29 : decode cX8_drawn 29 = .ok (.iconst 4, 1) := by decide +kernel
theorem dX8_drawn_30 : decode cX8_drawn 30 = .ok (.irem, 1) := by decide +kernel
theorem dX8_drawn_31 : decode cX8_drawn 31 = .ok (.goto 6, 3) := by decide +kernel
theorem dX8_drawn_34 : decode cX8_drawn 34 = .ok (.iload_n 2, 1) := by decide +kernel
theorem dX8_drawn_35 : decode cX8_drawn 35 = .ok (.iconst 4, 1) := by decide +kernel
theorem dX8_drawn_36 : decode cX8_drawn 36 = .ok (.irem, 1) := by decide +kernel
theorem dX8_drawn_37 : decode cX8_drawn 37 = .ok (.istore 4, 2) := by decide +kernel
theorem dX8_drawn_39 : decode cX8_drawn 39 = .ok (.iload_n 1, 1) := by decide +kernel
theorem dX8_drawn_40 : decode cX8_drawn 40 = .ok (.iconst 5, 1) := by decide +kernel
theorem dX8_drawn_41 : decode cX8_drawn 41 = .ok (.if_icmp .ge 10, 3) := by decide +kernel
theorem dX8_drawn_44 : decode cX8_drawn 44 = .ok (.iload_n 2, 1) := by decide +kernel
theorem dX8_drawn_45 : decode cX8_drawn 45 = .ok (.bipush 50, 2) := by decide +kernel
theorem dX8_drawn_47 : decode cX8_drawn 47 = .ok (.irem, 1) := by decide +kernel
theorem dX8_drawn_48 : decode cX8_drawn 48 = .ok (.goto 9, 3) := by decide +kernel
theorem dX8_drawn_51 : decode cX8_drawn 51 = .ok (.iload_n 2, 1) := by decide +kernel
theorem dX8_drawn_52 : decode cX8_drawn 52 = .ok (.iconst 4, 1) := by decide +kernel
theorem dX8_drawn_53 : decode cX8_drawn 53 = .ok (.idiv, 1) := by decide +kernel
theorem dX8_drawn_54 : decode cX8_drawn 54 = .ok (.bipush 50, 2) := by decide +kernel
theorem dX8_drawn_56 : decode cX8_drawn 56 = .ok (.irem, 1) := by decide +kernel
theorem dX8_drawn_57 : decode cX8_drawn 57 = .ok (.istore 5, 2) := by decide +kernel
theorem dX8_drawn_59 : decode cX8_drawn 59 = .ok (.iload_n 1, 1) := by decide +kernel
theorem dX8_drawn_60 : decode cX8_drawn 60 = .ok (.iconst 5, 1) := by decide +kernel
theorem dX8_drawn_61 : decode cX8_drawn 61 = .ok (.if_icmp .ne 13, 3) := by decide +kernel
theorem dX8_drawn_64 : decode cX8_drawn 64 = .ok (.iload_n 2, 1) := by decide +kernel
theorem dX8_drawn_65 : decode cX8_drawn 65 = .ok (.sipush 200, 3) := by decide +kernel
theorem dX8_drawn_68 : decode cX8_drawn 68 = .ok (.idiv, 1) := by decide +kernel
theorem dX8_drawn_69 : decode cX8_drawn 69 = .ok (.iconst 4, 1) := by decide +kernel
theorem dX8_drawn_70 : decode cX8_drawn 70 = .ok (.irem, 1) := by decide +kernel
theorem dX8_drawn_71 : decode cX8_drawn 71 = .ok (.goto 23, 3) := by decide +kernel
theorem dX8_drawn_74 : decode cX8_drawn 74 = .ok (.iload_n 1, 1) := by decide +kernel
theorem dX8_drawn_75 : decode cX8_drawn 75 = .ok (.bipush 6, 2) := by decide +kernel
theorem dX8_drawn_77 : decode cX8_drawn 77 = .ok (.if_icmp .ne 11, 3) := by decide +kernel
theorem dX8_drawn_80 : decode cX8_drawn 80 = .ok (.iload_n 2, 1) := by decide +kernel
theorem dX8_drawn_81 : decode cX8_drawn 81 = .ok (.iconst 4, 1) := by decide +kernel
theorem dX8_drawn_82 : decode cX8_drawn 82 = .ok (.idiv, 1) := by decide +kernel
theorem dX8_drawn_83 : decode cX8_drawn 83 = .ok (.iconst 4, 1) := by decide +kernel
theorem dX8_drawn_84 : decode cX8_drawn 84 = .ok (.irem, 1) := by decide +kernel
theorem dX8_drawn_85 : decode cX8_drawn 85 = .ok (.goto 9, 3) := by decide +kernel
theorem dX8_drawn_88 : decode cX8_drawn 88 = .ok (.iload_n 2, 1) := by decide +kernel
theorem dX8_drawn_89 : decode cX8_drawn 89 = .ok (.bipush 16, 2) := by decide +kernel
theorem dX8_drawn_91 : decode cX8_drawn 91 = .ok (.idiv, 1) := by decide +kernel
theorem dX8_drawn_92 : decode cX8_drawn 92 = .ok (.iconst 4, 1) := by decide +kernel
theorem dX8_drawn_93 : decode cX8_drawn 93 = .ok (.irem, 1) := by decide +kernel
theorem dX8_drawn_94 : decode cX8_drawn 94 = .ok (.istore 6, 2) := by decide +kernel
theorem dX8_drawn_96 : decode cX8_drawn 96 = .ok (.aload_n 0, 1) := by decide +kernel
theorem dX8_drawn_97 : decode cX8_drawn 97 = .ok (.iload_n 3, 1) := by decide +kernel
theorem dX8_drawn_98 : decode cX8_drawn 98 = .ok (.iload 4, 2) := by decide +kernel
theorem dX8_drawn_100 : decode cX8_drawn 100 = .ok (.iload 5, 2) := by decide +kernel
theorem dX8_drawn_102 : decode cX8_drawn 102 = .ok (.iload 6, 2) := by decide +kernel
theorem dX8_drawn_104 : decode cX8_drawn 104 = .ok (.invokevirtual 234, 3) := by decide +kernel
theorem dX8_drawn_107 : decode cX8_drawn 107 = .ok (.ifCond .ne 14, 3) := by decide +kernel
theorem dX8_drawn_110 : decode cX8_drawn 110 = .ok (.aload_n 0, 1) := by decide +kernel
theorem dX8_drawn_111 : decode cX8_drawn 111 = .ok (.iload_n 3, 1) := by decide +kernel
theorem dX8_drawn_112 : decode cX8_drawn 112 = .ok (.iload 4, 2) := by decide +kernel
theorem dX8_drawn_114 : decode cX8_drawn 114 = .ok (.iload 5, 2) := by decide +kernel
theorem dX8_drawn_116 : decode cX8_drawn 116 = .ok (.iload 6, 2) := by decide +kernel
theorem dX8_drawn_118 : decode cX8_drawn 118 = .ok (.invokevirtual 210, 3) := by decide +kernel
theorem dX8_drawn_121 : decode cX8_drawn 121 = .ok (.return_, 1) := by decide +kernel
theorem dX8_run_0 : decode cX8_run 0 = .ok (.iload_n 1, 1) := by decide +kernel
theorem dX8_run_1 : decode cX8_run 1 = .ok (.i2l, 1) := by decide +kernel
theorem dX8_run_2 : decode cX8_run 2 = .ok (.lconst 0, 1) := by decide +kernel
theorem dX8_run_3 : decode cX8_run 3 = .ok (.ldc2_w 86, 3) := by decide +kernel
theorem dX8_run_6 : decode cX8_run 6 = .ok (.invokestatic 68, 3) := by decide +kernel
theorem dX8_run_9 : decode cX8_run 9 = .ok (.ifCond .eq 27, 3) := by decide +kernel
theorem dX8_run_12 : decode cX8_run 12 = .ok (.iload_n 2, 1) := by decide +kernel
theorem dX8_run_13 : decode cX8_run 13 = .ok (.i2l, 1) := by decide +kernel
theorem dX8_run_14 : decode cX8_run 14 = .ok (.lconst 1, 1) := by decide +kernel
theorem dX8_run_15 : decode cX8_run 15 = .ok (.ldc2_w 318, 3) := by decide +kernel
theorem dX8_run_18 : decode cX8_run 18 = .ok (.invokestatic 68, 3) := by decide +kernel
theorem dX8_run_21 : decode cX8_run 21 = .ok (.ifCond .eq 15, 3) := by decide +kernel
theorem dX8_run_24 : decode cX8_run 24 = .ok (.iload_n 3, 1) := by decide +kernel
theorem dX8_run_25 : decode cX8_run 25 = .ok (.i2l, 1) := by decide +kernel
theorem dX8_run_26 : decode cX8_run 26 = .ok (.lconst 0, 1) := by decide +kernel
theorem dX8_run_27 : decode cX8_run 27 = .ok (.ldc2_w 251, 3) := by decide +kernel
theorem dX8_run_30 : decode cX8_run 30 = .ok (.invokestatic 68, 3) := by decide +kernel
theorem dX8_run_33 : decode cX8_run 33 = .ok (.ifCond .ne 6, 3) := by decide +kernel
theorem dX8_run_36 : decode cX8_run 36 = .ok (.bipush (-2), 2) := by decide +kernel
theorem dX8_run_38 : decode cX8_run 38 = .ok (.ireturn, 1) := by decide +kernel
theorem dX8_run_39 : decode cX8_run 39 = .ok (.aload_n 0, 1) := by decide +kernel
theorem dX8_run_40 : decode cX8_run 40 = .ok (.invokevirtual 242, 3) := by decide +kernel
theorem dX8_run_43 : decode cX8_run 43 = .ok (.iload_n 1, 1) := by decide +kernel
theorem dX8_run_44 : decode cX8_run 44 = .ok (.istore 4, 2) := by decide +kernel
theorem dX8_run_46 : decode cX8_run 46 = .ok (.iconst 0, 1) := by decide +kernel
theorem dX8_run_47 : decode cX8_run 47 = .ok (.istore 5, 2) := by decide +kernel
theorem dX8_run_49 : decode cX8_run 49 = .ok (.iload 5, 2) := by decide +kernel
theorem dX8_run_51 : decode cX8_run 51 = .ok (.iload_n 2, 1) := by decide +kernel
theorem dX8_run_52 : decode cX8_run 52 = .ok (.if_icmp .ge 41, 3) := by decide +kernel
theorem dX8_run_55 : decode cX8_run 55 = .ok (.ldc2_w 320, 3) := by decide +kernel
theorem dX8_run_58 : decode cX8_run 58 = .ok (.iload 4, 2) := by decide +kernel
theorem dX8_run_60 : decode cX8_run 60 = .ok (.i2l, 1) := by decide +kernel
theorem dX8_run_61 : decode cX8_run 61 = .ok (.lmul, 1) := by decide +kernel
theorem dX8_run_62 : decode cX8_run 62 = .ok (.ldc2_w 322, 3) := by decide +kernel
theorem dX8_run_65 : decode cX8_run 65 = .ok (.ladd, 1) := by decide +kernel
theorem dX8_run_66 : decode cX8_run 66 = .ok (.ldc2_w 324, 3) := by decide +kernel
theorem dX8_run_69 : decode cX8_run 69 = .ok (.lrem, 1) := by decide +kernel
theorem dX8_run_70 : decode cX8_run 70 = .ok (.l2i, 1) := by decide +kernel
theorem dX8_run_71 : decode cX8_run 71 = .ok (.istore 4, 2) := by decide +kernel
theorem dX8_run_73 : decode cX8_run 73 = .ok (.aload_n 0, 1) := by decide +kernel
theorem dX8_run_74 : decode cX8_run 74 = .ok (.iload 4, 2) := by decide +kernel
theorem dX8_run_76 : decode cX8_run 76 = .ok (.bipush 8, 2) := by decide +kernel
theorem dX8_run_78 : decode cX8_run 78 = .ok (.irem, 1) := by decide +kernel
theorem dX8_run_79 : decode cX8_run 79 = .ok (.iload 4, 2) := by decide +kernel
theorem dX8_run_81 : decode cX8_run 81 = .ok (.bipush 8, 2) := by decide +kernel
theorem dX8_run_83 : decode cX8_run 83 = .ok (.idiv, 1) := by decide +kernel
theorem dX8_run_84 : decode cX8_run 84 = .ok (.invokevirtual 326, 3) := by decide +kernel
theorem dX8_run_87 : decode cX8_run 87 = .ok (.iinc 5 1, 3) := by decide +kernel
theorem dX8_run_90 : decode cX8_run 90 = .ok (.goto (-41), 3) := by decide +kernel
theorem dX8_run_93 : decode cX8_run 93 = .ok (.aload_n 0, 1) := by decide +kernel
theorem dX8_run_94 : decode cX8_run 94 = .ok (.iconst 0, 1) := by decide +kernel
theorem dX8_run_95 : decode cX8_run 95 = .ok (.invokevirtual 99, 3) := by decide +kernel
theorem dX8_run_98 : decode cX8_run 98 = .ok (.aload_n 0, 1) := by decide +kernel
theorem dX8_run_99 : decode cX8_run 99 = .ok (.iconst 1, 1) := by decide +kernel
theorem dX8_run_100 : decode cX8_run 100 = .ok (.invokevirtual 99, 3) := by decide +kernel
theorem dX8_run_103 : decode cX8_run 103 = .ok (.iadd, 1) := by decide +kernel
theorem dX8_run_104 : decode cX8_run 104 = .ok (.aload_n 0, 1) := by decide +kernel
theorem dX8_run_105 : decode cX8_run 105 = .ok (.iconst 2, 1) := by decide +kernel
theorem dX8_run_106 : decode cX8_run 106 = .ok (.invokevirtual 99, 3) := by decide +kernel
theorem dX8_run_109 : decode cX8_run 109 = .ok (.iadd, 1) := by decide +kernel
theorem dX8_run_110 : decode cX8_run 110 = .ok (.aload_n 0, 1) := by decide +kernel
theorem dX8_run_111 : decode cX8_run 111 = .ok (.iconst 3, 1) := by decide +kernel
theorem dX8_run_112 : decode cX8_run 112 = .ok (.invokevirtual 99, 3) := by decide +kernel
theorem dX8_run_115 : decode cX8_run 115 = .ok (.iadd, 1) := by decide +kernel
theorem dX8_run_116 : decode cX8_run 116 = .ok (.istore 5, 2) := by decide +kernel
theorem dX8_run_118 : decode cX8_run 118 = .ok (.aload_n 0, 1) := by decide +kernel
theorem dX8_run_119 : decode cX8_run 119 = .ok (.iload_n 3, 1) := by decide +kernel
theorem dX8_run_120 : decode cX8_run 120 = .ok (.ifCond .ne 14, 3) := by decide +kernel
theorem dX8_run_123 : decode cX8_run 123 = .ok (.aload_n 0, 1) := by decide +kernel
theorem dX8_run_124 : decode cX8_run 124 = .ok (.iconst 0, 1) := by decide +kernel
theorem dX8_run_125 : decode cX8_run 125 = .ok (.iconst 0, 1) := by decide +kernel
theorem dX8_run_126 : decode cX8_run 126 = .ok (.bipush 49, 2) := by decide +kernel
theorem dX8_run_128 : decode cX8_run 128 = .ok (.invokevirtual 260, 3) := by decide +kernel
theorem dX8_run_131 : decode cX8_run 131 = .ok (.goto 17, 3) := by decide +kernel
theorem dX8_run_134 : decode cX8_run 134 = .ok (.iload_n 3, 1) := by decide +kernel
theorem dX8_run_135 : decode cX8_run 135 = .ok (.iconst 1, 1) := by decide +kernel
theorem dX8_run_136 : decode cX8_run 136 = .ok (.if_icmp .ne 8, 3) := by decide +kernel
theorem dX8_run_139 : decode cX8_run 139 = .ok (.iload 5, 2) := by decide +kernel
theorem dX8_run_141 : decode cX8_run 141 = .ok (.goto 7, 3) := by decide +kernel
theorem dX8_run_144 : decode cX8_run 144 = .ok (.aload_n 0, 1) := by decide +kernel
theorem dX8_run_145 : decode cX8_run 145 = .ok (.getfield 78, 3) := by decide +kernel
theorem dX8_run_148 : decode cX8_run 148 = .ok (.invokevirtual 257, 3) := by decide +kernel
theorem dX8_run_151 : decode cX8_run 151 = .ok (.ireturn, 1) := by decide +kernel
theorem dX8_pass_0 : decode cX8_pass 0 = .ok (.aload_n 0, 1) := by decide +kernel
theorem dX8_pass_1 : decode cX8_pass 1 = .ok (.getfield 330, 3) := by decide +kernel
theorem dX8_pass_4 : decode cX8_pass 4 = .ok (.ifCond .eq 7, 3) := by decide +kernel
theorem dX8_pass_7 : decode cX8_pass 7 = .ok (.iload_n 1, 1) := by decide +kernel
theorem dX8_pass_8 : decode cX8_pass 8 = .ok (.goto 12, 3) := by decide +kernel
theorem dX8_pass_11 : decode cX8_pass 11 = .ok (.aload_n 0, 1) := by decide +kernel
theorem dX8_pass_12 : decode cX8_pass 12 = .ok (.getfield 59, 3) := by decide +kernel
theorem dX8_pass_15 : decode cX8_pass 15 = .ok (.aload_n 0, 1) := by decide +kernel
theorem dX8_pass_16 : decode cX8_pass 16 = .ok (.getfield 333, 3) := by decide +kernel
theorem dX8_pass_19 : decode cX8_pass 19 = .ok (.iaload, 1) := by decide +kernel
theorem dX8_pass_20 : decode cX8_pass 20 = .ok (.istore_n 2, 1) := by decide +kernel
theorem dX8_pass_21 : decode cX8_pass 21 = .ok (.aload_n 0, 1) := by decide +kernel
theorem dX8_pass_22 : decode cX8_pass 22 = .ok (.getfield 59, 3) := by decide +kernel
theorem dX8_pass_25 : decode cX8_pass 25 = .ok (.aload_n 0, 1) := by decide +kernel
theorem dX8_pass_26 : decode cX8_pass 26 = .ok (.getfield 333, 3) := by decide +kernel
theorem dX8_pass_29 : decode cX8_pass 29 = .ok (.iload_n 2, 1) := by decide +kernel
theorem dX8_pass_30 : decode cX8_pass 30 = .ok (.iastore, 1) := by decide +kernel
theorem dX8_pass_31 : decode cX8_pass 31 = .ok (.aload_n 0, 1) := by decide +kernel
theorem dX8_pass_32 : decode cX8_pass 32 = .ok (.dup, 1) := by decide +kernel
theorem dX8_pass_33 : decode cX8_pass 33 = .ok (.getfield 333, 3) := by decide +kernel
theorem dX8_pass_36 : decode cX8_pass 36 = .ok (.iconst 1, 1) := by decide +kernel
theorem dX8_pass_37 : decode cX8_pass 37 = .ok (.iadd, 1) := by decide +kernel
theorem dX8_pass_38 : decode cX8_pass 38 = .ok (.putfield 333, 3) := by decide +kernel
theorem dX8_pass_41 : decode cX8_pass 41 = .ok (.iload_n 2, 1) := by decide +kernel
theorem dX8_pass_42 : decode cX8_pass 42 = .ok (.ireturn, 1) := by decide +kernel
theorem dX8_passRow_0 : decode cX8_passRow 0 = .ok (.iconst 0, 1) := by decide +kernel
theorem dX8_passRow_1 : decode cX8_passRow 1 = .ok (.istore_n 3, 1) := by decide +kernel
theorem dX8_passRow_2 : decode cX8_passRow 2 = .ok (.iload_n 3, 1) := by decide +kernel
theorem dX8_passRow_3 : decode cX8_passRow 3 = .ok (.iload_n 2, 1) := by decide +kernel
theorem dX8_passRow_4 : decode cX8_passRow 4 = .ok (.if_icmp .ge 19, 3) := by decide +kernel
theorem dX8_passRow_7 : decode cX8_passRow 7 = .ok (.aload_n 1, 1) := by decide +kernel
theorem dX8_passRow_8 : decode cX8_passRow 8 = .ok (.iload_n 3, 1) := by decide +kernel
theorem dX8_passRow_9 : decode cX8_passRow 9 = .ok (.aload_n 0, 1) := by decide +kernel
theorem dX8_passRow_10 : decode cX8_passRow 10 = .ok (.aload_n 1, 1) := by decide +kernel
theorem dX8_passRow_11 : decode cX8_passRow 11 = .ok (.iload_n 3, 1) := by decide +kernel
theorem dX8_passRow_12 : decode cX8_passRow 12 = .ok (.iaload, 1) := by decide +kernel
theorem dX8_passRow_13 : decode cX8_passRow 13 = .ok (.invokevirtual 336, 3) := by decide +kernel
theorem dX8_passRow_16 : decode cX8_passRow 16 = .ok (.iastore, 1) := by decide +kernel
theorem dX8_passRow_17 : decode cX8_passRow 17 = .ok (.iinc 3 1, 3) := by decide +kernel
theorem dX8_passRow_20 : decode cX8_passRow 20 = .ok (.goto (-18), 3) := by decide +kernel
theorem dX8_passRow_23 : decode cX8_passRow 23 = .ok (.return_, 1) := by decide +kernel
theorem dX8_passAll_0 : decode cX8_passAll 0 = .ok (.aload_n 0, 1) := by decide +kernel
theorem dX8_passAll_1 : decode cX8_passAll 1 = .ok (.aload_n 0, 1) := by decide +kernel
theorem dX8_passAll_2 : decode cX8_passAll 2 = .ok (.aload_n 0, 1) := by decide +kernel
theorem dX8_passAll_3 : decode cX8_passAll 3 = .ok (.getfield 78, 3) := by decide +kernel
theorem dX8_passAll_6 : decode cX8_passAll 6 = .ok (.invokevirtual 336, 3) := by decide +kernel
theorem dX8_passAll_9 : decode cX8_passAll 9 = .ok (.putfield 78, 3) := by decide +kernel
theorem dX8_passAll_12 : decode cX8_passAll 12 = .ok (.aload_n 0, 1) := by decide +kernel
theorem dX8_passAll_13 : decode cX8_passAll 13 = .ok (.aload_n 0, 1) := by decide +kernel
theorem dX8_passAll_14 : decode cX8_passAll 14 = .ok (.aload_n 0, 1) := by decide +kernel
theorem dX8_passAll_15 : decode cX8_passAll 15 = .ok (.getfield 293, 3) := by decide +kernel
theorem dX8_passAll_18 : decode cX8_passAll 18 = .ok (.invokevirtual 336, 3) := by decide +kernel
theorem dX8_passAll_21 : decode cX8_passAll 21 = .ok (.putfield 293, 3) := by decide +kernel
theorem dX8_passAll_24 : decode cX8_passAll 24 = .ok (.aload_n 0, 1) := by decide +kernel
theorem dX8_passAll_25 : decode cX8_passAll 25 = .ok (.aload_n 0, 1) := by decide +kernel
theorem dX8_passAll_26 : decode cX8_passAll 26 = .ok (.getfield 7, 3) := by decide +kernel
theorem dX8_passAll_29 : decode cX8_passAll 29 = .ok (.sipush 200, 3) := by decide +kernel
theorem dX8_passAll_32 : decode cX8_passAll 32 = .ok (.invokevirtual 339, 3) := by decide +kernel
theorem dX8_passAll_35 : decode cX8_passAll 35 = .ok (.aload_n 0, 1) := by decide +kernel
theorem dX8_passAll_36 : decode cX8_passAll 36 = .ok (.aload_n 0, 1) := by decide +kernel
theorem dX8_passAll_37 : decode cX8_passAll 37 = .ok (.getfield 13, 3) := by decide +kernel
theorem dX8_passAll_40 : decode cX8_passAll 40 = .ok (.bipush 8, 2) := by decide +kernel
theorem dX8_passAll_42 : decode cX8_passAll 42 = .ok (.invokevirtual 339, 3) := by decide +kernel
theorem dX8_passAll_45 : decode cX8_passAll 45 = .ok (.aload_n 0, 1) := by decide +kernel
theorem dX8_passAll_46 : decode cX8_passAll 46 = .ok (.aload_n 0, 1) := by decide +kernel
theorem dX8_passAll_47 : decode cX8_passAll 47 = .ok (.getfield 16, 3) := by decide +kernel
theorem dX8_passAll_50 : decode cX8_passAll 50 = .ok (.bipush 8, 2) := by decide +kernel
theorem dX8_passAll_52 : decode cX8_passAll 52 = .ok (.invokevirtual 339, 3) := by decide +kernel
theorem dX8_passAll_55 : decode cX8_passAll 55 = .ok (.return_, 1) := by decide +kernel
theorem dX8_image_0 : decode cX8_image 0 = .ok (.iload_n 1, 1) := by decide +kernel
theorem dX8_image_1 : decode cX8_image 1 = .ok (.i2l, 1) := by decide +kernel
theorem dX8_image_2 : decode cX8_image 2 = .ok (.lconst 0, 1) := by decide +kernel
theorem dX8_image_3 : decode cX8_image 3 = .ok (.lconst 1, 1) := by decide +kernel
theorem dX8_image_4 : decode cX8_image 4 = .ok (.invokestatic 68, 3) := by decide +kernel
theorem dX8_image_7 : decode cX8_image 7 = .ok (.ifCond .ne 6, 3) := by decide +kernel
theorem dX8_image_10 : decode cX8_image 10 = .ok (.bipush (-2), 2) := by decide +kernel
theorem dX8_image_12 : decode cX8_image 12 = .ok (.ireturn, 1) := by decide +kernel
theorem dX8_image_13 : decode cX8_image 13 = .ok (.aload_n 0, 1) := by decide +kernel
theorem dX8_image_14 : decode cX8_image 14 = .ok (.sipush 230, 3) := by decide +kernel
theorem dX8_image_17 : decode cX8_image 17 = .ok (.iload_n 1, 1) := by decide +kernel
theorem dX8_image_18 : decode cX8_image 18 = .ok (.imul, 1) := by decide +kernel
theorem dX8_image_19 : decode cX8_image 19 = .ok (.putfield 333, 3) := by decide +kernel
theorem dX8_image_22 : decode cX8_image 22 = .ok (.aload_n 0, 1) := by decide +kernel
theorem dX8_image_23 : decode cX8_image 23 = .ok (.iconst 1, 1) := by decide +kernel
theorem dX8_image_24 : decode cX8_image 24 = .ok (.putfield 330, 3) := by decide +kernel
theorem dX8_image_27 : decode cX8_image 27 = .ok (.aload_n 0, 1) := by decide +kernel
theorem dX8_image_28 : decode cX8_image 28 = .ok (.invokevirtual 343, 3) := by decide +kernel
theorem dX8_image_31 : decode cX8_image 31 = .ok (.aload_n 0, 1) := by decide +kernel
theorem dX8_image_32 : decode cX8_image 32 = .ok (.getfield 62, 3) := by decide +kernel
theorem dX8_image_35 : decode cX8_image 35 = .ok (.iload_n 1, 1) := by decide +kernel
theorem dX8_image_36 : decode cX8_image 36 = .ok (.iconst 1, 1) := by decide +kernel
theorem dX8_image_37 : decode cX8_image 37 = .ok (.bastore, 1) := by decide +kernel
theorem dX8_image_38 : decode cX8_image 38 = .ok (.iconst 1, 1) := by decide +kernel
theorem dX8_image_39 : decode cX8_image 39 = .ok (.ireturn, 1) := by decide +kernel
theorem dX8_restore_0 : decode cX8_restore 0 = .ok (.iload_n 1, 1) := by decide +kernel
theorem dX8_restore_1 : decode cX8_restore 1 = .ok (.i2l, 1) := by decide +kernel
theorem dX8_restore_2 : decode cX8_restore 2 = .ok (.lconst 0, 1) := by decide +kernel
theorem dX8_restore_3 : decode cX8_restore 3 = .ok (.lconst 1, 1) := by decide +kernel
theorem dX8_restore_4 : decode cX8_restore 4 = .ok (.invokestatic 68, 3) := by decide +kernel
theorem dX8_restore_7 : decode cX8_restore 7 = .ok (.ifCond .ne 6, 3) := by decide +kernel
theorem dX8_restore_10 : decode cX8_restore 10 = .ok (.bipush (-2), 2) := by decide +kernel
theorem dX8_restore_12 : decode cX8_restore 12 = .ok (.ireturn, 1) := by decide +kernel
theorem dX8_restore_13 : decode cX8_restore 13 = .ok (.aload_n 0, 1) := by decide +kernel
theorem dX8_restore_14 : decode cX8_restore 14 = .ok (.getfield 62, 3) := by decide +kernel
theorem dX8_restore_17 : decode cX8_restore 17 = .ok (.iload_n 1, 1) := by decide +kernel
theorem dX8_restore_18 : decode cX8_restore 18 = .ok (.baload, 1) := by decide +kernel
theorem dX8_restore_19 : decode cX8_restore 19 = .ok (.ifCond .ne 6, 3) := by decide +kernel
theorem dX8_restore_22 : decode cX8_restore 22 = .ok (.bipush (-3), 2) := by decide +kernel
theorem dX8_restore_24 : decode cX8_restore 24 = .ok (.ireturn, 1) := by decide +kernel
theorem dX8_restore_25 : decode cX8_restore 25 = .ok (.aload_n 0, 1) := by decide +kernel
theorem dX8_restore_26 : decode cX8_restore 26 = .ok (.sipush 230, 3) := by decide +kernel
theorem dX8_restore_29 : decode cX8_restore 29 = .ok (.iload_n 1, 1) := by decide +kernel
theorem dX8_restore_30 : decode cX8_restore 30 = .ok (.imul, 1) := by decide +kernel
theorem dX8_restore_31 : decode cX8_restore 31 = .ok (.putfield 333, 3) := by decide +kernel
theorem dX8_restore_34 : decode cX8_restore 34 = .ok (.aload_n 0, 1) := by decide +kernel
theorem dX8_restore_35 : decode cX8_restore 35 = .ok (.iconst 0, 1) := by decide +kernel
theorem dX8_restore_36 : decode cX8_restore 36 = .ok (.putfield 330, 3) := by decide +kernel
theorem dX8_restore_39 : decode cX8_restore 39 = .ok (.aload_n 0, 1) := by decide +kernel
theorem dX8_restore_40 : decode cX8_restore 40 = .ok (.invokevirtual 343, 3) := by decide +kernel
theorem dX8_restore_43 : decode cX8_restore 43 = .ok (.iconst 1, 1) := by decide +kernel
theorem dX8_restore_44 : decode cX8_restore 44 = .ok (.ireturn, 1) := by decide +kernel
theorem dX8_told_0 : decode cX8_told 0 = .ok (.iload_n 1, 1) := by decide +kernel
theorem dX8_told_1 : decode cX8_told 1 = .ok (.i2l, 1) := by decide +kernel
theorem dX8_told_2 : decode cX8_told 2 = .ok (.ldc2_w 346, 3) := by decide +kernel
theorem dX8_told_5 : decode cX8_told 5 = .ok (.ldc2_w 348, 3) := by decide +kernel
theorem dX8_told_8 : decode cX8_told 8 = .ok (.invokestatic 68, 3) := by decide +kernel
theorem dX8_told_11 : decode cX8_told 11 = .ok (.ifCond .eq 32, 3) := by decide +kernel
theorem dX8_told_14 : decode cX8_told 14 = .ok (.iload_n 1, 1) := by decide +kernel
theorem dX8_told_15 : decode cX8_told 15 = .ok (.bipush 100, 2) := by decide +kernel
theorem dX8_told_17 : decode cX8_told 17 = .ok (.irem, 1) := by decide +kernel
theorem dX8_told_18 : decode cX8_told 18 = .ok (.bipush 50, 2) := by decide +kernel
theorem dX8_told_20 : decode cX8_told 20 = .ok (.if_icmp .ge 23, 3) := by decide +kernel
theorem dX8_told_23 : decode cX8_told 23 = .ok (.aload_n 0, 1) := by decide +kernel
theorem dX8_told_24 : decode cX8_told 24 = .ok (.getfield 7, 3) := by decide +kernel
theorem dX8_told_27 : decode cX8_told 27 = .ok (.bipush 50, 2) := by decide +kernel
theorem dX8_told_29 : decode cX8_told 29 = .ok (.iload_n 1, 1) := by decide +kernel
theorem dX8_told_30 : decode cX8_told 30 = .ok (.bipush 100, 2) := by decide +kernel
theorem dX8_told_32 : decode cX8_told 32 = .ok (.idiv, 1) := by decide +kernel
theorem dX8_told_33 : decode cX8_told 33 = .ok (.iconst 1, 1) := by decide +kernel
theorem dX8_told_34 : decode cX8_told 34 = .ok (.isub, 1) := by decide +kernel
theorem dX8_told_35 : decode cX8_told 35 = .ok (.imul, 1) := by decide +kernel
theorem dX8_told_36 : decode cX8_told 36 = .ok (.iload_n 1, 1) := by decide +kernel
theorem dX8_told_37 : decode cX8_told 37 = .ok (.bipush 100, 2) := by decide +kernel
theorem dX8_told_39 : decode cX8_told 39 = .ok (.irem, 1) := by decide +kernel
theorem dX8_told_40 : decode cX8_told 40 = .ok (.iadd, 1) := by decide +kernel
theorem dX8_told_41 : decode cX8_told 41 = .ok (.iaload, 1) := by decide +kernel
theorem dX8_told_42 : decode cX8_told 42 = .ok (.ireturn, 1) := by decide +kernel
theorem dX8_told_43 : decode cX8_told 43 = .ok (.iload_n 1, 1) := by decide +kernel
theorem dX8_told_44 : decode cX8_told 44 = .ok (.i2l, 1) := by decide +kernel
theorem dX8_told_45 : decode cX8_told 45 = .ok (.ldc2_w 350, 3) := by decide +kernel
theorem dX8_told_48 : decode cX8_told 48 = .ok (.ldc2_w 352, 3) := by decide +kernel
theorem dX8_told_51 : decode cX8_told 51 = .ok (.invokestatic 68, 3) := by decide +kernel
theorem dX8_told_54 : decode cX8_told 54 = .ok (.ifCond .eq 12, 3) := by decide +kernel
theorem dX8_told_57 : decode cX8_told 57 = .ok (.aload_n 0, 1) := by decide +kernel
theorem dX8_told_58 : decode cX8_told 58 = .ok (.iload_n 1, 1) := by decide +kernel
theorem dX8_told_59 : decode cX8_told 59 = .ok (.bipush 10, 2) := by decide +kernel
theorem dX8_told_61 : decode cX8_told 61 = .ok (.isub, 1) := by decide +kernel
theorem dX8_told_62 : decode cX8_told 62 = .ok (.invokevirtual 99, 3) := by decide +kernel
theorem dX8_told_65 : decode cX8_told 65 = .ok (.ireturn, 1) := by decide +kernel
theorem dX8_told_66 : decode cX8_told 66 = .ok (.iload_n 1, 1) := by decide +kernel
theorem dX8_told_67 : decode cX8_told 67 = .ok (.i2l, 1) := by decide +kernel
theorem dX8_told_68 : decode cX8_told 68 = .ok (.ldc2_w 307, 3) := by decide +kernel
theorem dX8_told_71 : decode cX8_told 71 = .ok (.ldc2_w 354, 3) := by decide +kernel
theorem dX8_told_74 : decode cX8_told 74 = .ok (.invokestatic 68, 3) := by decide +kernel
theorem dX8_told_77 : decode cX8_told 77 = .ok (.ifCond .eq 15, 3) := by decide +kernel
theorem dX8_told_80 : decode cX8_told 80 = .ok (.aload_n 0, 1) := by decide +kernel
theorem dX8_told_81 : decode cX8_told 81 = .ok (.iload_n 1, 1) := by decide +kernel
theorem dX8_told_82 : decode cX8_told 82 = .ok (.bipush 20, 2) := by decide +kernel
theorem dX8_told_84 : decode cX8_told 84 = .ok (.isub, 1) := by decide +kernel
theorem dX8_told_85 : decode cX8_told 85 = .ok (.iconst 0, 1) := by decide +kernel
theorem dX8_told_86 : decode cX8_told 86 = .ok (.bipush 49, 2) := by decide +kernel
theorem dX8_told_88 : decode cX8_told 88 = .ok (.invokevirtual 260, 3) := by decide +kernel
theorem dX8_told_91 : decode cX8_told 91 = .ok (.ireturn, 1) := by decide +kernel
theorem dX8_told_92 : decode cX8_told 92 = .ok (.iload_n 1, 1) := by decide +kernel
theorem dX8_told_93 : decode cX8_told 93 = .ok (.ifCond .ne 10, 3) := by decide +kernel
theorem dX8_told_96 : decode cX8_told 96 = .ok (.aload_n 0, 1) := by decide +kernel
theorem dX8_told_97 : decode cX8_told 97 = .ok (.getfield 107, 3) := by decide +kernel
theorem dX8_told_100 : decode cX8_told 100 = .ok (.goto 29, 3) := by decide +kernel
theorem dX8_told_103 : decode cX8_told 103 = .ok (.iload_n 1, 1) := by decide +kernel
theorem dX8_told_104 : decode cX8_told 104 = .ok (.iconst 1, 1) := by decide +kernel
theorem dX8_told_105 : decode cX8_told 105 = .ok (.if_icmp .ne 10, 3) := by decide +kernel
theorem dX8_told_108 : decode cX8_told 108 = .ok (.aload_n 0, 1) := by decide +kernel
theorem dX8_told_109 : decode cX8_told 109 = .ok (.getfield 78, 3) := by decide +kernel
theorem dX8_told_112 : decode cX8_told 112 = .ok (.goto 17, 3) := by decide +kernel
theorem dX8_told_115 : decode cX8_told 115 = .ok (.iload_n 1, 1) := by decide +kernel
theorem dX8_told_116 : decode cX8_told 116 = .ok (.iconst 2, 1) := by decide +kernel
theorem dX8_told_117 : decode cX8_told 117 = .ok (.if_icmp .ne 10, 3) := by decide +kernel
theorem dX8_told_120 : decode cX8_told 120 = .ok (.aload_n 0, 1) := by decide +kernel
theorem dX8_told_121 : decode cX8_told 121 = .ok (.getfield 293, 3) := by decide +kernel
theorem dX8_told_124 : decode cX8_told 124 = .ok (.goto 5, 3) := by decide +kernel
theorem dX8_told_127 : decode cX8_told 127 = .ok (.bipush (-2), 2) := by decide +kernel
theorem dX8_told_129 : decode cX8_told 129 = .ok (.ireturn, 1) := by decide +kernel
