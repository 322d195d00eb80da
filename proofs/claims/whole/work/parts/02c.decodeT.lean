theorem dX7_init_0 : decode cX7_init 0 = .ok (.aload_n 0, 1) := by decide +kernel
theorem dX7_init_1 : decode cX7_init 1 = .ok (.invokespecial 1, 3) := by decide +kernel
theorem dX7_init_4 : decode cX7_init 4 = .ok (.aload_n 0, 1) := by decide +kernel
theorem dX7_init_5 : decode cX7_init 5 = .ok (.new 7, 3) := by decide +kernel
theorem dX7_init_8 : decode cX7_init 8 = .ok (.dup, 1) := by decide +kernel
theorem dX7_init_9 : decode cX7_init 9 = .ok (.invokespecial 9, 3) := by decide +kernel
theorem dX7_init_12 : decode cX7_init 12 = .ok (.putfield 10, 3) := by decide +kernel
theorem dX7_init_15 : decode cX7_init 15 = .ok (.aload_n 0, 1) := by decide +kernel
theorem dX7_init_16 : decode cX7_init 16 = .ok (.new 7, 3) := by decide +kernel
theorem dX7_init_19 : decode cX7_init 19 = .ok (.dup, 1) := by decide +kernel
theorem dX7_init_20 : decode cX7_init 20 = .ok (.invokespecial 9, 3) := by decide +kernel
theorem dX7_init_23 : decode cX7_init 23 = .ok (.putfield 16, 3) := by decide +kernel
theorem dX7_init_26 : decode cX7_init 26 = .ok (.aload_n 0, 1) := by decide +kernel
theorem dX7_init_27 : decode cX7_init 27 = .ok (.new 19, 3) := by decide +kernel
theorem dX7_init_30 : decode cX7_init 30 = .ok (.dup, 1) := by decide +kernel
theorem dX7_init_31 : decode cX7_init 31 = .ok (.invokespecial 21, 3) := by decide +kernel
theorem dX7_init_34 : decode cX7_init 34 = .ok (.putfield 22, 3) := by decide +kernel
theorem dX7_init_37 : decode cX7_init 37 = .ok (.aload_n 0, 1) := by decide +kernel
theorem dX7_init_38 : decode cX7_init 38 = .ok (.new 26, 3) := by decide +kernel
theorem dX7_init_41 : decode cX7_init 41 = .ok (.dup, 1) := by decide +kernel
theorem dX7_init_42 : decode cX7_init 42 = .ok (.invokespecial 28, 3) := by decide +kernel
theorem dX7_init_45 : decode cX7_init 45 = .ok (.putfield 29, 3) := by decide +kernel
theorem dX7_init_48 : decode cX7_init 48 = .ok (.aload_n 0, 1) := by decide +kernel
theorem dX7_init_49 : decode cX7_init 49 = .ok (.iconst 2, 1) := by decide +kernel
theorem dX7_init_50 : decode cX7_init 50 = .ok (.anewarray 33, 3) := by decide +kernel
theorem dX7_init_53 : decode cX7_init 53 = .ok (.putfield 35, 3) := by decide +kernel
theorem dX7_init_56 : decode cX7_init 56 = .ok (.aload_n 0, 1) := by decide +kernel
theorem dX7_init_57 : decode cX7_init 57 = .ok (.new 39, 3) := by decide +kernel
theorem dX7_init_60 : decode cX7_init 60 = .ok (.dup, 1) := by decide +kernel
theorem dX7_init_61 : decode cX7_init 61 = .ok (.invokespecial 41, 3) := by decide +kernel
theorem dX7_init_64 : decode cX7_init 64 = .ok (.putfield 42, 3) := by decide +kernel
theorem dX7_init_67 : decode cX7_init 67 = .ok (.aload_n 0, 1) := by decide +kernel
theorem dX7_init_68 : decode cX7_init 68 = .ok (.aload_n 0, 1) := by decide +kernel
theorem dX7_init_69 : decode cX7_init 69 = .ok (.getfield 42, 3) := by decide +kernel
theorem dX7_init_72 : decode cX7_init 72 = .ok (.getfield 46, 3) := by decide +kernel
theorem dX7_init_75 : decode cX7_init 75 = .ok (.putfield 50, 3) := by decide +kernel
theorem dX7_init_78 : decode cX7_init 78 = .ok (.aload_n 0, 1) := by decide +kernel
theorem dX7_init_79 : decode cX7_init 79 = .ok (.aload_n 0, 1) := by decide +kernel
theorem dX7_init_80 : decode cX7_init 80 = .ok (.getfield 42, 3) := by decide +kernel
theorem dX7_init_83 : decode cX7_init 83 = .ok (.getfield 51, 3) := by decide +kernel
theorem dX7_init_86 : decode cX7_init 86 = .ok (.putfield 55, 3) := by decide +kernel
theorem dX7_init_89 : decode cX7_init 89 = .ok (.aload_n 0, 1) := by decide +kernel
theorem dX7_init_90 : decode cX7_init 90 = .ok (.aload_n 0, 1) := by decide +kernel
theorem dX7_init_91 : decode cX7_init 91 = .ok (.getfield 42, 3) := by decide +kernel
theorem dX7_init_94 : decode cX7_init 94 = .ok (.getfield 58, 3) := by decide +kernel
theorem dX7_init_97 : decode cX7_init 97 = .ok (.putfield 61, 3) := by decide +kernel
theorem dX7_init_100 : decode cX7_init 100 = .ok (.iconst 0, 1) := by decide +kernel
theorem dX7_init_101 : decode cX7_init 101 = .ok (.istore_n 1, 1) := by decide +kernel
theorem dX7_init_102 : decode cX7_init 102 = .ok (.iload_n 1, 1) := by decide +kernel
theorem dX7_init_103 : decode cX7_init 103 = .ok (.iconst 2, 1) := by decide +kernel
theorem dX7_init_104 : decode cX7_init 104 = .ok (.if_icmp .ge 22, 3) := by decide +kernel
theorem dX7_init_107 : decode cX7_init 107 = .ok (.aload_n 0, 1) := by decide +kernel
theorem dX7_init_108 : decode cX7_init 108 = .ok (.getfield 35, 3) := by decide +kernel
theorem dX7_init_111 : decode cX7_init 111 = .ok (.iload_n 1, 1) := by decide +kernel
theorem dX7_init_112 : decode cX7_init 112 = .ok (.new 33, 3) := by decide +kernel
theorem dX7_init_115 : decode cX7_init 115 = .ok (.dup, 1) := by decide +kernel
theorem dX7_init_116 : decode cX7_init 116 = .ok (.invokespecial 64, 3) := by decide +kernel
theorem dX7_init_119 : decode cX7_init 119 = .ok (.aastore, 1) := by decide +kernel
theorem dX7_init_120 : decode cX7_init 120 = .ok (.iinc 1 1, 3) := by decide +kernel
theorem dX7_init_123 : decode cX7_init 123 = .ok (.goto (-21), 3) := by decide +kernel
theorem dX7_init_126 : decode cX7_init 126 = .ok (.return_, 1) := by decide +kernel
theorem dX7_seed_0 : decode cX7_seed 0 = .ok (.iload_n 1, 1) := by decide +kernel
theorem dX7_seed_1 : decode cX7_seed 1 = .ok (.invokestatic 65, 3) := by decide +kernel
theorem dX7_seed_4 : decode cX7_seed 4 = .ok (.ifCond .ne 6, 3) := by decide +kernel
theorem dX7_seed_7 : decode cX7_seed 7 = .ok (.bipush (-2), 2) := by decide +kernel
theorem dX7_seed_9 : decode cX7_seed 9 = .ok (.ireturn, 1) := by decide +kernel
theorem dX7_seed_10 : decode cX7_seed 10 = .ok (.aload_n 0, 1) := by decide +kernel
theorem dX7_seed_11 : decode cX7_seed 11 = .ok (.getfield 10, 3) := by decide +kernel
theorem dX7_seed_14 : decode cX7_seed 14 = .ok (.getfield 69, 3) := by decide +kernel
theorem dX7_seed_17 : decode cX7_seed 17 = .ok (.istore_n 2, 1) := by decide +kernel
theorem dX7_seed_18 : decode cX7_seed 18 = .ok (.aload_n 0, 1) := by decide +kernel
theorem dX7_seed_19 : decode cX7_seed 19 = .ok (.getfield 10, 3) := by decide +kernel
theorem dX7_seed_22 : decode cX7_seed 22 = .ok (.iload_n 1, 1) := by decide +kernel
theorem dX7_seed_23 : decode cX7_seed 23 = .ok (.putfield 69, 3) := by decide +kernel
theorem dX7_seed_26 : decode cX7_seed 26 = .ok (.iload_n 2, 1) := by decide +kernel
theorem dX7_seed_27 : decode cX7_seed 27 = .ok (.ireturn, 1) := by decide +kernel
theorem dX7_put_0 : decode cX7_put 0 = .ok (.iload_n 1, 1) := by decide +kernel
theorem dX7_put_1 : decode cX7_put 1 = .ok (.invokestatic 73, 3) := by decide +kernel
theorem dX7_put_4 : decode cX7_put 4 = .ok (.ifCond .eq 10, 3) := by decide +kernel
theorem dX7_put_7 : decode cX7_put 7 = .ok (.iload_n 2, 1) := by decide +kernel
theorem dX7_put_8 : decode cX7_put 8 = .ok (.invokestatic 76, 3) := by decide +kernel
theorem dX7_put_11 : decode cX7_put 11 = .ok (.ifCond .ne 5, 3) := by decide +kernel
theorem dX7_put_14 : decode cX7_put 14 = .ok (.iconst (-1), 1) := by decide +kernel
theorem dX7_put_15 : decode cX7_put 15 = .ok (.ireturn, 1) := by decide +kernel
theorem dX7_put_16 : decode cX7_put 16 = .ok (.iload_n 3, 1) := by decide +kernel
theorem dX7_put_17 : decode cX7_put 17 = .ok (.ifCond .eq 39, 3) := by decide +kernel
theorem dX7_put_20 : decode cX7_put 20 = .ok (.aload_n 0, 1) := by decide +kernel
theorem dX7_put_21 : decode cX7_put 21 = .ok (.getfield 10, 3) := by decide +kernel
theorem dX7_put_24 : decode cX7_put 24 = .ok (.getfield 79, 3) := by decide +kernel
theorem dX7_put_27 : decode cX7_put 27 = .ok (.iload_n 1, 1) := by decide +kernel
theorem dX7_put_28 : decode cX7_put 28 = .ok (.laload, 1) := by decide +kernel
theorem dX7_put_29 : decode cX7_put 29 = .ok (.iload_n 2, 1) := by decide +kernel
theorem dX7_put_30 : decode cX7_put 30 = .ok (.invokestatic 83, 3) := by decide +kernel
theorem dX7_put_33 : decode cX7_put 33 = .ok (.ifCond .ne 23, 3) := by decide +kernel
theorem dX7_put_36 : decode cX7_put 36 = .ok (.aload_n 0, 1) := by decide +kernel
theorem dX7_put_37 : decode cX7_put 37 = .ok (.getfield 10, 3) := by decide +kernel
theorem dX7_put_40 : decode cX7_put 40 = .ok (.getfield 79, 3) := by decide +kernel
theorem dX7_put_43 : decode cX7_put 43 = .ok (.iload_n 1, 1) := by decide +kernel
theorem dX7_put_44 : decode cX7_put 44 = .ok (.laload, 1) := by decide +kernel
theorem dX7_put_45 : decode cX7_put 45 = .ok (.invokestatic 87, 3) := by decide +kernel
theorem dX7_put_48 : decode cX7_put 48 = .ok (.bipush 40, 2) := by decide +kernel
theorem dX7_put_50 : decode cX7_put 50 = .ok (.if_icmp .lt 6, 3) := by decide +kernel
theorem dX7_put_53 : decode cX7_put 53 = .ok (.bipush (-4), 2) := by decide +kernel
theorem dX7_put_55 : decode cX7_put 55 = .ok (.ireturn, 1) := by decide +kernel
theorem dX7_put_56 : decode cX7_put 56 = .ok (.aload_n 0, 1) := by decide +kernel
theorem dX7_put_57 : decode cX7_put 57 = .ok (.getfield 10, 3) := by decide +kernel
theorem dX7_put_60 : decode cX7_put 60 = .ok (.getfield 79, 3) := by decide +kernel
theorem dX7_put_63 : decode cX7_put 63 = .ok (.iload_n 1, 1) := by decide +kernel
theorem dX7_put_64 : decode cX7_put 64 = .ok (.iload_n 3, 1) := by decide +kernel
theorem dX7_put_65 : decode cX7_put 65 = .ok (.ifCond .eq 20, 3) := by decide +kernel
theorem dX7_put_68 : decode cX7_put 68 = .ok (.aload_n 0, 1) := by decide +kernel
theorem dX7_put_69 : decode cX7_put 69 = .ok (.getfield 10, 3) := by decide +kernel
theorem dX7_put_72 : decode cX7_put 72 = .ok (.getfield 79, 3) := by decide +kernel
theorem dX7_put_75 : decode cX7_put 75 = .ok (.iload_n 1, 1) := by decide +kernel
theorem dX7_put_76 : decode cX7_put 76 = .ok (.laload, 1) := by decide +kernel
theorem dX7_put_77 : decode cX7_put 77 = .ok (.iload_n 2, 1) := by decide +kernel
theorem dX7_put_78 : decode cX7_put 78 = .ok (.invokestatic 91, 3) := by decide +kernel
theorem dX7_put_81 : decode cX7_put 81 = .ok (.lor, 1) := by decide +kernel
theorem dX7_put_82 : decode cX7_put 82 = .ok (.goto 21, 3) := by decide +kernel
theorem dX7_put_85 : decode cX7_put 85 = .ok (.aload_n 0, 1) := by decide +kernel
theorem dX7_put_86 : decode cX7_put 86 = .ok (.getfield 10, 3) := by decide +kernel
theorem dX7_put_89 : decode cX7_put 89 = .ok (.getfield 79, 3) := by decide +kernel
theorem dX7_put_92 : decode cX7_put 92 = .ok (.iload_n 1, 1) := by decide +kernel
theorem dX7_put_93 : decode cX7_put 93 = .ok (.laload, 1) := by decide +kernel
theorem dX7_put_94 : decode cX7_put 94 = .ok (.iload_n 2, 1) := by decide +kernel
theorem dX7_put_95 : decode cX7_put 95 = .ok (.invokestatic 91, 3) := by decide +kernel
theorem dX7_put_98 : decode cX7_put 98 = .ok (.ldc2_w 95, 3) := by decide +kernel
theorem dX7_put_101 : decode cX7_put 101 = .ok (.lxor, 1) := by decide +kernel
theorem dX7_put_102 : decode cX7_put 102 = .ok (.land, 1) := by decide +kernel
theorem dX7_put_103 : decode cX7_put 103 = .ok (.lastore, 1) := by decide +kernel
theorem dX7_put_104 : decode cX7_put 104 = .ok (.aload_n 0, 1) := by decide +kernel
theorem dX7_put_105 : decode cX7_put 105 = .ok (.getfield 10, 3) := by decide +kernel
theorem dX7_put_108 : decode cX7_put 108 = .ok (.getfield 79, 3) := by decide +kernel
theorem dX7_put_111 : decode cX7_put 111 = .ok (.iload_n 1, 1) := by decide +kernel
theorem dX7_put_112 : decode cX7_put 112 = .ok (.laload, 1) := by decide +kernel
theorem dX7_put_113 : decode cX7_put 113 = .ok (.invokestatic 87, 3) := by decide +kernel
theorem dX7_put_116 : decode cX7_put 116 = .ok (.ireturn, 1) := by decide +kernel
theorem dX7_say_0 : decode cX7_say 0 = .ok (.iload_n 1, 1) := by decide +kernel
theorem dX7_say_1 : decode cX7_say 1 = .ok (.bipush 33, 2) := by decide +kernel
theorem dX7_say_3 : decode cX7_say 3 = .ok (.if_icmp .lt 9, 3) := by decide +kernel
theorem dX7_say_6 : decode cX7_say 6 = .ok (.iload_n 1, 1) := by decide +kernel
theorem dX7_say_7 : decode cX7_say 7 = .ok (.bipush 126, 2) := by decide +kernel
theorem dX7_say_9 : decode cX7_say 9 = .ok (.if_icmp .le 6, 3) := by decide +kernel
theorem dX7_say_12 : decode cX7_say 12 = .ok (.bipush (-2), 2) := by decide +kernel
theorem dX7_say_14 : decode cX7_say 14 = .ok (.ireturn, 1) := by decide +kernel
theorem dX7_say_15 : decode cX7_say 15 = .ok (.aload_n 0, 1) := by decide +kernel
theorem dX7_say_16 : decode cX7_say 16 = .ok (.getfield 22, 3) := by decide +kernel
theorem dX7_say_19 : decode cX7_say 19 = .ok (.iload_n 1, 1) := by decide +kernel
theorem dX7_say_20 : decode cX7_say 20 = .ok (.invokevirtual 97, 3) := by decide +kernel
theorem dX7_say_23 : decode cX7_say 23 = .ok (.ifCond .eq 13, 3) := by decide +kernel
theorem dX7_say_26 : decode cX7_say 26 = .ok (.aload_n 0, 1) := by decide +kernel
theorem dX7_say_27 : decode cX7_say 27 = .ok (.getfield 22, 3) := by decide +kernel
theorem dX7_say_30 : decode cX7_say 30 = .ok (.getfield 100, 3) := by decide +kernel
theorem dX7_say_33 : decode cX7_say 33 = .ok (.goto 5, 3) := by decide +kernel
theorem dX7_say_36 : decode cX7_say 36 = .ok (.bipush (-4), 2) := by decide +kernel
theorem dX7_say_38 : decode cX7_say 38 = .ok (.ireturn, 1) := by decide +kernel
theorem dX7_wipe_0 : decode cX7_wipe 0 = .ok (.aload_n 0, 1) := by decide +kernel
theorem dX7_wipe_1 : decode cX7_wipe 1 = .ok (.getfield 22, 3) := by decide +kernel
theorem dX7_wipe_4 : decode cX7_wipe 4 = .ok (.getfield 100, 3) := by decide +kernel
theorem dX7_wipe_7 : decode cX7_wipe 7 = .ok (.istore_n 1, 1) := by decide +kernel
theorem dX7_wipe_8 : decode cX7_wipe 8 = .ok (.aload_n 0, 1) := by decide +kernel
theorem dX7_wipe_9 : decode cX7_wipe 9 = .ok (.getfield 22, 3) := by decide +kernel
theorem dX7_wipe_12 : decode cX7_wipe 12 = .ok (.invokevirtual 102, 3) := by decide +kernel
theorem dX7_wipe_15 : decode cX7_wipe 15 = .ok (.iload_n 1, 1) := by decide +kernel
theorem dX7_wipe_16 : decode cX7_wipe 16 = .ok (.ireturn, 1) := by decide +kernel
theorem dX7_fault_0 : decode cX7_fault 0 = .ok (.aload_n 0, 1) := by decide +kernel
theorem dX7_fault_1 : decode cX7_fault 1 = .ok (.getfield 22, 3) := by decide +kernel
theorem dX7_fault_4 : decode cX7_fault 4 = .ok (.invokevirtual 105, 3) := by decide +kernel
theorem dX7_fault_7 : decode cX7_fault 7 = .ok (.ireturn, 1) := by decide +kernel
theorem dX7_judge_0 : decode cX7_judge 0 = .ok (.iload_n 1, 1) := by decide +kernel
theorem dX7_judge_1 : decode cX7_judge 1 = .ok (.ifCond .lt 8, 3) := by decide +kernel
theorem dX7_judge_4 : decode cX7_judge 4 = .ok (.iload_n 1, 1) := by decide +kernel
theorem dX7_judge_5 : decode cX7_judge 5 = .ok (.iconst 2, 1) := by decide +kernel
theorem dX7_judge_6 : decode cX7_judge 6 = .ok (.if_icmp .le 6, 3) := by decide +kernel
theorem dX7_judge_9 : decode cX7_judge 9 = .ok (.bipush (-2), 2) := by decide +kernel
theorem dX7_judge_11 : decode cX7_judge 11 = .ok (.ireturn, 1) := by decide +kernel
theorem dX7_judge_12 : decode cX7_judge 12 = .ok (.aload_n 0, 1) := by decide +kernel
theorem dX7_judge_13 : decode cX7_judge 13 = .ok (.invokevirtual 109, 3) := by decide +kernel
theorem dX7_judge_16 : decode cX7_judge 16 = .ok (.istore_n 2, 1) := by decide +kernel
theorem dX7_judge_17 : decode cX7_judge 17 = .ok (.iload_n 2, 1) := by decide +kernel
theorem dX7_judge_18 : decode cX7_judge 18 = .ok (.bipush (-5), 2) := by decide +kernel
theorem dX7_judge_20 : decode cX7_judge 20 = .ok (.if_icmp .eq 8, 3) := by decide +kernel
theorem dX7_judge_23 : decode cX7_judge 23 = .ok (.iload_n 1, 1) := by decide +kernel
theorem dX7_judge_24 : decode cX7_judge 24 = .ok (.iconst 2, 1) := by decide +kernel
theorem dX7_judge_25 : decode cX7_judge 25 = .ok (.if_icmp .ne 19, 3) := by decide +kernel
theorem dX7_judge_28 : decode cX7_judge 28 = .ok (.iload_n 2, 1) := by decide +kernel
theorem dX7_judge_29 : decode cX7_judge 29 = .ok (.ifCond .eq 7, 3) := by decide +kernel
theorem dX7_judge_32 : decode cX7_judge 32 = .ok (.iload_n 2, 1) := by decide +kernel
theorem dX7_judge_33 : decode cX7_judge 33 = .ok (.goto 10, 3) := by decide +kernel
theorem dX7_judge_36 : decode cX7_judge 36 = .ok (.aload_n 0, 1) := by decide +kernel
theorem dX7_judge_37 : decode cX7_judge 37 = .ok (.getfield 42, 3) := by decide +kernel
theorem dX7_judge_40 : decode cX7_judge 40 = .ok (.getfield 112, 3) := by decide +kernel
theorem dX7_judge_43 : decode cX7_judge 43 = .ok (.ireturn, 1) := by decide +kernel
theorem dX7_judge_44 : decode cX7_judge 44 = .ok (.iload_n 2, 1) := by decide +kernel
theorem dX7_judge_45 : decode cX7_judge 45 = .ok (.ifCond .ne 6, 3) := by decide +kernel
theorem dX7_judge_48 : decode cX7_judge 48 = .ok (.bipush (-6), 2) := by decide +kernel
theorem dX7_judge_50 : decode cX7_judge 50 = .ok (.ireturn, 1) := by decide +kernel
theorem dX7_judge_51 : decode cX7_judge 51 = .ok (.iload_n 1, 1) := by decide +kernel
theorem dX7_judge_52 : decode cX7_judge 52 = .ok (.ifCond .ne 13, 3) := by decide +kernel
theorem dX7_judge_55 : decode cX7_judge 55 = .ok (.aload_n 0, 1) := by decide +kernel
theorem dX7_judge_56 : decode cX7_judge 56 = .ok (.getfield 42, 3) := by decide +kernel
theorem dX7_judge_59 : decode cX7_judge 59 = .ok (.getfield 115, 3) := by decide +kernel
theorem dX7_judge_62 : decode cX7_judge 62 = .ok (.goto 10, 3) := by decide +kernel
theorem dX7_judge_65 : decode cX7_judge 65 = .ok (.aload_n 0, 1) := by decide +kernel
theorem dX7_judge_66 : decode cX7_judge 66 = .ok (.getfield 42, 3) := by decide +kernel
theorem dX7_judge_69 : decode cX7_judge 69 = .ok (.getfield 118, 3) := by decide +kernel
theorem dX7_judge_72 : decode cX7_judge 72 = .ok (.ireturn, 1) := by decide +kernel
theorem dX7_behind_0 : decode cX7_behind 0 = .ok (.iload_n 1, 1) := by decide +kernel
theorem dX7_behind_1 : decode cX7_behind 1 = .ok (.invokestatic 73, 3) := by decide +kernel
theorem dX7_behind_4 : decode cX7_behind 4 = .ok (.ifCond .ne 5, 3) := by decide +kernel
theorem dX7_behind_7 : decode cX7_behind 7 = .ok (.iconst (-1), 1) := by decide +kernel
theorem dX7_behind_8 : decode cX7_behind 8 = .ok (.ireturn, 1) := by decide +kernel
theorem dX7_behind_9 : decode cX7_behind 9 = .ok (.iload_n 2, 1) := by decide +kernel
theorem dX7_behind_10 : decode cX7_behind 10 = .ok (.ifCond .lt 8, 3) := by decide +kernel
theorem dX7_behind_13 : decode cX7_behind 13 = .ok (.iload_n 2, 1) := by decide +kernel
theorem dX7_behind_14 : decode cX7_behind 14 = .ok (.iconst 3, 1) := by decide +kernel
theorem dX7_behind_15 : decode cX7_behind 15 = .ok (.if_icmp .le 6, 3) := by decide +kernel
theorem dX7_behind_18 : decode cX7_behind 18 = .ok (.bipush (-2), 2) := by decide +kernel
theorem dX7_behind_20 : decode cX7_behind 20 = .ok (.ireturn, 1) := by decide +kernel
theorem dX7_behind_21 : decode cX7_behind 21 = .ok (.aload_n 0, 1) := by decide +kernel
theorem dX7_behind_22 : decode cX7_behind 22 = .ok (.invokevirtual 109, 3) := by decide +kernel
theorem dX7_behind_25 : decode cX7_behind 25 = .ok (.istore_n 3, 1) := by decide +kernel
theorem dX7_behind_26 : decode cX7_behind 26 = .ok (.iload_n 3, 1) := by decide +kernel
theorem dX7_behind_27 : decode cX7_behind 27 = .ok (.ifCond .eq 5, 3) := by decide +kernel
theorem dX7_behind_30 : decode cX7_behind 30 = .ok (.iload_n 3, 1) := by decide +kernel
theorem dX7_behind_31 : decode cX7_behind 31 = .ok (.ireturn, 1) := by decide +kernel
theorem dX7_behind_32 : decode cX7_behind 32 = .ok (.aload_n 0, 1) := by decide +kernel
theorem dX7_behind_33 : decode cX7_behind 33 = .ok (.getfield 55, 3) := by decide +kernel
theorem dX7_behind_36 : decode cX7_behind 36 = .ok (.aload_n 0, 1) := by decide +kernel
theorem dX7_behind_37 : decode cX7_behind 37 = .ok (.getfield 42, 3) := by decide +kernel
theorem dX7_behind_40 : decode cX7_behind 40 = .ok (.getfield 121, 3) := by decide +kernel
theorem dX7_behind_43 : decode cX7_behind 43 = .ok (.getfield 79, 3) := by decide +kernel
theorem dX7_behind_46 : decode cX7_behind 46 = .ok (.iload_n 1, 1) := by decide +kernel
theorem dX7_behind_47 : decode cX7_behind 47 = .ok (.laload, 1) := by decide +kernel
theorem dX7_behind_48 : decode cX7_behind 48 = .ok (.aload_n 0, 1) := by decide +kernel
theorem dX7_behind_49 : decode cX7_behind 49 = .ok (.getfield 42, 3) := by decide +kernel
theorem dX7_behind_52 : decode cX7_behind 52 = .ok (.getfield 121, 3) := by decide +kernel
theorem dX7_behind_55 : decode cX7_behind 55 = .ok (.getfield 69, 3) := by decide +kernel
theorem dX7_behind_58 : decode cX7_behind 58 = .ok (.invokevirtual 124, 3) := by decide +kernel
theorem dX7_behind_61 : decode cX7_behind 61 = .ok (.iload_n 2, 1) := by decide +kernel
theorem dX7_behind_62 : decode cX7_behind 62 = .ok (.tableswitch 64 0 2 #[26, 41, 56], 26) := by decide +kernel
theorem dX7_behind_88 : decode cX7_behind 88 = .ok (.aload_n 0, 1) := by decide +kernel
theorem dX7_behind_89 : decode cX7_behind 89 = .ok (.getfield 55, 3) := by decide +kernel
theorem dX7_behind_92 : decode cX7_behind 92 = .ok (.aload_n 0, 1) := by decide +kernel
theorem dX7_behind_93 : decode cX7_behind 93 = .ok (.getfield 55, 3) := by decide +kernel
theorem dX7_behind_96 : decode cX7_behind 96 = .ok (.getfield 130, 3) := by decide +kernel
theorem dX7_behind_99 : decode cX7_behind 99 = .ok (.invokevirtual 133, 3) := by decide +kernel
theorem dX7_behind_102 : decode cX7_behind 102 = .ok (.ireturn, 1) := by decide +kernel
theorem dX7_behind_103 : decode cX7_behind 103 = .ok (.aload_n 0, 1) := by decide +kernel
theorem dX7_behind_104 : decode cX7_behind 104 = .ok (.getfield 55, 3) := by decide +kernel
theorem dX7_behind_107 : decode cX7_behind 107 = .ok (.aload_n 0, 1) := by decide +kernel
theorem dX7_behind_108 : decode cX7_behind 108 = .ok (.getfield 55, 3) := by decide +kernel
theorem dX7_behind_111 : decode cX7_behind 111 = .ok (.getfield 130, 3) := by decide +kernel
theorem dX7_behind_114 : decode cX7_behind 114 = .ok (.invokevirtual 137, 3) := by decide +kernel
theorem dX7_behind_117 : decode cX7_behind 117 = .ok (.ireturn, 1) := by decide +kernel
theorem dX7_behind_118 : decode cX7_behind 118 = .ok (.aload_n 0, 1) := by decide +kernel
theorem dX7_behind_119 : decode cX7_behind 119 = .ok (.getfield 55, 3) := by decide +kernel
theorem dX7_behind_122 : decode cX7_behind 122 = .ok (.getfield 130, 3) := by decide +kernel
theorem dX7_behind_125 : decode cX7_behind 125 = .ok (.ireturn, 1) := by decide +kernel
theorem dX7_behind_126 : decode cX7_behind 126 = .ok (.aload_n 0, 1) := by decide +kernel
theorem dX7_behind_127 : decode cX7_behind 127 = .ok (.getfield 55, 3) := by decide +kernel
theorem dX7_behind_130 : decode cX7_behind 130 = .ok (.aload_n 0, 1) := by decide +kernel
theorem dX7_behind_131 : decode cX7_behind 131 = .ok (.getfield 55, 3) := by decide +kernel
theorem dX7_behind_134 : decode cX7_behind 134 = .ok (.getfield 130, 3) := by decide +kernel
theorem dX7_behind_137 : decode cX7_behind 137 = .ok (.invokevirtual 140, 3) := by decide +kernel
theorem dX7_behind_140 : decode cX7_behind 140 = .ok (.ireturn, 1) := by decide +kernel
theorem dX7_alike_0 : decode cX7_alike 0 = .ok (.iload_n 1, 1) := by decide +kernel
theorem dX7_alike_1 : decode cX7_alike 1 = .ok (.ifCond .lt 8, 3) := by decide +kernel
theorem dX7_alike_4 : decode cX7_alike 4 = .ok (.iload_n 1, 1) := by decide +kernel
theorem dX7_alike_5 : decode cX7_alike 5 = .ok (.iconst 2, 1) := by decide +kernel
theorem dX7_alike_6 : decode cX7_alike 6 = .ok (.if_icmp .le 6, 3) := by decide +kernel
theorem dX7_alike_9 : decode cX7_alike 9 = .ok (.bipush (-2), 2) := by decide +kernel
theorem dX7_alike_11 : decode cX7_alike 11 = .ok (.ireturn, 1) := by decide +kernel
theorem dX7_alike_12 : decode cX7_alike 12 = .ok (.aload_n 0, 1) := by decide +kernel
theorem dX7_alike_13 : decode cX7_alike 13 = .ok (.invokevirtual 109, 3) := by decide +kernel
theorem dX7_alike_16 : decode cX7_alike 16 = .ok (.istore_n 2, 1) := by decide +kernel
theorem dX7_alike_17 : decode cX7_alike 17 = .ok (.iload_n 2, 1) := by decide +kernel
theorem dX7_alike_18 : decode cX7_alike 18 = .ok (.ifCond .eq 5, 3) := by decide +kernel
theorem dX7_alike_21 : decode cX7_alike 21 = .ok (.iload_n 2, 1) := by decide +kernel
theorem dX7_alike_22 : decode cX7_alike 22 = .ok (.ireturn, 1) := by decide +kernel
theorem dX7_alike_23 : decode cX7_alike 23 = .ok (.iload_n 1, 1) := by decide +kernel
theorem dX7_alike_24 : decode cX7_alike 24 = .ok (.lookupswitch 44 #[(0, 28), (1, 36)], 28) := by decide +kernel
theorem dX7_alike_52 : decode cX7_alike 52 = .ok (.aload_n 0, 1) := by decide +kernel
theorem dX7_alike_53 : decode cX7_alike 53 = .ok (.getfield 42, 3) := by decide +kernel
theorem dX7_alike_56 : decode cX7_alike 56 = .ok (.getfield 143, 3) := by decide +kernel
theorem dX7_alike_59 : decode cX7_alike 59 = .ok (.ireturn, 1) := by decide +kernel
theorem dX7_alike_60 : decode cX7_alike 60 = .ok (.aload_n 0, 1) := by decide +kernel
theorem dX7_alike_61 : decode cX7_alike 61 = .ok (.getfield 42, 3) := by decide +kernel
theorem dX7_alike_64 : decode cX7_alike 64 = .ok (.getfield 146, 3) := by decide +kernel
theorem dX7_alike_67 : decode cX7_alike 67 = .ok (.ireturn, 1) := by decide +kernel
theorem dX7_alike_68 : decode cX7_alike 68 = .ok (.aload_n 0, 1) := by decide +kernel
theorem dX7_alike_69 : decode cX7_alike 69 = .ok (.getfield 42, 3) := by decide +kernel
theorem dX7_alike_72 : decode cX7_alike 72 = .ok (.getfield 121, 3) := by decide +kernel
theorem dX7_alike_75 : decode cX7_alike 75 = .ok (.getfield 69, 3) := by decide +kernel
theorem dX7_alike_78 : decode cX7_alike 78 = .ok (.ireturn, 1) := by decide +kernel
theorem dX7_done_0 : decode cX7_done 0 = .ok (.aload_n 0, 1) := by decide +kernel
theorem dX7_done_1 : decode cX7_done 1 = .ok (.invokevirtual 109, 3) := by decide +kernel
theorem dX7_done_4 : decode cX7_done 4 = .ok (.istore_n 1, 1) := by decide +kernel
theorem dX7_done_5 : decode cX7_done 5 = .ok (.iload_n 1, 1) := by decide +kernel
theorem dX7_done_6 : decode cX7_done 6 = .ok (.ifCond .eq 5, 3) := by decide +kernel
theorem dX7_done_9 : decode cX7_done 9 = .ok (.iload_n 1, 1) := by decide +kernel
theorem dX7_done_10 : decode cX7_done 10 = .ok (.ireturn, 1) := by decide +kernel
theorem dX7_done_11 : decode cX7_done 11 = .ok (.aload_n 0, 1) := by decide +kernel
theorem dX7_done_12 : decode cX7_done 12 = .ok (.getfield 10, 3) := by decide +kernel
theorem dX7_done_15 : decode cX7_done 15 = .ok (.aload_n 0, 1) := by decide +kernel
theorem dX7_done_16 : decode cX7_done 16 = .ok (.getfield 42, 3) := by decide +kernel
theorem dX7_done_19 : decode cX7_done 19 = .ok (.getfield 121, 3) := by decide +kernel
theorem dX7_done_22 : decode cX7_done 22 = .ok (.invokevirtual 149, 3) := by decide +kernel
theorem dX7_done_25 : decode cX7_done 25 = .ok (.aload_n 0, 1) := by decide +kernel
theorem dX7_done_26 : decode cX7_done 26 = .ok (.getfield 22, 3) := by decide +kernel
theorem dX7_done_29 : decode cX7_done 29 = .ok (.invokevirtual 102, 3) := by decide +kernel
theorem dX7_done_32 : decode cX7_done 32 = .ok (.aload_n 0, 1) := by decide +kernel
theorem dX7_done_33 : decode cX7_done 33 = .ok (.getfield 42, 3) := by decide +kernel
theorem dX7_done_36 : decode cX7_done 36 = .ok (.getfield 115, 3) := by decide +kernel
theorem dX7_done_39 : decode cX7_done 39 = .ok (.ireturn, 1) := by decide +kernel
theorem dX7_tryActs_0 : decode cX7_tryActs 0 = .ok (.aload_n 0, 1) := by decide +kernel
theorem dX7_tryActs_1 : decode cX7_tryActs 1 = .ok (.getfield 22, 3) := by decide +kernel
theorem dX7_tryActs_4 : decode cX7_tryActs 4 = .ok (.invokevirtual 105, 3) := by decide +kernel
theorem dX7_tryActs_7 : decode cX7_tryActs 7 = .ok (.bipush (-6), 2) := by decide +kernel
theorem dX7_tryActs_9 : decode cX7_tryActs 9 = .ok (.if_icmp .eq 6, 3) := by decide +kernel
theorem dX7_tryActs_12 : decode cX7_tryActs 12 = .ok (.bipush (-5), 2) := by decide +kernel
theorem dX7_tryActs_14 : decode cX7_tryActs 14 = .ok (.ireturn, 1) := by decide +kernel
theorem dX7_tryActs_15 : decode cX7_tryActs 15 = .ok (.aload_n 0, 1) := by decide +kernel
theorem dX7_tryActs_16 : decode cX7_tryActs 16 = .ok (.getfield 42, 3) := by decide +kernel
theorem dX7_tryActs_19 : decode cX7_tryActs 19 = .ok (.aload_n 0, 1) := by decide +kernel
theorem dX7_tryActs_20 : decode cX7_tryActs 20 = .ok (.getfield 22, 3) := by decide +kernel
theorem dX7_tryActs_23 : decode cX7_tryActs 23 = .ok (.aload_n 0, 1) := by decide +kernel
theorem dX7_tryActs_24 : decode cX7_tryActs 24 = .ok (.getfield 10, 3) := by decide +kernel
theorem dX7_tryActs_27 : decode cX7_tryActs 27 = .ok (.invokevirtual 153, 3) := by decide +kernel
theorem dX7_tryActs_30 : decode cX7_tryActs 30 = .ok (.aload_n 0, 1) := by decide +kernel
theorem dX7_tryActs_31 : decode cX7_tryActs 31 = .ok (.getfield 42, 3) := by decide +kernel
theorem dX7_tryActs_34 : decode cX7_tryActs 34 = .ok (.getfield 118, 3) := by decide +kernel
theorem dX7_tryActs_37 : decode cX7_tryActs 37 = .ok (.ifCond .eq 8, 3) := by decide +kernel
theorem dX7_tryActs_40 : decode cX7_tryActs 40 = .ok (.bipush (-3), 2) := by decide +kernel
theorem dX7_tryActs_42 : decode cX7_tryActs 42 = .ok (.goto 4, 3) := by decide +kernel
theorem dX7_tryActs_45 : decode cX7_tryActs 45 = .ok (.iconst 0, 1) := by decide +kernel
theorem dX7_tryActs_46 : decode cX7_tryActs 46 = .ok (.ireturn, 1) := by decide +kernel
theorem dX7_node_0 : decode cX7_node 0 = .ok (.iload_n 1, 1) := by decide +kernel
theorem dX7_node_1 : decode cX7_node 1 = .ok (.invokestatic 73, 3) := by decide +kernel
theorem dX7_node_4 : decode cX7_node 4 = .ok (.ifCond .eq 10, 3) := by decide +kernel
theorem dX7_node_7 : decode cX7_node 7 = .ok (.iload_n 2, 1) := by decide +kernel
theorem dX7_node_8 : decode cX7_node 8 = .ok (.invokestatic 76, 3) := by decide +kernel
theorem dX7_node_11 : decode cX7_node 11 = .ok (.ifCond .ne 5, 3) := by decide +kernel
theorem dX7_node_14 : decode cX7_node 14 = .ok (.iconst (-1), 1) := by decide +kernel
theorem dX7_node_15 : decode cX7_node 15 = .ok (.ireturn, 1) := by decide +kernel
theorem dX7_node_16 : decode cX7_node 16 = .ok (.iload_n 3, 1) := by decide +kernel
theorem dX7_node_17 : decode cX7_node 17 = .ok (.ifCond .lt 9, 3) := by decide +kernel
theorem dX7_node_20 : decode cX7_node 20 = .ok (.iload_n 3, 1) := by decide +kernel
theorem dX7_node_21 : decode cX7_node 21 = .ok (.bipush 6, 2) := by decide +kernel
theorem dX7_node_23 : decode cX7_node 23 = .ok (.if_icmp .le 6, 3) := by decide +kernel
theorem dX7_node_26 : decode cX7_node 26 = .ok (.bipush (-2), 2) := by decide +kernel
theorem dX7_node_28 : decode cX7_node 28 = .ok (.ireturn, 1) := by decide +kernel
theorem dX7_node_29 : decode cX7_node 29 = .ok (.aload_n 0, 1) := by decide +kernel
theorem dX7_node_30 : decode cX7_node 30 = .ok (.getfield 10, 3) := by decide +kernel
theorem dX7_node_33 : decode cX7_node 33 = .ok (.getfield 79, 3) := by decide +kernel
theorem dX7_node_36 : decode cX7_node 36 = .ok (.iload_n 1, 1) := by decide +kernel
theorem dX7_node_37 : decode cX7_node 37 = .ok (.laload, 1) := by decide +kernel
theorem dX7_node_38 : decode cX7_node 38 = .ok (.iload_n 2, 1) := by decide +kernel
theorem dX7_node_39 : decode cX7_node 39 = .ok (.invokestatic 83, 3) := by decide +kernel
theorem dX7_node_42 : decode cX7_node 42 = .ok (.ifCond .ne 6, 3) := by decide +kernel
theorem dX7_node_45 : decode cX7_node 45 = .ok (.bipush (-3), 2) := by decide +kernel
theorem dX7_node_47 : decode cX7_node 47 = .ok (.ireturn, 1) := by decide +kernel
theorem dX7_node_48 : decode cX7_node 48 = .ok (.aload_n 0, 1) := by decide +kernel
theorem dX7_node_49 : decode cX7_node 49 = .ok (.getfield 55, 3) := by decide +kernel
theorem dX7_node_52 : decode cX7_node 52 = .ok (.aload_n 0, 1) := by decide +kernel
theorem dX7_node_53 : decode cX7_node 53 = .ok (.getfield 10, 3) := by decide +kernel
theorem dX7_node_56 : decode cX7_node 56 = .ok (.getfield 79, 3) := by decide +kernel
theorem dX7_node_59 : decode cX7_node 59 = .ok (.iload_n 1, 1) := by decide +kernel
theorem dX7_node_60 : decode cX7_node 60 = .ok (.laload, 1) := by decide +kernel
theorem dX7_node_61 : decode cX7_node 61 = .ok (.aload_n 0, 1) := by decide +kernel
theorem dX7_node_62 : decode cX7_node 62 = .ok (.getfield 10, 3) := by decide +kernel
theorem dX7_node_65 : decode cX7_node 65 = .ok (.getfield 69, 3) := by decide +kernel
theorem dX7_node_68 : decode cX7_node 68 = .ok (.invokevirtual 124, 3) := by decide +kernel
theorem dX7_node_71 : decode cX7_node 71 = .ok (.iload_n 3, 1) := by decide +kernel
theorem dX7_node_72 : decode cX7_node 72 = .ok (.tableswitch 97 0 5 #[40, 50, 60, 70, 79, 88], 40) := by decide +kernel
theorem dX7_node_112 : decode cX7_node 112 = .ok (.aload_n 0, 1) := by decide +kernel
theorem dX7_node_113 : decode cX7_node 113 = .ok (.getfield 55, 3) := by decide +kernel
theorem dX7_node_116 : decode cX7_node 116 = .ok (.getfield 157, 3) := by decide +kernel
theorem dX7_node_119 : decode cX7_node 119 = .ok (.iload_n 2, 1) := by decide +kernel
theorem dX7_node_120 : decode cX7_node 120 = .ok (.iaload, 1) := by decide +kernel
theorem dX7_node_121 : decode cX7_node 121 = .ok (.ireturn, 1) := by decide +kernel
theorem dX7_node_122 : decode cX7_node 122 = .ok (.aload_n 0, 1) := by decide +kernel
theorem dX7_node_123 : decode cX7_node 123 = .ok (.getfield 55, 3) := by decide +kernel
theorem dX7_node_126 : decode cX7_node 126 = .ok (.getfield 161, 3) := by decide +kernel
theorem dX7_node_129 : decode cX7_node 129 = .ok (.iload_n 2, 1) := by decide +kernel
theorem dX7_node_130 : decode cX7_node 130 = .ok (.iaload, 1) := by decide +kernel
theorem dX7_node_131 : decode cX7_node 131 = .ok (.ireturn, 1) := by decide +kernel
theorem dX7_node_132 : decode cX7_node 132 = .ok (.aload_n 0, 1) := by decide +kernel
theorem dX7_node_133 : decode cX7_node 133 = .ok (.getfield 55, 3) := by decide +kernel
theorem dX7_node_136 : decode cX7_node 136 = .ok (.getfield 164, 3) := by decide +kernel
theorem dX7_node_139 : decode cX7_node 139 = .ok (.iload_n 2, 1) := by decide +kernel
theorem dX7_node_140 : decode cX7_node 140 = .ok (.iaload, 1) := by decide +kernel
theorem dX7_node_141 : decode cX7_node 141 = .ok (.ireturn, 1) := by decide +kernel
theorem dX7_node_142 : decode cX7_node 142 = .ok (.aload_n 0, 1) := by decide +kernel
theorem dX7_node_143 : decode cX7_node 143 = .ok (.getfield 55, 3) := by decide +kernel
theorem dX7_node_146 : decode cX7_node 146 = .ok (.iload_n 2, 1) := by decide +kernel
theorem dX7_node_147 : decode cX7_node 147 = .ok (.invokevirtual 133, 3) := by decide +kernel
theorem dX7_node_150 : decode cX7_node 150 = .ok (.ireturn, 1) := by decide +kernel
theorem dX7_node_151 : decode cX7_node 151 = .ok (.aload_n 0, 1) := by decide +kernel
theorem dX7_node_152 : decode cX7_node 152 = .ok (.getfield 55, 3) := by decide +kernel
theorem dX7_node_155 : decode cX7_node 155 = .ok (.iload_n 2, 1) := by decide +kernel
theorem dX7_node_156 : decode cX7_node 156 = .ok (.invokevirtual 137, 3) := by decide +kernel
theorem dX7_node_159 : decode cX7_node 159 = .ok (.ireturn, 1) := by decide +kernel
theorem dX7_node_160 : decode cX7_node 160 = .ok (.aload_n 0, 1) := by decide +kernel
theorem dX7_node_161 : decode cX7_node 161 = .ok (.getfield 55, 3) := by decide +kernel
theorem dX7_node_164 : decode cX7_node 164 = .ok (.iload_n 2, 1) := by decide +kernel
theorem dX7_node_165 : decode cX7_node 165 = .ok (.invokevirtual 167, 3) := by decide +kernel
theorem dX7_node_168 : decode cX7_node 168 = .ok (.ireturn, 1) := by decide +kernel
theorem dX7_node_169 : decode cX7_node 169 = .ok (.aload_n 0, 1) := by decide +kernel
theorem dX7_node_170 : decode cX7_node 170 = .ok (.getfield 10, 3) := by decide +kernel
theorem dX7_node_173 : decode cX7_node 173 = .ok (.getfield 69, 3) := by decide +kernel
theorem dX7_node_176 : decode cX7_node 176 = .ok (.iload_n 2, 1) := by decide +kernel
theorem dX7_node_177 : decode cX7_node 177 = .ok (.invokestatic 170, 3) := by decide +kernel
theorem dX7_node_180 : decode cX7_node 180 = .ok (.ireturn, 1) := by decide +kernel
theorem dX7_place_0 : decode cX7_place 0 = .ok (.iload_n 1, 1) := by decide +kernel
theorem dX7_place_1 : decode cX7_place 1 = .ok (.invokestatic 73, 3) := by decide +kernel
theorem dX7_place_4 : decode cX7_place 4 = .ok (.ifCond .eq 10, 3) := by decide +kernel
theorem dX7_place_7 : decode cX7_place 7 = .ok (.iload_n 2, 1) := by decide +kernel
theorem dX7_place_8 : decode cX7_place 8 = .ok (.invokestatic 76, 3) := by decide +kernel
theorem dX7_place_11 : decode cX7_place 11 = .ok (.ifCond .ne 5, 3) := by decide +kernel
theorem dX7_place_14 : decode cX7_place 14 = .ok (.iconst (-1), 1) := by decide +kernel
theorem dX7_place_15 : decode cX7_place 15 = .ok (.ireturn, 1) := by decide +kernel
theorem dX7_place_16 : decode cX7_place 16 = .ok (.aload_n 0, 1) := by decide +kernel
theorem dX7_place_17 : decode cX7_place 17 = .ok (.getfield 10, 3) := by decide +kernel
theorem dX7_place_20 : decode cX7_place 20 = .ok (.getfield 79, 3) := by decide +kernel
theorem dX7_place_23 : decode cX7_place 23 = .ok (.iload_n 1, 1) := by decide +kernel
theorem dX7_place_24 : decode cX7_place 24 = .ok (.laload, 1) := by decide +kernel
theorem dX7_place_25 : decode cX7_place 25 = .ok (.iload_n 2, 1) := by decide +kernel
theorem dX7_place_26 : decode cX7_place 26 = .ok (.invokestatic 174, 3) := by decide +kernel
theorem dX7_place_29 : decode cX7_place 29 = .ok (.land, 1) := by decide +kernel
theorem dX7_place_30 : decode cX7_place 30 = .ok (.invokestatic 87, 3) := by decide +kernel
theorem dX7_place_33 : decode cX7_place 33 = .ok (.ireturn, 1) := by decide +kernel
theorem dX7_at_0 : decode cX7_at 0 = .ok (.iload_n 1, 1) := by decide +kernel
theorem dX7_at_1 : decode cX7_at 1 = .ok (.invokestatic 73, 3) := by decide +kernel
theorem dX7_at_4 : decode cX7_at 4 = .ok (.ifCond .eq 19, 3) := by decide +kernel
theorem dX7_at_7 : decode cX7_at 7 = .ok (.aload_n 0, 1) := by decide +kernel
theorem dX7_at_8 : decode cX7_at 8 = .ok (.getfield 10, 3) := by decide +kernel
theorem dX7_at_11 : decode cX7_at 11 = .ok (.getfield 79, 3) := by decide +kernel
theorem dX7_at_14 : decode cX7_at 14 = .ok (.iload_n 1, 1) := by decide +kernel
theorem dX7_at_15 : decode cX7_at 15 = .ok (.laload, 1) := by decide +kernel
theorem dX7_at_16 : decode cX7_at 16 = .ok (.iload_n 2, 1) := by decide +kernel
theorem dX7_at_17 : decode cX7_at 17 = .ok (.invokestatic 177, 3) := by decide +kernel
theorem dX7_at_20 : decode cX7_at 20 = .ok (.goto 4, 3) := by decide +kernel
theorem dX7_at_23 : decode cX7_at 23 = .ok (.iconst (-1), 1) := by decide +kernel
theorem dX7_at_24 : decode cX7_at 24 = .ok (.ireturn, 1) := by decide +kernel
theorem dX7_apart_0 : decode cX7_apart 0 = .ok (.iload_n 1, 1) := by decide +kernel
theorem dX7_apart_1 : decode cX7_apart 1 = .ok (.invokestatic 73, 3) := by decide +kernel
theorem dX7_apart_4 : decode cX7_apart 4 = .ok (.ifCond .eq 10, 3) := by decide +kernel
theorem dX7_apart_7 : decode cX7_apart 7 = .ok (.iload_n 2, 1) := by decide +kernel
theorem dX7_apart_8 : decode cX7_apart 8 = .ok (.invokestatic 73, 3) := by decide +kernel
theorem dX7_apart_11 : decode cX7_apart 11 = .ok (.ifCond .ne 5, 3) := by decide +kernel
theorem dX7_apart_14 : decode cX7_apart 14 = .ok (.iconst (-1), 1) := by decide +kernel
theorem dX7_apart_15 : decode cX7_apart 15 = .ok (.ireturn, 1) := by decide +kernel
theorem dX7_apart_16 : decode cX7_apart 16 = .ok (.iload_n 3, 1) := by decide +kernel
theorem dX7_apart_17 : decode cX7_apart 17 = .ok (.ifCond .lt 8, 3) := by decide +kernel
theorem dX7_apart_20 : decode cX7_apart 20 = .ok (.iload_n 3, 1) := by decide +kernel
theorem dX7_apart_21 : decode cX7_apart 21 = .ok (.iconst 2, 1) := by decide +kernel
theorem dX7_apart_22 : decode cX7_apart 22 = .ok (.if_icmp .le 6, 3) := by decide +kernel
theorem dX7_apart_25 : decode cX7_apart 25 = .ok (.bipush (-2), 2) := by decide +kernel
theorem dX7_apart_27 : decode cX7_apart 27 = .ok (.ireturn, 1) := by decide +kernel
theorem dX7_apart_28 : decode cX7_apart 28 = .ok (.aload_n 0, 1) := by decide +kernel
theorem dX7_apart_29 : decode cX7_apart 29 = .ok (.getfield 10, 3) := by decide +kernel
theorem dX7_apart_32 : decode cX7_apart 32 = .ok (.getfield 79, 3) := by decide +kernel
theorem dX7_apart_35 : decode cX7_apart 35 = .ok (.iload_n 1, 1) := by decide +kernel
theorem dX7_apart_36 : decode cX7_apart 36 = .ok (.laload, 1) := by decide +kernel
theorem dX7_apart_37 : decode cX7_apart 37 = .ok (.lstore 4, 2) := by decide +kernel
theorem dX7_apart_39 : decode cX7_apart 39 = .ok (.aload_n 0, 1) := by decide +kernel
theorem dX7_apart_40 : decode cX7_apart 40 = .ok (.getfield 10, 3) := by decide +kernel
theorem dX7_apart_43 : decode cX7_apart 43 = .ok (.getfield 79, 3) := by decide +kernel
theorem dX7_apart_46 : decode cX7_apart 46 = .ok (.iload_n 2, 1) := by decide +kernel
theorem dX7_apart_47 : decode cX7_apart 47 = .ok (.laload, 1) := by decide +kernel
theorem dX7_apart_48 : decode cX7_apart 48 = .ok (.lstore 6, 2) := by decide +kernel
theorem dX7_apart_50 : decode cX7_apart 50 = .ok (.iload_n 3, 1) := by decide +kernel
theorem dX7_apart_51 : decode cX7_apart 51 = .ok (.lookupswitch 58 #[(0, 25), (1, 34)], 25) := by decide +kernel
theorem dX7_apart_76 : decode cX7_apart 76 = .ok (.lload 4, 2) := by decide +kernel
theorem dX7_apart_78 : decode cX7_apart 78 = .ok (.lload 6, 2) := by decide +kernel
theorem dX7_apart_80 : decode cX7_apart 80 = .ok (.lxor, 1) := by decide +kernel
theorem dX7_apart_81 : decode cX7_apart 81 = .ok (.invokestatic 87, 3) := by decide +kernel
theorem dX7_apart_84 : decode cX7_apart 84 = .ok (.ireturn, 1) := by decide +kernel
theorem dX7_apart_85 : decode cX7_apart 85 = .ok (.aload_n 0, 1) := by decide +kernel
theorem dX7_apart_86 : decode cX7_apart 86 = .ok (.getfield 55, 3) := by decide +kernel
theorem dX7_apart_89 : decode cX7_apart 89 = .ok (.aload_n 0, 1) := by decide +kernel
theorem dX7_apart_90 : decode cX7_apart 90 = .ok (.getfield 61, 3) := by decide +kernel
theorem dX7_apart_93 : decode cX7_apart 93 = .ok (.lload 4, 2) := by decide +kernel
theorem dX7_apart_95 : decode cX7_apart 95 = .ok (.lload 6, 2) := by decide +kernel
theorem dX7_apart_97 : decode cX7_apart 97 = .ok (.aload_n 0, 1) := by decide +kernel
theorem dX7_apart_98 : decode cX7_apart 98 = .ok (.getfield 10, 3) := by decide +kernel
theorem dX7_apart_101 : decode cX7_apart 101 = .ok (.getfield 69, 3) := by decide +kernel
theorem dX7_apart_104 : decode cX7_apart 104 = .ok (.iconst 0, 1) := by decide +kernel
theorem dX7_apart_105 : decode cX7_apart 105 = .ok (.invokestatic 181, 3) := by decide +kernel
theorem dX7_apart_108 : decode cX7_apart 108 = .ok (.ireturn, 1) := by decide +kernel
theorem dX7_apart_109 : decode cX7_apart 109 = .ok (.aload_n 0, 1) := by decide +kernel
theorem dX7_apart_110 : decode cX7_apart 110 = .ok (.lload 4, 2) := by decide +kernel
theorem dX7_apart_112 : decode cX7_apart 112 = .ok (.lload 6, 2) := by decide +kernel
theorem dX7_apart_114 : decode cX7_apart 114 = .ok (.invokevirtual 185, 3) := by decide +kernel
theorem dX7_apart_117 : decode cX7_apart 117 = .ok (.ireturn, 1) := by decide +kernel
theorem dX7_differs_0 : decode cX7_differs 0 = .ok (.iload_n 1, 1) := by decide +kernel
theorem dX7_differs_1 : decode cX7_differs 1 = .ok (.invokestatic 73, 3) := by decide +kernel
theorem dX7_differs_4 : decode cX7_differs 4 = .ok (.ifCond .eq 10, 3) := by decide +kernel
theorem dX7_differs_7 : decode cX7_differs 7 = .ok (.iload_n 2, 1) := by decide +kernel
theorem dX7_differs_8 : decode cX7_differs 8 = .ok (.invokestatic 73, 3) := by decide +kernel
theorem dX7_differs_11 : decode cX7_differs 11 = .ok (.ifCond .ne 5, 3) := by decide +kernel
theorem dX7_differs_14 : decode cX7_differs 14 = .ok (.iconst (-1), 1) := by decide +kernel
theorem dX7_differs_15 : decode cX7_differs 15 = .ok (.ireturn, 1) := by decide +kernel
theorem dX7_differs_16 : decode cX7_differs 16 = .ok (.aload_n 0, 1) := by decide +kernel
theorem dX7_differs_17 : decode cX7_differs 17 = .ok (.getfield 10, 3) := by decide +kernel
theorem dX7_differs_20 : decode cX7_differs 20 = .ok (.getfield 79, 3) := by decide +kernel
theorem dX7_differs_23 : decode cX7_differs 23 = .ok (.iload_n 1, 1) := by decide +kernel
theorem dX7_differs_24 : decode cX7_differs 24 = .ok (.laload, 1) := by decide +kernel
theorem dX7_differs_25 : decode cX7_differs 25 = .ok (.aload_n 0, 1) := by decide +kernel
theorem dX7_differs_26 : decode cX7_differs 26 = .ok (.getfield 10, 3) := by decide +kernel
theorem dX7_differs_29 : decode cX7_differs 29 = .ok (.getfield 79, 3) := by decide +kernel
theorem dX7_differs_32 : decode cX7_differs 32 = .ok (.iload_n 2, 1) := by decide +kernel
theorem dX7_differs_33 : decode cX7_differs 33 = .ok (.laload, 1) := by decide +kernel
theorem dX7_differs_34 : decode cX7_differs 34 = .ok (.lxor, 1) := by decide +kernel
theorem dX7_differs_35 : decode cX7_differs 35 = .ok (.iload_n 3, 1) := by decide +kernel
theorem dX7_differs_36 : decode cX7_differs 36 = .ok (.invokestatic 177, 3) := by decide +kernel
theorem dX7_differs_39 : decode cX7_differs 39 = .ok (.ireturn, 1) := by decide +kernel
theorem dX7_looks_0 : decode cX7_looks 0 = .ok (.lload_n 2, 1) := by decide +kernel
theorem dX7_looks_1 : decode cX7_looks 1 = .ok (.lconst 0, 1) := by decide +kernel
theorem dX7_looks_2 : decode cX7_looks 2 = .ok (.lcmp, 1) := by decide +kernel
theorem dX7_looks_3 : decode cX7_looks 3 = .ok (.ifCond .eq 17, 3) := by decide +kernel
theorem dX7_looks_6 : decode cX7_looks 6 = .ok (.lload 4, 2) := by decide +kernel
theorem dX7_looks_8 : decode cX7_looks 8 = .ok (.lconst 0, 1) := by decide +kernel
theorem dX7_looks_9 : decode cX7_looks 9 = .ok (.lcmp, 1) := by decide +kernel
theorem dX7_looks_10 : decode cX7_looks 10 = .ok (.ifCond .eq 10, 3) := by decide +kernel
theorem dX7_looks_13 : decode cX7_looks 13 = .ok (.iload 7, 2) := by decide +kernel
theorem dX7_looks_15 : decode cX7_looks 15 = .ok (.bipush 50, 2) := by decide +kernel
theorem dX7_looks_17 : decode cX7_looks 17 = .ok (.if_icmp .le 5, 3) := by decide +kernel
theorem dX7_looks_20 : decode cX7_looks 20 = .ok (.iconst 1, 1) := by decide +kernel
theorem dX7_looks_21 : decode cX7_looks 21 = .ok (.ireturn, 1) := by decide +kernel
theorem dX7_looks_22 : decode cX7_looks 22 = .ok (.aload_n 0, 1) := by decide +kernel
theorem dX7_looks_23 : decode cX7_looks 23 = .ok (.lload_n 2, 1) := by decide +kernel
theorem dX7_looks_24 : decode cX7_looks 24 = .ok (.iload 6, 2) := by decide +kernel
theorem dX7_looks_26 : decode cX7_looks 26 = .ok (.invokevirtual 124, 3) := by decide +kernel
theorem dX7_looks_29 : decode cX7_looks 29 = .ok (.aload_n 1, 1) := by decide +kernel
theorem dX7_looks_30 : decode cX7_looks 30 = .ok (.lload 4, 2) := by decide +kernel
theorem dX7_looks_32 : decode cX7_looks 32 = .ok (.iload 6, 2) := by decide +kernel
theorem dX7_looks_34 : decode cX7_looks 34 = .ok (.invokevirtual 124, 3) := by decide +kernel
theorem dX7_looks_37 : decode cX7_looks 37 = .ok (.aload_n 0, 1) := by decide +kernel
theorem dX7_looks_38 : decode cX7_looks 38 = .ok (.getfield 130, 3) := by decide +kernel
theorem dX7_looks_41 : decode cX7_looks 41 = .ok (.istore 8, 2) := by decide +kernel
theorem dX7_looks_43 : decode cX7_looks 43 = .ok (.aload_n 1, 1) := by decide +kernel
theorem dX7_looks_44 : decode cX7_looks 44 = .ok (.getfield 130, 3) := by decide +kernel
theorem dX7_looks_47 : decode cX7_looks 47 = .ok (.istore 9, 2) := by decide +kernel
theorem dX7_looks_49 : decode cX7_looks 49 = .ok (.aload_n 0, 1) := by decide +kernel
theorem dX7_looks_50 : decode cX7_looks 50 = .ok (.iload 8, 2) := by decide +kernel
theorem dX7_looks_52 : decode cX7_looks 52 = .ok (.invokevirtual 137, 3) := by decide +kernel
theorem dX7_looks_55 : decode cX7_looks 55 = .ok (.aload_n 1, 1) := by decide +kernel
theorem dX7_looks_56 : decode cX7_looks 56 = .ok (.iload 9, 2) := by decide +kernel
theorem dX7_looks_58 : decode cX7_looks 58 = .ok (.invokevirtual 137, 3) := by decide +kernel
theorem dX7_looks_61 : decode cX7_looks 61 = .ok (.if_icmp .ne 5, 3) := by decide +kernel
theorem dX7_looks_64 : decode cX7_looks 64 = .ok (.iconst 1, 1) := by decide +kernel
theorem dX7_looks_65 : decode cX7_looks 65 = .ok (.ireturn, 1) := by decide +kernel
theorem dX7_looks_66 : decode cX7_looks 66 = .ok (.iload 6, 2) := by decide +kernel
theorem dX7_looks_68 : decode cX7_looks 68 = .ok (.iload 9, 2) := by decide +kernel
theorem dX7_looks_70 : decode cX7_looks 70 = .ok (.iload 8, 2) := by decide +kernel
theorem dX7_looks_72 : decode cX7_looks 72 = .ok (.invokestatic 189, 3) := by decide +kernel
theorem dX7_looks_75 : decode cX7_looks 75 = .ok (.ifCond .eq 8, 3) := by decide +kernel
theorem dX7_looks_78 : decode cX7_looks 78 = .ok (.iload 9, 2) := by decide +kernel
theorem dX7_looks_80 : decode cX7_looks 80 = .ok (.goto 5, 3) := by decide +kernel
theorem dX7_looks_83 : decode cX7_looks 83 = .ok (.iload 8, 2) := by decide +kernel
theorem dX7_looks_85 : decode cX7_looks 85 = .ok (.istore 10, 2) := by decide +kernel
theorem dX7_looks_87 : decode cX7_looks 87 = .ok (.iload 10, 2) := by decide +kernel
theorem dX7_looks_89 : decode cX7_looks 89 = .ok (.invokestatic 174, 3) := by decide +kernel
theorem dX7_looks_92 : decode cX7_looks 92 = .ok (.lstore 11, 2) := by decide +kernel
theorem dX7_looks_94 : decode cX7_looks 94 = .ok (.lload 11, 2) := by decide +kernel
theorem dX7_looks_96 : decode cX7_looks 96 = .ok (.iload 10, 2) := by decide +kernel
theorem dX7_looks_98 : decode cX7_looks 98 = .ok (.invokestatic 91, 3) := by decide +kernel
theorem dX7_looks_101 : decode cX7_looks 101 = .ok (.lor, 1) := by decide +kernel
theorem dX7_looks_102 : decode cX7_looks 102 = .ok (.ldc2_w 95, 3) := by decide +kernel
theorem dX7_looks_105 : decode cX7_looks 105 = .ok (.lxor, 1) := by decide +kernel
theorem dX7_looks_106 : decode cX7_looks 106 = .ok (.lstore 13, 2) := by decide +kernel
theorem dX7_looks_108 : decode cX7_looks 108 = .ok (.iconst 1, 1) := by decide +kernel
theorem dX7_looks_109 : decode cX7_looks 109 = .ok (.aload_n 0, 1) := by decide +kernel
theorem dX7_looks_110 : decode cX7_looks 110 = .ok (.aload_n 1, 1) := by decide +kernel
theorem dX7_looks_111 : decode cX7_looks 111 = .ok (.lload_n 2, 1) := by decide +kernel
theorem dX7_looks_112 : decode cX7_looks 112 = .ok (.lload 11, 2) := by decide +kernel
theorem dX7_looks_114 : decode cX7_looks 114 = .ok (.land, 1) := by decide +kernel
theorem dX7_looks_115 : decode cX7_looks 115 = .ok (.lload 4, 2) := by decide +kernel
theorem dX7_looks_117 : decode cX7_looks 117 = .ok (.lload 11, 2) := by decide +kernel
theorem dX7_looks_119 : decode cX7_looks 119 = .ok (.land, 1) := by decide +kernel
theorem dX7_looks_120 : decode cX7_looks 120 = .ok (.iload 6, 2) := by decide +kernel
theorem dX7_looks_122 : decode cX7_looks 122 = .ok (.iload 7, 2) := by decide +kernel
theorem dX7_looks_124 : decode cX7_looks 124 = .ok (.iconst 1, 1) := by decide +kernel
theorem dX7_looks_125 : decode cX7_looks 125 = .ok (.iadd, 1) := by decide +kernel
theorem dX7_looks_126 : decode cX7_looks 126 = .ok (.invokestatic 181, 3) := by decide +kernel
theorem dX7_looks_129 : decode cX7_looks 129 = .ok (.iadd, 1) := by decide +kernel
theorem dX7_looks_130 : decode cX7_looks 130 = .ok (.aload_n 0, 1) := by decide +kernel
theorem dX7_looks_131 : decode cX7_looks 131 = .ok (.aload_n 1, 1) := by decide +kernel
theorem dX7_looks_132 : decode cX7_looks 132 = .ok (.lload_n 2, 1) := by decide +kernel
theorem dX7_looks_133 : decode cX7_looks 133 = .ok (.lload 13, 2) := by decide +kernel
theorem dX7_looks_135 : decode cX7_looks 135 = .ok (.land, 1) := by decide +kernel
theorem dX7_looks_136 : decode cX7_looks 136 = .ok (.lload 4, 2) := by decide +kernel
theorem dX7_looks_138 : decode cX7_looks 138 = .ok (.lload 13, 2) := by decide +kernel
theorem dX7_looks_140 : decode cX7_looks 140 = .ok (.land, 1) := by decide +kernel
theorem dX7_looks_141 : decode cX7_looks 141 = .ok (.iload 6, 2) := by decide +kernel
theorem dX7_looks_143 : decode cX7_looks 143 = .ok (.iload 7, 2) := by decide +kernel
theorem dX7_looks_145 : decode cX7_looks 145 = .ok (.iconst 1, 1) := by decide +kernel
theorem dX7_looks_146 : decode cX7_looks 146 = .ok (.iadd, 1) := by decide +kernel
theorem dX7_looks_147 : decode cX7_looks 147 = .ok (.invokestatic 181, 3) := by decide +kernel
theorem dX7_looks_150 : decode cX7_looks 150 = .ok (.iadd, 1) := by decide +kernel
theorem dX7_looks_151 : decode cX7_looks 151 = .ok (.ireturn, 1) := by decide +kernel
theorem dX7_shared_0 : decode cX7_shared 0 = .ok (.aload_n 0, 1) := by decide +kernel
theorem dX7_shared_1 : decode cX7_shared 1 = .ok (.getfield 55, 3) := by decide +kernel
theorem dX7_shared_4 : decode cX7_shared 4 = .ok (.lload_n 1, 1) := by decide +kernel
theorem dX7_shared_5 : decode cX7_shared 5 = .ok (.aload_n 0, 1) := by decide +kernel
theorem dX7_shared_6 : decode cX7_shared 6 = .ok (.getfield 10, 3) := by decide +kernel
theorem dX7_shared_9 : decode cX7_shared 9 = .ok (.getfield 69, 3) := by decide +kernel
theorem dX7_shared_12 : decode cX7_shared 12 = .ok (.invokevirtual 124, 3) := by decide +kernel
theorem dX7_shared_15 : decode cX7_shared 15 = .ok (.aload_n 0, 1) := by decide +kernel
theorem dX7_shared_16 : decode cX7_shared 16 = .ok (.getfield 61, 3) := by decide +kernel
theorem dX7_shared_19 : decode cX7_shared 19 = .ok (.lload_n 3, 1) := by decide +kernel
theorem dX7_shared_20 : decode cX7_shared 20 = .ok (.aload_n 0, 1) := by decide +kernel
theorem dX7_shared_21 : decode cX7_shared 21 = .ok (.getfield 10, 3) := by decide +kernel
theorem dX7_shared_24 : decode cX7_shared 24 = .ok (.getfield 69, 3) := by decide +kernel
theorem dX7_shared_27 : decode cX7_shared 27 = .ok (.invokevirtual 124, 3) := by decide +kernel
theorem dX7_shared_30 : decode cX7_shared 30 = .ok (.iconst 0, 1) := by decide +kernel
theorem dX7_shared_31 : decode cX7_shared 31 = .ok (.istore 5, 2) := by decide +kernel
theorem dX7_shared_33 : decode cX7_shared 33 = .ok (.iconst 0, 1) := by decide +kernel
theorem dX7_shared_34 : decode cX7_shared 34 = .ok (.istore 6, 2) := by decide +kernel
theorem dX7_shared_36 : decode cX7_shared 36 = .ok (.iload 6, 2) := by decide +kernel
theorem dX7_shared_38 : decode cX7_shared 38 = .ok (.bipush 50, 2) := by decide +kernel
theorem dX7_shared_40 : decode cX7_shared 40 = .ok (.if_icmp .ge 47, 3) := by decide +kernel
theorem dX7_shared_43 : decode cX7_shared 43 = .ok (.lload_n 1, 1) := by decide +kernel
theorem dX7_shared_44 : decode cX7_shared 44 = .ok (.lload_n 3, 1) := by decide +kernel
theorem dX7_shared_45 : decode cX7_shared 45 = .ok (.land, 1) := by decide +kernel
theorem dX7_shared_46 : decode cX7_shared 46 = .ok (.iload 6, 2) := by decide +kernel
theorem dX7_shared_48 : decode cX7_shared 48 = .ok (.invokestatic 83, 3) := by decide +kernel
theorem dX7_shared_51 : decode cX7_shared 51 = .ok (.ifCond .eq 30, 3) := by decide +kernel
theorem dX7_shared_54 : decode cX7_shared 54 = .ok (.aload_n 0, 1) := by decide +kernel
theorem dX7_shared_55 : decode cX7_shared 55 = .ok (.getfield 55, 3) := by decide +kernel
theorem dX7_shared_58 : decode cX7_shared 58 = .ok (.getfield 193, 3) := by decide +kernel
theorem dX7_shared_61 : decode cX7_shared 61 = .ok (.iload 6, 2) := by decide +kernel
theorem dX7_shared_63 : decode cX7_shared 63 = .ok (.laload, 1) := by decide +kernel
theorem dX7_shared_64 : decode cX7_shared 64 = .ok (.aload_n 0, 1) := by decide +kernel
theorem dX7_shared_65 : decode cX7_shared 65 = .ok (.getfield 61, 3) := by decide +kernel
theorem dX7_shared_68 : decode cX7_shared 68 = .ok (.getfield 193, 3) := by decide +kernel
theorem dX7_shared_71 : decode cX7_shared 71 = .ok (.iload 6, 2) := by decide +kernel
theorem dX7_shared_73 : decode cX7_shared 73 = .ok (.laload, 1) := by decide +kernel
theorem dX7_shared_74 : decode cX7_shared 74 = .ok (.lcmp, 1) := by decide +kernel
theorem dX7_shared_75 : decode cX7_shared 75 = .ok (.ifCond .ne 6, 3) := by decide +kernel
theorem dX7_shared_78 : decode cX7_shared 78 = .ok (.iinc 5 1, 3) := by decide +kernel
theorem dX7_shared_81 : decode cX7_shared 81 = .ok (.iinc 6 1, 3) := by decide +kernel
theorem dX7_shared_84 : decode cX7_shared 84 = .ok (.goto (-48), 3) := by decide +kernel
theorem dX7_shared_87 : decode cX7_shared 87 = .ok (.iload 5, 2) := by decide +kernel
theorem dX7_shared_89 : decode cX7_shared 89 = .ok (.ireturn, 1) := by decide +kernel
theorem dX7_above_0 : decode cX7_above 0 = .ok (.iload_n 1, 1) := by decide +kernel
theorem dX7_above_1 : decode cX7_above 1 = .ok (.invokestatic 76, 3) := by decide +kernel
theorem dX7_above_4 : decode cX7_above 4 = .ok (.ifCond .eq 10, 3) := by decide +kernel
theorem dX7_above_7 : decode cX7_above 7 = .ok (.iload_n 2, 1) := by decide +kernel
theorem dX7_above_8 : decode cX7_above 8 = .ok (.invokestatic 76, 3) := by decide +kernel
theorem dX7_above_11 : decode cX7_above 11 = .ok (.ifCond .ne 5, 3) := by decide +kernel
theorem dX7_above_14 : decode cX7_above 14 = .ok (.iconst (-1), 1) := by decide +kernel
theorem dX7_above_15 : decode cX7_above 15 = .ok (.ireturn, 1) := by decide +kernel
theorem dX7_above_16 : decode cX7_above 16 = .ok (.iload_n 1, 1) := by decide +kernel
theorem dX7_above_17 : decode cX7_above 17 = .ok (.iload_n 2, 1) := by decide +kernel
theorem dX7_above_18 : decode cX7_above 18 = .ok (.if_icmp .ne 6, 3) := by decide +kernel
theorem dX7_above_21 : decode cX7_above 21 = .ok (.bipush (-2), 2) := by decide +kernel
theorem dX7_above_23 : decode cX7_above 23 = .ok (.ireturn, 1) := by decide +kernel
theorem dX7_above_24 : decode cX7_above 24 = .ok (.aload_n 0, 1) := by decide +kernel
theorem dX7_above_25 : decode cX7_above 25 = .ok (.getfield 29, 3) := by decide +kernel
theorem dX7_above_28 : decode cX7_above 28 = .ok (.iload_n 1, 1) := by decide +kernel
theorem dX7_above_29 : decode cX7_above 29 = .ok (.iload_n 2, 1) := by decide +kernel
theorem dX7_above_30 : decode cX7_above 30 = .ok (.invokevirtual 196, 3) := by decide +kernel
theorem dX7_above_33 : decode cX7_above 33 = .ok (.ifCond .eq 13, 3) := by decide +kernel
theorem dX7_above_36 : decode cX7_above 36 = .ok (.aload_n 0, 1) := by decide +kernel
theorem dX7_above_37 : decode cX7_above 37 = .ok (.getfield 29, 3) := by decide +kernel
theorem dX7_above_40 : decode cX7_above 40 = .ok (.getfield 200, 3) := by decide +kernel
theorem dX7_above_43 : decode cX7_above 43 = .ok (.goto 5, 3) := by decide +kernel
theorem dX7_above_46 : decode cX7_above 46 = .ok (.bipush (-4), 2) := by decide +kernel
theorem dX7_above_48 : decode cX7_above 48 = .ok (.ireturn, 1) := by decide +kernel
theorem dX7_forget_0 : decode cX7_forget 0 = .ok (.aload_n 0, 1) := by decide +kernel
theorem dX7_forget_1 : decode cX7_forget 1 = .ok (.getfield 29, 3) := by decide +kernel
theorem dX7_forget_4 : decode cX7_forget 4 = .ok (.getfield 200, 3) := by decide +kernel
theorem dX7_forget_7 : decode cX7_forget 7 = .ok (.istore_n 1, 1) := by decide +kernel
theorem dX7_forget_8 : decode cX7_forget 8 = .ok (.aload_n 0, 1) := by decide +kernel
theorem dX7_forget_9 : decode cX7_forget 9 = .ok (.getfield 29, 3) := by decide +kernel
theorem dX7_forget_12 : decode cX7_forget 12 = .ok (.invokevirtual 201, 3) := by decide +kernel
theorem dX7_forget_15 : decode cX7_forget 15 = .ok (.iload_n 1, 1) := by decide +kernel
theorem dX7_forget_16 : decode cX7_forget 16 = .ok (.ireturn, 1) := by decide +kernel
theorem dX7_seeds_0 : decode cX7_seeds 0 = .ok (.iload_n 1, 1) := by decide +kernel
theorem dX7_seeds_1 : decode cX7_seeds 1 = .ok (.iconst (-1), 1) := by decide +kernel
theorem dX7_seeds_2 : decode cX7_seeds 2 = .ok (.if_icmp .ne 13, 3) := by decide +kernel
theorem dX7_seeds_5 : decode cX7_seeds 5 = .ok (.aload_n 0, 1) := by decide +kernel
theorem dX7_seeds_6 : decode cX7_seeds 6 = .ok (.getfield 29, 3) := by decide +kernel
theorem dX7_seeds_9 : decode cX7_seeds 9 = .ok (.invokevirtual 202, 3) := by decide +kernel
theorem dX7_seeds_12 : decode cX7_seeds 12 = .ok (.goto 11, 3) := by decide +kernel
theorem dX7_seeds_15 : decode cX7_seeds 15 = .ok (.aload_n 0, 1) := by decide +kernel
theorem dX7_seeds_16 : decode cX7_seeds 16 = .ok (.getfield 29, 3) := by decide +kernel
theorem dX7_seeds_19 : decode cX7_seeds 19 = .ok (.iload_n 1, 1) := by decide +kernel
theorem dX7_seeds_20 : decode cX7_seeds 20 = .ok (.invokevirtual 205, 3) := by decide +kernel
theorem dX7_seeds_23 : decode cX7_seeds 23 = .ok (.ireturn, 1) := by decide +kernel
theorem dX7_orders_0 : decode cX7_orders 0 = .ok (.iload_n 1, 1) := by decide +kernel
theorem dX7_orders_1 : decode cX7_orders 1 = .ok (.invokestatic 73, 3) := by decide +kernel
theorem dX7_orders_4 : decode cX7_orders 4 = .ok (.ifCond .ne 7, 3) := by decide +kernel
theorem dX7_orders_7 : decode cX7_orders 7 = .ok (.ldc2_w 95, 3) := by decide +kernel
theorem dX7_orders_10 : decode cX7_orders 10 = .ok (.lreturn, 1) := by decide +kernel
theorem dX7_orders_11 : decode cX7_orders 11 = .ok (.aload_n 0, 1) := by decide +kernel
theorem dX7_orders_12 : decode cX7_orders 12 = .ok (.getfield 10, 3) := by decide +kernel
theorem dX7_orders_15 : decode cX7_orders 15 = .ok (.getfield 79, 3) := by decide +kernel
theorem dX7_orders_18 : decode cX7_orders 18 = .ok (.iload_n 1, 1) := by decide +kernel
theorem dX7_orders_19 : decode cX7_orders 19 = .ok (.laload, 1) := by decide +kernel
theorem dX7_orders_20 : decode cX7_orders 20 = .ok (.invokestatic 87, 3) := by decide +kernel
theorem dX7_orders_23 : decode cX7_orders 23 = .ok (.istore_n 2, 1) := by decide +kernel
theorem dX7_orders_24 : decode cX7_orders 24 = .ok (.iload_n 2, 1) := by decide +kernel
theorem dX7_orders_25 : decode cX7_orders 25 = .ok (.bipush 20, 2) := by decide +kernel
theorem dX7_orders_27 : decode cX7_orders 27 = .ok (.if_icmp .le 7, 3) := by decide +kernel
theorem dX7_orders_30 : decode cX7_orders 30 = .ok (.ldc2_w 208, 3) := by decide +kernel
theorem dX7_orders_33 : decode cX7_orders 33 = .ok (.lreturn, 1) := by decide +kernel
theorem dX7_orders_34 : decode cX7_orders 34 = .ok (.lconst 1, 1) := by decide +kernel
theorem dX7_orders_35 : decode cX7_orders 35 = .ok (.lstore_n 3, 1) := by decide +kernel
theorem dX7_orders_36 : decode cX7_orders 36 = .ok (.iconst 2, 1) := by decide +kernel
theorem dX7_orders_37 : decode cX7_orders 37 = .ok (.istore 5, 2) := by decide +kernel
theorem dX7_orders_39 : decode cX7_orders 39 = .ok (.iload 5, 2) := by decide +kernel
theorem dX7_orders_41 : decode cX7_orders 41 = .ok (.iload_n 2, 1) := by decide +kernel
theorem dX7_orders_42 : decode cX7_orders 42 = .ok (.if_icmp .gt 15, 3) := by decide +kernel
theorem dX7_orders_45 : decode cX7_orders 45 = .ok (.lload_n 3, 1) := by decide +kernel
theorem dX7_orders_46 : decode cX7_orders 46 = .ok (.iload 5, 2) := by decide +kernel
theorem dX7_orders_48 : decode cX7_orders 48 = .ok (.i2l, 1) := by decide +kernel
theorem dX7_orders_49 : decode cX7_orders 49 = .ok (.lmul, 1) := by decide +kernel
theorem dX7_orders_50 : decode cX7_orders 50 = .ok (.lstore_n 3, 1) := by decide +kernel
theorem dX7_orders_51 : decode cX7_orders 51 = .ok (.iinc 5 1, 3) := by decide +kernel
theorem dX7_orders_54 : decode cX7_orders 54 = .ok (.goto (-15), 3) := by decide +kernel
theorem dX7_orders_57 : decode cX7_orders 57 = .ok (.aload_n 0, 1) := by decide +kernel
theorem dX7_orders_58 : decode cX7_orders 58 = .ok (.getfield 55, 3) := by decide +kernel
theorem dX7_orders_61 : decode cX7_orders 61 = .ok (.aload_n 0, 1) := by decide +kernel
theorem dX7_orders_62 : decode cX7_orders 62 = .ok (.getfield 10, 3) := by decide +kernel
theorem dX7_orders_65 : decode cX7_orders 65 = .ok (.getfield 79, 3) := by decide +kernel
theorem dX7_orders_68 : decode cX7_orders 68 = .ok (.iload_n 1, 1) := by decide +kernel
theorem dX7_orders_69 : decode cX7_orders 69 = .ok (.laload, 1) := by decide +kernel
theorem dX7_orders_70 : decode cX7_orders 70 = .ok (.aload_n 0, 1) := by decide +kernel
theorem dX7_orders_71 : decode cX7_orders 71 = .ok (.getfield 10, 3) := by decide +kernel
theorem dX7_orders_74 : decode cX7_orders 74 = .ok (.getfield 69, 3) := by decide +kernel
theorem dX7_orders_77 : decode cX7_orders 77 = .ok (.invokevirtual 124, 3) := by decide +kernel
theorem dX7_orders_80 : decode cX7_orders 80 = .ok (.iconst 0, 1) := by decide +kernel
theorem dX7_orders_81 : decode cX7_orders 81 = .ok (.istore 5, 2) := by decide +kernel
theorem dX7_orders_83 : decode cX7_orders 83 = .ok (.iload 5, 2) := by decide +kernel
theorem dX7_orders_85 : decode cX7_orders 85 = .ok (.bipush 50, 2) := by decide +kernel
theorem dX7_orders_87 : decode cX7_orders 87 = .ok (.if_icmp .ge 36, 3) := by decide +kernel
theorem dX7_orders_90 : decode cX7_orders 90 = .ok (.aload_n 0, 1) := by decide +kernel
theorem dX7_orders_91 : decode cX7_orders 91 = .ok (.getfield 55, 3) := by decide +kernel
theorem dX7_orders_94 : decode cX7_orders 94 = .ok (.getfield 193, 3) := by decide +kernel
theorem dX7_orders_97 : decode cX7_orders 97 = .ok (.iload 5, 2) := by decide +kernel
theorem dX7_orders_99 : decode cX7_orders 99 = .ok (.laload, 1) := by decide +kernel
theorem dX7_orders_100 : decode cX7_orders 100 = .ok (.invokestatic 87, 3) := by decide +kernel
theorem dX7_orders_103 : decode cX7_orders 103 = .ok (.istore 6, 2) := by decide +kernel
theorem dX7_orders_105 : decode cX7_orders 105 = .ok (.iload 6, 2) := by decide +kernel
theorem dX7_orders_107 : decode cX7_orders 107 = .ok (.iconst 1, 1) := by decide +kernel
theorem dX7_orders_108 : decode cX7_orders 108 = .ok (.if_icmp .le 9, 3) := by decide +kernel
theorem dX7_orders_111 : decode cX7_orders 111 = .ok (.lload_n 3, 1) := by decide +kernel
theorem dX7_orders_112 : decode cX7_orders 112 = .ok (.iload 6, 2) := by decide +kernel
theorem dX7_orders_114 : decode cX7_orders 114 = .ok (.i2l, 1) := by decide +kernel
theorem dX7_orders_115 : decode cX7_orders 115 = .ok (.ldiv, 1) := by decide +kernel
theorem dX7_orders_116 : decode cX7_orders 116 = .ok (.lstore_n 3, 1) := by decide +kernel
theorem dX7_orders_117 : decode cX7_orders 117 = .ok (.iinc 5 1, 3) := by decide +kernel
theorem dX7_orders_120 : decode cX7_orders 120 = .ok (.goto (-37), 3) := by decide +kernel
theorem dX7_orders_123 : decode cX7_orders 123 = .ok (.lload_n 3, 1) := by decide +kernel
theorem dX7_orders_124 : decode cX7_orders 124 = .ok (.lreturn, 1) := by decide +kernel
theorem dX7_shapes_0 : decode cX7_shapes 0 = .ok (.iload_n 1, 1) := by decide +kernel
theorem dX7_shapes_1 : decode cX7_shapes 1 = .ok (.ifCond .lt 9, 3) := by decide +kernel
theorem dX7_shapes_4 : decode cX7_shapes 4 = .ok (.iload_n 1, 1) := by decide +kernel
theorem dX7_shapes_5 : decode cX7_shapes 5 = .ok (.bipush 30, 2) := by decide +kernel
theorem dX7_shapes_7 : decode cX7_shapes 7 = .ok (.if_icmp .le 7, 3) := by decide +kernel
theorem dX7_shapes_10 : decode cX7_shapes 10 = .ok (.ldc2_w 210, 3) := by decide +kernel
theorem dX7_shapes_13 : decode cX7_shapes 13 = .ok (.lreturn, 1) := by decide +kernel
theorem dX7_shapes_14 : decode cX7_shapes 14 = .ok (.lconst 1, 1) := by decide +kernel
theorem dX7_shapes_15 : decode cX7_shapes 15 = .ok (.lstore_n 2, 1) := by decide +kernel
theorem dX7_shapes_16 : decode cX7_shapes 16 = .ok (.iconst 1, 1) := by decide +kernel
theorem dX7_shapes_17 : decode cX7_shapes 17 = .ok (.istore 4, 2) := by decide +kernel
theorem dX7_shapes_19 : decode cX7_shapes 19 = .ok (.iload 4, 2) := by decide +kernel
theorem dX7_shapes_21 : decode cX7_shapes 21 = .ok (.iload_n 1, 1) := by decide +kernel
theorem dX7_shapes_22 : decode cX7_shapes 22 = .ok (.if_icmp .gt 25, 3) := by decide +kernel
theorem dX7_shapes_25 : decode cX7_shapes 25 = .ok (.lload_n 2, 1) := by decide +kernel
theorem dX7_shapes_26 : decode cX7_shapes 26 = .ok (.iconst 4, 1) := by decide +kernel
theorem dX7_shapes_27 : decode cX7_shapes 27 = .ok (.iload 4, 2) := by decide +kernel
theorem dX7_shapes_29 : decode cX7_shapes 29 = .ok (.imul, 1) := by decide +kernel
theorem dX7_shapes_30 : decode cX7_shapes 30 = .ok (.iconst 2, 1) := by decide +kernel
theorem dX7_shapes_31 : decode cX7_shapes 31 = .ok (.isub, 1) := by decide +kernel
theorem dX7_shapes_32 : decode cX7_shapes 32 = .ok (.i2l, 1) := by decide +kernel
theorem dX7_shapes_33 : decode cX7_shapes 33 = .ok (.lmul, 1) := by decide +kernel
theorem dX7_shapes_34 : decode cX7_shapes 34 = .ok (.iload 4, 2) := by decide +kernel
theorem dX7_shapes_36 : decode cX7_shapes 36 = .ok (.iconst 1, 1) := by decide +kernel
theorem dX7_shapes_37 : decode cX7_shapes 37 = .ok (.iadd, 1) := by decide +kernel
theorem dX7_shapes_38 : decode cX7_shapes 38 = .ok (.i2l, 1) := by decide +kernel
theorem dX7_shapes_39 : decode cX7_shapes 39 = .ok (.ldiv, 1) := by decide +kernel
theorem dX7_shapes_40 : decode cX7_shapes 40 = .ok (.lstore_n 2, 1) := by decide +kernel
theorem dX7_shapes_41 : decode cX7_shapes 41 = .ok (.iinc 4 1, 3) := by decide +kernel
theorem dX7_shapes_44 : decode cX7_shapes 44 = .ok (.goto (-25), 3) := by decide +kernel
theorem dX7_shapes_47 : decode cX7_shapes 47 = .ok (.lload_n 2, 1) := by decide +kernel
theorem dX7_shapes_48 : decode cX7_shapes 48 = .ok (.lreturn, 1) := by decide +kernel
theorem dX7_deep_0 : decode cX7_deep 0 = .ok (.iload_n 1, 1) := by decide +kernel
theorem dX7_deep_1 : decode cX7_deep 1 = .ok (.iconst 1, 1) := by decide +kernel
theorem dX7_deep_2 : decode cX7_deep 2 = .ok (.if_icmp .lt 27, 3) := by decide +kernel
theorem dX7_deep_5 : decode cX7_deep 5 = .ok (.iload_n 1, 1) := by decide +kernel
theorem dX7_deep_6 : decode cX7_deep 6 = .ok (.bipush 20, 2) := by decide +kernel
theorem dX7_deep_8 : decode cX7_deep 8 = .ok (.if_icmp .gt 21, 3) := by decide +kernel
theorem dX7_deep_11 : decode cX7_deep 11 = .ok (.iload_n 2, 1) := by decide +kernel
theorem dX7_deep_12 : decode cX7_deep 12 = .ok (.ifCond .lt 17, 3) := by decide +kernel
theorem dX7_deep_15 : decode cX7_deep 15 = .ok (.iload_n 2, 1) := by decide +kernel
theorem dX7_deep_16 : decode cX7_deep 16 = .ok (.iload_n 1, 1) := by decide +kernel
theorem dX7_deep_17 : decode cX7_deep 17 = .ok (.if_icmp .ge 12, 3) := by decide +kernel
theorem dX7_deep_20 : decode cX7_deep 20 = .ok (.iload_n 3, 1) := by decide +kernel
theorem dX7_deep_21 : decode cX7_deep 21 = .ok (.ifCond .lt 8, 3) := by decide +kernel
theorem dX7_deep_24 : decode cX7_deep 24 = .ok (.iload_n 3, 1) := by decide +kernel
theorem dX7_deep_25 : decode cX7_deep 25 = .ok (.iconst 1, 1) := by decide +kernel
theorem dX7_deep_26 : decode cX7_deep 26 = .ok (.if_icmp .le 7, 3) := by decide +kernel
theorem dX7_deep_29 : decode cX7_deep 29 = .ok (.ldc2_w 212, 3) := by decide +kernel
theorem dX7_deep_32 : decode cX7_deep 32 = .ok (.lreturn, 1) := by decide +kernel
theorem dX7_deep_33 : decode cX7_deep 33 = .ok (.lconst 0, 1) := by decide +kernel
theorem dX7_deep_34 : decode cX7_deep 34 = .ok (.lstore 4, 2) := by decide +kernel
theorem dX7_deep_36 : decode cX7_deep 36 = .ok (.iconst 0, 1) := by decide +kernel
theorem dX7_deep_37 : decode cX7_deep 37 = .ok (.istore 6, 2) := by decide +kernel
theorem dX7_deep_39 : decode cX7_deep 39 = .ok (.iload 6, 2) := by decide +kernel
theorem dX7_deep_41 : decode cX7_deep 41 = .ok (.iload_n 1, 1) := by decide +kernel
theorem dX7_deep_42 : decode cX7_deep 42 = .ok (.if_icmp .ge 34, 3) := by decide +kernel
theorem dX7_deep_45 : decode cX7_deep 45 = .ok (.iload 6, 2) := by decide +kernel
theorem dX7_deep_47 : decode cX7_deep 47 = .ok (.iload_n 2, 1) := by decide +kernel
theorem dX7_deep_48 : decode cX7_deep 48 = .ok (.if_icmp .eq 22, 3) := by decide +kernel
theorem dX7_deep_51 : decode cX7_deep 51 = .ok (.lload 4, 2) := by decide +kernel
theorem dX7_deep_53 : decode cX7_deep 53 = .ok (.ldc2_w 214, 3) := by decide +kernel
theorem dX7_deep_56 : decode cX7_deep 56 = .ok (.iload 6, 2) := by decide +kernel
theorem dX7_deep_58 : decode cX7_deep 58 = .ok (.iload_n 2, 1) := by decide +kernel
theorem dX7_deep_59 : decode cX7_deep 59 = .ok (.isub, 1) := by decide +kernel
theorem dX7_deep_60 : decode cX7_deep 60 = .ok (.invokestatic 216, 3) := by decide +kernel
theorem dX7_deep_63 : decode cX7_deep 63 = .ok (.iconst 1, 1) := by decide +kernel
theorem dX7_deep_64 : decode cX7_deep 64 = .ok (.iadd, 1) := by decide +kernel
theorem dX7_deep_65 : decode cX7_deep 65 = .ok (.i2l, 1) := by decide +kernel
theorem dX7_deep_66 : decode cX7_deep 66 = .ok (.ldiv, 1) := by decide +kernel
theorem dX7_deep_67 : decode cX7_deep 67 = .ok (.ladd, 1) := by decide +kernel
theorem dX7_deep_68 : decode cX7_deep 68 = .ok (.lstore 4, 2) := by decide +kernel
theorem dX7_deep_70 : decode cX7_deep 70 = .ok (.iinc 6 1, 3) := by decide +kernel
theorem dX7_deep_73 : decode cX7_deep 73 = .ok (.goto (-34), 3) := by decide +kernel
theorem dX7_deep_76 : decode cX7_deep 76 = .ok (.ldc2_w 214, 3) := by decide +kernel
theorem dX7_deep_79 : decode cX7_deep 79 = .ok (.lload 4, 2) := by decide +kernel
theorem dX7_deep_81 : decode cX7_deep 81 = .ok (.invokestatic 221, 3) := by decide +kernel
theorem dX7_deep_84 : decode cX7_deep 84 = .ok (.lstore 6, 2) := by decide +kernel
theorem dX7_deep_86 : decode cX7_deep 86 = .ok (.iload_n 3, 1) := by decide +kernel
theorem dX7_deep_87 : decode cX7_deep 87 = .ok (.ifCond .ne 8, 3) := by decide +kernel
theorem dX7_deep_90 : decode cX7_deep 90 = .ok (.lload 4, 2) := by decide +kernel
theorem dX7_deep_92 : decode cX7_deep 92 = .ok (.goto 6, 3) := by decide +kernel
theorem dX7_deep_95 : decode cX7_deep 95 = .ok (.ldc2_w 214, 3) := by decide +kernel
theorem dX7_deep_98 : decode cX7_deep 98 = .ok (.lconst 1, 1) := by decide +kernel
theorem dX7_deep_99 : decode cX7_deep 99 = .ok (.lload 6, 2) := by decide +kernel
theorem dX7_deep_101 : decode cX7_deep 101 = .ok (.invokestatic 225, 3) := by decide +kernel
theorem dX7_deep_104 : decode cX7_deep 104 = .ok (.ldiv, 1) := by decide +kernel
theorem dX7_deep_105 : decode cX7_deep 105 = .ok (.lreturn, 1) := by decide +kernel
theorem dX7_run_0 : decode cX7_run 0 = .ok (.iload_n 1, 1) := by decide +kernel
theorem dX7_run_1 : decode cX7_run 1 = .ok (.invokestatic 65, 3) := by decide +kernel
theorem dX7_run_4 : decode cX7_run 4 = .ok (.ifCond .eq 23, 3) := by decide +kernel
theorem dX7_run_7 : decode cX7_run 7 = .ok (.iload_n 2, 1) := by decide +kernel
theorem dX7_run_8 : decode cX7_run 8 = .ok (.iconst 1, 1) := by decide +kernel
theorem dX7_run_9 : decode cX7_run 9 = .ok (.if_icmp .lt 18, 3) := by decide +kernel
theorem dX7_run_12 : decode cX7_run 12 = .ok (.iload_n 2, 1) := by decide +kernel
theorem dX7_run_13 : decode cX7_run 13 = .ok (.bipush 99, 2) := by decide +kernel
theorem dX7_run_15 : decode cX7_run 15 = .ok (.if_icmp .gt 12, 3) := by decide +kernel
theorem dX7_run_18 : decode cX7_run 18 = .ok (.iload_n 3, 1) := by decide +kernel
theorem dX7_run_19 : decode cX7_run 19 = .ok (.ifCond .lt 8, 3) := by decide +kernel
theorem dX7_run_22 : decode cX7_run 22 = .ok (.iload_n 3, 1) := by decide +kernel
theorem dX7_run_23 : decode cX7_run 23 = .ok (.iconst 2, 1) := by decide +kernel
theorem dX7_run_24 : decode cX7_run 24 = .ok (.if_icmp .le 6, 3) := by decide +kernel
theorem dX7_run_27 : decode cX7_run 27 = .ok (.bipush (-2), 2) := by decide +kernel
theorem dX7_run_29 : decode cX7_run 29 = .ok (.ireturn, 1) := by decide +kernel
theorem dX7_run_30 : decode cX7_run 30 = .ok (.aload_n 0, 1) := by decide +kernel
theorem dX7_run_31 : decode cX7_run 31 = .ok (.getfield 16, 3) := by decide +kernel
theorem dX7_run_34 : decode cX7_run 34 = .ok (.aload_n 0, 1) := by decide +kernel
theorem dX7_run_35 : decode cX7_run 35 = .ok (.getfield 10, 3) := by decide +kernel
theorem dX7_run_38 : decode cX7_run 38 = .ok (.invokevirtual 149, 3) := by decide +kernel
theorem dX7_run_41 : decode cX7_run 41 = .ok (.iload_n 1, 1) := by decide +kernel
theorem dX7_run_42 : decode cX7_run 42 = .ok (.istore 4, 2) := by decide +kernel
theorem dX7_run_44 : decode cX7_run 44 = .ok (.iconst 0, 1) := by decide +kernel
theorem dX7_run_45 : decode cX7_run 45 = .ok (.istore 5, 2) := by decide +kernel
theorem dX7_run_47 : decode cX7_run 47 = .ok (.iload 5, 2) := by decide +kernel
theorem dX7_run_49 : decode cX7_run 49 = .ok (.iload_n 2, 1) := by decide +kernel
theorem dX7_run_50 : decode cX7_run 50 = .ok (.if_icmp .ge 56, 3) := by decide +kernel
theorem dX7_run_53 : decode cX7_run 53 = .ok (.bipush 75, 2) := by decide +kernel
theorem dX7_run_55 : decode cX7_run 55 = .ok (.iload 4, 2) := by decide +kernel
theorem dX7_run_57 : decode cX7_run 57 = .ok (.imul, 1) := by decide +kernel
theorem dX7_run_58 : decode cX7_run 58 = .ok (.bipush 74, 2) := by decide +kernel
theorem dX7_run_60 : decode cX7_run 60 = .ok (.iadd, 1) := by decide +kernel
theorem dX7_run_61 : decode cX7_run 61 = .ok (.ldc 228, 2) := by decide +kernel
theorem dX7_run_63 : decode cX7_run 63 = .ok (.irem, 1) := by decide +kernel
theorem dX7_run_64 : decode cX7_run 64 = .ok (.istore 4, 2) := by decide +kernel
theorem dX7_run_66 : decode cX7_run 66 = .ok (.aload_n 0, 1) := by decide +kernel
theorem dX7_run_67 : decode cX7_run 67 = .ok (.getfield 50, 3) := by decide +kernel
theorem dX7_run_70 : decode cX7_run 70 = .ok (.iload 4, 2) := by decide +kernel
theorem dX7_run_72 : decode cX7_run 72 = .ok (.invokevirtual 229, 3) := by decide +kernel
theorem dX7_run_75 : decode cX7_run 75 = .ok (.aload_n 0, 1) := by decide +kernel
theorem dX7_run_76 : decode cX7_run 76 = .ok (.getfield 16, 3) := by decide +kernel
theorem dX7_run_79 : decode cX7_run 79 = .ok (.aload_n 0, 1) := by decide +kernel
theorem dX7_run_80 : decode cX7_run 80 = .ok (.getfield 50, 3) := by decide +kernel
theorem dX7_run_83 : decode cX7_run 83 = .ok (.invokevirtual 235, 3) := by decide +kernel
theorem dX7_run_86 : decode cX7_run 86 = .ok (.ifCond .ne 14, 3) := by decide +kernel
theorem dX7_run_89 : decode cX7_run 89 = .ok (.aload_n 0, 1) := by decide +kernel
theorem dX7_run_90 : decode cX7_run 90 = .ok (.getfield 16, 3) := by decide +kernel
theorem dX7_run_93 : decode cX7_run 93 = .ok (.aload_n 0, 1) := by decide +kernel
theorem dX7_run_94 : decode cX7_run 94 = .ok (.getfield 50, 3) := by decide +kernel
theorem dX7_run_97 : decode cX7_run 97 = .ok (.invokevirtual 238, 3) := by decide +kernel
theorem dX7_run_100 : decode cX7_run 100 = .ok (.iinc 5 1, 3) := by decide +kernel
theorem dX7_run_103 : decode cX7_run 103 = .ok (.goto (-56), 3) := by decide +kernel
theorem dX7_run_106 : decode cX7_run 106 = .ok (.iload_n 3, 1) := by decide +kernel
theorem dX7_run_107 : decode cX7_run 107 = .ok (.lookupswitch 54 #[(0, 25), (1, 46)], 25) := by decide +kernel
theorem dX7_run_132 : decode cX7_run 132 = .ok (.aload_n 0, 1) := by decide +kernel
theorem dX7_run_133 : decode cX7_run 133 = .ok (.aload_n 0, 1) := by decide +kernel
theorem dX7_run_134 : decode cX7_run 134 = .ok (.getfield 16, 3) := by decide +kernel
theorem dX7_run_137 : decode cX7_run 137 = .ok (.getfield 79, 3) := by decide +kernel
theorem dX7_run_140 : decode cX7_run 140 = .ok (.iconst 0, 1) := by decide +kernel
theorem dX7_run_141 : decode cX7_run 141 = .ok (.laload, 1) := by decide +kernel
theorem dX7_run_142 : decode cX7_run 142 = .ok (.aload_n 0, 1) := by decide +kernel
theorem dX7_run_143 : decode cX7_run 143 = .ok (.getfield 16, 3) := by decide +kernel
theorem dX7_run_146 : decode cX7_run 146 = .ok (.getfield 69, 3) := by decide +kernel
theorem dX7_run_149 : decode cX7_run 149 = .ok (.invokevirtual 241, 3) := by decide +kernel
theorem dX7_run_152 : decode cX7_run 152 = .ok (.ireturn, 1) := by decide +kernel
theorem dX7_run_153 : decode cX7_run 153 = .ok (.aload_n 0, 1) := by decide +kernel
theorem dX7_run_154 : decode cX7_run 154 = .ok (.getfield 16, 3) := by decide +kernel
theorem dX7_run_157 : decode cX7_run 157 = .ok (.invokevirtual 244, 3) := by decide +kernel
theorem dX7_run_160 : decode cX7_run 160 = .ok (.ireturn, 1) := by decide +kernel
theorem dX7_run_161 : decode cX7_run 161 = .ok (.aload_n 0, 1) := by decide +kernel
theorem dX7_run_162 : decode cX7_run 162 = .ok (.getfield 16, 3) := by decide +kernel
theorem dX7_run_165 : decode cX7_run 165 = .ok (.getfield 69, 3) := by decide +kernel
theorem dX7_run_168 : decode cX7_run 168 = .ok (.ireturn, 1) := by decide +kernel
theorem dX7_image_0 : decode cX7_image 0 = .ok (.iload_n 1, 1) := by decide +kernel
theorem dX7_image_1 : decode cX7_image 1 = .ok (.ifCond .lt 8, 3) := by decide +kernel
theorem dX7_image_4 : decode cX7_image 4 = .ok (.iload_n 1, 1) := by decide +kernel
theorem dX7_image_5 : decode cX7_image 5 = .ok (.iconst 2, 1) := by decide +kernel
theorem dX7_image_6 : decode cX7_image 6 = .ok (.if_icmp .lt 6, 3) := by decide +kernel
theorem dX7_image_9 : decode cX7_image 9 = .ok (.bipush (-2), 2) := by decide +kernel
theorem dX7_image_11 : decode cX7_image 11 = .ok (.ireturn, 1) := by decide +kernel
theorem dX7_image_12 : decode cX7_image 12 = .ok (.aload_n 0, 1) := by decide +kernel
theorem dX7_image_13 : decode cX7_image 13 = .ok (.getfield 35, 3) := by decide +kernel
theorem dX7_image_16 : decode cX7_image 16 = .ok (.iload_n 1, 1) := by decide +kernel
theorem dX7_image_17 : decode cX7_image 17 = .ok (.aaload, 1) := by decide +kernel
theorem dX7_image_18 : decode cX7_image 18 = .ok (.iconst 1, 1) := by decide +kernel
theorem dX7_image_19 : decode cX7_image 19 = .ok (.putfield 247, 3) := by decide +kernel
theorem dX7_image_22 : decode cX7_image 22 = .ok (.aload_n 0, 1) := by decide +kernel
theorem dX7_image_23 : decode cX7_image 23 = .ok (.getfield 35, 3) := by decide +kernel
theorem dX7_image_26 : decode cX7_image 26 = .ok (.iload_n 1, 1) := by decide +kernel
theorem dX7_image_27 : decode cX7_image 27 = .ok (.aaload, 1) := by decide +kernel
theorem dX7_image_28 : decode cX7_image 28 = .ok (.getfield 251, 3) := by decide +kernel
theorem dX7_image_31 : decode cX7_image 31 = .ok (.aload_n 0, 1) := by decide +kernel
theorem dX7_image_32 : decode cX7_image 32 = .ok (.getfield 10, 3) := by decide +kernel
theorem dX7_image_35 : decode cX7_image 35 = .ok (.invokevirtual 149, 3) := by decide +kernel
theorem dX7_image_38 : decode cX7_image 38 = .ok (.aload_n 0, 1) := by decide +kernel
theorem dX7_image_39 : decode cX7_image 39 = .ok (.getfield 35, 3) := by decide +kernel
theorem dX7_image_42 : decode cX7_image 42 = .ok (.iload_n 1, 1) := by decide +kernel
theorem dX7_image_43 : decode cX7_image 43 = .ok (.aaload, 1) := by decide +kernel
theorem dX7_image_44 : decode cX7_image 44 = .ok (.getfield 254, 3) := by decide +kernel
theorem dX7_image_47 : decode cX7_image 47 = .ok (.aload_n 0, 1) := by decide +kernel
theorem dX7_image_48 : decode cX7_image 48 = .ok (.getfield 29, 3) := by decide +kernel
theorem dX7_image_51 : decode cX7_image 51 = .ok (.invokevirtual 255, 3) := by decide +kernel
theorem dX7_image_54 : decode cX7_image 54 = .ok (.iconst 1, 1) := by decide +kernel
theorem dX7_image_55 : decode cX7_image 55 = .ok (.ireturn, 1) := by decide +kernel
theorem dX7_restore_0 : decode cX7_restore 0 = .ok (.iload_n 1, 1) := by decide +kernel
theorem dX7_restore_1 : decode cX7_restore 1 = .ok (.ifCond .lt 8, 3) := by decide +kernel
theorem dX7_restore_4 : decode cX7_restore 4 = .ok (.iload_n 1, 1) := by decide +kernel
theorem dX7_restore_5 : decode cX7_restore 5 = .ok (.iconst 2, 1) := by decide +kernel
theorem dX7_restore_6 : decode cX7_restore 6 = .ok (.if_icmp .lt 6, 3) := by decide +kernel
theorem dX7_restore_9 : decode cX7_restore 9 = .ok (.bipush (-2), 2) := by decide +kernel
theorem dX7_restore_11 : decode cX7_restore 11 = .ok (.ireturn, 1) := by decide +kernel
theorem dX7_restore_12 : decode cX7_restore 12 = .ok (.aload_n 0, 1) := by decide +kernel
theorem dX7_restore_13 : decode cX7_restore 13 = .ok (.getfield 35, 3) := by decide +kernel
theorem dX7_restore_16 : decode cX7_restore 16 = .ok (.iload_n 1, 1) := by decide +kernel
theorem dX7_restore_17 : decode cX7_restore 17 = .ok (.aaload, 1) := by decide +kernel
theorem dX7_restore_18 : decode cX7_restore 18 = .ok (.getfield 247, 3) := by decide +kernel
theorem dX7_restore_21 : decode cX7_restore 21 = .ok (.ifCond .ne 6, 3) := by decide +kernel
theorem dX7_restore_24 : decode cX7_restore 24 = .ok (.bipush (-3), 2) := by decide +kernel
theorem dX7_restore_26 : decode cX7_restore 26 = .ok (.ireturn, 1) := by decide +kernel
theorem dX7_restore_27 : decode cX7_restore 27 = .ok (.aload_n 0, 1) := by decide +kernel
theorem dX7_restore_28 : decode cX7_restore 28 = .ok (.getfield 10, 3) := by decide +kernel
theorem dX7_restore_31 : decode cX7_restore 31 = .ok (.aload_n 0, 1) := by decide +kernel
theorem dX7_restore_32 : decode cX7_restore 32 = .ok (.getfield 35, 3) := by decide +kernel
theorem dX7_restore_35 : decode cX7_restore 35 = .ok (.iload_n 1, 1) := by decide +kernel
theorem dX7_restore_36 : decode cX7_restore 36 = .ok (.aaload, 1) := by decide +kernel
theorem dX7_restore_37 : decode cX7_restore 37 = .ok (.getfield 251, 3) := by decide +kernel
theorem dX7_restore_40 : decode cX7_restore 40 = .ok (.invokevirtual 149, 3) := by decide +kernel
theorem dX7_restore_43 : decode cX7_restore 43 = .ok (.aload_n 0, 1) := by decide +kernel
theorem dX7_restore_44 : decode cX7_restore 44 = .ok (.getfield 29, 3) := by decide +kernel
theorem dX7_restore_47 : decode cX7_restore 47 = .ok (.aload_n 0, 1) := by decide +kernel
theorem dX7_restore_48 : decode cX7_restore 48 = .ok (.getfield 35, 3) := by decide +kernel
theorem dX7_restore_51 : decode cX7_restore 51 = .ok (.iload_n 1, 1) := by decide +kernel
theorem dX7_restore_52 : decode cX7_restore 52 = .ok (.aaload, 1) := by decide +kernel
theorem dX7_restore_53 : decode cX7_restore 53 = .ok (.getfield 254, 3) := by decide +kernel
theorem dX7_restore_56 : decode cX7_restore 56 = .ok (.invokevirtual 255, 3) := by decide +kernel
theorem dX7_restore_59 : decode cX7_restore 59 = .ok (.iconst 1, 1) := by decide +kernel
theorem dX7_restore_60 : decode cX7_restore 60 = .ok (.ireturn, 1) := by decide +kernel
theorem dX7_told_0 : decode cX7_told 0 = .ok (.iload_n 1, 1) := by decide +kernel
theorem dX7_told_1 : decode cX7_told 1 = .ok (.tableswitch 51 0 2 #[27, 35, 43], 27) := by decide +kernel
theorem dX7_told_28 : decode cX7_told 28 = .ok (.aload_n 0, 1) := by decide +kernel
theorem dX7_told_29 : decode cX7_told 29 = .ok (.getfield 22, 3) := by decide +kernel
theorem dX7_told_32 : decode cX7_told 32 = .ok (.getfield 100, 3) := by decide +kernel
theorem dX7_told_35 : decode cX7_told 35 = .ok (.ireturn, 1) := by decide +kernel
theorem dX7_told_36 : decode cX7_told 36 = .ok (.aload_n 0, 1) := by decide +kernel
theorem dX7_told_37 : decode cX7_told 37 = .ok (.getfield 10, 3) := by decide +kernel
theorem dX7_told_40 : decode cX7_told 40 = .ok (.getfield 69, 3) := by decide +kernel
theorem dX7_told_43 : decode cX7_told 43 = .ok (.ireturn, 1) := by decide +kernel
theorem dX7_told_44 : decode cX7_told 44 = .ok (.aload_n 0, 1) := by decide +kernel
theorem dX7_told_45 : decode cX7_told 45 = .ok (.getfield 29, 3) := by decide +kernel
theorem dX7_told_48 : decode cX7_told 48 = .ok (.getfield 200, 3) := by decide +kernel
theorem dX7_told_51 : decode cX7_told 51 = .ok (.ireturn, 1) := by decide +kernel
theorem dX7_told_52 : decode cX7_told 52 = .ok (.aload_n 0, 1) := by decide +kernel
theorem dX7_told_53 : decode cX7_told 53 = .ok (.iload_n 1, 1) := by decide +kernel
theorem dX7_told_54 : decode cX7_told 54 = .ok (.invokevirtual 258, 3) := by decide +kernel
theorem dX7_told_57 : decode cX7_told 57 = .ok (.ireturn, 1) := by decide +kernel
theorem dX7_toldOfSets_0 : decode cX7_toldOfSets 0 = .ok (.iload_n 1, 1) := by decide +kernel
theorem dX7_toldOfSets_1 : decode cX7_toldOfSets 1 = .ok (.bipush 10, 2) := by decide +kernel
theorem dX7_toldOfSets_3 : decode cX7_toldOfSets 3 = .ok (.isub, 1) := by decide +kernel
theorem dX7_toldOfSets_4 : decode cX7_toldOfSets 4 = .ok (.invokestatic 73, 3) := by decide +kernel
theorem dX7_toldOfSets_7 : decode cX7_toldOfSets 7 = .ok (.ifCond .eq 19, 3) := by decide +kernel
theorem dX7_toldOfSets_10 : decode cX7_toldOfSets 10 = .ok (.aload_n 0, 1) := by decide +kernel
theorem dX7_toldOfSets_11 : decode cX7_toldOfSets 11 = .ok (.getfield 10, 3) := by decide +kernel
theorem dX7_toldOfSets_14 : decode cX7_toldOfSets 14 = .ok (.getfield 79, 3) := by decide +kernel
theorem dX7_toldOfSets_17 : decode cX7_toldOfSets 17 = .ok (.iload_n 1, 1) := by decide +kernel
theorem dX7_toldOfSets_18 : decode cX7_toldOfSets 18 = .ok (.bipush 10, 2) := by decide +kernel
theorem dX7_toldOfSets_20 : decode cX7_toldOfSets 20 = .ok (.isub, 1) := by decide +kernel
theorem dX7_toldOfSets_21 : decode cX7_toldOfSets 21 = .ok (.laload, 1) := by decide +kernel
theorem dX7_toldOfSets_22 : decode cX7_toldOfSets 22 = .ok (.invokestatic 87, 3) := by decide +kernel
theorem dX7_toldOfSets_25 : decode cX7_toldOfSets 25 = .ok (.ireturn, 1) := by decide +kernel
theorem dX7_toldOfSets_26 : decode cX7_toldOfSets 26 = .ok (.iload_n 1, 1) := by decide +kernel
theorem dX7_toldOfSets_27 : decode cX7_toldOfSets 27 = .ok (.bipush 20, 2) := by decide +kernel
theorem dX7_toldOfSets_29 : decode cX7_toldOfSets 29 = .ok (.isub, 1) := by decide +kernel
theorem dX7_toldOfSets_30 : decode cX7_toldOfSets 30 = .ok (.invokestatic 73, 3) := by decide +kernel
theorem dX7_toldOfSets_33 : decode cX7_toldOfSets 33 = .ok (.ifCond .eq 27, 3) := by decide +kernel
theorem dX7_toldOfSets_36 : decode cX7_toldOfSets 36 = .ok (.aload_n 0, 1) := by decide +kernel
theorem dX7_toldOfSets_37 : decode cX7_toldOfSets 37 = .ok (.aload_n 0, 1) := by decide +kernel
theorem dX7_toldOfSets_38 : decode cX7_toldOfSets 38 = .ok (.getfield 10, 3) := by decide +kernel
theorem dX7_toldOfSets_41 : decode cX7_toldOfSets 41 = .ok (.getfield 79, 3) := by decide +kernel
theorem dX7_toldOfSets_44 : decode cX7_toldOfSets 44 = .ok (.iload_n 1, 1) := by decide +kernel
theorem dX7_toldOfSets_45 : decode cX7_toldOfSets 45 = .ok (.bipush 20, 2) := by decide +kernel
theorem dX7_toldOfSets_47 : decode cX7_toldOfSets 47 = .ok (.isub, 1) := by decide +kernel
theorem dX7_toldOfSets_48 : decode cX7_toldOfSets 48 = .ok (.laload, 1) := by decide +kernel
theorem dX7_toldOfSets_49 : decode cX7_toldOfSets 49 = .ok (.aload_n 0, 1) := by decide +kernel
theorem dX7_toldOfSets_50 : decode cX7_toldOfSets 50 = .ok (.getfield 10, 3) := by decide +kernel
theorem dX7_toldOfSets_53 : decode cX7_toldOfSets 53 = .ok (.getfield 69, 3) := by decide +kernel
theorem dX7_toldOfSets_56 : decode cX7_toldOfSets 56 = .ok (.invokevirtual 241, 3) := by decide +kernel
theorem dX7_toldOfSets_59 : decode cX7_toldOfSets 59 = .ok (.ireturn, 1) := by decide +kernel
theorem dX7_toldOfSets_60 : decode cX7_toldOfSets 60 = .ok (.iload_n 1, 1) := by decide +kernel
theorem dX7_toldOfSets_61 : decode cX7_toldOfSets 61 = .ok (.bipush 100, 2) := by decide +kernel
theorem dX7_toldOfSets_63 : decode cX7_toldOfSets 63 = .ok (.idiv, 1) := by decide +kernel
theorem dX7_toldOfSets_64 : decode cX7_toldOfSets 64 = .ok (.iconst 1, 1) := by decide +kernel
theorem dX7_toldOfSets_65 : decode cX7_toldOfSets 65 = .ok (.isub, 1) := by decide +kernel
theorem dX7_toldOfSets_66 : decode cX7_toldOfSets 66 = .ok (.istore_n 2, 1) := by decide +kernel
theorem dX7_toldOfSets_67 : decode cX7_toldOfSets 67 = .ok (.iload_n 1, 1) := by decide +kernel
theorem dX7_toldOfSets_68 : decode cX7_toldOfSets 68 = .ok (.bipush 100, 2) := by decide +kernel
theorem dX7_toldOfSets_70 : decode cX7_toldOfSets 70 = .ok (.irem, 1) := by decide +kernel
theorem dX7_toldOfSets_71 : decode cX7_toldOfSets 71 = .ok (.istore_n 3, 1) := by decide +kernel
theorem dX7_toldOfSets_72 : decode cX7_toldOfSets 72 = .ok (.iload_n 2, 1) := by decide +kernel
theorem dX7_toldOfSets_73 : decode cX7_toldOfSets 73 = .ok (.invokestatic 73, 3) := by decide +kernel
theorem dX7_toldOfSets_76 : decode cX7_toldOfSets 76 = .ok (.ifCond .eq 10, 3) := by decide +kernel
theorem dX7_toldOfSets_79 : decode cX7_toldOfSets 79 = .ok (.iload_n 3, 1) := by decide +kernel
theorem dX7_toldOfSets_80 : decode cX7_toldOfSets 80 = .ok (.invokestatic 76, 3) := by decide +kernel
theorem dX7_toldOfSets_83 : decode cX7_toldOfSets 83 = .ok (.ifCond .ne 6, 3) := by decide +kernel
theorem dX7_toldOfSets_86 : decode cX7_toldOfSets 86 = .ok (.bipush (-2), 2) := by decide +kernel
theorem dX7_toldOfSets_88 : decode cX7_toldOfSets 88 = .ok (.ireturn, 1) := by decide +kernel
theorem dX7_toldOfSets_89 : decode cX7_toldOfSets 89 = .ok (.aload_n 0, 1) := by decide +kernel
theorem dX7_toldOfSets_90 : decode cX7_toldOfSets 90 = .ok (.getfield 10, 3) := by decide +kernel
theorem dX7_toldOfSets_93 : decode cX7_toldOfSets 93 = .ok (.getfield 79, 3) := by decide +kernel
theorem dX7_toldOfSets_96 : decode cX7_toldOfSets 96 = .ok (.iload_n 2, 1) := by decide +kernel
theorem dX7_toldOfSets_97 : decode cX7_toldOfSets 97 = .ok (.laload, 1) := by decide +kernel
theorem dX7_toldOfSets_98 : decode cX7_toldOfSets 98 = .ok (.iload_n 3, 1) := by decide +kernel
theorem dX7_toldOfSets_99 : decode cX7_toldOfSets 99 = .ok (.invokestatic 83, 3) := by decide +kernel
theorem dX7_toldOfSets_102 : decode cX7_toldOfSets 102 = .ok (.ifCond .eq 7, 3) := by decide +kernel
theorem dX7_toldOfSets_105 : decode cX7_toldOfSets 105 = .ok (.iconst 1, 1) := by decide +kernel
theorem dX7_toldOfSets_106 : decode cX7_toldOfSets 106 = .ok (.goto 4, 3) := by decide +kernel
theorem dX7_toldOfSets_109 : decode cX7_toldOfSets 109 = .ok (.iconst 0, 1) := by decide +kernel
theorem dX7_toldOfSets_110 : decode cX7_toldOfSets 110 = .ok (.ireturn, 1) := by decide +kernel
theorem dX7_digest_0 : decode cX7_digest 0 = .ok (.aload_n 0, 1) := by decide +kernel
theorem dX7_digest_1 : decode cX7_digest 1 = .ok (.getfield 55, 3) := by decide +kernel
theorem dX7_digest_4 : decode cX7_digest 4 = .ok (.lload_n 1, 1) := by decide +kernel
theorem dX7_digest_5 : decode cX7_digest 5 = .ok (.iload_n 3, 1) := by decide +kernel
theorem dX7_digest_6 : decode cX7_digest 6 = .ok (.invokevirtual 124, 3) := by decide +kernel
theorem dX7_digest_9 : decode cX7_digest 9 = .ok (.aload_n 0, 1) := by decide +kernel
theorem dX7_digest_10 : decode cX7_digest 10 = .ok (.getfield 55, 3) := by decide +kernel
theorem dX7_digest_13 : decode cX7_digest 13 = .ok (.aload_n 0, 1) := by decide +kernel
theorem dX7_digest_14 : decode cX7_digest 14 = .ok (.getfield 55, 3) := by decide +kernel
theorem dX7_digest_17 : decode cX7_digest 17 = .ok (.getfield 130, 3) := by decide +kernel
theorem dX7_digest_20 : decode cX7_digest 20 = .ok (.invokevirtual 137, 3) := by decide +kernel
theorem dX7_digest_23 : decode cX7_digest 23 = .ok (.ireturn, 1) := by decide +kernel
theorem dX7_isSet_0 : decode cX7_isSet 0 = .ok (.iload_n 0, 1) := by decide +kernel
theorem dX7_isSet_1 : decode cX7_isSet 1 = .ok (.ifCond .lt 12, 3) := by decide +kernel
theorem dX7_isSet_4 : decode cX7_isSet 4 = .ok (.iload_n 0, 1) := by decide +kernel
theorem dX7_isSet_5 : decode cX7_isSet 5 = .ok (.iconst 4, 1) := by decide +kernel
theorem dX7_isSet_6 : decode cX7_isSet 6 = .ok (.if_icmp .ge 7, 3) := by decide +kernel
theorem dX7_isSet_9 : decode cX7_isSet 9 = .ok (.iconst 1, 1) := by decide +kernel
theorem dX7_isSet_10 : decode cX7_isSet 10 = .ok (.goto 4, 3) := by decide +kernel
theorem dX7_isSet_13 : decode cX7_isSet 13 = .ok (.iconst 0, 1) := by decide +kernel
theorem dX7_isSet_14 : decode cX7_isSet 14 = .ok (.ireturn, 1) := by decide +kernel
theorem dX7_isKey_0 : decode cX7_isKey 0 = .ok (.iload_n 0, 1) := by decide +kernel
theorem dX7_isKey_1 : decode cX7_isKey 1 = .ok (.ifCond .lt 13, 3) := by decide +kernel
theorem dX7_isKey_4 : decode cX7_isKey 4 = .ok (.iload_n 0, 1) := by decide +kernel
theorem dX7_isKey_5 : decode cX7_isKey 5 = .ok (.bipush 50, 2) := by decide +kernel
theorem dX7_isKey_7 : decode cX7_isKey 7 = .ok (.if_icmp .ge 7, 3) := by decide +kernel
theorem dX7_isKey_10 : decode cX7_isKey 10 = .ok (.iconst 1, 1) := by decide +kernel
theorem dX7_isKey_11 : decode cX7_isKey 11 = .ok (.goto 4, 3) := by decide +kernel
theorem dX7_isKey_14 : decode cX7_isKey 14 = .ok (.iconst 0, 1) := by decide +kernel
theorem dX7_isKey_15 : decode cX7_isKey 15 = .ok (.ireturn, 1) := by decide +kernel
theorem dX7_isSeed_0 : decode cX7_isSeed 0 = .ok (.iload_n 0, 1) := by decide +kernel
theorem dX7_isSeed_1 : decode cX7_isSeed 1 = .ok (.ifCond .lt 14, 3) := by decide +kernel
theorem dX7_isSeed_4 : decode cX7_isSeed 4 = .ok (.iload_n 0, 1) := by decide +kernel
theorem dX7_isSeed_5 : decode cX7_isSeed 5 = .ok (.sipush 10000, 3) := by decide +kernel
theorem dX7_isSeed_8 : decode cX7_isSeed 8 = .ok (.if_icmp .ge 7, 3) := by decide +kernel
theorem dX7_isSeed_11 : decode cX7_isSeed 11 = .ok (.iconst 1, 1) := by decide +kernel
theorem dX7_isSeed_12 : decode cX7_isSeed 12 = .ok (.goto 4, 3) := by decide +kernel
theorem dX7_isSeed_15 : decode cX7_isSeed 15 = .ok (.iconst 0, 1) := by decide +kernel
theorem dX7_isSeed_16 : decode cX7_isSeed 16 = .ok (.ireturn, 1) := by decide +kernel
theorem dX7_bit_0 : decode cX7_bit 0 = .ok (.lconst 1, 1) := by decide +kernel
theorem dX7_bit_1 : decode cX7_bit 1 = .ok (.iload_n 0, 1) := by decide +kernel
theorem dX7_bit_2 : decode cX7_bit 2 = .ok (.lshl, 1) := by decide +kernel
theorem dX7_bit_3 : decode cX7_bit 3 = .ok (.lreturn, 1) := by decide +kernel
theorem dX7_isIn_0 : decode cX7_isIn 0 = .ok (.lload_n 0, 1) := by decide +kernel
theorem dX7_isIn_1 : decode cX7_isIn 1 = .ok (.iload_n 2, 1) := by decide +kernel
theorem dX7_isIn_2 : decode cX7_isIn 2 = .ok (.invokestatic 91, 3) := by decide +kernel
theorem dX7_isIn_5 : decode cX7_isIn 5 = .ok (.land, 1) := by decide +kernel
theorem dX7_isIn_6 : decode cX7_isIn 6 = .ok (.lconst 0, 1) := by decide +kernel
theorem dX7_isIn_7 : decode cX7_isIn 7 = .ok (.lcmp, 1) := by decide +kernel
theorem dX7_isIn_8 : decode cX7_isIn 8 = .ok (.ifCond .eq 7, 3) := by decide +kernel
theorem dX7_isIn_11 : decode cX7_isIn 11 = .ok (.iconst 1, 1) := by decide +kernel
theorem dX7_isIn_12 : decode cX7_isIn 12 = .ok (.goto 4, 3) := by decide +kernel
theorem dX7_isIn_15 : decode cX7_isIn 15 = .ok (.iconst 0, 1) := by decide +kernel
theorem dX7_isIn_16 : decode cX7_isIn 16 = .ok (.ireturn, 1) := by decide +kernel
theorem dX7_count_0 : decode cX7_count 0 = .ok (.lload_n 0, 1) := by decide +kernel
theorem dX7_count_1 : decode cX7_count 1 = .ok (.invokestatic 261, 3) := by decide +kernel
theorem dX7_count_4 : decode cX7_count 4 = .ok (.ireturn, 1) := by decide +kernel
theorem dX7_less_0 : decode cX7_less 0 = .ok (.iload_n 0, 1) := by decide +kernel
theorem dX7_less_1 : decode cX7_less 1 = .ok (.invokestatic 91, 3) := by decide +kernel
theorem dX7_less_4 : decode cX7_less 4 = .ok (.lconst 1, 1) := by decide +kernel
theorem dX7_less_5 : decode cX7_less 5 = .ok (.lsub, 1) := by decide +kernel
theorem dX7_less_6 : decode cX7_less 6 = .ok (.lreturn, 1) := by decide +kernel
theorem dX7_pick_0 : decode cX7_pick 0 = .ok (.iconst 0, 1) := by decide +kernel
theorem dX7_pick_1 : decode cX7_pick 1 = .ok (.istore_n 3, 1) := by decide +kernel
theorem dX7_pick_2 : decode cX7_pick 2 = .ok (.iconst 0, 1) := by decide +kernel
theorem dX7_pick_3 : decode cX7_pick 3 = .ok (.istore 4, 2) := by decide +kernel
theorem dX7_pick_5 : decode cX7_pick 5 = .ok (.iload 4, 2) := by decide +kernel
theorem dX7_pick_7 : decode cX7_pick 7 = .ok (.bipush 50, 2) := by decide +kernel
theorem dX7_pick_9 : decode cX7_pick 9 = .ok (.if_icmp .ge 29, 3) := by decide +kernel
theorem dX7_pick_12 : decode cX7_pick 12 = .ok (.lload_n 0, 1) := by decide +kernel
theorem dX7_pick_13 : decode cX7_pick 13 = .ok (.iload 4, 2) := by decide +kernel
theorem dX7_pick_15 : decode cX7_pick 15 = .ok (.invokestatic 83, 3) := by decide +kernel
theorem dX7_pick_18 : decode cX7_pick 18 = .ok (.ifCond .eq 14, 3) := by decide +kernel
theorem dX7_pick_21 : decode cX7_pick 21 = .ok (.iload_n 3, 1) := by decide +kernel
theorem dX7_pick_22 : decode cX7_pick 22 = .ok (.iload_n 2, 1) := by decide +kernel
theorem dX7_pick_23 : decode cX7_pick 23 = .ok (.if_icmp .ne 6, 3) := by decide +kernel
theorem dX7_pick_26 : decode cX7_pick 26 = .ok (.iload 4, 2) := by decide +kernel
theorem dX7_pick_28 : decode cX7_pick 28 = .ok (.ireturn, 1) := by decide +kernel
theorem dX7_pick_29 : decode cX7_pick 29 = .ok (.iinc 3 1, 3) := by decide +kernel
theorem dX7_pick_32 : decode cX7_pick 32 = .ok (.iinc 4 1, 3) := by decide +kernel
theorem dX7_pick_35 : decode cX7_pick 35 = .ok (.goto (-30), 3) := by decide +kernel
theorem dX7_pick_38 : decode cX7_pick 38 = .ok (.bipush (-6), 2) := by decide +kernel
theorem dX7_pick_40 : decode cX7_pick 40 = .ok (.ireturn, 1) := by decide +kernel
theorem dX7_priority_0 : decode cX7_priority 0 = .ok (.iload_n 0, 1) := by decide +kernel
theorem dX7_priority_1 : decode cX7_priority 1 = .ok (.sipush 131, 3) := by decide +kernel
theorem dX7_priority_4 : decode cX7_priority 4 = .ok (.iload_n 1, 1) := by decide +kernel
theorem dX7_priority_5 : decode cX7_priority 5 = .ok (.imul, 1) := by decide +kernel
theorem dX7_priority_6 : decode cX7_priority 6 = .ok (.iadd, 1) := by decide +kernel
theorem dX7_priority_7 : decode cX7_priority 7 = .ok (.sipush 10007, 3) := by decide +kernel
theorem dX7_priority_10 : decode cX7_priority 10 = .ok (.irem, 1) := by decide +kernel
theorem dX7_priority_11 : decode cX7_priority 11 = .ok (.istore_n 2, 1) := by decide +kernel
theorem dX7_priority_12 : decode cX7_priority 12 = .ok (.iload_n 2, 1) := by decide +kernel
theorem dX7_priority_13 : decode cX7_priority 13 = .ok (.iload_n 2, 1) := by decide +kernel
theorem dX7_priority_14 : decode cX7_priority 14 = .ok (.imul, 1) := by decide +kernel
theorem dX7_priority_15 : decode cX7_priority 15 = .ok (.sipush 10007, 3) := by decide +kernel
theorem dX7_priority_18 : decode cX7_priority 18 = .ok (.irem, 1) := by decide +kernel
theorem dX7_priority_19 : decode cX7_priority 19 = .ok (.ireturn, 1) := by decide +kernel
theorem dX7_ranksAbove_0 : decode cX7_ranksAbove 0 = .ok (.iload_n 0, 1) := by decide +kernel
theorem dX7_ranksAbove_1 : decode cX7_ranksAbove 1 = .ok (.iload_n 1, 1) := by decide +kernel
theorem dX7_ranksAbove_2 : decode cX7_ranksAbove 2 = .ok (.invokestatic 170, 3) := by decide +kernel
theorem dX7_ranksAbove_5 : decode cX7_ranksAbove 5 = .ok (.istore_n 3, 1) := by decide +kernel
theorem dX7_ranksAbove_6 : decode cX7_ranksAbove 6 = .ok (.iload_n 0, 1) := by decide +kernel
theorem dX7_ranksAbove_7 : decode cX7_ranksAbove 7 = .ok (.iload_n 2, 1) := by decide +kernel
theorem dX7_ranksAbove_8 : decode cX7_ranksAbove 8 = .ok (.invokestatic 170, 3) := by decide +kernel
theorem dX7_ranksAbove_11 : decode cX7_ranksAbove 11 = .ok (.istore 4, 2) := by decide +kernel
theorem dX7_ranksAbove_13 : decode cX7_ranksAbove 13 = .ok (.iload_n 3, 1) := by decide +kernel
theorem dX7_ranksAbove_14 : decode cX7_ranksAbove 14 = .ok (.iload 4, 2) := by decide +kernel
theorem dX7_ranksAbove_16 : decode cX7_ranksAbove 16 = .ok (.if_icmp .eq 17, 3) := by decide +kernel
theorem dX7_ranksAbove_19 : decode cX7_ranksAbove 19 = .ok (.iload_n 3, 1) := by decide +kernel
theorem dX7_ranksAbove_20 : decode cX7_ranksAbove 20 = .ok (.iload 4, 2) := by decide +kernel
theorem dX7_ranksAbove_22 : decode cX7_ranksAbove 22 = .ok (.if_icmp .le 7, 3) := by decide +kernel
theorem dX7_ranksAbove_25 : decode cX7_ranksAbove 25 = .ok (.iconst 1, 1) := by decide +kernel
theorem dX7_ranksAbove_26 : decode cX7_ranksAbove 26 = .ok (.goto 17, 3) := by decide +kernel
theorem dX7_ranksAbove_29 : decode cX7_ranksAbove 29 = .ok (.iconst 0, 1) := by decide +kernel
theorem dX7_ranksAbove_30 : decode cX7_ranksAbove 30 = .ok (.goto 13, 3) := by decide +kernel
theorem dX7_ranksAbove_33 : decode cX7_ranksAbove 33 = .ok (.iload_n 1, 1) := by decide +kernel
theorem dX7_ranksAbove_34 : decode cX7_ranksAbove 34 = .ok (.iload_n 2, 1) := by decide +kernel
theorem dX7_ranksAbove_35 : decode cX7_ranksAbove 35 = .ok (.if_icmp .ge 7, 3) := by decide +kernel
theorem dX7_ranksAbove_38 : decode cX7_ranksAbove 38 = .ok (.iconst 1, 1) := by decide +kernel
theorem dX7_ranksAbove_39 : decode cX7_ranksAbove 39 = .ok (.goto 4, 3) := by decide +kernel
theorem dX7_ranksAbove_42 : decode cX7_ranksAbove 42 = .ok (.iconst 0, 1) := by decide +kernel
theorem dX7_ranksAbove_43 : decode cX7_ranksAbove 43 = .ok (.ireturn, 1) := by decide +kernel
theorem dX7_greatestDivisor_0 : decode cX7_greatestDivisor 0 = .ok (.iconst 0, 1) := by decide +kernel
theorem dX7_greatestDivisor_1 : decode cX7_greatestDivisor 1 = .ok (.istore 4, 2) := by decide +kernel
theorem dX7_greatestDivisor_3 : decode cX7_greatestDivisor 3 = .ok (.iload 4, 2) := by decide +kernel
theorem dX7_greatestDivisor_5 : decode cX7_greatestDivisor 5 = .ok (.bipush 100, 2) := by decide +kernel
theorem dX7_greatestDivisor_7 : decode cX7_greatestDivisor 7 = .ok (.if_icmp .ge 25, 3) := by decide +kernel
theorem dX7_greatestDivisor_10 : decode cX7_greatestDivisor 10 = .ok (.lload_n 2, 1) := by decide +kernel
theorem dX7_greatestDivisor_11 : decode cX7_greatestDivisor 11 = .ok (.lconst 0, 1) := by decide +kernel
theorem dX7_greatestDivisor_12 : decode cX7_greatestDivisor 12 = .ok (.lcmp, 1) := by decide +kernel
theorem dX7_greatestDivisor_13 : decode cX7_greatestDivisor 13 = .ok (.ifCond .eq 19, 3) := by decide +kernel
theorem dX7_greatestDivisor_16 : decode cX7_greatestDivisor 16 = .ok (.lload_n 0, 1) := by decide +kernel
theorem dX7_greatestDivisor_17 : decode cX7_greatestDivisor 17 = .ok (.lload_n 2, 1) := by decide +kernel
theorem dX7_greatestDivisor_18 : decode cX7_greatestDivisor 18 = .ok (.lrem, 1) := by decide +kernel
theorem dX7_greatestDivisor_19 : decode cX7_greatestDivisor 19 = .ok (.lstore 5, 2) := by decide +kernel
theorem dX7_greatestDivisor_21 : decode cX7_greatestDivisor 21 = .ok (.lload_n 2, 1) := by decide +kernel
theorem dX7_greatestDivisor_22 : decode cX7_greatestDivisor 22 = .ok (.lstore_n 0, 1) := by decide +kernel
theorem dX7_greatestDivisor_23 : decode cX7_greatestDivisor 23 = .ok (.lload 5, 2) := by decide +kernel
theorem dX7_greatestDivisor_25 : decode cX7_greatestDivisor 25 = .ok (.lstore_n 2, 1) := by decide +kernel
theorem dX7_greatestDivisor_26 : decode cX7_greatestDivisor 26 = .ok (.iinc 4 1, 3) := by decide +kernel
theorem dX7_greatestDivisor_29 : decode cX7_greatestDivisor 29 = .ok (.goto (-26), 3) := by decide +kernel
theorem dX7_greatestDivisor_32 : decode cX7_greatestDivisor 32 = .ok (.lload_n 0, 1) := by decide +kernel
theorem dX7_greatestDivisor_33 : decode cX7_greatestDivisor 33 = .ok (.lreturn, 1) := by decide +kernel
