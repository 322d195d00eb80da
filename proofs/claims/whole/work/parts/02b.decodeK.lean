theorem dX0_init_0 : decode cX0_init 0 = .ok (.aload_n 0, 1) := by decide +kernel
theorem dX0_init_1 : decode cX0_init 1 = .ok (.invokespecial 3, 3) := by decide +kernel
theorem dX0_init_4 : decode cX0_init 4 = .ok (.return_, 1) := by decide +kernel
theorem dX0_become_0 : decode cX0_become 0 = .ok (.aload_n 0, 1) := by decide +kernel
theorem dX0_become_1 : decode cX0_become 1 = .ok (.iload_n 1, 1) := by decide +kernel
theorem dX0_become_2 : decode cX0_become 2 = .ok (.putfield 9, 3) := by decide +kernel
theorem dX0_become_5 : decode cX0_become 5 = .ok (.aload_n 0, 1) := by decide +kernel
theorem dX0_become_6 : decode cX0_become 6 = .ok (.iload_n 2, 1) := by decide +kernel
theorem dX0_become_7 : decode cX0_become 7 = .ok (.putfield 15, 3) := by decide +kernel
theorem dX0_become_10 : decode cX0_become 10 = .ok (.aload_n 0, 1) := by decide +kernel
theorem dX0_become_11 : decode cX0_become 11 = .ok (.iload_n 3, 1) := by decide +kernel
theorem dX0_become_12 : decode cX0_become 12 = .ok (.putfield 18, 3) := by decide +kernel
theorem dX0_become_15 : decode cX0_become 15 = .ok (.aload_n 0, 1) := by decide +kernel
theorem dX0_become_16 : decode cX0_become 16 = .ok (.iload 4, 2) := by decide +kernel
theorem dX0_become_18 : decode cX0_become 18 = .ok (.putfield 21, 3) := by decide +kernel
theorem dX0_become_21 : decode cX0_become 21 = .ok (.return_, 1) := by decide +kernel
theorem dX0_draw_0 : decode cX0_draw 0 = .ok (.iload_n 1, 1) := by decide +kernel
theorem dX0_draw_1 : decode cX0_draw 1 = .ok (.bipush 8, 2) := by decide +kernel
theorem dX0_draw_3 : decode cX0_draw 3 = .ok (.idiv, 1) := by decide +kernel
theorem dX0_draw_4 : decode cX0_draw 4 = .ok (.istore_n 2, 1) := by decide +kernel
theorem dX0_draw_5 : decode cX0_draw 5 = .ok (.iload_n 1, 1) := by decide +kernel
theorem dX0_draw_6 : decode cX0_draw 6 = .ok (.bipush 8, 2) := by decide +kernel
theorem dX0_draw_8 : decode cX0_draw 8 = .ok (.irem, 1) := by decide +kernel
theorem dX0_draw_9 : decode cX0_draw 9 = .ok (.tableswitch 140 0 6 #[43, 43, 43, 63, 63, 83, 108], 43) := by decide +kernel
theorem dX0_draw_52 : decode cX0_draw 52 = .ok (.aload_n 0, 1) := by decide +kernel
theorem dX0_draw_53 : decode cX0_draw 53 = .ok (.bipush 43, 2) := by decide +kernel
theorem dX0_draw_55 : decode cX0_draw 55 = .ok (.iload_n 2, 1) := by decide +kernel
theorem dX0_draw_56 : decode cX0_draw 56 = .ok (.bipush 50, 2) := by decide +kernel
theorem dX0_draw_58 : decode cX0_draw 58 = .ok (.idiv, 1) := by decide +kernel
theorem dX0_draw_59 : decode cX0_draw 59 = .ok (.iconst 4, 1) := by decide +kernel
theorem dX0_draw_60 : decode cX0_draw 60 = .ok (.irem, 1) := by decide +kernel
theorem dX0_draw_61 : decode cX0_draw 61 = .ok (.iload_n 2, 1) := by decide +kernel
theorem dX0_draw_62 : decode cX0_draw 62 = .ok (.bipush 50, 2) := by decide +kernel
theorem dX0_draw_64 : decode cX0_draw 64 = .ok (.irem, 1) := by decide +kernel
theorem dX0_draw_65 : decode cX0_draw 65 = .ok (.iconst 0, 1) := by decide +kernel
theorem dX0_draw_66 : decode cX0_draw 66 = .ok (.invokevirtual 24, 3) := by decide +kernel
theorem dX0_draw_69 : decode cX0_draw 69 = .ok (.goto 109, 3) := by decide +kernel
theorem dX0_draw_72 : decode cX0_draw 72 = .ok (.aload_n 0, 1) := by decide +kernel
theorem dX0_draw_73 : decode cX0_draw 73 = .ok (.bipush 45, 2) := by decide +kernel
theorem dX0_draw_75 : decode cX0_draw 75 = .ok (.iload_n 2, 1) := by decide +kernel
theorem dX0_draw_76 : decode cX0_draw 76 = .ok (.bipush 50, 2) := by decide +kernel
theorem dX0_draw_78 : decode cX0_draw 78 = .ok (.idiv, 1) := by decide +kernel
theorem dX0_draw_79 : decode cX0_draw 79 = .ok (.iconst 4, 1) := by decide +kernel
theorem dX0_draw_80 : decode cX0_draw 80 = .ok (.irem, 1) := by decide +kernel
theorem dX0_draw_81 : decode cX0_draw 81 = .ok (.iload_n 2, 1) := by decide +kernel
theorem dX0_draw_82 : decode cX0_draw 82 = .ok (.bipush 50, 2) := by decide +kernel
theorem dX0_draw_84 : decode cX0_draw 84 = .ok (.irem, 1) := by decide +kernel
theorem dX0_draw_85 : decode cX0_draw 85 = .ok (.iconst 0, 1) := by decide +kernel
theorem dX0_draw_86 : decode cX0_draw 86 = .ok (.invokevirtual 24, 3) := by decide +kernel
theorem dX0_draw_89 : decode cX0_draw 89 = .ok (.goto 89, 3) := by decide +kernel
theorem dX0_draw_92 : decode cX0_draw 92 = .ok (.aload_n 0, 1) := by decide +kernel
theorem dX0_draw_93 : decode cX0_draw 93 = .ok (.bipush 47, 2) := by decide +kernel
theorem dX0_draw_95 : decode cX0_draw 95 = .ok (.iload_n 2, 1) := by decide +kernel
theorem dX0_draw_96 : decode cX0_draw 96 = .ok (.iconst 4, 1) := by decide +kernel
theorem dX0_draw_97 : decode cX0_draw 97 = .ok (.irem, 1) := by decide +kernel
theorem dX0_draw_98 : decode cX0_draw 98 = .ok (.iload_n 2, 1) := by decide +kernel
theorem dX0_draw_99 : decode cX0_draw 99 = .ok (.iconst 4, 1) := by decide +kernel
theorem dX0_draw_100 : decode cX0_draw 100 = .ok (.idiv, 1) := by decide +kernel
theorem dX0_draw_101 : decode cX0_draw 101 = .ok (.bipush 50, 2) := by decide +kernel
theorem dX0_draw_103 : decode cX0_draw 103 = .ok (.irem, 1) := by decide +kernel
theorem dX0_draw_104 : decode cX0_draw 104 = .ok (.iload_n 2, 1) := by decide +kernel
theorem dX0_draw_105 : decode cX0_draw 105 = .ok (.sipush 200, 3) := by decide +kernel
theorem dX0_draw_108 : decode cX0_draw 108 = .ok (.idiv, 1) := by decide +kernel
theorem dX0_draw_109 : decode cX0_draw 109 = .ok (.iconst 4, 1) := by decide +kernel
theorem dX0_draw_110 : decode cX0_draw 110 = .ok (.irem, 1) := by decide +kernel
theorem dX0_draw_111 : decode cX0_draw 111 = .ok (.invokevirtual 24, 3) := by decide +kernel
theorem dX0_draw_114 : decode cX0_draw 114 = .ok (.goto 64, 3) := by decide +kernel
theorem dX0_draw_117 : decode cX0_draw 117 = .ok (.aload_n 0, 1) := by decide +kernel
theorem dX0_draw_118 : decode cX0_draw 118 = .ok (.iload_n 2, 1) := by decide +kernel
theorem dX0_draw_119 : decode cX0_draw 119 = .ok (.bipush 16, 2) := by decide +kernel
theorem dX0_draw_121 : decode cX0_draw 121 = .ok (.idiv, 1) := by decide +kernel
theorem dX0_draw_122 : decode cX0_draw 122 = .ok (.iconst 2, 1) := by decide +kernel
theorem dX0_draw_123 : decode cX0_draw 123 = .ok (.irem, 1) := by decide +kernel
theorem dX0_draw_124 : decode cX0_draw 124 = .ok (.ifCond .ne 8, 3) := by decide +kernel
theorem dX0_draw_127 : decode cX0_draw 127 = .ok (.bipush 38, 2) := by decide +kernel
theorem dX0_draw_129 : decode cX0_draw 129 = .ok (.goto 5, 3) := by decide +kernel
theorem dX0_draw_132 : decode cX0_draw 132 = .ok (.bipush 124, 2) := by decide +kernel
theorem dX0_draw_134 : decode cX0_draw 134 = .ok (.iload_n 2, 1) := by decide +kernel
theorem dX0_draw_135 : decode cX0_draw 135 = .ok (.iconst 4, 1) := by decide +kernel
theorem dX0_draw_136 : decode cX0_draw 136 = .ok (.irem, 1) := by decide +kernel
theorem dX0_draw_137 : decode cX0_draw 137 = .ok (.iconst 0, 1) := by decide +kernel
theorem dX0_draw_138 : decode cX0_draw 138 = .ok (.iload_n 2, 1) := by decide +kernel
theorem dX0_draw_139 : decode cX0_draw 139 = .ok (.iconst 4, 1) := by decide +kernel
theorem dX0_draw_140 : decode cX0_draw 140 = .ok (.idiv, 1) := by decide +kernel
theorem dX0_draw_141 : decode cX0_draw 141 = .ok (.iconst 4, 1) := by decide +kernel
theorem dX0_draw_142 : decode cX0_draw 142 = .ok (.irem, 1) := by decide +kernel
theorem dX0_draw_143 : decode cX0_draw 143 = .ok (.invokevirtual 24, 3) := by decide +kernel
theorem dX0_draw_146 : decode cX0_draw 146 = .ok (.goto 32, 3) := by decide +kernel
theorem dX0_draw_149 : decode cX0_draw 149 = .ok (.aload_n 0, 1) := by decide +kernel
theorem dX0_draw_150 : decode cX0_draw 150 = .ok (.iload_n 2, 1) := by decide +kernel
theorem dX0_draw_151 : decode cX0_draw 151 = .ok (.iconst 4, 1) := by decide +kernel
theorem dX0_draw_152 : decode cX0_draw 152 = .ok (.irem, 1) := by decide +kernel
theorem dX0_draw_153 : decode cX0_draw 153 = .ok (.ifCond .ne 8, 3) := by decide +kernel
theorem dX0_draw_156 : decode cX0_draw 156 = .ok (.bipush 33, 2) := by decide +kernel
theorem dX0_draw_158 : decode cX0_draw 158 = .ok (.goto 5, 3) := by decide +kernel
theorem dX0_draw_161 : decode cX0_draw 161 = .ok (.bipush 61, 2) := by decide +kernel
theorem dX0_draw_163 : decode cX0_draw 163 = .ok (.iload_n 2, 1) := by decide +kernel
theorem dX0_draw_164 : decode cX0_draw 164 = .ok (.iconst 4, 1) := by decide +kernel
theorem dX0_draw_165 : decode cX0_draw 165 = .ok (.idiv, 1) := by decide +kernel
theorem dX0_draw_166 : decode cX0_draw 166 = .ok (.iconst 4, 1) := by decide +kernel
theorem dX0_draw_167 : decode cX0_draw 167 = .ok (.irem, 1) := by decide +kernel
theorem dX0_draw_168 : decode cX0_draw 168 = .ok (.iconst 0, 1) := by decide +kernel
theorem dX0_draw_169 : decode cX0_draw 169 = .ok (.iload_n 2, 1) := by decide +kernel
theorem dX0_draw_170 : decode cX0_draw 170 = .ok (.bipush 16, 2) := by decide +kernel
theorem dX0_draw_172 : decode cX0_draw 172 = .ok (.idiv, 1) := by decide +kernel
theorem dX0_draw_173 : decode cX0_draw 173 = .ok (.iconst 4, 1) := by decide +kernel
theorem dX0_draw_174 : decode cX0_draw 174 = .ok (.irem, 1) := by decide +kernel
theorem dX0_draw_175 : decode cX0_draw 175 = .ok (.invokevirtual 24, 3) := by decide +kernel
theorem dX0_draw_178 : decode cX0_draw 178 = .ok (.return_, 1) := by decide +kernel
theorem dX1_init_0 : decode cX1_init 0 = .ok (.aload_n 0, 1) := by decide +kernel
theorem dX1_init_1 : decode cX1_init 1 = .ok (.invokespecial 1, 3) := by decide +kernel
theorem dX1_init_4 : decode cX1_init 4 = .ok (.aload_n 0, 1) := by decide +kernel
theorem dX1_init_5 : decode cX1_init 5 = .ok (.new 7, 3) := by decide +kernel
theorem dX1_init_8 : decode cX1_init 8 = .ok (.dup, 1) := by decide +kernel
theorem dX1_init_9 : decode cX1_init 9 = .ok (.invokespecial 9, 3) := by decide +kernel
theorem dX1_init_12 : decode cX1_init 12 = .ok (.putfield 10, 3) := by decide +kernel
theorem dX1_init_15 : decode cX1_init 15 = .ok (.aload_n 0, 1) := by decide +kernel
theorem dX1_init_16 : decode cX1_init 16 = .ok (.new 16, 3) := by decide +kernel
theorem dX1_init_19 : decode cX1_init 19 = .ok (.dup, 1) := by decide +kernel
theorem dX1_init_20 : decode cX1_init 20 = .ok (.invokespecial 18, 3) := by decide +kernel
theorem dX1_init_23 : decode cX1_init 23 = .ok (.putfield 19, 3) := by decide +kernel
theorem dX1_init_26 : decode cX1_init 26 = .ok (.return_, 1) := by decide +kernel
theorem dX2_init_0 : decode cX2_init 0 = .ok (.aload_n 0, 1) := by decide +kernel
theorem dX2_init_1 : decode cX2_init 1 = .ok (.invokespecial 3, 3) := by decide +kernel
theorem dX2_init_4 : decode cX2_init 4 = .ok (.aload_n 0, 1) := by decide +kernel
theorem dX2_init_5 : decode cX2_init 5 = .ok (.bipush 60, 2) := by decide +kernel
theorem dX2_init_7 : decode cX2_init 7 = .ok (.newarray .int, 2) := by decide +kernel
theorem dX2_init_9 : decode cX2_init 9 = .ok (.putfield 11, 3) := by decide +kernel
theorem dX2_init_12 : decode cX2_init 12 = .ok (.return_, 1) := by decide +kernel
theorem dX2_write_0 : decode cX2_write 0 = .ok (.aload_n 0, 1) := by decide +kernel
theorem dX2_write_1 : decode cX2_write 1 = .ok (.getfield 15, 3) := by decide +kernel
theorem dX2_write_4 : decode cX2_write 4 = .ok (.bipush 60, 2) := by decide +kernel
theorem dX2_write_6 : decode cX2_write 6 = .ok (.if_icmp .lt 5, 3) := by decide +kernel
theorem dX2_write_9 : decode cX2_write 9 = .ok (.iconst 0, 1) := by decide +kernel
theorem dX2_write_10 : decode cX2_write 10 = .ok (.ireturn, 1) := by decide +kernel
theorem dX2_write_11 : decode cX2_write 11 = .ok (.aload_n 0, 1) := by decide +kernel
theorem dX2_write_12 : decode cX2_write 12 = .ok (.getfield 11, 3) := by decide +kernel
theorem dX2_write_15 : decode cX2_write 15 = .ok (.aload_n 0, 1) := by decide +kernel
theorem dX2_write_16 : decode cX2_write 16 = .ok (.getfield 15, 3) := by decide +kernel
theorem dX2_write_19 : decode cX2_write 19 = .ok (.iload_n 1, 1) := by decide +kernel
theorem dX2_write_20 : decode cX2_write 20 = .ok (.iastore, 1) := by decide +kernel
theorem dX2_write_21 : decode cX2_write 21 = .ok (.aload_n 0, 1) := by decide +kernel
theorem dX2_write_22 : decode cX2_write 22 = .ok (.dup, 1) := by decide +kernel
theorem dX2_write_23 : decode cX2_write 23 = .ok (.getfield 15, 3) := by decide +kernel
theorem dX2_write_26 : decode cX2_write 26 = .ok (.iconst 1, 1) := by decide +kernel
theorem dX2_write_27 : decode cX2_write 27 = .ok (.iadd, 1) := by decide +kernel
theorem dX2_write_28 : decode cX2_write 28 = .ok (.putfield 15, 3) := by decide +kernel
theorem dX2_write_31 : decode cX2_write 31 = .ok (.iconst 1, 1) := by decide +kernel
theorem dX2_write_32 : decode cX2_write 32 = .ok (.ireturn, 1) := by decide +kernel
theorem dX2_clear_0 : decode cX2_clear 0 = .ok (.aload_n 0, 1) := by decide +kernel
theorem dX2_clear_1 : decode cX2_clear 1 = .ok (.iconst 0, 1) := by decide +kernel
theorem dX2_clear_2 : decode cX2_clear 2 = .ok (.putfield 15, 3) := by decide +kernel
theorem dX2_clear_5 : decode cX2_clear 5 = .ok (.return_, 1) := by decide +kernel
theorem dX2_firstFault_0 : decode cX2_firstFault 0 = .ok (.iconst 0, 1) := by decide +kernel
theorem dX2_firstFault_1 : decode cX2_firstFault 1 = .ok (.istore_n 1, 1) := by decide +kernel
theorem dX2_firstFault_2 : decode cX2_firstFault 2 = .ok (.iconst 0, 1) := by decide +kernel
theorem dX2_firstFault_3 : decode cX2_firstFault 3 = .ok (.istore_n 2, 1) := by decide +kernel
theorem dX2_firstFault_4 : decode cX2_firstFault 4 = .ok (.iload_n 2, 1) := by decide +kernel
theorem dX2_firstFault_5 : decode cX2_firstFault 5 = .ok (.aload_n 0, 1) := by decide +kernel
theorem dX2_firstFault_6 : decode cX2_firstFault 6 = .ok (.getfield 15, 3) := by decide +kernel
theorem dX2_firstFault_9 : decode cX2_firstFault 9 = .ok (.if_icmp .ge 28, 3) := by decide +kernel
theorem dX2_firstFault_12 : decode cX2_firstFault 12 = .ok (.iload_n 1, 1) := by decide +kernel
theorem dX2_firstFault_13 : decode cX2_firstFault 13 = .ok (.aload_n 0, 1) := by decide +kernel
theorem dX2_firstFault_14 : decode cX2_firstFault 14 = .ok (.getfield 11, 3) := by decide +kernel
theorem dX2_firstFault_17 : decode cX2_firstFault 17 = .ok (.iload_n 2, 1) := by decide +kernel
theorem dX2_firstFault_18 : decode cX2_firstFault 18 = .ok (.iaload, 1) := by decide +kernel
theorem dX2_firstFault_19 : decode cX2_firstFault 19 = .ok (.invokestatic 19, 3) := by decide +kernel
theorem dX2_firstFault_22 : decode cX2_firstFault 22 = .ok (.istore_n 1, 1) := by decide +kernel
theorem dX2_firstFault_23 : decode cX2_firstFault 23 = .ok (.iload_n 1, 1) := by decide +kernel
theorem dX2_firstFault_24 : decode cX2_firstFault 24 = .ok (.bipush (-6), 2) := by decide +kernel
theorem dX2_firstFault_26 : decode cX2_firstFault 26 = .ok (.if_icmp .ne 5, 3) := by decide +kernel
theorem dX2_firstFault_29 : decode cX2_firstFault 29 = .ok (.iload_n 2, 1) := by decide +kernel
theorem dX2_firstFault_30 : decode cX2_firstFault 30 = .ok (.ireturn, 1) := by decide +kernel
theorem dX2_firstFault_31 : decode cX2_firstFault 31 = .ok (.iinc 2 1, 3) := by decide +kernel
theorem dX2_firstFault_34 : decode cX2_firstFault 34 = .ok (.goto (-30), 3) := by decide +kernel
theorem dX2_firstFault_37 : decode cX2_firstFault 37 = .ok (.iload_n 1, 1) := by decide +kernel
theorem dX2_firstFault_38 : decode cX2_firstFault 38 = .ok (.ifCond .ne 8, 3) := by decide +kernel
theorem dX2_firstFault_41 : decode cX2_firstFault 41 = .ok (.bipush (-6), 2) := by decide +kernel
theorem dX2_firstFault_43 : decode cX2_firstFault 43 = .ok (.goto 7, 3) := by decide +kernel
theorem dX2_firstFault_46 : decode cX2_firstFault 46 = .ok (.aload_n 0, 1) := by decide +kernel
theorem dX2_firstFault_47 : decode cX2_firstFault 47 = .ok (.getfield 15, 3) := by decide +kernel
theorem dX2_firstFault_50 : decode cX2_firstFault 50 = .ok (.ireturn, 1) := by decide +kernel
theorem dX2_follow_0 : decode cX2_follow 0 = .ok (.iload_n 0, 1) := by decide +kernel
theorem dX2_follow_1 : decode cX2_follow 1 = .ok (.tableswitch 125 0 5 #[39, 63, 68, 82, 96, 110], 39) := by decide +kernel
theorem dX2_follow_40 : decode cX2_follow 40 = .ok (.iload_n 1, 1) := by decide +kernel
theorem dX2_follow_41 : decode cX2_follow 41 = .ok (.bipush 33, 2) := by decide +kernel
theorem dX2_follow_43 : decode cX2_follow 43 = .ok (.if_icmp .ne 7, 3) := by decide +kernel
theorem dX2_follow_46 : decode cX2_follow 46 = .ok (.iconst 0, 1) := by decide +kernel
theorem dX2_follow_47 : decode cX2_follow 47 = .ok (.goto 16, 3) := by decide +kernel
theorem dX2_follow_50 : decode cX2_follow 50 = .ok (.iload_n 1, 1) := by decide +kernel
theorem dX2_follow_51 : decode cX2_follow 51 = .ok (.invokestatic 25, 3) := by decide +kernel
theorem dX2_follow_54 : decode cX2_follow 54 = .ok (.ifCond .eq 7, 3) := by decide +kernel
theorem dX2_follow_57 : decode cX2_follow 57 = .ok (.iconst 1, 1) := by decide +kernel
theorem dX2_follow_58 : decode cX2_follow 58 = .ok (.goto 5, 3) := by decide +kernel
theorem dX2_follow_61 : decode cX2_follow 61 = .ok (.bipush (-6), 2) := by decide +kernel
theorem dX2_follow_63 : decode cX2_follow 63 = .ok (.ireturn, 1) := by decide +kernel
theorem dX2_follow_64 : decode cX2_follow 64 = .ok (.iload_n 1, 1) := by decide +kernel
theorem dX2_follow_65 : decode cX2_follow 65 = .ok (.invokestatic 29, 3) := by decide +kernel
theorem dX2_follow_68 : decode cX2_follow 68 = .ok (.ireturn, 1) := by decide +kernel
theorem dX2_follow_69 : decode cX2_follow 69 = .ok (.iload_n 1, 1) := by decide +kernel
theorem dX2_follow_70 : decode cX2_follow 70 = .ok (.invokestatic 33, 3) := by decide +kernel
theorem dX2_follow_73 : decode cX2_follow 73 = .ok (.ifCond .eq 7, 3) := by decide +kernel
theorem dX2_follow_76 : decode cX2_follow 76 = .ok (.iconst 3, 1) := by decide +kernel
theorem dX2_follow_77 : decode cX2_follow 77 = .ok (.goto 5, 3) := by decide +kernel
theorem dX2_follow_80 : decode cX2_follow 80 = .ok (.bipush (-6), 2) := by decide +kernel
theorem dX2_follow_82 : decode cX2_follow 82 = .ok (.ireturn, 1) := by decide +kernel
theorem dX2_follow_83 : decode cX2_follow 83 = .ok (.iload_n 1, 1) := by decide +kernel
theorem dX2_follow_84 : decode cX2_follow 84 = .ok (.invokestatic 36, 3) := by decide +kernel
theorem dX2_follow_87 : decode cX2_follow 87 = .ok (.ifCond .eq 7, 3) := by decide +kernel
theorem dX2_follow_90 : decode cX2_follow 90 = .ok (.iconst 0, 1) := by decide +kernel
theorem dX2_follow_91 : decode cX2_follow 91 = .ok (.goto 5, 3) := by decide +kernel
theorem dX2_follow_94 : decode cX2_follow 94 = .ok (.bipush (-6), 2) := by decide +kernel
theorem dX2_follow_96 : decode cX2_follow 96 = .ok (.ireturn, 1) := by decide +kernel
theorem dX2_follow_97 : decode cX2_follow 97 = .ok (.iload_n 1, 1) := by decide +kernel
theorem dX2_follow_98 : decode cX2_follow 98 = .ok (.invokestatic 33, 3) := by decide +kernel
theorem dX2_follow_101 : decode cX2_follow 101 = .ok (.ifCond .eq 7, 3) := by decide +kernel
theorem dX2_follow_104 : decode cX2_follow 104 = .ok (.iconst 5, 1) := by decide +kernel
theorem dX2_follow_105 : decode cX2_follow 105 = .ok (.goto 5, 3) := by decide +kernel
theorem dX2_follow_108 : decode cX2_follow 108 = .ok (.bipush (-6), 2) := by decide +kernel
theorem dX2_follow_110 : decode cX2_follow 110 = .ok (.ireturn, 1) := by decide +kernel
theorem dX2_follow_111 : decode cX2_follow 111 = .ok (.iload_n 1, 1) := by decide +kernel
theorem dX2_follow_112 : decode cX2_follow 112 = .ok (.invokestatic 36, 3) := by decide +kernel
theorem dX2_follow_115 : decode cX2_follow 115 = .ok (.ifCond .eq 8, 3) := by decide +kernel
theorem dX2_follow_118 : decode cX2_follow 118 = .ok (.bipush 6, 2) := by decide +kernel
theorem dX2_follow_120 : decode cX2_follow 120 = .ok (.goto 5, 3) := by decide +kernel
theorem dX2_follow_123 : decode cX2_follow 123 = .ok (.bipush (-6), 2) := by decide +kernel
theorem dX2_follow_125 : decode cX2_follow 125 = .ok (.ireturn, 1) := by decide +kernel
theorem dX2_follow_126 : decode cX2_follow 126 = .ok (.iload_n 1, 1) := by decide +kernel
theorem dX2_follow_127 : decode cX2_follow 127 = .ok (.invokestatic 25, 3) := by decide +kernel
theorem dX2_follow_130 : decode cX2_follow 130 = .ok (.ifCond .eq 7, 3) := by decide +kernel
theorem dX2_follow_133 : decode cX2_follow 133 = .ok (.iconst 0, 1) := by decide +kernel
theorem dX2_follow_134 : decode cX2_follow 134 = .ok (.goto 5, 3) := by decide +kernel
theorem dX2_follow_137 : decode cX2_follow 137 = .ok (.bipush (-6), 2) := by decide +kernel
theorem dX2_follow_139 : decode cX2_follow 139 = .ok (.ireturn, 1) := by decide +kernel
theorem dX2_followKind_0 : decode cX2_followKind 0 = .ok (.iload_n 0, 1) := by decide +kernel
theorem dX2_followKind_1 : decode cX2_followKind 1 = .ok (.lookupswitch 74 #[(38, 71), (43, 67), (45, 67), (47, 69), (61, 71), (124, 71), (126, 71)], 67) := by decide +kernel
theorem dX2_followKind_68 : decode cX2_followKind 68 = .ok (.iconst 2, 1) := by decide +kernel
theorem dX2_followKind_69 : decode cX2_followKind 69 = .ok (.ireturn, 1) := by decide +kernel
theorem dX2_followKind_70 : decode cX2_followKind 70 = .ok (.iconst 4, 1) := by decide +kernel
theorem dX2_followKind_71 : decode cX2_followKind 71 = .ok (.ireturn, 1) := by decide +kernel
theorem dX2_followKind_72 : decode cX2_followKind 72 = .ok (.bipush 6, 2) := by decide +kernel
theorem dX2_followKind_74 : decode cX2_followKind 74 = .ok (.ireturn, 1) := by decide +kernel
theorem dX2_followKind_75 : decode cX2_followKind 75 = .ok (.bipush (-6), 2) := by decide +kernel
theorem dX2_followKind_77 : decode cX2_followKind 77 = .ok (.ireturn, 1) := by decide +kernel
theorem dX2_isLetter_0 : decode cX2_isLetter 0 = .ok (.iload_n 0, 1) := by decide +kernel
theorem dX2_isLetter_1 : decode cX2_isLetter 1 = .ok (.bipush 65, 2) := by decide +kernel
theorem dX2_isLetter_3 : decode cX2_isLetter 3 = .ok (.isub, 1) := by decide +kernel
theorem dX2_isLetter_4 : decode cX2_isLetter 4 = .ok (.invokestatic 39, 3) := by decide +kernel
theorem dX2_isLetter_7 : decode cX2_isLetter 7 = .ok (.ireturn, 1) := by decide +kernel
theorem dX2_isTens_0 : decode cX2_isTens 0 = .ok (.iload_n 0, 1) := by decide +kernel
theorem dX2_isTens_1 : decode cX2_isTens 1 = .ok (.bipush 48, 2) := by decide +kernel
theorem dX2_isTens_3 : decode cX2_isTens 3 = .ok (.if_icmp .lt 13, 3) := by decide +kernel
theorem dX2_isTens_6 : decode cX2_isTens 6 = .ok (.iload_n 0, 1) := by decide +kernel
theorem dX2_isTens_7 : decode cX2_isTens 7 = .ok (.bipush 52, 2) := by decide +kernel
theorem dX2_isTens_9 : decode cX2_isTens 9 = .ok (.if_icmp .gt 7, 3) := by decide +kernel
theorem dX2_isTens_12 : decode cX2_isTens 12 = .ok (.iconst 1, 1) := by decide +kernel
theorem dX2_isTens_13 : decode cX2_isTens 13 = .ok (.goto 4, 3) := by decide +kernel
theorem dX2_isTens_16 : decode cX2_isTens 16 = .ok (.iconst 0, 1) := by decide +kernel
theorem dX2_isTens_17 : decode cX2_isTens 17 = .ok (.ireturn, 1) := by decide +kernel
theorem dX2_isFigure_0 : decode cX2_isFigure 0 = .ok (.iload_n 0, 1) := by decide +kernel
theorem dX2_isFigure_1 : decode cX2_isFigure 1 = .ok (.bipush 48, 2) := by decide +kernel
theorem dX2_isFigure_3 : decode cX2_isFigure 3 = .ok (.if_icmp .lt 13, 3) := by decide +kernel
theorem dX2_isFigure_6 : decode cX2_isFigure 6 = .ok (.iload_n 0, 1) := by decide +kernel
theorem dX2_isFigure_7 : decode cX2_isFigure 7 = .ok (.bipush 57, 2) := by decide +kernel
theorem dX2_isFigure_9 : decode cX2_isFigure 9 = .ok (.if_icmp .gt 7, 3) := by decide +kernel
theorem dX2_isFigure_12 : decode cX2_isFigure 12 = .ok (.iconst 1, 1) := by decide +kernel
theorem dX2_isFigure_13 : decode cX2_isFigure 13 = .ok (.goto 4, 3) := by decide +kernel
theorem dX2_isFigure_16 : decode cX2_isFigure 16 = .ok (.iconst 0, 1) := by decide +kernel
theorem dX2_isFigure_17 : decode cX2_isFigure 17 = .ok (.ireturn, 1) := by decide +kernel
theorem dX2_read_0 : decode cX2_read 0 = .ok (.aload_n 0, 1) := by decide +kernel
theorem dX2_read_1 : decode cX2_read 1 = .ok (.iload_n 1, 1) := by decide +kernel
theorem dX2_read_2 : decode cX2_read 2 = .ok (.invokevirtual 42, 3) := by decide +kernel
theorem dX2_read_5 : decode cX2_read 5 = .ok (.bipush 33, 2) := by decide +kernel
theorem dX2_read_7 : decode cX2_read 7 = .ok (.if_icmp .ne 14, 3) := by decide +kernel
theorem dX2_read_10 : decode cX2_read 10 = .ok (.aload_n 2, 1) := by decide +kernel
theorem dX2_read_11 : decode cX2_read 11 = .ok (.bipush 33, 2) := by decide +kernel
theorem dX2_read_13 : decode cX2_read 13 = .ok (.iconst 0, 1) := by decide +kernel
theorem dX2_read_14 : decode cX2_read 14 = .ok (.iconst 0, 1) := by decide +kernel
theorem dX2_read_15 : decode cX2_read 15 = .ok (.iconst 0, 1) := by decide +kernel
theorem dX2_read_16 : decode cX2_read 16 = .ok (.invokevirtual 45, 3) := by decide +kernel
theorem dX2_read_19 : decode cX2_read 19 = .ok (.iconst 1, 1) := by decide +kernel
theorem dX2_read_20 : decode cX2_read 20 = .ok (.ireturn, 1) := by decide +kernel
theorem dX2_read_21 : decode cX2_read 21 = .ok (.aload_n 0, 1) := by decide +kernel
theorem dX2_read_22 : decode cX2_read 22 = .ok (.iload_n 1, 1) := by decide +kernel
theorem dX2_read_23 : decode cX2_read 23 = .ok (.invokevirtual 49, 3) := by decide +kernel
theorem dX2_read_26 : decode cX2_read 26 = .ok (.istore_n 3, 1) := by decide +kernel
theorem dX2_read_27 : decode cX2_read 27 = .ok (.aload_n 0, 1) := by decide +kernel
theorem dX2_read_28 : decode cX2_read 28 = .ok (.iload_n 1, 1) := by decide +kernel
theorem dX2_read_29 : decode cX2_read 29 = .ok (.iconst 1, 1) := by decide +kernel
theorem dX2_read_30 : decode cX2_read 30 = .ok (.iadd, 1) := by decide +kernel
theorem dX2_read_31 : decode cX2_read 31 = .ok (.invokevirtual 42, 3) := by decide +kernel
theorem dX2_read_34 : decode cX2_read 34 = .ok (.istore 4, 2) := by decide +kernel
theorem dX2_read_36 : decode cX2_read 36 = .ok (.iload 4, 2) := by decide +kernel
theorem dX2_read_38 : decode cX2_read 38 = .ok (.invokestatic 29, 3) := by decide +kernel
theorem dX2_read_41 : decode cX2_read 41 = .ok (.bipush 6, 2) := by decide +kernel
theorem dX2_read_43 : decode cX2_read 43 = .ok (.if_icmp .ne 20, 3) := by decide +kernel
theorem dX2_read_46 : decode cX2_read 46 = .ok (.aload_n 2, 1) := by decide +kernel
theorem dX2_read_47 : decode cX2_read 47 = .ok (.iload 4, 2) := by decide +kernel
theorem dX2_read_49 : decode cX2_read 49 = .ok (.iload_n 3, 1) := by decide +kernel
theorem dX2_read_50 : decode cX2_read 50 = .ok (.iconst 0, 1) := by decide +kernel
theorem dX2_read_51 : decode cX2_read 51 = .ok (.aload_n 0, 1) := by decide +kernel
theorem dX2_read_52 : decode cX2_read 52 = .ok (.iload_n 1, 1) := by decide +kernel
theorem dX2_read_53 : decode cX2_read 53 = .ok (.iconst 2, 1) := by decide +kernel
theorem dX2_read_54 : decode cX2_read 54 = .ok (.iadd, 1) := by decide +kernel
theorem dX2_read_55 : decode cX2_read 55 = .ok (.invokevirtual 49, 3) := by decide +kernel
theorem dX2_read_58 : decode cX2_read 58 = .ok (.invokevirtual 45, 3) := by decide +kernel
theorem dX2_read_61 : decode cX2_read 61 = .ok (.iconst 3, 1) := by decide +kernel
theorem dX2_read_62 : decode cX2_read 62 = .ok (.ireturn, 1) := by decide +kernel
theorem dX2_read_63 : decode cX2_read 63 = .ok (.bipush 10, 2) := by decide +kernel
theorem dX2_read_65 : decode cX2_read 65 = .ok (.aload_n 0, 1) := by decide +kernel
theorem dX2_read_66 : decode cX2_read 66 = .ok (.iload_n 1, 1) := by decide +kernel
theorem dX2_read_67 : decode cX2_read 67 = .ok (.iconst 2, 1) := by decide +kernel
theorem dX2_read_68 : decode cX2_read 68 = .ok (.iadd, 1) := by decide +kernel
theorem dX2_read_69 : decode cX2_read 69 = .ok (.invokevirtual 42, 3) := by decide +kernel
theorem dX2_read_72 : decode cX2_read 72 = .ok (.bipush 48, 2) := by decide +kernel
theorem dX2_read_74 : decode cX2_read 74 = .ok (.isub, 1) := by decide +kernel
theorem dX2_read_75 : decode cX2_read 75 = .ok (.imul, 1) := by decide +kernel
theorem dX2_read_76 : decode cX2_read 76 = .ok (.aload_n 0, 1) := by decide +kernel
theorem dX2_read_77 : decode cX2_read 77 = .ok (.iload_n 1, 1) := by decide +kernel
theorem dX2_read_78 : decode cX2_read 78 = .ok (.iconst 3, 1) := by decide +kernel
theorem dX2_read_79 : decode cX2_read 79 = .ok (.iadd, 1) := by decide +kernel
theorem dX2_read_80 : decode cX2_read 80 = .ok (.invokevirtual 42, 3) := by decide +kernel
theorem dX2_read_83 : decode cX2_read 83 = .ok (.iadd, 1) := by decide +kernel
theorem dX2_read_84 : decode cX2_read 84 = .ok (.bipush 48, 2) := by decide +kernel
theorem dX2_read_86 : decode cX2_read 86 = .ok (.isub, 1) := by decide +kernel
theorem dX2_read_87 : decode cX2_read 87 = .ok (.istore 5, 2) := by decide +kernel
theorem dX2_read_89 : decode cX2_read 89 = .ok (.iload 4, 2) := by decide +kernel
theorem dX2_read_91 : decode cX2_read 91 = .ok (.bipush 47, 2) := by decide +kernel
theorem dX2_read_93 : decode cX2_read 93 = .ok (.if_icmp .ne 21, 3) := by decide +kernel
theorem dX2_read_96 : decode cX2_read 96 = .ok (.aload_n 2, 1) := by decide +kernel
theorem dX2_read_97 : decode cX2_read 97 = .ok (.iload 4, 2) := by decide +kernel
theorem dX2_read_99 : decode cX2_read 99 = .ok (.iload_n 3, 1) := by decide +kernel
theorem dX2_read_100 : decode cX2_read 100 = .ok (.iload 5, 2) := by decide +kernel
theorem dX2_read_102 : decode cX2_read 102 = .ok (.aload_n 0, 1) := by decide +kernel
theorem dX2_read_103 : decode cX2_read 103 = .ok (.iload_n 1, 1) := by decide +kernel
theorem dX2_read_104 : decode cX2_read 104 = .ok (.iconst 4, 1) := by decide +kernel
theorem dX2_read_105 : decode cX2_read 105 = .ok (.iadd, 1) := by decide +kernel
theorem dX2_read_106 : decode cX2_read 106 = .ok (.invokevirtual 49, 3) := by decide +kernel
theorem dX2_read_109 : decode cX2_read 109 = .ok (.invokevirtual 45, 3) := by decide +kernel
theorem dX2_read_112 : decode cX2_read 112 = .ok (.iconst 5, 1) := by decide +kernel
theorem dX2_read_113 : decode cX2_read 113 = .ok (.ireturn, 1) := by decide +kernel
theorem dX2_read_114 : decode cX2_read 114 = .ok (.aload_n 2, 1) := by decide +kernel
theorem dX2_read_115 : decode cX2_read 115 = .ok (.iload 4, 2) := by decide +kernel
theorem dX2_read_117 : decode cX2_read 117 = .ok (.iload_n 3, 1) := by decide +kernel
theorem dX2_read_118 : decode cX2_read 118 = .ok (.iload 5, 2) := by decide +kernel
theorem dX2_read_120 : decode cX2_read 120 = .ok (.iconst 0, 1) := by decide +kernel
theorem dX2_read_121 : decode cX2_read 121 = .ok (.invokevirtual 45, 3) := by decide +kernel
theorem dX2_read_124 : decode cX2_read 124 = .ok (.iconst 4, 1) := by decide +kernel
theorem dX2_read_125 : decode cX2_read 125 = .ok (.ireturn, 1) := by decide +kernel
theorem dX2_setAt_0 : decode cX2_setAt 0 = .ok (.aload_n 0, 1) := by decide +kernel
theorem dX2_setAt_1 : decode cX2_setAt 1 = .ok (.iload_n 1, 1) := by decide +kernel
theorem dX2_setAt_2 : decode cX2_setAt 2 = .ok (.invokevirtual 42, 3) := by decide +kernel
theorem dX2_setAt_5 : decode cX2_setAt 5 = .ok (.bipush 65, 2) := by decide +kernel
theorem dX2_setAt_7 : decode cX2_setAt 7 = .ok (.isub, 1) := by decide +kernel
theorem dX2_setAt_8 : decode cX2_setAt 8 = .ok (.istore_n 2, 1) := by decide +kernel
theorem dX2_setAt_9 : decode cX2_setAt 9 = .ok (.iload_n 2, 1) := by decide +kernel
theorem dX2_setAt_10 : decode cX2_setAt 10 = .ok (.invokestatic 39, 3) := by decide +kernel
theorem dX2_setAt_13 : decode cX2_setAt 13 = .ok (.ifCond .eq 7, 3) := by decide +kernel
theorem dX2_setAt_16 : decode cX2_setAt 16 = .ok (.iload_n 2, 1) := by decide +kernel
theorem dX2_setAt_17 : decode cX2_setAt 17 = .ok (.goto 4, 3) := by decide +kernel
theorem dX2_setAt_20 : decode cX2_setAt 20 = .ok (.iconst 0, 1) := by decide +kernel
theorem dX2_setAt_21 : decode cX2_setAt 21 = .ok (.ireturn, 1) := by decide +kernel
theorem dX2_sign_0 : decode cX2_sign 0 = .ok (.iload_n 1, 1) := by decide +kernel
theorem dX2_sign_1 : decode cX2_sign 1 = .ok (.ifCond .lt 20, 3) := by decide +kernel
theorem dX2_sign_4 : decode cX2_sign 4 = .ok (.iload_n 1, 1) := by decide +kernel
theorem dX2_sign_5 : decode cX2_sign 5 = .ok (.aload_n 0, 1) := by decide +kernel
theorem dX2_sign_6 : decode cX2_sign 6 = .ok (.getfield 15, 3) := by decide +kernel
theorem dX2_sign_9 : decode cX2_sign 9 = .ok (.if_icmp .ge 12, 3) := by decide +kernel
theorem dX2_sign_12 : decode cX2_sign 12 = .ok (.aload_n 0, 1) := by decide +kernel
theorem dX2_sign_13 : decode cX2_sign 13 = .ok (.getfield 11, 3) := by decide +kernel
theorem dX2_sign_16 : decode cX2_sign 16 = .ok (.iload_n 1, 1) := by decide +kernel
theorem dX2_sign_17 : decode cX2_sign 17 = .ok (.iaload, 1) := by decide +kernel
theorem dX2_sign_18 : decode cX2_sign 18 = .ok (.goto 4, 3) := by decide +kernel
theorem dX2_sign_21 : decode cX2_sign 21 = .ok (.iconst 0, 1) := by decide +kernel
theorem dX2_sign_22 : decode cX2_sign 22 = .ok (.ireturn, 1) := by decide +kernel
theorem dX3_init_0 : decode cX3_init 0 = .ok (.aload_n 0, 1) := by decide +kernel
theorem dX3_init_1 : decode cX3_init 1 = .ok (.invokespecial 5, 3) := by decide +kernel
theorem dX3_init_4 : decode cX3_init 4 = .ok (.aload_n 0, 1) := by decide +kernel
theorem dX3_init_5 : decode cX3_init 5 = .ok (.sipush 157, 3) := by decide +kernel
theorem dX3_init_8 : decode cX3_init 8 = .ok (.newarray .long, 2) := by decide +kernel
theorem dX3_init_10 : decode cX3_init 10 = .ok (.putfield 11, 3) := by decide +kernel
theorem dX3_init_13 : decode cX3_init 13 = .ok (.aload_n 0, 1) := by decide +kernel
theorem dX3_init_14 : decode cX3_init 14 = .ok (.invokevirtual 15, 3) := by decide +kernel
theorem dX3_init_17 : decode cX3_init 17 = .ok (.return_, 1) := by decide +kernel
theorem dX3_fill_0 : decode cX3_fill 0 = .ok (.iconst 0, 1) := by decide +kernel
theorem dX3_fill_1 : decode cX3_fill 1 = .ok (.istore_n 1, 1) := by decide +kernel
theorem dX3_fill_2 : decode cX3_fill 2 = .ok (.iload_n 1, 1) := by decide +kernel
theorem dX3_fill_3 : decode cX3_fill 3 = .ok (.sipush 157, 3) := by decide +kernel
theorem dX3_fill_6 : decode cX3_fill 6 = .ok (.if_icmp .ge 18, 3) := by decide +kernel
theorem dX3_fill_9 : decode cX3_fill 9 = .ok (.aload_n 0, 1) := by decide +kernel
theorem dX3_fill_10 : decode cX3_fill 10 = .ok (.getfield 11, 3) := by decide +kernel
theorem dX3_fill_13 : decode cX3_fill 13 = .ok (.iload_n 1, 1) := by decide +kernel
theorem dX3_fill_14 : decode cX3_fill 14 = .ok (.ldc2_w 18, 3) := by decide +kernel
theorem dX3_fill_17 : decode cX3_fill 17 = .ok (.lastore, 1) := by decide +kernel
theorem dX3_fill_18 : decode cX3_fill 18 = .ok (.iinc 1 1, 3) := by decide +kernel
theorem dX3_fill_21 : decode cX3_fill 21 = .ok (.goto (-19), 3) := by decide +kernel
theorem dX3_fill_24 : decode cX3_fill 24 = .ok (.aload_n 0, 1) := by decide +kernel
theorem dX3_fill_25 : decode cX3_fill 25 = .ok (.getfield 11, 3) := by decide +kernel
theorem dX3_fill_28 : decode cX3_fill 28 = .ok (.sipush 156, 3) := by decide +kernel
theorem dX3_fill_31 : decode cX3_fill 31 = .ok (.ldc2_w 20, 3) := by decide +kernel
theorem dX3_fill_34 : decode cX3_fill 34 = .ok (.lastore, 1) := by decide +kernel
theorem dX3_fill_35 : decode cX3_fill 35 = .ok (.return_, 1) := by decide +kernel
theorem dX3_clear_0 : decode cX3_clear 0 = .ok (.aload_n 0, 1) := by decide +kernel
theorem dX3_clear_1 : decode cX3_clear 1 = .ok (.iconst 0, 1) := by decide +kernel
theorem dX3_clear_2 : decode cX3_clear 2 = .ok (.putfield 22, 3) := by decide +kernel
theorem dX3_clear_5 : decode cX3_clear 5 = .ok (.aload_n 0, 1) := by decide +kernel
theorem dX3_clear_6 : decode cX3_clear 6 = .ok (.invokevirtual 15, 3) := by decide +kernel
theorem dX3_clear_9 : decode cX3_clear 9 = .ok (.return_, 1) := by decide +kernel
theorem dX3_copy_0 : decode cX3_copy 0 = .ok (.aload_n 0, 1) := by decide +kernel
theorem dX3_copy_1 : decode cX3_copy 1 = .ok (.aload_n 1, 1) := by decide +kernel
theorem dX3_copy_2 : decode cX3_copy 2 = .ok (.getfield 22, 3) := by decide +kernel
theorem dX3_copy_5 : decode cX3_copy 5 = .ok (.putfield 22, 3) := by decide +kernel
theorem dX3_copy_8 : decode cX3_copy 8 = .ok (.aload_n 1, 1) := by decide +kernel
theorem dX3_copy_9 : decode cX3_copy 9 = .ok (.getfield 11, 3) := by decide +kernel
theorem dX3_copy_12 : decode cX3_copy 12 = .ok (.iconst 0, 1) := by decide +kernel
theorem dX3_copy_13 : decode cX3_copy 13 = .ok (.aload_n 0, 1) := by decide +kernel
theorem dX3_copy_14 : decode cX3_copy 14 = .ok (.getfield 11, 3) := by decide +kernel
theorem dX3_copy_17 : decode cX3_copy 17 = .ok (.iconst 0, 1) := by decide +kernel
theorem dX3_copy_18 : decode cX3_copy 18 = .ok (.sipush 157, 3) := by decide +kernel
theorem dX3_copy_21 : decode cX3_copy 21 = .ok (.invokestatic 26, 3) := by decide +kernel
theorem dX3_copy_24 : decode cX3_copy 24 = .ok (.return_, 1) := by decide +kernel
theorem dX3_add_0 : decode cX3_add 0 = .ok (.aload_n 0, 1) := by decide +kernel
theorem dX3_add_1 : decode cX3_add 1 = .ok (.getfield 22, 3) := by decide +kernel
theorem dX3_add_4 : decode cX3_add 4 = .ok (.bipush 8, 2) := by decide +kernel
theorem dX3_add_6 : decode cX3_add 6 = .ok (.if_icmp .lt 5, 3) := by decide +kernel
theorem dX3_add_9 : decode cX3_add 9 = .ok (.iconst 0, 1) := by decide +kernel
theorem dX3_add_10 : decode cX3_add 10 = .ok (.ireturn, 1) := by decide +kernel
theorem dX3_add_11 : decode cX3_add 11 = .ok (.aload_n 0, 1) := by decide +kernel
theorem dX3_add_12 : decode cX3_add 12 = .ok (.dup, 1) := by decide +kernel
theorem dX3_add_13 : decode cX3_add 13 = .ok (.getfield 22, 3) := by decide +kernel
theorem dX3_add_16 : decode cX3_add 16 = .ok (.iconst 1, 1) := by decide +kernel
theorem dX3_add_17 : decode cX3_add 17 = .ok (.iadd, 1) := by decide +kernel
theorem dX3_add_18 : decode cX3_add 18 = .ok (.putfield 22, 3) := by decide +kernel
theorem dX3_add_21 : decode cX3_add 21 = .ok (.iconst 0, 1) := by decide +kernel
theorem dX3_add_22 : decode cX3_add 22 = .ok (.istore_n 3, 1) := by decide +kernel
theorem dX3_add_23 : decode cX3_add 23 = .ok (.iload_n 3, 1) := by decide +kernel
theorem dX3_add_24 : decode cX3_add 24 = .ok (.sipush 10000, 3) := by decide +kernel
theorem dX3_add_27 : decode cX3_add 27 = .ok (.if_icmp .ge 40, 3) := by decide +kernel
theorem dX3_add_30 : decode cX3_add 30 = .ok (.iload_n 3, 1) := by decide +kernel
theorem dX3_add_31 : decode cX3_add 31 = .ok (.iload_n 1, 1) := by decide +kernel
theorem dX3_add_32 : decode cX3_add 32 = .ok (.iload_n 2, 1) := by decide +kernel
theorem dX3_add_33 : decode cX3_add 33 = .ok (.invokestatic 32, 3) := by decide +kernel
theorem dX3_add_36 : decode cX3_add 36 = .ok (.ifCond .ne 25, 3) := by decide +kernel
theorem dX3_add_39 : decode cX3_add 39 = .ok (.aload_n 0, 1) := by decide +kernel
theorem dX3_add_40 : decode cX3_add 40 = .ok (.getfield 11, 3) := by decide +kernel
theorem dX3_add_43 : decode cX3_add 43 = .ok (.iload_n 3, 1) := by decide +kernel
theorem dX3_add_44 : decode cX3_add 44 = .ok (.bipush 64, 2) := by decide +kernel
theorem dX3_add_46 : decode cX3_add 46 = .ok (.idiv, 1) := by decide +kernel
theorem dX3_add_47 : decode cX3_add 47 = .ok (.dup2, 1) := by decide +kernel
theorem dX3_add_48 : decode cX3_add 48 = .ok (.laload, 1) := by decide +kernel
theorem dX3_add_49 : decode cX3_add 49 = .ok (.lconst 1, 1) := by decide +kernel
theorem dX3_add_50 : decode cX3_add 50 = .ok (.iload_n 3, 1) := by decide +kernel
theorem dX3_add_51 : decode cX3_add 51 = .ok (.bipush 64, 2) := by decide +kernel
theorem dX3_add_53 : decode cX3_add 53 = .ok (.irem, 1) := by decide +kernel
theorem dX3_add_54 : decode cX3_add 54 = .ok (.lshl, 1) := by decide +kernel
theorem dX3_add_55 : decode cX3_add 55 = .ok (.ldc2_w 18, 3) := by decide +kernel
theorem dX3_add_58 : decode cX3_add 58 = .ok (.lxor, 1) := by decide +kernel
theorem dX3_add_59 : decode cX3_add 59 = .ok (.land, 1) := by decide +kernel
theorem dX3_add_60 : decode cX3_add 60 = .ok (.lastore, 1) := by decide +kernel
theorem dX3_add_61 : decode cX3_add 61 = .ok (.iinc 3 1, 3) := by decide +kernel
theorem dX3_add_64 : decode cX3_add 64 = .ok (.goto (-41), 3) := by decide +kernel
theorem dX3_add_67 : decode cX3_add 67 = .ok (.iconst 1, 1) := by decide +kernel
theorem dX3_add_68 : decode cX3_add 68 = .ok (.ireturn, 1) := by decide +kernel
theorem dX3_countSeeds_0 : decode cX3_countSeeds 0 = .ok (.iconst 0, 1) := by decide +kernel
theorem dX3_countSeeds_1 : decode cX3_countSeeds 1 = .ok (.istore_n 1, 1) := by decide +kernel
theorem dX3_countSeeds_2 : decode cX3_countSeeds 2 = .ok (.iconst 0, 1) := by decide +kernel
theorem dX3_countSeeds_3 : decode cX3_countSeeds 3 = .ok (.istore_n 2, 1) := by decide +kernel
theorem dX3_countSeeds_4 : decode cX3_countSeeds 4 = .ok (.iload_n 2, 1) := by decide +kernel
theorem dX3_countSeeds_5 : decode cX3_countSeeds 5 = .ok (.sipush 157, 3) := by decide +kernel
theorem dX3_countSeeds_8 : decode cX3_countSeeds 8 = .ok (.if_icmp .ge 21, 3) := by decide +kernel
theorem dX3_countSeeds_11 : decode cX3_countSeeds 11 = .ok (.iload_n 1, 1) := by decide +kernel
theorem dX3_countSeeds_12 : decode cX3_countSeeds 12 = .ok (.aload_n 0, 1) := by decide +kernel
theorem dX3_countSeeds_13 : decode cX3_countSeeds 13 = .ok (.getfield 11, 3) := by decide +kernel
theorem dX3_countSeeds_16 : decode cX3_countSeeds 16 = .ok (.iload_n 2, 1) := by decide +kernel
theorem dX3_countSeeds_17 : decode cX3_countSeeds 17 = .ok (.laload, 1) := by decide +kernel
theorem dX3_countSeeds_18 : decode cX3_countSeeds 18 = .ok (.invokestatic 36, 3) := by decide +kernel
theorem dX3_countSeeds_21 : decode cX3_countSeeds 21 = .ok (.iadd, 1) := by decide +kernel
theorem dX3_countSeeds_22 : decode cX3_countSeeds 22 = .ok (.istore_n 1, 1) := by decide +kernel
theorem dX3_countSeeds_23 : decode cX3_countSeeds 23 = .ok (.iinc 2 1, 3) := by decide +kernel
theorem dX3_countSeeds_26 : decode cX3_countSeeds 26 = .ok (.goto (-22), 3) := by decide +kernel
theorem dX3_countSeeds_29 : decode cX3_countSeeds 29 = .ok (.iload_n 1, 1) := by decide +kernel
theorem dX3_countSeeds_30 : decode cX3_countSeeds 30 = .ok (.ireturn, 1) := by decide +kernel
theorem dX3_pickSeed_0 : decode cX3_pickSeed 0 = .ok (.iload_n 1, 1) := by decide +kernel
theorem dX3_pickSeed_1 : decode cX3_pickSeed 1 = .ok (.ifCond .ge 6, 3) := by decide +kernel
theorem dX3_pickSeed_4 : decode cX3_pickSeed 4 = .ok (.bipush (-6), 2) := by decide +kernel
theorem dX3_pickSeed_6 : decode cX3_pickSeed 6 = .ok (.ireturn, 1) := by decide +kernel
theorem dX3_pickSeed_7 : decode cX3_pickSeed 7 = .ok (.iload_n 1, 1) := by decide +kernel
theorem dX3_pickSeed_8 : decode cX3_pickSeed 8 = .ok (.istore_n 2, 1) := by decide +kernel
theorem dX3_pickSeed_9 : decode cX3_pickSeed 9 = .ok (.iconst 0, 1) := by decide +kernel
theorem dX3_pickSeed_10 : decode cX3_pickSeed 10 = .ok (.istore_n 3, 1) := by decide +kernel
theorem dX3_pickSeed_11 : decode cX3_pickSeed 11 = .ok (.iload_n 3, 1) := by decide +kernel
theorem dX3_pickSeed_12 : decode cX3_pickSeed 12 = .ok (.sipush 157, 3) := by decide +kernel
theorem dX3_pickSeed_15 : decode cX3_pickSeed 15 = .ok (.if_icmp .ge 47, 3) := by decide +kernel
theorem dX3_pickSeed_18 : decode cX3_pickSeed 18 = .ok (.aload_n 0, 1) := by decide +kernel
theorem dX3_pickSeed_19 : decode cX3_pickSeed 19 = .ok (.getfield 11, 3) := by decide +kernel
theorem dX3_pickSeed_22 : decode cX3_pickSeed 22 = .ok (.iload_n 3, 1) := by decide +kernel
theorem dX3_pickSeed_23 : decode cX3_pickSeed 23 = .ok (.laload, 1) := by decide +kernel
theorem dX3_pickSeed_24 : decode cX3_pickSeed 24 = .ok (.invokestatic 36, 3) := by decide +kernel
theorem dX3_pickSeed_27 : decode cX3_pickSeed 27 = .ok (.istore 4, 2) := by decide +kernel
theorem dX3_pickSeed_29 : decode cX3_pickSeed 29 = .ok (.iload_n 2, 1) := by decide +kernel
theorem dX3_pickSeed_30 : decode cX3_pickSeed 30 = .ok (.iload 4, 2) := by decide +kernel
theorem dX3_pickSeed_32 : decode cX3_pickSeed 32 = .ok (.if_icmp .ge 19, 3) := by decide +kernel
theorem dX3_pickSeed_35 : decode cX3_pickSeed 35 = .ok (.bipush 64, 2) := by decide +kernel
theorem dX3_pickSeed_37 : decode cX3_pickSeed 37 = .ok (.iload_n 3, 1) := by decide +kernel
theorem dX3_pickSeed_38 : decode cX3_pickSeed 38 = .ok (.imul, 1) := by decide +kernel
theorem dX3_pickSeed_39 : decode cX3_pickSeed 39 = .ok (.aload_n 0, 1) := by decide +kernel
theorem dX3_pickSeed_40 : decode cX3_pickSeed 40 = .ok (.getfield 11, 3) := by decide +kernel
theorem dX3_pickSeed_43 : decode cX3_pickSeed 43 = .ok (.iload_n 3, 1) := by decide +kernel
theorem dX3_pickSeed_44 : decode cX3_pickSeed 44 = .ok (.laload, 1) := by decide +kernel
theorem dX3_pickSeed_45 : decode cX3_pickSeed 45 = .ok (.iload_n 2, 1) := by decide +kernel
theorem dX3_pickSeed_46 : decode cX3_pickSeed 46 = .ok (.invokestatic 42, 3) := by decide +kernel
theorem dX3_pickSeed_49 : decode cX3_pickSeed 49 = .ok (.iadd, 1) := by decide +kernel
theorem dX3_pickSeed_50 : decode cX3_pickSeed 50 = .ok (.ireturn, 1) := by decide +kernel
theorem dX3_pickSeed_51 : decode cX3_pickSeed 51 = .ok (.iload_n 2, 1) := by decide +kernel
theorem dX3_pickSeed_52 : decode cX3_pickSeed 52 = .ok (.iload 4, 2) := by decide +kernel
theorem dX3_pickSeed_54 : decode cX3_pickSeed 54 = .ok (.isub, 1) := by decide +kernel
theorem dX3_pickSeed_55 : decode cX3_pickSeed 55 = .ok (.istore_n 2, 1) := by decide +kernel
theorem dX3_pickSeed_56 : decode cX3_pickSeed 56 = .ok (.iinc 3 1, 3) := by decide +kernel
theorem dX3_pickSeed_59 : decode cX3_pickSeed 59 = .ok (.goto (-48), 3) := by decide +kernel
theorem dX3_pickSeed_62 : decode cX3_pickSeed 62 = .ok (.bipush (-6), 2) := by decide +kernel
theorem dX3_pickSeed_64 : decode cX3_pickSeed 64 = .ok (.ireturn, 1) := by decide +kernel
theorem dX3_pickBit_0 : decode cX3_pickBit 0 = .ok (.iload_n 2, 1) := by decide +kernel
theorem dX3_pickBit_1 : decode cX3_pickBit 1 = .ok (.istore_n 3, 1) := by decide +kernel
theorem dX3_pickBit_2 : decode cX3_pickBit 2 = .ok (.iconst 0, 1) := by decide +kernel
theorem dX3_pickBit_3 : decode cX3_pickBit 3 = .ok (.istore 4, 2) := by decide +kernel
theorem dX3_pickBit_5 : decode cX3_pickBit 5 = .ok (.iload 4, 2) := by decide +kernel
theorem dX3_pickBit_7 : decode cX3_pickBit 7 = .ok (.bipush 64, 2) := by decide +kernel
theorem dX3_pickBit_9 : decode cX3_pickBit 9 = .ok (.if_icmp .ge 30, 3) := by decide +kernel
theorem dX3_pickBit_12 : decode cX3_pickBit 12 = .ok (.lload_n 0, 1) := by decide +kernel
theorem dX3_pickBit_13 : decode cX3_pickBit 13 = .ok (.iload 4, 2) := by decide +kernel
theorem dX3_pickBit_15 : decode cX3_pickBit 15 = .ok (.lushr, 1) := by decide +kernel
theorem dX3_pickBit_16 : decode cX3_pickBit 16 = .ok (.lconst 1, 1) := by decide +kernel
theorem dX3_pickBit_17 : decode cX3_pickBit 17 = .ok (.land, 1) := by decide +kernel
theorem dX3_pickBit_18 : decode cX3_pickBit 18 = .ok (.lconst 0, 1) := by decide +kernel
theorem dX3_pickBit_19 : decode cX3_pickBit 19 = .ok (.lcmp, 1) := by decide +kernel
theorem dX3_pickBit_20 : decode cX3_pickBit 20 = .ok (.ifCond .eq 13, 3) := by decide +kernel
theorem dX3_pickBit_23 : decode cX3_pickBit 23 = .ok (.iload_n 3, 1) := by decide +kernel
theorem dX3_pickBit_24 : decode cX3_pickBit 24 = .ok (.ifCond .ne 6, 3) := by decide +kernel
theorem dX3_pickBit_27 : decode cX3_pickBit 27 = .ok (.iload 4, 2) := by decide +kernel
theorem dX3_pickBit_29 : decode cX3_pickBit 29 = .ok (.ireturn, 1) := by decide +kernel
theorem dX3_pickBit_30 : decode cX3_pickBit 30 = .ok (.iinc 3 (-1), 3) := by decide +kernel
theorem dX3_pickBit_33 : decode cX3_pickBit 33 = .ok (.iinc 4 1, 3) := by decide +kernel
theorem dX3_pickBit_36 : decode cX3_pickBit 36 = .ok (.goto (-31), 3) := by decide +kernel
theorem dX3_pickBit_39 : decode cX3_pickBit 39 = .ok (.iconst 0, 1) := by decide +kernel
theorem dX3_pickBit_40 : decode cX3_pickBit 40 = .ok (.ireturn, 1) := by decide +kernel
theorem dX4_init_0 : decode cX4_init 0 = .ok (.aload_n 0, 1) := by decide +kernel
theorem dX4_init_1 : decode cX4_init 1 = .ok (.invokespecial 3, 3) := by decide +kernel
theorem dX4_init_4 : decode cX4_init 4 = .ok (.aload_n 0, 1) := by decide +kernel
theorem dX4_init_5 : decode cX4_init 5 = .ok (.bipush 50, 2) := by decide +kernel
theorem dX4_init_7 : decode cX4_init 7 = .ok (.newarray .int, 2) := by decide +kernel
theorem dX4_init_9 : decode cX4_init 9 = .ok (.putfield 9, 3) := by decide +kernel
theorem dX4_init_12 : decode cX4_init 12 = .ok (.aload_n 0, 1) := by decide +kernel
theorem dX4_init_13 : decode cX4_init 13 = .ok (.bipush 50, 2) := by decide +kernel
theorem dX4_init_15 : decode cX4_init 15 = .ok (.newarray .int, 2) := by decide +kernel
theorem dX4_init_17 : decode cX4_init 17 = .ok (.putfield 15, 3) := by decide +kernel
theorem dX4_init_20 : decode cX4_init 20 = .ok (.aload_n 0, 1) := by decide +kernel
theorem dX4_init_21 : decode cX4_init 21 = .ok (.bipush 50, 2) := by decide +kernel
theorem dX4_init_23 : decode cX4_init 23 = .ok (.newarray .int, 2) := by decide +kernel
theorem dX4_init_25 : decode cX4_init 25 = .ok (.putfield 18, 3) := by decide +kernel
theorem dX4_init_28 : decode cX4_init 28 = .ok (.aload_n 0, 1) := by decide +kernel
theorem dX4_init_29 : decode cX4_init 29 = .ok (.bipush 50, 2) := by decide +kernel
theorem dX4_init_31 : decode cX4_init 31 = .ok (.newarray .long, 2) := by decide +kernel
theorem dX4_init_33 : decode cX4_init 33 = .ok (.putfield 21, 3) := by decide +kernel
theorem dX4_init_36 : decode cX4_init 36 = .ok (.aload_n 0, 1) := by decide +kernel
theorem dX4_init_37 : decode cX4_init 37 = .ok (.bipush 50, 2) := by decide +kernel
theorem dX4_init_39 : decode cX4_init 39 = .ok (.newarray .int, 2) := by decide +kernel
theorem dX4_init_41 : decode cX4_init 41 = .ok (.putfield 25, 3) := by decide +kernel
theorem dX4_init_44 : decode cX4_init 44 = .ok (.aload_n 0, 1) := by decide +kernel
theorem dX4_init_45 : decode cX4_init 45 = .ok (.bipush 50, 2) := by decide +kernel
theorem dX4_init_47 : decode cX4_init 47 = .ok (.newarray .int, 2) := by decide +kernel
theorem dX4_init_49 : decode cX4_init 49 = .ok (.putfield 28, 3) := by decide +kernel
theorem dX4_init_52 : decode cX4_init 52 = .ok (.aload_n 0, 1) := by decide +kernel
theorem dX4_init_53 : decode cX4_init 53 = .ok (.bipush 50, 2) := by decide +kernel
theorem dX4_init_55 : decode cX4_init 55 = .ok (.newarray .int, 2) := by decide +kernel
theorem dX4_init_57 : decode cX4_init 57 = .ok (.putfield 31, 3) := by decide +kernel
theorem dX4_init_60 : decode cX4_init 60 = .ok (.aload_n 0, 1) := by decide +kernel
theorem dX4_init_61 : decode cX4_init 61 = .ok (.bipush (-6), 2) := by decide +kernel
theorem dX4_init_63 : decode cX4_init 63 = .ok (.putfield 34, 3) := by decide +kernel
theorem dX4_init_66 : decode cX4_init 66 = .ok (.aload_n 0, 1) := by decide +kernel
theorem dX4_init_67 : decode cX4_init 67 = .ok (.bipush 50, 2) := by decide +kernel
theorem dX4_init_69 : decode cX4_init 69 = .ok (.newarray .int, 2) := by decide +kernel
theorem dX4_init_71 : decode cX4_init 71 = .ok (.putfield 38, 3) := by decide +kernel
theorem dX4_init_74 : decode cX4_init 74 = .ok (.return_, 1) := by decide +kernel
theorem dX4_grow_0 : decode cX4_grow 0 = .ok (.aload_n 0, 1) := by decide +kernel
theorem dX4_grow_1 : decode cX4_grow 1 = .ok (.iload_n 3, 1) := by decide +kernel
theorem dX4_grow_2 : decode cX4_grow 2 = .ok (.invokevirtual 41, 3) := by decide +kernel
theorem dX4_grow_5 : decode cX4_grow 5 = .ok (.iconst 0, 1) := by decide +kernel
theorem dX4_grow_6 : decode cX4_grow 6 = .ok (.istore 4, 2) := by decide +kernel
theorem dX4_grow_8 : decode cX4_grow 8 = .ok (.iconst 0, 1) := by decide +kernel
theorem dX4_grow_9 : decode cX4_grow 9 = .ok (.istore 5, 2) := by decide +kernel
theorem dX4_grow_11 : decode cX4_grow 11 = .ok (.iload 5, 2) := by decide +kernel
theorem dX4_grow_13 : decode cX4_grow 13 = .ok (.bipush 50, 2) := by decide +kernel
theorem dX4_grow_15 : decode cX4_grow 15 = .ok (.if_icmp .ge 140, 3) := by decide +kernel
theorem dX4_grow_18 : decode cX4_grow 18 = .ok (.aload_n 0, 1) := by decide +kernel
theorem dX4_grow_19 : decode cX4_grow 19 = .ok (.getfield 21, 3) := by decide +kernel
theorem dX4_grow_22 : decode cX4_grow 22 = .ok (.iload 5, 2) := by decide +kernel
theorem dX4_grow_24 : decode cX4_grow 24 = .ok (.lconst 0, 1) := by decide +kernel
theorem dX4_grow_25 : decode cX4_grow 25 = .ok (.lastore, 1) := by decide +kernel
theorem dX4_grow_26 : decode cX4_grow 26 = .ok (.lload_n 1, 1) := by decide +kernel
theorem dX4_grow_27 : decode cX4_grow 27 = .ok (.iload 5, 2) := by decide +kernel
theorem dX4_grow_29 : decode cX4_grow 29 = .ok (.invokestatic 45, 3) := by decide +kernel
theorem dX4_grow_32 : decode cX4_grow 32 = .ok (.ifCond .ne 6, 3) := by decide +kernel
theorem dX4_grow_35 : decode cX4_grow 35 = .ok (.goto 114, 3) := by decide +kernel
theorem dX4_grow_38 : decode cX4_grow 38 = .ok (.aload_n 0, 1) := by decide +kernel
theorem dX4_grow_39 : decode cX4_grow 39 = .ok (.getfield 9, 3) := by decide +kernel
theorem dX4_grow_42 : decode cX4_grow 42 = .ok (.iload 5, 2) := by decide +kernel
theorem dX4_grow_44 : decode cX4_grow 44 = .ok (.bipush (-6), 2) := by decide +kernel
theorem dX4_grow_46 : decode cX4_grow 46 = .ok (.iastore, 1) := by decide +kernel
theorem dX4_grow_47 : decode cX4_grow 47 = .ok (.aload_n 0, 1) := by decide +kernel
theorem dX4_grow_48 : decode cX4_grow 48 = .ok (.getfield 15, 3) := by decide +kernel
theorem dX4_grow_51 : decode cX4_grow 51 = .ok (.iload 5, 2) := by decide +kernel
theorem dX4_grow_53 : decode cX4_grow 53 = .ok (.bipush (-6), 2) := by decide +kernel
theorem dX4_grow_55 : decode cX4_grow 55 = .ok (.iastore, 1) := by decide +kernel
theorem dX4_grow_56 : decode cX4_grow 56 = .ok (.iload 4, 2) := by decide +kernel
theorem dX4_grow_58 : decode cX4_grow 58 = .ok (.ifCond .le 58, 3) := by decide +kernel
theorem dX4_grow_61 : decode cX4_grow 61 = .ok (.aload_n 0, 1) := by decide +kernel
theorem dX4_grow_62 : decode cX4_grow 62 = .ok (.getfield 31, 3) := by decide +kernel
theorem dX4_grow_65 : decode cX4_grow 65 = .ok (.aload_n 0, 1) := by decide +kernel
theorem dX4_grow_66 : decode cX4_grow 66 = .ok (.getfield 38, 3) := by decide +kernel
theorem dX4_grow_69 : decode cX4_grow 69 = .ok (.iload 4, 2) := by decide +kernel
theorem dX4_grow_71 : decode cX4_grow 71 = .ok (.iconst 1, 1) := by decide +kernel
theorem dX4_grow_72 : decode cX4_grow 72 = .ok (.isub, 1) := by decide +kernel
theorem dX4_grow_73 : decode cX4_grow 73 = .ok (.iaload, 1) := by decide +kernel
theorem dX4_grow_74 : decode cX4_grow 74 = .ok (.iaload, 1) := by decide +kernel
theorem dX4_grow_75 : decode cX4_grow 75 = .ok (.aload_n 0, 1) := by decide +kernel
theorem dX4_grow_76 : decode cX4_grow 76 = .ok (.getfield 31, 3) := by decide +kernel
theorem dX4_grow_79 : decode cX4_grow 79 = .ok (.iload 5, 2) := by decide +kernel
theorem dX4_grow_81 : decode cX4_grow 81 = .ok (.iaload, 1) := by decide +kernel
theorem dX4_grow_82 : decode cX4_grow 82 = .ok (.if_icmp .ge 34, 3) := by decide +kernel
theorem dX4_grow_85 : decode cX4_grow 85 = .ok (.iinc 4 (-1), 3) := by decide +kernel
theorem dX4_grow_88 : decode cX4_grow 88 = .ok (.aload_n 0, 1) := by decide +kernel
theorem dX4_grow_89 : decode cX4_grow 89 = .ok (.getfield 9, 3) := by decide +kernel
theorem dX4_grow_92 : decode cX4_grow 92 = .ok (.iload 5, 2) := by decide +kernel
theorem dX4_grow_94 : decode cX4_grow 94 = .ok (.aload_n 0, 1) := by decide +kernel
theorem dX4_grow_95 : decode cX4_grow 95 = .ok (.getfield 38, 3) := by decide +kernel
theorem dX4_grow_98 : decode cX4_grow 98 = .ok (.iload 4, 2) := by decide +kernel
theorem dX4_grow_100 : decode cX4_grow 100 = .ok (.iaload, 1) := by decide +kernel
theorem dX4_grow_101 : decode cX4_grow 101 = .ok (.iastore, 1) := by decide +kernel
theorem dX4_grow_102 : decode cX4_grow 102 = .ok (.aload_n 0, 1) := by decide +kernel
theorem dX4_grow_103 : decode cX4_grow 103 = .ok (.aload_n 0, 1) := by decide +kernel
theorem dX4_grow_104 : decode cX4_grow 104 = .ok (.getfield 9, 3) := by decide +kernel
theorem dX4_grow_107 : decode cX4_grow 107 = .ok (.iload 5, 2) := by decide +kernel
theorem dX4_grow_109 : decode cX4_grow 109 = .ok (.iaload, 1) := by decide +kernel
theorem dX4_grow_110 : decode cX4_grow 110 = .ok (.invokevirtual 49, 3) := by decide +kernel
theorem dX4_grow_113 : decode cX4_grow 113 = .ok (.goto (-57), 3) := by decide +kernel
theorem dX4_grow_116 : decode cX4_grow 116 = .ok (.iload 4, 2) := by decide +kernel
theorem dX4_grow_118 : decode cX4_grow 118 = .ok (.ifCond .le 19, 3) := by decide +kernel
theorem dX4_grow_121 : decode cX4_grow 121 = .ok (.aload_n 0, 1) := by decide +kernel
theorem dX4_grow_122 : decode cX4_grow 122 = .ok (.getfield 15, 3) := by decide +kernel
theorem dX4_grow_125 : decode cX4_grow 125 = .ok (.aload_n 0, 1) := by decide +kernel
theorem dX4_grow_126 : decode cX4_grow 126 = .ok (.getfield 38, 3) := by decide +kernel
theorem dX4_grow_129 : decode cX4_grow 129 = .ok (.iload 4, 2) := by decide +kernel
theorem dX4_grow_131 : decode cX4_grow 131 = .ok (.iconst 1, 1) := by decide +kernel
theorem dX4_grow_132 : decode cX4_grow 132 = .ok (.isub, 1) := by decide +kernel
theorem dX4_grow_133 : decode cX4_grow 133 = .ok (.iaload, 1) := by decide +kernel
theorem dX4_grow_134 : decode cX4_grow 134 = .ok (.iload 5, 2) := by decide +kernel
theorem dX4_grow_136 : decode cX4_grow 136 = .ok (.iastore, 1) := by decide +kernel
theorem dX4_grow_137 : decode cX4_grow 137 = .ok (.aload_n 0, 1) := by decide +kernel
theorem dX4_grow_138 : decode cX4_grow 138 = .ok (.getfield 38, 3) := by decide +kernel
theorem dX4_grow_141 : decode cX4_grow 141 = .ok (.iload 4, 2) := by decide +kernel
theorem dX4_grow_143 : decode cX4_grow 143 = .ok (.iload 5, 2) := by decide +kernel
theorem dX4_grow_145 : decode cX4_grow 145 = .ok (.iastore, 1) := by decide +kernel
theorem dX4_grow_146 : decode cX4_grow 146 = .ok (.iinc 4 1, 3) := by decide +kernel
theorem dX4_grow_149 : decode cX4_grow 149 = .ok (.iinc 5 1, 3) := by decide +kernel
theorem dX4_grow_152 : decode cX4_grow 152 = .ok (.goto (-141), 3) := by decide +kernel
theorem dX4_grow_155 : decode cX4_grow 155 = .ok (.aload_n 0, 1) := by decide +kernel
theorem dX4_grow_156 : decode cX4_grow 156 = .ok (.bipush (-6), 2) := by decide +kernel
theorem dX4_grow_158 : decode cX4_grow 158 = .ok (.putfield 52, 3) := by decide +kernel
theorem dX4_grow_161 : decode cX4_grow 161 = .ok (.iload 4, 2) := by decide +kernel
theorem dX4_grow_163 : decode cX4_grow 163 = .ok (.ifCond .le 28, 3) := by decide +kernel
theorem dX4_grow_166 : decode cX4_grow 166 = .ok (.iinc 4 (-1), 3) := by decide +kernel
theorem dX4_grow_169 : decode cX4_grow 169 = .ok (.aload_n 0, 1) := by decide +kernel
theorem dX4_grow_170 : decode cX4_grow 170 = .ok (.aload_n 0, 1) := by decide +kernel
theorem dX4_grow_171 : decode cX4_grow 171 = .ok (.getfield 38, 3) := by decide +kernel
theorem dX4_grow_174 : decode cX4_grow 174 = .ok (.iload 4, 2) := by decide +kernel
theorem dX4_grow_176 : decode cX4_grow 176 = .ok (.iaload, 1) := by decide +kernel
theorem dX4_grow_177 : decode cX4_grow 177 = .ok (.putfield 52, 3) := by decide +kernel
theorem dX4_grow_180 : decode cX4_grow 180 = .ok (.aload_n 0, 1) := by decide +kernel
theorem dX4_grow_181 : decode cX4_grow 181 = .ok (.aload_n 0, 1) := by decide +kernel
theorem dX4_grow_182 : decode cX4_grow 182 = .ok (.getfield 52, 3) := by decide +kernel
theorem dX4_grow_185 : decode cX4_grow 185 = .ok (.invokevirtual 49, 3) := by decide +kernel
theorem dX4_grow_188 : decode cX4_grow 188 = .ok (.goto (-27), 3) := by decide +kernel
theorem dX4_grow_191 : decode cX4_grow 191 = .ok (.aload_n 0, 1) := by decide +kernel
theorem dX4_grow_192 : decode cX4_grow 192 = .ok (.getfield 52, 3) := by decide +kernel
theorem dX4_grow_195 : decode cX4_grow 195 = .ok (.ifCond .lt 14, 3) := by decide +kernel
theorem dX4_grow_198 : decode cX4_grow 198 = .ok (.aload_n 0, 1) := by decide +kernel
theorem dX4_grow_199 : decode cX4_grow 199 = .ok (.getfield 18, 3) := by decide +kernel
theorem dX4_grow_202 : decode cX4_grow 202 = .ok (.aload_n 0, 1) := by decide +kernel
theorem dX4_grow_203 : decode cX4_grow 203 = .ok (.getfield 52, 3) := by decide +kernel
theorem dX4_grow_206 : decode cX4_grow 206 = .ok (.bipush (-6), 2) := by decide +kernel
theorem dX4_grow_208 : decode cX4_grow 208 = .ok (.iastore, 1) := by decide +kernel
theorem dX4_grow_209 : decode cX4_grow 209 = .ok (.return_, 1) := by decide +kernel
theorem dX4_price_0 : decode cX4_price 0 = .ok (.iload_n 1, 1) := by decide +kernel
theorem dX4_price_1 : decode cX4_price 1 = .ok (.aload_n 0, 1) := by decide +kernel
theorem dX4_price_2 : decode cX4_price 2 = .ok (.getfield 34, 3) := by decide +kernel
theorem dX4_price_5 : decode cX4_price 5 = .ok (.if_icmp .ne 4, 3) := by decide +kernel
theorem dX4_price_8 : decode cX4_price 8 = .ok (.return_, 1) := by decide +kernel
theorem dX4_price_9 : decode cX4_price 9 = .ok (.iconst 0, 1) := by decide +kernel
theorem dX4_price_10 : decode cX4_price 10 = .ok (.istore_n 2, 1) := by decide +kernel
theorem dX4_price_11 : decode cX4_price 11 = .ok (.iload_n 2, 1) := by decide +kernel
theorem dX4_price_12 : decode cX4_price 12 = .ok (.bipush 50, 2) := by decide +kernel
theorem dX4_price_14 : decode cX4_price 14 = .ok (.if_icmp .ge 20, 3) := by decide +kernel
theorem dX4_price_17 : decode cX4_price 17 = .ok (.aload_n 0, 1) := by decide +kernel
theorem dX4_price_18 : decode cX4_price 18 = .ok (.getfield 31, 3) := by decide +kernel
theorem dX4_price_21 : decode cX4_price 21 = .ok (.iload_n 2, 1) := by decide +kernel
theorem dX4_price_22 : decode cX4_price 22 = .ok (.iload_n 1, 1) := by decide +kernel
theorem dX4_price_23 : decode cX4_price 23 = .ok (.iload_n 2, 1) := by decide +kernel
theorem dX4_price_24 : decode cX4_price 24 = .ok (.invokestatic 55, 3) := by decide +kernel
theorem dX4_price_27 : decode cX4_price 27 = .ok (.iastore, 1) := by decide +kernel
theorem dX4_price_28 : decode cX4_price 28 = .ok (.iinc 2 1, 3) := by decide +kernel
theorem dX4_price_31 : decode cX4_price 31 = .ok (.goto (-20), 3) := by decide +kernel
theorem dX4_price_34 : decode cX4_price 34 = .ok (.aload_n 0, 1) := by decide +kernel
theorem dX4_price_35 : decode cX4_price 35 = .ok (.iload_n 1, 1) := by decide +kernel
theorem dX4_price_36 : decode cX4_price 36 = .ok (.putfield 34, 3) := by decide +kernel
theorem dX4_price_39 : decode cX4_price 39 = .ok (.return_, 1) := by decide +kernel
theorem dX4_finish_0 : decode cX4_finish 0 = .ok (.aload_n 0, 1) := by decide +kernel
theorem dX4_finish_1 : decode cX4_finish 1 = .ok (.getfield 9, 3) := by decide +kernel
theorem dX4_finish_4 : decode cX4_finish 4 = .ok (.iload_n 1, 1) := by decide +kernel
theorem dX4_finish_5 : decode cX4_finish 5 = .ok (.iaload, 1) := by decide +kernel
theorem dX4_finish_6 : decode cX4_finish 6 = .ok (.istore_n 2, 1) := by decide +kernel
theorem dX4_finish_7 : decode cX4_finish 7 = .ok (.aload_n 0, 1) := by decide +kernel
theorem dX4_finish_8 : decode cX4_finish 8 = .ok (.getfield 15, 3) := by decide +kernel
theorem dX4_finish_11 : decode cX4_finish 11 = .ok (.iload_n 1, 1) := by decide +kernel
theorem dX4_finish_12 : decode cX4_finish 12 = .ok (.iaload, 1) := by decide +kernel
theorem dX4_finish_13 : decode cX4_finish 13 = .ok (.istore_n 3, 1) := by decide +kernel
theorem dX4_finish_14 : decode cX4_finish 14 = .ok (.aload_n 0, 1) := by decide +kernel
theorem dX4_finish_15 : decode cX4_finish 15 = .ok (.getfield 21, 3) := by decide +kernel
theorem dX4_finish_18 : decode cX4_finish 18 = .ok (.iload_n 1, 1) := by decide +kernel
theorem dX4_finish_19 : decode cX4_finish 19 = .ok (.iload_n 1, 1) := by decide +kernel
theorem dX4_finish_20 : decode cX4_finish 20 = .ok (.invokestatic 58, 3) := by decide +kernel
theorem dX4_finish_23 : decode cX4_finish 23 = .ok (.aload_n 0, 1) := by decide +kernel
theorem dX4_finish_24 : decode cX4_finish 24 = .ok (.iload_n 2, 1) := by decide +kernel
theorem dX4_finish_25 : decode cX4_finish 25 = .ok (.invokevirtual 62, 3) := by decide +kernel
theorem dX4_finish_28 : decode cX4_finish 28 = .ok (.lor, 1) := by decide +kernel
theorem dX4_finish_29 : decode cX4_finish 29 = .ok (.aload_n 0, 1) := by decide +kernel
theorem dX4_finish_30 : decode cX4_finish 30 = .ok (.iload_n 3, 1) := by decide +kernel
theorem dX4_finish_31 : decode cX4_finish 31 = .ok (.invokevirtual 62, 3) := by decide +kernel
theorem dX4_finish_34 : decode cX4_finish 34 = .ok (.lor, 1) := by decide +kernel
theorem dX4_finish_35 : decode cX4_finish 35 = .ok (.lastore, 1) := by decide +kernel
theorem dX4_finish_36 : decode cX4_finish 36 = .ok (.aload_n 0, 1) := by decide +kernel
theorem dX4_finish_37 : decode cX4_finish 37 = .ok (.getfield 28, 3) := by decide +kernel
theorem dX4_finish_40 : decode cX4_finish 40 = .ok (.iload_n 1, 1) := by decide +kernel
theorem dX4_finish_41 : decode cX4_finish 41 = .ok (.iconst 1, 1) := by decide +kernel
theorem dX4_finish_42 : decode cX4_finish 42 = .ok (.aload_n 0, 1) := by decide +kernel
theorem dX4_finish_43 : decode cX4_finish 43 = .ok (.iload_n 2, 1) := by decide +kernel
theorem dX4_finish_44 : decode cX4_finish 44 = .ok (.invokevirtual 65, 3) := by decide +kernel
theorem dX4_finish_47 : decode cX4_finish 47 = .ok (.aload_n 0, 1) := by decide +kernel
theorem dX4_finish_48 : decode cX4_finish 48 = .ok (.iload_n 3, 1) := by decide +kernel
theorem dX4_finish_49 : decode cX4_finish 49 = .ok (.invokevirtual 65, 3) := by decide +kernel
theorem dX4_finish_52 : decode cX4_finish 52 = .ok (.invokestatic 69, 3) := by decide +kernel
theorem dX4_finish_55 : decode cX4_finish 55 = .ok (.iadd, 1) := by decide +kernel
theorem dX4_finish_56 : decode cX4_finish 56 = .ok (.iastore, 1) := by decide +kernel
theorem dX4_finish_57 : decode cX4_finish 57 = .ok (.aload_n 0, 1) := by decide +kernel
theorem dX4_finish_58 : decode cX4_finish 58 = .ok (.getfield 25, 3) := by decide +kernel
theorem dX4_finish_61 : decode cX4_finish 61 = .ok (.iload_n 1, 1) := by decide +kernel
theorem dX4_finish_62 : decode cX4_finish 62 = .ok (.iconst 1, 1) := by decide +kernel
theorem dX4_finish_63 : decode cX4_finish 63 = .ok (.bipush 31, 2) := by decide +kernel
theorem dX4_finish_65 : decode cX4_finish 65 = .ok (.aload_n 0, 1) := by decide +kernel
theorem dX4_finish_66 : decode cX4_finish 66 = .ok (.iload_n 2, 1) := by decide +kernel
theorem dX4_finish_67 : decode cX4_finish 67 = .ok (.invokevirtual 74, 3) := by decide +kernel
theorem dX4_finish_70 : decode cX4_finish 70 = .ok (.imul, 1) := by decide +kernel
theorem dX4_finish_71 : decode cX4_finish 71 = .ok (.bipush 57, 2) := by decide +kernel
theorem dX4_finish_73 : decode cX4_finish 73 = .ok (.aload_n 0, 1) := by decide +kernel
theorem dX4_finish_74 : decode cX4_finish 74 = .ok (.iload_n 3, 1) := by decide +kernel
theorem dX4_finish_75 : decode cX4_finish 75 = .ok (.invokevirtual 74, 3) := by decide +kernel
theorem dX4_finish_78 : decode cX4_finish 78 = .ok (.imul, 1) := by decide +kernel
theorem dX4_finish_79 : decode cX4_finish 79 = .ok (.iadd, 1) := by decide +kernel
theorem dX4_finish_80 : decode cX4_finish 80 = .ok (.sipush 7919, 3) := by decide +kernel
theorem dX4_finish_83 : decode cX4_finish 83 = .ok (.iload_n 1, 1) := by decide +kernel
theorem dX4_finish_84 : decode cX4_finish 84 = .ok (.iconst 1, 1) := by decide +kernel
theorem dX4_finish_85 : decode cX4_finish 85 = .ok (.iadd, 1) := by decide +kernel
theorem dX4_finish_86 : decode cX4_finish 86 = .ok (.imul, 1) := by decide +kernel
theorem dX4_finish_87 : decode cX4_finish 87 = .ok (.iadd, 1) := by decide +kernel
theorem dX4_finish_88 : decode cX4_finish 88 = .ok (.ldc 77, 2) := by decide +kernel
theorem dX4_finish_90 : decode cX4_finish 90 = .ok (.irem, 1) := by decide +kernel
theorem dX4_finish_91 : decode cX4_finish 91 = .ok (.iadd, 1) := by decide +kernel
theorem dX4_finish_92 : decode cX4_finish 92 = .ok (.iastore, 1) := by decide +kernel
theorem dX4_finish_93 : decode cX4_finish 93 = .ok (.iload_n 2, 1) := by decide +kernel
theorem dX4_finish_94 : decode cX4_finish 94 = .ok (.ifCond .lt 10, 3) := by decide +kernel
theorem dX4_finish_97 : decode cX4_finish 97 = .ok (.aload_n 0, 1) := by decide +kernel
theorem dX4_finish_98 : decode cX4_finish 98 = .ok (.getfield 18, 3) := by decide +kernel
theorem dX4_finish_101 : decode cX4_finish 101 = .ok (.iload_n 2, 1) := by decide +kernel
theorem dX4_finish_102 : decode cX4_finish 102 = .ok (.iload_n 1, 1) := by decide +kernel
theorem dX4_finish_103 : decode cX4_finish 103 = .ok (.iastore, 1) := by decide +kernel
theorem dX4_finish_104 : decode cX4_finish 104 = .ok (.iload_n 3, 1) := by decide +kernel
theorem dX4_finish_105 : decode cX4_finish 105 = .ok (.ifCond .lt 10, 3) := by decide +kernel
theorem dX4_finish_108 : decode cX4_finish 108 = .ok (.aload_n 0, 1) := by decide +kernel
theorem dX4_finish_109 : decode cX4_finish 109 = .ok (.getfield 18, 3) := by decide +kernel
theorem dX4_finish_112 : decode cX4_finish 112 = .ok (.iload_n 3, 1) := by decide +kernel
theorem dX4_finish_113 : decode cX4_finish 113 = .ok (.iload_n 1, 1) := by decide +kernel
theorem dX4_finish_114 : decode cX4_finish 114 = .ok (.iastore, 1) := by decide +kernel
theorem dX4_finish_115 : decode cX4_finish 115 = .ok (.return_, 1) := by decide +kernel
theorem dX4_spanBelow_0 : decode cX4_spanBelow 0 = .ok (.iload_n 1, 1) := by decide +kernel
theorem dX4_spanBelow_1 : decode cX4_spanBelow 1 = .ok (.ifCond .lt 12, 3) := by decide +kernel
theorem dX4_spanBelow_4 : decode cX4_spanBelow 4 = .ok (.aload_n 0, 1) := by decide +kernel
theorem dX4_spanBelow_5 : decode cX4_spanBelow 5 = .ok (.getfield 21, 3) := by decide +kernel
theorem dX4_spanBelow_8 : decode cX4_spanBelow 8 = .ok (.iload_n 1, 1) := by decide +kernel
theorem dX4_spanBelow_9 : decode cX4_spanBelow 9 = .ok (.laload, 1) := by decide +kernel
theorem dX4_spanBelow_10 : decode cX4_spanBelow 10 = .ok (.goto 4, 3) := by decide +kernel
theorem dX4_spanBelow_13 : decode cX4_spanBelow 13 = .ok (.lconst 0, 1) := by decide +kernel
theorem dX4_spanBelow_14 : decode cX4_spanBelow 14 = .ok (.lreturn, 1) := by decide +kernel
theorem dX4_sizeBelow_0 : decode cX4_sizeBelow 0 = .ok (.aload_n 0, 1) := by decide +kernel
theorem dX4_sizeBelow_1 : decode cX4_sizeBelow 1 = .ok (.iload_n 1, 1) := by decide +kernel
theorem dX4_sizeBelow_2 : decode cX4_sizeBelow 2 = .ok (.invokevirtual 62, 3) := by decide +kernel
theorem dX4_sizeBelow_5 : decode cX4_sizeBelow 5 = .ok (.invokestatic 78, 3) := by decide +kernel
theorem dX4_sizeBelow_8 : decode cX4_sizeBelow 8 = .ok (.ireturn, 1) := by decide +kernel
theorem dX4_heightBelow_0 : decode cX4_heightBelow 0 = .ok (.iload_n 1, 1) := by decide +kernel
theorem dX4_heightBelow_1 : decode cX4_heightBelow 1 = .ok (.ifCond .lt 12, 3) := by decide +kernel
theorem dX4_heightBelow_4 : decode cX4_heightBelow 4 = .ok (.aload_n 0, 1) := by decide +kernel
theorem dX4_heightBelow_5 : decode cX4_heightBelow 5 = .ok (.getfield 28, 3) := by decide +kernel
theorem dX4_heightBelow_8 : decode cX4_heightBelow 8 = .ok (.iload_n 1, 1) := by decide +kernel
theorem dX4_heightBelow_9 : decode cX4_heightBelow 9 = .ok (.iaload, 1) := by decide +kernel
theorem dX4_heightBelow_10 : decode cX4_heightBelow 10 = .ok (.goto 4, 3) := by decide +kernel
theorem dX4_heightBelow_13 : decode cX4_heightBelow 13 = .ok (.iconst 0, 1) := by decide +kernel
theorem dX4_heightBelow_14 : decode cX4_heightBelow 14 = .ok (.ireturn, 1) := by decide +kernel
theorem dX4_digestBelow_0 : decode cX4_digestBelow 0 = .ok (.iload_n 1, 1) := by decide +kernel
theorem dX4_digestBelow_1 : decode cX4_digestBelow 1 = .ok (.ifCond .lt 12, 3) := by decide +kernel
theorem dX4_digestBelow_4 : decode cX4_digestBelow 4 = .ok (.aload_n 0, 1) := by decide +kernel
theorem dX4_digestBelow_5 : decode cX4_digestBelow 5 = .ok (.getfield 25, 3) := by decide +kernel
theorem dX4_digestBelow_8 : decode cX4_digestBelow 8 = .ok (.iload_n 1, 1) := by decide +kernel
theorem dX4_digestBelow_9 : decode cX4_digestBelow 9 = .ok (.iaload, 1) := by decide +kernel
theorem dX4_digestBelow_10 : decode cX4_digestBelow 10 = .ok (.goto 4, 3) := by decide +kernel
theorem dX4_digestBelow_13 : decode cX4_digestBelow 13 = .ok (.iconst 0, 1) := by decide +kernel
theorem dX4_digestBelow_14 : decode cX4_digestBelow 14 = .ok (.ireturn, 1) := by decide +kernel
theorem dX4_depth_0 : decode cX4_depth 0 = .ok (.iconst 0, 1) := by decide +kernel
theorem dX4_depth_1 : decode cX4_depth 1 = .ok (.istore_n 2, 1) := by decide +kernel
theorem dX4_depth_2 : decode cX4_depth 2 = .ok (.iconst 0, 1) := by decide +kernel
theorem dX4_depth_3 : decode cX4_depth 3 = .ok (.istore_n 3, 1) := by decide +kernel
theorem dX4_depth_4 : decode cX4_depth 4 = .ok (.iload_n 3, 1) := by decide +kernel
theorem dX4_depth_5 : decode cX4_depth 5 = .ok (.bipush 50, 2) := by decide +kernel
theorem dX4_depth_7 : decode cX4_depth 7 = .ok (.if_icmp .ge 30, 3) := by decide +kernel
theorem dX4_depth_10 : decode cX4_depth 10 = .ok (.iload_n 3, 1) := by decide +kernel
theorem dX4_depth_11 : decode cX4_depth 11 = .ok (.iload_n 1, 1) := by decide +kernel
theorem dX4_depth_12 : decode cX4_depth 12 = .ok (.if_icmp .eq 19, 3) := by decide +kernel
theorem dX4_depth_15 : decode cX4_depth 15 = .ok (.aload_n 0, 1) := by decide +kernel
theorem dX4_depth_16 : decode cX4_depth 16 = .ok (.getfield 21, 3) := by decide +kernel
theorem dX4_depth_19 : decode cX4_depth 19 = .ok (.iload_n 3, 1) := by decide +kernel
theorem dX4_depth_20 : decode cX4_depth 20 = .ok (.laload, 1) := by decide +kernel
theorem dX4_depth_21 : decode cX4_depth 21 = .ok (.iload_n 1, 1) := by decide +kernel
theorem dX4_depth_22 : decode cX4_depth 22 = .ok (.invokestatic 45, 3) := by decide +kernel
theorem dX4_depth_25 : decode cX4_depth 25 = .ok (.ifCond .eq 6, 3) := by decide +kernel
theorem dX4_depth_28 : decode cX4_depth 28 = .ok (.iinc 2 1, 3) := by decide +kernel
theorem dX4_depth_31 : decode cX4_depth 31 = .ok (.iinc 3 1, 3) := by decide +kernel
theorem dX4_depth_34 : decode cX4_depth 34 = .ok (.goto (-30), 3) := by decide +kernel
theorem dX4_depth_37 : decode cX4_depth 37 = .ok (.iload_n 2, 1) := by decide +kernel
theorem dX4_depth_38 : decode cX4_depth 38 = .ok (.ireturn, 1) := by decide +kernel
theorem dX5_init_0 : decode cX5_init 0 = .ok (.aload_n 0, 1) := by decide +kernel
theorem dX5_init_1 : decode cX5_init 1 = .ok (.invokespecial 3, 3) := by decide +kernel
theorem dX5_init_4 : decode cX5_init 4 = .ok (.aload_n 0, 1) := by decide +kernel
theorem dX5_init_5 : decode cX5_init 5 = .ok (.new 9, 3) := by decide +kernel
theorem dX5_init_8 : decode cX5_init 8 = .ok (.dup, 1) := by decide +kernel
theorem dX5_init_9 : decode cX5_init 9 = .ok (.invokespecial 11, 3) := by decide +kernel
theorem dX5_init_12 : decode cX5_init 12 = .ok (.putfield 12, 3) := by decide +kernel
theorem dX5_init_15 : decode cX5_init 15 = .ok (.aload_n 0, 1) := by decide +kernel
theorem dX5_init_16 : decode cX5_init 16 = .ok (.new 18, 3) := by decide +kernel
theorem dX5_init_19 : decode cX5_init 19 = .ok (.dup, 1) := by decide +kernel
theorem dX5_init_20 : decode cX5_init 20 = .ok (.invokespecial 20, 3) := by decide +kernel
theorem dX5_init_23 : decode cX5_init 23 = .ok (.putfield 21, 3) := by decide +kernel
theorem dX5_init_26 : decode cX5_init 26 = .ok (.aload_n 0, 1) := by decide +kernel
theorem dX5_init_27 : decode cX5_init 27 = .ok (.new 18, 3) := by decide +kernel
theorem dX5_init_30 : decode cX5_init 30 = .ok (.dup, 1) := by decide +kernel
theorem dX5_init_31 : decode cX5_init 31 = .ok (.invokespecial 20, 3) := by decide +kernel
theorem dX5_init_34 : decode cX5_init 34 = .ok (.putfield 25, 3) := by decide +kernel
theorem dX5_init_37 : decode cX5_init 37 = .ok (.aload_n 0, 1) := by decide +kernel
theorem dX5_init_38 : decode cX5_init 38 = .ok (.new 28, 3) := by decide +kernel
theorem dX5_init_41 : decode cX5_init 41 = .ok (.dup, 1) := by decide +kernel
theorem dX5_init_42 : decode cX5_init 42 = .ok (.invokespecial 30, 3) := by decide +kernel
theorem dX5_init_45 : decode cX5_init 45 = .ok (.putfield 31, 3) := by decide +kernel
theorem dX5_init_48 : decode cX5_init 48 = .ok (.aload_n 0, 1) := by decide +kernel
theorem dX5_init_49 : decode cX5_init 49 = .ok (.new 28, 3) := by decide +kernel
theorem dX5_init_52 : decode cX5_init 52 = .ok (.dup, 1) := by decide +kernel
theorem dX5_init_53 : decode cX5_init 53 = .ok (.invokespecial 30, 3) := by decide +kernel
theorem dX5_init_56 : decode cX5_init 56 = .ok (.putfield 35, 3) := by decide +kernel
theorem dX5_init_59 : decode cX5_init 59 = .ok (.return_, 1) := by decide +kernel
theorem dX5_play_0 : decode cX5_play 0 = .ok (.aload_n 0, 1) := by decide +kernel
theorem dX5_play_1 : decode cX5_play 1 = .ok (.getfield 31, 3) := by decide +kernel
theorem dX5_play_4 : decode cX5_play 4 = .ok (.aload_n 2, 1) := by decide +kernel
theorem dX5_play_5 : decode cX5_play 5 = .ok (.invokevirtual 38, 3) := by decide +kernel
theorem dX5_play_8 : decode cX5_play 8 = .ok (.aload_n 0, 1) := by decide +kernel
theorem dX5_play_9 : decode cX5_play 9 = .ok (.iconst 0, 1) := by decide +kernel
theorem dX5_play_10 : decode cX5_play 10 = .ok (.putfield 42, 3) := by decide +kernel
theorem dX5_play_13 : decode cX5_play 13 = .ok (.aload_n 0, 1) := by decide +kernel
theorem dX5_play_14 : decode cX5_play 14 = .ok (.iconst 0, 1) := by decide +kernel
theorem dX5_play_15 : decode cX5_play 15 = .ok (.putfield 46, 3) := by decide +kernel
theorem dX5_play_18 : decode cX5_play 18 = .ok (.aload_n 0, 1) := by decide +kernel
theorem dX5_play_19 : decode cX5_play 19 = .ok (.iconst 0, 1) := by decide +kernel
theorem dX5_play_20 : decode cX5_play 20 = .ok (.putfield 49, 3) := by decide +kernel
theorem dX5_play_23 : decode cX5_play 23 = .ok (.aload_n 0, 1) := by decide +kernel
theorem dX5_play_24 : decode cX5_play 24 = .ok (.bipush (-6), 2) := by decide +kernel
theorem dX5_play_26 : decode cX5_play 26 = .ok (.putfield 52, 3) := by decide +kernel
theorem dX5_play_29 : decode cX5_play 29 = .ok (.aload_n 0, 1) := by decide +kernel
theorem dX5_play_30 : decode cX5_play 30 = .ok (.bipush (-6), 2) := by decide +kernel
theorem dX5_play_32 : decode cX5_play 32 = .ok (.putfield 55, 3) := by decide +kernel
theorem dX5_play_35 : decode cX5_play 35 = .ok (.iconst 0, 1) := by decide +kernel
theorem dX5_play_36 : decode cX5_play 36 = .ok (.istore_n 3, 1) := by decide +kernel
theorem dX5_play_37 : decode cX5_play 37 = .ok (.iconst 0, 1) := by decide +kernel
theorem dX5_play_38 : decode cX5_play 38 = .ok (.istore 4, 2) := by decide +kernel
theorem dX5_play_40 : decode cX5_play 40 = .ok (.iload 4, 2) := by decide +kernel
theorem dX5_play_42 : decode cX5_play 42 = .ok (.aload_n 1, 1) := by decide +kernel
theorem dX5_play_43 : decode cX5_play 43 = .ok (.getfield 58, 3) := by decide +kernel
theorem dX5_play_46 : decode cX5_play 46 = .ok (.if_icmp .ge 90, 3) := by decide +kernel
theorem dX5_play_49 : decode cX5_play 49 = .ok (.aload_n 1, 1) := by decide +kernel
theorem dX5_play_50 : decode cX5_play 50 = .ok (.iload 4, 2) := by decide +kernel
theorem dX5_play_52 : decode cX5_play 52 = .ok (.aload_n 0, 1) := by decide +kernel
theorem dX5_play_53 : decode cX5_play 53 = .ok (.getfield 12, 3) := by decide +kernel
theorem dX5_play_56 : decode cX5_play 56 = .ok (.invokevirtual 63, 3) := by decide +kernel
theorem dX5_play_59 : decode cX5_play 59 = .ok (.istore_n 3, 1) := by decide +kernel
theorem dX5_play_60 : decode cX5_play 60 = .ok (.aload_n 0, 1) := by decide +kernel
theorem dX5_play_61 : decode cX5_play 61 = .ok (.aload_n 0, 1) := by decide +kernel
theorem dX5_play_62 : decode cX5_play 62 = .ok (.getfield 31, 3) := by decide +kernel
theorem dX5_play_65 : decode cX5_play 65 = .ok (.aload_n 0, 1) := by decide +kernel
theorem dX5_play_66 : decode cX5_play 66 = .ok (.getfield 12, 3) := by decide +kernel
theorem dX5_play_69 : decode cX5_play 69 = .ok (.invokevirtual 67, 3) := by decide +kernel
theorem dX5_play_72 : decode cX5_play 72 = .ok (.putfield 49, 3) := by decide +kernel
theorem dX5_play_75 : decode cX5_play 75 = .ok (.aload_n 0, 1) := by decide +kernel
theorem dX5_play_76 : decode cX5_play 76 = .ok (.getfield 49, 3) := by decide +kernel
theorem dX5_play_79 : decode cX5_play 79 = .ok (.ifCond .eq 4, 3) := by decide +kernel
theorem dX5_play_82 : decode cX5_play 82 = .ok (.return_, 1) := by decide +kernel
theorem dX5_play_83 : decode cX5_play 83 = .ok (.aload_n 0, 1) := by decide +kernel
theorem dX5_play_84 : decode cX5_play 84 = .ok (.getfield 35, 3) := by decide +kernel
theorem dX5_play_87 : decode cX5_play 87 = .ok (.aload_n 0, 1) := by decide +kernel
theorem dX5_play_88 : decode cX5_play 88 = .ok (.getfield 31, 3) := by decide +kernel
theorem dX5_play_91 : decode cX5_play 91 = .ok (.invokevirtual 38, 3) := by decide +kernel
theorem dX5_play_94 : decode cX5_play 94 = .ok (.aload_n 0, 1) := by decide +kernel
theorem dX5_play_95 : decode cX5_play 95 = .ok (.getfield 31, 3) := by decide +kernel
theorem dX5_play_98 : decode cX5_play 98 = .ok (.aload_n 0, 1) := by decide +kernel
theorem dX5_play_99 : decode cX5_play 99 = .ok (.getfield 12, 3) := by decide +kernel
theorem dX5_play_102 : decode cX5_play 102 = .ok (.invokevirtual 70, 3) := by decide +kernel
theorem dX5_play_105 : decode cX5_play 105 = .ok (.aload_n 0, 1) := by decide +kernel
theorem dX5_play_106 : decode cX5_play 106 = .ok (.invokevirtual 74, 3) := by decide +kernel
theorem dX5_play_109 : decode cX5_play 109 = .ok (.aload_n 0, 1) := by decide +kernel
theorem dX5_play_110 : decode cX5_play 110 = .ok (.invokevirtual 77, 3) := by decide +kernel
theorem dX5_play_113 : decode cX5_play 113 = .ok (.aload_n 0, 1) := by decide +kernel
theorem dX5_play_114 : decode cX5_play 114 = .ok (.dup, 1) := by decide +kernel
theorem dX5_play_115 : decode cX5_play 115 = .ok (.getfield 42, 3) := by decide +kernel
theorem dX5_play_118 : decode cX5_play 118 = .ok (.iconst 1, 1) := by decide +kernel
theorem dX5_play_119 : decode cX5_play 119 = .ok (.iadd, 1) := by decide +kernel
theorem dX5_play_120 : decode cX5_play 120 = .ok (.putfield 42, 3) := by decide +kernel
theorem dX5_play_123 : decode cX5_play 123 = .ok (.iload 4, 2) := by decide +kernel
theorem dX5_play_125 : decode cX5_play 125 = .ok (.iconst 1, 1) := by decide +kernel
theorem dX5_play_126 : decode cX5_play 126 = .ok (.iload_n 3, 1) := by decide +kernel
theorem dX5_play_127 : decode cX5_play 127 = .ok (.invokestatic 80, 3) := by decide +kernel
theorem dX5_play_130 : decode cX5_play 130 = .ok (.iadd, 1) := by decide +kernel
theorem dX5_play_131 : decode cX5_play 131 = .ok (.istore 4, 2) := by decide +kernel
theorem dX5_play_133 : decode cX5_play 133 = .ok (.goto (-93), 3) := by decide +kernel
theorem dX5_play_136 : decode cX5_play 136 = .ok (.return_, 1) := by decide +kernel
theorem dX5_addWork_0 : decode cX5_addWork 0 = .ok (.iconst 0, 1) := by decide +kernel
theorem dX5_addWork_1 : decode cX5_addWork 1 = .ok (.istore_n 1, 1) := by decide +kernel
theorem dX5_addWork_2 : decode cX5_addWork 2 = .ok (.iload_n 1, 1) := by decide +kernel
theorem dX5_addWork_3 : decode cX5_addWork 3 = .ok (.iconst 4, 1) := by decide +kernel
theorem dX5_addWork_4 : decode cX5_addWork 4 = .ok (.if_icmp .ge 159, 3) := by decide +kernel
theorem dX5_addWork_7 : decode cX5_addWork 7 = .ok (.aload_n 0, 1) := by decide +kernel
theorem dX5_addWork_8 : decode cX5_addWork 8 = .ok (.getfield 35, 3) := by decide +kernel
theorem dX5_addWork_11 : decode cX5_addWork 11 = .ok (.getfield 86, 3) := by decide +kernel
theorem dX5_addWork_14 : decode cX5_addWork 14 = .ok (.iload_n 1, 1) := by decide +kernel
theorem dX5_addWork_15 : decode cX5_addWork 15 = .ok (.laload, 1) := by decide +kernel
theorem dX5_addWork_16 : decode cX5_addWork 16 = .ok (.aload_n 0, 1) := by decide +kernel
theorem dX5_addWork_17 : decode cX5_addWork 17 = .ok (.getfield 31, 3) := by decide +kernel
theorem dX5_addWork_20 : decode cX5_addWork 20 = .ok (.getfield 86, 3) := by decide +kernel
theorem dX5_addWork_23 : decode cX5_addWork 23 = .ok (.iload_n 1, 1) := by decide +kernel
theorem dX5_addWork_24 : decode cX5_addWork 24 = .ok (.laload, 1) := by decide +kernel
theorem dX5_addWork_25 : decode cX5_addWork 25 = .ok (.lcmp, 1) := by decide +kernel
theorem dX5_addWork_26 : decode cX5_addWork 26 = .ok (.ifCond .ne 23, 3) := by decide +kernel
theorem dX5_addWork_29 : decode cX5_addWork 29 = .ok (.aload_n 0, 1) := by decide +kernel
theorem dX5_addWork_30 : decode cX5_addWork 30 = .ok (.getfield 35, 3) := by decide +kernel
theorem dX5_addWork_33 : decode cX5_addWork 33 = .ok (.getfield 90, 3) := by decide +kernel
theorem dX5_addWork_36 : decode cX5_addWork 36 = .ok (.aload_n 0, 1) := by decide +kernel
theorem dX5_addWork_37 : decode cX5_addWork 37 = .ok (.getfield 31, 3) := by decide +kernel
theorem dX5_addWork_40 : decode cX5_addWork 40 = .ok (.getfield 90, 3) := by decide +kernel
theorem dX5_addWork_43 : decode cX5_addWork 43 = .ok (.if_icmp .ne 6, 3) := by decide +kernel
theorem dX5_addWork_46 : decode cX5_addWork 46 = .ok (.goto 111, 3) := by decide +kernel
theorem dX5_addWork_49 : decode cX5_addWork 49 = .ok (.aload_n 0, 1) := by decide +kernel
theorem dX5_addWork_50 : decode cX5_addWork 50 = .ok (.getfield 21, 3) := by decide +kernel
theorem dX5_addWork_53 : decode cX5_addWork 53 = .ok (.aload_n 0, 1) := by decide +kernel
theorem dX5_addWork_54 : decode cX5_addWork 54 = .ok (.getfield 35, 3) := by decide +kernel
theorem dX5_addWork_57 : decode cX5_addWork 57 = .ok (.getfield 86, 3) := by decide +kernel
theorem dX5_addWork_60 : decode cX5_addWork 60 = .ok (.iload_n 1, 1) := by decide +kernel
theorem dX5_addWork_61 : decode cX5_addWork 61 = .ok (.laload, 1) := by decide +kernel
theorem dX5_addWork_62 : decode cX5_addWork 62 = .ok (.aload_n 0, 1) := by decide +kernel
theorem dX5_addWork_63 : decode cX5_addWork 63 = .ok (.getfield 35, 3) := by decide +kernel
theorem dX5_addWork_66 : decode cX5_addWork 66 = .ok (.getfield 90, 3) := by decide +kernel
theorem dX5_addWork_69 : decode cX5_addWork 69 = .ok (.invokevirtual 93, 3) := by decide +kernel
theorem dX5_addWork_72 : decode cX5_addWork 72 = .ok (.aload_n 0, 1) := by decide +kernel
theorem dX5_addWork_73 : decode cX5_addWork 73 = .ok (.getfield 25, 3) := by decide +kernel
theorem dX5_addWork_76 : decode cX5_addWork 76 = .ok (.aload_n 0, 1) := by decide +kernel
theorem dX5_addWork_77 : decode cX5_addWork 77 = .ok (.getfield 31, 3) := by decide +kernel
theorem dX5_addWork_80 : decode cX5_addWork 80 = .ok (.getfield 86, 3) := by decide +kernel
theorem dX5_addWork_83 : decode cX5_addWork 83 = .ok (.iload_n 1, 1) := by decide +kernel
theorem dX5_addWork_84 : decode cX5_addWork 84 = .ok (.laload, 1) := by decide +kernel
theorem dX5_addWork_85 : decode cX5_addWork 85 = .ok (.aload_n 0, 1) := by decide +kernel
theorem dX5_addWork_86 : decode cX5_addWork 86 = .ok (.getfield 31, 3) := by decide +kernel
theorem dX5_addWork_89 : decode cX5_addWork 89 = .ok (.getfield 90, 3) := by decide +kernel
theorem dX5_addWork_92 : decode cX5_addWork 92 = .ok (.invokevirtual 93, 3) := by decide +kernel
theorem dX5_addWork_95 : decode cX5_addWork 95 = .ok (.iconst 0, 1) := by decide +kernel
theorem dX5_addWork_96 : decode cX5_addWork 96 = .ok (.istore_n 2, 1) := by decide +kernel
theorem dX5_addWork_97 : decode cX5_addWork 97 = .ok (.iload_n 2, 1) := by decide +kernel
theorem dX5_addWork_98 : decode cX5_addWork 98 = .ok (.bipush 50, 2) := by decide +kernel
theorem dX5_addWork_100 : decode cX5_addWork 100 = .ok (.if_icmp .ge 57, 3) := by decide +kernel
theorem dX5_addWork_103 : decode cX5_addWork 103 = .ok (.aload_n 0, 1) := by decide +kernel
theorem dX5_addWork_104 : decode cX5_addWork 104 = .ok (.getfield 31, 3) := by decide +kernel
theorem dX5_addWork_107 : decode cX5_addWork 107 = .ok (.getfield 86, 3) := by decide +kernel
theorem dX5_addWork_110 : decode cX5_addWork 110 = .ok (.iload_n 1, 1) := by decide +kernel
theorem dX5_addWork_111 : decode cX5_addWork 111 = .ok (.laload, 1) := by decide +kernel
theorem dX5_addWork_112 : decode cX5_addWork 112 = .ok (.iload_n 2, 1) := by decide +kernel
theorem dX5_addWork_113 : decode cX5_addWork 113 = .ok (.invokestatic 97, 3) := by decide +kernel
theorem dX5_addWork_116 : decode cX5_addWork 116 = .ok (.ifCond .eq 35, 3) := by decide +kernel
theorem dX5_addWork_119 : decode cX5_addWork 119 = .ok (.aload_n 0, 1) := by decide +kernel
theorem dX5_addWork_120 : decode cX5_addWork 120 = .ok (.getfield 21, 3) := by decide +kernel
theorem dX5_addWork_123 : decode cX5_addWork 123 = .ok (.getfield 101, 3) := by decide +kernel
theorem dX5_addWork_126 : decode cX5_addWork 126 = .ok (.iload_n 2, 1) := by decide +kernel
theorem dX5_addWork_127 : decode cX5_addWork 127 = .ok (.laload, 1) := by decide +kernel
theorem dX5_addWork_128 : decode cX5_addWork 128 = .ok (.aload_n 0, 1) := by decide +kernel
theorem dX5_addWork_129 : decode cX5_addWork 129 = .ok (.getfield 25, 3) := by decide +kernel
theorem dX5_addWork_132 : decode cX5_addWork 132 = .ok (.getfield 101, 3) := by decide +kernel
theorem dX5_addWork_135 : decode cX5_addWork 135 = .ok (.iload_n 2, 1) := by decide +kernel
theorem dX5_addWork_136 : decode cX5_addWork 136 = .ok (.laload, 1) := by decide +kernel
theorem dX5_addWork_137 : decode cX5_addWork 137 = .ok (.lcmp, 1) := by decide +kernel
theorem dX5_addWork_138 : decode cX5_addWork 138 = .ok (.ifCond .eq 13, 3) := by decide +kernel
theorem dX5_addWork_141 : decode cX5_addWork 141 = .ok (.aload_n 0, 1) := by decide +kernel
theorem dX5_addWork_142 : decode cX5_addWork 142 = .ok (.dup, 1) := by decide +kernel
theorem dX5_addWork_143 : decode cX5_addWork 143 = .ok (.getfield 46, 3) := by decide +kernel
theorem dX5_addWork_146 : decode cX5_addWork 146 = .ok (.iconst 1, 1) := by decide +kernel
theorem dX5_addWork_147 : decode cX5_addWork 147 = .ok (.iadd, 1) := by decide +kernel
theorem dX5_addWork_148 : decode cX5_addWork 148 = .ok (.putfield 46, 3) := by decide +kernel
theorem dX5_addWork_151 : decode cX5_addWork 151 = .ok (.iinc 2 1, 3) := by decide +kernel
theorem dX5_addWork_154 : decode cX5_addWork 154 = .ok (.goto (-57), 3) := by decide +kernel
theorem dX5_addWork_157 : decode cX5_addWork 157 = .ok (.iinc 1 1, 3) := by decide +kernel
theorem dX5_addWork_160 : decode cX5_addWork 160 = .ok (.goto (-158), 3) := by decide +kernel
theorem dX5_addWork_163 : decode cX5_addWork 163 = .ok (.return_, 1) := by decide +kernel
theorem dX5_seekAlike_0 : decode cX5_seekAlike 0 = .ok (.iconst 0, 1) := by decide +kernel
theorem dX5_seekAlike_1 : decode cX5_seekAlike 1 = .ok (.istore_n 1, 1) := by decide +kernel
theorem dX5_seekAlike_2 : decode cX5_seekAlike 2 = .ok (.iload_n 1, 1) := by decide +kernel
theorem dX5_seekAlike_3 : decode cX5_seekAlike 3 = .ok (.iconst 4, 1) := by decide +kernel
theorem dX5_seekAlike_4 : decode cX5_seekAlike 4 = .ok (.if_icmp .ge 75, 3) := by decide +kernel
theorem dX5_seekAlike_7 : decode cX5_seekAlike 7 = .ok (.iload_n 1, 1) := by decide +kernel
theorem dX5_seekAlike_8 : decode cX5_seekAlike 8 = .ok (.iconst 1, 1) := by decide +kernel
theorem dX5_seekAlike_9 : decode cX5_seekAlike 9 = .ok (.iadd, 1) := by decide +kernel
theorem dX5_seekAlike_10 : decode cX5_seekAlike 10 = .ok (.istore_n 2, 1) := by decide +kernel
theorem dX5_seekAlike_11 : decode cX5_seekAlike 11 = .ok (.iload_n 2, 1) := by decide +kernel
theorem dX5_seekAlike_12 : decode cX5_seekAlike 12 = .ok (.iconst 4, 1) := by decide +kernel
theorem dX5_seekAlike_13 : decode cX5_seekAlike 13 = .ok (.if_icmp .ge 60, 3) := by decide +kernel
theorem dX5_seekAlike_16 : decode cX5_seekAlike 16 = .ok (.aload_n 0, 1) := by decide +kernel
theorem dX5_seekAlike_17 : decode cX5_seekAlike 17 = .ok (.getfield 52, 3) := by decide +kernel
theorem dX5_seekAlike_20 : decode cX5_seekAlike 20 = .ok (.bipush (-6), 2) := by decide +kernel
theorem dX5_seekAlike_22 : decode cX5_seekAlike 22 = .ok (.if_icmp .ne 45, 3) := by decide +kernel
theorem dX5_seekAlike_25 : decode cX5_seekAlike 25 = .ok (.aload_n 0, 1) := by decide +kernel
theorem dX5_seekAlike_26 : decode cX5_seekAlike 26 = .ok (.getfield 31, 3) := by decide +kernel
theorem dX5_seekAlike_29 : decode cX5_seekAlike 29 = .ok (.iload_n 1, 1) := by decide +kernel
theorem dX5_seekAlike_30 : decode cX5_seekAlike 30 = .ok (.iload_n 2, 1) := by decide +kernel
theorem dX5_seekAlike_31 : decode cX5_seekAlike 31 = .ok (.invokestatic 104, 3) := by decide +kernel
theorem dX5_seekAlike_34 : decode cX5_seekAlike 34 = .ok (.ifCond .eq 33, 3) := by decide +kernel
theorem dX5_seekAlike_37 : decode cX5_seekAlike 37 = .ok (.aload_n 0, 1) := by decide +kernel
theorem dX5_seekAlike_38 : decode cX5_seekAlike 38 = .ok (.getfield 35, 3) := by decide +kernel
theorem dX5_seekAlike_41 : decode cX5_seekAlike 41 = .ok (.iload_n 1, 1) := by decide +kernel
theorem dX5_seekAlike_42 : decode cX5_seekAlike 42 = .ok (.iload_n 2, 1) := by decide +kernel
theorem dX5_seekAlike_43 : decode cX5_seekAlike 43 = .ok (.invokestatic 104, 3) := by decide +kernel
theorem dX5_seekAlike_46 : decode cX5_seekAlike 46 = .ok (.ifCond .ne 21, 3) := by decide +kernel
theorem dX5_seekAlike_49 : decode cX5_seekAlike 49 = .ok (.aload_n 0, 1) := by decide +kernel
theorem dX5_seekAlike_50 : decode cX5_seekAlike 50 = .ok (.aload_n 0, 1) := by decide +kernel
theorem dX5_seekAlike_51 : decode cX5_seekAlike 51 = .ok (.getfield 42, 3) := by decide +kernel
theorem dX5_seekAlike_54 : decode cX5_seekAlike 54 = .ok (.putfield 52, 3) := by decide +kernel
theorem dX5_seekAlike_57 : decode cX5_seekAlike 57 = .ok (.aload_n 0, 1) := by decide +kernel
theorem dX5_seekAlike_58 : decode cX5_seekAlike 58 = .ok (.bipush 10, 2) := by decide +kernel
theorem dX5_seekAlike_60 : decode cX5_seekAlike 60 = .ok (.iload_n 1, 1) := by decide +kernel
theorem dX5_seekAlike_61 : decode cX5_seekAlike 61 = .ok (.imul, 1) := by decide +kernel
theorem dX5_seekAlike_62 : decode cX5_seekAlike 62 = .ok (.iload_n 2, 1) := by decide +kernel
theorem dX5_seekAlike_63 : decode cX5_seekAlike 63 = .ok (.iadd, 1) := by decide +kernel
theorem dX5_seekAlike_64 : decode cX5_seekAlike 64 = .ok (.putfield 55, 3) := by decide +kernel
theorem dX5_seekAlike_67 : decode cX5_seekAlike 67 = .ok (.iinc 2 1, 3) := by decide +kernel
theorem dX5_seekAlike_70 : decode cX5_seekAlike 70 = .ok (.goto (-59), 3) := by decide +kernel
theorem dX5_seekAlike_73 : decode cX5_seekAlike 73 = .ok (.iinc 1 1, 3) := by decide +kernel
theorem dX5_seekAlike_76 : decode cX5_seekAlike 76 = .ok (.goto (-74), 3) := by decide +kernel
theorem dX5_seekAlike_79 : decode cX5_seekAlike 79 = .ok (.return_, 1) := by decide +kernel
theorem dX5_sameKeys_0 : decode cX5_sameKeys 0 = .ok (.aload_n 0, 1) := by decide +kernel
theorem dX5_sameKeys_1 : decode cX5_sameKeys 1 = .ok (.getfield 86, 3) := by decide +kernel
theorem dX5_sameKeys_4 : decode cX5_sameKeys 4 = .ok (.iload_n 1, 1) := by decide +kernel
theorem dX5_sameKeys_5 : decode cX5_sameKeys 5 = .ok (.laload, 1) := by decide +kernel
theorem dX5_sameKeys_6 : decode cX5_sameKeys 6 = .ok (.lconst 0, 1) := by decide +kernel
theorem dX5_sameKeys_7 : decode cX5_sameKeys 7 = .ok (.lcmp, 1) := by decide +kernel
theorem dX5_sameKeys_8 : decode cX5_sameKeys 8 = .ok (.ifCond .eq 23, 3) := by decide +kernel
theorem dX5_sameKeys_11 : decode cX5_sameKeys 11 = .ok (.aload_n 0, 1) := by decide +kernel
theorem dX5_sameKeys_12 : decode cX5_sameKeys 12 = .ok (.getfield 86, 3) := by decide +kernel
theorem dX5_sameKeys_15 : decode cX5_sameKeys 15 = .ok (.iload_n 1, 1) := by decide +kernel
theorem dX5_sameKeys_16 : decode cX5_sameKeys 16 = .ok (.laload, 1) := by decide +kernel
theorem dX5_sameKeys_17 : decode cX5_sameKeys 17 = .ok (.aload_n 0, 1) := by decide +kernel
theorem dX5_sameKeys_18 : decode cX5_sameKeys 18 = .ok (.getfield 86, 3) := by decide +kernel
theorem dX5_sameKeys_21 : decode cX5_sameKeys 21 = .ok (.iload_n 2, 1) := by decide +kernel
theorem dX5_sameKeys_22 : decode cX5_sameKeys 22 = .ok (.laload, 1) := by decide +kernel
theorem dX5_sameKeys_23 : decode cX5_sameKeys 23 = .ok (.lcmp, 1) := by decide +kernel
theorem dX5_sameKeys_24 : decode cX5_sameKeys 24 = .ok (.ifCond .ne 7, 3) := by decide +kernel
theorem dX5_sameKeys_27 : decode cX5_sameKeys 27 = .ok (.iconst 1, 1) := by decide +kernel
theorem dX5_sameKeys_28 : decode cX5_sameKeys 28 = .ok (.goto 4, 3) := by decide +kernel
theorem dX5_sameKeys_31 : decode cX5_sameKeys 31 = .ok (.iconst 0, 1) := by decide +kernel
theorem dX5_sameKeys_32 : decode cX5_sameKeys 32 = .ok (.ireturn, 1) := by decide +kernel
theorem dX6_init_0 : decode cX6_init 0 = .ok (.aload_n 0, 1) := by decide +kernel
theorem dX6_init_1 : decode cX6_init 1 = .ok (.invokespecial 3, 3) := by decide +kernel
theorem dX6_init_4 : decode cX6_init 4 = .ok (.aload_n 0, 1) := by decide +kernel
theorem dX6_init_5 : decode cX6_init 5 = .ok (.iconst 4, 1) := by decide +kernel
theorem dX6_init_6 : decode cX6_init 6 = .ok (.newarray .long, 2) := by decide +kernel
theorem dX6_init_8 : decode cX6_init 8 = .ok (.putfield 9, 3) := by decide +kernel
theorem dX6_init_11 : decode cX6_init 11 = .ok (.return_, 1) := by decide +kernel
theorem dX6_copy_0 : decode cX6_copy 0 = .ok (.aload_n 1, 1) := by decide +kernel
theorem dX6_copy_1 : decode cX6_copy 1 = .ok (.getfield 9, 3) := by decide +kernel
theorem dX6_copy_4 : decode cX6_copy 4 = .ok (.iconst 0, 1) := by decide +kernel
theorem dX6_copy_5 : decode cX6_copy 5 = .ok (.aload_n 0, 1) := by decide +kernel
theorem dX6_copy_6 : decode cX6_copy 6 = .ok (.getfield 9, 3) := by decide +kernel
theorem dX6_copy_9 : decode cX6_copy 9 = .ok (.iconst 0, 1) := by decide +kernel
theorem dX6_copy_10 : decode cX6_copy 10 = .ok (.iconst 4, 1) := by decide +kernel
theorem dX6_copy_11 : decode cX6_copy 11 = .ok (.invokestatic 15, 3) := by decide +kernel
theorem dX6_copy_14 : decode cX6_copy 14 = .ok (.aload_n 0, 1) := by decide +kernel
theorem dX6_copy_15 : decode cX6_copy 15 = .ok (.aload_n 1, 1) := by decide +kernel
theorem dX6_copy_16 : decode cX6_copy 16 = .ok (.getfield 21, 3) := by decide +kernel
theorem dX6_copy_19 : decode cX6_copy 19 = .ok (.putfield 21, 3) := by decide +kernel
theorem dX6_copy_22 : decode cX6_copy 22 = .ok (.return_, 1) := by decide +kernel
theorem dX6_countAll_0 : decode cX6_countAll 0 = .ok (.iconst 0, 1) := by decide +kernel
theorem dX6_countAll_1 : decode cX6_countAll 1 = .ok (.istore_n 1, 1) := by decide +kernel
theorem dX6_countAll_2 : decode cX6_countAll 2 = .ok (.iconst 0, 1) := by decide +kernel
theorem dX6_countAll_3 : decode cX6_countAll 3 = .ok (.istore_n 2, 1) := by decide +kernel
theorem dX6_countAll_4 : decode cX6_countAll 4 = .ok (.iload_n 2, 1) := by decide +kernel
theorem dX6_countAll_5 : decode cX6_countAll 5 = .ok (.iconst 4, 1) := by decide +kernel
theorem dX6_countAll_6 : decode cX6_countAll 6 = .ok (.if_icmp .ge 21, 3) := by decide +kernel
theorem dX6_countAll_9 : decode cX6_countAll 9 = .ok (.iload_n 1, 1) := by decide +kernel
theorem dX6_countAll_10 : decode cX6_countAll 10 = .ok (.aload_n 0, 1) := by decide +kernel
theorem dX6_countAll_11 : decode cX6_countAll 11 = .ok (.getfield 9, 3) := by decide +kernel
theorem dX6_countAll_14 : decode cX6_countAll 14 = .ok (.iload_n 2, 1) := by decide +kernel
theorem dX6_countAll_15 : decode cX6_countAll 15 = .ok (.laload, 1) := by decide +kernel
theorem dX6_countAll_16 : decode cX6_countAll 16 = .ok (.invokestatic 25, 3) := by decide +kernel
theorem dX6_countAll_19 : decode cX6_countAll 19 = .ok (.iadd, 1) := by decide +kernel
theorem dX6_countAll_20 : decode cX6_countAll 20 = .ok (.istore_n 1, 1) := by decide +kernel
theorem dX6_countAll_21 : decode cX6_countAll 21 = .ok (.iinc 2 1, 3) := by decide +kernel
theorem dX6_countAll_24 : decode cX6_countAll 24 = .ok (.goto (-20), 3) := by decide +kernel
theorem dX6_countAll_27 : decode cX6_countAll 27 = .ok (.iload_n 1, 1) := by decide +kernel
theorem dX6_countAll_28 : decode cX6_countAll 28 = .ok (.ireturn, 1) := by decide +kernel
theorem dX6_whyNot_0 : decode cX6_whyNot 0 = .ok (.aload_n 1, 1) := by decide +kernel
theorem dX6_whyNot_1 : decode cX6_whyNot 1 = .ok (.getfield 29, 3) := by decide +kernel
theorem dX6_whyNot_4 : decode cX6_whyNot 4 = .ok (.bipush 33, 2) := by decide +kernel
theorem dX6_whyNot_6 : decode cX6_whyNot 6 = .ok (.if_icmp .ne 20, 3) := by decide +kernel
theorem dX6_whyNot_9 : decode cX6_whyNot 9 = .ok (.aload_n 0, 1) := by decide +kernel
theorem dX6_whyNot_10 : decode cX6_whyNot 10 = .ok (.getfield 21, 3) := by decide +kernel
theorem dX6_whyNot_13 : decode cX6_whyNot 13 = .ok (.sipush 9999, 3) := by decide +kernel
theorem dX6_whyNot_16 : decode cX6_whyNot 16 = .ok (.if_icmp .lt 8, 3) := by decide +kernel
theorem dX6_whyNot_19 : decode cX6_whyNot 19 = .ok (.bipush 6, 2) := by decide +kernel
theorem dX6_whyNot_21 : decode cX6_whyNot 21 = .ok (.goto 4, 3) := by decide +kernel
theorem dX6_whyNot_24 : decode cX6_whyNot 24 = .ok (.iconst 0, 1) := by decide +kernel
theorem dX6_whyNot_25 : decode cX6_whyNot 25 = .ok (.ireturn, 1) := by decide +kernel
theorem dX6_whyNot_26 : decode cX6_whyNot 26 = .ok (.aload_n 1, 1) := by decide +kernel
theorem dX6_whyNot_27 : decode cX6_whyNot 27 = .ok (.getfield 29, 3) := by decide +kernel
theorem dX6_whyNot_30 : decode cX6_whyNot 30 = .ok (.bipush 43, 2) := by decide +kernel
theorem dX6_whyNot_32 : decode cX6_whyNot 32 = .ok (.if_icmp .eq 12, 3) := by decide +kernel
theorem dX6_whyNot_35 : decode cX6_whyNot 35 = .ok (.aload_n 1, 1) := by decide +kernel
theorem dX6_whyNot_36 : decode cX6_whyNot 36 = .ok (.getfield 29, 3) := by decide +kernel
theorem dX6_whyNot_39 : decode cX6_whyNot 39 = .ok (.bipush 45, 2) := by decide +kernel
theorem dX6_whyNot_41 : decode cX6_whyNot 41 = .ok (.if_icmp .ne 34, 3) := by decide +kernel
theorem dX6_whyNot_44 : decode cX6_whyNot 44 = .ok (.aload_n 1, 1) := by decide +kernel
theorem dX6_whyNot_45 : decode cX6_whyNot 45 = .ok (.getfield 29, 3) := by decide +kernel
theorem dX6_whyNot_48 : decode cX6_whyNot 48 = .ok (.bipush 43, 2) := by decide +kernel
theorem dX6_whyNot_50 : decode cX6_whyNot 50 = .ok (.if_icmp .ne 7, 3) := by decide +kernel
theorem dX6_whyNot_53 : decode cX6_whyNot 53 = .ok (.iconst 1, 1) := by decide +kernel
theorem dX6_whyNot_54 : decode cX6_whyNot 54 = .ok (.goto 4, 3) := by decide +kernel
theorem dX6_whyNot_57 : decode cX6_whyNot 57 = .ok (.iconst 0, 1) := by decide +kernel
theorem dX6_whyNot_58 : decode cX6_whyNot 58 = .ok (.aload_n 0, 1) := by decide +kernel
theorem dX6_whyNot_59 : decode cX6_whyNot 59 = .ok (.getfield 9, 3) := by decide +kernel
theorem dX6_whyNot_62 : decode cX6_whyNot 62 = .ok (.aload_n 1, 1) := by decide +kernel
theorem dX6_whyNot_63 : decode cX6_whyNot 63 = .ok (.getfield 34, 3) := by decide +kernel
theorem dX6_whyNot_66 : decode cX6_whyNot 66 = .ok (.laload, 1) := by decide +kernel
theorem dX6_whyNot_67 : decode cX6_whyNot 67 = .ok (.aload_n 1, 1) := by decide +kernel
theorem dX6_whyNot_68 : decode cX6_whyNot 68 = .ok (.getfield 37, 3) := by decide +kernel
theorem dX6_whyNot_71 : decode cX6_whyNot 71 = .ok (.invokestatic 40, 3) := by decide +kernel
theorem dX6_whyNot_74 : decode cX6_whyNot 74 = .ok (.ireturn, 1) := by decide +kernel
theorem dX6_whyNot_75 : decode cX6_whyNot 75 = .ok (.aload_n 1, 1) := by decide +kernel
theorem dX6_whyNot_76 : decode cX6_whyNot 76 = .ok (.getfield 34, 3) := by decide +kernel
theorem dX6_whyNot_79 : decode cX6_whyNot 79 = .ok (.aload_n 1, 1) := by decide +kernel
theorem dX6_whyNot_80 : decode cX6_whyNot 80 = .ok (.getfield 44, 3) := by decide +kernel
theorem dX6_whyNot_83 : decode cX6_whyNot 83 = .ok (.if_icmp .ne 7, 3) := by decide +kernel
theorem dX6_whyNot_86 : decode cX6_whyNot 86 = .ok (.iconst 1, 1) := by decide +kernel
theorem dX6_whyNot_87 : decode cX6_whyNot 87 = .ok (.goto 28, 3) := by decide +kernel
theorem dX6_whyNot_90 : decode cX6_whyNot 90 = .ok (.aload_n 1, 1) := by decide +kernel
theorem dX6_whyNot_91 : decode cX6_whyNot 91 = .ok (.getfield 29, 3) := by decide +kernel
theorem dX6_whyNot_94 : decode cX6_whyNot 94 = .ok (.aload_n 0, 1) := by decide +kernel
theorem dX6_whyNot_95 : decode cX6_whyNot 95 = .ok (.getfield 9, 3) := by decide +kernel
theorem dX6_whyNot_98 : decode cX6_whyNot 98 = .ok (.aload_n 1, 1) := by decide +kernel
theorem dX6_whyNot_99 : decode cX6_whyNot 99 = .ok (.getfield 34, 3) := by decide +kernel
theorem dX6_whyNot_102 : decode cX6_whyNot 102 = .ok (.laload, 1) := by decide +kernel
theorem dX6_whyNot_103 : decode cX6_whyNot 103 = .ok (.aload_n 0, 1) := by decide +kernel
theorem dX6_whyNot_104 : decode cX6_whyNot 104 = .ok (.getfield 9, 3) := by decide +kernel
theorem dX6_whyNot_107 : decode cX6_whyNot 107 = .ok (.aload_n 1, 1) := by decide +kernel
theorem dX6_whyNot_108 : decode cX6_whyNot 108 = .ok (.getfield 44, 3) := by decide +kernel
theorem dX6_whyNot_111 : decode cX6_whyNot 111 = .ok (.laload, 1) := by decide +kernel
theorem dX6_whyNot_112 : decode cX6_whyNot 112 = .ok (.invokestatic 47, 3) := by decide +kernel
theorem dX6_whyNot_115 : decode cX6_whyNot 115 = .ok (.ireturn, 1) := by decide +kernel
theorem dX6_whyNotOne_0 : decode cX6_whyNotOne 0 = .ok (.lload_n 1, 1) := by decide +kernel
theorem dX6_whyNotOne_1 : decode cX6_whyNotOne 1 = .ok (.iload_n 3, 1) := by decide +kernel
theorem dX6_whyNotOne_2 : decode cX6_whyNotOne 2 = .ok (.invokestatic 51, 3) := by decide +kernel
theorem dX6_whyNotOne_5 : decode cX6_whyNotOne 5 = .ok (.iload_n 0, 1) := by decide +kernel
theorem dX6_whyNotOne_6 : decode cX6_whyNotOne 6 = .ok (.if_icmp .ne 5, 3) := by decide +kernel
theorem dX6_whyNotOne_9 : decode cX6_whyNotOne 9 = .ok (.iconst 2, 1) := by decide +kernel
theorem dX6_whyNotOne_10 : decode cX6_whyNotOne 10 = .ok (.ireturn, 1) := by decide +kernel
theorem dX6_whyNotOne_11 : decode cX6_whyNotOne 11 = .ok (.iload_n 0, 1) := by decide +kernel
theorem dX6_whyNotOne_12 : decode cX6_whyNotOne 12 = .ok (.ifCond .eq 16, 3) := by decide +kernel
theorem dX6_whyNotOne_15 : decode cX6_whyNotOne 15 = .ok (.lload_n 1, 1) := by decide +kernel
theorem dX6_whyNotOne_16 : decode cX6_whyNotOne 16 = .ok (.invokestatic 25, 3) := by decide +kernel
theorem dX6_whyNotOne_19 : decode cX6_whyNotOne 19 = .ok (.bipush 40, 2) := by decide +kernel
theorem dX6_whyNotOne_21 : decode cX6_whyNotOne 21 = .ok (.if_icmp .lt 7, 3) := by decide +kernel
theorem dX6_whyNotOne_24 : decode cX6_whyNotOne 24 = .ok (.iconst 3, 1) := by decide +kernel
theorem dX6_whyNotOne_25 : decode cX6_whyNotOne 25 = .ok (.goto 4, 3) := by decide +kernel
theorem dX6_whyNotOne_28 : decode cX6_whyNotOne 28 = .ok (.iconst 0, 1) := by decide +kernel
theorem dX6_whyNotOne_29 : decode cX6_whyNotOne 29 = .ok (.ireturn, 1) := by decide +kernel
theorem dX6_whyNotTwo_0 : decode cX6_whyNotTwo 0 = .ok (.iload_n 0, 1) := by decide +kernel
theorem dX6_whyNotTwo_1 : decode cX6_whyNotTwo 1 = .ok (.bipush 38, 2) := by decide +kernel
theorem dX6_whyNotTwo_3 : decode cX6_whyNotTwo 3 = .ok (.if_icmp .eq 9, 3) := by decide +kernel
theorem dX6_whyNotTwo_6 : decode cX6_whyNotTwo 6 = .ok (.iload_n 0, 1) := by decide +kernel
theorem dX6_whyNotTwo_7 : decode cX6_whyNotTwo 7 = .ok (.bipush 124, 2) := by decide +kernel
theorem dX6_whyNotTwo_9 : decode cX6_whyNotTwo 9 = .ok (.if_icmp .ne 16, 3) := by decide +kernel
theorem dX6_whyNotTwo_12 : decode cX6_whyNotTwo 12 = .ok (.lload_n 1, 1) := by decide +kernel
theorem dX6_whyNotTwo_13 : decode cX6_whyNotTwo 13 = .ok (.lload_n 3, 1) := by decide +kernel
theorem dX6_whyNotTwo_14 : decode cX6_whyNotTwo 14 = .ok (.lor, 1) := by decide +kernel
theorem dX6_whyNotTwo_15 : decode cX6_whyNotTwo 15 = .ok (.invokestatic 25, 3) := by decide +kernel
theorem dX6_whyNotTwo_18 : decode cX6_whyNotTwo 18 = .ok (.bipush 40, 2) := by decide +kernel
theorem dX6_whyNotTwo_20 : decode cX6_whyNotTwo 20 = .ok (.if_icmp .le 5, 3) := by decide +kernel
theorem dX6_whyNotTwo_23 : decode cX6_whyNotTwo 23 = .ok (.iconst 3, 1) := by decide +kernel
theorem dX6_whyNotTwo_24 : decode cX6_whyNotTwo 24 = .ok (.ireturn, 1) := by decide +kernel
theorem dX6_whyNotTwo_25 : decode cX6_whyNotTwo 25 = .ok (.iload_n 0, 1) := by decide +kernel
theorem dX6_whyNotTwo_26 : decode cX6_whyNotTwo 26 = .ok (.bipush 47, 2) := by decide +kernel
theorem dX6_whyNotTwo_28 : decode cX6_whyNotTwo 28 = .ok (.if_icmp .ne 11, 3) := by decide +kernel
theorem dX6_whyNotTwo_31 : decode cX6_whyNotTwo 31 = .ok (.lload_n 3, 1) := by decide +kernel
theorem dX6_whyNotTwo_32 : decode cX6_whyNotTwo 32 = .ok (.lconst 0, 1) := by decide +kernel
theorem dX6_whyNotTwo_33 : decode cX6_whyNotTwo 33 = .ok (.lcmp, 1) := by decide +kernel
theorem dX6_whyNotTwo_34 : decode cX6_whyNotTwo 34 = .ok (.ifCond .eq 5, 3) := by decide +kernel
theorem dX6_whyNotTwo_37 : decode cX6_whyNotTwo 37 = .ok (.iconst 4, 1) := by decide +kernel
theorem dX6_whyNotTwo_38 : decode cX6_whyNotTwo 38 = .ok (.ireturn, 1) := by decide +kernel
theorem dX6_whyNotTwo_39 : decode cX6_whyNotTwo 39 = .ok (.iload_n 0, 1) := by decide +kernel
theorem dX6_whyNotTwo_40 : decode cX6_whyNotTwo 40 = .ok (.bipush 38, 2) := by decide +kernel
theorem dX6_whyNotTwo_42 : decode cX6_whyNotTwo 42 = .ok (.if_icmp .ne 20, 3) := by decide +kernel
theorem dX6_whyNotTwo_45 : decode cX6_whyNotTwo 45 = .ok (.lload_n 3, 1) := by decide +kernel
theorem dX6_whyNotTwo_46 : decode cX6_whyNotTwo 46 = .ok (.lconst 0, 1) := by decide +kernel
theorem dX6_whyNotTwo_47 : decode cX6_whyNotTwo 47 = .ok (.lcmp, 1) := by decide +kernel
theorem dX6_whyNotTwo_48 : decode cX6_whyNotTwo 48 = .ok (.ifCond .eq 14, 3) := by decide +kernel
theorem dX6_whyNotTwo_51 : decode cX6_whyNotTwo 51 = .ok (.lload_n 1, 1) := by decide +kernel
theorem dX6_whyNotTwo_52 : decode cX6_whyNotTwo 52 = .ok (.lload_n 3, 1) := by decide +kernel
theorem dX6_whyNotTwo_53 : decode cX6_whyNotTwo 53 = .ok (.lload_n 3, 1) := by decide +kernel
theorem dX6_whyNotTwo_54 : decode cX6_whyNotTwo 54 = .ok (.lneg, 1) := by decide +kernel
theorem dX6_whyNotTwo_55 : decode cX6_whyNotTwo 55 = .ok (.land, 1) := by decide +kernel
theorem dX6_whyNotTwo_56 : decode cX6_whyNotTwo 56 = .ok (.lcmp, 1) := by decide +kernel
theorem dX6_whyNotTwo_57 : decode cX6_whyNotTwo 57 = .ok (.ifCond .lt 5, 3) := by decide +kernel
theorem dX6_whyNotTwo_60 : decode cX6_whyNotTwo 60 = .ok (.iconst 5, 1) := by decide +kernel
theorem dX6_whyNotTwo_61 : decode cX6_whyNotTwo 61 = .ok (.ireturn, 1) := by decide +kernel
theorem dX6_whyNotTwo_62 : decode cX6_whyNotTwo 62 = .ok (.iconst 0, 1) := by decide +kernel
theorem dX6_whyNotTwo_63 : decode cX6_whyNotTwo 63 = .ok (.ireturn, 1) := by decide +kernel
theorem dX6_play_0 : decode cX6_play 0 = .ok (.aload_n 0, 1) := by decide +kernel
theorem dX6_play_1 : decode cX6_play 1 = .ok (.getfield 9, 3) := by decide +kernel
theorem dX6_play_4 : decode cX6_play 4 = .ok (.aload_n 1, 1) := by decide +kernel
theorem dX6_play_5 : decode cX6_play 5 = .ok (.getfield 34, 3) := by decide +kernel
theorem dX6_play_8 : decode cX6_play 8 = .ok (.laload, 1) := by decide +kernel
theorem dX6_play_9 : decode cX6_play 9 = .ok (.lstore_n 2, 1) := by decide +kernel
theorem dX6_play_10 : decode cX6_play 10 = .ok (.aload_n 0, 1) := by decide +kernel
theorem dX6_play_11 : decode cX6_play 11 = .ok (.getfield 9, 3) := by decide +kernel
theorem dX6_play_14 : decode cX6_play 14 = .ok (.aload_n 1, 1) := by decide +kernel
theorem dX6_play_15 : decode cX6_play 15 = .ok (.getfield 44, 3) := by decide +kernel
theorem dX6_play_18 : decode cX6_play 18 = .ok (.laload, 1) := by decide +kernel
theorem dX6_play_19 : decode cX6_play 19 = .ok (.lstore 4, 2) := by decide +kernel
theorem dX6_play_21 : decode cX6_play 21 = .ok (.aload_n 1, 1) := by decide +kernel
theorem dX6_play_22 : decode cX6_play 22 = .ok (.getfield 29, 3) := by decide +kernel
theorem dX6_play_25 : decode cX6_play 25 = .ok (.lookupswitch 232 #[(38, 156), (43, 67), (45, 88), (47, 113), (61, 182), (124, 196), (126, 212)], 67) := by decide +kernel
theorem dX6_play_92 : decode cX6_play 92 = .ok (.aload_n 0, 1) := by decide +kernel
theorem dX6_play_93 : decode cX6_play 93 = .ok (.getfield 9, 3) := by decide +kernel
theorem dX6_play_96 : decode cX6_play 96 = .ok (.aload_n 1, 1) := by decide +kernel
theorem dX6_play_97 : decode cX6_play 97 = .ok (.getfield 34, 3) := by decide +kernel
theorem dX6_play_100 : decode cX6_play 100 = .ok (.lload_n 2, 1) := by decide +kernel
theorem dX6_play_101 : decode cX6_play 101 = .ok (.aload_n 1, 1) := by decide +kernel
theorem dX6_play_102 : decode cX6_play 102 = .ok (.getfield 37, 3) := by decide +kernel
theorem dX6_play_105 : decode cX6_play 105 = .ok (.invokestatic 55, 3) := by decide +kernel
theorem dX6_play_108 : decode cX6_play 108 = .ok (.lor, 1) := by decide +kernel
theorem dX6_play_109 : decode cX6_play 109 = .ok (.lastore, 1) := by decide +kernel
theorem dX6_play_110 : decode cX6_play 110 = .ok (.goto 157, 3) := by decide +kernel
theorem dX6_play_113 : decode cX6_play 113 = .ok (.aload_n 0, 1) := by decide +kernel
theorem dX6_play_114 : decode cX6_play 114 = .ok (.getfield 9, 3) := by decide +kernel
theorem dX6_play_117 : decode cX6_play 117 = .ok (.aload_n 1, 1) := by decide +kernel
theorem dX6_play_118 : decode cX6_play 118 = .ok (.getfield 34, 3) := by decide +kernel
theorem dX6_play_121 : decode cX6_play 121 = .ok (.lload_n 2, 1) := by decide +kernel
theorem dX6_play_122 : decode cX6_play 122 = .ok (.aload_n 1, 1) := by decide +kernel
theorem dX6_play_123 : decode cX6_play 123 = .ok (.getfield 37, 3) := by decide +kernel
theorem dX6_play_126 : decode cX6_play 126 = .ok (.invokestatic 55, 3) := by decide +kernel
theorem dX6_play_129 : decode cX6_play 129 = .ok (.ldc2_w 59, 3) := by decide +kernel
theorem dX6_play_132 : decode cX6_play 132 = .ok (.lxor, 1) := by decide +kernel
theorem dX6_play_133 : decode cX6_play 133 = .ok (.land, 1) := by decide +kernel
theorem dX6_play_134 : decode cX6_play 134 = .ok (.lastore, 1) := by decide +kernel
theorem dX6_play_135 : decode cX6_play 135 = .ok (.goto 132, 3) := by decide +kernel
theorem dX6_play_138 : decode cX6_play 138 = .ok (.aload_n 0, 1) := by decide +kernel
theorem dX6_play_139 : decode cX6_play 139 = .ok (.getfield 9, 3) := by decide +kernel
theorem dX6_play_142 : decode cX6_play 142 = .ok (.aload_n 1, 1) := by decide +kernel
theorem dX6_play_143 : decode cX6_play 143 = .ok (.getfield 34, 3) := by decide +kernel
theorem dX6_play_146 : decode cX6_play 146 = .ok (.lload_n 2, 1) := by decide +kernel
theorem dX6_play_147 : decode cX6_play 147 = .ok (.aload_n 1, 1) := by decide +kernel
theorem dX6_play_148 : decode cX6_play 148 = .ok (.getfield 37, 3) := by decide +kernel
theorem dX6_play_151 : decode cX6_play 151 = .ok (.invokestatic 61, 3) := by decide +kernel
theorem dX6_play_154 : decode cX6_play 154 = .ok (.land, 1) := by decide +kernel
theorem dX6_play_155 : decode cX6_play 155 = .ok (.lastore, 1) := by decide +kernel
theorem dX6_play_156 : decode cX6_play 156 = .ok (.aload_n 0, 1) := by decide +kernel
theorem dX6_play_157 : decode cX6_play 157 = .ok (.getfield 9, 3) := by decide +kernel
theorem dX6_play_160 : decode cX6_play 160 = .ok (.aload_n 1, 1) := by decide +kernel
theorem dX6_play_161 : decode cX6_play 161 = .ok (.getfield 44, 3) := by decide +kernel
theorem dX6_play_164 : decode cX6_play 164 = .ok (.lload_n 2, 1) := by decide +kernel
theorem dX6_play_165 : decode cX6_play 165 = .ok (.aload_n 1, 1) := by decide +kernel
theorem dX6_play_166 : decode cX6_play 166 = .ok (.getfield 37, 3) := by decide +kernel
theorem dX6_play_169 : decode cX6_play 169 = .ok (.invokestatic 61, 3) := by decide +kernel
theorem dX6_play_172 : decode cX6_play 172 = .ok (.ldc2_w 59, 3) := by decide +kernel
theorem dX6_play_175 : decode cX6_play 175 = .ok (.lxor, 1) := by decide +kernel
theorem dX6_play_176 : decode cX6_play 176 = .ok (.land, 1) := by decide +kernel
theorem dX6_play_177 : decode cX6_play 177 = .ok (.lastore, 1) := by decide +kernel
theorem dX6_play_178 : decode cX6_play 178 = .ok (.goto 89, 3) := by decide +kernel
theorem dX6_play_181 : decode cX6_play 181 = .ok (.aload_n 0, 1) := by decide +kernel
theorem dX6_play_182 : decode cX6_play 182 = .ok (.getfield 9, 3) := by decide +kernel
theorem dX6_play_185 : decode cX6_play 185 = .ok (.aload_n 1, 1) := by decide +kernel
theorem dX6_play_186 : decode cX6_play 186 = .ok (.getfield 34, 3) := by decide +kernel
theorem dX6_play_189 : decode cX6_play 189 = .ok (.lload_n 2, 1) := by decide +kernel
theorem dX6_play_190 : decode cX6_play 190 = .ok (.lload 4, 2) := by decide +kernel
theorem dX6_play_192 : decode cX6_play 192 = .ok (.lor, 1) := by decide +kernel
theorem dX6_play_193 : decode cX6_play 193 = .ok (.lastore, 1) := by decide +kernel
theorem dX6_play_194 : decode cX6_play 194 = .ok (.aload_n 0, 1) := by decide +kernel
theorem dX6_play_195 : decode cX6_play 195 = .ok (.getfield 9, 3) := by decide +kernel
theorem dX6_play_198 : decode cX6_play 198 = .ok (.aload_n 1, 1) := by decide +kernel
theorem dX6_play_199 : decode cX6_play 199 = .ok (.getfield 44, 3) := by decide +kernel
theorem dX6_play_202 : decode cX6_play 202 = .ok (.lconst 0, 1) := by decide +kernel
theorem dX6_play_203 : decode cX6_play 203 = .ok (.lastore, 1) := by decide +kernel
theorem dX6_play_204 : decode cX6_play 204 = .ok (.goto 63, 3) := by decide +kernel
theorem dX6_play_207 : decode cX6_play 207 = .ok (.aload_n 0, 1) := by decide +kernel
theorem dX6_play_208 : decode cX6_play 208 = .ok (.getfield 9, 3) := by decide +kernel
theorem dX6_play_211 : decode cX6_play 211 = .ok (.aload_n 1, 1) := by decide +kernel
theorem dX6_play_212 : decode cX6_play 212 = .ok (.getfield 34, 3) := by decide +kernel
theorem dX6_play_215 : decode cX6_play 215 = .ok (.lload 4, 2) := by decide +kernel
theorem dX6_play_217 : decode cX6_play 217 = .ok (.lastore, 1) := by decide +kernel
theorem dX6_play_218 : decode cX6_play 218 = .ok (.goto 49, 3) := by decide +kernel
theorem dX6_play_221 : decode cX6_play 221 = .ok (.aload_n 0, 1) := by decide +kernel
theorem dX6_play_222 : decode cX6_play 222 = .ok (.getfield 9, 3) := by decide +kernel
theorem dX6_play_225 : decode cX6_play 225 = .ok (.aload_n 1, 1) := by decide +kernel
theorem dX6_play_226 : decode cX6_play 226 = .ok (.getfield 34, 3) := by decide +kernel
theorem dX6_play_229 : decode cX6_play 229 = .ok (.lload_n 2, 1) := by decide +kernel
theorem dX6_play_230 : decode cX6_play 230 = .ok (.lload 4, 2) := by decide +kernel
theorem dX6_play_232 : decode cX6_play 232 = .ok (.lor, 1) := by decide +kernel
theorem dX6_play_233 : decode cX6_play 233 = .ok (.lastore, 1) := by decide +kernel
theorem dX6_play_234 : decode cX6_play 234 = .ok (.goto 33, 3) := by decide +kernel
theorem dX6_play_237 : decode cX6_play 237 = .ok (.aload_n 0, 1) := by decide +kernel
theorem dX6_play_238 : decode cX6_play 238 = .ok (.getfield 9, 3) := by decide +kernel
theorem dX6_play_241 : decode cX6_play 241 = .ok (.aload_n 1, 1) := by decide +kernel
theorem dX6_play_242 : decode cX6_play 242 = .ok (.getfield 34, 3) := by decide +kernel
theorem dX6_play_245 : decode cX6_play 245 = .ok (.lload_n 2, 1) := by decide +kernel
theorem dX6_play_246 : decode cX6_play 246 = .ok (.lload 4, 2) := by decide +kernel
theorem dX6_play_248 : decode cX6_play 248 = .ok (.ldc2_w 59, 3) := by decide +kernel
theorem dX6_play_251 : decode cX6_play 251 = .ok (.lxor, 1) := by decide +kernel
theorem dX6_play_252 : decode cX6_play 252 = .ok (.land, 1) := by decide +kernel
theorem dX6_play_253 : decode cX6_play 253 = .ok (.lastore, 1) := by decide +kernel
theorem dX6_play_254 : decode cX6_play 254 = .ok (.goto 13, 3) := by decide +kernel
theorem dX6_play_257 : decode cX6_play 257 = .ok (.aload_n 0, 1) := by decide +kernel
theorem dX6_play_258 : decode cX6_play 258 = .ok (.dup, 1) := by decide +kernel
theorem dX6_play_259 : decode cX6_play 259 = .ok (.getfield 21, 3) := by decide +kernel
theorem dX6_play_262 : decode cX6_play 262 = .ok (.iconst 1, 1) := by decide +kernel
theorem dX6_play_263 : decode cX6_play 263 = .ok (.iadd, 1) := by decide +kernel
theorem dX6_play_264 : decode cX6_play 264 = .ok (.putfield 21, 3) := by decide +kernel
theorem dX6_play_267 : decode cX6_play 267 = .ok (.return_, 1) := by decide +kernel
theorem dJ13_bitCount_95d88_0 : decode cJ13_bitCount_95d88 0 = .ok (.lload_n 0, 1) := by decide +kernel
theorem dJ13_bitCount_95d88_1 : decode cJ13_bitCount_95d88 1 = .ok (.lload_n 0, 1) := by decide +kernel
theorem dJ13_bitCount_95d88_2 : decode cJ13_bitCount_95d88 2 = .ok (.iconst 1, 1) := by decide +kernel
theorem dJ13_bitCount_95d88_3 : decode cJ13_bitCount_95d88 3 = .ok (.lushr, 1) := by decide +kernel
theorem dJ13_bitCount_95d88_4 : decode cJ13_bitCount_95d88 4 = .ok (.ldc2_w 314, 3) := by decide +kernel
theorem dJ13_bitCount_95d88_7 : decode cJ13_bitCount_95d88 7 = .ok (.land, 1) := by decide +kernel
theorem dJ13_bitCount_95d88_8 : decode cJ13_bitCount_95d88 8 = .ok (.lsub, 1) := by decide +kernel
theorem dJ13_bitCount_95d88_9 : decode cJ13_bitCount_95d88 9 = .ok (.lstore_n 0, 1) := by decide +kernel
theorem dJ13_bitCount_95d88_10 : decode cJ13_bitCount_95d88 10 = .ok (.lload_n 0, 1) := by decide +kernel
theorem dJ13_bitCount_95d88_11 : decode cJ13_bitCount_95d88 11 = .ok (.ldc2_w 316, 3) := by decide +kernel
theorem dJ13_bitCount_95d88_14 : decode cJ13_bitCount_95d88 14 = .ok (.land, 1) := by decide +kernel
theorem dJ13_bitCount_95d88_15 : decode cJ13_bitCount_95d88 15 = .ok (.lload_n 0, 1) := by decide +kernel
theorem dJ13_bitCount_95d88_16 : decode cJ13_bitCount_95d88 16 = .ok (.iconst 2, 1) := by decide +kernel
theorem dJ13_bitCount_95d88_17 : decode cJ13_bitCount_95d88 17 = .ok (.lushr, 1) := by decide +kernel
theorem dJ13_bitCount_95d88_18 : decode cJ13_bitCount_95d88 18 = .ok (.ldc2_w 316, 3) := by decide +kernel
theorem dJ13_bitCount_95d88_21 : decode cJ13_bitCount_95d88 21 = .ok (.land, 1) := by decide +kernel
theorem dJ13_bitCount_95d88_22 : decode cJ13_bitCount_95d88 22 = .ok (.ladd, 1) := by decide +kernel
theorem dJ13_bitCount_95d88_23 : decode cJ13_bitCount_95d88 23 = .ok (.lstore_n 0, 1) := by decide +kernel
theorem dJ13_bitCount_95d88_24 : decode cJ13_bitCount_95d88 24 = .ok (.lload_n 0, 1) := by decide +kernel
theorem dJ13_bitCount_95d88_25 : decode cJ13_bitCount_95d88 25 = .ok (.lload_n 0, 1) := by decide +kernel
theorem dJ13_bitCount_95d88_26 : decode cJ13_bitCount_95d88 26 = .ok (.iconst 4, 1) := by decide +kernel
theorem dJ13_bitCount_95d88_27 : decode cJ13_bitCount_95d88 27 = .ok (.lushr, 1) := by decide +kernel
theorem dJ13_bitCount_95d88_28 : decode cJ13_bitCount_95d88 28 = .ok (.ladd, 1) := by decide +kernel
theorem dJ13_bitCount_95d88_29 : decode cJ13_bitCount_95d88 29 = .ok (.ldc2_w 318, 3) := by decide +kernel
theorem dJ13_bitCount_95d88_32 : decode cJ13_bitCount_95d88 32 = .ok (.land, 1) := by decide +kernel
theorem dJ13_bitCount_95d88_33 : decode cJ13_bitCount_95d88 33 = .ok (.lstore_n 0, 1) := by decide +kernel
theorem dJ13_bitCount_95d88_34 : decode cJ13_bitCount_95d88 34 = .ok (.lload_n 0, 1) := by decide +kernel
theorem dJ13_bitCount_95d88_35 : decode cJ13_bitCount_95d88 35 = .ok (.lload_n 0, 1) := by decide +kernel
theorem dJ13_bitCount_95d88_36 : decode cJ13_bitCount_95d88 36 = .ok (.bipush 8, 2) := by decide +kernel
theorem dJ13_bitCount_95d88_38 : decode cJ13_bitCount_95d88 38 = .ok (.lushr, 1) := by decide +kernel
theorem dJ13_bitCount_95d88_39 : decode cJ13_bitCount_95d88 39 = .ok (.ladd, 1) := by decide +kernel
theorem dJ13_bitCount_95d88_40 : decode cJ13_bitCount_95d88 40 = .ok (.lstore_n 0, 1) := by decide +kernel
theorem dJ13_bitCount_95d88_41 : decode cJ13_bitCount_95d88 41 = .ok (.lload_n 0, 1) := by decide +kernel
theorem dJ13_bitCount_95d88_42 : decode cJ13_bitCount_95d88 42 = .ok (.lload_n 0, 1) := by decide +kernel
theorem dJ13_bitCount_95d88_43 : decode cJ13_bitCount_95d88 43 = .ok (.bipush 16, 2) := by decide +kernel
theorem dJ13_bitCount_95d88_45 : decode cJ13_bitCount_95d88 45 = .ok (.lushr, 1) := by decide +kernel
theorem dJ13_bitCount_95d88_46 : decode cJ13_bitCount_95d88 46 = .ok (.ladd, 1) := by decide +kernel
theorem dJ13_bitCount_95d88_47 : decode cJ13_bitCount_95d88 47 = .ok (.lstore_n 0, 1) := by decide +kernel
theorem dJ13_bitCount_95d88_48 : decode cJ13_bitCount_95d88 48 = .ok (.lload_n 0, 1) := by decide +kernel
theorem dJ13_bitCount_95d88_49 : decode cJ13_bitCount_95d88 49 = .ok (.lload_n 0, 1) := by decide +kernel
theorem dJ13_bitCount_95d88_50 : decode cJ13_bitCount_95d88 50 = .ok (.bipush 32, 2) := by decide +kernel
theorem dJ13_bitCount_95d88_52 : decode cJ13_bitCount_95d88 52 = .ok (.lushr, 1) := by decide +kernel
theorem dJ13_bitCount_95d88_53 : decode cJ13_bitCount_95d88 53 = .ok (.ladd, 1) := by decide +kernel
theorem dJ13_bitCount_95d88_54 : decode cJ13_bitCount_95d88 54 = .ok (.lstore_n 0, 1) := by decide +kernel
theorem dJ13_bitCount_95d88_55 : decode cJ13_bitCount_95d88 55 = .ok (.lload_n 0, 1) := by decide +kernel
theorem dJ13_bitCount_95d88_56 : decode cJ13_bitCount_95d88 56 = .ok (.l2i, 1) := by decide +kernel
theorem dJ13_bitCount_95d88_57 : decode cJ13_bitCount_95d88 57 = .ok (.bipush 127, 2) := by decide +kernel
theorem dJ13_bitCount_95d88_59 : decode cJ13_bitCount_95d88 59 = .ok (.iand, 1) := by decide +kernel
theorem dJ13_bitCount_95d88_60 : decode cJ13_bitCount_95d88 60 = .ok (.ireturn, 1) := by decide +kernel
theorem dJ9_abs_0f7a4_0 : decode cJ9_abs_0f7a4 0 = .ok (.iload_n 0, 1) := by decide +kernel
theorem dJ9_abs_0f7a4_1 : decode cJ9_abs_0f7a4 1 = .ok (.ifCond .ge 8, 3) := by decide +kernel
theorem dJ9_abs_0f7a4_4 : decode cJ9_abs_0f7a4 4 = .ok (.iload_n 0, 1) := by decide +kernel
theorem dJ9_abs_0f7a4_5 : decode cJ9_abs_0f7a4 5 = .ok (.ineg, 1) := by decide +kernel
theorem dJ9_abs_0f7a4_6 : decode cJ9_abs_0f7a4 6 = .ok (.goto 4, 3) := by decide +kernel
theorem dJ9_abs_0f7a4_9 : decode cJ9_abs_0f7a4 9 = .ok (.iload_n 0, 1) := by decide +kernel
theorem dJ9_abs_0f7a4_10 : decode cJ9_abs_0f7a4 10 = .ok (.ireturn, 1) := by decide +kernel
theorem dJ9_max_7cf53_0 : decode cJ9_max_7cf53 0 = .ok (.iload_n 0, 1) := by decide +kernel
theorem dJ9_max_7cf53_1 : decode cJ9_max_7cf53 1 = .ok (.iload_n 1, 1) := by decide +kernel
theorem dJ9_max_7cf53_2 : decode cJ9_max_7cf53 2 = .ok (.if_icmp .lt 7, 3) := by decide +kernel
theorem dJ9_max_7cf53_5 : decode cJ9_max_7cf53 5 = .ok (.iload_n 0, 1) := by decide +kernel
theorem dJ9_max_7cf53_6 : decode cJ9_max_7cf53 6 = .ok (.goto 4, 3) := by decide +kernel
theorem dJ9_max_7cf53_9 : decode cJ9_max_7cf53 9 = .ok (.iload_n 1, 1) := by decide +kernel
theorem dJ9_max_7cf53_10 : decode cJ9_max_7cf53 10 = .ok (.ireturn, 1) := by decide +kernel
theorem dJ9_max_f86c9_0 : decode cJ9_max_f86c9 0 = .ok (.lload_n 0, 1) := by decide +kernel
theorem dJ9_max_f86c9_1 : decode cJ9_max_f86c9 1 = .ok (.lload_n 2, 1) := by decide +kernel
theorem dJ9_max_f86c9_2 : decode cJ9_max_f86c9 2 = .ok (.lcmp, 1) := by decide +kernel
theorem dJ9_max_f86c9_3 : decode cJ9_max_f86c9 3 = .ok (.ifCond .lt 7, 3) := by decide +kernel
theorem dJ9_max_f86c9_6 : decode cJ9_max_f86c9 6 = .ok (.lload_n 0, 1) := by decide +kernel
theorem dJ9_max_f86c9_7 : decode cJ9_max_f86c9 7 = .ok (.goto 4, 3) := by decide +kernel
theorem dJ9_max_f86c9_10 : decode cJ9_max_f86c9 10 = .ok (.lload_n 2, 1) := by decide +kernel
theorem dJ9_max_f86c9_11 : decode cJ9_max_f86c9 11 = .ok (.lreturn, 1) := by decide +kernel
