theorem dX12_leastNow_0 : decode cX12_leastNow 0 = .ok (.sipush 1000, 3) := by decide +kernel
theorem dX12_leastNow_3 : decode cX12_leastNow 3 = .ok (.istore_n 2, 1) := by decide +kernel
theorem dX12_leastNow_4 : decode cX12_leastNow 4 = .ok (.iconst 0, 1) := by decide +kernel
theorem dX12_leastNow_5 : decode cX12_leastNow 5 = .ok (.istore_n 3, 1) := by decide +kernel
theorem dX12_leastNow_6 : decode cX12_leastNow 6 = .ok (.iload_n 3, 1) := by decide +kernel
theorem dX12_leastNow_7 : decode cX12_leastNow 7 = .ok (.aload_n 0, 1) := by decide +kernel
theorem dX12_leastNow_8 : decode cX12_leastNow 8 = .ok (.getfield 121, 3) := by decide +kernel
theorem dX12_leastNow_11 : decode cX12_leastNow 11 = .ok (.if_icmp .ge 35, 3) := by decide +kernel
theorem dX12_leastNow_14 : decode cX12_leastNow 14 = .ok (.aload_n 0, 1) := by decide +kernel
theorem dX12_leastNow_15 : decode cX12_leastNow 15 = .ok (.getfield 40, 3) := by decide +kernel
theorem dX12_leastNow_18 : decode cX12_leastNow 18 = .ok (.bipush 10, 2) := by decide +kernel
theorem dX12_leastNow_20 : decode cX12_leastNow 20 = .ok (.iload_n 1, 1) := by decide +kernel
theorem dX12_leastNow_21 : decode cX12_leastNow 21 = .ok (.imul, 1) := by decide +kernel
theorem dX12_leastNow_22 : decode cX12_leastNow 22 = .ok (.iload_n 3, 1) := by decide +kernel
theorem dX12_leastNow_23 : decode cX12_leastNow 23 = .ok (.iadd, 1) := by decide +kernel
theorem dX12_leastNow_24 : decode cX12_leastNow 24 = .ok (.iaload, 1) := by decide +kernel
theorem dX12_leastNow_25 : decode cX12_leastNow 25 = .ok (.istore 4, 2) := by decide +kernel
theorem dX12_leastNow_27 : decode cX12_leastNow 27 = .ok (.iload 4, 2) := by decide +kernel
theorem dX12_leastNow_29 : decode cX12_leastNow 29 = .ok (.iload_n 2, 1) := by decide +kernel
theorem dX12_leastNow_30 : decode cX12_leastNow 30 = .ok (.if_icmp .ge 8, 3) := by decide +kernel
theorem dX12_leastNow_33 : decode cX12_leastNow 33 = .ok (.iload 4, 2) := by decide +kernel
theorem dX12_leastNow_35 : decode cX12_leastNow 35 = .ok (.goto 4, 3) := by decide +kernel
theorem dX12_leastNow_38 : decode cX12_leastNow 38 = .ok (.iload_n 2, 1) := by decide +kernel
theorem dX12_leastNow_39 : decode cX12_leastNow 39 = .ok (.istore_n 2, 1) := by decide +kernel
theorem dX12_leastNow_40 : decode cX12_leastNow 40 = .ok (.iinc 3 1, 3) := by decide +kernel
theorem dX12_leastNow_43 : decode cX12_leastNow 43 = .ok (.goto (-37), 3) := by decide +kernel
theorem dX12_leastNow_46 : decode cX12_leastNow 46 = .ok (.iload_n 2, 1) := by decide +kernel
theorem dX12_leastNow_47 : decode cX12_leastNow 47 = .ok (.ireturn, 1) := by decide +kernel
theorem dX12_best_0 : decode cX12_best 0 = .ok (.aload_n 0, 1) := by decide +kernel
theorem dX12_best_1 : decode cX12_best 1 = .ok (.iload_n 1, 1) := by decide +kernel
theorem dX12_best_2 : decode cX12_best 2 = .ok (.invokevirtual 111, 3) := by decide +kernel
theorem dX12_best_5 : decode cX12_best 5 = .ok (.ifCond .ne 46, 3) := by decide +kernel
theorem dX12_best_8 : decode cX12_best 8 = .ok (.iload_n 2, 1) := by decide +kernel
theorem dX12_best_9 : decode cX12_best 9 = .ok (.i2l, 1) := by decide +kernel
theorem dX12_best_10 : decode cX12_best 10 = .ok (.lconst 0, 1) := by decide +kernel
theorem dX12_best_11 : decode cX12_best 11 = .ok (.aload_n 0, 1) := by decide +kernel
theorem dX12_best_12 : decode cX12_best 12 = .ok (.getfield 174, 3) := by decide +kernel
theorem dX12_best_15 : decode cX12_best 15 = .ok (.iconst 1, 1) := by decide +kernel
theorem dX12_best_16 : decode cX12_best 16 = .ok (.isub, 1) := by decide +kernel
theorem dX12_best_17 : decode cX12_best 17 = .ok (.i2l, 1) := by decide +kernel
theorem dX12_best_18 : decode cX12_best 18 = .ok (.invokestatic 100, 3) := by decide +kernel
theorem dX12_best_21 : decode cX12_best 21 = .ok (.ifCond .eq 30, 3) := by decide +kernel
theorem dX12_best_24 : decode cX12_best 24 = .ok (.iload_n 3, 1) := by decide +kernel
theorem dX12_best_25 : decode cX12_best 25 = .ok (.i2l, 1) := by decide +kernel
theorem dX12_best_26 : decode cX12_best 26 = .ok (.lconst 1, 1) := by decide +kernel
theorem dX12_best_27 : decode cX12_best 27 = .ok (.aload_n 0, 1) := by decide +kernel
theorem dX12_best_28 : decode cX12_best 28 = .ok (.getfield 121, 3) := by decide +kernel
theorem dX12_best_31 : decode cX12_best 31 = .ok (.i2l, 1) := by decide +kernel
theorem dX12_best_32 : decode cX12_best 32 = .ok (.invokestatic 100, 3) := by decide +kernel
theorem dX12_best_35 : decode cX12_best 35 = .ok (.ifCond .eq 16, 3) := by decide +kernel
theorem dX12_best_38 : decode cX12_best 38 = .ok (.iload 4, 2) := by decide +kernel
theorem dX12_best_40 : decode cX12_best 40 = .ok (.i2l, 1) := by decide +kernel
theorem dX12_best_41 : decode cX12_best 41 = .ok (.lconst 0, 1) := by decide +kernel
theorem dX12_best_42 : decode cX12_best 42 = .ok (.ldc2_w 190, 3) := by decide +kernel
theorem dX12_best_45 : decode cX12_best 45 = .ok (.invokestatic 100, 3) := by decide +kernel
theorem dX12_best_48 : decode cX12_best 48 = .ok (.ifCond .ne 6, 3) := by decide +kernel
theorem dX12_best_51 : decode cX12_best 51 = .ok (.bipush (-2), 2) := by decide +kernel
theorem dX12_best_53 : decode cX12_best 53 = .ok (.ireturn, 1) := by decide +kernel
theorem dX12_best_54 : decode cX12_best 54 = .ok (.iconst (-1), 1) := by decide +kernel
theorem dX12_best_55 : decode cX12_best 55 = .ok (.istore 5, 2) := by decide +kernel
theorem dX12_best_57 : decode cX12_best 57 = .ok (.iconst 0, 1) := by decide +kernel
theorem dX12_best_58 : decode cX12_best 58 = .ok (.istore 6, 2) := by decide +kernel
theorem dX12_best_60 : decode cX12_best 60 = .ok (.iconst 0, 1) := by decide +kernel
theorem dX12_best_61 : decode cX12_best 61 = .ok (.istore 7, 2) := by decide +kernel
theorem dX12_best_63 : decode cX12_best 63 = .ok (.iconst 1, 1) := by decide +kernel
theorem dX12_best_64 : decode cX12_best 64 = .ok (.istore 8, 2) := by decide +kernel
theorem dX12_best_66 : decode cX12_best 66 = .ok (.iload 8, 2) := by decide +kernel
theorem dX12_best_68 : decode cX12_best 68 = .ok (.iconst 1, 1) := by decide +kernel
theorem dX12_best_69 : decode cX12_best 69 = .ok (.aload_n 0, 1) := by decide +kernel
theorem dX12_best_70 : decode cX12_best 70 = .ok (.getfield 121, 3) := by decide +kernel
theorem dX12_best_73 : decode cX12_best 73 = .ok (.ishl, 1) := by decide +kernel
theorem dX12_best_74 : decode cX12_best 74 = .ok (.if_icmp .ge 103, 3) := by decide +kernel
theorem dX12_best_77 : decode cX12_best 77 = .ok (.iload 8, 2) := by decide +kernel
theorem dX12_best_79 : decode cX12_best 79 = .ok (.invokestatic 192, 3) := by decide +kernel
theorem dX12_best_82 : decode cX12_best 82 = .ok (.iload_n 3, 1) := by decide +kernel
theorem dX12_best_83 : decode cX12_best 83 = .ok (.if_icmp .ne 88, 3) := by decide +kernel
theorem dX12_best_86 : decode cX12_best 86 = .ok (.aload_n 0, 1) := by decide +kernel
theorem dX12_best_87 : decode cX12_best 87 = .ok (.iconst 0, 1) := by decide +kernel
theorem dX12_best_88 : decode cX12_best 88 = .ok (.iconst 1, 1) := by decide +kernel
theorem dX12_best_89 : decode cX12_best 89 = .ok (.invokevirtual 180, 3) := by decide +kernel
theorem dX12_best_92 : decode cX12_best 92 = .ok (.aload_n 0, 1) := by decide +kernel
theorem dX12_best_93 : decode cX12_best 93 = .ok (.iconst 1, 1) := by decide +kernel
theorem dX12_best_94 : decode cX12_best 94 = .ok (.iload_n 1, 1) := by decide +kernel
theorem dX12_best_95 : decode cX12_best 95 = .ok (.iload 8, 2) := by decide +kernel
theorem dX12_best_97 : decode cX12_best 97 = .ok (.aload_n 0, 1) := by decide +kernel
theorem dX12_best_98 : decode cX12_best 98 = .ok (.getfield 52, 3) := by decide +kernel
theorem dX12_best_101 : decode cX12_best 101 = .ok (.iload_n 2, 1) := by decide +kernel
theorem dX12_best_102 : decode cX12_best 102 = .ok (.iaload, 1) := by decide +kernel
theorem dX12_best_103 : decode cX12_best 103 = .ok (.aload_n 0, 1) := by decide +kernel
theorem dX12_best_104 : decode cX12_best 104 = .ok (.getfield 55, 3) := by decide +kernel
theorem dX12_best_107 : decode cX12_best 107 = .ok (.iload_n 2, 1) := by decide +kernel
theorem dX12_best_108 : decode cX12_best 108 = .ok (.iaload, 1) := by decide +kernel
theorem dX12_best_109 : decode cX12_best 109 = .ok (.aload_n 0, 1) := by decide +kernel
theorem dX12_best_110 : decode cX12_best 110 = .ok (.getfield 58, 3) := by decide +kernel
theorem dX12_best_113 : decode cX12_best 113 = .ok (.iload_n 2, 1) := by decide +kernel
theorem dX12_best_114 : decode cX12_best 114 = .ok (.iaload, 1) := by decide +kernel
theorem dX12_best_115 : decode cX12_best 115 = .ok (.iconst 0, 1) := by decide +kernel
theorem dX12_best_116 : decode cX12_best 116 = .ok (.invokevirtual 170, 3) := by decide +kernel
theorem dX12_best_119 : decode cX12_best 119 = .ok (.istore 9, 2) := by decide +kernel
theorem dX12_best_121 : decode cX12_best 121 = .ok (.aload_n 0, 1) := by decide +kernel
theorem dX12_best_122 : decode cX12_best 122 = .ok (.iconst 1, 1) := by decide +kernel
theorem dX12_best_123 : decode cX12_best 123 = .ok (.invokevirtual 196, 3) := by decide +kernel
theorem dX12_best_126 : decode cX12_best 126 = .ok (.istore 10, 2) := by decide +kernel
theorem dX12_best_128 : decode cX12_best 128 = .ok (.iload 9, 2) := by decide +kernel
theorem dX12_best_130 : decode cX12_best 130 = .ok (.ifCond .le 41, 3) := by decide +kernel
theorem dX12_best_133 : decode cX12_best 133 = .ok (.iload 5, 2) := by decide +kernel
theorem dX12_best_135 : decode cX12_best 135 = .ok (.ifCond .lt 24, 3) := by decide +kernel
theorem dX12_best_138 : decode cX12_best 138 = .ok (.iload 9, 2) := by decide +kernel
theorem dX12_best_140 : decode cX12_best 140 = .ok (.iload 6, 2) := by decide +kernel
theorem dX12_best_142 : decode cX12_best 142 = .ok (.if_icmp .lt 17, 3) := by decide +kernel
theorem dX12_best_145 : decode cX12_best 145 = .ok (.iload 9, 2) := by decide +kernel
theorem dX12_best_147 : decode cX12_best 147 = .ok (.iload 6, 2) := by decide +kernel
theorem dX12_best_149 : decode cX12_best 149 = .ok (.if_icmp .ne 22, 3) := by decide +kernel
theorem dX12_best_152 : decode cX12_best 152 = .ok (.iload 10, 2) := by decide +kernel
theorem dX12_best_154 : decode cX12_best 154 = .ok (.iload 7, 2) := by decide +kernel
theorem dX12_best_156 : decode cX12_best 156 = .ok (.if_icmp .le 15, 3) := by decide +kernel
theorem dX12_best_159 : decode cX12_best 159 = .ok (.iload 8, 2) := by decide +kernel
theorem dX12_best_161 : decode cX12_best 161 = .ok (.istore 5, 2) := by decide +kernel
theorem dX12_best_163 : decode cX12_best 163 = .ok (.iload 9, 2) := by decide +kernel
theorem dX12_best_165 : decode cX12_best 165 = .ok (.istore 6, 2) := by decide +kernel
theorem dX12_best_167 : decode cX12_best 167 = .ok (.iload 10, 2) := by decide +kernel
theorem dX12_best_169 : decode cX12_best 169 = .ok (.istore 7, 2) := by decide +kernel
theorem dX12_best_171 : decode cX12_best 171 = .ok (.iinc 8 1, 3) := by decide +kernel
theorem dX12_best_174 : decode cX12_best 174 = .ok (.goto (-108), 3) := by decide +kernel
theorem dX12_best_177 : decode cX12_best 177 = .ok (.iload 5, 2) := by decide +kernel
theorem dX12_best_179 : decode cX12_best 179 = .ok (.ifCond .ge 7, 3) := by decide +kernel
theorem dX12_best_182 : decode cX12_best 182 = .ok (.iconst (-1), 1) := by decide +kernel
theorem dX12_best_183 : decode cX12_best 183 = .ok (.goto 26, 3) := by decide +kernel
theorem dX12_best_186 : decode cX12_best 186 = .ok (.iload 4, 2) := by decide +kernel
theorem dX12_best_188 : decode cX12_best 188 = .ok (.ifCond .ne 8, 3) := by decide +kernel
theorem dX12_best_191 : decode cX12_best 191 = .ok (.iload 5, 2) := by decide +kernel
theorem dX12_best_193 : decode cX12_best 193 = .ok (.goto 16, 3) := by decide +kernel
theorem dX12_best_196 : decode cX12_best 196 = .ok (.iload 4, 2) := by decide +kernel
theorem dX12_best_198 : decode cX12_best 198 = .ok (.iconst 1, 1) := by decide +kernel
theorem dX12_best_199 : decode cX12_best 199 = .ok (.if_icmp .ne 8, 3) := by decide +kernel
theorem dX12_best_202 : decode cX12_best 202 = .ok (.iload 6, 2) := by decide +kernel
theorem dX12_best_204 : decode cX12_best 204 = .ok (.goto 5, 3) := by decide +kernel
theorem dX12_best_207 : decode cX12_best 207 = .ok (.iload 7, 2) := by decide +kernel
theorem dX12_best_209 : decode cX12_best 209 = .ok (.ireturn, 1) := by decide +kernel
theorem dX12_between_0 : decode cX12_between 0 = .ok (.iload_n 1, 1) := by decide +kernel
theorem dX12_between_1 : decode cX12_between 1 = .ok (.i2l, 1) := by decide +kernel
theorem dX12_between_2 : decode cX12_between 2 = .ok (.lconst 0, 1) := by decide +kernel
theorem dX12_between_3 : decode cX12_between 3 = .ok (.ldc2_w 164, 3) := by decide +kernel
theorem dX12_between_6 : decode cX12_between 6 = .ok (.invokestatic 100, 3) := by decide +kernel
theorem dX12_between_9 : decode cX12_between 9 = .ok (.ifCond .ne 6, 3) := by decide +kernel
theorem dX12_between_12 : decode cX12_between 12 = .ok (.bipush (-2), 2) := by decide +kernel
theorem dX12_between_14 : decode cX12_between 14 = .ok (.ireturn, 1) := by decide +kernel
theorem dX12_between_15 : decode cX12_between 15 = .ok (.aload_n 0, 1) := by decide +kernel
theorem dX12_between_16 : decode cX12_between 16 = .ok (.getfield 177, 3) := by decide +kernel
theorem dX12_between_19 : decode cX12_between 19 = .ok (.istore_n 2, 1) := by decide +kernel
theorem dX12_between_20 : decode cX12_between 20 = .ok (.aload_n 0, 1) := by decide +kernel
theorem dX12_between_21 : decode cX12_between 21 = .ok (.iload_n 1, 1) := by decide +kernel
theorem dX12_between_22 : decode cX12_between 22 = .ok (.putfield 177, 3) := by decide +kernel
theorem dX12_between_25 : decode cX12_between 25 = .ok (.iload_n 2, 1) := by decide +kernel
theorem dX12_between_26 : decode cX12_between 26 = .ok (.ireturn, 1) := by decide +kernel
theorem dX12_count_0 : decode cX12_count 0 = .ok (.iload_n 1, 1) := by decide +kernel
theorem dX12_count_1 : decode cX12_count 1 = .ok (.tableswitch 96 0 8 #[51, 56, 61, 66, 71, 76, 81, 86, 91], 51) := by decide +kernel
theorem dX12_count_52 : decode cX12_count 52 = .ok (.aload_n 0, 1) := by decide +kernel
theorem dX12_count_53 : decode cX12_count 53 = .ok (.getfield 108, 3) := by decide +kernel
theorem dX12_count_56 : decode cX12_count 56 = .ok (.ireturn, 1) := by decide +kernel
theorem dX12_count_57 : decode cX12_count 57 = .ok (.aload_n 0, 1) := by decide +kernel
theorem dX12_count_58 : decode cX12_count 58 = .ok (.getfield 121, 3) := by decide +kernel
theorem dX12_count_61 : decode cX12_count 61 = .ok (.ireturn, 1) := by decide +kernel
theorem dX12_count_62 : decode cX12_count 62 = .ok (.aload_n 0, 1) := by decide +kernel
theorem dX12_count_63 : decode cX12_count 63 = .ok (.getfield 128, 3) := by decide +kernel
theorem dX12_count_66 : decode cX12_count 66 = .ok (.ireturn, 1) := by decide +kernel
theorem dX12_count_67 : decode cX12_count 67 = .ok (.aload_n 0, 1) := by decide +kernel
theorem dX12_count_68 : decode cX12_count 68 = .ok (.getfield 134, 3) := by decide +kernel
theorem dX12_count_71 : decode cX12_count 71 = .ok (.ireturn, 1) := by decide +kernel
theorem dX12_count_72 : decode cX12_count 72 = .ok (.aload_n 0, 1) := by decide +kernel
theorem dX12_count_73 : decode cX12_count 73 = .ok (.getfield 174, 3) := by decide +kernel
theorem dX12_count_76 : decode cX12_count 76 = .ok (.ireturn, 1) := by decide +kernel
theorem dX12_count_77 : decode cX12_count 77 = .ok (.aload_n 0, 1) := by decide +kernel
theorem dX12_count_78 : decode cX12_count 78 = .ok (.getfield 201, 3) := by decide +kernel
theorem dX12_count_81 : decode cX12_count 81 = .ok (.ireturn, 1) := by decide +kernel
theorem dX12_count_82 : decode cX12_count 82 = .ok (.aload_n 0, 1) := by decide +kernel
theorem dX12_count_83 : decode cX12_count 83 = .ok (.getfield 227, 3) := by decide +kernel
theorem dX12_count_86 : decode cX12_count 86 = .ok (.ireturn, 1) := by decide +kernel
theorem dX12_count_87 : decode cX12_count 87 = .ok (.aload_n 0, 1) := by decide +kernel
theorem dX12_count_88 : decode cX12_count 88 = .ok (.getfield 104, 3) := by decide +kernel
theorem dX12_count_91 : decode cX12_count 91 = .ok (.ireturn, 1) := by decide +kernel
theorem dX12_count_92 : decode cX12_count 92 = .ok (.aload_n 0, 1) := by decide +kernel
theorem dX12_count_93 : decode cX12_count 93 = .ok (.getfield 155, 3) := by decide +kernel
theorem dX12_count_96 : decode cX12_count 96 = .ok (.ireturn, 1) := by decide +kernel
theorem dX12_count_97 : decode cX12_count 97 = .ok (.bipush (-2), 2) := by decide +kernel
theorem dX12_count_99 : decode cX12_count 99 = .ok (.ireturn, 1) := by decide +kernel
theorem dX12_crew_0 : decode cX12_crew 0 = .ok (.iload_n 1, 1) := by decide +kernel
theorem dX12_crew_1 : decode cX12_crew 1 = .ok (.i2l, 1) := by decide +kernel
theorem dX12_crew_2 : decode cX12_crew 2 = .ok (.lconst 0, 1) := by decide +kernel
theorem dX12_crew_3 : decode cX12_crew 3 = .ok (.iconst 1, 1) := by decide +kernel
theorem dX12_crew_4 : decode cX12_crew 4 = .ok (.aload_n 0, 1) := by decide +kernel
theorem dX12_crew_5 : decode cX12_crew 5 = .ok (.getfield 121, 3) := by decide +kernel
theorem dX12_crew_8 : decode cX12_crew 8 = .ok (.ishl, 1) := by decide +kernel
theorem dX12_crew_9 : decode cX12_crew 9 = .ok (.iconst 1, 1) := by decide +kernel
theorem dX12_crew_10 : decode cX12_crew 10 = .ok (.isub, 1) := by decide +kernel
theorem dX12_crew_11 : decode cX12_crew 11 = .ok (.i2l, 1) := by decide +kernel
theorem dX12_crew_12 : decode cX12_crew 12 = .ok (.invokestatic 100, 3) := by decide +kernel
theorem dX12_crew_15 : decode cX12_crew 15 = .ok (.ifCond .ne 6, 3) := by decide +kernel
theorem dX12_crew_18 : decode cX12_crew 18 = .ok (.bipush (-2), 2) := by decide +kernel
theorem dX12_crew_20 : decode cX12_crew 20 = .ok (.ireturn, 1) := by decide +kernel
theorem dX12_crew_21 : decode cX12_crew 21 = .ok (.aload_n 0, 1) := by decide +kernel
theorem dX12_crew_22 : decode cX12_crew 22 = .ok (.getfield 128, 3) := by decide +kernel
theorem dX12_crew_25 : decode cX12_crew 25 = .ok (.istore_n 2, 1) := by decide +kernel
theorem dX12_crew_26 : decode cX12_crew 26 = .ok (.aload_n 0, 1) := by decide +kernel
theorem dX12_crew_27 : decode cX12_crew 27 = .ok (.iload_n 1, 1) := by decide +kernel
theorem dX12_crew_28 : decode cX12_crew 28 = .ok (.putfield 128, 3) := by decide +kernel
theorem dX12_crew_31 : decode cX12_crew 31 = .ok (.iload_n 2, 1) := by decide +kernel
theorem dX12_crew_32 : decode cX12_crew 32 = .ok (.ireturn, 1) := by decide +kernel
theorem dX12_note_0 : decode cX12_note 0 = .ok (.aload_n 0, 1) := by decide +kernel
theorem dX12_note_1 : decode cX12_note 1 = .ok (.ldc2_w 268, 3) := by decide +kernel
theorem dX12_note_4 : decode cX12_note 4 = .ok (.aload_n 0, 1) := by decide +kernel
theorem dX12_note_5 : decode cX12_note 5 = .ok (.getfield 270, 3) := by decide +kernel
theorem dX12_note_8 : decode cX12_note 8 = .ok (.lmul, 1) := by decide +kernel
theorem dX12_note_9 : decode cX12_note 9 = .ok (.lload_n 1, 1) := by decide +kernel
theorem dX12_note_10 : decode cX12_note 10 = .ok (.ladd, 1) := by decide +kernel
theorem dX12_note_11 : decode cX12_note 11 = .ok (.putfield 270, 3) := by decide +kernel
theorem dX12_note_14 : decode cX12_note 14 = .ok (.return_, 1) := by decide +kernel
theorem dX12_digest_0 : decode cX12_digest 0 = .ok (.aload_n 0, 1) := by decide +kernel
theorem dX12_digest_1 : decode cX12_digest 1 = .ok (.ldc2_w 274, 3) := by decide +kernel
theorem dX12_digest_4 : decode cX12_digest 4 = .ok (.putfield 270, 3) := by decide +kernel
theorem dX12_digest_7 : decode cX12_digest 7 = .ok (.iconst 0, 1) := by decide +kernel
theorem dX12_digest_8 : decode cX12_digest 8 = .ok (.istore_n 1, 1) := by decide +kernel
theorem dX12_digest_9 : decode cX12_digest 9 = .ok (.iload_n 1, 1) := by decide +kernel
theorem dX12_digest_10 : decode cX12_digest 10 = .ok (.bipush 9, 2) := by decide +kernel
theorem dX12_digest_12 : decode cX12_digest 12 = .ok (.if_icmp .ge 19, 3) := by decide +kernel
theorem dX12_digest_15 : decode cX12_digest 15 = .ok (.aload_n 0, 1) := by decide +kernel
theorem dX12_digest_16 : decode cX12_digest 16 = .ok (.aload_n 0, 1) := by decide +kernel
theorem dX12_digest_17 : decode cX12_digest 17 = .ok (.iload_n 1, 1) := by decide +kernel
theorem dX12_digest_18 : decode cX12_digest 18 = .ok (.invokevirtual 276, 3) := by decide +kernel
theorem dX12_digest_21 : decode cX12_digest 21 = .ok (.i2l, 1) := by decide +kernel
theorem dX12_digest_22 : decode cX12_digest 22 = .ok (.invokevirtual 279, 3) := by decide +kernel
theorem dX12_digest_25 : decode cX12_digest 25 = .ok (.iinc 1 1, 3) := by decide +kernel
theorem dX12_digest_28 : decode cX12_digest 28 = .ok (.goto (-19), 3) := by decide +kernel
theorem dX12_digest_31 : decode cX12_digest 31 = .ok (.iconst 0, 1) := by decide +kernel
theorem dX12_digest_32 : decode cX12_digest 32 = .ok (.istore_n 1, 1) := by decide +kernel
theorem dX12_digest_33 : decode cX12_digest 33 = .ok (.iload_n 1, 1) := by decide +kernel
theorem dX12_digest_34 : decode cX12_digest 34 = .ok (.aload_n 0, 1) := by decide +kernel
theorem dX12_digest_35 : decode cX12_digest 35 = .ok (.getfield 104, 3) := by decide +kernel
theorem dX12_digest_38 : decode cX12_digest 38 = .ok (.if_icmp .ge 20, 3) := by decide +kernel
theorem dX12_digest_41 : decode cX12_digest 41 = .ok (.aload_n 0, 1) := by decide +kernel
theorem dX12_digest_42 : decode cX12_digest 42 = .ok (.aload_n 0, 1) := by decide +kernel
theorem dX12_digest_43 : decode cX12_digest 43 = .ok (.getfield 22, 3) := by decide +kernel
theorem dX12_digest_46 : decode cX12_digest 46 = .ok (.iload_n 1, 1) := by decide +kernel
theorem dX12_digest_47 : decode cX12_digest 47 = .ok (.iaload, 1) := by decide +kernel
theorem dX12_digest_48 : decode cX12_digest 48 = .ok (.i2l, 1) := by decide +kernel
theorem dX12_digest_49 : decode cX12_digest 49 = .ok (.invokevirtual 279, 3) := by decide +kernel
theorem dX12_digest_52 : decode cX12_digest 52 = .ok (.iinc 1 1, 3) := by decide +kernel
theorem dX12_digest_55 : decode cX12_digest 55 = .ok (.goto (-22), 3) := by decide +kernel
theorem dX12_digest_58 : decode cX12_digest 58 = .ok (.iconst 0, 1) := by decide +kernel
theorem dX12_digest_59 : decode cX12_digest 59 = .ok (.istore_n 1, 1) := by decide +kernel
theorem dX12_digest_60 : decode cX12_digest 60 = .ok (.iload_n 1, 1) := by decide +kernel
theorem dX12_digest_61 : decode cX12_digest 61 = .ok (.aload_n 0, 1) := by decide +kernel
theorem dX12_digest_62 : decode cX12_digest 62 = .ok (.getfield 108, 3) := by decide +kernel
theorem dX12_digest_65 : decode cX12_digest 65 = .ok (.if_icmp .ge 99, 3) := by decide +kernel
theorem dX12_digest_68 : decode cX12_digest 68 = .ok (.aload_n 0, 1) := by decide +kernel
theorem dX12_digest_69 : decode cX12_digest 69 = .ok (.aload_n 0, 1) := by decide +kernel
theorem dX12_digest_70 : decode cX12_digest 70 = .ok (.getfield 7, 3) := by decide +kernel
theorem dX12_digest_73 : decode cX12_digest 73 = .ok (.iload_n 1, 1) := by decide +kernel
theorem dX12_digest_74 : decode cX12_digest 74 = .ok (.iaload, 1) := by decide +kernel
theorem dX12_digest_75 : decode cX12_digest 75 = .ok (.i2l, 1) := by decide +kernel
theorem dX12_digest_76 : decode cX12_digest 76 = .ok (.invokevirtual 279, 3) := by decide +kernel
theorem dX12_digest_79 : decode cX12_digest 79 = .ok (.aload_n 0, 1) := by decide +kernel
theorem dX12_digest_80 : decode cX12_digest 80 = .ok (.aload_n 0, 1) := by decide +kernel
theorem dX12_digest_81 : decode cX12_digest 81 = .ok (.getfield 13, 3) := by decide +kernel
theorem dX12_digest_84 : decode cX12_digest 84 = .ok (.iload_n 1, 1) := by decide +kernel
theorem dX12_digest_85 : decode cX12_digest 85 = .ok (.iaload, 1) := by decide +kernel
theorem dX12_digest_86 : decode cX12_digest 86 = .ok (.i2l, 1) := by decide +kernel
theorem dX12_digest_87 : decode cX12_digest 87 = .ok (.invokevirtual 279, 3) := by decide +kernel
theorem dX12_digest_90 : decode cX12_digest 90 = .ok (.iconst 0, 1) := by decide +kernel
theorem dX12_digest_91 : decode cX12_digest 91 = .ok (.istore_n 2, 1) := by decide +kernel
theorem dX12_digest_92 : decode cX12_digest 92 = .ok (.iload_n 2, 1) := by decide +kernel
theorem dX12_digest_93 : decode cX12_digest 93 = .ok (.aload_n 0, 1) := by decide +kernel
theorem dX12_digest_94 : decode cX12_digest 94 = .ok (.getfield 7, 3) := by decide +kernel
theorem dX12_digest_97 : decode cX12_digest 97 = .ok (.iload_n 1, 1) := by decide +kernel
theorem dX12_digest_98 : decode cX12_digest 98 = .ok (.iaload, 1) := by decide +kernel
theorem dX12_digest_99 : decode cX12_digest 99 = .ok (.if_icmp .ge 25, 3) := by decide +kernel
theorem dX12_digest_102 : decode cX12_digest 102 = .ok (.aload_n 0, 1) := by decide +kernel
theorem dX12_digest_103 : decode cX12_digest 103 = .ok (.aload_n 0, 1) := by decide +kernel
theorem dX12_digest_104 : decode cX12_digest 104 = .ok (.getfield 16, 3) := by decide +kernel
theorem dX12_digest_107 : decode cX12_digest 107 = .ok (.bipush 24, 2) := by decide +kernel
theorem dX12_digest_109 : decode cX12_digest 109 = .ok (.iload_n 1, 1) := by decide +kernel
theorem dX12_digest_110 : decode cX12_digest 110 = .ok (.imul, 1) := by decide +kernel
theorem dX12_digest_111 : decode cX12_digest 111 = .ok (.iload_n 2, 1) := by decide +kernel
theorem dX12_digest_112 : decode cX12_digest 112 = .ok (.iadd, 1) := by decide +kernel
theorem dX12_digest_113 : decode cX12_digest 113 = .ok (.iaload, 1) := by decide +kernel
theorem dX12_digest_114 : decode cX12_digest 114 = .ok (.i2l, 1) := by decide +kernel
theorem dX12_digest_115 : decode cX12_digest 115 = .ok (.invokevirtual 279, 3) := by decide +kernel
theorem dX12_digest_118 : decode cX12_digest 118 = .ok (.iinc 2 1, 3) := by decide +kernel
theorem dX12_digest_121 : decode cX12_digest 121 = .ok (.goto (-29), 3) := by decide +kernel
theorem dX12_digest_124 : decode cX12_digest 124 = .ok (.iconst 0, 1) := by decide +kernel
theorem dX12_digest_125 : decode cX12_digest 125 = .ok (.istore_n 2, 1) := by decide +kernel
theorem dX12_digest_126 : decode cX12_digest 126 = .ok (.iload_n 2, 1) := by decide +kernel
theorem dX12_digest_127 : decode cX12_digest 127 = .ok (.aload_n 0, 1) := by decide +kernel
theorem dX12_digest_128 : decode cX12_digest 128 = .ok (.getfield 13, 3) := by decide +kernel
theorem dX12_digest_131 : decode cX12_digest 131 = .ok (.iload_n 1, 1) := by decide +kernel
theorem dX12_digest_132 : decode cX12_digest 132 = .ok (.iaload, 1) := by decide +kernel
theorem dX12_digest_133 : decode cX12_digest 133 = .ok (.if_icmp .ge 25, 3) := by decide +kernel
theorem dX12_digest_136 : decode cX12_digest 136 = .ok (.aload_n 0, 1) := by decide +kernel
theorem dX12_digest_137 : decode cX12_digest 137 = .ok (.aload_n 0, 1) := by decide +kernel
theorem dX12_digest_138 : decode cX12_digest 138 = .ok (.getfield 19, 3) := by decide +kernel
theorem dX12_digest_141 : decode cX12_digest 141 = .ok (.bipush 12, 2) := by decide +kernel
theorem dX12_digest_143 : decode cX12_digest 143 = .ok (.iload_n 1, 1) := by decide +kernel
theorem dX12_digest_144 : decode cX12_digest 144 = .ok (.imul, 1) := by decide +kernel
theorem dX12_digest_145 : decode cX12_digest 145 = .ok (.iload_n 2, 1) := by decide +kernel
theorem dX12_digest_146 : decode cX12_digest 146 = .ok (.iadd, 1) := by decide +kernel
theorem dX12_digest_147 : decode cX12_digest 147 = .ok (.iaload, 1) := by decide +kernel
theorem dX12_digest_148 : decode cX12_digest 148 = .ok (.i2l, 1) := by decide +kernel
theorem dX12_digest_149 : decode cX12_digest 149 = .ok (.invokevirtual 279, 3) := by decide +kernel
theorem dX12_digest_152 : decode cX12_digest 152 = .ok (.iinc 2 1, 3) := by decide +kernel
theorem dX12_digest_155 : decode cX12_digest 155 = .ok (.goto (-29), 3) := by decide +kernel
theorem dX12_digest_158 : decode cX12_digest 158 = .ok (.iinc 1 1, 3) := by decide +kernel
theorem dX12_digest_161 : decode cX12_digest 161 = .ok (.goto (-101), 3) := by decide +kernel
theorem dX12_digest_164 : decode cX12_digest 164 = .ok (.iconst 0, 1) := by decide +kernel
theorem dX12_digest_165 : decode cX12_digest 165 = .ok (.istore_n 1, 1) := by decide +kernel
theorem dX12_digest_166 : decode cX12_digest 166 = .ok (.iload_n 1, 1) := by decide +kernel
theorem dX12_digest_167 : decode cX12_digest 167 = .ok (.aload_n 0, 1) := by decide +kernel
theorem dX12_digest_168 : decode cX12_digest 168 = .ok (.getfield 121, 3) := by decide +kernel
theorem dX12_digest_171 : decode cX12_digest 171 = .ok (.if_icmp .ge 75, 3) := by decide +kernel
theorem dX12_digest_174 : decode cX12_digest 174 = .ok (.aload_n 0, 1) := by decide +kernel
theorem dX12_digest_175 : decode cX12_digest 175 = .ok (.aload_n 0, 1) := by decide +kernel
theorem dX12_digest_176 : decode cX12_digest 176 = .ok (.getfield 25, 3) := by decide +kernel
theorem dX12_digest_179 : decode cX12_digest 179 = .ok (.iload_n 1, 1) := by decide +kernel
theorem dX12_digest_180 : decode cX12_digest 180 = .ok (.iaload, 1) := by decide +kernel
theorem dX12_digest_181 : decode cX12_digest 181 = .ok (.i2l, 1) := by decide +kernel
theorem dX12_digest_182 : decode cX12_digest 182 = .ok (.invokevirtual 279, 3) := by decide +kernel
theorem dX12_digest_185 : decode cX12_digest 185 = .ok (.aload_n 0, 1) := by decide +kernel
theorem dX12_digest_186 : decode cX12_digest 186 = .ok (.aload_n 0, 1) := by decide +kernel
theorem dX12_digest_187 : decode cX12_digest 187 = .ok (.getfield 28, 3) := by decide +kernel
theorem dX12_digest_190 : decode cX12_digest 190 = .ok (.iload_n 1, 1) := by decide +kernel
theorem dX12_digest_191 : decode cX12_digest 191 = .ok (.iaload, 1) := by decide +kernel
theorem dX12_digest_192 : decode cX12_digest 192 = .ok (.i2l, 1) := by decide +kernel
theorem dX12_digest_193 : decode cX12_digest 193 = .ok (.invokevirtual 279, 3) := by decide +kernel
theorem dX12_digest_196 : decode cX12_digest 196 = .ok (.aload_n 0, 1) := by decide +kernel
theorem dX12_digest_197 : decode cX12_digest 197 = .ok (.aload_n 0, 1) := by decide +kernel
theorem dX12_digest_198 : decode cX12_digest 198 = .ok (.getfield 31, 3) := by decide +kernel
theorem dX12_digest_201 : decode cX12_digest 201 = .ok (.iload_n 1, 1) := by decide +kernel
theorem dX12_digest_202 : decode cX12_digest 202 = .ok (.iaload, 1) := by decide +kernel
theorem dX12_digest_203 : decode cX12_digest 203 = .ok (.i2l, 1) := by decide +kernel
theorem dX12_digest_204 : decode cX12_digest 204 = .ok (.invokevirtual 279, 3) := by decide +kernel
theorem dX12_digest_207 : decode cX12_digest 207 = .ok (.aload_n 0, 1) := by decide +kernel
theorem dX12_digest_208 : decode cX12_digest 208 = .ok (.aload_n 0, 1) := by decide +kernel
theorem dX12_digest_209 : decode cX12_digest 209 = .ok (.getfield 34, 3) := by decide +kernel
theorem dX12_digest_212 : decode cX12_digest 212 = .ok (.iload_n 1, 1) := by decide +kernel
theorem dX12_digest_213 : decode cX12_digest 213 = .ok (.iaload, 1) := by decide +kernel
theorem dX12_digest_214 : decode cX12_digest 214 = .ok (.i2l, 1) := by decide +kernel
theorem dX12_digest_215 : decode cX12_digest 215 = .ok (.invokevirtual 279, 3) := by decide +kernel
theorem dX12_digest_218 : decode cX12_digest 218 = .ok (.aload_n 0, 1) := by decide +kernel
theorem dX12_digest_219 : decode cX12_digest 219 = .ok (.aload_n 0, 1) := by decide +kernel
theorem dX12_digest_220 : decode cX12_digest 220 = .ok (.getfield 37, 3) := by decide +kernel
theorem dX12_digest_223 : decode cX12_digest 223 = .ok (.iload_n 1, 1) := by decide +kernel
theorem dX12_digest_224 : decode cX12_digest 224 = .ok (.iaload, 1) := by decide +kernel
theorem dX12_digest_225 : decode cX12_digest 225 = .ok (.i2l, 1) := by decide +kernel
theorem dX12_digest_226 : decode cX12_digest 226 = .ok (.invokevirtual 279, 3) := by decide +kernel
theorem dX12_digest_229 : decode cX12_digest 229 = .ok (.aload_n 0, 1) := by decide +kernel
theorem dX12_digest_230 : decode cX12_digest 230 = .ok (.aload_n 0, 1) := by decide +kernel
theorem dX12_digest_231 : decode cX12_digest 231 = .ok (.getfield 40, 3) := by decide +kernel
theorem dX12_digest_234 : decode cX12_digest 234 = .ok (.iload_n 1, 1) := by decide +kernel
theorem dX12_digest_235 : decode cX12_digest 235 = .ok (.iaload, 1) := by decide +kernel
theorem dX12_digest_236 : decode cX12_digest 236 = .ok (.i2l, 1) := by decide +kernel
theorem dX12_digest_237 : decode cX12_digest 237 = .ok (.invokevirtual 279, 3) := by decide +kernel
theorem dX12_digest_240 : decode cX12_digest 240 = .ok (.iinc 1 1, 3) := by decide +kernel
theorem dX12_digest_243 : decode cX12_digest 243 = .ok (.goto (-77), 3) := by decide +kernel
theorem dX12_digest_246 : decode cX12_digest 246 = .ok (.iconst 0, 1) := by decide +kernel
theorem dX12_digest_247 : decode cX12_digest 247 = .ok (.istore_n 1, 1) := by decide +kernel
theorem dX12_digest_248 : decode cX12_digest 248 = .ok (.iload_n 1, 1) := by decide +kernel
theorem dX12_digest_249 : decode cX12_digest 249 = .ok (.aload_n 0, 1) := by decide +kernel
theorem dX12_digest_250 : decode cX12_digest 250 = .ok (.getfield 155, 3) := by decide +kernel
theorem dX12_digest_253 : decode cX12_digest 253 = .ok (.if_icmp .ge 20, 3) := by decide +kernel
theorem dX12_digest_256 : decode cX12_digest 256 = .ok (.aload_n 0, 1) := by decide +kernel
theorem dX12_digest_257 : decode cX12_digest 257 = .ok (.aload_n 0, 1) := by decide +kernel
theorem dX12_digest_258 : decode cX12_digest 258 = .ok (.getfield 43, 3) := by decide +kernel
theorem dX12_digest_261 : decode cX12_digest 261 = .ok (.iload_n 1, 1) := by decide +kernel
theorem dX12_digest_262 : decode cX12_digest 262 = .ok (.iaload, 1) := by decide +kernel
theorem dX12_digest_263 : decode cX12_digest 263 = .ok (.i2l, 1) := by decide +kernel
theorem dX12_digest_264 : decode cX12_digest 264 = .ok (.invokevirtual 279, 3) := by decide +kernel
theorem dX12_digest_267 : decode cX12_digest 267 = .ok (.iinc 1 1, 3) := by decide +kernel
theorem dX12_digest_270 : decode cX12_digest 270 = .ok (.goto (-22), 3) := by decide +kernel
theorem dX12_digest_273 : decode cX12_digest 273 = .ok (.iconst 0, 1) := by decide +kernel
theorem dX12_digest_274 : decode cX12_digest 274 = .ok (.istore_n 1, 1) := by decide +kernel
theorem dX12_digest_275 : decode cX12_digest 275 = .ok (.iload_n 1, 1) := by decide +kernel
theorem dX12_digest_276 : decode cX12_digest 276 = .ok (.aload_n 0, 1) := by decide +kernel
theorem dX12_digest_277 : decode cX12_digest 277 = .ok (.getfield 155, 3) := by decide +kernel
theorem dX12_digest_280 : decode cX12_digest 280 = .ok (.if_icmp .ge 20, 3) := by decide +kernel
theorem dX12_digest_283 : decode cX12_digest 283 = .ok (.aload_n 0, 1) := by decide +kernel
theorem dX12_digest_284 : decode cX12_digest 284 = .ok (.aload_n 0, 1) := by decide +kernel
theorem dX12_digest_285 : decode cX12_digest 285 = .ok (.getfield 46, 3) := by decide +kernel
theorem dX12_digest_288 : decode cX12_digest 288 = .ok (.iload_n 1, 1) := by decide +kernel
theorem dX12_digest_289 : decode cX12_digest 289 = .ok (.iaload, 1) := by decide +kernel
theorem dX12_digest_290 : decode cX12_digest 290 = .ok (.i2l, 1) := by decide +kernel
theorem dX12_digest_291 : decode cX12_digest 291 = .ok (.invokevirtual 279, 3) := by decide +kernel
theorem dX12_digest_294 : decode cX12_digest 294 = .ok (.iinc 1 1, 3) := by decide +kernel
theorem dX12_digest_297 : decode cX12_digest 297 = .ok (.goto (-22), 3) := by decide +kernel
theorem dX12_digest_300 : decode cX12_digest 300 = .ok (.iconst 0, 1) := by decide +kernel
theorem dX12_digest_301 : decode cX12_digest 301 = .ok (.istore_n 1, 1) := by decide +kernel
theorem dX12_digest_302 : decode cX12_digest 302 = .ok (.iload_n 1, 1) := by decide +kernel
theorem dX12_digest_303 : decode cX12_digest 303 = .ok (.aload_n 0, 1) := by decide +kernel
theorem dX12_digest_304 : decode cX12_digest 304 = .ok (.getfield 174, 3) := by decide +kernel
theorem dX12_digest_307 : decode cX12_digest 307 = .ok (.if_icmp .ge 42, 3) := by decide +kernel
theorem dX12_digest_310 : decode cX12_digest 310 = .ok (.aload_n 0, 1) := by decide +kernel
theorem dX12_digest_311 : decode cX12_digest 311 = .ok (.aload_n 0, 1) := by decide +kernel
theorem dX12_digest_312 : decode cX12_digest 312 = .ok (.getfield 52, 3) := by decide +kernel
theorem dX12_digest_315 : decode cX12_digest 315 = .ok (.iload_n 1, 1) := by decide +kernel
theorem dX12_digest_316 : decode cX12_digest 316 = .ok (.iaload, 1) := by decide +kernel
theorem dX12_digest_317 : decode cX12_digest 317 = .ok (.i2l, 1) := by decide +kernel
theorem dX12_digest_318 : decode cX12_digest 318 = .ok (.invokevirtual 279, 3) := by decide +kernel
theorem dX12_digest_321 : decode cX12_digest 321 = .ok (.aload_n 0, 1) := by decide +kernel
theorem dX12_digest_322 : decode cX12_digest 322 = .ok (.aload_n 0, 1) := by decide +kernel
theorem dX12_digest_323 : decode cX12_digest 323 = .ok (.getfield 55, 3) := by decide +kernel
theorem dX12_digest_326 : decode cX12_digest 326 = .ok (.iload_n 1, 1) := by decide +kernel
theorem dX12_digest_327 : decode cX12_digest 327 = .ok (.iaload, 1) := by decide +kernel
theorem dX12_digest_328 : decode cX12_digest 328 = .ok (.i2l, 1) := by decide +kernel
theorem dX12_digest_329 : decode cX12_digest 329 = .ok (.invokevirtual 279, 3) := by decide +kernel
theorem dX12_digest_332 : decode cX12_digest 332 = .ok (.aload_n 0, 1) := by decide +kernel
theorem dX12_digest_333 : decode cX12_digest 333 = .ok (.aload_n 0, 1) := by decide +kernel
theorem dX12_digest_334 : decode cX12_digest 334 = .ok (.getfield 58, 3) := by decide +kernel
theorem dX12_digest_337 : decode cX12_digest 337 = .ok (.iload_n 1, 1) := by decide +kernel
theorem dX12_digest_338 : decode cX12_digest 338 = .ok (.iaload, 1) := by decide +kernel
theorem dX12_digest_339 : decode cX12_digest 339 = .ok (.i2l, 1) := by decide +kernel
theorem dX12_digest_340 : decode cX12_digest 340 = .ok (.invokevirtual 279, 3) := by decide +kernel
theorem dX12_digest_343 : decode cX12_digest 343 = .ok (.iinc 1 1, 3) := by decide +kernel
theorem dX12_digest_346 : decode cX12_digest 346 = .ok (.goto (-44), 3) := by decide +kernel
theorem dX12_digest_349 : decode cX12_digest 349 = .ok (.iconst 0, 1) := by decide +kernel
theorem dX12_digest_350 : decode cX12_digest 350 = .ok (.istore_n 1, 1) := by decide +kernel
theorem dX12_digest_351 : decode cX12_digest 351 = .ok (.iload_n 1, 1) := by decide +kernel
theorem dX12_digest_352 : decode cX12_digest 352 = .ok (.aload_n 0, 1) := by decide +kernel
theorem dX12_digest_353 : decode cX12_digest 353 = .ok (.getfield 201, 3) := by decide +kernel
theorem dX12_digest_356 : decode cX12_digest 356 = .ok (.if_icmp .ge 31, 3) := by decide +kernel
theorem dX12_digest_359 : decode cX12_digest 359 = .ok (.aload_n 0, 1) := by decide +kernel
theorem dX12_digest_360 : decode cX12_digest 360 = .ok (.aload_n 0, 1) := by decide +kernel
theorem dX12_digest_361 : decode cX12_digest 361 = .ok (.getfield 70, 3) := by decide +kernel
theorem dX12_digest_364 : decode cX12_digest 364 = .ok (.iload_n 1, 1) := by decide +kernel
theorem dX12_digest_365 : decode cX12_digest 365 = .ok (.iaload, 1) := by decide +kernel
theorem dX12_digest_366 : decode cX12_digest 366 = .ok (.i2l, 1) := by decide +kernel
theorem dX12_digest_367 : decode cX12_digest 367 = .ok (.invokevirtual 279, 3) := by decide +kernel
theorem dX12_digest_370 : decode cX12_digest 370 = .ok (.aload_n 0, 1) := by decide +kernel
theorem dX12_digest_371 : decode cX12_digest 371 = .ok (.aload_n 0, 1) := by decide +kernel
theorem dX12_digest_372 : decode cX12_digest 372 = .ok (.getfield 73, 3) := by decide +kernel
theorem dX12_digest_375 : decode cX12_digest 375 = .ok (.iload_n 1, 1) := by decide +kernel
theorem dX12_digest_376 : decode cX12_digest 376 = .ok (.iaload, 1) := by decide +kernel
theorem dX12_digest_377 : decode cX12_digest 377 = .ok (.i2l, 1) := by decide +kernel
theorem dX12_digest_378 : decode cX12_digest 378 = .ok (.invokevirtual 279, 3) := by decide +kernel
theorem dX12_digest_381 : decode cX12_digest 381 = .ok (.iinc 1 1, 3) := by decide +kernel
theorem dX12_digest_384 : decode cX12_digest 384 = .ok (.goto (-33), 3) := by decide +kernel
theorem dX12_digest_387 : decode cX12_digest 387 = .ok (.iconst 0, 1) := by decide +kernel
theorem dX12_digest_388 : decode cX12_digest 388 = .ok (.istore_n 1, 1) := by decide +kernel
theorem dX12_digest_389 : decode cX12_digest 389 = .ok (.iload_n 1, 1) := by decide +kernel
theorem dX12_digest_390 : decode cX12_digest 390 = .ok (.aload_n 0, 1) := by decide +kernel
theorem dX12_digest_391 : decode cX12_digest 391 = .ok (.getfield 227, 3) := by decide +kernel
theorem dX12_digest_394 : decode cX12_digest 394 = .ok (.if_icmp .ge 31, 3) := by decide +kernel
theorem dX12_digest_397 : decode cX12_digest 397 = .ok (.aload_n 0, 1) := by decide +kernel
theorem dX12_digest_398 : decode cX12_digest 398 = .ok (.aload_n 0, 1) := by decide +kernel
theorem dX12_digest_399 : decode cX12_digest 399 = .ok (.getfield 83, 3) := by decide +kernel
theorem dX12_digest_402 : decode cX12_digest 402 = .ok (.iload_n 1, 1) := by decide +kernel
theorem dX12_digest_403 : decode cX12_digest 403 = .ok (.iaload, 1) := by decide +kernel
theorem dX12_digest_404 : decode cX12_digest 404 = .ok (.i2l, 1) := by decide +kernel
theorem dX12_digest_405 : decode cX12_digest 405 = .ok (.invokevirtual 279, 3) := by decide +kernel
theorem dX12_digest_408 : decode cX12_digest 408 = .ok (.aload_n 0, 1) := by decide +kernel
theorem dX12_digest_409 : decode cX12_digest 409 = .ok (.aload_n 0, 1) := by decide +kernel
theorem dX12_digest_410 : decode cX12_digest 410 = .ok (.getfield 86, 3) := by decide +kernel
theorem dX12_digest_413 : decode cX12_digest 413 = .ok (.iload_n 1, 1) := by decide +kernel
theorem dX12_digest_414 : decode cX12_digest 414 = .ok (.iaload, 1) := by decide +kernel
theorem dX12_digest_415 : decode cX12_digest 415 = .ok (.i2l, 1) := by decide +kernel
theorem dX12_digest_416 : decode cX12_digest 416 = .ok (.invokevirtual 279, 3) := by decide +kernel
theorem dX12_digest_419 : decode cX12_digest 419 = .ok (.iinc 1 1, 3) := by decide +kernel
theorem dX12_digest_422 : decode cX12_digest 422 = .ok (.goto (-33), 3) := by decide +kernel
theorem dX12_digest_425 : decode cX12_digest 425 = .ok (.aload_n 0, 1) := by decide +kernel
theorem dX12_digest_426 : decode cX12_digest 426 = .ok (.getfield 270, 3) := by decide +kernel
theorem dX12_digest_429 : decode cX12_digest 429 = .ok (.lreturn, 1) := by decide +kernel
theorem dX12_isSung_0 : decode cX12_isSung 0 = .ok (.iload_n 0, 1) := by decide +kernel
theorem dX12_isSung_1 : decode cX12_isSung 1 = .ok (.iconst 1, 1) := by decide +kernel
theorem dX12_isSung_2 : decode cX12_isSung 2 = .ok (.if_icmp .eq 8, 3) := by decide +kernel
theorem dX12_isSung_5 : decode cX12_isSung 5 = .ok (.iload_n 0, 1) := by decide +kernel
theorem dX12_isSung_6 : decode cX12_isSung 6 = .ok (.iconst 2, 1) := by decide +kernel
theorem dX12_isSung_7 : decode cX12_isSung 7 = .ok (.if_icmp .ne 7, 3) := by decide +kernel
theorem dX12_isSung_10 : decode cX12_isSung 10 = .ok (.iconst 1, 1) := by decide +kernel
theorem dX12_isSung_11 : decode cX12_isSung 11 = .ok (.goto 4, 3) := by decide +kernel
theorem dX12_isSung_14 : decode cX12_isSung 14 = .ok (.iconst 0, 1) := by decide +kernel
theorem dX12_isSung_15 : decode cX12_isSung 15 = .ok (.ireturn, 1) := by decide +kernel
theorem dX12_sungFrom_0 : decode cX12_sungFrom 0 = .ok (.iload_n 2, 1) := by decide +kernel
theorem dX12_sungFrom_1 : decode cX12_sungFrom 1 = .ok (.istore_n 3, 1) := by decide +kernel
theorem dX12_sungFrom_2 : decode cX12_sungFrom 2 = .ok (.iload_n 3, 1) := by decide +kernel
theorem dX12_sungFrom_3 : decode cX12_sungFrom 3 = .ok (.aload_n 0, 1) := by decide +kernel
theorem dX12_sungFrom_4 : decode cX12_sungFrom 4 = .ok (.getfield 7, 3) := by decide +kernel
theorem dX12_sungFrom_7 : decode cX12_sungFrom 7 = .ok (.iload_n 1, 1) := by decide +kernel
theorem dX12_sungFrom_8 : decode cX12_sungFrom 8 = .ok (.iaload, 1) := by decide +kernel
theorem dX12_sungFrom_9 : decode cX12_sungFrom 9 = .ok (.if_icmp .ge 26, 3) := by decide +kernel
theorem dX12_sungFrom_12 : decode cX12_sungFrom 12 = .ok (.aload_n 0, 1) := by decide +kernel
theorem dX12_sungFrom_13 : decode cX12_sungFrom 13 = .ok (.getfield 16, 3) := by decide +kernel
theorem dX12_sungFrom_16 : decode cX12_sungFrom 16 = .ok (.bipush 24, 2) := by decide +kernel
theorem dX12_sungFrom_18 : decode cX12_sungFrom 18 = .ok (.iload_n 1, 1) := by decide +kernel
theorem dX12_sungFrom_19 : decode cX12_sungFrom 19 = .ok (.imul, 1) := by decide +kernel
theorem dX12_sungFrom_20 : decode cX12_sungFrom 20 = .ok (.iload_n 3, 1) := by decide +kernel
theorem dX12_sungFrom_21 : decode cX12_sungFrom 21 = .ok (.iadd, 1) := by decide +kernel
theorem dX12_sungFrom_22 : decode cX12_sungFrom 22 = .ok (.iaload, 1) := by decide +kernel
theorem dX12_sungFrom_23 : decode cX12_sungFrom 23 = .ok (.invokestatic 204, 3) := by decide +kernel
theorem dX12_sungFrom_26 : decode cX12_sungFrom 26 = .ok (.ifCond .ne 9, 3) := by decide +kernel
theorem dX12_sungFrom_29 : decode cX12_sungFrom 29 = .ok (.iinc 3 1, 3) := by decide +kernel
theorem dX12_sungFrom_32 : decode cX12_sungFrom 32 = .ok (.goto (-30), 3) := by decide +kernel
theorem dX12_sungFrom_35 : decode cX12_sungFrom 35 = .ok (.iload_n 3, 1) := by decide +kernel
theorem dX12_sungFrom_36 : decode cX12_sungFrom 36 = .ok (.ireturn, 1) := by decide +kernel
theorem dX12_wrongOf_0 : decode cX12_wrongOf 0 = .ok (.iload_n 2, 1) := by decide +kernel
theorem dX12_wrongOf_1 : decode cX12_wrongOf 1 = .ok (.aload_n 0, 1) := by decide +kernel
theorem dX12_wrongOf_2 : decode cX12_wrongOf 2 = .ok (.getfield 70, 3) := by decide +kernel
theorem dX12_wrongOf_5 : decode cX12_wrongOf 5 = .ok (.iload_n 3, 1) := by decide +kernel
theorem dX12_wrongOf_6 : decode cX12_wrongOf 6 = .ok (.iaload, 1) := by decide +kernel
theorem dX12_wrongOf_7 : decode cX12_wrongOf 7 = .ok (.iadd, 1) := by decide +kernel
theorem dX12_wrongOf_8 : decode cX12_wrongOf 8 = .ok (.aload_n 0, 1) := by decide +kernel
theorem dX12_wrongOf_9 : decode cX12_wrongOf 9 = .ok (.getfield 7, 3) := by decide +kernel
theorem dX12_wrongOf_12 : decode cX12_wrongOf 12 = .ok (.iload_n 1, 1) := by decide +kernel
theorem dX12_wrongOf_13 : decode cX12_wrongOf 13 = .ok (.iaload, 1) := by decide +kernel
theorem dX12_wrongOf_14 : decode cX12_wrongOf 14 = .ok (.if_icmp .le 5, 3) := by decide +kernel
theorem dX12_wrongOf_17 : decode cX12_wrongOf 17 = .ok (.iconst (-1), 1) := by decide +kernel
theorem dX12_wrongOf_18 : decode cX12_wrongOf 18 = .ok (.ireturn, 1) := by decide +kernel
theorem dX12_wrongOf_19 : decode cX12_wrongOf 19 = .ok (.iconst 0, 1) := by decide +kernel
theorem dX12_wrongOf_20 : decode cX12_wrongOf 20 = .ok (.istore 4, 2) := by decide +kernel
theorem dX12_wrongOf_22 : decode cX12_wrongOf 22 = .ok (.iconst 0, 1) := by decide +kernel
theorem dX12_wrongOf_23 : decode cX12_wrongOf 23 = .ok (.istore 5, 2) := by decide +kernel
theorem dX12_wrongOf_25 : decode cX12_wrongOf 25 = .ok (.iload 5, 2) := by decide +kernel
theorem dX12_wrongOf_27 : decode cX12_wrongOf 27 = .ok (.aload_n 0, 1) := by decide +kernel
theorem dX12_wrongOf_28 : decode cX12_wrongOf 28 = .ok (.getfield 70, 3) := by decide +kernel
theorem dX12_wrongOf_31 : decode cX12_wrongOf 31 = .ok (.iload_n 3, 1) := by decide +kernel
theorem dX12_wrongOf_32 : decode cX12_wrongOf 32 = .ok (.iaload, 1) := by decide +kernel
theorem dX12_wrongOf_33 : decode cX12_wrongOf 33 = .ok (.if_icmp .ge 95, 3) := by decide +kernel
theorem dX12_wrongOf_36 : decode cX12_wrongOf 36 = .ok (.aload_n 0, 1) := by decide +kernel
theorem dX12_wrongOf_37 : decode cX12_wrongOf 37 = .ok (.getfield 16, 3) := by decide +kernel
theorem dX12_wrongOf_40 : decode cX12_wrongOf 40 = .ok (.bipush 24, 2) := by decide +kernel
theorem dX12_wrongOf_42 : decode cX12_wrongOf 42 = .ok (.iload_n 1, 1) := by decide +kernel
theorem dX12_wrongOf_43 : decode cX12_wrongOf 43 = .ok (.imul, 1) := by decide +kernel
theorem dX12_wrongOf_44 : decode cX12_wrongOf 44 = .ok (.iload_n 2, 1) := by decide +kernel
theorem dX12_wrongOf_45 : decode cX12_wrongOf 45 = .ok (.iadd, 1) := by decide +kernel
theorem dX12_wrongOf_46 : decode cX12_wrongOf 46 = .ok (.iload 5, 2) := by decide +kernel
theorem dX12_wrongOf_48 : decode cX12_wrongOf 48 = .ok (.iadd, 1) := by decide +kernel
theorem dX12_wrongOf_49 : decode cX12_wrongOf 49 = .ok (.iaload, 1) := by decide +kernel
theorem dX12_wrongOf_50 : decode cX12_wrongOf 50 = .ok (.istore 6, 2) := by decide +kernel
theorem dX12_wrongOf_52 : decode cX12_wrongOf 52 = .ok (.iload 6, 2) := by decide +kernel
theorem dX12_wrongOf_54 : decode cX12_wrongOf 54 = .ok (.invokestatic 204, 3) := by decide +kernel
theorem dX12_wrongOf_57 : decode cX12_wrongOf 57 = .ok (.ifCond .ne 5, 3) := by decide +kernel
theorem dX12_wrongOf_60 : decode cX12_wrongOf 60 = .ok (.iconst (-1), 1) := by decide +kernel
theorem dX12_wrongOf_61 : decode cX12_wrongOf 61 = .ok (.ireturn, 1) := by decide +kernel
theorem dX12_wrongOf_62 : decode cX12_wrongOf 62 = .ok (.aload_n 0, 1) := by decide +kernel
theorem dX12_wrongOf_63 : decode cX12_wrongOf 63 = .ok (.getfield 73, 3) := by decide +kernel
theorem dX12_wrongOf_66 : decode cX12_wrongOf 66 = .ok (.iload_n 3, 1) := by decide +kernel
theorem dX12_wrongOf_67 : decode cX12_wrongOf 67 = .ok (.iaload, 1) := by decide +kernel
theorem dX12_wrongOf_68 : decode cX12_wrongOf 68 = .ok (.aload_n 0, 1) := by decide +kernel
theorem dX12_wrongOf_69 : decode cX12_wrongOf 69 = .ok (.getfield 70, 3) := by decide +kernel
theorem dX12_wrongOf_72 : decode cX12_wrongOf 72 = .ok (.iload_n 3, 1) := by decide +kernel
theorem dX12_wrongOf_73 : decode cX12_wrongOf 73 = .ok (.iaload, 1) := by decide +kernel
theorem dX12_wrongOf_74 : decode cX12_wrongOf 74 = .ok (.iconst 1, 1) := by decide +kernel
theorem dX12_wrongOf_75 : decode cX12_wrongOf 75 = .ok (.isub, 1) := by decide +kernel
theorem dX12_wrongOf_76 : decode cX12_wrongOf 76 = .ok (.iload 5, 2) := by decide +kernel
theorem dX12_wrongOf_78 : decode cX12_wrongOf 78 = .ok (.isub, 1) := by decide +kernel
theorem dX12_wrongOf_79 : decode cX12_wrongOf 79 = .ok (.ishr, 1) := by decide +kernel
theorem dX12_wrongOf_80 : decode cX12_wrongOf 80 = .ok (.iconst 1, 1) := by decide +kernel
theorem dX12_wrongOf_81 : decode cX12_wrongOf 81 = .ok (.iand, 1) := by decide +kernel
theorem dX12_wrongOf_82 : decode cX12_wrongOf 82 = .ok (.istore 7, 2) := by decide +kernel
theorem dX12_wrongOf_84 : decode cX12_wrongOf 84 = .ok (.iload 4, 2) := by decide +kernel
theorem dX12_wrongOf_86 : decode cX12_wrongOf 86 = .ok (.iload 7, 2) := by decide +kernel
theorem dX12_wrongOf_88 : decode cX12_wrongOf 88 = .ok (.iconst 1, 1) := by decide +kernel
theorem dX12_wrongOf_89 : decode cX12_wrongOf 89 = .ok (.if_icmp .ne 7, 3) := by decide +kernel
theorem dX12_wrongOf_92 : decode cX12_wrongOf 92 = .ok (.iconst 1, 1) := by decide +kernel
theorem dX12_wrongOf_93 : decode cX12_wrongOf 93 = .ok (.goto 4, 3) := by decide +kernel
theorem dX12_wrongOf_96 : decode cX12_wrongOf 96 = .ok (.iconst 0, 1) := by decide +kernel
theorem dX12_wrongOf_97 : decode cX12_wrongOf 97 = .ok (.iload 6, 2) := by decide +kernel
theorem dX12_wrongOf_99 : decode cX12_wrongOf 99 = .ok (.iconst 2, 1) := by decide +kernel
theorem dX12_wrongOf_100 : decode cX12_wrongOf 100 = .ok (.if_icmp .ne 7, 3) := by decide +kernel
theorem dX12_wrongOf_103 : decode cX12_wrongOf 103 = .ok (.iconst 1, 1) := by decide +kernel
theorem dX12_wrongOf_104 : decode cX12_wrongOf 104 = .ok (.goto 4, 3) := by decide +kernel
theorem dX12_wrongOf_107 : decode cX12_wrongOf 107 = .ok (.iconst 0, 1) := by decide +kernel
theorem dX12_wrongOf_108 : decode cX12_wrongOf 108 = .ok (.if_icmp .eq 7, 3) := by decide +kernel
theorem dX12_wrongOf_111 : decode cX12_wrongOf 111 = .ok (.iconst 1, 1) := by decide +kernel
theorem dX12_wrongOf_112 : decode cX12_wrongOf 112 = .ok (.goto 4, 3) := by decide +kernel
theorem dX12_wrongOf_115 : decode cX12_wrongOf 115 = .ok (.iconst 0, 1) := by decide +kernel
theorem dX12_wrongOf_116 : decode cX12_wrongOf 116 = .ok (.invokestatic 141, 3) := by decide +kernel
theorem dX12_wrongOf_119 : decode cX12_wrongOf 119 = .ok (.iadd, 1) := by decide +kernel
theorem dX12_wrongOf_120 : decode cX12_wrongOf 120 = .ok (.istore 4, 2) := by decide +kernel
theorem dX12_wrongOf_122 : decode cX12_wrongOf 122 = .ok (.iinc 5 1, 3) := by decide +kernel
theorem dX12_wrongOf_125 : decode cX12_wrongOf 125 = .ok (.goto (-100), 3) := by decide +kernel
theorem dX12_wrongOf_128 : decode cX12_wrongOf 128 = .ok (.iload 4, 2) := by decide +kernel
theorem dX12_wrongOf_130 : decode cX12_wrongOf 130 = .ok (.ireturn, 1) := by decide +kernel
theorem dX12_findLines_0 : decode cX12_findLines 0 = .ok (.aload_n 0, 1) := by decide +kernel
theorem dX12_findLines_1 : decode cX12_findLines 1 = .ok (.getfield 7, 3) := by decide +kernel
theorem dX12_findLines_4 : decode cX12_findLines 4 = .ok (.iload_n 1, 1) := by decide +kernel
theorem dX12_findLines_5 : decode cX12_findLines 5 = .ok (.iaload, 1) := by decide +kernel
theorem dX12_findLines_6 : decode cX12_findLines 6 = .ok (.istore_n 2, 1) := by decide +kernel
theorem dX12_findLines_7 : decode cX12_findLines 7 = .ok (.aload_n 0, 1) := by decide +kernel
theorem dX12_findLines_8 : decode cX12_findLines 8 = .ok (.getfield 76, 3) := by decide +kernel
theorem dX12_findLines_11 : decode cX12_findLines 11 = .ok (.iload_n 2, 1) := by decide +kernel
theorem dX12_findLines_12 : decode cX12_findLines 12 = .ok (.lconst 1, 1) := by decide +kernel
theorem dX12_findLines_13 : decode cX12_findLines 13 = .ok (.lastore, 1) := by decide +kernel
theorem dX12_findLines_14 : decode cX12_findLines 14 = .ok (.aload_n 0, 1) := by decide +kernel
theorem dX12_findLines_15 : decode cX12_findLines 15 = .ok (.getfield 80, 3) := by decide +kernel
theorem dX12_findLines_18 : decode cX12_findLines 18 = .ok (.iload_n 2, 1) := by decide +kernel
theorem dX12_findLines_19 : decode cX12_findLines 19 = .ok (.iconst 0, 1) := by decide +kernel
theorem dX12_findLines_20 : decode cX12_findLines 20 = .ok (.iastore, 1) := by decide +kernel
theorem dX12_findLines_21 : decode cX12_findLines 21 = .ok (.iload_n 2, 1) := by decide +kernel
theorem dX12_findLines_22 : decode cX12_findLines 22 = .ok (.iconst 1, 1) := by decide +kernel
theorem dX12_findLines_23 : decode cX12_findLines 23 = .ok (.isub, 1) := by decide +kernel
theorem dX12_findLines_24 : decode cX12_findLines 24 = .ok (.istore_n 3, 1) := by decide +kernel
theorem dX12_findLines_25 : decode cX12_findLines 25 = .ok (.iload_n 3, 1) := by decide +kernel
theorem dX12_findLines_26 : decode cX12_findLines 26 = .ok (.ifCond .lt 192, 3) := by decide +kernel
theorem dX12_findLines_29 : decode cX12_findLines 29 = .ok (.aload_n 0, 1) := by decide +kernel
theorem dX12_findLines_30 : decode cX12_findLines 30 = .ok (.iload_n 1, 1) := by decide +kernel
theorem dX12_findLines_31 : decode cX12_findLines 31 = .ok (.iload_n 3, 1) := by decide +kernel
theorem dX12_findLines_32 : decode cX12_findLines 32 = .ok (.invokevirtual 207, 3) := by decide +kernel
theorem dX12_findLines_35 : decode cX12_findLines 35 = .ok (.istore 4, 2) := by decide +kernel
theorem dX12_findLines_37 : decode cX12_findLines 37 = .ok (.iload 4, 2) := by decide +kernel
theorem dX12_findLines_39 : decode cX12_findLines 39 = .ok (.iload_n 3, 1) := by decide +kernel
theorem dX12_findLines_40 : decode cX12_findLines 40 = .ok (.if_icmp .le 32, 3) := by decide +kernel
theorem dX12_findLines_43 : decode cX12_findLines 43 = .ok (.aload_n 0, 1) := by decide +kernel
theorem dX12_findLines_44 : decode cX12_findLines 44 = .ok (.getfield 76, 3) := by decide +kernel
theorem dX12_findLines_47 : decode cX12_findLines 47 = .ok (.iload_n 3, 1) := by decide +kernel
theorem dX12_findLines_48 : decode cX12_findLines 48 = .ok (.aload_n 0, 1) := by decide +kernel
theorem dX12_findLines_49 : decode cX12_findLines 49 = .ok (.getfield 76, 3) := by decide +kernel
theorem dX12_findLines_52 : decode cX12_findLines 52 = .ok (.iload 4, 2) := by decide +kernel
theorem dX12_findLines_54 : decode cX12_findLines 54 = .ok (.laload, 1) := by decide +kernel
theorem dX12_findLines_55 : decode cX12_findLines 55 = .ok (.lastore, 1) := by decide +kernel
theorem dX12_findLines_56 : decode cX12_findLines 56 = .ok (.aload_n 0, 1) := by decide +kernel
theorem dX12_findLines_57 : decode cX12_findLines 57 = .ok (.getfield 80, 3) := by decide +kernel
theorem dX12_findLines_60 : decode cX12_findLines 60 = .ok (.iload_n 3, 1) := by decide +kernel
theorem dX12_findLines_61 : decode cX12_findLines 61 = .ok (.aload_n 0, 1) := by decide +kernel
theorem dX12_findLines_62 : decode cX12_findLines 62 = .ok (.getfield 80, 3) := by decide +kernel
theorem dX12_findLines_65 : decode cX12_findLines 65 = .ok (.iload 4, 2) := by decide +kernel
theorem dX12_findLines_67 : decode cX12_findLines 67 = .ok (.iaload, 1) := by decide +kernel
theorem dX12_findLines_68 : decode cX12_findLines 68 = .ok (.iastore, 1) := by decide +kernel
theorem dX12_findLines_69 : decode cX12_findLines 69 = .ok (.goto 143, 3) := by decide +kernel
theorem dX12_findLines_72 : decode cX12_findLines 72 = .ok (.lconst 0, 1) := by decide +kernel
theorem dX12_findLines_73 : decode cX12_findLines 73 = .ok (.lstore 5, 2) := by decide +kernel
theorem dX12_findLines_75 : decode cX12_findLines 75 = .ok (.ldc 210, 2) := by decide +kernel
theorem dX12_findLines_77 : decode cX12_findLines 77 = .ok (.istore 7, 2) := by decide +kernel
theorem dX12_findLines_79 : decode cX12_findLines 79 = .ok (.iconst 0, 1) := by decide +kernel
theorem dX12_findLines_80 : decode cX12_findLines 80 = .ok (.istore 8, 2) := by decide +kernel
theorem dX12_findLines_82 : decode cX12_findLines 82 = .ok (.iload 8, 2) := by decide +kernel
theorem dX12_findLines_84 : decode cX12_findLines 84 = .ok (.aload_n 0, 1) := by decide +kernel
theorem dX12_findLines_85 : decode cX12_findLines 85 = .ok (.getfield 201, 3) := by decide +kernel
theorem dX12_findLines_88 : decode cX12_findLines 88 = .ok (.if_icmp .ge 108, 3) := by decide +kernel
theorem dX12_findLines_91 : decode cX12_findLines 91 = .ok (.aload_n 0, 1) := by decide +kernel
theorem dX12_findLines_92 : decode cX12_findLines 92 = .ok (.iload_n 1, 1) := by decide +kernel
theorem dX12_findLines_93 : decode cX12_findLines 93 = .ok (.iload_n 3, 1) := by decide +kernel
theorem dX12_findLines_94 : decode cX12_findLines 94 = .ok (.iload 8, 2) := by decide +kernel
theorem dX12_findLines_96 : decode cX12_findLines 96 = .ok (.invokevirtual 211, 3) := by decide +kernel
theorem dX12_findLines_99 : decode cX12_findLines 99 = .ok (.istore 9, 2) := by decide +kernel
theorem dX12_findLines_101 : decode cX12_findLines 101 = .ok (.iload 9, 2) := by decide +kernel
theorem dX12_findLines_103 : decode cX12_findLines 103 = .ok (.ifCond .ne 41, 3) := by decide +kernel
theorem dX12_findLines_106 : decode cX12_findLines 106 = .ok (.lload 5, 2) := by decide +kernel
theorem dX12_findLines_108 : decode cX12_findLines 108 = .ok (.aload_n 0, 1) := by decide +kernel
theorem dX12_findLines_109 : decode cX12_findLines 109 = .ok (.getfield 76, 3) := by decide +kernel
theorem dX12_findLines_112 : decode cX12_findLines 112 = .ok (.iload_n 3, 1) := by decide +kernel
theorem dX12_findLines_113 : decode cX12_findLines 113 = .ok (.aload_n 0, 1) := by decide +kernel
theorem dX12_findLines_114 : decode cX12_findLines 114 = .ok (.getfield 70, 3) := by decide +kernel
theorem dX12_findLines_117 : decode cX12_findLines 117 = .ok (.iload 8, 2) := by decide +kernel
theorem dX12_findLines_119 : decode cX12_findLines 119 = .ok (.iaload, 1) := by decide +kernel
theorem dX12_findLines_120 : decode cX12_findLines 120 = .ok (.iadd, 1) := by decide +kernel
theorem dX12_findLines_121 : decode cX12_findLines 121 = .ok (.laload, 1) := by decide +kernel
theorem dX12_findLines_122 : decode cX12_findLines 122 = .ok (.ladd, 1) := by decide +kernel
theorem dX12_findLines_123 : decode cX12_findLines 123 = .ok (.lstore 5, 2) := by decide +kernel
theorem dX12_findLines_125 : decode cX12_findLines 125 = .ok (.lload 5, 2) := by decide +kernel
theorem dX12_findLines_127 : decode cX12_findLines 127 = .ok (.ldc2_w 215, 3) := by decide +kernel
theorem dX12_findLines_130 : decode cX12_findLines 130 = .ok (.lcmp, 1) := by decide +kernel
theorem dX12_findLines_131 : decode cX12_findLines 131 = .ok (.ifCond .le 9, 3) := by decide +kernel
theorem dX12_findLines_134 : decode cX12_findLines 134 = .ok (.ldc2_w 215, 3) := by decide +kernel
theorem dX12_findLines_137 : decode cX12_findLines 137 = .ok (.goto 5, 3) := by decide +kernel
theorem dX12_findLines_140 : decode cX12_findLines 140 = .ok (.lload 5, 2) := by decide +kernel
theorem dX12_findLines_142 : decode cX12_findLines 142 = .ok (.lstore 5, 2) := by decide +kernel
theorem dX12_findLines_144 : decode cX12_findLines 144 = .ok (.iload 9, 2) := by decide +kernel
theorem dX12_findLines_146 : decode cX12_findLines 146 = .ok (.ifCond .lt 44, 3) := by decide +kernel
theorem dX12_findLines_149 : decode cX12_findLines 149 = .ok (.iload 9, 2) := by decide +kernel
theorem dX12_findLines_151 : decode cX12_findLines 151 = .ok (.aload_n 0, 1) := by decide +kernel
theorem dX12_findLines_152 : decode cX12_findLines 152 = .ok (.getfield 80, 3) := by decide +kernel
theorem dX12_findLines_155 : decode cX12_findLines 155 = .ok (.iload_n 3, 1) := by decide +kernel
theorem dX12_findLines_156 : decode cX12_findLines 156 = .ok (.aload_n 0, 1) := by decide +kernel
theorem dX12_findLines_157 : decode cX12_findLines 157 = .ok (.getfield 70, 3) := by decide +kernel
theorem dX12_findLines_160 : decode cX12_findLines 160 = .ok (.iload 8, 2) := by decide +kernel
theorem dX12_findLines_162 : decode cX12_findLines 162 = .ok (.iaload, 1) := by decide +kernel
theorem dX12_findLines_163 : decode cX12_findLines 163 = .ok (.iadd, 1) := by decide +kernel
theorem dX12_findLines_164 : decode cX12_findLines 164 = .ok (.iaload, 1) := by decide +kernel
theorem dX12_findLines_165 : decode cX12_findLines 165 = .ok (.iadd, 1) := by decide +kernel
theorem dX12_findLines_166 : decode cX12_findLines 166 = .ok (.iload 7, 2) := by decide +kernel
theorem dX12_findLines_168 : decode cX12_findLines 168 = .ok (.if_icmp .ge 22, 3) := by decide +kernel
theorem dX12_findLines_171 : decode cX12_findLines 171 = .ok (.iload 9, 2) := by decide +kernel
theorem dX12_findLines_173 : decode cX12_findLines 173 = .ok (.aload_n 0, 1) := by decide +kernel
theorem dX12_findLines_174 : decode cX12_findLines 174 = .ok (.getfield 80, 3) := by decide +kernel
theorem dX12_findLines_177 : decode cX12_findLines 177 = .ok (.iload_n 3, 1) := by decide +kernel
theorem dX12_findLines_178 : decode cX12_findLines 178 = .ok (.aload_n 0, 1) := by decide +kernel
theorem dX12_findLines_179 : decode cX12_findLines 179 = .ok (.getfield 70, 3) := by decide +kernel
theorem dX12_findLines_182 : decode cX12_findLines 182 = .ok (.iload 8, 2) := by decide +kernel
theorem dX12_findLines_184 : decode cX12_findLines 184 = .ok (.iaload, 1) := by decide +kernel
theorem dX12_findLines_185 : decode cX12_findLines 185 = .ok (.iadd, 1) := by decide +kernel
theorem dX12_findLines_186 : decode cX12_findLines 186 = .ok (.iaload, 1) := by decide +kernel
theorem dX12_findLines_187 : decode cX12_findLines 187 = .ok (.iadd, 1) := by decide +kernel
theorem dX12_findLines_188 : decode cX12_findLines 188 = .ok (.istore 7, 2) := by decide +kernel
theorem dX12_findLines_190 : decode cX12_findLines 190 = .ok (.iinc 8 1, 3) := by decide +kernel
theorem dX12_findLines_193 : decode cX12_findLines 193 = .ok (.goto (-111), 3) := by decide +kernel
theorem dX12_findLines_196 : decode cX12_findLines 196 = .ok (.aload_n 0, 1) := by decide +kernel
theorem dX12_findLines_197 : decode cX12_findLines 197 = .ok (.getfield 76, 3) := by decide +kernel
theorem dX12_findLines_200 : decode cX12_findLines 200 = .ok (.iload_n 3, 1) := by decide +kernel
theorem dX12_findLines_201 : decode cX12_findLines 201 = .ok (.lload 5, 2) := by decide +kernel
theorem dX12_findLines_203 : decode cX12_findLines 203 = .ok (.lastore, 1) := by decide +kernel
theorem dX12_findLines_204 : decode cX12_findLines 204 = .ok (.aload_n 0, 1) := by decide +kernel
theorem dX12_findLines_205 : decode cX12_findLines 205 = .ok (.getfield 80, 3) := by decide +kernel
theorem dX12_findLines_208 : decode cX12_findLines 208 = .ok (.iload_n 3, 1) := by decide +kernel
theorem dX12_findLines_209 : decode cX12_findLines 209 = .ok (.iload 7, 2) := by decide +kernel
theorem dX12_findLines_211 : decode cX12_findLines 211 = .ok (.iastore, 1) := by decide +kernel
theorem dX12_findLines_212 : decode cX12_findLines 212 = .ok (.iinc 3 (-1), 3) := by decide +kernel
theorem dX12_findLines_215 : decode cX12_findLines 215 = .ok (.goto (-190), 3) := by decide +kernel
theorem dX12_findLines_218 : decode cX12_findLines 218 = .ok (.return_, 1) := by decide +kernel
theorem dX12_restAll_0 : decode cX12_restAll 0 = .ok (.iconst 0, 1) := by decide +kernel
theorem dX12_restAll_1 : decode cX12_restAll 1 = .ok (.istore_n 3, 1) := by decide +kernel
theorem dX12_restAll_2 : decode cX12_restAll 2 = .ok (.iload_n 3, 1) := by decide +kernel
theorem dX12_restAll_3 : decode cX12_restAll 3 = .ok (.aload_n 0, 1) := by decide +kernel
theorem dX12_restAll_4 : decode cX12_restAll 4 = .ok (.getfield 121, 3) := by decide +kernel
theorem dX12_restAll_7 : decode cX12_restAll 7 = .ok (.if_icmp .ge 64, 3) := by decide +kernel
theorem dX12_restAll_10 : decode cX12_restAll 10 = .ok (.aload_n 0, 1) := by decide +kernel
theorem dX12_restAll_11 : decode cX12_restAll 11 = .ok (.getfield 40, 3) := by decide +kernel
theorem dX12_restAll_14 : decode cX12_restAll 14 = .ok (.bipush 10, 2) := by decide +kernel
theorem dX12_restAll_16 : decode cX12_restAll 16 = .ok (.iload_n 1, 1) := by decide +kernel
theorem dX12_restAll_17 : decode cX12_restAll 17 = .ok (.imul, 1) := by decide +kernel
theorem dX12_restAll_18 : decode cX12_restAll 18 = .ok (.iload_n 3, 1) := by decide +kernel
theorem dX12_restAll_19 : decode cX12_restAll 19 = .ok (.iadd, 1) := by decide +kernel
theorem dX12_restAll_20 : decode cX12_restAll 20 = .ok (.iaload, 1) := by decide +kernel
theorem dX12_restAll_21 : decode cX12_restAll 21 = .ok (.iload_n 2, 1) := by decide +kernel
theorem dX12_restAll_22 : decode cX12_restAll 22 = .ok (.aload_n 0, 1) := by decide +kernel
theorem dX12_restAll_23 : decode cX12_restAll 23 = .ok (.getfield 31, 3) := by decide +kernel
theorem dX12_restAll_26 : decode cX12_restAll 26 = .ok (.iload_n 3, 1) := by decide +kernel
theorem dX12_restAll_27 : decode cX12_restAll 27 = .ok (.iaload, 1) := by decide +kernel
theorem dX12_restAll_28 : decode cX12_restAll 28 = .ok (.imul, 1) := by decide +kernel
theorem dX12_restAll_29 : decode cX12_restAll 29 = .ok (.iadd, 1) := by decide +kernel
theorem dX12_restAll_30 : decode cX12_restAll 30 = .ok (.istore 4, 2) := by decide +kernel
theorem dX12_restAll_32 : decode cX12_restAll 32 = .ok (.aload_n 0, 1) := by decide +kernel
theorem dX12_restAll_33 : decode cX12_restAll 33 = .ok (.getfield 40, 3) := by decide +kernel
theorem dX12_restAll_36 : decode cX12_restAll 36 = .ok (.bipush 10, 2) := by decide +kernel
theorem dX12_restAll_38 : decode cX12_restAll 38 = .ok (.iload_n 1, 1) := by decide +kernel
theorem dX12_restAll_39 : decode cX12_restAll 39 = .ok (.imul, 1) := by decide +kernel
theorem dX12_restAll_40 : decode cX12_restAll 40 = .ok (.iload_n 3, 1) := by decide +kernel
theorem dX12_restAll_41 : decode cX12_restAll 41 = .ok (.iadd, 1) := by decide +kernel
theorem dX12_restAll_42 : decode cX12_restAll 42 = .ok (.iload 4, 2) := by decide +kernel
theorem dX12_restAll_44 : decode cX12_restAll 44 = .ok (.aload_n 0, 1) := by decide +kernel
theorem dX12_restAll_45 : decode cX12_restAll 45 = .ok (.getfield 25, 3) := by decide +kernel
theorem dX12_restAll_48 : decode cX12_restAll 48 = .ok (.iload_n 3, 1) := by decide +kernel
theorem dX12_restAll_49 : decode cX12_restAll 49 = .ok (.iaload, 1) := by decide +kernel
theorem dX12_restAll_50 : decode cX12_restAll 50 = .ok (.if_icmp .le 12, 3) := by decide +kernel
theorem dX12_restAll_53 : decode cX12_restAll 53 = .ok (.aload_n 0, 1) := by decide +kernel
theorem dX12_restAll_54 : decode cX12_restAll 54 = .ok (.getfield 25, 3) := by decide +kernel
theorem dX12_restAll_57 : decode cX12_restAll 57 = .ok (.iload_n 3, 1) := by decide +kernel
theorem dX12_restAll_58 : decode cX12_restAll 58 = .ok (.iaload, 1) := by decide +kernel
theorem dX12_restAll_59 : decode cX12_restAll 59 = .ok (.goto 5, 3) := by decide +kernel
theorem dX12_restAll_62 : decode cX12_restAll 62 = .ok (.iload 4, 2) := by decide +kernel
theorem dX12_restAll_64 : decode cX12_restAll 64 = .ok (.iastore, 1) := by decide +kernel
theorem dX12_restAll_65 : decode cX12_restAll 65 = .ok (.iinc 3 1, 3) := by decide +kernel
theorem dX12_restAll_68 : decode cX12_restAll 68 = .ok (.goto (-66), 3) := by decide +kernel
theorem dX12_restAll_71 : decode cX12_restAll 71 = .ok (.return_, 1) := by decide +kernel
theorem dX12_go_0 : decode cX12_go 0 = .ok (.aload_n 0, 1) := by decide +kernel
theorem dX12_go_1 : decode cX12_go 1 = .ok (.iload_n 1, 1) := by decide +kernel
theorem dX12_go_2 : decode cX12_go 2 = .ok (.iload_n 1, 1) := by decide +kernel
theorem dX12_go_3 : decode cX12_go 3 = .ok (.iconst 1, 1) := by decide +kernel
theorem dX12_go_4 : decode cX12_go 4 = .ok (.iadd, 1) := by decide +kernel
theorem dX12_go_5 : decode cX12_go 5 = .ok (.invokevirtual 180, 3) := by decide +kernel
theorem dX12_go_8 : decode cX12_go 8 = .ok (.iload_n 1, 1) := by decide +kernel
theorem dX12_go_9 : decode cX12_go 9 = .ok (.ifCond .le 14, 3) := by decide +kernel
theorem dX12_go_12 : decode cX12_go 12 = .ok (.aload_n 0, 1) := by decide +kernel
theorem dX12_go_13 : decode cX12_go 13 = .ok (.iload_n 1, 1) := by decide +kernel
theorem dX12_go_14 : decode cX12_go 14 = .ok (.iconst 1, 1) := by decide +kernel
theorem dX12_go_15 : decode cX12_go 15 = .ok (.iadd, 1) := by decide +kernel
theorem dX12_go_16 : decode cX12_go 16 = .ok (.aload_n 0, 1) := by decide +kernel
theorem dX12_go_17 : decode cX12_go 17 = .ok (.getfield 177, 3) := by decide +kernel
theorem dX12_go_20 : decode cX12_go 20 = .ok (.invokevirtual 137, 3) := by decide +kernel
theorem dX12_go_23 : decode cX12_go 23 = .ok (.aload_n 0, 1) := by decide +kernel
theorem dX12_go_24 : decode cX12_go 24 = .ok (.iload_n 1, 1) := by decide +kernel
theorem dX12_go_25 : decode cX12_go 25 = .ok (.iconst 1, 1) := by decide +kernel
theorem dX12_go_26 : decode cX12_go 26 = .ok (.iadd, 1) := by decide +kernel
theorem dX12_go_27 : decode cX12_go 27 = .ok (.iload_n 2, 1) := by decide +kernel
theorem dX12_go_28 : decode cX12_go 28 = .ok (.aload_n 0, 1) := by decide +kernel
theorem dX12_go_29 : decode cX12_go 29 = .ok (.getfield 128, 3) := by decide +kernel
theorem dX12_go_32 : decode cX12_go 32 = .ok (.aload_n 0, 1) := by decide +kernel
theorem dX12_go_33 : decode cX12_go 33 = .ok (.getfield 52, 3) := by decide +kernel
theorem dX12_go_36 : decode cX12_go 36 = .ok (.iload_n 1, 1) := by decide +kernel
theorem dX12_go_37 : decode cX12_go 37 = .ok (.iaload, 1) := by decide +kernel
theorem dX12_go_38 : decode cX12_go 38 = .ok (.aload_n 0, 1) := by decide +kernel
theorem dX12_go_39 : decode cX12_go 39 = .ok (.getfield 55, 3) := by decide +kernel
theorem dX12_go_42 : decode cX12_go 42 = .ok (.iload_n 1, 1) := by decide +kernel
theorem dX12_go_43 : decode cX12_go 43 = .ok (.iaload, 1) := by decide +kernel
theorem dX12_go_44 : decode cX12_go 44 = .ok (.aload_n 0, 1) := by decide +kernel
theorem dX12_go_45 : decode cX12_go 45 = .ok (.getfield 58, 3) := by decide +kernel
theorem dX12_go_48 : decode cX12_go 48 = .ok (.iload_n 1, 1) := by decide +kernel
theorem dX12_go_49 : decode cX12_go 49 = .ok (.iaload, 1) := by decide +kernel
theorem dX12_go_50 : decode cX12_go 50 = .ok (.iconst 0, 1) := by decide +kernel
theorem dX12_go_51 : decode cX12_go 51 = .ok (.invokevirtual 170, 3) := by decide +kernel
theorem dX12_go_54 : decode cX12_go 54 = .ok (.istore_n 3, 1) := by decide +kernel
theorem dX12_go_55 : decode cX12_go 55 = .ok (.aload_n 0, 1) := by decide +kernel
theorem dX12_go_56 : decode cX12_go 56 = .ok (.getfield 67, 3) := by decide +kernel
theorem dX12_go_59 : decode cX12_go 59 = .ok (.iload_n 1, 1) := by decide +kernel
theorem dX12_go_60 : decode cX12_go 60 = .ok (.iconst 1, 1) := by decide +kernel
theorem dX12_go_61 : decode cX12_go 61 = .ok (.iadd, 1) := by decide +kernel
theorem dX12_go_62 : decode cX12_go 62 = .ok (.aload_n 0, 1) := by decide +kernel
theorem dX12_go_63 : decode cX12_go 63 = .ok (.getfield 67, 3) := by decide +kernel
theorem dX12_go_66 : decode cX12_go 66 = .ok (.iload_n 1, 1) := by decide +kernel
theorem dX12_go_67 : decode cX12_go 67 = .ok (.iaload, 1) := by decide +kernel
theorem dX12_go_68 : decode cX12_go 68 = .ok (.iload_n 1, 1) := by decide +kernel
theorem dX12_go_69 : decode cX12_go 69 = .ok (.ifCond .le 10, 3) := by decide +kernel
theorem dX12_go_72 : decode cX12_go 72 = .ok (.aload_n 0, 1) := by decide +kernel
theorem dX12_go_73 : decode cX12_go 73 = .ok (.getfield 177, 3) := by decide +kernel
theorem dX12_go_76 : decode cX12_go 76 = .ok (.goto 4, 3) := by decide +kernel
theorem dX12_go_79 : decode cX12_go 79 = .ok (.iconst 0, 1) := by decide +kernel
theorem dX12_go_80 : decode cX12_go 80 = .ok (.iadd, 1) := by decide +kernel
theorem dX12_go_81 : decode cX12_go 81 = .ok (.iload_n 3, 1) := by decide +kernel
theorem dX12_go_82 : decode cX12_go 82 = .ok (.iadd, 1) := by decide +kernel
theorem dX12_go_83 : decode cX12_go 83 = .ok (.iastore, 1) := by decide +kernel
theorem dX12_go_84 : decode cX12_go 84 = .ok (.iload_n 3, 1) := by decide +kernel
theorem dX12_go_85 : decode cX12_go 85 = .ok (.ifCond .le 7, 3) := by decide +kernel
theorem dX12_go_88 : decode cX12_go 88 = .ok (.iconst 1, 1) := by decide +kernel
theorem dX12_go_89 : decode cX12_go 89 = .ok (.goto 4, 3) := by decide +kernel
theorem dX12_go_92 : decode cX12_go 92 = .ok (.iconst 0, 1) := by decide +kernel
theorem dX12_go_93 : decode cX12_go 93 = .ok (.ireturn, 1) := by decide +kernel
theorem dX12_findPlan_0 : decode cX12_findPlan 0 = .ok (.iconst (-1), 1) := by decide +kernel
theorem dX12_findPlan_1 : decode cX12_findPlan 1 = .ok (.istore_n 1, 1) := by decide +kernel
theorem dX12_findPlan_2 : decode cX12_findPlan 2 = .ok (.aload_n 0, 1) := by decide +kernel
theorem dX12_findPlan_3 : decode cX12_findPlan 3 = .ok (.getfield 67, 3) := by decide +kernel
theorem dX12_findPlan_6 : decode cX12_findPlan 6 = .ok (.iconst 0, 1) := by decide +kernel
theorem dX12_findPlan_7 : decode cX12_findPlan 7 = .ok (.iconst 0, 1) := by decide +kernel
theorem dX12_findPlan_8 : decode cX12_findPlan 8 = .ok (.iastore, 1) := by decide +kernel
theorem dX12_findPlan_9 : decode cX12_findPlan 9 = .ok (.iconst 0, 1) := by decide +kernel
theorem dX12_findPlan_10 : decode cX12_findPlan 10 = .ok (.istore_n 2, 1) := by decide +kernel
theorem dX12_findPlan_11 : decode cX12_findPlan 11 = .ok (.aload_n 0, 1) := by decide +kernel
theorem dX12_findPlan_12 : decode cX12_findPlan 12 = .ok (.getfield 61, 3) := by decide +kernel
theorem dX12_findPlan_15 : decode cX12_findPlan 15 = .ok (.iconst 0, 1) := by decide +kernel
theorem dX12_findPlan_16 : decode cX12_findPlan 16 = .ok (.iconst 0, 1) := by decide +kernel
theorem dX12_findPlan_17 : decode cX12_findPlan 17 = .ok (.iastore, 1) := by decide +kernel
theorem dX12_findPlan_18 : decode cX12_findPlan 18 = .ok (.iload_n 2, 1) := by decide +kernel
theorem dX12_findPlan_19 : decode cX12_findPlan 19 = .ok (.ifCond .lt 154, 3) := by decide +kernel
theorem dX12_findPlan_22 : decode cX12_findPlan 22 = .ok (.aload_n 0, 1) := by decide +kernel
theorem dX12_findPlan_23 : decode cX12_findPlan 23 = .ok (.getfield 61, 3) := by decide +kernel
theorem dX12_findPlan_26 : decode cX12_findPlan 26 = .ok (.iload_n 2, 1) := by decide +kernel
theorem dX12_findPlan_27 : decode cX12_findPlan 27 = .ok (.iaload, 1) := by decide +kernel
theorem dX12_findPlan_28 : decode cX12_findPlan 28 = .ok (.aload_n 0, 1) := by decide +kernel
theorem dX12_findPlan_29 : decode cX12_findPlan 29 = .ok (.getfield 108, 3) := by decide +kernel
theorem dX12_findPlan_32 : decode cX12_findPlan 32 = .ok (.if_icmp .ne 23, 3) := by decide +kernel
theorem dX12_findPlan_35 : decode cX12_findPlan 35 = .ok (.iinc 2 (-1), 3) := by decide +kernel
theorem dX12_findPlan_38 : decode cX12_findPlan 38 = .ok (.iload_n 2, 1) := by decide +kernel
theorem dX12_findPlan_39 : decode cX12_findPlan 39 = .ok (.ifCond .lt (-21), 3) := by decide +kernel
theorem dX12_findPlan_42 : decode cX12_findPlan 42 = .ok (.aload_n 0, 1) := by decide +kernel
theorem dX12_findPlan_43 : decode cX12_findPlan 43 = .ok (.getfield 61, 3) := by decide +kernel
theorem dX12_findPlan_46 : decode cX12_findPlan 46 = .ok (.iload_n 2, 1) := by decide +kernel
theorem dX12_findPlan_47 : decode cX12_findPlan 47 = .ok (.dup2, 1) := by decide +kernel
theorem dX12_findPlan_48 : decode cX12_findPlan 48 = .ok (.iaload, 1) := by decide +kernel
theorem dX12_findPlan_49 : decode cX12_findPlan 49 = .ok (.iconst 1, 1) := by decide +kernel
theorem dX12_findPlan_50 : decode cX12_findPlan 50 = .ok (.iadd, 1) := by decide +kernel
theorem dX12_findPlan_51 : decode cX12_findPlan 51 = .ok (.iastore, 1) := by decide +kernel
theorem dX12_findPlan_52 : decode cX12_findPlan 52 = .ok (.goto (-34), 3) := by decide +kernel
theorem dX12_findPlan_55 : decode cX12_findPlan 55 = .ok (.aload_n 0, 1) := by decide +kernel
theorem dX12_findPlan_56 : decode cX12_findPlan 56 = .ok (.iload_n 2, 1) := by decide +kernel
theorem dX12_findPlan_57 : decode cX12_findPlan 57 = .ok (.aload_n 0, 1) := by decide +kernel
theorem dX12_findPlan_58 : decode cX12_findPlan 58 = .ok (.getfield 61, 3) := by decide +kernel
theorem dX12_findPlan_61 : decode cX12_findPlan 61 = .ok (.iload_n 2, 1) := by decide +kernel
theorem dX12_findPlan_62 : decode cX12_findPlan 62 = .ok (.iaload, 1) := by decide +kernel
theorem dX12_findPlan_63 : decode cX12_findPlan 63 = .ok (.invokevirtual 183, 3) := by decide +kernel
theorem dX12_findPlan_66 : decode cX12_findPlan 66 = .ok (.ifCond .ne 16, 3) := by decide +kernel
theorem dX12_findPlan_69 : decode cX12_findPlan 69 = .ok (.aload_n 0, 1) := by decide +kernel
theorem dX12_findPlan_70 : decode cX12_findPlan 70 = .ok (.getfield 61, 3) := by decide +kernel
theorem dX12_findPlan_73 : decode cX12_findPlan 73 = .ok (.iload_n 2, 1) := by decide +kernel
theorem dX12_findPlan_74 : decode cX12_findPlan 74 = .ok (.dup2, 1) := by decide +kernel
theorem dX12_findPlan_75 : decode cX12_findPlan 75 = .ok (.iaload, 1) := by decide +kernel
theorem dX12_findPlan_76 : decode cX12_findPlan 76 = .ok (.iconst 1, 1) := by decide +kernel
theorem dX12_findPlan_77 : decode cX12_findPlan 77 = .ok (.iadd, 1) := by decide +kernel
theorem dX12_findPlan_78 : decode cX12_findPlan 78 = .ok (.iastore, 1) := by decide +kernel
theorem dX12_findPlan_79 : decode cX12_findPlan 79 = .ok (.goto (-61), 3) := by decide +kernel
theorem dX12_findPlan_82 : decode cX12_findPlan 82 = .ok (.iload_n 2, 1) := by decide +kernel
theorem dX12_findPlan_83 : decode cX12_findPlan 83 = .ok (.iconst 1, 1) := by decide +kernel
theorem dX12_findPlan_84 : decode cX12_findPlan 84 = .ok (.iadd, 1) := by decide +kernel
theorem dX12_findPlan_85 : decode cX12_findPlan 85 = .ok (.aload_n 0, 1) := by decide +kernel
theorem dX12_findPlan_86 : decode cX12_findPlan 86 = .ok (.getfield 174, 3) := by decide +kernel
theorem dX12_findPlan_89 : decode cX12_findPlan 89 = .ok (.if_icmp .ge 16, 3) := by decide +kernel
theorem dX12_findPlan_92 : decode cX12_findPlan 92 = .ok (.iinc 2 1, 3) := by decide +kernel
theorem dX12_findPlan_95 : decode cX12_findPlan 95 = .ok (.aload_n 0, 1) := by decide +kernel
theorem dX12_findPlan_96 : decode cX12_findPlan 96 = .ok (.getfield 61, 3) := by decide +kernel
theorem dX12_findPlan_99 : decode cX12_findPlan 99 = .ok (.iload_n 2, 1) := by decide +kernel
theorem dX12_findPlan_100 : decode cX12_findPlan 100 = .ok (.iconst 0, 1) := by decide +kernel
theorem dX12_findPlan_101 : decode cX12_findPlan 101 = .ok (.iastore, 1) := by decide +kernel
theorem dX12_findPlan_102 : decode cX12_findPlan 102 = .ok (.goto (-84), 3) := by decide +kernel
theorem dX12_findPlan_105 : decode cX12_findPlan 105 = .ok (.iload_n 1, 1) := by decide +kernel
theorem dX12_findPlan_106 : decode cX12_findPlan 106 = .ok (.ifCond .lt 16, 3) := by decide +kernel
theorem dX12_findPlan_109 : decode cX12_findPlan 109 = .ok (.aload_n 0, 1) := by decide +kernel
theorem dX12_findPlan_110 : decode cX12_findPlan 110 = .ok (.getfield 67, 3) := by decide +kernel
theorem dX12_findPlan_113 : decode cX12_findPlan 113 = .ok (.aload_n 0, 1) := by decide +kernel
theorem dX12_findPlan_114 : decode cX12_findPlan 114 = .ok (.getfield 174, 3) := by decide +kernel
theorem dX12_findPlan_117 : decode cX12_findPlan 117 = .ok (.iaload, 1) := by decide +kernel
theorem dX12_findPlan_118 : decode cX12_findPlan 118 = .ok (.iload_n 1, 1) := by decide +kernel
theorem dX12_findPlan_119 : decode cX12_findPlan 119 = .ok (.if_icmp .ge 41, 3) := by decide +kernel
theorem dX12_findPlan_122 : decode cX12_findPlan 122 = .ok (.aload_n 0, 1) := by decide +kernel
theorem dX12_findPlan_123 : decode cX12_findPlan 123 = .ok (.getfield 67, 3) := by decide +kernel
theorem dX12_findPlan_126 : decode cX12_findPlan 126 = .ok (.aload_n 0, 1) := by decide +kernel
theorem dX12_findPlan_127 : decode cX12_findPlan 127 = .ok (.getfield 174, 3) := by decide +kernel
theorem dX12_findPlan_130 : decode cX12_findPlan 130 = .ok (.iaload, 1) := by decide +kernel
theorem dX12_findPlan_131 : decode cX12_findPlan 131 = .ok (.istore_n 1, 1) := by decide +kernel
theorem dX12_findPlan_132 : decode cX12_findPlan 132 = .ok (.iconst 0, 1) := by decide +kernel
theorem dX12_findPlan_133 : decode cX12_findPlan 133 = .ok (.istore_n 3, 1) := by decide +kernel
theorem dX12_findPlan_134 : decode cX12_findPlan 134 = .ok (.iload_n 3, 1) := by decide +kernel
theorem dX12_findPlan_135 : decode cX12_findPlan 135 = .ok (.aload_n 0, 1) := by decide +kernel
theorem dX12_findPlan_136 : decode cX12_findPlan 136 = .ok (.getfield 174, 3) := by decide +kernel
theorem dX12_findPlan_139 : decode cX12_findPlan 139 = .ok (.if_icmp .ge 21, 3) := by decide +kernel
theorem dX12_findPlan_142 : decode cX12_findPlan 142 = .ok (.aload_n 0, 1) := by decide +kernel
theorem dX12_findPlan_143 : decode cX12_findPlan 143 = .ok (.getfield 64, 3) := by decide +kernel
theorem dX12_findPlan_146 : decode cX12_findPlan 146 = .ok (.iload_n 3, 1) := by decide +kernel
theorem dX12_findPlan_147 : decode cX12_findPlan 147 = .ok (.aload_n 0, 1) := by decide +kernel
theorem dX12_findPlan_148 : decode cX12_findPlan 148 = .ok (.getfield 61, 3) := by decide +kernel
theorem dX12_findPlan_151 : decode cX12_findPlan 151 = .ok (.iload_n 3, 1) := by decide +kernel
theorem dX12_findPlan_152 : decode cX12_findPlan 152 = .ok (.iaload, 1) := by decide +kernel
theorem dX12_findPlan_153 : decode cX12_findPlan 153 = .ok (.iastore, 1) := by decide +kernel
theorem dX12_findPlan_154 : decode cX12_findPlan 154 = .ok (.iinc 3 1, 3) := by decide +kernel
theorem dX12_findPlan_157 : decode cX12_findPlan 157 = .ok (.goto (-23), 3) := by decide +kernel
theorem dX12_findPlan_160 : decode cX12_findPlan 160 = .ok (.aload_n 0, 1) := by decide +kernel
theorem dX12_findPlan_161 : decode cX12_findPlan 161 = .ok (.getfield 61, 3) := by decide +kernel
theorem dX12_findPlan_164 : decode cX12_findPlan 164 = .ok (.iload_n 2, 1) := by decide +kernel
theorem dX12_findPlan_165 : decode cX12_findPlan 165 = .ok (.dup2, 1) := by decide +kernel
theorem dX12_findPlan_166 : decode cX12_findPlan 166 = .ok (.iaload, 1) := by decide +kernel
theorem dX12_findPlan_167 : decode cX12_findPlan 167 = .ok (.iconst 1, 1) := by decide +kernel
theorem dX12_findPlan_168 : decode cX12_findPlan 168 = .ok (.iadd, 1) := by decide +kernel
theorem dX12_findPlan_169 : decode cX12_findPlan 169 = .ok (.iastore, 1) := by decide +kernel
theorem dX12_findPlan_170 : decode cX12_findPlan 170 = .ok (.goto (-152), 3) := by decide +kernel
theorem dX12_findPlan_173 : decode cX12_findPlan 173 = .ok (.iload_n 1, 1) := by decide +kernel
theorem dX12_findPlan_174 : decode cX12_findPlan 174 = .ok (.ireturn, 1) := by decide +kernel
theorem dX12_findTree_0 : decode cX12_findTree 0 = .ok (.aload_n 0, 1) := by decide +kernel
theorem dX12_findTree_1 : decode cX12_findTree 1 = .ok (.iconst 0, 1) := by decide +kernel
theorem dX12_findTree_2 : decode cX12_findTree 2 = .ok (.putfield 262, 3) := by decide +kernel
theorem dX12_findTree_5 : decode cX12_findTree 5 = .ok (.iconst 1, 1) := by decide +kernel
theorem dX12_findTree_6 : decode cX12_findTree 6 = .ok (.istore_n 1, 1) := by decide +kernel
theorem dX12_findTree_7 : decode cX12_findTree 7 = .ok (.aload_n 0, 1) := by decide +kernel
theorem dX12_findTree_8 : decode cX12_findTree 8 = .ok (.getfield 95, 3) := by decide +kernel
theorem dX12_findTree_11 : decode cX12_findTree 11 = .ok (.iconst 0, 1) := by decide +kernel
theorem dX12_findTree_12 : decode cX12_findTree 12 = .ok (.iconst (-1), 1) := by decide +kernel
theorem dX12_findTree_13 : decode cX12_findTree 13 = .ok (.iastore, 1) := by decide +kernel
theorem dX12_findTree_14 : decode cX12_findTree 14 = .ok (.iconst 1, 1) := by decide +kernel
theorem dX12_findTree_15 : decode cX12_findTree 15 = .ok (.istore_n 2, 1) := by decide +kernel
theorem dX12_findTree_16 : decode cX12_findTree 16 = .ok (.iload_n 2, 1) := by decide +kernel
theorem dX12_findTree_17 : decode cX12_findTree 17 = .ok (.aload_n 0, 1) := by decide +kernel
theorem dX12_findTree_18 : decode cX12_findTree 18 = .ok (.getfield 108, 3) := by decide +kernel
theorem dX12_findTree_21 : decode cX12_findTree 21 = .ok (.if_icmp .ge 131, 3) := by decide +kernel
theorem dX12_findTree_24 : decode cX12_findTree 24 = .ok (.iconst (-1), 1) := by decide +kernel
theorem dX12_findTree_25 : decode cX12_findTree 25 = .ok (.istore_n 3, 1) := by decide +kernel
theorem dX12_findTree_26 : decode cX12_findTree 26 = .ok (.ldc 210, 2) := by decide +kernel
theorem dX12_findTree_28 : decode cX12_findTree 28 = .ok (.istore 4, 2) := by decide +kernel
theorem dX12_findTree_30 : decode cX12_findTree 30 = .ok (.iconst (-1), 1) := by decide +kernel
theorem dX12_findTree_31 : decode cX12_findTree 31 = .ok (.istore 5, 2) := by decide +kernel
theorem dX12_findTree_33 : decode cX12_findTree 33 = .ok (.iconst 0, 1) := by decide +kernel
theorem dX12_findTree_34 : decode cX12_findTree 34 = .ok (.istore 6, 2) := by decide +kernel
theorem dX12_findTree_36 : decode cX12_findTree 36 = .ok (.iload 6, 2) := by decide +kernel
theorem dX12_findTree_38 : decode cX12_findTree 38 = .ok (.aload_n 0, 1) := by decide +kernel
theorem dX12_findTree_39 : decode cX12_findTree 39 = .ok (.getfield 108, 3) := by decide +kernel
theorem dX12_findTree_42 : decode cX12_findTree 42 = .ok (.if_icmp .ge 79, 3) := by decide +kernel
theorem dX12_findTree_45 : decode cX12_findTree 45 = .ok (.iconst 0, 1) := by decide +kernel
theorem dX12_findTree_46 : decode cX12_findTree 46 = .ok (.istore 7, 2) := by decide +kernel
theorem dX12_findTree_48 : decode cX12_findTree 48 = .ok (.iload 7, 2) := by decide +kernel
theorem dX12_findTree_50 : decode cX12_findTree 50 = .ok (.aload_n 0, 1) := by decide +kernel
theorem dX12_findTree_51 : decode cX12_findTree 51 = .ok (.getfield 108, 3) := by decide +kernel
theorem dX12_findTree_54 : decode cX12_findTree 54 = .ok (.if_icmp .ge 61, 3) := by decide +kernel
theorem dX12_findTree_57 : decode cX12_findTree 57 = .ok (.iload_n 1, 1) := by decide +kernel
theorem dX12_findTree_58 : decode cX12_findTree 58 = .ok (.iload 6, 2) := by decide +kernel
theorem dX12_findTree_60 : decode cX12_findTree 60 = .ok (.ishr, 1) := by decide +kernel
theorem dX12_findTree_61 : decode cX12_findTree 61 = .ok (.iconst 1, 1) := by decide +kernel
theorem dX12_findTree_62 : decode cX12_findTree 62 = .ok (.iand, 1) := by decide +kernel
theorem dX12_findTree_63 : decode cX12_findTree 63 = .ok (.ifCond .ne 52, 3) := by decide +kernel
theorem dX12_findTree_66 : decode cX12_findTree 66 = .ok (.iload_n 1, 1) := by decide +kernel
theorem dX12_findTree_67 : decode cX12_findTree 67 = .ok (.iload 7, 2) := by decide +kernel
theorem dX12_findTree_69 : decode cX12_findTree 69 = .ok (.ishr, 1) := by decide +kernel
theorem dX12_findTree_70 : decode cX12_findTree 70 = .ok (.iconst 1, 1) := by decide +kernel
theorem dX12_findTree_71 : decode cX12_findTree 71 = .ok (.iand, 1) := by decide +kernel
theorem dX12_findTree_72 : decode cX12_findTree 72 = .ok (.iconst 1, 1) := by decide +kernel
theorem dX12_findTree_73 : decode cX12_findTree 73 = .ok (.if_icmp .ne 14, 3) := by decide +kernel
theorem dX12_findTree_76 : decode cX12_findTree 76 = .ok (.aload_n 0, 1) := by decide +kernel
theorem dX12_findTree_77 : decode cX12_findTree 77 = .ok (.iload 6, 2) := by decide +kernel
theorem dX12_findTree_79 : decode cX12_findTree 79 = .ok (.iload 7, 2) := by decide +kernel
theorem dX12_findTree_81 : decode cX12_findTree 81 = .ok (.invokevirtual 259, 3) := by decide +kernel
theorem dX12_findTree_84 : decode cX12_findTree 84 = .ok (.goto 5, 3) := by decide +kernel
theorem dX12_findTree_87 : decode cX12_findTree 87 = .ok (.ldc 210, 2) := by decide +kernel
theorem dX12_findTree_89 : decode cX12_findTree 89 = .ok (.istore 8, 2) := by decide +kernel
theorem dX12_findTree_91 : decode cX12_findTree 91 = .ok (.iload 8, 2) := by decide +kernel
theorem dX12_findTree_93 : decode cX12_findTree 93 = .ok (.iload 4, 2) := by decide +kernel
theorem dX12_findTree_95 : decode cX12_findTree 95 = .ok (.if_icmp .ge 14, 3) := by decide +kernel
theorem dX12_findTree_98 : decode cX12_findTree 98 = .ok (.iload 8, 2) := by decide +kernel
theorem dX12_findTree_100 : decode cX12_findTree 100 = .ok (.istore 4, 2) := by decide +kernel
theorem dX12_findTree_102 : decode cX12_findTree 102 = .ok (.iload 6, 2) := by decide +kernel
theorem dX12_findTree_104 : decode cX12_findTree 104 = .ok (.istore_n 3, 1) := by decide +kernel
theorem dX12_findTree_105 : decode cX12_findTree 105 = .ok (.iload 7, 2) := by decide +kernel
theorem dX12_findTree_107 : decode cX12_findTree 107 = .ok (.istore 5, 2) := by decide +kernel
theorem dX12_findTree_109 : decode cX12_findTree 109 = .ok (.iinc 7 1, 3) := by decide +kernel
theorem dX12_findTree_112 : decode cX12_findTree 112 = .ok (.goto (-64), 3) := by decide +kernel
theorem dX12_findTree_115 : decode cX12_findTree 115 = .ok (.iinc 6 1, 3) := by decide +kernel
theorem dX12_findTree_118 : decode cX12_findTree 118 = .ok (.goto (-82), 3) := by decide +kernel
theorem dX12_findTree_121 : decode cX12_findTree 121 = .ok (.iload_n 1, 1) := by decide +kernel
theorem dX12_findTree_122 : decode cX12_findTree 122 = .ok (.iconst 1, 1) := by decide +kernel
theorem dX12_findTree_123 : decode cX12_findTree 123 = .ok (.iload_n 3, 1) := by decide +kernel
theorem dX12_findTree_124 : decode cX12_findTree 124 = .ok (.ishl, 1) := by decide +kernel
theorem dX12_findTree_125 : decode cX12_findTree 125 = .ok (.ior, 1) := by decide +kernel
theorem dX12_findTree_126 : decode cX12_findTree 126 = .ok (.istore_n 1, 1) := by decide +kernel
theorem dX12_findTree_127 : decode cX12_findTree 127 = .ok (.aload_n 0, 1) := by decide +kernel
theorem dX12_findTree_128 : decode cX12_findTree 128 = .ok (.getfield 95, 3) := by decide +kernel
theorem dX12_findTree_131 : decode cX12_findTree 131 = .ok (.iload_n 3, 1) := by decide +kernel
theorem dX12_findTree_132 : decode cX12_findTree 132 = .ok (.iload 5, 2) := by decide +kernel
theorem dX12_findTree_134 : decode cX12_findTree 134 = .ok (.iastore, 1) := by decide +kernel
theorem dX12_findTree_135 : decode cX12_findTree 135 = .ok (.aload_n 0, 1) := by decide +kernel
theorem dX12_findTree_136 : decode cX12_findTree 136 = .ok (.dup, 1) := by decide +kernel
theorem dX12_findTree_137 : decode cX12_findTree 137 = .ok (.getfield 262, 3) := by decide +kernel
theorem dX12_findTree_140 : decode cX12_findTree 140 = .ok (.iload 4, 2) := by decide +kernel
theorem dX12_findTree_142 : decode cX12_findTree 142 = .ok (.iadd, 1) := by decide +kernel
theorem dX12_findTree_143 : decode cX12_findTree 143 = .ok (.putfield 262, 3) := by decide +kernel
theorem dX12_findTree_146 : decode cX12_findTree 146 = .ok (.iinc 2 1, 3) := by decide +kernel
theorem dX12_findTree_149 : decode cX12_findTree 149 = .ok (.goto (-133), 3) := by decide +kernel
theorem dX12_findTree_152 : decode cX12_findTree 152 = .ok (.return_, 1) := by decide +kernel
theorem dX12_floor_0 : decode cX12_floor 0 = .ok (.iload_n 1, 1) := by decide +kernel
theorem dX12_floor_1 : decode cX12_floor 1 = .ok (.i2l, 1) := by decide +kernel
theorem dX12_floor_2 : decode cX12_floor 2 = .ok (.lconst 0, 1) := by decide +kernel
theorem dX12_floor_3 : decode cX12_floor 3 = .ok (.ldc2_w 124, 3) := by decide +kernel
theorem dX12_floor_6 : decode cX12_floor 6 = .ok (.invokestatic 100, 3) := by decide +kernel
theorem dX12_floor_9 : decode cX12_floor 9 = .ok (.ifCond .ne 6, 3) := by decide +kernel
theorem dX12_floor_12 : decode cX12_floor 12 = .ok (.bipush (-2), 2) := by decide +kernel
theorem dX12_floor_14 : decode cX12_floor 14 = .ok (.ireturn, 1) := by decide +kernel
theorem dX12_floor_15 : decode cX12_floor 15 = .ok (.aload_n 0, 1) := by decide +kernel
theorem dX12_floor_16 : decode cX12_floor 16 = .ok (.getfield 134, 3) := by decide +kernel
theorem dX12_floor_19 : decode cX12_floor 19 = .ok (.istore_n 2, 1) := by decide +kernel
theorem dX12_floor_20 : decode cX12_floor 20 = .ok (.aload_n 0, 1) := by decide +kernel
theorem dX12_floor_21 : decode cX12_floor 21 = .ok (.iload_n 1, 1) := by decide +kernel
theorem dX12_floor_22 : decode cX12_floor 22 = .ok (.putfield 134, 3) := by decide +kernel
theorem dX12_floor_25 : decode cX12_floor 25 = .ok (.iload_n 2, 1) := by decide +kernel
theorem dX12_floor_26 : decode cX12_floor 26 = .ok (.ireturn, 1) := by decide +kernel
theorem dX12_force_0 : decode cX12_force 0 = .ok (.iload_n 1, 1) := by decide +kernel
theorem dX12_force_1 : decode cX12_force 1 = .ok (.ifCond .ge 8, 3) := by decide +kernel
theorem dX12_force_4 : decode cX12_force 4 = .ok (.bipush (-2), 2) := by decide +kernel
theorem dX12_force_6 : decode cX12_force 6 = .ok (.goto 21, 3) := by decide +kernel
theorem dX12_force_9 : decode cX12_force 9 = .ok (.iload_n 1, 1) := by decide +kernel
theorem dX12_force_10 : decode cX12_force 10 = .ok (.aload_n 0, 1) := by decide +kernel
theorem dX12_force_11 : decode cX12_force 11 = .ok (.getfield 155, 3) := by decide +kernel
theorem dX12_force_14 : decode cX12_force 14 = .ok (.if_icmp .ge 12, 3) := by decide +kernel
theorem dX12_force_17 : decode cX12_force 17 = .ok (.aload_n 0, 1) := by decide +kernel
theorem dX12_force_18 : decode cX12_force 18 = .ok (.getfield 46, 3) := by decide +kernel
theorem dX12_force_21 : decode cX12_force 21 = .ok (.iload_n 1, 1) := by decide +kernel
theorem dX12_force_22 : decode cX12_force 22 = .ok (.iaload, 1) := by decide +kernel
theorem dX12_force_23 : decode cX12_force 23 = .ok (.goto 4, 3) := by decide +kernel
theorem dX12_force_26 : decode cX12_force 26 = .ok (.iconst (-1), 1) := by decide +kernel
theorem dX12_force_27 : decode cX12_force 27 = .ok (.ireturn, 1) := by decide +kernel
theorem dX12_hand_0 : decode cX12_hand 0 = .ok (.iload_n 1, 1) := by decide +kernel
theorem dX12_hand_1 : decode cX12_hand 1 = .ok (.i2l, 1) := by decide +kernel
theorem dX12_hand_2 : decode cX12_hand 2 = .ok (.lconst 1, 1) := by decide +kernel
theorem dX12_hand_3 : decode cX12_hand 3 = .ok (.ldc2_w 124, 3) := by decide +kernel
theorem dX12_hand_6 : decode cX12_hand 6 = .ok (.invokestatic 100, 3) := by decide +kernel
theorem dX12_hand_9 : decode cX12_hand 9 = .ok (.ifCond .eq 40, 3) := by decide +kernel
theorem dX12_hand_12 : decode cX12_hand 12 = .ok (.iload_n 2, 1) := by decide +kernel
theorem dX12_hand_13 : decode cX12_hand 13 = .ok (.i2l, 1) := by decide +kernel
theorem dX12_hand_14 : decode cX12_hand 14 = .ok (.lconst 0, 1) := by decide +kernel
theorem dX12_hand_15 : decode cX12_hand 15 = .ok (.ldc2_w 126, 3) := by decide +kernel
theorem dX12_hand_18 : decode cX12_hand 18 = .ok (.invokestatic 100, 3) := by decide +kernel
theorem dX12_hand_21 : decode cX12_hand 21 = .ok (.ifCond .eq 28, 3) := by decide +kernel
theorem dX12_hand_24 : decode cX12_hand 24 = .ok (.iload_n 3, 1) := by decide +kernel
theorem dX12_hand_25 : decode cX12_hand 25 = .ok (.i2l, 1) := by decide +kernel
theorem dX12_hand_26 : decode cX12_hand 26 = .ok (.lconst 0, 1) := by decide +kernel
theorem dX12_hand_27 : decode cX12_hand 27 = .ok (.ldc2_w 126, 3) := by decide +kernel
theorem dX12_hand_30 : decode cX12_hand 30 = .ok (.invokestatic 100, 3) := by decide +kernel
theorem dX12_hand_33 : decode cX12_hand 33 = .ok (.ifCond .eq 16, 3) := by decide +kernel
theorem dX12_hand_36 : decode cX12_hand 36 = .ok (.iload 4, 2) := by decide +kernel
theorem dX12_hand_38 : decode cX12_hand 38 = .ok (.i2l, 1) := by decide +kernel
theorem dX12_hand_39 : decode cX12_hand 39 = .ok (.lconst 0, 1) := by decide +kernel
theorem dX12_hand_40 : decode cX12_hand 40 = .ok (.ldc2_w 126, 3) := by decide +kernel
theorem dX12_hand_43 : decode cX12_hand 43 = .ok (.invokestatic 100, 3) := by decide +kernel
theorem dX12_hand_46 : decode cX12_hand 46 = .ok (.ifCond .ne 6, 3) := by decide +kernel
theorem dX12_hand_49 : decode cX12_hand 49 = .ok (.bipush (-2), 2) := by decide +kernel
theorem dX12_hand_51 : decode cX12_hand 51 = .ok (.ireturn, 1) := by decide +kernel
theorem dX12_hand_52 : decode cX12_hand 52 = .ok (.aload_n 0, 1) := by decide +kernel
theorem dX12_hand_53 : decode cX12_hand 53 = .ok (.getfield 121, 3) := by decide +kernel
theorem dX12_hand_56 : decode cX12_hand 56 = .ok (.bipush 10, 2) := by decide +kernel
theorem dX12_hand_58 : decode cX12_hand 58 = .ok (.if_icmp .ne 6, 3) := by decide +kernel
theorem dX12_hand_61 : decode cX12_hand 61 = .ok (.bipush (-4), 2) := by decide +kernel
theorem dX12_hand_63 : decode cX12_hand 63 = .ok (.ireturn, 1) := by decide +kernel
theorem dX12_hand_64 : decode cX12_hand 64 = .ok (.aload_n 0, 1) := by decide +kernel
theorem dX12_hand_65 : decode cX12_hand 65 = .ok (.getfield 25, 3) := by decide +kernel
theorem dX12_hand_68 : decode cX12_hand 68 = .ok (.aload_n 0, 1) := by decide +kernel
theorem dX12_hand_69 : decode cX12_hand 69 = .ok (.getfield 121, 3) := by decide +kernel
theorem dX12_hand_72 : decode cX12_hand 72 = .ok (.iload_n 1, 1) := by decide +kernel
theorem dX12_hand_73 : decode cX12_hand 73 = .ok (.iastore, 1) := by decide +kernel
theorem dX12_hand_74 : decode cX12_hand 74 = .ok (.aload_n 0, 1) := by decide +kernel
theorem dX12_hand_75 : decode cX12_hand 75 = .ok (.getfield 28, 3) := by decide +kernel
theorem dX12_hand_78 : decode cX12_hand 78 = .ok (.aload_n 0, 1) := by decide +kernel
theorem dX12_hand_79 : decode cX12_hand 79 = .ok (.getfield 121, 3) := by decide +kernel
theorem dX12_hand_82 : decode cX12_hand 82 = .ok (.iload_n 2, 1) := by decide +kernel
theorem dX12_hand_83 : decode cX12_hand 83 = .ok (.iastore, 1) := by decide +kernel
theorem dX12_hand_84 : decode cX12_hand 84 = .ok (.aload_n 0, 1) := by decide +kernel
theorem dX12_hand_85 : decode cX12_hand 85 = .ok (.getfield 31, 3) := by decide +kernel
theorem dX12_hand_88 : decode cX12_hand 88 = .ok (.aload_n 0, 1) := by decide +kernel
theorem dX12_hand_89 : decode cX12_hand 89 = .ok (.getfield 121, 3) := by decide +kernel
theorem dX12_hand_92 : decode cX12_hand 92 = .ok (.iload_n 3, 1) := by decide +kernel
theorem dX12_hand_93 : decode cX12_hand 93 = .ok (.iastore, 1) := by decide +kernel
theorem dX12_hand_94 : decode cX12_hand 94 = .ok (.aload_n 0, 1) := by decide +kernel
theorem dX12_hand_95 : decode cX12_hand 95 = .ok (.getfield 34, 3) := by decide +kernel
theorem dX12_hand_98 : decode cX12_hand 98 = .ok (.aload_n 0, 1) := by decide +kernel
theorem dX12_hand_99 : decode cX12_hand 99 = .ok (.getfield 121, 3) := by decide +kernel
theorem dX12_hand_102 : decode cX12_hand 102 = .ok (.iload 4, 2) := by decide +kernel
theorem dX12_hand_104 : decode cX12_hand 104 = .ok (.iastore, 1) := by decide +kernel
theorem dX12_hand_105 : decode cX12_hand 105 = .ok (.aload_n 0, 1) := by decide +kernel
theorem dX12_hand_106 : decode cX12_hand 106 = .ok (.getfield 37, 3) := by decide +kernel
theorem dX12_hand_109 : decode cX12_hand 109 = .ok (.aload_n 0, 1) := by decide +kernel
theorem dX12_hand_110 : decode cX12_hand 110 = .ok (.getfield 121, 3) := by decide +kernel
theorem dX12_hand_113 : decode cX12_hand 113 = .ok (.iconst 0, 1) := by decide +kernel
theorem dX12_hand_114 : decode cX12_hand 114 = .ok (.iastore, 1) := by decide +kernel
theorem dX12_hand_115 : decode cX12_hand 115 = .ok (.aload_n 0, 1) := by decide +kernel
theorem dX12_hand_116 : decode cX12_hand 116 = .ok (.getfield 40, 3) := by decide +kernel
theorem dX12_hand_119 : decode cX12_hand 119 = .ok (.aload_n 0, 1) := by decide +kernel
theorem dX12_hand_120 : decode cX12_hand 120 = .ok (.getfield 121, 3) := by decide +kernel
theorem dX12_hand_123 : decode cX12_hand 123 = .ok (.iload_n 1, 1) := by decide +kernel
theorem dX12_hand_124 : decode cX12_hand 124 = .ok (.iastore, 1) := by decide +kernel
theorem dX12_hand_125 : decode cX12_hand 125 = .ok (.aload_n 0, 1) := by decide +kernel
theorem dX12_hand_126 : decode cX12_hand 126 = .ok (.dup, 1) := by decide +kernel
theorem dX12_hand_127 : decode cX12_hand 127 = .ok (.getfield 128, 3) := by decide +kernel
theorem dX12_hand_130 : decode cX12_hand 130 = .ok (.iconst 1, 1) := by decide +kernel
theorem dX12_hand_131 : decode cX12_hand 131 = .ok (.aload_n 0, 1) := by decide +kernel
theorem dX12_hand_132 : decode cX12_hand 132 = .ok (.getfield 121, 3) := by decide +kernel
theorem dX12_hand_135 : decode cX12_hand 135 = .ok (.ishl, 1) := by decide +kernel
theorem dX12_hand_136 : decode cX12_hand 136 = .ok (.ior, 1) := by decide +kernel
theorem dX12_hand_137 : decode cX12_hand 137 = .ok (.putfield 128, 3) := by decide +kernel
theorem dX12_hand_140 : decode cX12_hand 140 = .ok (.aload_n 0, 1) := by decide +kernel
theorem dX12_hand_141 : decode cX12_hand 141 = .ok (.dup, 1) := by decide +kernel
theorem dX12_hand_142 : decode cX12_hand 142 = .ok (.getfield 121, 3) := by decide +kernel
theorem dX12_hand_145 : decode cX12_hand 145 = .ok (.iconst 1, 1) := by decide +kernel
theorem dX12_hand_146 : decode cX12_hand 146 = .ok (.iadd, 1) := by decide +kernel
theorem dX12_hand_147 : decode cX12_hand 147 = .ok (.putfield 121, 3) := by decide +kernel
theorem dX12_hand_150 : decode cX12_hand 150 = .ok (.aload_n 0, 1) := by decide +kernel
theorem dX12_hand_151 : decode cX12_hand 151 = .ok (.getfield 121, 3) := by decide +kernel
theorem dX12_hand_154 : decode cX12_hand 154 = .ok (.iconst 1, 1) := by decide +kernel
theorem dX12_hand_155 : decode cX12_hand 155 = .ok (.isub, 1) := by decide +kernel
theorem dX12_hand_156 : decode cX12_hand 156 = .ok (.ireturn, 1) := by decide +kernel
theorem dX12_hangs_0 : decode cX12_hangs 0 = .ok (.aload_n 0, 1) := by decide +kernel
theorem dX12_hangs_1 : decode cX12_hangs 1 = .ok (.iload_n 1, 1) := by decide +kernel
theorem dX12_hangs_2 : decode cX12_hangs 2 = .ok (.invokevirtual 111, 3) := by decide +kernel
theorem dX12_hangs_5 : decode cX12_hangs 5 = .ok (.ifCond .eq 6, 3) := by decide +kernel
theorem dX12_hangs_8 : decode cX12_hangs 8 = .ok (.bipush (-2), 2) := by decide +kernel
theorem dX12_hangs_10 : decode cX12_hangs 10 = .ok (.ireturn, 1) := by decide +kernel
theorem dX12_hangs_11 : decode cX12_hangs 11 = .ok (.aload_n 0, 1) := by decide +kernel
theorem dX12_hangs_12 : decode cX12_hangs 12 = .ok (.invokevirtual 265, 3) := by decide +kernel
theorem dX12_hangs_15 : decode cX12_hangs 15 = .ok (.aload_n 0, 1) := by decide +kernel
theorem dX12_hangs_16 : decode cX12_hangs 16 = .ok (.getfield 95, 3) := by decide +kernel
theorem dX12_hangs_19 : decode cX12_hangs 19 = .ok (.iload_n 1, 1) := by decide +kernel
theorem dX12_hangs_20 : decode cX12_hangs 20 = .ok (.iaload, 1) := by decide +kernel
theorem dX12_hangs_21 : decode cX12_hangs 21 = .ok (.ireturn, 1) := by decide +kernel
theorem dX12_isTask_0 : decode cX12_isTask 0 = .ok (.iload_n 0, 1) := by decide +kernel
theorem dX12_isTask_1 : decode cX12_isTask 1 = .ok (.i2l, 1) := by decide +kernel
theorem dX12_isTask_2 : decode cX12_isTask 2 = .ok (.lconst 1, 1) := by decide +kernel
theorem dX12_isTask_3 : decode cX12_isTask 3 = .ok (.ldc2_w 162, 3) := by decide +kernel
theorem dX12_isTask_6 : decode cX12_isTask 6 = .ok (.invokestatic 100, 3) := by decide +kernel
theorem dX12_isTask_9 : decode cX12_isTask 9 = .ok (.ifCond .eq 31, 3) := by decide +kernel
theorem dX12_isTask_12 : decode cX12_isTask 12 = .ok (.iload_n 1, 1) := by decide +kernel
theorem dX12_isTask_13 : decode cX12_isTask 13 = .ok (.i2l, 1) := by decide +kernel
theorem dX12_isTask_14 : decode cX12_isTask 14 = .ok (.lconst 0, 1) := by decide +kernel
theorem dX12_isTask_15 : decode cX12_isTask 15 = .ok (.ldc2_w 115, 3) := by decide +kernel
theorem dX12_isTask_18 : decode cX12_isTask 18 = .ok (.invokestatic 100, 3) := by decide +kernel
theorem dX12_isTask_21 : decode cX12_isTask 21 = .ok (.ifCond .eq 19, 3) := by decide +kernel
theorem dX12_isTask_24 : decode cX12_isTask 24 = .ok (.iload_n 2, 1) := by decide +kernel
theorem dX12_isTask_25 : decode cX12_isTask 25 = .ok (.i2l, 1) := by decide +kernel
theorem dX12_isTask_26 : decode cX12_isTask 26 = .ok (.lconst 0, 1) := by decide +kernel
theorem dX12_isTask_27 : decode cX12_isTask 27 = .ok (.ldc2_w 164, 3) := by decide +kernel
theorem dX12_isTask_30 : decode cX12_isTask 30 = .ok (.invokestatic 100, 3) := by decide +kernel
theorem dX12_isTask_33 : decode cX12_isTask 33 = .ok (.ifCond .eq 7, 3) := by decide +kernel
theorem dX12_isTask_36 : decode cX12_isTask 36 = .ok (.iconst 1, 1) := by decide +kernel
theorem dX12_isTask_37 : decode cX12_isTask 37 = .ok (.goto 4, 3) := by decide +kernel
theorem dX12_isTask_40 : decode cX12_isTask 40 = .ok (.iconst 0, 1) := by decide +kernel
theorem dX12_isTask_41 : decode cX12_isTask 41 = .ok (.ireturn, 1) := by decide +kernel
theorem dX12_haul_0 : decode cX12_haul 0 = .ok (.aload_n 0, 1) := by decide +kernel
theorem dX12_haul_1 : decode cX12_haul 1 = .ok (.iload_n 1, 1) := by decide +kernel
theorem dX12_haul_2 : decode cX12_haul 2 = .ok (.invokevirtual 111, 3) := by decide +kernel
theorem dX12_haul_5 : decode cX12_haul 5 = .ok (.ifCond .ne 13, 3) := by decide +kernel
theorem dX12_haul_8 : decode cX12_haul 8 = .ok (.iload_n 2, 1) := by decide +kernel
theorem dX12_haul_9 : decode cX12_haul 9 = .ok (.iload_n 3, 1) := by decide +kernel
theorem dX12_haul_10 : decode cX12_haul 10 = .ok (.iload 4, 2) := by decide +kernel
theorem dX12_haul_12 : decode cX12_haul 12 = .ok (.invokestatic 166, 3) := by decide +kernel
theorem dX12_haul_15 : decode cX12_haul 15 = .ok (.ifCond .ne 6, 3) := by decide +kernel
theorem dX12_haul_18 : decode cX12_haul 18 = .ok (.bipush (-2), 2) := by decide +kernel
theorem dX12_haul_20 : decode cX12_haul 20 = .ok (.ireturn, 1) := by decide +kernel
theorem dX12_haul_21 : decode cX12_haul 21 = .ok (.aload_n 0, 1) := by decide +kernel
theorem dX12_haul_22 : decode cX12_haul 22 = .ok (.iconst 0, 1) := by decide +kernel
theorem dX12_haul_23 : decode cX12_haul 23 = .ok (.iload_n 1, 1) := by decide +kernel
theorem dX12_haul_24 : decode cX12_haul 24 = .ok (.aload_n 0, 1) := by decide +kernel
theorem dX12_haul_25 : decode cX12_haul 25 = .ok (.getfield 128, 3) := by decide +kernel
theorem dX12_haul_28 : decode cX12_haul 28 = .ok (.iload_n 2, 1) := by decide +kernel
theorem dX12_haul_29 : decode cX12_haul 29 = .ok (.iload_n 3, 1) := by decide +kernel
theorem dX12_haul_30 : decode cX12_haul 30 = .ok (.iload 4, 2) := by decide +kernel
theorem dX12_haul_32 : decode cX12_haul 32 = .ok (.iconst 1, 1) := by decide +kernel
theorem dX12_haul_33 : decode cX12_haul 33 = .ok (.invokevirtual 170, 3) := by decide +kernel
theorem dX12_haul_36 : decode cX12_haul 36 = .ok (.istore 5, 2) := by decide +kernel
theorem dX12_haul_38 : decode cX12_haul 38 = .ok (.iload 5, 2) := by decide +kernel
theorem dX12_haul_40 : decode cX12_haul 40 = .ok (.ifCond .ge 11, 3) := by decide +kernel
theorem dX12_haul_43 : decode cX12_haul 43 = .ok (.bipush (-10), 2) := by decide +kernel
theorem dX12_haul_45 : decode cX12_haul 45 = .ok (.iload 5, 2) := by decide +kernel
theorem dX12_haul_47 : decode cX12_haul 47 = .ok (.iadd, 1) := by decide +kernel
theorem dX12_haul_48 : decode cX12_haul 48 = .ok (.goto 5, 3) := by decide +kernel
theorem dX12_haul_51 : decode cX12_haul 51 = .ok (.iload 5, 2) := by decide +kernel
theorem dX12_haul_53 : decode cX12_haul 53 = .ok (.ireturn, 1) := by decide +kernel
theorem dX12_init_0 : decode cX12_init 0 = .ok (.aload_n 0, 1) := by decide +kernel
theorem dX12_init_1 : decode cX12_init 1 = .ok (.invokespecial 1, 3) := by decide +kernel
theorem dX12_init_4 : decode cX12_init 4 = .ok (.aload_n 0, 1) := by decide +kernel
theorem dX12_init_5 : decode cX12_init 5 = .ok (.bipush 6, 2) := by decide +kernel
theorem dX12_init_7 : decode cX12_init 7 = .ok (.newarray .int, 2) := by decide +kernel
theorem dX12_init_9 : decode cX12_init 9 = .ok (.putfield 7, 3) := by decide +kernel
theorem dX12_init_12 : decode cX12_init 12 = .ok (.aload_n 0, 1) := by decide +kernel
theorem dX12_init_13 : decode cX12_init 13 = .ok (.bipush 6, 2) := by decide +kernel
theorem dX12_init_15 : decode cX12_init 15 = .ok (.newarray .int, 2) := by decide +kernel
theorem dX12_init_17 : decode cX12_init 17 = .ok (.putfield 13, 3) := by decide +kernel
theorem dX12_init_20 : decode cX12_init 20 = .ok (.aload_n 0, 1) := by decide +kernel
theorem dX12_init_21 : decode cX12_init 21 = .ok (.sipush 144, 3) := by decide +kernel
theorem dX12_init_24 : decode cX12_init 24 = .ok (.newarray .int, 2) := by decide +kernel
theorem dX12_init_26 : decode cX12_init 26 = .ok (.putfield 16, 3) := by decide +kernel
theorem dX12_init_29 : decode cX12_init 29 = .ok (.aload_n 0, 1) := by decide +kernel
theorem dX12_init_30 : decode cX12_init 30 = .ok (.bipush 72, 2) := by decide +kernel
theorem dX12_init_32 : decode cX12_init 32 = .ok (.newarray .int, 2) := by decide +kernel
theorem dX12_init_34 : decode cX12_init 34 = .ok (.putfield 19, 3) := by decide +kernel
theorem dX12_init_37 : decode cX12_init 37 = .ok (.aload_n 0, 1) := by decide +kernel
theorem dX12_init_38 : decode cX12_init 38 = .ok (.bipush 24, 2) := by decide +kernel
theorem dX12_init_40 : decode cX12_init 40 = .ok (.newarray .int, 2) := by decide +kernel
theorem dX12_init_42 : decode cX12_init 42 = .ok (.putfield 22, 3) := by decide +kernel
theorem dX12_init_45 : decode cX12_init 45 = .ok (.aload_n 0, 1) := by decide +kernel
theorem dX12_init_46 : decode cX12_init 46 = .ok (.bipush 10, 2) := by decide +kernel
theorem dX12_init_48 : decode cX12_init 48 = .ok (.newarray .int, 2) := by decide +kernel
theorem dX12_init_50 : decode cX12_init 50 = .ok (.putfield 25, 3) := by decide +kernel
theorem dX12_init_53 : decode cX12_init 53 = .ok (.aload_n 0, 1) := by decide +kernel
theorem dX12_init_54 : decode cX12_init 54 = .ok (.bipush 10, 2) := by decide +kernel
theorem dX12_init_56 : decode cX12_init 56 = .ok (.newarray .int, 2) := by decide +kernel
theorem dX12_init_58 : decode cX12_init 58 = .ok (.putfield 28, 3) := by decide +kernel
theorem dX12_init_61 : decode cX12_init 61 = .ok (.aload_n 0, 1) := by decide +kernel
theorem dX12_init_62 : decode cX12_init 62 = .ok (.bipush 10, 2) := by decide +kernel
theorem dX12_init_64 : decode cX12_init 64 = .ok (.newarray .int, 2) := by decide +kernel
theorem dX12_init_66 : decode cX12_init 66 = .ok (.putfield 31, 3) := by decide +kernel
theorem dX12_init_69 : decode cX12_init 69 = .ok (.aload_n 0, 1) := by decide +kernel
theorem dX12_init_70 : decode cX12_init 70 = .ok (.bipush 10, 2) := by decide +kernel
theorem dX12_init_72 : decode cX12_init 72 = .ok (.newarray .int, 2) := by decide +kernel
theorem dX12_init_74 : decode cX12_init 74 = .ok (.putfield 34, 3) := by decide +kernel
theorem dX12_init_77 : decode cX12_init 77 = .ok (.aload_n 0, 1) := by decide +kernel
theorem dX12_init_78 : decode cX12_init 78 = .ok (.bipush 10, 2) := by decide +kernel
theorem dX12_init_80 : decode cX12_init 80 = .ok (.newarray .int, 2) := by decide +kernel
theorem dX12_init_82 : decode cX12_init 82 = .ok (.putfield 37, 3) := by decide +kernel
theorem dX12_init_85 : decode cX12_init 85 = .ok (.aload_n 0, 1) := by decide +kernel
theorem dX12_init_86 : decode cX12_init 86 = .ok (.bipush 60, 2) := by decide +kernel
theorem dX12_init_88 : decode cX12_init 88 = .ok (.newarray .int, 2) := by decide +kernel
theorem dX12_init_90 : decode cX12_init 90 = .ok (.putfield 40, 3) := by decide +kernel
theorem dX12_init_93 : decode cX12_init 93 = .ok (.aload_n 0, 1) := by decide +kernel
theorem dX12_init_94 : decode cX12_init 94 = .ok (.sipush 300, 3) := by decide +kernel
theorem dX12_init_97 : decode cX12_init 97 = .ok (.newarray .int, 2) := by decide +kernel
theorem dX12_init_99 : decode cX12_init 99 = .ok (.putfield 43, 3) := by decide +kernel
theorem dX12_init_102 : decode cX12_init 102 = .ok (.aload_n 0, 1) := by decide +kernel
theorem dX12_init_103 : decode cX12_init 103 = .ok (.sipush 300, 3) := by decide +kernel
theorem dX12_init_106 : decode cX12_init 106 = .ok (.newarray .int, 2) := by decide +kernel
theorem dX12_init_108 : decode cX12_init 108 = .ok (.putfield 46, 3) := by decide +kernel
theorem dX12_init_111 : decode cX12_init 111 = .ok (.aload_n 0, 1) := by decide +kernel
theorem dX12_init_112 : decode cX12_init 112 = .ok (.bipush 10, 2) := by decide +kernel
theorem dX12_init_114 : decode cX12_init 114 = .ok (.newarray .int, 2) := by decide +kernel
theorem dX12_init_116 : decode cX12_init 116 = .ok (.putfield 49, 3) := by decide +kernel
theorem dX12_init_119 : decode cX12_init 119 = .ok (.aload_n 0, 1) := by decide +kernel
theorem dX12_init_120 : decode cX12_init 120 = .ok (.iconst 4, 1) := by decide +kernel
theorem dX12_init_121 : decode cX12_init 121 = .ok (.newarray .int, 2) := by decide +kernel
theorem dX12_init_123 : decode cX12_init 123 = .ok (.putfield 52, 3) := by decide +kernel
theorem dX12_init_126 : decode cX12_init 126 = .ok (.aload_n 0, 1) := by decide +kernel
theorem dX12_init_127 : decode cX12_init 127 = .ok (.iconst 4, 1) := by decide +kernel
theorem dX12_init_128 : decode cX12_init 128 = .ok (.newarray .int, 2) := by decide +kernel
theorem dX12_init_130 : decode cX12_init 130 = .ok (.putfield 55, 3) := by decide +kernel
theorem dX12_init_133 : decode cX12_init 133 = .ok (.aload_n 0, 1) := by decide +kernel
theorem dX12_init_134 : decode cX12_init 134 = .ok (.iconst 4, 1) := by decide +kernel
theorem dX12_init_135 : decode cX12_init 135 = .ok (.newarray .int, 2) := by decide +kernel
theorem dX12_init_137 : decode cX12_init 137 = .ok (.putfield 58, 3) := by decide +kernel
theorem dX12_init_140 : decode cX12_init 140 = .ok (.aload_n 0, 1) := by decide +kernel
theorem dX12_init_141 : decode cX12_init 141 = .ok (.iconst 4, 1) := by decide +kernel
theorem dX12_init_142 : decode cX12_init 142 = .ok (.newarray .int, 2) := by decide +kernel
theorem dX12_init_144 : decode cX12_init 144 = .ok (.putfield 61, 3) := by decide +kernel
theorem dX12_init_147 : decode cX12_init 147 = .ok (.aload_n 0, 1) := by decide +kernel
theorem dX12_init_148 : decode cX12_init 148 = .ok (.iconst 4, 1) := by decide +kernel
theorem dX12_init_149 : decode cX12_init 149 = .ok (.newarray .int, 2) := by decide +kernel
theorem dX12_init_151 : decode cX12_init 151 = .ok (.putfield 64, 3) := by decide +kernel
theorem dX12_init_154 : decode cX12_init 154 = .ok (.aload_n 0, 1) := by decide +kernel
theorem dX12_init_155 : decode cX12_init 155 = .ok (.iconst 5, 1) := by decide +kernel
theorem dX12_init_156 : decode cX12_init 156 = .ok (.newarray .int, 2) := by decide +kernel
theorem dX12_init_158 : decode cX12_init 158 = .ok (.putfield 67, 3) := by decide +kernel
theorem dX12_init_161 : decode cX12_init 161 = .ok (.aload_n 0, 1) := by decide +kernel
theorem dX12_init_162 : decode cX12_init 162 = .ok (.bipush 12, 2) := by decide +kernel
theorem dX12_init_164 : decode cX12_init 164 = .ok (.newarray .int, 2) := by decide +kernel
theorem dX12_init_166 : decode cX12_init 166 = .ok (.putfield 70, 3) := by decide +kernel
theorem dX12_init_169 : decode cX12_init 169 = .ok (.aload_n 0, 1) := by decide +kernel
theorem dX12_init_170 : decode cX12_init 170 = .ok (.bipush 12, 2) := by decide +kernel
theorem dX12_init_172 : decode cX12_init 172 = .ok (.newarray .int, 2) := by decide +kernel
theorem dX12_init_174 : decode cX12_init 174 = .ok (.putfield 73, 3) := by decide +kernel
theorem dX12_init_177 : decode cX12_init 177 = .ok (.aload_n 0, 1) := by decide +kernel
theorem dX12_init_178 : decode cX12_init 178 = .ok (.bipush 25, 2) := by decide +kernel
theorem dX12_init_180 : decode cX12_init 180 = .ok (.newarray .long, 2) := by decide +kernel
theorem dX12_init_182 : decode cX12_init 182 = .ok (.putfield 76, 3) := by decide +kernel
theorem dX12_init_185 : decode cX12_init 185 = .ok (.aload_n 0, 1) := by decide +kernel
theorem dX12_init_186 : decode cX12_init 186 = .ok (.bipush 25, 2) := by decide +kernel
theorem dX12_init_188 : decode cX12_init 188 = .ok (.newarray .int, 2) := by decide +kernel
theorem dX12_init_190 : decode cX12_init 190 = .ok (.putfield 80, 3) := by decide +kernel
theorem dX12_init_193 : decode cX12_init 193 = .ok (.aload_n 0, 1) := by decide +kernel
theorem dX12_init_194 : decode cX12_init 194 = .ok (.bipush 60, 2) := by decide +kernel
theorem dX12_init_196 : decode cX12_init 196 = .ok (.newarray .int, 2) := by decide +kernel
theorem dX12_init_198 : decode cX12_init 198 = .ok (.putfield 83, 3) := by decide +kernel
theorem dX12_init_201 : decode cX12_init 201 = .ok (.aload_n 0, 1) := by decide +kernel
theorem dX12_init_202 : decode cX12_init 202 = .ok (.bipush 60, 2) := by decide +kernel
theorem dX12_init_204 : decode cX12_init 204 = .ok (.newarray .int, 2) := by decide +kernel
theorem dX12_init_206 : decode cX12_init 206 = .ok (.putfield 86, 3) := by decide +kernel
theorem dX12_init_209 : decode cX12_init 209 = .ok (.aload_n 0, 1) := by decide +kernel
theorem dX12_init_210 : decode cX12_init 210 = .ok (.sipush 300, 3) := by decide +kernel
theorem dX12_init_213 : decode cX12_init 213 = .ok (.newarray .int, 2) := by decide +kernel
theorem dX12_init_215 : decode cX12_init 215 = .ok (.putfield 89, 3) := by decide +kernel
theorem dX12_init_218 : decode cX12_init 218 = .ok (.aload_n 0, 1) := by decide +kernel
theorem dX12_init_219 : decode cX12_init 219 = .ok (.sipush 650, 3) := by decide +kernel
theorem dX12_init_222 : decode cX12_init 222 = .ok (.newarray .int, 2) := by decide +kernel
theorem dX12_init_224 : decode cX12_init 224 = .ok (.putfield 92, 3) := by decide +kernel
theorem dX12_init_227 : decode cX12_init 227 = .ok (.aload_n 0, 1) := by decide +kernel
theorem dX12_init_228 : decode cX12_init 228 = .ok (.bipush 6, 2) := by decide +kernel
theorem dX12_init_230 : decode cX12_init 230 = .ok (.newarray .int, 2) := by decide +kernel
theorem dX12_init_232 : decode cX12_init 232 = .ok (.putfield 95, 3) := by decide +kernel
theorem dX12_init_235 : decode cX12_init 235 = .ok (.return_, 1) := by decide +kernel
