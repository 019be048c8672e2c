theorem dX12_isOf_0 : decode cX12_isOf 0 = .ok (.aload_n 0, 1) := by decide +kernel
theorem dX12_isOf_1 : decode cX12_isOf 1 = .ok (.getfield 128, 3) := by decide +kernel
theorem dX12_isOf_4 : decode cX12_isOf 4 = .ok (.iload_n 1, 1) := by decide +kernel
theorem dX12_isOf_5 : decode cX12_isOf 5 = .ok (.ishr, 1) := by decide +kernel
theorem dX12_isOf_6 : decode cX12_isOf 6 = .ok (.iconst 1, 1) := by decide +kernel
theorem dX12_isOf_7 : decode cX12_isOf 7 = .ok (.iand, 1) := by decide +kernel
theorem dX12_isOf_8 : decode cX12_isOf 8 = .ok (.iconst 1, 1) := by decide +kernel
theorem dX12_isOf_9 : decode cX12_isOf 9 = .ok (.if_icmp .ne 7, 3) := by decide +kernel
theorem dX12_isOf_12 : decode cX12_isOf 12 = .ok (.iconst 1, 1) := by decide +kernel
theorem dX12_isOf_13 : decode cX12_isOf 13 = .ok (.goto 4, 3) := by decide +kernel
theorem dX12_isOf_16 : decode cX12_isOf 16 = .ok (.iconst 0, 1) := by decide +kernel
theorem dX12_isOf_17 : decode cX12_isOf 17 = .ok (.ireturn, 1) := by decide +kernel
theorem dX12_noHand_0 : decode cX12_noHand 0 = .ok (.iload_n 1, 1) := by decide +kernel
theorem dX12_noHand_1 : decode cX12_noHand 1 = .ok (.i2l, 1) := by decide +kernel
theorem dX12_noHand_2 : decode cX12_noHand 2 = .ok (.lconst 0, 1) := by decide +kernel
theorem dX12_noHand_3 : decode cX12_noHand 3 = .ok (.aload_n 0, 1) := by decide +kernel
theorem dX12_noHand_4 : decode cX12_noHand 4 = .ok (.getfield 121, 3) := by decide +kernel
theorem dX12_noHand_7 : decode cX12_noHand 7 = .ok (.iconst 1, 1) := by decide +kernel
theorem dX12_noHand_8 : decode cX12_noHand 8 = .ok (.isub, 1) := by decide +kernel
theorem dX12_noHand_9 : decode cX12_noHand 9 = .ok (.i2l, 1) := by decide +kernel
theorem dX12_noHand_10 : decode cX12_noHand 10 = .ok (.invokestatic 100, 3) := by decide +kernel
theorem dX12_noHand_13 : decode cX12_noHand 13 = .ok (.ifCond .ne 7, 3) := by decide +kernel
theorem dX12_noHand_16 : decode cX12_noHand 16 = .ok (.iconst 1, 1) := by decide +kernel
theorem dX12_noHand_17 : decode cX12_noHand 17 = .ok (.goto 4, 3) := by decide +kernel
theorem dX12_noHand_20 : decode cX12_noHand 20 = .ok (.iconst 0, 1) := by decide +kernel
theorem dX12_noHand_21 : decode cX12_noHand 21 = .ok (.ireturn, 1) := by decide +kernel
theorem dX12_late_0 : decode cX12_late 0 = .ok (.aload_n 0, 1) := by decide +kernel
theorem dX12_late_1 : decode cX12_late 1 = .ok (.iload_n 1, 1) := by decide +kernel
theorem dX12_late_2 : decode cX12_late 2 = .ok (.invokevirtual 131, 3) := by decide +kernel
theorem dX12_late_5 : decode cX12_late 5 = .ok (.ifCond .ne 15, 3) := by decide +kernel
theorem dX12_late_8 : decode cX12_late 8 = .ok (.iload_n 2, 1) := by decide +kernel
theorem dX12_late_9 : decode cX12_late 9 = .ok (.i2l, 1) := by decide +kernel
theorem dX12_late_10 : decode cX12_late 10 = .ok (.lconst 0, 1) := by decide +kernel
theorem dX12_late_11 : decode cX12_late 11 = .ok (.ldc2_w 98, 3) := by decide +kernel
theorem dX12_late_14 : decode cX12_late 14 = .ok (.invokestatic 100, 3) := by decide +kernel
theorem dX12_late_17 : decode cX12_late 17 = .ok (.ifCond .ne 6, 3) := by decide +kernel
theorem dX12_late_20 : decode cX12_late 20 = .ok (.bipush (-2), 2) := by decide +kernel
theorem dX12_late_22 : decode cX12_late 22 = .ok (.ireturn, 1) := by decide +kernel
theorem dX12_late_23 : decode cX12_late 23 = .ok (.aload_n 0, 1) := by decide +kernel
theorem dX12_late_24 : decode cX12_late 24 = .ok (.getfield 37, 3) := by decide +kernel
theorem dX12_late_27 : decode cX12_late 27 = .ok (.iload_n 1, 1) := by decide +kernel
theorem dX12_late_28 : decode cX12_late 28 = .ok (.iaload, 1) := by decide +kernel
theorem dX12_late_29 : decode cX12_late 29 = .ok (.istore_n 3, 1) := by decide +kernel
theorem dX12_late_30 : decode cX12_late 30 = .ok (.aload_n 0, 1) := by decide +kernel
theorem dX12_late_31 : decode cX12_late 31 = .ok (.getfield 37, 3) := by decide +kernel
theorem dX12_late_34 : decode cX12_late 34 = .ok (.iload_n 1, 1) := by decide +kernel
theorem dX12_late_35 : decode cX12_late 35 = .ok (.iload_n 2, 1) := by decide +kernel
theorem dX12_late_36 : decode cX12_late 36 = .ok (.iastore, 1) := by decide +kernel
theorem dX12_late_37 : decode cX12_late 37 = .ok (.iload_n 3, 1) := by decide +kernel
theorem dX12_late_38 : decode cX12_late 38 = .ok (.ireturn, 1) := by decide +kernel
theorem dX12_lineAt_0 : decode cX12_lineAt 0 = .ok (.aload_n 0, 1) := by decide +kernel
theorem dX12_lineAt_1 : decode cX12_lineAt 1 = .ok (.iload_n 1, 1) := by decide +kernel
theorem dX12_lineAt_2 : decode cX12_lineAt 2 = .ok (.invokevirtual 111, 3) := by decide +kernel
theorem dX12_lineAt_5 : decode cX12_lineAt 5 = .ok (.ifCond .ne 14, 3) := by decide +kernel
theorem dX12_lineAt_8 : decode cX12_lineAt 8 = .ok (.lload_n 2, 1) := by decide +kernel
theorem dX12_lineAt_9 : decode cX12_lineAt 9 = .ok (.lconst 0, 1) := by decide +kernel
theorem dX12_lineAt_10 : decode cX12_lineAt 10 = .ok (.lcmp, 1) := by decide +kernel
theorem dX12_lineAt_11 : decode cX12_lineAt 11 = .ok (.ifCond .lt 8, 3) := by decide +kernel
theorem dX12_lineAt_14 : decode cX12_lineAt 14 = .ok (.iload 4, 2) := by decide +kernel
theorem dX12_lineAt_16 : decode cX12_lineAt 16 = .ok (.ifCond .ge 6, 3) := by decide +kernel
theorem dX12_lineAt_19 : decode cX12_lineAt 19 = .ok (.bipush (-2), 2) := by decide +kernel
theorem dX12_lineAt_21 : decode cX12_lineAt 21 = .ok (.ireturn, 1) := by decide +kernel
theorem dX12_lineAt_22 : decode cX12_lineAt 22 = .ok (.aload_n 0, 1) := by decide +kernel
theorem dX12_lineAt_23 : decode cX12_lineAt 23 = .ok (.iload_n 1, 1) := by decide +kernel
theorem dX12_lineAt_24 : decode cX12_lineAt 24 = .ok (.invokevirtual 219, 3) := by decide +kernel
theorem dX12_lineAt_27 : decode cX12_lineAt 27 = .ok (.lload_n 2, 1) := by decide +kernel
theorem dX12_lineAt_28 : decode cX12_lineAt 28 = .ok (.aload_n 0, 1) := by decide +kernel
theorem dX12_lineAt_29 : decode cX12_lineAt 29 = .ok (.getfield 76, 3) := by decide +kernel
theorem dX12_lineAt_32 : decode cX12_lineAt 32 = .ok (.iconst 0, 1) := by decide +kernel
theorem dX12_lineAt_33 : decode cX12_lineAt 33 = .ok (.laload, 1) := by decide +kernel
theorem dX12_lineAt_34 : decode cX12_lineAt 34 = .ok (.lcmp, 1) := by decide +kernel
theorem dX12_lineAt_35 : decode cX12_lineAt 35 = .ok (.ifCond .lt 5, 3) := by decide +kernel
theorem dX12_lineAt_38 : decode cX12_lineAt 38 = .ok (.iconst (-1), 1) := by decide +kernel
theorem dX12_lineAt_39 : decode cX12_lineAt 39 = .ok (.ireturn, 1) := by decide +kernel
theorem dX12_lineAt_40 : decode cX12_lineAt 40 = .ok (.lload_n 2, 1) := by decide +kernel
theorem dX12_lineAt_41 : decode cX12_lineAt 41 = .ok (.lstore 5, 2) := by decide +kernel
theorem dX12_lineAt_43 : decode cX12_lineAt 43 = .ok (.aload_n 0, 1) := by decide +kernel
theorem dX12_lineAt_44 : decode cX12_lineAt 44 = .ok (.iload_n 1, 1) := by decide +kernel
theorem dX12_lineAt_45 : decode cX12_lineAt 45 = .ok (.iconst 0, 1) := by decide +kernel
theorem dX12_lineAt_46 : decode cX12_lineAt 46 = .ok (.invokevirtual 207, 3) := by decide +kernel
theorem dX12_lineAt_49 : decode cX12_lineAt 49 = .ok (.istore 7, 2) := by decide +kernel
theorem dX12_lineAt_51 : decode cX12_lineAt 51 = .ok (.iconst 0, 1) := by decide +kernel
theorem dX12_lineAt_52 : decode cX12_lineAt 52 = .ok (.istore 8, 2) := by decide +kernel
theorem dX12_lineAt_54 : decode cX12_lineAt 54 = .ok (.iload 7, 2) := by decide +kernel
theorem dX12_lineAt_56 : decode cX12_lineAt 56 = .ok (.aload_n 0, 1) := by decide +kernel
theorem dX12_lineAt_57 : decode cX12_lineAt 57 = .ok (.getfield 7, 3) := by decide +kernel
theorem dX12_lineAt_60 : decode cX12_lineAt 60 = .ok (.iload_n 1, 1) := by decide +kernel
theorem dX12_lineAt_61 : decode cX12_lineAt 61 = .ok (.iaload, 1) := by decide +kernel
theorem dX12_lineAt_62 : decode cX12_lineAt 62 = .ok (.if_icmp .ge 129, 3) := by decide +kernel
theorem dX12_lineAt_65 : decode cX12_lineAt 65 = .ok (.iconst 0, 1) := by decide +kernel
theorem dX12_lineAt_66 : decode cX12_lineAt 66 = .ok (.istore 9, 2) := by decide +kernel
theorem dX12_lineAt_68 : decode cX12_lineAt 68 = .ok (.iconst 0, 1) := by decide +kernel
theorem dX12_lineAt_69 : decode cX12_lineAt 69 = .ok (.istore 10, 2) := by decide +kernel
theorem dX12_lineAt_71 : decode cX12_lineAt 71 = .ok (.iload 10, 2) := by decide +kernel
theorem dX12_lineAt_73 : decode cX12_lineAt 73 = .ok (.ifCond .ne 85, 3) := by decide +kernel
theorem dX12_lineAt_76 : decode cX12_lineAt 76 = .ok (.aload_n 0, 1) := by decide +kernel
theorem dX12_lineAt_77 : decode cX12_lineAt 77 = .ok (.iload_n 1, 1) := by decide +kernel
theorem dX12_lineAt_78 : decode cX12_lineAt 78 = .ok (.iload 7, 2) := by decide +kernel
theorem dX12_lineAt_80 : decode cX12_lineAt 80 = .ok (.iload 9, 2) := by decide +kernel
theorem dX12_lineAt_82 : decode cX12_lineAt 82 = .ok (.invokevirtual 211, 3) := by decide +kernel
theorem dX12_lineAt_85 : decode cX12_lineAt 85 = .ok (.ifCond .ne 21, 3) := by decide +kernel
theorem dX12_lineAt_88 : decode cX12_lineAt 88 = .ok (.aload_n 0, 1) := by decide +kernel
theorem dX12_lineAt_89 : decode cX12_lineAt 89 = .ok (.getfield 76, 3) := by decide +kernel
theorem dX12_lineAt_92 : decode cX12_lineAt 92 = .ok (.iload 7, 2) := by decide +kernel
theorem dX12_lineAt_94 : decode cX12_lineAt 94 = .ok (.aload_n 0, 1) := by decide +kernel
theorem dX12_lineAt_95 : decode cX12_lineAt 95 = .ok (.getfield 70, 3) := by decide +kernel
theorem dX12_lineAt_98 : decode cX12_lineAt 98 = .ok (.iload 9, 2) := by decide +kernel
theorem dX12_lineAt_100 : decode cX12_lineAt 100 = .ok (.iaload, 1) := by decide +kernel
theorem dX12_lineAt_101 : decode cX12_lineAt 101 = .ok (.iadd, 1) := by decide +kernel
theorem dX12_lineAt_102 : decode cX12_lineAt 102 = .ok (.laload, 1) := by decide +kernel
theorem dX12_lineAt_103 : decode cX12_lineAt 103 = .ok (.goto 4, 3) := by decide +kernel
theorem dX12_lineAt_106 : decode cX12_lineAt 106 = .ok (.lconst 0, 1) := by decide +kernel
theorem dX12_lineAt_107 : decode cX12_lineAt 107 = .ok (.lstore 11, 2) := by decide +kernel
theorem dX12_lineAt_109 : decode cX12_lineAt 109 = .ok (.lload 5, 2) := by decide +kernel
theorem dX12_lineAt_111 : decode cX12_lineAt 111 = .ok (.lload 11, 2) := by decide +kernel
theorem dX12_lineAt_113 : decode cX12_lineAt 113 = .ok (.lcmp, 1) := by decide +kernel
theorem dX12_lineAt_114 : decode cX12_lineAt 114 = .ok (.ifCond .ge 7, 3) := by decide +kernel
theorem dX12_lineAt_117 : decode cX12_lineAt 117 = .ok (.iconst 1, 1) := by decide +kernel
theorem dX12_lineAt_118 : decode cX12_lineAt 118 = .ok (.goto 4, 3) := by decide +kernel
theorem dX12_lineAt_121 : decode cX12_lineAt 121 = .ok (.iconst 0, 1) := by decide +kernel
theorem dX12_lineAt_122 : decode cX12_lineAt 122 = .ok (.istore 10, 2) := by decide +kernel
theorem dX12_lineAt_124 : decode cX12_lineAt 124 = .ok (.lload 5, 2) := by decide +kernel
theorem dX12_lineAt_126 : decode cX12_lineAt 126 = .ok (.iload 10, 2) := by decide +kernel
theorem dX12_lineAt_128 : decode cX12_lineAt 128 = .ok (.ifCond .eq 7, 3) := by decide +kernel
theorem dX12_lineAt_131 : decode cX12_lineAt 131 = .ok (.lconst 0, 1) := by decide +kernel
theorem dX12_lineAt_132 : decode cX12_lineAt 132 = .ok (.goto 5, 3) := by decide +kernel
theorem dX12_lineAt_135 : decode cX12_lineAt 135 = .ok (.lload 11, 2) := by decide +kernel
theorem dX12_lineAt_137 : decode cX12_lineAt 137 = .ok (.lsub, 1) := by decide +kernel
theorem dX12_lineAt_138 : decode cX12_lineAt 138 = .ok (.lstore 5, 2) := by decide +kernel
theorem dX12_lineAt_140 : decode cX12_lineAt 140 = .ok (.iload 9, 2) := by decide +kernel
theorem dX12_lineAt_142 : decode cX12_lineAt 142 = .ok (.iload 10, 2) := by decide +kernel
theorem dX12_lineAt_144 : decode cX12_lineAt 144 = .ok (.ifCond .eq 7, 3) := by decide +kernel
theorem dX12_lineAt_147 : decode cX12_lineAt 147 = .ok (.iconst 0, 1) := by decide +kernel
theorem dX12_lineAt_148 : decode cX12_lineAt 148 = .ok (.goto 4, 3) := by decide +kernel
theorem dX12_lineAt_151 : decode cX12_lineAt 151 = .ok (.iconst 1, 1) := by decide +kernel
theorem dX12_lineAt_152 : decode cX12_lineAt 152 = .ok (.iadd, 1) := by decide +kernel
theorem dX12_lineAt_153 : decode cX12_lineAt 153 = .ok (.istore 9, 2) := by decide +kernel
theorem dX12_lineAt_155 : decode cX12_lineAt 155 = .ok (.goto (-84), 3) := by decide +kernel
theorem dX12_lineAt_158 : decode cX12_lineAt 158 = .ok (.iload 8, 2) := by decide +kernel
theorem dX12_lineAt_160 : decode cX12_lineAt 160 = .ok (.iload 4, 2) := by decide +kernel
theorem dX12_lineAt_162 : decode cX12_lineAt 162 = .ok (.if_icmp .ne 6, 3) := by decide +kernel
theorem dX12_lineAt_165 : decode cX12_lineAt 165 = .ok (.iload 9, 2) := by decide +kernel
theorem dX12_lineAt_167 : decode cX12_lineAt 167 = .ok (.ireturn, 1) := by decide +kernel
theorem dX12_lineAt_168 : decode cX12_lineAt 168 = .ok (.iinc 8 1, 3) := by decide +kernel
theorem dX12_lineAt_171 : decode cX12_lineAt 171 = .ok (.aload_n 0, 1) := by decide +kernel
theorem dX12_lineAt_172 : decode cX12_lineAt 172 = .ok (.iload_n 1, 1) := by decide +kernel
theorem dX12_lineAt_173 : decode cX12_lineAt 173 = .ok (.iload 7, 2) := by decide +kernel
theorem dX12_lineAt_175 : decode cX12_lineAt 175 = .ok (.aload_n 0, 1) := by decide +kernel
theorem dX12_lineAt_176 : decode cX12_lineAt 176 = .ok (.getfield 70, 3) := by decide +kernel
theorem dX12_lineAt_179 : decode cX12_lineAt 179 = .ok (.iload 9, 2) := by decide +kernel
theorem dX12_lineAt_181 : decode cX12_lineAt 181 = .ok (.iaload, 1) := by decide +kernel
theorem dX12_lineAt_182 : decode cX12_lineAt 182 = .ok (.iadd, 1) := by decide +kernel
theorem dX12_lineAt_183 : decode cX12_lineAt 183 = .ok (.invokevirtual 207, 3) := by decide +kernel
theorem dX12_lineAt_186 : decode cX12_lineAt 186 = .ok (.istore 7, 2) := by decide +kernel
theorem dX12_lineAt_188 : decode cX12_lineAt 188 = .ok (.goto (-134), 3) := by decide +kernel
theorem dX12_lineAt_191 : decode cX12_lineAt 191 = .ok (.iconst (-1), 1) := by decide +kernel
theorem dX12_lineAt_192 : decode cX12_lineAt 192 = .ok (.ireturn, 1) := by decide +kernel
theorem dX12_lines_0 : decode cX12_lines 0 = .ok (.aload_n 0, 1) := by decide +kernel
theorem dX12_lines_1 : decode cX12_lines 1 = .ok (.iload_n 1, 1) := by decide +kernel
theorem dX12_lines_2 : decode cX12_lines 2 = .ok (.invokevirtual 111, 3) := by decide +kernel
theorem dX12_lines_5 : decode cX12_lines 5 = .ok (.ifCond .eq 7, 3) := by decide +kernel
theorem dX12_lines_8 : decode cX12_lines 8 = .ok (.ldc2_w 217, 3) := by decide +kernel
theorem dX12_lines_11 : decode cX12_lines 11 = .ok (.lreturn, 1) := by decide +kernel
theorem dX12_lines_12 : decode cX12_lines 12 = .ok (.aload_n 0, 1) := by decide +kernel
theorem dX12_lines_13 : decode cX12_lines 13 = .ok (.iload_n 1, 1) := by decide +kernel
theorem dX12_lines_14 : decode cX12_lines 14 = .ok (.invokevirtual 219, 3) := by decide +kernel
theorem dX12_lines_17 : decode cX12_lines 17 = .ok (.aload_n 0, 1) := by decide +kernel
theorem dX12_lines_18 : decode cX12_lines 18 = .ok (.getfield 76, 3) := by decide +kernel
theorem dX12_lines_21 : decode cX12_lines 21 = .ok (.iconst 0, 1) := by decide +kernel
theorem dX12_lines_22 : decode cX12_lines 22 = .ok (.laload, 1) := by decide +kernel
theorem dX12_lines_23 : decode cX12_lines 23 = .ok (.lreturn, 1) := by decide +kernel
theorem dX12_mark_0 : decode cX12_mark 0 = .ok (.iload_n 1, 1) := by decide +kernel
theorem dX12_mark_1 : decode cX12_mark 1 = .ok (.i2l, 1) := by decide +kernel
theorem dX12_mark_2 : decode cX12_mark 2 = .ok (.lconst 0, 1) := by decide +kernel
theorem dX12_mark_3 : decode cX12_mark 3 = .ok (.ldc2_w 223, 3) := by decide +kernel
theorem dX12_mark_6 : decode cX12_mark 6 = .ok (.invokestatic 100, 3) := by decide +kernel
theorem dX12_mark_9 : decode cX12_mark 9 = .ok (.ifCond .eq 15, 3) := by decide +kernel
theorem dX12_mark_12 : decode cX12_mark 12 = .ok (.iload_n 2, 1) := by decide +kernel
theorem dX12_mark_13 : decode cX12_mark 13 = .ok (.i2l, 1) := by decide +kernel
theorem dX12_mark_14 : decode cX12_mark 14 = .ok (.lconst 0, 1) := by decide +kernel
theorem dX12_mark_15 : decode cX12_mark 15 = .ok (.ldc2_w 225, 3) := by decide +kernel
theorem dX12_mark_18 : decode cX12_mark 18 = .ok (.invokestatic 100, 3) := by decide +kernel
theorem dX12_mark_21 : decode cX12_mark 21 = .ok (.ifCond .ne 6, 3) := by decide +kernel
theorem dX12_mark_24 : decode cX12_mark 24 = .ok (.bipush (-2), 2) := by decide +kernel
theorem dX12_mark_26 : decode cX12_mark 26 = .ok (.ireturn, 1) := by decide +kernel
theorem dX12_mark_27 : decode cX12_mark 27 = .ok (.aload_n 0, 1) := by decide +kernel
theorem dX12_mark_28 : decode cX12_mark 28 = .ok (.getfield 227, 3) := by decide +kernel
theorem dX12_mark_31 : decode cX12_mark 31 = .ok (.bipush 60, 2) := by decide +kernel
theorem dX12_mark_33 : decode cX12_mark 33 = .ok (.if_icmp .ne 6, 3) := by decide +kernel
theorem dX12_mark_36 : decode cX12_mark 36 = .ok (.bipush (-4), 2) := by decide +kernel
theorem dX12_mark_38 : decode cX12_mark 38 = .ok (.ireturn, 1) := by decide +kernel
theorem dX12_mark_39 : decode cX12_mark 39 = .ok (.aload_n 0, 1) := by decide +kernel
theorem dX12_mark_40 : decode cX12_mark 40 = .ok (.getfield 83, 3) := by decide +kernel
theorem dX12_mark_43 : decode cX12_mark 43 = .ok (.aload_n 0, 1) := by decide +kernel
theorem dX12_mark_44 : decode cX12_mark 44 = .ok (.getfield 227, 3) := by decide +kernel
theorem dX12_mark_47 : decode cX12_mark 47 = .ok (.iload_n 1, 1) := by decide +kernel
theorem dX12_mark_48 : decode cX12_mark 48 = .ok (.iastore, 1) := by decide +kernel
theorem dX12_mark_49 : decode cX12_mark 49 = .ok (.aload_n 0, 1) := by decide +kernel
theorem dX12_mark_50 : decode cX12_mark 50 = .ok (.getfield 86, 3) := by decide +kernel
theorem dX12_mark_53 : decode cX12_mark 53 = .ok (.aload_n 0, 1) := by decide +kernel
theorem dX12_mark_54 : decode cX12_mark 54 = .ok (.getfield 227, 3) := by decide +kernel
theorem dX12_mark_57 : decode cX12_mark 57 = .ok (.iload_n 2, 1) := by decide +kernel
theorem dX12_mark_58 : decode cX12_mark 58 = .ok (.iastore, 1) := by decide +kernel
theorem dX12_mark_59 : decode cX12_mark 59 = .ok (.aload_n 0, 1) := by decide +kernel
theorem dX12_mark_60 : decode cX12_mark 60 = .ok (.dup, 1) := by decide +kernel
theorem dX12_mark_61 : decode cX12_mark 61 = .ok (.getfield 227, 3) := by decide +kernel
theorem dX12_mark_64 : decode cX12_mark 64 = .ok (.iconst 1, 1) := by decide +kernel
theorem dX12_mark_65 : decode cX12_mark 65 = .ok (.iadd, 1) := by decide +kernel
theorem dX12_mark_66 : decode cX12_mark 66 = .ok (.putfield 227, 3) := by decide +kernel
theorem dX12_mark_69 : decode cX12_mark 69 = .ok (.aload_n 0, 1) := by decide +kernel
theorem dX12_mark_70 : decode cX12_mark 70 = .ok (.getfield 227, 3) := by decide +kernel
theorem dX12_mark_73 : decode cX12_mark 73 = .ok (.ireturn, 1) := by decide +kernel
theorem dX12_near_0 : decode cX12_near 0 = .ok (.aload_n 0, 1) := by decide +kernel
theorem dX12_near_1 : decode cX12_near 1 = .ok (.iload_n 1, 1) := by decide +kernel
theorem dX12_near_2 : decode cX12_near 2 = .ok (.invokevirtual 111, 3) := by decide +kernel
theorem dX12_near_5 : decode cX12_near 5 = .ok (.ifCond .eq 6, 3) := by decide +kernel
theorem dX12_near_8 : decode cX12_near 8 = .ok (.bipush (-2), 2) := by decide +kernel
theorem dX12_near_10 : decode cX12_near 10 = .ok (.ireturn, 1) := by decide +kernel
theorem dX12_near_11 : decode cX12_near 11 = .ok (.aload_n 0, 1) := by decide +kernel
theorem dX12_near_12 : decode cX12_near 12 = .ok (.iload_n 1, 1) := by decide +kernel
theorem dX12_near_13 : decode cX12_near 13 = .ok (.invokevirtual 219, 3) := by decide +kernel
theorem dX12_near_16 : decode cX12_near 16 = .ok (.aload_n 0, 1) := by decide +kernel
theorem dX12_near_17 : decode cX12_near 17 = .ok (.getfield 80, 3) := by decide +kernel
theorem dX12_near_20 : decode cX12_near 20 = .ok (.iconst 0, 1) := by decide +kernel
theorem dX12_near_21 : decode cX12_near 21 = .ok (.iaload, 1) := by decide +kernel
theorem dX12_near_22 : decode cX12_near 22 = .ok (.ldc 210, 2) := by decide +kernel
theorem dX12_near_24 : decode cX12_near 24 = .ok (.if_icmp .lt 7, 3) := by decide +kernel
theorem dX12_near_27 : decode cX12_near 27 = .ok (.iconst (-1), 1) := by decide +kernel
theorem dX12_near_28 : decode cX12_near 28 = .ok (.goto 9, 3) := by decide +kernel
theorem dX12_near_31 : decode cX12_near 31 = .ok (.aload_n 0, 1) := by decide +kernel
theorem dX12_near_32 : decode cX12_near 32 = .ok (.getfield 80, 3) := by decide +kernel
theorem dX12_near_35 : decode cX12_near 35 = .ok (.iconst 0, 1) := by decide +kernel
theorem dX12_near_36 : decode cX12_near 36 = .ok (.iaload, 1) := by decide +kernel
theorem dX12_near_37 : decode cX12_near 37 = .ok (.ireturn, 1) := by decide +kernel
theorem dX12_nearAt_0 : decode cX12_nearAt 0 = .ok (.aload_n 0, 1) := by decide +kernel
theorem dX12_nearAt_1 : decode cX12_nearAt 1 = .ok (.iload_n 1, 1) := by decide +kernel
theorem dX12_nearAt_2 : decode cX12_nearAt 2 = .ok (.invokevirtual 111, 3) := by decide +kernel
theorem dX12_nearAt_5 : decode cX12_nearAt 5 = .ok (.ifCond .ne 7, 3) := by decide +kernel
theorem dX12_nearAt_8 : decode cX12_nearAt 8 = .ok (.iload_n 2, 1) := by decide +kernel
theorem dX12_nearAt_9 : decode cX12_nearAt 9 = .ok (.ifCond .ge 6, 3) := by decide +kernel
theorem dX12_nearAt_12 : decode cX12_nearAt 12 = .ok (.bipush (-2), 2) := by decide +kernel
theorem dX12_nearAt_14 : decode cX12_nearAt 14 = .ok (.ireturn, 1) := by decide +kernel
theorem dX12_nearAt_15 : decode cX12_nearAt 15 = .ok (.aload_n 0, 1) := by decide +kernel
theorem dX12_nearAt_16 : decode cX12_nearAt 16 = .ok (.iload_n 1, 1) := by decide +kernel
theorem dX12_nearAt_17 : decode cX12_nearAt 17 = .ok (.invokevirtual 219, 3) := by decide +kernel
theorem dX12_nearAt_20 : decode cX12_nearAt 20 = .ok (.aload_n 0, 1) := by decide +kernel
theorem dX12_nearAt_21 : decode cX12_nearAt 21 = .ok (.getfield 80, 3) := by decide +kernel
theorem dX12_nearAt_24 : decode cX12_nearAt 24 = .ok (.iconst 0, 1) := by decide +kernel
theorem dX12_nearAt_25 : decode cX12_nearAt 25 = .ok (.iaload, 1) := by decide +kernel
theorem dX12_nearAt_26 : decode cX12_nearAt 26 = .ok (.ldc 210, 2) := by decide +kernel
theorem dX12_nearAt_28 : decode cX12_nearAt 28 = .ok (.if_icmp .lt 5, 3) := by decide +kernel
theorem dX12_nearAt_31 : decode cX12_nearAt 31 = .ok (.iconst (-1), 1) := by decide +kernel
theorem dX12_nearAt_32 : decode cX12_nearAt 32 = .ok (.ireturn, 1) := by decide +kernel
theorem dX12_nearAt_33 : decode cX12_nearAt 33 = .ok (.aload_n 0, 1) := by decide +kernel
theorem dX12_nearAt_34 : decode cX12_nearAt 34 = .ok (.iload_n 1, 1) := by decide +kernel
theorem dX12_nearAt_35 : decode cX12_nearAt 35 = .ok (.iconst 0, 1) := by decide +kernel
theorem dX12_nearAt_36 : decode cX12_nearAt 36 = .ok (.invokevirtual 207, 3) := by decide +kernel
theorem dX12_nearAt_39 : decode cX12_nearAt 39 = .ok (.istore_n 3, 1) := by decide +kernel
theorem dX12_nearAt_40 : decode cX12_nearAt 40 = .ok (.iconst 0, 1) := by decide +kernel
theorem dX12_nearAt_41 : decode cX12_nearAt 41 = .ok (.istore 4, 2) := by decide +kernel
theorem dX12_nearAt_43 : decode cX12_nearAt 43 = .ok (.iload_n 3, 1) := by decide +kernel
theorem dX12_nearAt_44 : decode cX12_nearAt 44 = .ok (.aload_n 0, 1) := by decide +kernel
theorem dX12_nearAt_45 : decode cX12_nearAt 45 = .ok (.getfield 7, 3) := by decide +kernel
theorem dX12_nearAt_48 : decode cX12_nearAt 48 = .ok (.iload_n 1, 1) := by decide +kernel
theorem dX12_nearAt_49 : decode cX12_nearAt 49 = .ok (.iaload, 1) := by decide +kernel
theorem dX12_nearAt_50 : decode cX12_nearAt 50 = .ok (.if_icmp .ge 85, 3) := by decide +kernel
theorem dX12_nearAt_53 : decode cX12_nearAt 53 = .ok (.iconst 0, 1) := by decide +kernel
theorem dX12_nearAt_54 : decode cX12_nearAt 54 = .ok (.istore 5, 2) := by decide +kernel
theorem dX12_nearAt_56 : decode cX12_nearAt 56 = .ok (.aload_n 0, 1) := by decide +kernel
theorem dX12_nearAt_57 : decode cX12_nearAt 57 = .ok (.iload_n 1, 1) := by decide +kernel
theorem dX12_nearAt_58 : decode cX12_nearAt 58 = .ok (.iload_n 3, 1) := by decide +kernel
theorem dX12_nearAt_59 : decode cX12_nearAt 59 = .ok (.iload 5, 2) := by decide +kernel
theorem dX12_nearAt_61 : decode cX12_nearAt 61 = .ok (.invokevirtual 211, 3) := by decide +kernel
theorem dX12_nearAt_64 : decode cX12_nearAt 64 = .ok (.ifCond .lt 35, 3) := by decide +kernel
theorem dX12_nearAt_67 : decode cX12_nearAt 67 = .ok (.aload_n 0, 1) := by decide +kernel
theorem dX12_nearAt_68 : decode cX12_nearAt 68 = .ok (.iload_n 1, 1) := by decide +kernel
theorem dX12_nearAt_69 : decode cX12_nearAt 69 = .ok (.iload_n 3, 1) := by decide +kernel
theorem dX12_nearAt_70 : decode cX12_nearAt 70 = .ok (.iload 5, 2) := by decide +kernel
theorem dX12_nearAt_72 : decode cX12_nearAt 72 = .ok (.invokevirtual 211, 3) := by decide +kernel
theorem dX12_nearAt_75 : decode cX12_nearAt 75 = .ok (.aload_n 0, 1) := by decide +kernel
theorem dX12_nearAt_76 : decode cX12_nearAt 76 = .ok (.getfield 80, 3) := by decide +kernel
theorem dX12_nearAt_79 : decode cX12_nearAt 79 = .ok (.iload_n 3, 1) := by decide +kernel
theorem dX12_nearAt_80 : decode cX12_nearAt 80 = .ok (.aload_n 0, 1) := by decide +kernel
theorem dX12_nearAt_81 : decode cX12_nearAt 81 = .ok (.getfield 70, 3) := by decide +kernel
theorem dX12_nearAt_84 : decode cX12_nearAt 84 = .ok (.iload 5, 2) := by decide +kernel
theorem dX12_nearAt_86 : decode cX12_nearAt 86 = .ok (.iaload, 1) := by decide +kernel
theorem dX12_nearAt_87 : decode cX12_nearAt 87 = .ok (.iadd, 1) := by decide +kernel
theorem dX12_nearAt_88 : decode cX12_nearAt 88 = .ok (.iaload, 1) := by decide +kernel
theorem dX12_nearAt_89 : decode cX12_nearAt 89 = .ok (.iadd, 1) := by decide +kernel
theorem dX12_nearAt_90 : decode cX12_nearAt 90 = .ok (.aload_n 0, 1) := by decide +kernel
theorem dX12_nearAt_91 : decode cX12_nearAt 91 = .ok (.getfield 80, 3) := by decide +kernel
theorem dX12_nearAt_94 : decode cX12_nearAt 94 = .ok (.iload_n 3, 1) := by decide +kernel
theorem dX12_nearAt_95 : decode cX12_nearAt 95 = .ok (.iaload, 1) := by decide +kernel
theorem dX12_nearAt_96 : decode cX12_nearAt 96 = .ok (.if_icmp .eq 9, 3) := by decide +kernel
theorem dX12_nearAt_99 : decode cX12_nearAt 99 = .ok (.iinc 5 1, 3) := by decide +kernel
theorem dX12_nearAt_102 : decode cX12_nearAt 102 = .ok (.goto (-46), 3) := by decide +kernel
theorem dX12_nearAt_105 : decode cX12_nearAt 105 = .ok (.iload 4, 2) := by decide +kernel
theorem dX12_nearAt_107 : decode cX12_nearAt 107 = .ok (.iload_n 2, 1) := by decide +kernel
theorem dX12_nearAt_108 : decode cX12_nearAt 108 = .ok (.if_icmp .ne 6, 3) := by decide +kernel
theorem dX12_nearAt_111 : decode cX12_nearAt 111 = .ok (.iload 5, 2) := by decide +kernel
theorem dX12_nearAt_113 : decode cX12_nearAt 113 = .ok (.ireturn, 1) := by decide +kernel
theorem dX12_nearAt_114 : decode cX12_nearAt 114 = .ok (.iinc 4 1, 3) := by decide +kernel
theorem dX12_nearAt_117 : decode cX12_nearAt 117 = .ok (.aload_n 0, 1) := by decide +kernel
theorem dX12_nearAt_118 : decode cX12_nearAt 118 = .ok (.iload_n 1, 1) := by decide +kernel
theorem dX12_nearAt_119 : decode cX12_nearAt 119 = .ok (.iload_n 3, 1) := by decide +kernel
theorem dX12_nearAt_120 : decode cX12_nearAt 120 = .ok (.aload_n 0, 1) := by decide +kernel
theorem dX12_nearAt_121 : decode cX12_nearAt 121 = .ok (.getfield 70, 3) := by decide +kernel
theorem dX12_nearAt_124 : decode cX12_nearAt 124 = .ok (.iload 5, 2) := by decide +kernel
theorem dX12_nearAt_126 : decode cX12_nearAt 126 = .ok (.iaload, 1) := by decide +kernel
theorem dX12_nearAt_127 : decode cX12_nearAt 127 = .ok (.iadd, 1) := by decide +kernel
theorem dX12_nearAt_128 : decode cX12_nearAt 128 = .ok (.invokevirtual 207, 3) := by decide +kernel
theorem dX12_nearAt_131 : decode cX12_nearAt 131 = .ok (.istore_n 3, 1) := by decide +kernel
theorem dX12_nearAt_132 : decode cX12_nearAt 132 = .ok (.goto (-89), 3) := by decide +kernel
theorem dX12_nearAt_135 : decode cX12_nearAt 135 = .ok (.iconst (-1), 1) := by decide +kernel
theorem dX12_nearAt_136 : decode cX12_nearAt 136 = .ok (.ireturn, 1) := by decide +kernel
theorem dX12_now_0 : decode cX12_now 0 = .ok (.aload_n 0, 1) := by decide +kernel
theorem dX12_now_1 : decode cX12_now 1 = .ok (.iload_n 1, 1) := by decide +kernel
theorem dX12_now_2 : decode cX12_now 2 = .ok (.invokevirtual 131, 3) := by decide +kernel
theorem dX12_now_5 : decode cX12_now 5 = .ok (.ifCond .eq 8, 3) := by decide +kernel
theorem dX12_now_8 : decode cX12_now 8 = .ok (.bipush (-2), 2) := by decide +kernel
theorem dX12_now_10 : decode cX12_now 10 = .ok (.goto 9, 3) := by decide +kernel
theorem dX12_now_13 : decode cX12_now 13 = .ok (.aload_n 0, 1) := by decide +kernel
theorem dX12_now_14 : decode cX12_now 14 = .ok (.getfield 40, 3) := by decide +kernel
theorem dX12_now_17 : decode cX12_now 17 = .ok (.iload_n 1, 1) := by decide +kernel
theorem dX12_now_18 : decode cX12_now 18 = .ok (.iaload, 1) := by decide +kernel
theorem dX12_now_19 : decode cX12_now 19 = .ok (.ireturn, 1) := by decide +kernel
theorem dX12_pause_0 : decode cX12_pause 0 = .ok (.iload_n 1, 1) := by decide +kernel
theorem dX12_pause_1 : decode cX12_pause 1 = .ok (.i2l, 1) := by decide +kernel
theorem dX12_pause_2 : decode cX12_pause 2 = .ok (.lconst 0, 1) := by decide +kernel
theorem dX12_pause_3 : decode cX12_pause 3 = .ok (.ldc2_w 124, 3) := by decide +kernel
theorem dX12_pause_6 : decode cX12_pause 6 = .ok (.invokestatic 100, 3) := by decide +kernel
theorem dX12_pause_9 : decode cX12_pause 9 = .ok (.ifCond .ne 6, 3) := by decide +kernel
theorem dX12_pause_12 : decode cX12_pause 12 = .ok (.bipush (-2), 2) := by decide +kernel
theorem dX12_pause_14 : decode cX12_pause 14 = .ok (.ireturn, 1) := by decide +kernel
theorem dX12_pause_15 : decode cX12_pause 15 = .ok (.aload_n 0, 1) := by decide +kernel
theorem dX12_pause_16 : decode cX12_pause 16 = .ok (.iconst 0, 1) := by decide +kernel
theorem dX12_pause_17 : decode cX12_pause 17 = .ok (.iload_n 1, 1) := by decide +kernel
theorem dX12_pause_18 : decode cX12_pause 18 = .ok (.invokevirtual 137, 3) := by decide +kernel
theorem dX12_pause_21 : decode cX12_pause 21 = .ok (.iconst 0, 1) := by decide +kernel
theorem dX12_pause_22 : decode cX12_pause 22 = .ok (.istore_n 2, 1) := by decide +kernel
theorem dX12_pause_23 : decode cX12_pause 23 = .ok (.iconst 0, 1) := by decide +kernel
theorem dX12_pause_24 : decode cX12_pause 24 = .ok (.istore_n 3, 1) := by decide +kernel
theorem dX12_pause_25 : decode cX12_pause 25 = .ok (.iload_n 3, 1) := by decide +kernel
theorem dX12_pause_26 : decode cX12_pause 26 = .ok (.aload_n 0, 1) := by decide +kernel
theorem dX12_pause_27 : decode cX12_pause 27 = .ok (.getfield 121, 3) := by decide +kernel
theorem dX12_pause_30 : decode cX12_pause 30 = .ok (.if_icmp .ge 35, 3) := by decide +kernel
theorem dX12_pause_33 : decode cX12_pause 33 = .ok (.iload_n 2, 1) := by decide +kernel
theorem dX12_pause_34 : decode cX12_pause 34 = .ok (.aload_n 0, 1) := by decide +kernel
theorem dX12_pause_35 : decode cX12_pause 35 = .ok (.getfield 40, 3) := by decide +kernel
theorem dX12_pause_38 : decode cX12_pause 38 = .ok (.iload_n 3, 1) := by decide +kernel
theorem dX12_pause_39 : decode cX12_pause 39 = .ok (.iaload, 1) := by decide +kernel
theorem dX12_pause_40 : decode cX12_pause 40 = .ok (.aload_n 0, 1) := by decide +kernel
theorem dX12_pause_41 : decode cX12_pause 41 = .ok (.getfield 25, 3) := by decide +kernel
theorem dX12_pause_44 : decode cX12_pause 44 = .ok (.iload_n 3, 1) := by decide +kernel
theorem dX12_pause_45 : decode cX12_pause 45 = .ok (.iaload, 1) := by decide +kernel
theorem dX12_pause_46 : decode cX12_pause 46 = .ok (.if_icmp .ne 7, 3) := by decide +kernel
theorem dX12_pause_49 : decode cX12_pause 49 = .ok (.iconst 1, 1) := by decide +kernel
theorem dX12_pause_50 : decode cX12_pause 50 = .ok (.goto 4, 3) := by decide +kernel
theorem dX12_pause_53 : decode cX12_pause 53 = .ok (.iconst 0, 1) := by decide +kernel
theorem dX12_pause_54 : decode cX12_pause 54 = .ok (.invokestatic 141, 3) := by decide +kernel
theorem dX12_pause_57 : decode cX12_pause 57 = .ok (.iadd, 1) := by decide +kernel
theorem dX12_pause_58 : decode cX12_pause 58 = .ok (.istore_n 2, 1) := by decide +kernel
theorem dX12_pause_59 : decode cX12_pause 59 = .ok (.iinc 3 1, 3) := by decide +kernel
theorem dX12_pause_62 : decode cX12_pause 62 = .ok (.goto (-37), 3) := by decide +kernel
theorem dX12_pause_65 : decode cX12_pause 65 = .ok (.iload_n 2, 1) := by decide +kernel
theorem dX12_pause_66 : decode cX12_pause 66 = .ok (.ireturn, 1) := by decide +kernel
theorem dX12_plan_0 : decode cX12_plan 0 = .ok (.aload_n 0, 1) := by decide +kernel
theorem dX12_plan_1 : decode cX12_plan 1 = .ok (.getfield 174, 3) := by decide +kernel
theorem dX12_plan_4 : decode cX12_plan 4 = .ok (.ifCond .eq 10, 3) := by decide +kernel
theorem dX12_plan_7 : decode cX12_plan 7 = .ok (.aload_n 0, 1) := by decide +kernel
theorem dX12_plan_8 : decode cX12_plan 8 = .ok (.getfield 108, 3) := by decide +kernel
theorem dX12_plan_11 : decode cX12_plan 11 = .ok (.ifCond .ne 8, 3) := by decide +kernel
theorem dX12_plan_14 : decode cX12_plan 14 = .ok (.bipush (-3), 2) := by decide +kernel
theorem dX12_plan_16 : decode cX12_plan 16 = .ok (.goto 7, 3) := by decide +kernel
theorem dX12_plan_19 : decode cX12_plan 19 = .ok (.aload_n 0, 1) := by decide +kernel
theorem dX12_plan_20 : decode cX12_plan 20 = .ok (.invokevirtual 186, 3) := by decide +kernel
theorem dX12_plan_23 : decode cX12_plan 23 = .ok (.ireturn, 1) := by decide +kernel
theorem dX12_planAt_0 : decode cX12_planAt 0 = .ok (.iload_n 1, 1) := by decide +kernel
theorem dX12_planAt_1 : decode cX12_planAt 1 = .ok (.i2l, 1) := by decide +kernel
theorem dX12_planAt_2 : decode cX12_planAt 2 = .ok (.lconst 0, 1) := by decide +kernel
theorem dX12_planAt_3 : decode cX12_planAt 3 = .ok (.aload_n 0, 1) := by decide +kernel
theorem dX12_planAt_4 : decode cX12_planAt 4 = .ok (.getfield 174, 3) := by decide +kernel
theorem dX12_planAt_7 : decode cX12_planAt 7 = .ok (.iconst 1, 1) := by decide +kernel
theorem dX12_planAt_8 : decode cX12_planAt 8 = .ok (.isub, 1) := by decide +kernel
theorem dX12_planAt_9 : decode cX12_planAt 9 = .ok (.i2l, 1) := by decide +kernel
theorem dX12_planAt_10 : decode cX12_planAt 10 = .ok (.invokestatic 100, 3) := by decide +kernel
theorem dX12_planAt_13 : decode cX12_planAt 13 = .ok (.ifCond .ne 6, 3) := by decide +kernel
theorem dX12_planAt_16 : decode cX12_planAt 16 = .ok (.bipush (-2), 2) := by decide +kernel
theorem dX12_planAt_18 : decode cX12_planAt 18 = .ok (.ireturn, 1) := by decide +kernel
theorem dX12_planAt_19 : decode cX12_planAt 19 = .ok (.aload_n 0, 1) := by decide +kernel
theorem dX12_planAt_20 : decode cX12_planAt 20 = .ok (.getfield 108, 3) := by decide +kernel
theorem dX12_planAt_23 : decode cX12_planAt 23 = .ok (.ifCond .ne 6, 3) := by decide +kernel
theorem dX12_planAt_26 : decode cX12_planAt 26 = .ok (.bipush (-3), 2) := by decide +kernel
theorem dX12_planAt_28 : decode cX12_planAt 28 = .ok (.ireturn, 1) := by decide +kernel
theorem dX12_planAt_29 : decode cX12_planAt 29 = .ok (.aload_n 0, 1) := by decide +kernel
theorem dX12_planAt_30 : decode cX12_planAt 30 = .ok (.invokevirtual 186, 3) := by decide +kernel
theorem dX12_planAt_33 : decode cX12_planAt 33 = .ok (.ifCond .lt 12, 3) := by decide +kernel
theorem dX12_planAt_36 : decode cX12_planAt 36 = .ok (.aload_n 0, 1) := by decide +kernel
theorem dX12_planAt_37 : decode cX12_planAt 37 = .ok (.getfield 64, 3) := by decide +kernel
theorem dX12_planAt_40 : decode cX12_planAt 40 = .ok (.iload_n 1, 1) := by decide +kernel
theorem dX12_planAt_41 : decode cX12_planAt 41 = .ok (.iaload, 1) := by decide +kernel
theorem dX12_planAt_42 : decode cX12_planAt 42 = .ok (.goto 4, 3) := by decide +kernel
theorem dX12_planAt_45 : decode cX12_planAt 45 = .ok (.iconst (-1), 1) := by decide +kernel
theorem dX12_planAt_46 : decode cX12_planAt 46 = .ok (.ireturn, 1) := by decide +kernel
theorem dX12_refrain_0 : decode cX12_refrain 0 = .ok (.aload_n 0, 1) := by decide +kernel
theorem dX12_refrain_1 : decode cX12_refrain 1 = .ok (.iload_n 1, 1) := by decide +kernel
theorem dX12_refrain_2 : decode cX12_refrain 2 = .ok (.invokevirtual 111, 3) := by decide +kernel
theorem dX12_refrain_5 : decode cX12_refrain 5 = .ok (.ifCond .eq 6, 3) := by decide +kernel
theorem dX12_refrain_8 : decode cX12_refrain 8 = .ok (.bipush (-2), 2) := by decide +kernel
theorem dX12_refrain_10 : decode cX12_refrain 10 = .ok (.ireturn, 1) := by decide +kernel
theorem dX12_refrain_11 : decode cX12_refrain 11 = .ok (.aload_n 0, 1) := by decide +kernel
theorem dX12_refrain_12 : decode cX12_refrain 12 = .ok (.getfield 104, 3) := by decide +kernel
theorem dX12_refrain_15 : decode cX12_refrain 15 = .ok (.bipush 12, 2) := by decide +kernel
theorem dX12_refrain_17 : decode cX12_refrain 17 = .ok (.if_icmp .le 6, 3) := by decide +kernel
theorem dX12_refrain_20 : decode cX12_refrain 20 = .ok (.bipush (-3), 2) := by decide +kernel
theorem dX12_refrain_22 : decode cX12_refrain 22 = .ok (.ireturn, 1) := by decide +kernel
theorem dX12_refrain_23 : decode cX12_refrain 23 = .ok (.iconst 0, 1) := by decide +kernel
theorem dX12_refrain_24 : decode cX12_refrain 24 = .ok (.istore_n 2, 1) := by decide +kernel
theorem dX12_refrain_25 : decode cX12_refrain 25 = .ok (.iload_n 2, 1) := by decide +kernel
theorem dX12_refrain_26 : decode cX12_refrain 26 = .ok (.aload_n 0, 1) := by decide +kernel
theorem dX12_refrain_27 : decode cX12_refrain 27 = .ok (.getfield 104, 3) := by decide +kernel
theorem dX12_refrain_30 : decode cX12_refrain 30 = .ok (.if_icmp .ge 26, 3) := by decide +kernel
theorem dX12_refrain_33 : decode cX12_refrain 33 = .ok (.aload_n 0, 1) := by decide +kernel
theorem dX12_refrain_34 : decode cX12_refrain 34 = .ok (.getfield 19, 3) := by decide +kernel
theorem dX12_refrain_37 : decode cX12_refrain 37 = .ok (.bipush 12, 2) := by decide +kernel
theorem dX12_refrain_39 : decode cX12_refrain 39 = .ok (.iload_n 1, 1) := by decide +kernel
theorem dX12_refrain_40 : decode cX12_refrain 40 = .ok (.imul, 1) := by decide +kernel
theorem dX12_refrain_41 : decode cX12_refrain 41 = .ok (.iload_n 2, 1) := by decide +kernel
theorem dX12_refrain_42 : decode cX12_refrain 42 = .ok (.iadd, 1) := by decide +kernel
theorem dX12_refrain_43 : decode cX12_refrain 43 = .ok (.aload_n 0, 1) := by decide +kernel
theorem dX12_refrain_44 : decode cX12_refrain 44 = .ok (.getfield 22, 3) := by decide +kernel
theorem dX12_refrain_47 : decode cX12_refrain 47 = .ok (.iload_n 2, 1) := by decide +kernel
theorem dX12_refrain_48 : decode cX12_refrain 48 = .ok (.iaload, 1) := by decide +kernel
theorem dX12_refrain_49 : decode cX12_refrain 49 = .ok (.iastore, 1) := by decide +kernel
theorem dX12_refrain_50 : decode cX12_refrain 50 = .ok (.iinc 2 1, 3) := by decide +kernel
theorem dX12_refrain_53 : decode cX12_refrain 53 = .ok (.goto (-28), 3) := by decide +kernel
theorem dX12_refrain_56 : decode cX12_refrain 56 = .ok (.aload_n 0, 1) := by decide +kernel
theorem dX12_refrain_57 : decode cX12_refrain 57 = .ok (.getfield 13, 3) := by decide +kernel
theorem dX12_refrain_60 : decode cX12_refrain 60 = .ok (.iload_n 1, 1) := by decide +kernel
theorem dX12_refrain_61 : decode cX12_refrain 61 = .ok (.aload_n 0, 1) := by decide +kernel
theorem dX12_refrain_62 : decode cX12_refrain 62 = .ok (.getfield 104, 3) := by decide +kernel
theorem dX12_refrain_65 : decode cX12_refrain 65 = .ok (.iastore, 1) := by decide +kernel
theorem dX12_refrain_66 : decode cX12_refrain 66 = .ok (.aload_n 0, 1) := by decide +kernel
theorem dX12_refrain_67 : decode cX12_refrain 67 = .ok (.iconst 0, 1) := by decide +kernel
theorem dX12_refrain_68 : decode cX12_refrain 68 = .ok (.putfield 104, 3) := by decide +kernel
theorem dX12_refrain_71 : decode cX12_refrain 71 = .ok (.aload_n 0, 1) := by decide +kernel
theorem dX12_refrain_72 : decode cX12_refrain 72 = .ok (.getfield 13, 3) := by decide +kernel
theorem dX12_refrain_75 : decode cX12_refrain 75 = .ok (.iload_n 1, 1) := by decide +kernel
theorem dX12_refrain_76 : decode cX12_refrain 76 = .ok (.iaload, 1) := by decide +kernel
theorem dX12_refrain_77 : decode cX12_refrain 77 = .ok (.ireturn, 1) := by decide +kernel
theorem dX12_rest_0 : decode cX12_rest 0 = .ok (.aload_n 0, 1) := by decide +kernel
theorem dX12_rest_1 : decode cX12_rest 1 = .ok (.getfield 104, 3) := by decide +kernel
theorem dX12_rest_4 : decode cX12_rest 4 = .ok (.istore_n 1, 1) := by decide +kernel
theorem dX12_rest_5 : decode cX12_rest 5 = .ok (.aload_n 0, 1) := by decide +kernel
theorem dX12_rest_6 : decode cX12_rest 6 = .ok (.iconst 0, 1) := by decide +kernel
theorem dX12_rest_7 : decode cX12_rest 7 = .ok (.putfield 104, 3) := by decide +kernel
theorem dX12_rest_10 : decode cX12_rest 10 = .ok (.iload_n 1, 1) := by decide +kernel
theorem dX12_rest_11 : decode cX12_rest 11 = .ok (.ireturn, 1) := by decide +kernel
theorem dX12_song_0 : decode cX12_song 0 = .ok (.aload_n 0, 1) := by decide +kernel
theorem dX12_song_1 : decode cX12_song 1 = .ok (.getfield 104, 3) := by decide +kernel
theorem dX12_song_4 : decode cX12_song 4 = .ok (.ifCond .ne 6, 3) := by decide +kernel
theorem dX12_song_7 : decode cX12_song 7 = .ok (.bipush (-3), 2) := by decide +kernel
theorem dX12_song_9 : decode cX12_song 9 = .ok (.ireturn, 1) := by decide +kernel
theorem dX12_song_10 : decode cX12_song 10 = .ok (.aload_n 0, 1) := by decide +kernel
theorem dX12_song_11 : decode cX12_song 11 = .ok (.getfield 108, 3) := by decide +kernel
theorem dX12_song_14 : decode cX12_song 14 = .ok (.bipush 6, 2) := by decide +kernel
theorem dX12_song_16 : decode cX12_song 16 = .ok (.if_icmp .ne 6, 3) := by decide +kernel
theorem dX12_song_19 : decode cX12_song 19 = .ok (.bipush (-4), 2) := by decide +kernel
theorem dX12_song_21 : decode cX12_song 21 = .ok (.ireturn, 1) := by decide +kernel
theorem dX12_song_22 : decode cX12_song 22 = .ok (.iconst 0, 1) := by decide +kernel
theorem dX12_song_23 : decode cX12_song 23 = .ok (.istore_n 1, 1) := by decide +kernel
theorem dX12_song_24 : decode cX12_song 24 = .ok (.iload_n 1, 1) := by decide +kernel
theorem dX12_song_25 : decode cX12_song 25 = .ok (.aload_n 0, 1) := by decide +kernel
theorem dX12_song_26 : decode cX12_song 26 = .ok (.getfield 104, 3) := by decide +kernel
theorem dX12_song_29 : decode cX12_song 29 = .ok (.if_icmp .ge 29, 3) := by decide +kernel
theorem dX12_song_32 : decode cX12_song 32 = .ok (.aload_n 0, 1) := by decide +kernel
theorem dX12_song_33 : decode cX12_song 33 = .ok (.getfield 16, 3) := by decide +kernel
theorem dX12_song_36 : decode cX12_song 36 = .ok (.bipush 24, 2) := by decide +kernel
theorem dX12_song_38 : decode cX12_song 38 = .ok (.aload_n 0, 1) := by decide +kernel
theorem dX12_song_39 : decode cX12_song 39 = .ok (.getfield 108, 3) := by decide +kernel
theorem dX12_song_42 : decode cX12_song 42 = .ok (.imul, 1) := by decide +kernel
theorem dX12_song_43 : decode cX12_song 43 = .ok (.iload_n 1, 1) := by decide +kernel
theorem dX12_song_44 : decode cX12_song 44 = .ok (.iadd, 1) := by decide +kernel
theorem dX12_song_45 : decode cX12_song 45 = .ok (.aload_n 0, 1) := by decide +kernel
theorem dX12_song_46 : decode cX12_song 46 = .ok (.getfield 22, 3) := by decide +kernel
theorem dX12_song_49 : decode cX12_song 49 = .ok (.iload_n 1, 1) := by decide +kernel
theorem dX12_song_50 : decode cX12_song 50 = .ok (.iaload, 1) := by decide +kernel
theorem dX12_song_51 : decode cX12_song 51 = .ok (.iastore, 1) := by decide +kernel
theorem dX12_song_52 : decode cX12_song 52 = .ok (.iinc 1 1, 3) := by decide +kernel
theorem dX12_song_55 : decode cX12_song 55 = .ok (.goto (-31), 3) := by decide +kernel
theorem dX12_song_58 : decode cX12_song 58 = .ok (.aload_n 0, 1) := by decide +kernel
theorem dX12_song_59 : decode cX12_song 59 = .ok (.getfield 7, 3) := by decide +kernel
theorem dX12_song_62 : decode cX12_song 62 = .ok (.aload_n 0, 1) := by decide +kernel
theorem dX12_song_63 : decode cX12_song 63 = .ok (.getfield 108, 3) := by decide +kernel
theorem dX12_song_66 : decode cX12_song 66 = .ok (.aload_n 0, 1) := by decide +kernel
theorem dX12_song_67 : decode cX12_song 67 = .ok (.getfield 104, 3) := by decide +kernel
theorem dX12_song_70 : decode cX12_song 70 = .ok (.iastore, 1) := by decide +kernel
theorem dX12_song_71 : decode cX12_song 71 = .ok (.aload_n 0, 1) := by decide +kernel
theorem dX12_song_72 : decode cX12_song 72 = .ok (.getfield 13, 3) := by decide +kernel
theorem dX12_song_75 : decode cX12_song 75 = .ok (.aload_n 0, 1) := by decide +kernel
theorem dX12_song_76 : decode cX12_song 76 = .ok (.getfield 108, 3) := by decide +kernel
theorem dX12_song_79 : decode cX12_song 79 = .ok (.iconst 0, 1) := by decide +kernel
theorem dX12_song_80 : decode cX12_song 80 = .ok (.iastore, 1) := by decide +kernel
theorem dX12_song_81 : decode cX12_song 81 = .ok (.aload_n 0, 1) := by decide +kernel
theorem dX12_song_82 : decode cX12_song 82 = .ok (.iconst 0, 1) := by decide +kernel
theorem dX12_song_83 : decode cX12_song 83 = .ok (.putfield 104, 3) := by decide +kernel
theorem dX12_song_86 : decode cX12_song 86 = .ok (.aload_n 0, 1) := by decide +kernel
theorem dX12_song_87 : decode cX12_song 87 = .ok (.dup, 1) := by decide +kernel
theorem dX12_song_88 : decode cX12_song 88 = .ok (.getfield 108, 3) := by decide +kernel
theorem dX12_song_91 : decode cX12_song 91 = .ok (.iconst 1, 1) := by decide +kernel
theorem dX12_song_92 : decode cX12_song 92 = .ok (.iadd, 1) := by decide +kernel
theorem dX12_song_93 : decode cX12_song 93 = .ok (.putfield 108, 3) := by decide +kernel
theorem dX12_song_96 : decode cX12_song 96 = .ok (.aload_n 0, 1) := by decide +kernel
theorem dX12_song_97 : decode cX12_song 97 = .ok (.getfield 108, 3) := by decide +kernel
theorem dX12_song_100 : decode cX12_song 100 = .ok (.iconst 1, 1) := by decide +kernel
theorem dX12_song_101 : decode cX12_song 101 = .ok (.isub, 1) := by decide +kernel
theorem dX12_song_102 : decode cX12_song 102 = .ok (.ireturn, 1) := by decide +kernel
theorem dX12_sumOf_0 : decode cX12_sumOf 0 = .ok (.iconst 0, 1) := by decide +kernel
theorem dX12_sumOf_1 : decode cX12_sumOf 1 = .ok (.istore 8, 2) := by decide +kernel
theorem dX12_sumOf_3 : decode cX12_sumOf 3 = .ok (.iload 8, 2) := by decide +kernel
theorem dX12_sumOf_5 : decode cX12_sumOf 5 = .ok (.aload_n 0, 1) := by decide +kernel
theorem dX12_sumOf_6 : decode cX12_sumOf 6 = .ok (.getfield 121, 3) := by decide +kernel
theorem dX12_sumOf_9 : decode cX12_sumOf 9 = .ok (.if_icmp .ge 58, 3) := by decide +kernel
theorem dX12_sumOf_12 : decode cX12_sumOf 12 = .ok (.aload_n 0, 1) := by decide +kernel
theorem dX12_sumOf_13 : decode cX12_sumOf 13 = .ok (.getfield 40, 3) := by decide +kernel
theorem dX12_sumOf_16 : decode cX12_sumOf 16 = .ok (.bipush 10, 2) := by decide +kernel
theorem dX12_sumOf_18 : decode cX12_sumOf 18 = .ok (.iload 8, 2) := by decide +kernel
theorem dX12_sumOf_20 : decode cX12_sumOf 20 = .ok (.iadd, 1) := by decide +kernel
theorem dX12_sumOf_21 : decode cX12_sumOf 21 = .ok (.aload_n 0, 1) := by decide +kernel
theorem dX12_sumOf_22 : decode cX12_sumOf 22 = .ok (.getfield 25, 3) := by decide +kernel
theorem dX12_sumOf_25 : decode cX12_sumOf 25 = .ok (.iload 8, 2) := by decide +kernel
theorem dX12_sumOf_27 : decode cX12_sumOf 27 = .ok (.iaload, 1) := by decide +kernel
theorem dX12_sumOf_28 : decode cX12_sumOf 28 = .ok (.iastore, 1) := by decide +kernel
theorem dX12_sumOf_29 : decode cX12_sumOf 29 = .ok (.aload_n 0, 1) := by decide +kernel
theorem dX12_sumOf_30 : decode cX12_sumOf 30 = .ok (.getfield 49, 3) := by decide +kernel
theorem dX12_sumOf_33 : decode cX12_sumOf 33 = .ok (.iload 8, 2) := by decide +kernel
theorem dX12_sumOf_35 : decode cX12_sumOf 35 = .ok (.iload 8, 2) := by decide +kernel
theorem dX12_sumOf_37 : decode cX12_sumOf 37 = .ok (.iload 4, 2) := by decide +kernel
theorem dX12_sumOf_39 : decode cX12_sumOf 39 = .ok (.if_icmp .ne 8, 3) := by decide +kernel
theorem dX12_sumOf_42 : decode cX12_sumOf 42 = .ok (.iload 5, 2) := by decide +kernel
theorem dX12_sumOf_44 : decode cX12_sumOf 44 = .ok (.goto 16, 3) := by decide +kernel
theorem dX12_sumOf_47 : decode cX12_sumOf 47 = .ok (.iload 8, 2) := by decide +kernel
theorem dX12_sumOf_49 : decode cX12_sumOf 49 = .ok (.iload 6, 2) := by decide +kernel
theorem dX12_sumOf_51 : decode cX12_sumOf 51 = .ok (.if_icmp .ne 8, 3) := by decide +kernel
theorem dX12_sumOf_54 : decode cX12_sumOf 54 = .ok (.iload 7, 2) := by decide +kernel
theorem dX12_sumOf_56 : decode cX12_sumOf 56 = .ok (.goto 4, 3) := by decide +kernel
theorem dX12_sumOf_59 : decode cX12_sumOf 59 = .ok (.iconst 0, 1) := by decide +kernel
theorem dX12_sumOf_60 : decode cX12_sumOf 60 = .ok (.iastore, 1) := by decide +kernel
theorem dX12_sumOf_61 : decode cX12_sumOf 61 = .ok (.iinc 8 1, 3) := by decide +kernel
theorem dX12_sumOf_64 : decode cX12_sumOf 64 = .ok (.goto (-61), 3) := by decide +kernel
theorem dX12_sumOf_67 : decode cX12_sumOf 67 = .ok (.aload_n 0, 1) := by decide +kernel
theorem dX12_sumOf_68 : decode cX12_sumOf 68 = .ok (.iconst 0, 1) := by decide +kernel
theorem dX12_sumOf_69 : decode cX12_sumOf 69 = .ok (.putfield 148, 3) := by decide +kernel
theorem dX12_sumOf_72 : decode cX12_sumOf 72 = .ok (.iconst 0, 1) := by decide +kernel
theorem dX12_sumOf_73 : decode cX12_sumOf 73 = .ok (.istore 8, 2) := by decide +kernel
theorem dX12_sumOf_75 : decode cX12_sumOf 75 = .ok (.iload 8, 2) := by decide +kernel
theorem dX12_sumOf_77 : decode cX12_sumOf 77 = .ok (.sipush 300, 3) := by decide +kernel
theorem dX12_sumOf_80 : decode cX12_sumOf 80 = .ok (.if_icmp .ge 34, 3) := by decide +kernel
theorem dX12_sumOf_83 : decode cX12_sumOf 83 = .ok (.aload_n 0, 1) := by decide +kernel
theorem dX12_sumOf_84 : decode cX12_sumOf 84 = .ok (.iconst 1, 1) := by decide +kernel
theorem dX12_sumOf_85 : decode cX12_sumOf 85 = .ok (.iload_n 1, 1) := by decide +kernel
theorem dX12_sumOf_86 : decode cX12_sumOf 86 = .ok (.aload_n 0, 1) := by decide +kernel
theorem dX12_sumOf_87 : decode cX12_sumOf 87 = .ok (.getfield 128, 3) := by decide +kernel
theorem dX12_sumOf_90 : decode cX12_sumOf 90 = .ok (.iload_n 2, 1) := by decide +kernel
theorem dX12_sumOf_91 : decode cX12_sumOf 91 = .ok (.iload_n 3, 1) := by decide +kernel
theorem dX12_sumOf_92 : decode cX12_sumOf 92 = .ok (.iload 8, 2) := by decide +kernel
theorem dX12_sumOf_94 : decode cX12_sumOf 94 = .ok (.invokevirtual 151, 3) := by decide +kernel
theorem dX12_sumOf_97 : decode cX12_sumOf 97 = .ok (.aload_n 0, 1) := by decide +kernel
theorem dX12_sumOf_98 : decode cX12_sumOf 98 = .ok (.getfield 89, 3) := by decide +kernel
theorem dX12_sumOf_101 : decode cX12_sumOf 101 = .ok (.iload 8, 2) := by decide +kernel
theorem dX12_sumOf_103 : decode cX12_sumOf 103 = .ok (.aload_n 0, 1) := by decide +kernel
theorem dX12_sumOf_104 : decode cX12_sumOf 104 = .ok (.getfield 148, 3) := by decide +kernel
theorem dX12_sumOf_107 : decode cX12_sumOf 107 = .ok (.iastore, 1) := by decide +kernel
theorem dX12_sumOf_108 : decode cX12_sumOf 108 = .ok (.iinc 8 1, 3) := by decide +kernel
theorem dX12_sumOf_111 : decode cX12_sumOf 111 = .ok (.goto (-36), 3) := by decide +kernel
theorem dX12_sumOf_114 : decode cX12_sumOf 114 = .ok (.iconst 0, 1) := by decide +kernel
theorem dX12_sumOf_115 : decode cX12_sumOf 115 = .ok (.istore 8, 2) := by decide +kernel
theorem dX12_sumOf_117 : decode cX12_sumOf 117 = .ok (.iconst 0, 1) := by decide +kernel
theorem dX12_sumOf_118 : decode cX12_sumOf 118 = .ok (.istore 9, 2) := by decide +kernel
theorem dX12_sumOf_120 : decode cX12_sumOf 120 = .ok (.iload 9, 2) := by decide +kernel
theorem dX12_sumOf_122 : decode cX12_sumOf 122 = .ok (.aload_n 0, 1) := by decide +kernel
theorem dX12_sumOf_123 : decode cX12_sumOf 123 = .ok (.getfield 227, 3) := by decide +kernel
theorem dX12_sumOf_126 : decode cX12_sumOf 126 = .ok (.if_icmp .ge 50, 3) := by decide +kernel
theorem dX12_sumOf_129 : decode cX12_sumOf 129 = .ok (.aload_n 0, 1) := by decide +kernel
theorem dX12_sumOf_130 : decode cX12_sumOf 130 = .ok (.getfield 89, 3) := by decide +kernel
theorem dX12_sumOf_133 : decode cX12_sumOf 133 = .ok (.aload_n 0, 1) := by decide +kernel
theorem dX12_sumOf_134 : decode cX12_sumOf 134 = .ok (.getfield 83, 3) := by decide +kernel
theorem dX12_sumOf_137 : decode cX12_sumOf 137 = .ok (.iload 9, 2) := by decide +kernel
theorem dX12_sumOf_139 : decode cX12_sumOf 139 = .ok (.iaload, 1) := by decide +kernel
theorem dX12_sumOf_140 : decode cX12_sumOf 140 = .ok (.iaload, 1) := by decide +kernel
theorem dX12_sumOf_141 : decode cX12_sumOf 141 = .ok (.aload_n 0, 1) := by decide +kernel
theorem dX12_sumOf_142 : decode cX12_sumOf 142 = .ok (.getfield 86, 3) := by decide +kernel
theorem dX12_sumOf_145 : decode cX12_sumOf 145 = .ok (.iload 9, 2) := by decide +kernel
theorem dX12_sumOf_147 : decode cX12_sumOf 147 = .ok (.iaload, 1) := by decide +kernel
theorem dX12_sumOf_148 : decode cX12_sumOf 148 = .ok (.isub, 1) := by decide +kernel
theorem dX12_sumOf_149 : decode cX12_sumOf 149 = .ok (.istore 10, 2) := by decide +kernel
theorem dX12_sumOf_151 : decode cX12_sumOf 151 = .ok (.iload 8, 2) := by decide +kernel
theorem dX12_sumOf_153 : decode cX12_sumOf 153 = .ok (.iload 10, 2) := by decide +kernel
theorem dX12_sumOf_155 : decode cX12_sumOf 155 = .ok (.ifCond .ge 10, 3) := by decide +kernel
theorem dX12_sumOf_158 : decode cX12_sumOf 158 = .ok (.iconst 0, 1) := by decide +kernel
theorem dX12_sumOf_159 : decode cX12_sumOf 159 = .ok (.iload 10, 2) := by decide +kernel
theorem dX12_sumOf_161 : decode cX12_sumOf 161 = .ok (.isub, 1) := by decide +kernel
theorem dX12_sumOf_162 : decode cX12_sumOf 162 = .ok (.goto 5, 3) := by decide +kernel
theorem dX12_sumOf_165 : decode cX12_sumOf 165 = .ok (.iload 10, 2) := by decide +kernel
theorem dX12_sumOf_167 : decode cX12_sumOf 167 = .ok (.iadd, 1) := by decide +kernel
theorem dX12_sumOf_168 : decode cX12_sumOf 168 = .ok (.istore 8, 2) := by decide +kernel
theorem dX12_sumOf_170 : decode cX12_sumOf 170 = .ok (.iinc 9 1, 3) := by decide +kernel
theorem dX12_sumOf_173 : decode cX12_sumOf 173 = .ok (.goto (-53), 3) := by decide +kernel
theorem dX12_sumOf_176 : decode cX12_sumOf 176 = .ok (.iload 8, 2) := by decide +kernel
theorem dX12_sumOf_178 : decode cX12_sumOf 178 = .ok (.ireturn, 1) := by decide +kernel
theorem dX12_task_0 : decode cX12_task 0 = .ok (.iload_n 1, 1) := by decide +kernel
theorem dX12_task_1 : decode cX12_task 1 = .ok (.iload_n 2, 1) := by decide +kernel
theorem dX12_task_2 : decode cX12_task 2 = .ok (.iload_n 3, 1) := by decide +kernel
theorem dX12_task_3 : decode cX12_task 3 = .ok (.invokestatic 166, 3) := by decide +kernel
theorem dX12_task_6 : decode cX12_task 6 = .ok (.ifCond .ne 6, 3) := by decide +kernel
theorem dX12_task_9 : decode cX12_task 9 = .ok (.bipush (-2), 2) := by decide +kernel
theorem dX12_task_11 : decode cX12_task 11 = .ok (.ireturn, 1) := by decide +kernel
theorem dX12_task_12 : decode cX12_task 12 = .ok (.aload_n 0, 1) := by decide +kernel
theorem dX12_task_13 : decode cX12_task 13 = .ok (.getfield 174, 3) := by decide +kernel
theorem dX12_task_16 : decode cX12_task 16 = .ok (.iconst 4, 1) := by decide +kernel
theorem dX12_task_17 : decode cX12_task 17 = .ok (.if_icmp .ne 6, 3) := by decide +kernel
theorem dX12_task_20 : decode cX12_task 20 = .ok (.bipush (-4), 2) := by decide +kernel
theorem dX12_task_22 : decode cX12_task 22 = .ok (.ireturn, 1) := by decide +kernel
theorem dX12_task_23 : decode cX12_task 23 = .ok (.aload_n 0, 1) := by decide +kernel
theorem dX12_task_24 : decode cX12_task 24 = .ok (.getfield 52, 3) := by decide +kernel
theorem dX12_task_27 : decode cX12_task 27 = .ok (.aload_n 0, 1) := by decide +kernel
theorem dX12_task_28 : decode cX12_task 28 = .ok (.getfield 174, 3) := by decide +kernel
theorem dX12_task_31 : decode cX12_task 31 = .ok (.iload_n 1, 1) := by decide +kernel
theorem dX12_task_32 : decode cX12_task 32 = .ok (.iastore, 1) := by decide +kernel
theorem dX12_task_33 : decode cX12_task 33 = .ok (.aload_n 0, 1) := by decide +kernel
theorem dX12_task_34 : decode cX12_task 34 = .ok (.getfield 55, 3) := by decide +kernel
theorem dX12_task_37 : decode cX12_task 37 = .ok (.aload_n 0, 1) := by decide +kernel
theorem dX12_task_38 : decode cX12_task 38 = .ok (.getfield 174, 3) := by decide +kernel
theorem dX12_task_41 : decode cX12_task 41 = .ok (.iload_n 2, 1) := by decide +kernel
theorem dX12_task_42 : decode cX12_task 42 = .ok (.iastore, 1) := by decide +kernel
theorem dX12_task_43 : decode cX12_task 43 = .ok (.aload_n 0, 1) := by decide +kernel
theorem dX12_task_44 : decode cX12_task 44 = .ok (.getfield 58, 3) := by decide +kernel
theorem dX12_task_47 : decode cX12_task 47 = .ok (.aload_n 0, 1) := by decide +kernel
theorem dX12_task_48 : decode cX12_task 48 = .ok (.getfield 174, 3) := by decide +kernel
theorem dX12_task_51 : decode cX12_task 51 = .ok (.iload_n 3, 1) := by decide +kernel
theorem dX12_task_52 : decode cX12_task 52 = .ok (.iastore, 1) := by decide +kernel
theorem dX12_task_53 : decode cX12_task 53 = .ok (.aload_n 0, 1) := by decide +kernel
theorem dX12_task_54 : decode cX12_task 54 = .ok (.dup, 1) := by decide +kernel
theorem dX12_task_55 : decode cX12_task 55 = .ok (.getfield 174, 3) := by decide +kernel
theorem dX12_task_58 : decode cX12_task 58 = .ok (.iconst 1, 1) := by decide +kernel
theorem dX12_task_59 : decode cX12_task 59 = .ok (.iadd, 1) := by decide +kernel
theorem dX12_task_60 : decode cX12_task 60 = .ok (.putfield 174, 3) := by decide +kernel
theorem dX12_task_63 : decode cX12_task 63 = .ok (.aload_n 0, 1) := by decide +kernel
theorem dX12_task_64 : decode cX12_task 64 = .ok (.getfield 174, 3) := by decide +kernel
theorem dX12_task_67 : decode cX12_task 67 = .ok (.iconst 1, 1) := by decide +kernel
theorem dX12_task_68 : decode cX12_task 68 = .ok (.isub, 1) := by decide +kernel
theorem dX12_task_69 : decode cX12_task 69 = .ok (.ireturn, 1) := by decide +kernel
theorem dX12_tree_0 : decode cX12_tree 0 = .ok (.aload_n 0, 1) := by decide +kernel
theorem dX12_tree_1 : decode cX12_tree 1 = .ok (.invokevirtual 265, 3) := by decide +kernel
theorem dX12_tree_4 : decode cX12_tree 4 = .ok (.aload_n 0, 1) := by decide +kernel
theorem dX12_tree_5 : decode cX12_tree 5 = .ok (.getfield 262, 3) := by decide +kernel
theorem dX12_tree_8 : decode cX12_tree 8 = .ok (.ireturn, 1) := by decide +kernel
theorem dX12_tryTwo_0 : decode cX12_tryTwo 0 = .ok (.iload 6, 2) := by decide +kernel
theorem dX12_tryTwo_2 : decode cX12_tryTwo 2 = .ok (.istore 7, 2) := by decide +kernel
theorem dX12_tryTwo_4 : decode cX12_tryTwo 4 = .ok (.iconst 0, 1) := by decide +kernel
theorem dX12_tryTwo_5 : decode cX12_tryTwo 5 = .ok (.istore 8, 2) := by decide +kernel
theorem dX12_tryTwo_7 : decode cX12_tryTwo 7 = .ok (.iload 8, 2) := by decide +kernel
theorem dX12_tryTwo_9 : decode cX12_tryTwo 9 = .ok (.bipush 9, 2) := by decide +kernel
theorem dX12_tryTwo_11 : decode cX12_tryTwo 11 = .ok (.if_icmp .ge 82, 3) := by decide +kernel
theorem dX12_tryTwo_14 : decode cX12_tryTwo 14 = .ok (.aload_n 0, 1) := by decide +kernel
theorem dX12_tryTwo_15 : decode cX12_tryTwo 15 = .ok (.iload_n 1, 1) := by decide +kernel
theorem dX12_tryTwo_16 : decode cX12_tryTwo 16 = .ok (.iload_n 2, 1) := by decide +kernel
theorem dX12_tryTwo_17 : decode cX12_tryTwo 17 = .ok (.iload_n 3, 1) := by decide +kernel
theorem dX12_tryTwo_18 : decode cX12_tryTwo 18 = .ok (.iload 4, 2) := by decide +kernel
theorem dX12_tryTwo_20 : decode cX12_tryTwo 20 = .ok (.iconst 1, 1) := by decide +kernel
theorem dX12_tryTwo_21 : decode cX12_tryTwo 21 = .ok (.iload 8, 2) := by decide +kernel
theorem dX12_tryTwo_23 : decode cX12_tryTwo 23 = .ok (.iconst 3, 1) := by decide +kernel
theorem dX12_tryTwo_24 : decode cX12_tryTwo 24 = .ok (.idiv, 1) := by decide +kernel
theorem dX12_tryTwo_25 : decode cX12_tryTwo 25 = .ok (.iadd, 1) := by decide +kernel
theorem dX12_tryTwo_26 : decode cX12_tryTwo 26 = .ok (.iload 5, 2) := by decide +kernel
theorem dX12_tryTwo_28 : decode cX12_tryTwo 28 = .ok (.iconst 1, 1) := by decide +kernel
theorem dX12_tryTwo_29 : decode cX12_tryTwo 29 = .ok (.iload 8, 2) := by decide +kernel
theorem dX12_tryTwo_31 : decode cX12_tryTwo 31 = .ok (.iconst 3, 1) := by decide +kernel
theorem dX12_tryTwo_32 : decode cX12_tryTwo 32 = .ok (.irem, 1) := by decide +kernel
theorem dX12_tryTwo_33 : decode cX12_tryTwo 33 = .ok (.iadd, 1) := by decide +kernel
theorem dX12_tryTwo_34 : decode cX12_tryTwo 34 = .ok (.invokevirtual 230, 3) := by decide +kernel
theorem dX12_tryTwo_37 : decode cX12_tryTwo 37 = .ok (.istore 9, 2) := by decide +kernel
theorem dX12_tryTwo_39 : decode cX12_tryTwo 39 = .ok (.iload 7, 2) := by decide +kernel
theorem dX12_tryTwo_41 : decode cX12_tryTwo 41 = .ok (.ifCond .lt 10, 3) := by decide +kernel
theorem dX12_tryTwo_44 : decode cX12_tryTwo 44 = .ok (.iload 9, 2) := by decide +kernel
theorem dX12_tryTwo_46 : decode cX12_tryTwo 46 = .ok (.iload 7, 2) := by decide +kernel
theorem dX12_tryTwo_48 : decode cX12_tryTwo 48 = .ok (.if_icmp .ge 39, 3) := by decide +kernel
theorem dX12_tryTwo_51 : decode cX12_tryTwo 51 = .ok (.iload 9, 2) := by decide +kernel
theorem dX12_tryTwo_53 : decode cX12_tryTwo 53 = .ok (.istore 7, 2) := by decide +kernel
theorem dX12_tryTwo_55 : decode cX12_tryTwo 55 = .ok (.aload_n 0, 1) := by decide +kernel
theorem dX12_tryTwo_56 : decode cX12_tryTwo 56 = .ok (.iload 4, 2) := by decide +kernel
theorem dX12_tryTwo_58 : decode cX12_tryTwo 58 = .ok (.putfield 234, 3) := by decide +kernel
theorem dX12_tryTwo_61 : decode cX12_tryTwo 61 = .ok (.aload_n 0, 1) := by decide +kernel
theorem dX12_tryTwo_62 : decode cX12_tryTwo 62 = .ok (.iload 5, 2) := by decide +kernel
theorem dX12_tryTwo_64 : decode cX12_tryTwo 64 = .ok (.putfield 243, 3) := by decide +kernel
theorem dX12_tryTwo_67 : decode cX12_tryTwo 67 = .ok (.aload_n 0, 1) := by decide +kernel
theorem dX12_tryTwo_68 : decode cX12_tryTwo 68 = .ok (.iconst 1, 1) := by decide +kernel
theorem dX12_tryTwo_69 : decode cX12_tryTwo 69 = .ok (.iload 8, 2) := by decide +kernel
theorem dX12_tryTwo_71 : decode cX12_tryTwo 71 = .ok (.iconst 3, 1) := by decide +kernel
theorem dX12_tryTwo_72 : decode cX12_tryTwo 72 = .ok (.idiv, 1) := by decide +kernel
theorem dX12_tryTwo_73 : decode cX12_tryTwo 73 = .ok (.iadd, 1) := by decide +kernel
theorem dX12_tryTwo_74 : decode cX12_tryTwo 74 = .ok (.putfield 237, 3) := by decide +kernel
theorem dX12_tryTwo_77 : decode cX12_tryTwo 77 = .ok (.aload_n 0, 1) := by decide +kernel
theorem dX12_tryTwo_78 : decode cX12_tryTwo 78 = .ok (.iconst 1, 1) := by decide +kernel
theorem dX12_tryTwo_79 : decode cX12_tryTwo 79 = .ok (.iload 8, 2) := by decide +kernel
theorem dX12_tryTwo_81 : decode cX12_tryTwo 81 = .ok (.iconst 3, 1) := by decide +kernel
theorem dX12_tryTwo_82 : decode cX12_tryTwo 82 = .ok (.irem, 1) := by decide +kernel
theorem dX12_tryTwo_83 : decode cX12_tryTwo 83 = .ok (.iadd, 1) := by decide +kernel
theorem dX12_tryTwo_84 : decode cX12_tryTwo 84 = .ok (.putfield 246, 3) := by decide +kernel
theorem dX12_tryTwo_87 : decode cX12_tryTwo 87 = .ok (.iinc 8 1, 3) := by decide +kernel
theorem dX12_tryTwo_90 : decode cX12_tryTwo 90 = .ok (.goto (-83), 3) := by decide +kernel
theorem dX12_tryTwo_93 : decode cX12_tryTwo 93 = .ok (.iload 7, 2) := by decide +kernel
theorem dX12_tryTwo_95 : decode cX12_tryTwo 95 = .ok (.ireturn, 1) := by decide +kernel
theorem dX12_two_0 : decode cX12_two 0 = .ok (.aload_n 0, 1) := by decide +kernel
theorem dX12_two_1 : decode cX12_two 1 = .ok (.iload_n 1, 1) := by decide +kernel
theorem dX12_two_2 : decode cX12_two 2 = .ok (.invokevirtual 111, 3) := by decide +kernel
theorem dX12_two_5 : decode cX12_two 5 = .ok (.ifCond .ne 25, 3) := by decide +kernel
theorem dX12_two_8 : decode cX12_two 8 = .ok (.iconst 1, 1) := by decide +kernel
theorem dX12_two_9 : decode cX12_two 9 = .ok (.iload_n 2, 1) := by decide +kernel
theorem dX12_two_10 : decode cX12_two 10 = .ok (.iload_n 3, 1) := by decide +kernel
theorem dX12_two_11 : decode cX12_two 11 = .ok (.invokestatic 166, 3) := by decide +kernel
theorem dX12_two_14 : decode cX12_two 14 = .ok (.ifCond .eq 16, 3) := by decide +kernel
theorem dX12_two_17 : decode cX12_two 17 = .ok (.iload 4, 2) := by decide +kernel
theorem dX12_two_19 : decode cX12_two 19 = .ok (.i2l, 1) := by decide +kernel
theorem dX12_two_20 : decode cX12_two 20 = .ok (.lconst 0, 1) := by decide +kernel
theorem dX12_two_21 : decode cX12_two 21 = .ok (.ldc2_w 249, 3) := by decide +kernel
theorem dX12_two_24 : decode cX12_two 24 = .ok (.invokestatic 100, 3) := by decide +kernel
theorem dX12_two_27 : decode cX12_two 27 = .ok (.ifCond .ne 6, 3) := by decide +kernel
theorem dX12_two_30 : decode cX12_two 30 = .ok (.bipush (-2), 2) := by decide +kernel
theorem dX12_two_32 : decode cX12_two 32 = .ok (.ireturn, 1) := by decide +kernel
theorem dX12_two_33 : decode cX12_two 33 = .ok (.iconst (-1), 1) := by decide +kernel
theorem dX12_two_34 : decode cX12_two 34 = .ok (.istore 5, 2) := by decide +kernel
theorem dX12_two_36 : decode cX12_two 36 = .ok (.iconst 0, 1) := by decide +kernel
theorem dX12_two_37 : decode cX12_two 37 = .ok (.istore 6, 2) := by decide +kernel
theorem dX12_two_39 : decode cX12_two 39 = .ok (.iload 6, 2) := by decide +kernel
theorem dX12_two_41 : decode cX12_two 41 = .ok (.aload_n 0, 1) := by decide +kernel
theorem dX12_two_42 : decode cX12_two 42 = .ok (.getfield 121, 3) := by decide +kernel
theorem dX12_two_45 : decode cX12_two 45 = .ok (.if_icmp .ge 68, 3) := by decide +kernel
theorem dX12_two_48 : decode cX12_two 48 = .ok (.iload 6, 2) := by decide +kernel
theorem dX12_two_50 : decode cX12_two 50 = .ok (.iconst 1, 1) := by decide +kernel
theorem dX12_two_51 : decode cX12_two 51 = .ok (.iadd, 1) := by decide +kernel
theorem dX12_two_52 : decode cX12_two 52 = .ok (.istore 7, 2) := by decide +kernel
theorem dX12_two_54 : decode cX12_two 54 = .ok (.iload 7, 2) := by decide +kernel
theorem dX12_two_56 : decode cX12_two 56 = .ok (.aload_n 0, 1) := by decide +kernel
theorem dX12_two_57 : decode cX12_two 57 = .ok (.getfield 121, 3) := by decide +kernel
theorem dX12_two_60 : decode cX12_two 60 = .ok (.if_icmp .ge 47, 3) := by decide +kernel
theorem dX12_two_63 : decode cX12_two 63 = .ok (.aload_n 0, 1) := by decide +kernel
theorem dX12_two_64 : decode cX12_two 64 = .ok (.iload 6, 2) := by decide +kernel
theorem dX12_two_66 : decode cX12_two 66 = .ok (.invokevirtual 240, 3) := by decide +kernel
theorem dX12_two_69 : decode cX12_two 69 = .ok (.ifCond .eq 28, 3) := by decide +kernel
theorem dX12_two_72 : decode cX12_two 72 = .ok (.aload_n 0, 1) := by decide +kernel
theorem dX12_two_73 : decode cX12_two 73 = .ok (.iload 7, 2) := by decide +kernel
theorem dX12_two_75 : decode cX12_two 75 = .ok (.invokevirtual 240, 3) := by decide +kernel
theorem dX12_two_78 : decode cX12_two 78 = .ok (.ifCond .eq 19, 3) := by decide +kernel
theorem dX12_two_81 : decode cX12_two 81 = .ok (.aload_n 0, 1) := by decide +kernel
theorem dX12_two_82 : decode cX12_two 82 = .ok (.iload_n 1, 1) := by decide +kernel
theorem dX12_two_83 : decode cX12_two 83 = .ok (.iload_n 2, 1) := by decide +kernel
theorem dX12_two_84 : decode cX12_two 84 = .ok (.iload_n 3, 1) := by decide +kernel
theorem dX12_two_85 : decode cX12_two 85 = .ok (.iload 6, 2) := by decide +kernel
theorem dX12_two_87 : decode cX12_two 87 = .ok (.iload 7, 2) := by decide +kernel
theorem dX12_two_89 : decode cX12_two 89 = .ok (.iload 5, 2) := by decide +kernel
theorem dX12_two_91 : decode cX12_two 91 = .ok (.invokevirtual 251, 3) := by decide +kernel
theorem dX12_two_94 : decode cX12_two 94 = .ok (.goto 5, 3) := by decide +kernel
theorem dX12_two_97 : decode cX12_two 97 = .ok (.iload 5, 2) := by decide +kernel
theorem dX12_two_99 : decode cX12_two 99 = .ok (.istore 5, 2) := by decide +kernel
theorem dX12_two_101 : decode cX12_two 101 = .ok (.iinc 7 1, 3) := by decide +kernel
theorem dX12_two_104 : decode cX12_two 104 = .ok (.goto (-50), 3) := by decide +kernel
theorem dX12_two_107 : decode cX12_two 107 = .ok (.iinc 6 1, 3) := by decide +kernel
theorem dX12_two_110 : decode cX12_two 110 = .ok (.goto (-71), 3) := by decide +kernel
theorem dX12_two_113 : decode cX12_two 113 = .ok (.iload 5, 2) := by decide +kernel
theorem dX12_two_115 : decode cX12_two 115 = .ok (.ifCond .ge 7, 3) := by decide +kernel
theorem dX12_two_118 : decode cX12_two 118 = .ok (.iconst (-1), 1) := by decide +kernel
theorem dX12_two_119 : decode cX12_two 119 = .ok (.goto 56, 3) := by decide +kernel
theorem dX12_two_122 : decode cX12_two 122 = .ok (.iload 4, 2) := by decide +kernel
theorem dX12_two_124 : decode cX12_two 124 = .ok (.ifCond .ne 10, 3) := by decide +kernel
theorem dX12_two_127 : decode cX12_two 127 = .ok (.aload_n 0, 1) := by decide +kernel
theorem dX12_two_128 : decode cX12_two 128 = .ok (.getfield 234, 3) := by decide +kernel
theorem dX12_two_131 : decode cX12_two 131 = .ok (.goto 44, 3) := by decide +kernel
theorem dX12_two_134 : decode cX12_two 134 = .ok (.iload 4, 2) := by decide +kernel
theorem dX12_two_136 : decode cX12_two 136 = .ok (.iconst 1, 1) := by decide +kernel
theorem dX12_two_137 : decode cX12_two 137 = .ok (.if_icmp .ne 10, 3) := by decide +kernel
theorem dX12_two_140 : decode cX12_two 140 = .ok (.aload_n 0, 1) := by decide +kernel
theorem dX12_two_141 : decode cX12_two 141 = .ok (.getfield 243, 3) := by decide +kernel
theorem dX12_two_144 : decode cX12_two 144 = .ok (.goto 31, 3) := by decide +kernel
theorem dX12_two_147 : decode cX12_two 147 = .ok (.iload 4, 2) := by decide +kernel
theorem dX12_two_149 : decode cX12_two 149 = .ok (.iconst 2, 1) := by decide +kernel
theorem dX12_two_150 : decode cX12_two 150 = .ok (.if_icmp .ne 10, 3) := by decide +kernel
theorem dX12_two_153 : decode cX12_two 153 = .ok (.aload_n 0, 1) := by decide +kernel
theorem dX12_two_154 : decode cX12_two 154 = .ok (.getfield 237, 3) := by decide +kernel
theorem dX12_two_157 : decode cX12_two 157 = .ok (.goto 18, 3) := by decide +kernel
theorem dX12_two_160 : decode cX12_two 160 = .ok (.iload 4, 2) := by decide +kernel
theorem dX12_two_162 : decode cX12_two 162 = .ok (.iconst 3, 1) := by decide +kernel
theorem dX12_two_163 : decode cX12_two 163 = .ok (.if_icmp .ne 10, 3) := by decide +kernel
theorem dX12_two_166 : decode cX12_two 166 = .ok (.aload_n 0, 1) := by decide +kernel
theorem dX12_two_167 : decode cX12_two 167 = .ok (.getfield 246, 3) := by decide +kernel
theorem dX12_two_170 : decode cX12_two 170 = .ok (.goto 5, 3) := by decide +kernel
theorem dX12_two_173 : decode cX12_two 173 = .ok (.iload 5, 2) := by decide +kernel
theorem dX12_two_175 : decode cX12_two 175 = .ok (.ireturn, 1) := by decide +kernel
theorem dX12_who_0 : decode cX12_who 0 = .ok (.aload_n 0, 1) := by decide +kernel
theorem dX12_who_1 : decode cX12_who 1 = .ok (.iload_n 1, 1) := by decide +kernel
theorem dX12_who_2 : decode cX12_who 2 = .ok (.invokevirtual 111, 3) := by decide +kernel
theorem dX12_who_5 : decode cX12_who 5 = .ok (.ifCond .ne 25, 3) := by decide +kernel
theorem dX12_who_8 : decode cX12_who 8 = .ok (.iconst 1, 1) := by decide +kernel
theorem dX12_who_9 : decode cX12_who 9 = .ok (.iload_n 2, 1) := by decide +kernel
theorem dX12_who_10 : decode cX12_who 10 = .ok (.iload_n 3, 1) := by decide +kernel
theorem dX12_who_11 : decode cX12_who 11 = .ok (.invokestatic 166, 3) := by decide +kernel
theorem dX12_who_14 : decode cX12_who 14 = .ok (.ifCond .eq 16, 3) := by decide +kernel
theorem dX12_who_17 : decode cX12_who 17 = .ok (.iload 4, 2) := by decide +kernel
theorem dX12_who_19 : decode cX12_who 19 = .ok (.i2l, 1) := by decide +kernel
theorem dX12_who_20 : decode cX12_who 20 = .ok (.lconst 0, 1) := by decide +kernel
theorem dX12_who_21 : decode cX12_who 21 = .ok (.ldc2_w 190, 3) := by decide +kernel
theorem dX12_who_24 : decode cX12_who 24 = .ok (.invokestatic 100, 3) := by decide +kernel
theorem dX12_who_27 : decode cX12_who 27 = .ok (.ifCond .ne 6, 3) := by decide +kernel
theorem dX12_who_30 : decode cX12_who 30 = .ok (.bipush (-2), 2) := by decide +kernel
theorem dX12_who_32 : decode cX12_who 32 = .ok (.ireturn, 1) := by decide +kernel
theorem dX12_who_33 : decode cX12_who 33 = .ok (.aload_n 0, 1) := by decide +kernel
theorem dX12_who_34 : decode cX12_who 34 = .ok (.iload_n 1, 1) := by decide +kernel
theorem dX12_who_35 : decode cX12_who 35 = .ok (.iload_n 2, 1) := by decide +kernel
theorem dX12_who_36 : decode cX12_who 36 = .ok (.iload_n 3, 1) := by decide +kernel
theorem dX12_who_37 : decode cX12_who 37 = .ok (.iconst (-1), 1) := by decide +kernel
theorem dX12_who_38 : decode cX12_who 38 = .ok (.iconst 0, 1) := by decide +kernel
theorem dX12_who_39 : decode cX12_who 39 = .ok (.iconst (-1), 1) := by decide +kernel
theorem dX12_who_40 : decode cX12_who 40 = .ok (.iconst 0, 1) := by decide +kernel
theorem dX12_who_41 : decode cX12_who 41 = .ok (.invokevirtual 230, 3) := by decide +kernel
theorem dX12_who_44 : decode cX12_who 44 = .ok (.istore 5, 2) := by decide +kernel
theorem dX12_who_46 : decode cX12_who 46 = .ok (.aload_n 0, 1) := by decide +kernel
theorem dX12_who_47 : decode cX12_who 47 = .ok (.iconst (-1), 1) := by decide +kernel
theorem dX12_who_48 : decode cX12_who 48 = .ok (.putfield 234, 3) := by decide +kernel
theorem dX12_who_51 : decode cX12_who 51 = .ok (.aload_n 0, 1) := by decide +kernel
theorem dX12_who_52 : decode cX12_who 52 = .ok (.iconst 0, 1) := by decide +kernel
theorem dX12_who_53 : decode cX12_who 53 = .ok (.putfield 237, 3) := by decide +kernel
theorem dX12_who_56 : decode cX12_who 56 = .ok (.iconst 0, 1) := by decide +kernel
theorem dX12_who_57 : decode cX12_who 57 = .ok (.istore 6, 2) := by decide +kernel
theorem dX12_who_59 : decode cX12_who 59 = .ok (.iload 6, 2) := by decide +kernel
theorem dX12_who_61 : decode cX12_who 61 = .ok (.aload_n 0, 1) := by decide +kernel
theorem dX12_who_62 : decode cX12_who 62 = .ok (.getfield 121, 3) := by decide +kernel
theorem dX12_who_65 : decode cX12_who 65 = .ok (.if_icmp .ge 71, 3) := by decide +kernel
theorem dX12_who_68 : decode cX12_who 68 = .ok (.iconst 1, 1) := by decide +kernel
theorem dX12_who_69 : decode cX12_who 69 = .ok (.istore 7, 2) := by decide +kernel
theorem dX12_who_71 : decode cX12_who 71 = .ok (.iload 7, 2) := by decide +kernel
theorem dX12_who_73 : decode cX12_who 73 = .ok (.iconst 4, 1) := by decide +kernel
theorem dX12_who_74 : decode cX12_who 74 = .ok (.if_icmp .ge 56, 3) := by decide +kernel
theorem dX12_who_77 : decode cX12_who 77 = .ok (.aload_n 0, 1) := by decide +kernel
theorem dX12_who_78 : decode cX12_who 78 = .ok (.iload 6, 2) := by decide +kernel
theorem dX12_who_80 : decode cX12_who 80 = .ok (.invokevirtual 240, 3) := by decide +kernel
theorem dX12_who_83 : decode cX12_who 83 = .ok (.ifCond .eq 47, 3) := by decide +kernel
theorem dX12_who_86 : decode cX12_who 86 = .ok (.aload_n 0, 1) := by decide +kernel
theorem dX12_who_87 : decode cX12_who 87 = .ok (.iload_n 1, 1) := by decide +kernel
theorem dX12_who_88 : decode cX12_who 88 = .ok (.iload_n 2, 1) := by decide +kernel
theorem dX12_who_89 : decode cX12_who 89 = .ok (.iload_n 3, 1) := by decide +kernel
theorem dX12_who_90 : decode cX12_who 90 = .ok (.iload 6, 2) := by decide +kernel
theorem dX12_who_92 : decode cX12_who 92 = .ok (.iload 7, 2) := by decide +kernel
theorem dX12_who_94 : decode cX12_who 94 = .ok (.iconst (-1), 1) := by decide +kernel
theorem dX12_who_95 : decode cX12_who 95 = .ok (.iconst 0, 1) := by decide +kernel
theorem dX12_who_96 : decode cX12_who 96 = .ok (.invokevirtual 230, 3) := by decide +kernel
theorem dX12_who_99 : decode cX12_who 99 = .ok (.istore 8, 2) := by decide +kernel
theorem dX12_who_101 : decode cX12_who 101 = .ok (.iload 8, 2) := by decide +kernel
theorem dX12_who_103 : decode cX12_who 103 = .ok (.iload 5, 2) := by decide +kernel
theorem dX12_who_105 : decode cX12_who 105 = .ok (.if_icmp .ge 19, 3) := by decide +kernel
theorem dX12_who_108 : decode cX12_who 108 = .ok (.iload 8, 2) := by decide +kernel
theorem dX12_who_110 : decode cX12_who 110 = .ok (.istore 5, 2) := by decide +kernel
theorem dX12_who_112 : decode cX12_who 112 = .ok (.aload_n 0, 1) := by decide +kernel
theorem dX12_who_113 : decode cX12_who 113 = .ok (.iload 6, 2) := by decide +kernel
theorem dX12_who_115 : decode cX12_who 115 = .ok (.putfield 234, 3) := by decide +kernel
theorem dX12_who_118 : decode cX12_who 118 = .ok (.aload_n 0, 1) := by decide +kernel
theorem dX12_who_119 : decode cX12_who 119 = .ok (.iload 7, 2) := by decide +kernel
theorem dX12_who_121 : decode cX12_who 121 = .ok (.putfield 237, 3) := by decide +kernel
theorem dX12_who_124 : decode cX12_who 124 = .ok (.iinc 7 1, 3) := by decide +kernel
theorem dX12_who_127 : decode cX12_who 127 = .ok (.goto (-56), 3) := by decide +kernel
theorem dX12_who_130 : decode cX12_who 130 = .ok (.iinc 6 1, 3) := by decide +kernel
theorem dX12_who_133 : decode cX12_who 133 = .ok (.goto (-74), 3) := by decide +kernel
theorem dX12_who_136 : decode cX12_who 136 = .ok (.iload 4, 2) := by decide +kernel
theorem dX12_who_138 : decode cX12_who 138 = .ok (.ifCond .ne 10, 3) := by decide +kernel
theorem dX12_who_141 : decode cX12_who 141 = .ok (.aload_n 0, 1) := by decide +kernel
theorem dX12_who_142 : decode cX12_who 142 = .ok (.getfield 234, 3) := by decide +kernel
theorem dX12_who_145 : decode cX12_who 145 = .ok (.goto 18, 3) := by decide +kernel
theorem dX12_who_148 : decode cX12_who 148 = .ok (.iload 4, 2) := by decide +kernel
theorem dX12_who_150 : decode cX12_who 150 = .ok (.iconst 1, 1) := by decide +kernel
theorem dX12_who_151 : decode cX12_who 151 = .ok (.if_icmp .ne 10, 3) := by decide +kernel
theorem dX12_who_154 : decode cX12_who 154 = .ok (.aload_n 0, 1) := by decide +kernel
theorem dX12_who_155 : decode cX12_who 155 = .ok (.getfield 237, 3) := by decide +kernel
theorem dX12_who_158 : decode cX12_who 158 = .ok (.goto 5, 3) := by decide +kernel
theorem dX12_who_161 : decode cX12_who 161 = .ok (.iload 5, 2) := by decide +kernel
theorem dX12_who_163 : decode cX12_who 163 = .ok (.ireturn, 1) := by decide +kernel
theorem dX12_wipe_0 : decode cX12_wipe 0 = .ok (.aload_n 0, 1) := by decide +kernel
theorem dX12_wipe_1 : decode cX12_wipe 1 = .ok (.getfield 227, 3) := by decide +kernel
theorem dX12_wipe_4 : decode cX12_wipe 4 = .ok (.istore_n 1, 1) := by decide +kernel
theorem dX12_wipe_5 : decode cX12_wipe 5 = .ok (.aload_n 0, 1) := by decide +kernel
theorem dX12_wipe_6 : decode cX12_wipe 6 = .ok (.iconst 0, 1) := by decide +kernel
theorem dX12_wipe_7 : decode cX12_wipe 7 = .ok (.putfield 227, 3) := by decide +kernel
theorem dX12_wipe_10 : decode cX12_wipe 10 = .ok (.iload_n 1, 1) := by decide +kernel
theorem dX12_wipe_11 : decode cX12_wipe 11 = .ok (.ireturn, 1) := by decide +kernel
theorem dX12_won_0 : decode cX12_won 0 = .ok (.iload_n 1, 1) := by decide +kernel
theorem dX12_won_1 : decode cX12_won 1 = .ok (.ifCond .ge 8, 3) := by decide +kernel
theorem dX12_won_4 : decode cX12_won 4 = .ok (.bipush (-2), 2) := by decide +kernel
theorem dX12_won_6 : decode cX12_won 6 = .ok (.goto 21, 3) := by decide +kernel
theorem dX12_won_9 : decode cX12_won 9 = .ok (.iload_n 1, 1) := by decide +kernel
theorem dX12_won_10 : decode cX12_won 10 = .ok (.aload_n 0, 1) := by decide +kernel
theorem dX12_won_11 : decode cX12_won 11 = .ok (.getfield 155, 3) := by decide +kernel
theorem dX12_won_14 : decode cX12_won 14 = .ok (.if_icmp .ge 12, 3) := by decide +kernel
theorem dX12_won_17 : decode cX12_won 17 = .ok (.aload_n 0, 1) := by decide +kernel
theorem dX12_won_18 : decode cX12_won 18 = .ok (.getfield 43, 3) := by decide +kernel
theorem dX12_won_21 : decode cX12_won 21 = .ok (.iload_n 1, 1) := by decide +kernel
theorem dX12_won_22 : decode cX12_won 22 = .ok (.iaload, 1) := by decide +kernel
theorem dX12_won_23 : decode cX12_won 23 = .ok (.goto 4, 3) := by decide +kernel
theorem dX12_won_26 : decode cX12_won 26 = .ok (.iconst (-1), 1) := by decide +kernel
theorem dX12_won_27 : decode cX12_won 27 = .ok (.ireturn, 1) := by decide +kernel
theorem dX12_word_0 : decode cX12_word 0 = .ok (.iload_n 1, 1) := by decide +kernel
theorem dX12_word_1 : decode cX12_word 1 = .ok (.i2l, 1) := by decide +kernel
theorem dX12_word_2 : decode cX12_word 2 = .ok (.lconst 1, 1) := by decide +kernel
theorem dX12_word_3 : decode cX12_word 3 = .ok (.ldc2_w 199, 3) := by decide +kernel
theorem dX12_word_6 : decode cX12_word 6 = .ok (.invokestatic 100, 3) := by decide +kernel
theorem dX12_word_9 : decode cX12_word 9 = .ok (.ifCond .eq 18, 3) := by decide +kernel
theorem dX12_word_12 : decode cX12_word 12 = .ok (.iload_n 2, 1) := by decide +kernel
theorem dX12_word_13 : decode cX12_word 13 = .ok (.i2l, 1) := by decide +kernel
theorem dX12_word_14 : decode cX12_word 14 = .ok (.lconst 0, 1) := by decide +kernel
theorem dX12_word_15 : decode cX12_word 15 = .ok (.iconst 1, 1) := by decide +kernel
theorem dX12_word_16 : decode cX12_word 16 = .ok (.iload_n 1, 1) := by decide +kernel
theorem dX12_word_17 : decode cX12_word 17 = .ok (.ishl, 1) := by decide +kernel
theorem dX12_word_18 : decode cX12_word 18 = .ok (.iconst 1, 1) := by decide +kernel
theorem dX12_word_19 : decode cX12_word 19 = .ok (.isub, 1) := by decide +kernel
theorem dX12_word_20 : decode cX12_word 20 = .ok (.i2l, 1) := by decide +kernel
theorem dX12_word_21 : decode cX12_word 21 = .ok (.invokestatic 100, 3) := by decide +kernel
theorem dX12_word_24 : decode cX12_word 24 = .ok (.ifCond .ne 6, 3) := by decide +kernel
theorem dX12_word_27 : decode cX12_word 27 = .ok (.bipush (-2), 2) := by decide +kernel
theorem dX12_word_29 : decode cX12_word 29 = .ok (.ireturn, 1) := by decide +kernel
theorem dX12_word_30 : decode cX12_word 30 = .ok (.aload_n 0, 1) := by decide +kernel
theorem dX12_word_31 : decode cX12_word 31 = .ok (.getfield 201, 3) := by decide +kernel
theorem dX12_word_34 : decode cX12_word 34 = .ok (.bipush 12, 2) := by decide +kernel
theorem dX12_word_36 : decode cX12_word 36 = .ok (.if_icmp .ne 6, 3) := by decide +kernel
theorem dX12_word_39 : decode cX12_word 39 = .ok (.bipush (-4), 2) := by decide +kernel
theorem dX12_word_41 : decode cX12_word 41 = .ok (.ireturn, 1) := by decide +kernel
theorem dX12_word_42 : decode cX12_word 42 = .ok (.aload_n 0, 1) := by decide +kernel
theorem dX12_word_43 : decode cX12_word 43 = .ok (.getfield 70, 3) := by decide +kernel
theorem dX12_word_46 : decode cX12_word 46 = .ok (.aload_n 0, 1) := by decide +kernel
theorem dX12_word_47 : decode cX12_word 47 = .ok (.getfield 201, 3) := by decide +kernel
theorem dX12_word_50 : decode cX12_word 50 = .ok (.iload_n 1, 1) := by decide +kernel
theorem dX12_word_51 : decode cX12_word 51 = .ok (.iastore, 1) := by decide +kernel
theorem dX12_word_52 : decode cX12_word 52 = .ok (.aload_n 0, 1) := by decide +kernel
theorem dX12_word_53 : decode cX12_word 53 = .ok (.getfield 73, 3) := by decide +kernel
theorem dX12_word_56 : decode cX12_word 56 = .ok (.aload_n 0, 1) := by decide +kernel
theorem dX12_word_57 : decode cX12_word 57 = .ok (.getfield 201, 3) := by decide +kernel
theorem dX12_word_60 : decode cX12_word 60 = .ok (.iload_n 2, 1) := by decide +kernel
theorem dX12_word_61 : decode cX12_word 61 = .ok (.iastore, 1) := by decide +kernel
theorem dX12_word_62 : decode cX12_word 62 = .ok (.aload_n 0, 1) := by decide +kernel
theorem dX12_word_63 : decode cX12_word 63 = .ok (.dup, 1) := by decide +kernel
theorem dX12_word_64 : decode cX12_word 64 = .ok (.getfield 201, 3) := by decide +kernel
theorem dX12_word_67 : decode cX12_word 67 = .ok (.iconst 1, 1) := by decide +kernel
theorem dX12_word_68 : decode cX12_word 68 = .ok (.iadd, 1) := by decide +kernel
theorem dX12_word_69 : decode cX12_word 69 = .ok (.putfield 201, 3) := by decide +kernel
theorem dX12_word_72 : decode cX12_word 72 = .ok (.aload_n 0, 1) := by decide +kernel
theorem dX12_word_73 : decode cX12_word 73 = .ok (.getfield 201, 3) := by decide +kernel
theorem dX12_word_76 : decode cX12_word 76 = .ok (.iconst 1, 1) := by decide +kernel
theorem dX12_word_77 : decode cX12_word 77 = .ok (.isub, 1) := by decide +kernel
theorem dX12_word_78 : decode cX12_word 78 = .ok (.ireturn, 1) := by decide +kernel
theorem dL_law_0 : decode cL_law 0 = .ok (.new 7, 3) := by decide +kernel
theorem dL_law_3 : decode cL_law 3 = .ok (.dup, 1) := by decide +kernel
theorem dL_law_4 : decode cL_law 4 = .ok (.invokespecial 9, 3) := by decide +kernel
theorem dL_law_7 : decode cL_law 7 = .ok (.astore_n 1, 1) := by decide +kernel
theorem dL_law_8 : decode cL_law 8 = .ok (.new 10, 3) := by decide +kernel
theorem dL_law_11 : decode cL_law 11 = .ok (.dup, 1) := by decide +kernel
theorem dL_law_12 : decode cL_law 12 = .ok (.invokespecial 12, 3) := by decide +kernel
theorem dL_law_15 : decode cL_law 15 = .ok (.astore_n 2, 1) := by decide +kernel
theorem dL_law_16 : decode cL_law 16 = .ok (.iconst 0, 1) := by decide +kernel
theorem dL_law_17 : decode cL_law 17 = .ok (.istore_n 3, 1) := by decide +kernel
theorem dL_law_18 : decode cL_law 18 = .ok (.iload_n 3, 1) := by decide +kernel
theorem dL_law_19 : decode cL_law 19 = .ok (.aload_n 0, 1) := by decide +kernel
theorem dL_law_20 : decode cL_law 20 = .ok (.arraylength, 1) := by decide +kernel
theorem dL_law_21 : decode cL_law 21 = .ok (.iconst 5, 1) := by decide +kernel
theorem dL_law_22 : decode cL_law 22 = .ok (.isub, 1) := by decide +kernel
theorem dL_law_23 : decode cL_law 23 = .ok (.if_icmp .gt 1144, 3) := by decide +kernel
theorem dL_law_26 : decode cL_law 26 = .ok (.aload_n 0, 1) := by decide +kernel
theorem dL_law_27 : decode cL_law 27 = .ok (.iload_n 3, 1) := by decide +kernel
theorem dL_law_28 : decode cL_law 28 = .ok (.iaload, 1) := by decide +kernel
theorem dL_law_29 : decode cL_law 29 = .ok (.bipush 63, 2) := by decide +kernel
theorem dL_law_31 : decode cL_law 31 = .ok (.iand, 1) := by decide +kernel
theorem dL_law_32 : decode cL_law 32 = .ok (.tableswitch 1129 0 32 #[148, 171, 184, 197, 220, 253, 306, 339, 362, 385, 408, 431, 484, 507, 530, 573, 596, 609, 632, 685, 718, 742, 815, 838, 871, 904, 917, 970, 1023, 1056, 1079, 1092, 1115], 148) := by decide +kernel
theorem dL_law_180 : decode cL_law 180 = .ok (.aload_n 1, 1) := by decide +kernel
theorem dL_law_181 : decode cL_law 181 = .ok (.aload_n 0, 1) := by decide +kernel
theorem dL_law_182 : decode cL_law 182 = .ok (.iload_n 3, 1) := by decide +kernel
theorem dL_law_183 : decode cL_law 183 = .ok (.iconst 1, 1) := by decide +kernel
theorem dL_law_184 : decode cL_law 184 = .ok (.iadd, 1) := by decide +kernel
theorem dL_law_185 : decode cL_law 185 = .ok (.iaload, 1) := by decide +kernel
theorem dL_law_186 : decode cL_law 186 = .ok (.invokevirtual 13, 3) := by decide +kernel
theorem dL_law_189 : decode cL_law 189 = .ok (.aload_n 2, 1) := by decide +kernel
theorem dL_law_190 : decode cL_law 190 = .ok (.aload_n 0, 1) := by decide +kernel
theorem dL_law_191 : decode cL_law 191 = .ok (.iload_n 3, 1) := by decide +kernel
theorem dL_law_192 : decode cL_law 192 = .ok (.iconst 1, 1) := by decide +kernel
theorem dL_law_193 : decode cL_law 193 = .ok (.iadd, 1) := by decide +kernel
theorem dL_law_194 : decode cL_law 194 = .ok (.iaload, 1) := by decide +kernel
theorem dL_law_195 : decode cL_law 195 = .ok (.invokevirtual 17, 3) := by decide +kernel
theorem dL_law_198 : decode cL_law 198 = .ok (.if_icmp .eq 963, 3) := by decide +kernel
theorem dL_law_201 : decode cL_law 201 = .ok (.iconst 0, 1) := by decide +kernel
theorem dL_law_202 : decode cL_law 202 = .ok (.ireturn, 1) := by decide +kernel
theorem dL_law_203 : decode cL_law 203 = .ok (.aload_n 1, 1) := by decide +kernel
theorem dL_law_204 : decode cL_law 204 = .ok (.invokevirtual 18, 3) := by decide +kernel
theorem dL_law_207 : decode cL_law 207 = .ok (.aload_n 2, 1) := by decide +kernel
theorem dL_law_208 : decode cL_law 208 = .ok (.invokevirtual 22, 3) := by decide +kernel
theorem dL_law_211 : decode cL_law 211 = .ok (.if_icmp .eq 950, 3) := by decide +kernel
theorem dL_law_214 : decode cL_law 214 = .ok (.iconst 0, 1) := by decide +kernel
theorem dL_law_215 : decode cL_law 215 = .ok (.ireturn, 1) := by decide +kernel
theorem dL_law_216 : decode cL_law 216 = .ok (.aload_n 1, 1) := by decide +kernel
theorem dL_law_217 : decode cL_law 217 = .ok (.invokevirtual 23, 3) := by decide +kernel
theorem dL_law_220 : decode cL_law 220 = .ok (.aload_n 2, 1) := by decide +kernel
theorem dL_law_221 : decode cL_law 221 = .ok (.invokevirtual 26, 3) := by decide +kernel
theorem dL_law_224 : decode cL_law 224 = .ok (.if_icmp .eq 937, 3) := by decide +kernel
theorem dL_law_227 : decode cL_law 227 = .ok (.iconst 0, 1) := by decide +kernel
theorem dL_law_228 : decode cL_law 228 = .ok (.ireturn, 1) := by decide +kernel
theorem dL_law_229 : decode cL_law 229 = .ok (.aload_n 1, 1) := by decide +kernel
theorem dL_law_230 : decode cL_law 230 = .ok (.aload_n 0, 1) := by decide +kernel
theorem dL_law_231 : decode cL_law 231 = .ok (.iload_n 3, 1) := by decide +kernel
theorem dL_law_232 : decode cL_law 232 = .ok (.iconst 1, 1) := by decide +kernel
theorem dL_law_233 : decode cL_law 233 = .ok (.iadd, 1) := by decide +kernel
theorem dL_law_234 : decode cL_law 234 = .ok (.iaload, 1) := by decide +kernel
theorem dL_law_235 : decode cL_law 235 = .ok (.invokevirtual 27, 3) := by decide +kernel
theorem dL_law_238 : decode cL_law 238 = .ok (.aload_n 2, 1) := by decide +kernel
theorem dL_law_239 : decode cL_law 239 = .ok (.aload_n 0, 1) := by decide +kernel
theorem dL_law_240 : decode cL_law 240 = .ok (.iload_n 3, 1) := by decide +kernel
theorem dL_law_241 : decode cL_law 241 = .ok (.iconst 1, 1) := by decide +kernel
theorem dL_law_242 : decode cL_law 242 = .ok (.iadd, 1) := by decide +kernel
theorem dL_law_243 : decode cL_law 243 = .ok (.iaload, 1) := by decide +kernel
theorem dL_law_244 : decode cL_law 244 = .ok (.invokevirtual 30, 3) := by decide +kernel
theorem dL_law_247 : decode cL_law 247 = .ok (.if_icmp .eq 914, 3) := by decide +kernel
theorem dL_law_250 : decode cL_law 250 = .ok (.iconst 0, 1) := by decide +kernel
theorem dL_law_251 : decode cL_law 251 = .ok (.ireturn, 1) := by decide +kernel
theorem dL_law_252 : decode cL_law 252 = .ok (.aload_n 1, 1) := by decide +kernel
theorem dL_law_253 : decode cL_law 253 = .ok (.aload_n 0, 1) := by decide +kernel
theorem dL_law_254 : decode cL_law 254 = .ok (.iload_n 3, 1) := by decide +kernel
theorem dL_law_255 : decode cL_law 255 = .ok (.iconst 1, 1) := by decide +kernel
theorem dL_law_256 : decode cL_law 256 = .ok (.iadd, 1) := by decide +kernel
theorem dL_law_257 : decode cL_law 257 = .ok (.iaload, 1) := by decide +kernel
theorem dL_law_258 : decode cL_law 258 = .ok (.aload_n 0, 1) := by decide +kernel
theorem dL_law_259 : decode cL_law 259 = .ok (.iload_n 3, 1) := by decide +kernel
theorem dL_law_260 : decode cL_law 260 = .ok (.iconst 2, 1) := by decide +kernel
theorem dL_law_261 : decode cL_law 261 = .ok (.iadd, 1) := by decide +kernel
theorem dL_law_262 : decode cL_law 262 = .ok (.iaload, 1) := by decide +kernel
theorem dL_law_263 : decode cL_law 263 = .ok (.invokevirtual 31, 3) := by decide +kernel
theorem dL_law_266 : decode cL_law 266 = .ok (.aload_n 2, 1) := by decide +kernel
theorem dL_law_267 : decode cL_law 267 = .ok (.aload_n 0, 1) := by decide +kernel
theorem dL_law_268 : decode cL_law 268 = .ok (.iload_n 3, 1) := by decide +kernel
theorem dL_law_269 : decode cL_law 269 = .ok (.iconst 1, 1) := by decide +kernel
theorem dL_law_270 : decode cL_law 270 = .ok (.iadd, 1) := by decide +kernel
theorem dL_law_271 : decode cL_law 271 = .ok (.iaload, 1) := by decide +kernel
theorem dL_law_272 : decode cL_law 272 = .ok (.aload_n 0, 1) := by decide +kernel
theorem dL_law_273 : decode cL_law 273 = .ok (.iload_n 3, 1) := by decide +kernel
theorem dL_law_274 : decode cL_law 274 = .ok (.iconst 2, 1) := by decide +kernel
theorem dL_law_275 : decode cL_law 275 = .ok (.iadd, 1) := by decide +kernel
theorem dL_law_276 : decode cL_law 276 = .ok (.iaload, 1) := by decide +kernel
theorem dL_law_277 : decode cL_law 277 = .ok (.invokevirtual 35, 3) := by decide +kernel
theorem dL_law_280 : decode cL_law 280 = .ok (.if_icmp .eq 881, 3) := by decide +kernel
theorem dL_law_283 : decode cL_law 283 = .ok (.iconst 0, 1) := by decide +kernel
theorem dL_law_284 : decode cL_law 284 = .ok (.ireturn, 1) := by decide +kernel
theorem dL_law_285 : decode cL_law 285 = .ok (.aload_n 1, 1) := by decide +kernel
theorem dL_law_286 : decode cL_law 286 = .ok (.aload_n 0, 1) := by decide +kernel
theorem dL_law_287 : decode cL_law 287 = .ok (.iload_n 3, 1) := by decide +kernel
theorem dL_law_288 : decode cL_law 288 = .ok (.iconst 1, 1) := by decide +kernel
theorem dL_law_289 : decode cL_law 289 = .ok (.iadd, 1) := by decide +kernel
theorem dL_law_290 : decode cL_law 290 = .ok (.iaload, 1) := by decide +kernel
theorem dL_law_291 : decode cL_law 291 = .ok (.aload_n 0, 1) := by decide +kernel
theorem dL_law_292 : decode cL_law 292 = .ok (.iload_n 3, 1) := by decide +kernel
theorem dL_law_293 : decode cL_law 293 = .ok (.iconst 2, 1) := by decide +kernel
theorem dL_law_294 : decode cL_law 294 = .ok (.iadd, 1) := by decide +kernel
theorem dL_law_295 : decode cL_law 295 = .ok (.iaload, 1) := by decide +kernel
theorem dL_law_296 : decode cL_law 296 = .ok (.aload_n 0, 1) := by decide +kernel
theorem dL_law_297 : decode cL_law 297 = .ok (.iload_n 3, 1) := by decide +kernel
theorem dL_law_298 : decode cL_law 298 = .ok (.iconst 3, 1) := by decide +kernel
theorem dL_law_299 : decode cL_law 299 = .ok (.iadd, 1) := by decide +kernel
theorem dL_law_300 : decode cL_law 300 = .ok (.iaload, 1) := by decide +kernel
theorem dL_law_301 : decode cL_law 301 = .ok (.aload_n 0, 1) := by decide +kernel
theorem dL_law_302 : decode cL_law 302 = .ok (.iload_n 3, 1) := by decide +kernel
theorem dL_law_303 : decode cL_law 303 = .ok (.iconst 4, 1) := by decide +kernel
theorem dL_law_304 : decode cL_law 304 = .ok (.iadd, 1) := by decide +kernel
theorem dL_law_305 : decode cL_law 305 = .ok (.iaload, 1) := by decide +kernel
theorem dL_law_306 : decode cL_law 306 = .ok (.invokevirtual 36, 3) := by decide +kernel
theorem dL_law_309 : decode cL_law 309 = .ok (.aload_n 2, 1) := by decide +kernel
theorem dL_law_310 : decode cL_law 310 = .ok (.aload_n 0, 1) := by decide +kernel
theorem dL_law_311 : decode cL_law 311 = .ok (.iload_n 3, 1) := by decide +kernel
theorem dL_law_312 : decode cL_law 312 = .ok (.iconst 1, 1) := by decide +kernel
theorem dL_law_313 : decode cL_law 313 = .ok (.iadd, 1) := by decide +kernel
theorem dL_law_314 : decode cL_law 314 = .ok (.iaload, 1) := by decide +kernel
theorem dL_law_315 : decode cL_law 315 = .ok (.aload_n 0, 1) := by decide +kernel
theorem dL_law_316 : decode cL_law 316 = .ok (.iload_n 3, 1) := by decide +kernel
theorem dL_law_317 : decode cL_law 317 = .ok (.iconst 2, 1) := by decide +kernel
theorem dL_law_318 : decode cL_law 318 = .ok (.iadd, 1) := by decide +kernel
theorem dL_law_319 : decode cL_law 319 = .ok (.iaload, 1) := by decide +kernel
theorem dL_law_320 : decode cL_law 320 = .ok (.aload_n 0, 1) := by decide +kernel
theorem dL_law_321 : decode cL_law 321 = .ok (.iload_n 3, 1) := by decide +kernel
theorem dL_law_322 : decode cL_law 322 = .ok (.iconst 3, 1) := by decide +kernel
theorem dL_law_323 : decode cL_law 323 = .ok (.iadd, 1) := by decide +kernel
theorem dL_law_324 : decode cL_law 324 = .ok (.iaload, 1) := by decide +kernel
theorem dL_law_325 : decode cL_law 325 = .ok (.aload_n 0, 1) := by decide +kernel
theorem dL_law_326 : decode cL_law 326 = .ok (.iload_n 3, 1) := by decide +kernel
theorem dL_law_327 : decode cL_law 327 = .ok (.iconst 4, 1) := by decide +kernel
theorem dL_law_328 : decode cL_law 328 = .ok (.iadd, 1) := by decide +kernel
theorem dL_law_329 : decode cL_law 329 = .ok (.iaload, 1) := by decide +kernel
theorem dL_law_330 : decode cL_law 330 = .ok (.invokevirtual 40, 3) := by decide +kernel
theorem dL_law_333 : decode cL_law 333 = .ok (.if_icmp .eq 828, 3) := by decide +kernel
theorem dL_law_336 : decode cL_law 336 = .ok (.iconst 0, 1) := by decide +kernel
theorem dL_law_337 : decode cL_law 337 = .ok (.ireturn, 1) := by decide +kernel
theorem dL_law_338 : decode cL_law 338 = .ok (.aload_n 1, 1) := by decide +kernel
theorem dL_law_339 : decode cL_law 339 = .ok (.aload_n 0, 1) := by decide +kernel
theorem dL_law_340 : decode cL_law 340 = .ok (.iload_n 3, 1) := by decide +kernel
theorem dL_law_341 : decode cL_law 341 = .ok (.iconst 1, 1) := by decide +kernel
theorem dL_law_342 : decode cL_law 342 = .ok (.iadd, 1) := by decide +kernel
theorem dL_law_343 : decode cL_law 343 = .ok (.iaload, 1) := by decide +kernel
theorem dL_law_344 : decode cL_law 344 = .ok (.aload_n 0, 1) := by decide +kernel
theorem dL_law_345 : decode cL_law 345 = .ok (.iload_n 3, 1) := by decide +kernel
theorem dL_law_346 : decode cL_law 346 = .ok (.iconst 2, 1) := by decide +kernel
theorem dL_law_347 : decode cL_law 347 = .ok (.iadd, 1) := by decide +kernel
theorem dL_law_348 : decode cL_law 348 = .ok (.iaload, 1) := by decide +kernel
theorem dL_law_349 : decode cL_law 349 = .ok (.invokevirtual 41, 3) := by decide +kernel
theorem dL_law_352 : decode cL_law 352 = .ok (.aload_n 2, 1) := by decide +kernel
theorem dL_law_353 : decode cL_law 353 = .ok (.aload_n 0, 1) := by decide +kernel
theorem dL_law_354 : decode cL_law 354 = .ok (.iload_n 3, 1) := by decide +kernel
theorem dL_law_355 : decode cL_law 355 = .ok (.iconst 1, 1) := by decide +kernel
theorem dL_law_356 : decode cL_law 356 = .ok (.iadd, 1) := by decide +kernel
theorem dL_law_357 : decode cL_law 357 = .ok (.iaload, 1) := by decide +kernel
theorem dL_law_358 : decode cL_law 358 = .ok (.aload_n 0, 1) := by decide +kernel
theorem dL_law_359 : decode cL_law 359 = .ok (.iload_n 3, 1) := by decide +kernel
theorem dL_law_360 : decode cL_law 360 = .ok (.iconst 2, 1) := by decide +kernel
theorem dL_law_361 : decode cL_law 361 = .ok (.iadd, 1) := by decide +kernel
theorem dL_law_362 : decode cL_law 362 = .ok (.iaload, 1) := by decide +kernel
theorem dL_law_363 : decode cL_law 363 = .ok (.invokevirtual 44, 3) := by decide +kernel
theorem dL_law_366 : decode cL_law 366 = .ok (.if_icmp .eq 795, 3) := by decide +kernel
theorem dL_law_369 : decode cL_law 369 = .ok (.iconst 0, 1) := by decide +kernel
theorem dL_law_370 : decode cL_law 370 = .ok (.ireturn, 1) := by decide +kernel
theorem dL_law_371 : decode cL_law 371 = .ok (.aload_n 1, 1) := by decide +kernel
theorem dL_law_372 : decode cL_law 372 = .ok (.aload_n 0, 1) := by decide +kernel
theorem dL_law_373 : decode cL_law 373 = .ok (.iload_n 3, 1) := by decide +kernel
theorem dL_law_374 : decode cL_law 374 = .ok (.iconst 1, 1) := by decide +kernel
theorem dL_law_375 : decode cL_law 375 = .ok (.iadd, 1) := by decide +kernel
theorem dL_law_376 : decode cL_law 376 = .ok (.iaload, 1) := by decide +kernel
theorem dL_law_377 : decode cL_law 377 = .ok (.invokevirtual 45, 3) := by decide +kernel
theorem dL_law_380 : decode cL_law 380 = .ok (.aload_n 2, 1) := by decide +kernel
theorem dL_law_381 : decode cL_law 381 = .ok (.aload_n 0, 1) := by decide +kernel
theorem dL_law_382 : decode cL_law 382 = .ok (.iload_n 3, 1) := by decide +kernel
theorem dL_law_383 : decode cL_law 383 = .ok (.iconst 1, 1) := by decide +kernel
theorem dL_law_384 : decode cL_law 384 = .ok (.iadd, 1) := by decide +kernel
theorem dL_law_385 : decode cL_law 385 = .ok (.iaload, 1) := by decide +kernel
theorem dL_law_386 : decode cL_law 386 = .ok (.invokevirtual 48, 3) := by decide +kernel
theorem dL_law_389 : decode cL_law 389 = .ok (.if_icmp .eq 772, 3) := by decide +kernel
theorem dL_law_392 : decode cL_law 392 = .ok (.iconst 0, 1) := by decide +kernel
theorem dL_law_393 : decode cL_law 393 = .ok (.ireturn, 1) := by decide +kernel
theorem dL_law_394 : decode cL_law 394 = .ok (.aload_n 1, 1) := by decide +kernel
theorem dL_law_395 : decode cL_law 395 = .ok (.aload_n 0, 1) := by decide +kernel
theorem dL_law_396 : decode cL_law 396 = .ok (.iload_n 3, 1) := by decide +kernel
theorem dL_law_397 : decode cL_law 397 = .ok (.iconst 1, 1) := by decide +kernel
theorem dL_law_398 : decode cL_law 398 = .ok (.iadd, 1) := by decide +kernel
theorem dL_law_399 : decode cL_law 399 = .ok (.iaload, 1) := by decide +kernel
theorem dL_law_400 : decode cL_law 400 = .ok (.invokevirtual 49, 3) := by decide +kernel
theorem dL_law_403 : decode cL_law 403 = .ok (.aload_n 2, 1) := by decide +kernel
theorem dL_law_404 : decode cL_law 404 = .ok (.aload_n 0, 1) := by decide +kernel
theorem dL_law_405 : decode cL_law 405 = .ok (.iload_n 3, 1) := by decide +kernel
theorem dL_law_406 : decode cL_law 406 = .ok (.iconst 1, 1) := by decide +kernel
theorem dL_law_407 : decode cL_law 407 = .ok (.iadd, 1) := by decide +kernel
theorem dL_law_408 : decode cL_law 408 = .ok (.iaload, 1) := by decide +kernel
theorem dL_law_409 : decode cL_law 409 = .ok (.invokevirtual 52, 3) := by decide +kernel
theorem dL_law_412 : decode cL_law 412 = .ok (.if_icmp .eq 749, 3) := by decide +kernel
theorem dL_law_415 : decode cL_law 415 = .ok (.iconst 0, 1) := by decide +kernel
theorem dL_law_416 : decode cL_law 416 = .ok (.ireturn, 1) := by decide +kernel
theorem dL_law_417 : decode cL_law 417 = .ok (.aload_n 1, 1) := by decide +kernel
theorem dL_law_418 : decode cL_law 418 = .ok (.aload_n 0, 1) := by decide +kernel
theorem dL_law_419 : decode cL_law 419 = .ok (.iload_n 3, 1) := by decide +kernel
theorem dL_law_420 : decode cL_law 420 = .ok (.iconst 1, 1) := by decide +kernel
theorem dL_law_421 : decode cL_law 421 = .ok (.iadd, 1) := by decide +kernel
theorem dL_law_422 : decode cL_law 422 = .ok (.iaload, 1) := by decide +kernel
theorem dL_law_423 : decode cL_law 423 = .ok (.invokevirtual 53, 3) := by decide +kernel
theorem dL_law_426 : decode cL_law 426 = .ok (.aload_n 2, 1) := by decide +kernel
theorem dL_law_427 : decode cL_law 427 = .ok (.aload_n 0, 1) := by decide +kernel
theorem dL_law_428 : decode cL_law 428 = .ok (.iload_n 3, 1) := by decide +kernel
theorem dL_law_429 : decode cL_law 429 = .ok (.iconst 1, 1) := by decide +kernel
theorem dL_law_430 : decode cL_law 430 = .ok (.iadd, 1) := by decide +kernel
theorem dL_law_431 : decode cL_law 431 = .ok (.iaload, 1) := by decide +kernel
theorem dL_law_432 : decode cL_law 432 = .ok (.invokevirtual 56, 3) := by decide +kernel
theorem dL_law_435 : decode cL_law 435 = .ok (.if_icmp .eq 726, 3) := by decide +kernel
theorem dL_law_438 : decode cL_law 438 = .ok (.iconst 0, 1) := by decide +kernel
theorem dL_law_439 : decode cL_law 439 = .ok (.ireturn, 1) := by decide +kernel
theorem dL_law_440 : decode cL_law 440 = .ok (.aload_n 1, 1) := by decide +kernel
theorem dL_law_441 : decode cL_law 441 = .ok (.aload_n 0, 1) := by decide +kernel
theorem dL_law_442 : decode cL_law 442 = .ok (.iload_n 3, 1) := by decide +kernel
theorem dL_law_443 : decode cL_law 443 = .ok (.iconst 1, 1) := by decide +kernel
theorem dL_law_444 : decode cL_law 444 = .ok (.iadd, 1) := by decide +kernel
theorem dL_law_445 : decode cL_law 445 = .ok (.iaload, 1) := by decide +kernel
theorem dL_law_446 : decode cL_law 446 = .ok (.invokevirtual 57, 3) := by decide +kernel
theorem dL_law_449 : decode cL_law 449 = .ok (.aload_n 2, 1) := by decide +kernel
theorem dL_law_450 : decode cL_law 450 = .ok (.aload_n 0, 1) := by decide +kernel
theorem dL_law_451 : decode cL_law 451 = .ok (.iload_n 3, 1) := by decide +kernel
theorem dL_law_452 : decode cL_law 452 = .ok (.iconst 1, 1) := by decide +kernel
theorem dL_law_453 : decode cL_law 453 = .ok (.iadd, 1) := by decide +kernel
theorem dL_law_454 : decode cL_law 454 = .ok (.iaload, 1) := by decide +kernel
theorem dL_law_455 : decode cL_law 455 = .ok (.invokevirtual 60, 3) := by decide +kernel
theorem dL_law_458 : decode cL_law 458 = .ok (.if_icmp .eq 703, 3) := by decide +kernel
theorem dL_law_461 : decode cL_law 461 = .ok (.iconst 0, 1) := by decide +kernel
theorem dL_law_462 : decode cL_law 462 = .ok (.ireturn, 1) := by decide +kernel
theorem dL_law_463 : decode cL_law 463 = .ok (.aload_n 1, 1) := by decide +kernel
theorem dL_law_464 : decode cL_law 464 = .ok (.aload_n 0, 1) := by decide +kernel
theorem dL_law_465 : decode cL_law 465 = .ok (.iload_n 3, 1) := by decide +kernel
theorem dL_law_466 : decode cL_law 466 = .ok (.iconst 1, 1) := by decide +kernel
theorem dL_law_467 : decode cL_law 467 = .ok (.iadd, 1) := by decide +kernel
theorem dL_law_468 : decode cL_law 468 = .ok (.iaload, 1) := by decide +kernel
theorem dL_law_469 : decode cL_law 469 = .ok (.aload_n 0, 1) := by decide +kernel
theorem dL_law_470 : decode cL_law 470 = .ok (.iload_n 3, 1) := by decide +kernel
theorem dL_law_471 : decode cL_law 471 = .ok (.iconst 2, 1) := by decide +kernel
theorem dL_law_472 : decode cL_law 472 = .ok (.iadd, 1) := by decide +kernel
theorem dL_law_473 : decode cL_law 473 = .ok (.iaload, 1) := by decide +kernel
theorem dL_law_474 : decode cL_law 474 = .ok (.aload_n 0, 1) := by decide +kernel
theorem dL_law_475 : decode cL_law 475 = .ok (.iload_n 3, 1) := by decide +kernel
theorem dL_law_476 : decode cL_law 476 = .ok (.iconst 3, 1) := by decide +kernel
theorem dL_law_477 : decode cL_law 477 = .ok (.iadd, 1) := by decide +kernel
theorem dL_law_478 : decode cL_law 478 = .ok (.iaload, 1) := by decide +kernel
theorem dL_law_479 : decode cL_law 479 = .ok (.aload_n 0, 1) := by decide +kernel
theorem dL_law_480 : decode cL_law 480 = .ok (.iload_n 3, 1) := by decide +kernel
theorem dL_law_481 : decode cL_law 481 = .ok (.iconst 4, 1) := by decide +kernel
theorem dL_law_482 : decode cL_law 482 = .ok (.iadd, 1) := by decide +kernel
theorem dL_law_483 : decode cL_law 483 = .ok (.iaload, 1) := by decide +kernel
theorem dL_law_484 : decode cL_law 484 = .ok (.invokevirtual 61, 3) := by decide +kernel
theorem dL_law_487 : decode cL_law 487 = .ok (.aload_n 2, 1) := by decide +kernel
theorem dL_law_488 : decode cL_law 488 = .ok (.aload_n 0, 1) := by decide +kernel
theorem dL_law_489 : decode cL_law 489 = .ok (.iload_n 3, 1) := by decide +kernel
theorem dL_law_490 : decode cL_law 490 = .ok (.iconst 1, 1) := by decide +kernel
theorem dL_law_491 : decode cL_law 491 = .ok (.iadd, 1) := by decide +kernel
theorem dL_law_492 : decode cL_law 492 = .ok (.iaload, 1) := by decide +kernel
theorem dL_law_493 : decode cL_law 493 = .ok (.aload_n 0, 1) := by decide +kernel
theorem dL_law_494 : decode cL_law 494 = .ok (.iload_n 3, 1) := by decide +kernel
theorem dL_law_495 : decode cL_law 495 = .ok (.iconst 2, 1) := by decide +kernel
theorem dL_law_496 : decode cL_law 496 = .ok (.iadd, 1) := by decide +kernel
theorem dL_law_497 : decode cL_law 497 = .ok (.iaload, 1) := by decide +kernel
theorem dL_law_498 : decode cL_law 498 = .ok (.aload_n 0, 1) := by decide +kernel
theorem dL_law_499 : decode cL_law 499 = .ok (.iload_n 3, 1) := by decide +kernel
theorem dL_law_500 : decode cL_law 500 = .ok (.iconst 3, 1) := by decide +kernel
theorem dL_law_501 : decode cL_law 501 = .ok (.iadd, 1) := by decide +kernel
theorem dL_law_502 : decode cL_law 502 = .ok (.iaload, 1) := by decide +kernel
theorem dL_law_503 : decode cL_law 503 = .ok (.aload_n 0, 1) := by decide +kernel
theorem dL_law_504 : decode cL_law 504 = .ok (.iload_n 3, 1) := by decide +kernel
theorem dL_law_505 : decode cL_law 505 = .ok (.iconst 4, 1) := by decide +kernel
theorem dL_law_506 : decode cL_law 506 = .ok (.iadd, 1) := by decide +kernel
theorem dL_law_507 : decode cL_law 507 = .ok (.iaload, 1) := by decide +kernel
theorem dL_law_508 : decode cL_law 508 = .ok (.invokevirtual 64, 3) := by decide +kernel
theorem dL_law_511 : decode cL_law 511 = .ok (.if_icmp .eq 650, 3) := by decide +kernel
theorem dL_law_514 : decode cL_law 514 = .ok (.iconst 0, 1) := by decide +kernel
theorem dL_law_515 : decode cL_law 515 = .ok (.ireturn, 1) := by decide +kernel
theorem dL_law_516 : decode cL_law 516 = .ok (.aload_n 1, 1) := by decide +kernel
theorem dL_law_517 : decode cL_law 517 = .ok (.aload_n 0, 1) := by decide +kernel
theorem dL_law_518 : decode cL_law 518 = .ok (.iload_n 3, 1) := by decide +kernel
theorem dL_law_519 : decode cL_law 519 = .ok (.iconst 1, 1) := by decide +kernel
theorem dL_law_520 : decode cL_law 520 = .ok (.iadd, 1) := by decide +kernel
theorem dL_law_521 : decode cL_law 521 = .ok (.iaload, 1) := by decide +kernel
theorem dL_law_522 : decode cL_law 522 = .ok (.invokevirtual 65, 3) := by decide +kernel
theorem dL_law_525 : decode cL_law 525 = .ok (.aload_n 2, 1) := by decide +kernel
theorem dL_law_526 : decode cL_law 526 = .ok (.aload_n 0, 1) := by decide +kernel
theorem dL_law_527 : decode cL_law 527 = .ok (.iload_n 3, 1) := by decide +kernel
theorem dL_law_528 : decode cL_law 528 = .ok (.iconst 1, 1) := by decide +kernel
theorem dL_law_529 : decode cL_law 529 = .ok (.iadd, 1) := by decide +kernel
theorem dL_law_530 : decode cL_law 530 = .ok (.iaload, 1) := by decide +kernel
theorem dL_law_531 : decode cL_law 531 = .ok (.invokevirtual 68, 3) := by decide +kernel
theorem dL_law_534 : decode cL_law 534 = .ok (.if_icmp .eq 627, 3) := by decide +kernel
theorem dL_law_537 : decode cL_law 537 = .ok (.iconst 0, 1) := by decide +kernel
theorem dL_law_538 : decode cL_law 538 = .ok (.ireturn, 1) := by decide +kernel
theorem dL_law_539 : decode cL_law 539 = .ok (.aload_n 1, 1) := by decide +kernel
theorem dL_law_540 : decode cL_law 540 = .ok (.aload_n 0, 1) := by decide +kernel
theorem dL_law_541 : decode cL_law 541 = .ok (.iload_n 3, 1) := by decide +kernel
theorem dL_law_542 : decode cL_law 542 = .ok (.iconst 1, 1) := by decide +kernel
theorem dL_law_543 : decode cL_law 543 = .ok (.iadd, 1) := by decide +kernel
theorem dL_law_544 : decode cL_law 544 = .ok (.iaload, 1) := by decide +kernel
theorem dL_law_545 : decode cL_law 545 = .ok (.invokevirtual 69, 3) := by decide +kernel
theorem dL_law_548 : decode cL_law 548 = .ok (.aload_n 2, 1) := by decide +kernel
theorem dL_law_549 : decode cL_law 549 = .ok (.aload_n 0, 1) := by decide +kernel
theorem dL_law_550 : decode cL_law 550 = .ok (.iload_n 3, 1) := by decide +kernel
theorem dL_law_551 : decode cL_law 551 = .ok (.iconst 1, 1) := by decide +kernel
theorem dL_law_552 : decode cL_law 552 = .ok (.iadd, 1) := by decide +kernel
theorem dL_law_553 : decode cL_law 553 = .ok (.iaload, 1) := by decide +kernel
theorem dL_law_554 : decode cL_law 554 = .ok (.invokevirtual 72, 3) := by decide +kernel
theorem dL_law_557 : decode cL_law 557 = .ok (.if_icmp .eq 604, 3) := by decide +kernel
theorem dL_law_560 : decode cL_law 560 = .ok (.iconst 0, 1) := by decide +kernel
theorem dL_law_561 : decode cL_law 561 = .ok (.ireturn, 1) := by decide +kernel
theorem dL_law_562 : decode cL_law 562 = .ok (.aload_n 1, 1) := by decide +kernel
theorem dL_law_563 : decode cL_law 563 = .ok (.aload_n 0, 1) := by decide +kernel
theorem dL_law_564 : decode cL_law 564 = .ok (.iload_n 3, 1) := by decide +kernel
theorem dL_law_565 : decode cL_law 565 = .ok (.iconst 1, 1) := by decide +kernel
theorem dL_law_566 : decode cL_law 566 = .ok (.iadd, 1) := by decide +kernel
theorem dL_law_567 : decode cL_law 567 = .ok (.iaload, 1) := by decide +kernel
theorem dL_law_568 : decode cL_law 568 = .ok (.aload_n 0, 1) := by decide +kernel
theorem dL_law_569 : decode cL_law 569 = .ok (.iload_n 3, 1) := by decide +kernel
theorem dL_law_570 : decode cL_law 570 = .ok (.iconst 2, 1) := by decide +kernel
theorem dL_law_571 : decode cL_law 571 = .ok (.iadd, 1) := by decide +kernel
theorem dL_law_572 : decode cL_law 572 = .ok (.iaload, 1) := by decide +kernel
theorem dL_law_573 : decode cL_law 573 = .ok (.aload_n 0, 1) := by decide +kernel
theorem dL_law_574 : decode cL_law 574 = .ok (.iload_n 3, 1) := by decide +kernel
theorem dL_law_575 : decode cL_law 575 = .ok (.iconst 3, 1) := by decide +kernel
theorem dL_law_576 : decode cL_law 576 = .ok (.iadd, 1) := by decide +kernel
theorem dL_law_577 : decode cL_law 577 = .ok (.iaload, 1) := by decide +kernel
theorem dL_law_578 : decode cL_law 578 = .ok (.invokevirtual 73, 3) := by decide +kernel
theorem dL_law_581 : decode cL_law 581 = .ok (.aload_n 2, 1) := by decide +kernel
theorem dL_law_582 : decode cL_law 582 = .ok (.aload_n 0, 1) := by decide +kernel
theorem dL_law_583 : decode cL_law 583 = .ok (.iload_n 3, 1) := by decide +kernel
theorem dL_law_584 : decode cL_law 584 = .ok (.iconst 1, 1) := by decide +kernel
theorem dL_law_585 : decode cL_law 585 = .ok (.iadd, 1) := by decide +kernel
theorem dL_law_586 : decode cL_law 586 = .ok (.iaload, 1) := by decide +kernel
theorem dL_law_587 : decode cL_law 587 = .ok (.aload_n 0, 1) := by decide +kernel
theorem dL_law_588 : decode cL_law 588 = .ok (.iload_n 3, 1) := by decide +kernel
theorem dL_law_589 : decode cL_law 589 = .ok (.iconst 2, 1) := by decide +kernel
theorem dL_law_590 : decode cL_law 590 = .ok (.iadd, 1) := by decide +kernel
theorem dL_law_591 : decode cL_law 591 = .ok (.iaload, 1) := by decide +kernel
theorem dL_law_592 : decode cL_law 592 = .ok (.aload_n 0, 1) := by decide +kernel
theorem dL_law_593 : decode cL_law 593 = .ok (.iload_n 3, 1) := by decide +kernel
theorem dL_law_594 : decode cL_law 594 = .ok (.iconst 3, 1) := by decide +kernel
theorem dL_law_595 : decode cL_law 595 = .ok (.iadd, 1) := by decide +kernel
theorem dL_law_596 : decode cL_law 596 = .ok (.iaload, 1) := by decide +kernel
theorem dL_law_597 : decode cL_law 597 = .ok (.invokevirtual 77, 3) := by decide +kernel
theorem dL_law_600 : decode cL_law 600 = .ok (.if_icmp .eq 561, 3) := by decide +kernel
theorem dL_law_603 : decode cL_law 603 = .ok (.iconst 0, 1) := by decide +kernel
theorem dL_law_604 : decode cL_law 604 = .ok (.ireturn, 1) := by decide +kernel
theorem dL_law_605 : decode cL_law 605 = .ok (.aload_n 1, 1) := by decide +kernel
theorem dL_law_606 : decode cL_law 606 = .ok (.aload_n 0, 1) := by decide +kernel
theorem dL_law_607 : decode cL_law 607 = .ok (.iload_n 3, 1) := by decide +kernel
theorem dL_law_608 : decode cL_law 608 = .ok (.iconst 1, 1) := by decide +kernel
theorem dL_law_609 : decode cL_law 609 = .ok (.iadd, 1) := by decide +kernel
theorem dL_law_610 : decode cL_law 610 = .ok (.iaload, 1) := by decide +kernel
theorem dL_law_611 : decode cL_law 611 = .ok (.invokevirtual 78, 3) := by decide +kernel
theorem dL_law_614 : decode cL_law 614 = .ok (.aload_n 2, 1) := by decide +kernel
theorem dL_law_615 : decode cL_law 615 = .ok (.aload_n 0, 1) := by decide +kernel
theorem dL_law_616 : decode cL_law 616 = .ok (.iload_n 3, 1) := by decide +kernel
theorem dL_law_617 : decode cL_law 617 = .ok (.iconst 1, 1) := by decide +kernel
theorem dL_law_618 : decode cL_law 618 = .ok (.iadd, 1) := by decide +kernel
theorem dL_law_619 : decode cL_law 619 = .ok (.iaload, 1) := by decide +kernel
theorem dL_law_620 : decode cL_law 620 = .ok (.invokevirtual 81, 3) := by decide +kernel
theorem dL_law_623 : decode cL_law 623 = .ok (.if_icmp .eq 538, 3) := by decide +kernel
theorem dL_law_626 : decode cL_law 626 = .ok (.iconst 0, 1) := by decide +kernel
theorem dL_law_627 : decode cL_law 627 = .ok (.ireturn, 1) := by decide +kernel
theorem dL_law_628 : decode cL_law 628 = .ok (.aload_n 1, 1) := by decide +kernel
theorem dL_law_629 : decode cL_law 629 = .ok (.invokevirtual 82, 3) := by decide +kernel
theorem dL_law_632 : decode cL_law 632 = .ok (.aload_n 2, 1) := by decide +kernel
theorem dL_law_633 : decode cL_law 633 = .ok (.invokevirtual 85, 3) := by decide +kernel
theorem dL_law_636 : decode cL_law 636 = .ok (.if_icmp .eq 525, 3) := by decide +kernel
theorem dL_law_639 : decode cL_law 639 = .ok (.iconst 0, 1) := by decide +kernel
theorem dL_law_640 : decode cL_law 640 = .ok (.ireturn, 1) := by decide +kernel
theorem dL_law_641 : decode cL_law 641 = .ok (.aload_n 1, 1) := by decide +kernel
theorem dL_law_642 : decode cL_law 642 = .ok (.aload_n 0, 1) := by decide +kernel
theorem dL_law_643 : decode cL_law 643 = .ok (.iload_n 3, 1) := by decide +kernel
theorem dL_law_644 : decode cL_law 644 = .ok (.iconst 1, 1) := by decide +kernel
theorem dL_law_645 : decode cL_law 645 = .ok (.iadd, 1) := by decide +kernel
theorem dL_law_646 : decode cL_law 646 = .ok (.iaload, 1) := by decide +kernel
theorem dL_law_647 : decode cL_law 647 = .ok (.invokevirtual 86, 3) := by decide +kernel
theorem dL_law_650 : decode cL_law 650 = .ok (.aload_n 2, 1) := by decide +kernel
theorem dL_law_651 : decode cL_law 651 = .ok (.aload_n 0, 1) := by decide +kernel
theorem dL_law_652 : decode cL_law 652 = .ok (.iload_n 3, 1) := by decide +kernel
theorem dL_law_653 : decode cL_law 653 = .ok (.iconst 1, 1) := by decide +kernel
theorem dL_law_654 : decode cL_law 654 = .ok (.iadd, 1) := by decide +kernel
theorem dL_law_655 : decode cL_law 655 = .ok (.iaload, 1) := by decide +kernel
theorem dL_law_656 : decode cL_law 656 = .ok (.invokevirtual 89, 3) := by decide +kernel
theorem dL_law_659 : decode cL_law 659 = .ok (.if_icmp .eq 502, 3) := by decide +kernel
theorem dL_law_662 : decode cL_law 662 = .ok (.iconst 0, 1) := by decide +kernel
theorem dL_law_663 : decode cL_law 663 = .ok (.ireturn, 1) := by decide +kernel
theorem dL_law_664 : decode cL_law 664 = .ok (.aload_n 1, 1) := by decide +kernel
theorem dL_law_665 : decode cL_law 665 = .ok (.aload_n 0, 1) := by decide +kernel
theorem dL_law_666 : decode cL_law 666 = .ok (.iload_n 3, 1) := by decide +kernel
theorem dL_law_667 : decode cL_law 667 = .ok (.iconst 1, 1) := by decide +kernel
theorem dL_law_668 : decode cL_law 668 = .ok (.iadd, 1) := by decide +kernel
theorem dL_law_669 : decode cL_law 669 = .ok (.iaload, 1) := by decide +kernel
theorem dL_law_670 : decode cL_law 670 = .ok (.aload_n 0, 1) := by decide +kernel
theorem dL_law_671 : decode cL_law 671 = .ok (.iload_n 3, 1) := by decide +kernel
theorem dL_law_672 : decode cL_law 672 = .ok (.iconst 2, 1) := by decide +kernel
theorem dL_law_673 : decode cL_law 673 = .ok (.iadd, 1) := by decide +kernel
theorem dL_law_674 : decode cL_law 674 = .ok (.iaload, 1) := by decide +kernel
theorem dL_law_675 : decode cL_law 675 = .ok (.aload_n 0, 1) := by decide +kernel
theorem dL_law_676 : decode cL_law 676 = .ok (.iload_n 3, 1) := by decide +kernel
theorem dL_law_677 : decode cL_law 677 = .ok (.iconst 3, 1) := by decide +kernel
theorem dL_law_678 : decode cL_law 678 = .ok (.iadd, 1) := by decide +kernel
theorem dL_law_679 : decode cL_law 679 = .ok (.iaload, 1) := by decide +kernel
theorem dL_law_680 : decode cL_law 680 = .ok (.aload_n 0, 1) := by decide +kernel
theorem dL_law_681 : decode cL_law 681 = .ok (.iload_n 3, 1) := by decide +kernel
theorem dL_law_682 : decode cL_law 682 = .ok (.iconst 4, 1) := by decide +kernel
theorem dL_law_683 : decode cL_law 683 = .ok (.iadd, 1) := by decide +kernel
theorem dL_law_684 : decode cL_law 684 = .ok (.iaload, 1) := by decide +kernel
theorem dL_law_685 : decode cL_law 685 = .ok (.invokevirtual 90, 3) := by decide +kernel
theorem dL_law_688 : decode cL_law 688 = .ok (.aload_n 2, 1) := by decide +kernel
theorem dL_law_689 : decode cL_law 689 = .ok (.aload_n 0, 1) := by decide +kernel
theorem dL_law_690 : decode cL_law 690 = .ok (.iload_n 3, 1) := by decide +kernel
theorem dL_law_691 : decode cL_law 691 = .ok (.iconst 1, 1) := by decide +kernel
theorem dL_law_692 : decode cL_law 692 = .ok (.iadd, 1) := by decide +kernel
theorem dL_law_693 : decode cL_law 693 = .ok (.iaload, 1) := by decide +kernel
theorem dL_law_694 : decode cL_law 694 = .ok (.aload_n 0, 1) := by decide +kernel
theorem dL_law_695 : decode cL_law 695 = .ok (.iload_n 3, 1) := by decide +kernel
theorem dL_law_696 : decode cL_law 696 = .ok (.iconst 2, 1) := by decide +kernel
theorem dL_law_697 : decode cL_law 697 = .ok (.iadd, 1) := by decide +kernel
theorem dL_law_698 : decode cL_law 698 = .ok (.iaload, 1) := by decide +kernel
theorem dL_law_699 : decode cL_law 699 = .ok (.aload_n 0, 1) := by decide +kernel
theorem dL_law_700 : decode cL_law 700 = .ok (.iload_n 3, 1) := by decide +kernel
theorem dL_law_701 : decode cL_law 701 = .ok (.iconst 3, 1) := by decide +kernel
theorem dL_law_702 : decode cL_law 702 = .ok (.iadd, 1) := by decide +kernel
theorem dL_law_703 : decode cL_law 703 = .ok (.iaload, 1) := by decide +kernel
theorem dL_law_704 : decode cL_law 704 = .ok (.aload_n 0, 1) := by decide +kernel
theorem dL_law_705 : decode cL_law 705 = .ok (.iload_n 3, 1) := by decide +kernel
theorem dL_law_706 : decode cL_law 706 = .ok (.iconst 4, 1) := by decide +kernel
theorem dL_law_707 : decode cL_law 707 = .ok (.iadd, 1) := by decide +kernel
theorem dL_law_708 : decode cL_law 708 = .ok (.iaload, 1) := by decide +kernel
theorem dL_law_709 : decode cL_law 709 = .ok (.invokevirtual 93, 3) := by decide +kernel
theorem dL_law_712 : decode cL_law 712 = .ok (.if_icmp .eq 449, 3) := by decide +kernel
theorem dL_law_715 : decode cL_law 715 = .ok (.iconst 0, 1) := by decide +kernel
theorem dL_law_716 : decode cL_law 716 = .ok (.ireturn, 1) := by decide +kernel
theorem dL_law_717 : decode cL_law 717 = .ok (.aload_n 1, 1) := by decide +kernel
theorem dL_law_718 : decode cL_law 718 = .ok (.aload_n 0, 1) := by decide +kernel
theorem dL_law_719 : decode cL_law 719 = .ok (.iload_n 3, 1) := by decide +kernel
theorem dL_law_720 : decode cL_law 720 = .ok (.iconst 1, 1) := by decide +kernel
theorem dL_law_721 : decode cL_law 721 = .ok (.iadd, 1) := by decide +kernel
theorem dL_law_722 : decode cL_law 722 = .ok (.iaload, 1) := by decide +kernel
theorem dL_law_723 : decode cL_law 723 = .ok (.aload_n 0, 1) := by decide +kernel
theorem dL_law_724 : decode cL_law 724 = .ok (.iload_n 3, 1) := by decide +kernel
theorem dL_law_725 : decode cL_law 725 = .ok (.iconst 2, 1) := by decide +kernel
theorem dL_law_726 : decode cL_law 726 = .ok (.iadd, 1) := by decide +kernel
theorem dL_law_727 : decode cL_law 727 = .ok (.iaload, 1) := by decide +kernel
theorem dL_law_728 : decode cL_law 728 = .ok (.invokevirtual 94, 3) := by decide +kernel
theorem dL_law_731 : decode cL_law 731 = .ok (.aload_n 2, 1) := by decide +kernel
theorem dL_law_732 : decode cL_law 732 = .ok (.aload_n 0, 1) := by decide +kernel
theorem dL_law_733 : decode cL_law 733 = .ok (.iload_n 3, 1) := by decide +kernel
theorem dL_law_734 : decode cL_law 734 = .ok (.iconst 1, 1) := by decide +kernel
theorem dL_law_735 : decode cL_law 735 = .ok (.iadd, 1) := by decide +kernel
theorem dL_law_736 : decode cL_law 736 = .ok (.iaload, 1) := by decide +kernel
theorem dL_law_737 : decode cL_law 737 = .ok (.aload_n 0, 1) := by decide +kernel
theorem dL_law_738 : decode cL_law 738 = .ok (.iload_n 3, 1) := by decide +kernel
theorem dL_law_739 : decode cL_law 739 = .ok (.iconst 2, 1) := by decide +kernel
theorem dL_law_740 : decode cL_law 740 = .ok (.iadd, 1) := by decide +kernel
theorem dL_law_741 : decode cL_law 741 = .ok (.iaload, 1) := by decide +kernel
theorem dL_law_742 : decode cL_law 742 = .ok (.invokevirtual 97, 3) := by decide +kernel
theorem dL_law_745 : decode cL_law 745 = .ok (.if_icmp .eq 416, 3) := by decide +kernel
theorem dL_law_748 : decode cL_law 748 = .ok (.iconst 0, 1) := by decide +kernel
theorem dL_law_749 : decode cL_law 749 = .ok (.ireturn, 1) := by decide +kernel
theorem dL_law_750 : decode cL_law 750 = .ok (.aload_n 1, 1) := by decide +kernel
theorem dL_law_751 : decode cL_law 751 = .ok (.aload_n 0, 1) := by decide +kernel
theorem dL_law_752 : decode cL_law 752 = .ok (.iload_n 3, 1) := by decide +kernel
theorem dL_law_753 : decode cL_law 753 = .ok (.iconst 1, 1) := by decide +kernel
theorem dL_law_754 : decode cL_law 754 = .ok (.iadd, 1) := by decide +kernel
theorem dL_law_755 : decode cL_law 755 = .ok (.iaload, 1) := by decide +kernel
theorem dL_law_756 : decode cL_law 756 = .ok (.invokevirtual 98, 3) := by decide +kernel
theorem dL_law_759 : decode cL_law 759 = .ok (.aload_n 2, 1) := by decide +kernel
theorem dL_law_760 : decode cL_law 760 = .ok (.aload_n 0, 1) := by decide +kernel
theorem dL_law_761 : decode cL_law 761 = .ok (.iload_n 3, 1) := by decide +kernel
theorem dL_law_762 : decode cL_law 762 = .ok (.iconst 1, 1) := by decide +kernel
theorem dL_law_763 : decode cL_law 763 = .ok (.iadd, 1) := by decide +kernel
theorem dL_law_764 : decode cL_law 764 = .ok (.iaload, 1) := by decide +kernel
theorem dL_law_765 : decode cL_law 765 = .ok (.invokevirtual 102, 3) := by decide +kernel
theorem dL_law_768 : decode cL_law 768 = .ok (.lcmp, 1) := by decide +kernel
theorem dL_law_769 : decode cL_law 769 = .ok (.ifCond .eq 392, 3) := by decide +kernel
theorem dL_law_772 : decode cL_law 772 = .ok (.iconst 0, 1) := by decide +kernel
theorem dL_law_773 : decode cL_law 773 = .ok (.ireturn, 1) := by decide +kernel
theorem dL_law_774 : decode cL_law 774 = .ok (.aload_n 1, 1) := by decide +kernel
theorem dL_law_775 : decode cL_law 775 = .ok (.aload_n 0, 1) := by decide +kernel
theorem dL_law_776 : decode cL_law 776 = .ok (.iload_n 3, 1) := by decide +kernel
theorem dL_law_777 : decode cL_law 777 = .ok (.iconst 1, 1) := by decide +kernel
theorem dL_law_778 : decode cL_law 778 = .ok (.iadd, 1) := by decide +kernel
theorem dL_law_779 : decode cL_law 779 = .ok (.iaload, 1) := by decide +kernel
theorem dL_law_780 : decode cL_law 780 = .ok (.aload_n 0, 1) := by decide +kernel
theorem dL_law_781 : decode cL_law 781 = .ok (.iload_n 3, 1) := by decide +kernel
theorem dL_law_782 : decode cL_law 782 = .ok (.iconst 2, 1) := by decide +kernel
theorem dL_law_783 : decode cL_law 783 = .ok (.iadd, 1) := by decide +kernel
theorem dL_law_784 : decode cL_law 784 = .ok (.iaload, 1) := by decide +kernel
theorem dL_law_785 : decode cL_law 785 = .ok (.i2l, 1) := by decide +kernel
theorem dL_law_786 : decode cL_law 786 = .ok (.bipush 32, 2) := by decide +kernel
theorem dL_law_788 : decode cL_law 788 = .ok (.lshl, 1) := by decide +kernel
theorem dL_law_789 : decode cL_law 789 = .ok (.aload_n 0, 1) := by decide +kernel
theorem dL_law_790 : decode cL_law 790 = .ok (.iload_n 3, 1) := by decide +kernel
theorem dL_law_791 : decode cL_law 791 = .ok (.iconst 3, 1) := by decide +kernel
theorem dL_law_792 : decode cL_law 792 = .ok (.iadd, 1) := by decide +kernel
theorem dL_law_793 : decode cL_law 793 = .ok (.iaload, 1) := by decide +kernel
theorem dL_law_794 : decode cL_law 794 = .ok (.i2l, 1) := by decide +kernel
theorem dL_law_795 : decode cL_law 795 = .ok (.ldc2_w 103, 3) := by decide +kernel
theorem dL_law_798 : decode cL_law 798 = .ok (.land, 1) := by decide +kernel
theorem dL_law_799 : decode cL_law 799 = .ok (.lor, 1) := by decide +kernel
theorem dL_law_800 : decode cL_law 800 = .ok (.aload_n 0, 1) := by decide +kernel
theorem dL_law_801 : decode cL_law 801 = .ok (.iload_n 3, 1) := by decide +kernel
theorem dL_law_802 : decode cL_law 802 = .ok (.iconst 4, 1) := by decide +kernel
theorem dL_law_803 : decode cL_law 803 = .ok (.iadd, 1) := by decide +kernel
theorem dL_law_804 : decode cL_law 804 = .ok (.iaload, 1) := by decide +kernel
theorem dL_law_805 : decode cL_law 805 = .ok (.invokevirtual 105, 3) := by decide +kernel
theorem dL_law_808 : decode cL_law 808 = .ok (.aload_n 2, 1) := by decide +kernel
theorem dL_law_809 : decode cL_law 809 = .ok (.aload_n 0, 1) := by decide +kernel
theorem dL_law_810 : decode cL_law 810 = .ok (.iload_n 3, 1) := by decide +kernel
theorem dL_law_811 : decode cL_law 811 = .ok (.iconst 1, 1) := by decide +kernel
theorem dL_law_812 : decode cL_law 812 = .ok (.iadd, 1) := by decide +kernel
theorem dL_law_813 : decode cL_law 813 = .ok (.iaload, 1) := by decide +kernel
theorem dL_law_814 : decode cL_law 814 = .ok (.aload_n 0, 1) := by decide +kernel
theorem dL_law_815 : decode cL_law 815 = .ok (.iload_n 3, 1) := by decide +kernel
theorem dL_law_816 : decode cL_law 816 = .ok (.iconst 2, 1) := by decide +kernel
theorem dL_law_817 : decode cL_law 817 = .ok (.iadd, 1) := by decide +kernel
theorem dL_law_818 : decode cL_law 818 = .ok (.iaload, 1) := by decide +kernel
theorem dL_law_819 : decode cL_law 819 = .ok (.i2l, 1) := by decide +kernel
theorem dL_law_820 : decode cL_law 820 = .ok (.bipush 32, 2) := by decide +kernel
theorem dL_law_822 : decode cL_law 822 = .ok (.lshl, 1) := by decide +kernel
theorem dL_law_823 : decode cL_law 823 = .ok (.aload_n 0, 1) := by decide +kernel
theorem dL_law_824 : decode cL_law 824 = .ok (.iload_n 3, 1) := by decide +kernel
theorem dL_law_825 : decode cL_law 825 = .ok (.iconst 3, 1) := by decide +kernel
theorem dL_law_826 : decode cL_law 826 = .ok (.iadd, 1) := by decide +kernel
theorem dL_law_827 : decode cL_law 827 = .ok (.iaload, 1) := by decide +kernel
theorem dL_law_828 : decode cL_law 828 = .ok (.i2l, 1) := by decide +kernel
theorem dL_law_829 : decode cL_law 829 = .ok (.ldc2_w 103, 3) := by decide +kernel
theorem dL_law_832 : decode cL_law 832 = .ok (.land, 1) := by decide +kernel
theorem dL_law_833 : decode cL_law 833 = .ok (.lor, 1) := by decide +kernel
theorem dL_law_834 : decode cL_law 834 = .ok (.aload_n 0, 1) := by decide +kernel
theorem dL_law_835 : decode cL_law 835 = .ok (.iload_n 3, 1) := by decide +kernel
theorem dL_law_836 : decode cL_law 836 = .ok (.iconst 4, 1) := by decide +kernel
theorem dL_law_837 : decode cL_law 837 = .ok (.iadd, 1) := by decide +kernel
theorem dL_law_838 : decode cL_law 838 = .ok (.iaload, 1) := by decide +kernel
theorem dL_law_839 : decode cL_law 839 = .ok (.invokevirtual 109, 3) := by decide +kernel
theorem dL_law_842 : decode cL_law 842 = .ok (.if_icmp .eq 319, 3) := by decide +kernel
theorem dL_law_845 : decode cL_law 845 = .ok (.iconst 0, 1) := by decide +kernel
theorem dL_law_846 : decode cL_law 846 = .ok (.ireturn, 1) := by decide +kernel
theorem dL_law_847 : decode cL_law 847 = .ok (.aload_n 1, 1) := by decide +kernel
theorem dL_law_848 : decode cL_law 848 = .ok (.aload_n 0, 1) := by decide +kernel
theorem dL_law_849 : decode cL_law 849 = .ok (.iload_n 3, 1) := by decide +kernel
theorem dL_law_850 : decode cL_law 850 = .ok (.iconst 1, 1) := by decide +kernel
theorem dL_law_851 : decode cL_law 851 = .ok (.iadd, 1) := by decide +kernel
theorem dL_law_852 : decode cL_law 852 = .ok (.iaload, 1) := by decide +kernel
theorem dL_law_853 : decode cL_law 853 = .ok (.invokevirtual 110, 3) := by decide +kernel
theorem dL_law_856 : decode cL_law 856 = .ok (.aload_n 2, 1) := by decide +kernel
theorem dL_law_857 : decode cL_law 857 = .ok (.aload_n 0, 1) := by decide +kernel
theorem dL_law_858 : decode cL_law 858 = .ok (.iload_n 3, 1) := by decide +kernel
theorem dL_law_859 : decode cL_law 859 = .ok (.iconst 1, 1) := by decide +kernel
theorem dL_law_860 : decode cL_law 860 = .ok (.iadd, 1) := by decide +kernel
theorem dL_law_861 : decode cL_law 861 = .ok (.iaload, 1) := by decide +kernel
theorem dL_law_862 : decode cL_law 862 = .ok (.invokevirtual 113, 3) := by decide +kernel
theorem dL_law_865 : decode cL_law 865 = .ok (.if_icmp .eq 296, 3) := by decide +kernel
theorem dL_law_868 : decode cL_law 868 = .ok (.iconst 0, 1) := by decide +kernel
theorem dL_law_869 : decode cL_law 869 = .ok (.ireturn, 1) := by decide +kernel
theorem dL_law_870 : decode cL_law 870 = .ok (.aload_n 1, 1) := by decide +kernel
theorem dL_law_871 : decode cL_law 871 = .ok (.aload_n 0, 1) := by decide +kernel
theorem dL_law_872 : decode cL_law 872 = .ok (.iload_n 3, 1) := by decide +kernel
theorem dL_law_873 : decode cL_law 873 = .ok (.iconst 1, 1) := by decide +kernel
theorem dL_law_874 : decode cL_law 874 = .ok (.iadd, 1) := by decide +kernel
theorem dL_law_875 : decode cL_law 875 = .ok (.iaload, 1) := by decide +kernel
theorem dL_law_876 : decode cL_law 876 = .ok (.aload_n 0, 1) := by decide +kernel
theorem dL_law_877 : decode cL_law 877 = .ok (.iload_n 3, 1) := by decide +kernel
theorem dL_law_878 : decode cL_law 878 = .ok (.iconst 2, 1) := by decide +kernel
theorem dL_law_879 : decode cL_law 879 = .ok (.iadd, 1) := by decide +kernel
theorem dL_law_880 : decode cL_law 880 = .ok (.iaload, 1) := by decide +kernel
theorem dL_law_881 : decode cL_law 881 = .ok (.invokevirtual 114, 3) := by decide +kernel
theorem dL_law_884 : decode cL_law 884 = .ok (.aload_n 2, 1) := by decide +kernel
theorem dL_law_885 : decode cL_law 885 = .ok (.aload_n 0, 1) := by decide +kernel
theorem dL_law_886 : decode cL_law 886 = .ok (.iload_n 3, 1) := by decide +kernel
theorem dL_law_887 : decode cL_law 887 = .ok (.iconst 1, 1) := by decide +kernel
theorem dL_law_888 : decode cL_law 888 = .ok (.iadd, 1) := by decide +kernel
theorem dL_law_889 : decode cL_law 889 = .ok (.iaload, 1) := by decide +kernel
theorem dL_law_890 : decode cL_law 890 = .ok (.aload_n 0, 1) := by decide +kernel
theorem dL_law_891 : decode cL_law 891 = .ok (.iload_n 3, 1) := by decide +kernel
theorem dL_law_892 : decode cL_law 892 = .ok (.iconst 2, 1) := by decide +kernel
theorem dL_law_893 : decode cL_law 893 = .ok (.iadd, 1) := by decide +kernel
theorem dL_law_894 : decode cL_law 894 = .ok (.iaload, 1) := by decide +kernel
theorem dL_law_895 : decode cL_law 895 = .ok (.invokevirtual 117, 3) := by decide +kernel
theorem dL_law_898 : decode cL_law 898 = .ok (.if_icmp .eq 263, 3) := by decide +kernel
theorem dL_law_901 : decode cL_law 901 = .ok (.iconst 0, 1) := by decide +kernel
theorem dL_law_902 : decode cL_law 902 = .ok (.ireturn, 1) := by decide +kernel
theorem dL_law_903 : decode cL_law 903 = .ok (.aload_n 1, 1) := by decide +kernel
theorem dL_law_904 : decode cL_law 904 = .ok (.aload_n 0, 1) := by decide +kernel
theorem dL_law_905 : decode cL_law 905 = .ok (.iload_n 3, 1) := by decide +kernel
theorem dL_law_906 : decode cL_law 906 = .ok (.iconst 1, 1) := by decide +kernel
theorem dL_law_907 : decode cL_law 907 = .ok (.iadd, 1) := by decide +kernel
theorem dL_law_908 : decode cL_law 908 = .ok (.iaload, 1) := by decide +kernel
theorem dL_law_909 : decode cL_law 909 = .ok (.aload_n 0, 1) := by decide +kernel
theorem dL_law_910 : decode cL_law 910 = .ok (.iload_n 3, 1) := by decide +kernel
theorem dL_law_911 : decode cL_law 911 = .ok (.iconst 2, 1) := by decide +kernel
theorem dL_law_912 : decode cL_law 912 = .ok (.iadd, 1) := by decide +kernel
theorem dL_law_913 : decode cL_law 913 = .ok (.iaload, 1) := by decide +kernel
theorem dL_law_914 : decode cL_law 914 = .ok (.invokevirtual 118, 3) := by decide +kernel
theorem dL_law_917 : decode cL_law 917 = .ok (.aload_n 2, 1) := by decide +kernel
theorem dL_law_918 : decode cL_law 918 = .ok (.aload_n 0, 1) := by decide +kernel
theorem dL_law_919 : decode cL_law 919 = .ok (.iload_n 3, 1) := by decide +kernel
theorem dL_law_920 : decode cL_law 920 = .ok (.iconst 1, 1) := by decide +kernel
theorem dL_law_921 : decode cL_law 921 = .ok (.iadd, 1) := by decide +kernel
theorem dL_law_922 : decode cL_law 922 = .ok (.iaload, 1) := by decide +kernel
theorem dL_law_923 : decode cL_law 923 = .ok (.aload_n 0, 1) := by decide +kernel
theorem dL_law_924 : decode cL_law 924 = .ok (.iload_n 3, 1) := by decide +kernel
theorem dL_law_925 : decode cL_law 925 = .ok (.iconst 2, 1) := by decide +kernel
theorem dL_law_926 : decode cL_law 926 = .ok (.iadd, 1) := by decide +kernel
theorem dL_law_927 : decode cL_law 927 = .ok (.iaload, 1) := by decide +kernel
theorem dL_law_928 : decode cL_law 928 = .ok (.invokevirtual 121, 3) := by decide +kernel
theorem dL_law_931 : decode cL_law 931 = .ok (.if_icmp .eq 230, 3) := by decide +kernel
theorem dL_law_934 : decode cL_law 934 = .ok (.iconst 0, 1) := by decide +kernel
theorem dL_law_935 : decode cL_law 935 = .ok (.ireturn, 1) := by decide +kernel
theorem dL_law_936 : decode cL_law 936 = .ok (.aload_n 1, 1) := by decide +kernel
theorem dL_law_937 : decode cL_law 937 = .ok (.invokevirtual 122, 3) := by decide +kernel
theorem dL_law_940 : decode cL_law 940 = .ok (.aload_n 2, 1) := by decide +kernel
theorem dL_law_941 : decode cL_law 941 = .ok (.invokevirtual 125, 3) := by decide +kernel
theorem dL_law_944 : decode cL_law 944 = .ok (.if_icmp .eq 217, 3) := by decide +kernel
theorem dL_law_947 : decode cL_law 947 = .ok (.iconst 0, 1) := by decide +kernel
theorem dL_law_948 : decode cL_law 948 = .ok (.ireturn, 1) := by decide +kernel
theorem dL_law_949 : decode cL_law 949 = .ok (.aload_n 1, 1) := by decide +kernel
theorem dL_law_950 : decode cL_law 950 = .ok (.aload_n 0, 1) := by decide +kernel
theorem dL_law_951 : decode cL_law 951 = .ok (.iload_n 3, 1) := by decide +kernel
theorem dL_law_952 : decode cL_law 952 = .ok (.iconst 1, 1) := by decide +kernel
theorem dL_law_953 : decode cL_law 953 = .ok (.iadd, 1) := by decide +kernel
theorem dL_law_954 : decode cL_law 954 = .ok (.iaload, 1) := by decide +kernel
theorem dL_law_955 : decode cL_law 955 = .ok (.aload_n 0, 1) := by decide +kernel
theorem dL_law_956 : decode cL_law 956 = .ok (.iload_n 3, 1) := by decide +kernel
theorem dL_law_957 : decode cL_law 957 = .ok (.iconst 2, 1) := by decide +kernel
theorem dL_law_958 : decode cL_law 958 = .ok (.iadd, 1) := by decide +kernel
theorem dL_law_959 : decode cL_law 959 = .ok (.iaload, 1) := by decide +kernel
theorem dL_law_960 : decode cL_law 960 = .ok (.aload_n 0, 1) := by decide +kernel
theorem dL_law_961 : decode cL_law 961 = .ok (.iload_n 3, 1) := by decide +kernel
theorem dL_law_962 : decode cL_law 962 = .ok (.iconst 3, 1) := by decide +kernel
theorem dL_law_963 : decode cL_law 963 = .ok (.iadd, 1) := by decide +kernel
theorem dL_law_964 : decode cL_law 964 = .ok (.iaload, 1) := by decide +kernel
theorem dL_law_965 : decode cL_law 965 = .ok (.aload_n 0, 1) := by decide +kernel
theorem dL_law_966 : decode cL_law 966 = .ok (.iload_n 3, 1) := by decide +kernel
theorem dL_law_967 : decode cL_law 967 = .ok (.iconst 4, 1) := by decide +kernel
theorem dL_law_968 : decode cL_law 968 = .ok (.iadd, 1) := by decide +kernel
theorem dL_law_969 : decode cL_law 969 = .ok (.iaload, 1) := by decide +kernel
theorem dL_law_970 : decode cL_law 970 = .ok (.invokevirtual 126, 3) := by decide +kernel
theorem dL_law_973 : decode cL_law 973 = .ok (.aload_n 2, 1) := by decide +kernel
theorem dL_law_974 : decode cL_law 974 = .ok (.aload_n 0, 1) := by decide +kernel
theorem dL_law_975 : decode cL_law 975 = .ok (.iload_n 3, 1) := by decide +kernel
theorem dL_law_976 : decode cL_law 976 = .ok (.iconst 1, 1) := by decide +kernel
theorem dL_law_977 : decode cL_law 977 = .ok (.iadd, 1) := by decide +kernel
theorem dL_law_978 : decode cL_law 978 = .ok (.iaload, 1) := by decide +kernel
theorem dL_law_979 : decode cL_law 979 = .ok (.aload_n 0, 1) := by decide +kernel
theorem dL_law_980 : decode cL_law 980 = .ok (.iload_n 3, 1) := by decide +kernel
theorem dL_law_981 : decode cL_law 981 = .ok (.iconst 2, 1) := by decide +kernel
theorem dL_law_982 : decode cL_law 982 = .ok (.iadd, 1) := by decide +kernel
theorem dL_law_983 : decode cL_law 983 = .ok (.iaload, 1) := by decide +kernel
theorem dL_law_984 : decode cL_law 984 = .ok (.aload_n 0, 1) := by decide +kernel
theorem dL_law_985 : decode cL_law 985 = .ok (.iload_n 3, 1) := by decide +kernel
theorem dL_law_986 : decode cL_law 986 = .ok (.iconst 3, 1) := by decide +kernel
theorem dL_law_987 : decode cL_law 987 = .ok (.iadd, 1) := by decide +kernel
theorem dL_law_988 : decode cL_law 988 = .ok (.iaload, 1) := by decide +kernel
theorem dL_law_989 : decode cL_law 989 = .ok (.aload_n 0, 1) := by decide +kernel
theorem dL_law_990 : decode cL_law 990 = .ok (.iload_n 3, 1) := by decide +kernel
theorem dL_law_991 : decode cL_law 991 = .ok (.iconst 4, 1) := by decide +kernel
theorem dL_law_992 : decode cL_law 992 = .ok (.iadd, 1) := by decide +kernel
theorem dL_law_993 : decode cL_law 993 = .ok (.iaload, 1) := by decide +kernel
theorem dL_law_994 : decode cL_law 994 = .ok (.invokevirtual 129, 3) := by decide +kernel
theorem dL_law_997 : decode cL_law 997 = .ok (.if_icmp .eq 164, 3) := by decide +kernel
theorem dL_law_1000 : decode cL_law 1000 = .ok (.iconst 0, 1) := by decide +kernel
theorem dL_law_1001 : decode cL_law 1001 = .ok (.ireturn, 1) := by decide +kernel
theorem dL_law_1002 : decode cL_law 1002 = .ok (.aload_n 1, 1) := by decide +kernel
theorem dL_law_1003 : decode cL_law 1003 = .ok (.aload_n 0, 1) := by decide +kernel
theorem dL_law_1004 : decode cL_law 1004 = .ok (.iload_n 3, 1) := by decide +kernel
theorem dL_law_1005 : decode cL_law 1005 = .ok (.iconst 1, 1) := by decide +kernel
theorem dL_law_1006 : decode cL_law 1006 = .ok (.iadd, 1) := by decide +kernel
theorem dL_law_1007 : decode cL_law 1007 = .ok (.iaload, 1) := by decide +kernel
theorem dL_law_1008 : decode cL_law 1008 = .ok (.aload_n 0, 1) := by decide +kernel
theorem dL_law_1009 : decode cL_law 1009 = .ok (.iload_n 3, 1) := by decide +kernel
theorem dL_law_1010 : decode cL_law 1010 = .ok (.iconst 2, 1) := by decide +kernel
theorem dL_law_1011 : decode cL_law 1011 = .ok (.iadd, 1) := by decide +kernel
theorem dL_law_1012 : decode cL_law 1012 = .ok (.iaload, 1) := by decide +kernel
theorem dL_law_1013 : decode cL_law 1013 = .ok (.aload_n 0, 1) := by decide +kernel
theorem dL_law_1014 : decode cL_law 1014 = .ok (.iload_n 3, 1) := by decide +kernel
theorem dL_law_1015 : decode cL_law 1015 = .ok (.iconst 3, 1) := by decide +kernel
theorem dL_law_1016 : decode cL_law 1016 = .ok (.iadd, 1) := by decide +kernel
theorem dL_law_1017 : decode cL_law 1017 = .ok (.iaload, 1) := by decide +kernel
theorem dL_law_1018 : decode cL_law 1018 = .ok (.aload_n 0, 1) := by decide +kernel
theorem dL_law_1019 : decode cL_law 1019 = .ok (.iload_n 3, 1) := by decide +kernel
theorem dL_law_1020 : decode cL_law 1020 = .ok (.iconst 4, 1) := by decide +kernel
theorem dL_law_1021 : decode cL_law 1021 = .ok (.iadd, 1) := by decide +kernel
theorem dL_law_1022 : decode cL_law 1022 = .ok (.iaload, 1) := by decide +kernel
theorem dL_law_1023 : decode cL_law 1023 = .ok (.invokevirtual 130, 3) := by decide +kernel
theorem dL_law_1026 : decode cL_law 1026 = .ok (.aload_n 2, 1) := by decide +kernel
theorem dL_law_1027 : decode cL_law 1027 = .ok (.aload_n 0, 1) := by decide +kernel
theorem dL_law_1028 : decode cL_law 1028 = .ok (.iload_n 3, 1) := by decide +kernel
theorem dL_law_1029 : decode cL_law 1029 = .ok (.iconst 1, 1) := by decide +kernel
theorem dL_law_1030 : decode cL_law 1030 = .ok (.iadd, 1) := by decide +kernel
theorem dL_law_1031 : decode cL_law 1031 = .ok (.iaload, 1) := by decide +kernel
theorem dL_law_1032 : decode cL_law 1032 = .ok (.aload_n 0, 1) := by decide +kernel
theorem dL_law_1033 : decode cL_law 1033 = .ok (.iload_n 3, 1) := by decide +kernel
theorem dL_law_1034 : decode cL_law 1034 = .ok (.iconst 2, 1) := by decide +kernel
theorem dL_law_1035 : decode cL_law 1035 = .ok (.iadd, 1) := by decide +kernel
theorem dL_law_1036 : decode cL_law 1036 = .ok (.iaload, 1) := by decide +kernel
theorem dL_law_1037 : decode cL_law 1037 = .ok (.aload_n 0, 1) := by decide +kernel
theorem dL_law_1038 : decode cL_law 1038 = .ok (.iload_n 3, 1) := by decide +kernel
theorem dL_law_1039 : decode cL_law 1039 = .ok (.iconst 3, 1) := by decide +kernel
theorem dL_law_1040 : decode cL_law 1040 = .ok (.iadd, 1) := by decide +kernel
theorem dL_law_1041 : decode cL_law 1041 = .ok (.iaload, 1) := by decide +kernel
theorem dL_law_1042 : decode cL_law 1042 = .ok (.aload_n 0, 1) := by decide +kernel
theorem dL_law_1043 : decode cL_law 1043 = .ok (.iload_n 3, 1) := by decide +kernel
theorem dL_law_1044 : decode cL_law 1044 = .ok (.iconst 4, 1) := by decide +kernel
theorem dL_law_1045 : decode cL_law 1045 = .ok (.iadd, 1) := by decide +kernel
theorem dL_law_1046 : decode cL_law 1046 = .ok (.iaload, 1) := by decide +kernel
theorem dL_law_1047 : decode cL_law 1047 = .ok (.invokevirtual 133, 3) := by decide +kernel
theorem dL_law_1050 : decode cL_law 1050 = .ok (.if_icmp .eq 111, 3) := by decide +kernel
theorem dL_law_1053 : decode cL_law 1053 = .ok (.iconst 0, 1) := by decide +kernel
theorem dL_law_1054 : decode cL_law 1054 = .ok (.ireturn, 1) := by decide +kernel
theorem dL_law_1055 : decode cL_law 1055 = .ok (.aload_n 1, 1) := by decide +kernel
theorem dL_law_1056 : decode cL_law 1056 = .ok (.aload_n 0, 1) := by decide +kernel
theorem dL_law_1057 : decode cL_law 1057 = .ok (.iload_n 3, 1) := by decide +kernel
theorem dL_law_1058 : decode cL_law 1058 = .ok (.iconst 1, 1) := by decide +kernel
theorem dL_law_1059 : decode cL_law 1059 = .ok (.iadd, 1) := by decide +kernel
theorem dL_law_1060 : decode cL_law 1060 = .ok (.iaload, 1) := by decide +kernel
theorem dL_law_1061 : decode cL_law 1061 = .ok (.aload_n 0, 1) := by decide +kernel
theorem dL_law_1062 : decode cL_law 1062 = .ok (.iload_n 3, 1) := by decide +kernel
theorem dL_law_1063 : decode cL_law 1063 = .ok (.iconst 2, 1) := by decide +kernel
theorem dL_law_1064 : decode cL_law 1064 = .ok (.iadd, 1) := by decide +kernel
theorem dL_law_1065 : decode cL_law 1065 = .ok (.iaload, 1) := by decide +kernel
theorem dL_law_1066 : decode cL_law 1066 = .ok (.invokevirtual 134, 3) := by decide +kernel
theorem dL_law_1069 : decode cL_law 1069 = .ok (.aload_n 2, 1) := by decide +kernel
theorem dL_law_1070 : decode cL_law 1070 = .ok (.aload_n 0, 1) := by decide +kernel
theorem dL_law_1071 : decode cL_law 1071 = .ok (.iload_n 3, 1) := by decide +kernel
theorem dL_law_1072 : decode cL_law 1072 = .ok (.iconst 1, 1) := by decide +kernel
theorem dL_law_1073 : decode cL_law 1073 = .ok (.iadd, 1) := by decide +kernel
theorem dL_law_1074 : decode cL_law 1074 = .ok (.iaload, 1) := by decide +kernel
theorem dL_law_1075 : decode cL_law 1075 = .ok (.aload_n 0, 1) := by decide +kernel
theorem dL_law_1076 : decode cL_law 1076 = .ok (.iload_n 3, 1) := by decide +kernel
theorem dL_law_1077 : decode cL_law 1077 = .ok (.iconst 2, 1) := by decide +kernel
theorem dL_law_1078 : decode cL_law 1078 = .ok (.iadd, 1) := by decide +kernel
theorem dL_law_1079 : decode cL_law 1079 = .ok (.iaload, 1) := by decide +kernel
theorem dL_law_1080 : decode cL_law 1080 = .ok (.invokevirtual 137, 3) := by decide +kernel
theorem dL_law_1083 : decode cL_law 1083 = .ok (.if_icmp .eq 78, 3) := by decide +kernel
theorem dL_law_1086 : decode cL_law 1086 = .ok (.iconst 0, 1) := by decide +kernel
theorem dL_law_1087 : decode cL_law 1087 = .ok (.ireturn, 1) := by decide +kernel
theorem dL_law_1088 : decode cL_law 1088 = .ok (.aload_n 1, 1) := by decide +kernel
theorem dL_law_1089 : decode cL_law 1089 = .ok (.aload_n 0, 1) := by decide +kernel
theorem dL_law_1090 : decode cL_law 1090 = .ok (.iload_n 3, 1) := by decide +kernel
theorem dL_law_1091 : decode cL_law 1091 = .ok (.iconst 1, 1) := by decide +kernel
theorem dL_law_1092 : decode cL_law 1092 = .ok (.iadd, 1) := by decide +kernel
theorem dL_law_1093 : decode cL_law 1093 = .ok (.iaload, 1) := by decide +kernel
theorem dL_law_1094 : decode cL_law 1094 = .ok (.invokevirtual 138, 3) := by decide +kernel
theorem dL_law_1097 : decode cL_law 1097 = .ok (.aload_n 2, 1) := by decide +kernel
theorem dL_law_1098 : decode cL_law 1098 = .ok (.aload_n 0, 1) := by decide +kernel
theorem dL_law_1099 : decode cL_law 1099 = .ok (.iload_n 3, 1) := by decide +kernel
theorem dL_law_1100 : decode cL_law 1100 = .ok (.iconst 1, 1) := by decide +kernel
theorem dL_law_1101 : decode cL_law 1101 = .ok (.iadd, 1) := by decide +kernel
theorem dL_law_1102 : decode cL_law 1102 = .ok (.iaload, 1) := by decide +kernel
theorem dL_law_1103 : decode cL_law 1103 = .ok (.invokevirtual 141, 3) := by decide +kernel
theorem dL_law_1106 : decode cL_law 1106 = .ok (.if_icmp .eq 55, 3) := by decide +kernel
theorem dL_law_1109 : decode cL_law 1109 = .ok (.iconst 0, 1) := by decide +kernel
theorem dL_law_1110 : decode cL_law 1110 = .ok (.ireturn, 1) := by decide +kernel
theorem dL_law_1111 : decode cL_law 1111 = .ok (.aload_n 1, 1) := by decide +kernel
theorem dL_law_1112 : decode cL_law 1112 = .ok (.invokevirtual 142, 3) := by decide +kernel
theorem dL_law_1115 : decode cL_law 1115 = .ok (.aload_n 2, 1) := by decide +kernel
theorem dL_law_1116 : decode cL_law 1116 = .ok (.invokevirtual 145, 3) := by decide +kernel
theorem dL_law_1119 : decode cL_law 1119 = .ok (.if_icmp .eq 42, 3) := by decide +kernel
theorem dL_law_1122 : decode cL_law 1122 = .ok (.iconst 0, 1) := by decide +kernel
theorem dL_law_1123 : decode cL_law 1123 = .ok (.ireturn, 1) := by decide +kernel
theorem dL_law_1124 : decode cL_law 1124 = .ok (.aload_n 1, 1) := by decide +kernel
theorem dL_law_1125 : decode cL_law 1125 = .ok (.aload_n 0, 1) := by decide +kernel
theorem dL_law_1126 : decode cL_law 1126 = .ok (.iload_n 3, 1) := by decide +kernel
theorem dL_law_1127 : decode cL_law 1127 = .ok (.iconst 1, 1) := by decide +kernel
theorem dL_law_1128 : decode cL_law 1128 = .ok (.iadd, 1) := by decide +kernel
theorem dL_law_1129 : decode cL_law 1129 = .ok (.iaload, 1) := by decide +kernel
theorem dL_law_1130 : decode cL_law 1130 = .ok (.invokevirtual 146, 3) := by decide +kernel
theorem dL_law_1133 : decode cL_law 1133 = .ok (.aload_n 2, 1) := by decide +kernel
theorem dL_law_1134 : decode cL_law 1134 = .ok (.aload_n 0, 1) := by decide +kernel
theorem dL_law_1135 : decode cL_law 1135 = .ok (.iload_n 3, 1) := by decide +kernel
theorem dL_law_1136 : decode cL_law 1136 = .ok (.iconst 1, 1) := by decide +kernel
theorem dL_law_1137 : decode cL_law 1137 = .ok (.iadd, 1) := by decide +kernel
theorem dL_law_1138 : decode cL_law 1138 = .ok (.iaload, 1) := by decide +kernel
theorem dL_law_1139 : decode cL_law 1139 = .ok (.invokevirtual 149, 3) := by decide +kernel
theorem dL_law_1142 : decode cL_law 1142 = .ok (.if_icmp .eq 19, 3) := by decide +kernel
theorem dL_law_1145 : decode cL_law 1145 = .ok (.iconst 0, 1) := by decide +kernel
theorem dL_law_1146 : decode cL_law 1146 = .ok (.ireturn, 1) := by decide +kernel
theorem dL_law_1147 : decode cL_law 1147 = .ok (.aload_n 1, 1) := by decide +kernel
theorem dL_law_1148 : decode cL_law 1148 = .ok (.invokevirtual 150, 3) := by decide +kernel
theorem dL_law_1151 : decode cL_law 1151 = .ok (.aload_n 2, 1) := by decide +kernel
theorem dL_law_1152 : decode cL_law 1152 = .ok (.invokevirtual 154, 3) := by decide +kernel
theorem dL_law_1155 : decode cL_law 1155 = .ok (.lcmp, 1) := by decide +kernel
theorem dL_law_1156 : decode cL_law 1156 = .ok (.ifCond .eq 5, 3) := by decide +kernel
theorem dL_law_1159 : decode cL_law 1159 = .ok (.iconst 0, 1) := by decide +kernel
theorem dL_law_1160 : decode cL_law 1160 = .ok (.ireturn, 1) := by decide +kernel
theorem dL_law_1161 : decode cL_law 1161 = .ok (.iinc 3 5, 3) := by decide +kernel
theorem dL_law_1164 : decode cL_law 1164 = .ok (.goto (-1146), 3) := by decide +kernel
theorem dL_law_1167 : decode cL_law 1167 = .ok (.iconst 1, 1) := by decide +kernel
theorem dL_law_1168 : decode cL_law 1168 = .ok (.ireturn, 1) := by decide +kernel
