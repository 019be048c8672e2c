theorem dX11_crew_0 : decode cX11_crew 0 = .ok (.iload_n 1, 1) := by decide +kernel
theorem dX11_crew_1 : decode cX11_crew 1 = .ok (.iconst 0, 1) := by decide +kernel
theorem dX11_crew_2 : decode cX11_crew 2 = .ok (.aload_n 0, 1) := by decide +kernel
theorem dX11_crew_3 : decode cX11_crew 3 = .ok (.getfield 26, 3) := by decide +kernel
theorem dX11_crew_6 : decode cX11_crew 6 = .ok (.invokevirtual 132, 3) := by decide +kernel
theorem dX11_crew_9 : decode cX11_crew 9 = .ok (.invokestatic 113, 3) := by decide +kernel
theorem dX11_crew_12 : decode cX11_crew 12 = .ok (.ifCond .ne 6, 3) := by decide +kernel
theorem dX11_crew_15 : decode cX11_crew 15 = .ok (.bipush (-2), 2) := by decide +kernel
theorem dX11_crew_17 : decode cX11_crew 17 = .ok (.ireturn, 1) := by decide +kernel
theorem dX11_crew_18 : decode cX11_crew 18 = .ok (.aload_n 0, 1) := by decide +kernel
theorem dX11_crew_19 : decode cX11_crew 19 = .ok (.getfield 26, 3) := by decide +kernel
theorem dX11_crew_22 : decode cX11_crew 22 = .ok (.getfield 135, 3) := by decide +kernel
theorem dX11_crew_25 : decode cX11_crew 25 = .ok (.istore_n 2, 1) := by decide +kernel
theorem dX11_crew_26 : decode cX11_crew 26 = .ok (.aload_n 0, 1) := by decide +kernel
theorem dX11_crew_27 : decode cX11_crew 27 = .ok (.getfield 26, 3) := by decide +kernel
theorem dX11_crew_30 : decode cX11_crew 30 = .ok (.iload_n 1, 1) := by decide +kernel
theorem dX11_crew_31 : decode cX11_crew 31 = .ok (.putfield 135, 3) := by decide +kernel
theorem dX11_crew_34 : decode cX11_crew 34 = .ok (.aload_n 0, 1) := by decide +kernel
theorem dX11_crew_35 : decode cX11_crew 35 = .ok (.getfield 43, 3) := by decide +kernel
theorem dX11_crew_38 : decode cX11_crew 38 = .ok (.iconst 0, 1) := by decide +kernel
theorem dX11_crew_39 : decode cX11_crew 39 = .ok (.putfield 102, 3) := by decide +kernel
theorem dX11_crew_42 : decode cX11_crew 42 = .ok (.iload_n 2, 1) := by decide +kernel
theorem dX11_crew_43 : decode cX11_crew 43 = .ok (.ireturn, 1) := by decide +kernel
theorem dX6_mixedInto_0 : decode cX6_mixedInto 0 = .ok (.lload_n 1, 1) := by decide +kernel
theorem dX6_mixedInto_1 : decode cX6_mixedInto 1 = .ok (.lstore_n 3, 1) := by decide +kernel
theorem dX6_mixedInto_2 : decode cX6_mixedInto 2 = .ok (.iconst 0, 1) := by decide +kernel
theorem dX6_mixedInto_3 : decode cX6_mixedInto 3 = .ok (.istore 5, 2) := by decide +kernel
theorem dX6_mixedInto_5 : decode cX6_mixedInto 5 = .ok (.iload 5, 2) := by decide +kernel
theorem dX6_mixedInto_7 : decode cX6_mixedInto 7 = .ok (.aload_n 0, 1) := by decide +kernel
theorem dX6_mixedInto_8 : decode cX6_mixedInto 8 = .ok (.getfield 15, 3) := by decide +kernel
theorem dX6_mixedInto_11 : decode cX6_mixedInto 11 = .ok (.if_icmp .ge 24, 3) := by decide +kernel
theorem dX6_mixedInto_14 : decode cX6_mixedInto 14 = .ok (.ldc2_w 23, 3) := by decide +kernel
theorem dX6_mixedInto_17 : decode cX6_mixedInto 17 = .ok (.lload_n 3, 1) := by decide +kernel
theorem dX6_mixedInto_18 : decode cX6_mixedInto 18 = .ok (.lmul, 1) := by decide +kernel
theorem dX6_mixedInto_19 : decode cX6_mixedInto 19 = .ok (.aload_n 0, 1) := by decide +kernel
theorem dX6_mixedInto_20 : decode cX6_mixedInto 20 = .ok (.getfield 9, 3) := by decide +kernel
theorem dX6_mixedInto_23 : decode cX6_mixedInto 23 = .ok (.iload 5, 2) := by decide +kernel
theorem dX6_mixedInto_25 : decode cX6_mixedInto 25 = .ok (.iaload, 1) := by decide +kernel
theorem dX6_mixedInto_26 : decode cX6_mixedInto 26 = .ok (.i2l, 1) := by decide +kernel
theorem dX6_mixedInto_27 : decode cX6_mixedInto 27 = .ok (.ladd, 1) := by decide +kernel
theorem dX6_mixedInto_28 : decode cX6_mixedInto 28 = .ok (.lstore_n 3, 1) := by decide +kernel
theorem dX6_mixedInto_29 : decode cX6_mixedInto 29 = .ok (.iinc 5 1, 3) := by decide +kernel
theorem dX6_mixedInto_32 : decode cX6_mixedInto 32 = .ok (.goto (-27), 3) := by decide +kernel
theorem dX6_mixedInto_35 : decode cX6_mixedInto 35 = .ok (.lload_n 3, 1) := by decide +kernel
theorem dX6_mixedInto_36 : decode cX6_mixedInto 36 = .ok (.lreturn, 1) := by decide +kernel
theorem dX7_mixedInto_0 : decode cX7_mixedInto 0 = .ok (.ldc2_w 29, 3) := by decide +kernel
theorem dX7_mixedInto_3 : decode cX7_mixedInto 3 = .ok (.lload_n 1, 1) := by decide +kernel
theorem dX7_mixedInto_4 : decode cX7_mixedInto 4 = .ok (.lmul, 1) := by decide +kernel
theorem dX7_mixedInto_5 : decode cX7_mixedInto 5 = .ok (.aload_n 0, 1) := by decide +kernel
theorem dX7_mixedInto_6 : decode cX7_mixedInto 6 = .ok (.getfield 12, 3) := by decide +kernel
theorem dX7_mixedInto_9 : decode cX7_mixedInto 9 = .ok (.getfield 21, 3) := by decide +kernel
theorem dX7_mixedInto_12 : decode cX7_mixedInto 12 = .ok (.i2l, 1) := by decide +kernel
theorem dX7_mixedInto_13 : decode cX7_mixedInto 13 = .ok (.ladd, 1) := by decide +kernel
theorem dX7_mixedInto_14 : decode cX7_mixedInto 14 = .ok (.lstore_n 3, 1) := by decide +kernel
theorem dX7_mixedInto_15 : decode cX7_mixedInto 15 = .ok (.ldc2_w 29, 3) := by decide +kernel
theorem dX7_mixedInto_18 : decode cX7_mixedInto 18 = .ok (.lload_n 3, 1) := by decide +kernel
theorem dX7_mixedInto_19 : decode cX7_mixedInto 19 = .ok (.lmul, 1) := by decide +kernel
theorem dX7_mixedInto_20 : decode cX7_mixedInto 20 = .ok (.aload_n 0, 1) := by decide +kernel
theorem dX7_mixedInto_21 : decode cX7_mixedInto 21 = .ok (.getfield 18, 3) := by decide +kernel
theorem dX7_mixedInto_24 : decode cX7_mixedInto 24 = .ok (.getfield 21, 3) := by decide +kernel
theorem dX7_mixedInto_27 : decode cX7_mixedInto 27 = .ok (.i2l, 1) := by decide +kernel
theorem dX7_mixedInto_28 : decode cX7_mixedInto 28 = .ok (.ladd, 1) := by decide +kernel
theorem dX7_mixedInto_29 : decode cX7_mixedInto 29 = .ok (.lstore_n 3, 1) := by decide +kernel
theorem dX7_mixedInto_30 : decode cX7_mixedInto 30 = .ok (.aload_n 0, 1) := by decide +kernel
theorem dX7_mixedInto_31 : decode cX7_mixedInto 31 = .ok (.getfield 18, 3) := by decide +kernel
theorem dX7_mixedInto_34 : decode cX7_mixedInto 34 = .ok (.aload_n 0, 1) := by decide +kernel
theorem dX7_mixedInto_35 : decode cX7_mixedInto 35 = .ok (.getfield 12, 3) := by decide +kernel
theorem dX7_mixedInto_38 : decode cX7_mixedInto 38 = .ok (.lload_n 3, 1) := by decide +kernel
theorem dX7_mixedInto_39 : decode cX7_mixedInto 39 = .ok (.invokevirtual 31, 3) := by decide +kernel
theorem dX7_mixedInto_42 : decode cX7_mixedInto 42 = .ok (.invokevirtual 31, 3) := by decide +kernel
theorem dX7_mixedInto_45 : decode cX7_mixedInto 45 = .ok (.lreturn, 1) := by decide +kernel
theorem dX1_mixedInto_0 : decode cX1_mixedInto 0 = .ok (.lload_n 1, 1) := by decide +kernel
theorem dX1_mixedInto_1 : decode cX1_mixedInto 1 = .ok (.lstore_n 3, 1) := by decide +kernel
theorem dX1_mixedInto_2 : decode cX1_mixedInto 2 = .ok (.iconst 0, 1) := by decide +kernel
theorem dX1_mixedInto_3 : decode cX1_mixedInto 3 = .ok (.istore 5, 2) := by decide +kernel
theorem dX1_mixedInto_5 : decode cX1_mixedInto 5 = .ok (.iload 5, 2) := by decide +kernel
theorem dX1_mixedInto_7 : decode cX1_mixedInto 7 = .ok (.aload_n 0, 1) := by decide +kernel
theorem dX1_mixedInto_8 : decode cX1_mixedInto 8 = .ok (.getfield 47, 3) := by decide +kernel
theorem dX1_mixedInto_11 : decode cX1_mixedInto 11 = .ok (.if_icmp .ge 24, 3) := by decide +kernel
theorem dX1_mixedInto_14 : decode cX1_mixedInto 14 = .ok (.ldc2_w 112, 3) := by decide +kernel
theorem dX1_mixedInto_17 : decode cX1_mixedInto 17 = .ok (.lload_n 3, 1) := by decide +kernel
theorem dX1_mixedInto_18 : decode cX1_mixedInto 18 = .ok (.lmul, 1) := by decide +kernel
theorem dX1_mixedInto_19 : decode cX1_mixedInto 19 = .ok (.aload_n 0, 1) := by decide +kernel
theorem dX1_mixedInto_20 : decode cX1_mixedInto 20 = .ok (.getfield 18, 3) := by decide +kernel
theorem dX1_mixedInto_23 : decode cX1_mixedInto 23 = .ok (.iload 5, 2) := by decide +kernel
theorem dX1_mixedInto_25 : decode cX1_mixedInto 25 = .ok (.iaload, 1) := by decide +kernel
theorem dX1_mixedInto_26 : decode cX1_mixedInto 26 = .ok (.i2l, 1) := by decide +kernel
theorem dX1_mixedInto_27 : decode cX1_mixedInto 27 = .ok (.ladd, 1) := by decide +kernel
theorem dX1_mixedInto_28 : decode cX1_mixedInto 28 = .ok (.lstore_n 3, 1) := by decide +kernel
theorem dX1_mixedInto_29 : decode cX1_mixedInto 29 = .ok (.iinc 5 1, 3) := by decide +kernel
theorem dX1_mixedInto_32 : decode cX1_mixedInto 32 = .ok (.goto (-27), 3) := by decide +kernel
theorem dX1_mixedInto_35 : decode cX1_mixedInto 35 = .ok (.iconst 0, 1) := by decide +kernel
theorem dX1_mixedInto_36 : decode cX1_mixedInto 36 = .ok (.istore 5, 2) := by decide +kernel
theorem dX1_mixedInto_38 : decode cX1_mixedInto 38 = .ok (.iload 5, 2) := by decide +kernel
theorem dX1_mixedInto_40 : decode cX1_mixedInto 40 = .ok (.aload_n 0, 1) := by decide +kernel
theorem dX1_mixedInto_41 : decode cX1_mixedInto 41 = .ok (.getfield 47, 3) := by decide +kernel
theorem dX1_mixedInto_44 : decode cX1_mixedInto 44 = .ok (.if_icmp .ge 24, 3) := by decide +kernel
theorem dX1_mixedInto_47 : decode cX1_mixedInto 47 = .ok (.ldc2_w 112, 3) := by decide +kernel
theorem dX1_mixedInto_50 : decode cX1_mixedInto 50 = .ok (.lload_n 3, 1) := by decide +kernel
theorem dX1_mixedInto_51 : decode cX1_mixedInto 51 = .ok (.lmul, 1) := by decide +kernel
theorem dX1_mixedInto_52 : decode cX1_mixedInto 52 = .ok (.aload_n 0, 1) := by decide +kernel
theorem dX1_mixedInto_53 : decode cX1_mixedInto 53 = .ok (.getfield 21, 3) := by decide +kernel
theorem dX1_mixedInto_56 : decode cX1_mixedInto 56 = .ok (.iload 5, 2) := by decide +kernel
theorem dX1_mixedInto_58 : decode cX1_mixedInto 58 = .ok (.iaload, 1) := by decide +kernel
theorem dX1_mixedInto_59 : decode cX1_mixedInto 59 = .ok (.i2l, 1) := by decide +kernel
theorem dX1_mixedInto_60 : decode cX1_mixedInto 60 = .ok (.ladd, 1) := by decide +kernel
theorem dX1_mixedInto_61 : decode cX1_mixedInto 61 = .ok (.lstore_n 3, 1) := by decide +kernel
theorem dX1_mixedInto_62 : decode cX1_mixedInto 62 = .ok (.iinc 5 1, 3) := by decide +kernel
theorem dX1_mixedInto_65 : decode cX1_mixedInto 65 = .ok (.goto (-27), 3) := by decide +kernel
theorem dX1_mixedInto_68 : decode cX1_mixedInto 68 = .ok (.lload_n 3, 1) := by decide +kernel
theorem dX1_mixedInto_69 : decode cX1_mixedInto 69 = .ok (.lreturn, 1) := by decide +kernel
theorem dX8_mixedInto_0 : decode cX8_mixedInto 0 = .ok (.ldc2_w 25, 3) := by decide +kernel
theorem dX8_mixedInto_3 : decode cX8_mixedInto 3 = .ok (.lload_n 1, 1) := by decide +kernel
theorem dX8_mixedInto_4 : decode cX8_mixedInto 4 = .ok (.lmul, 1) := by decide +kernel
theorem dX8_mixedInto_5 : decode cX8_mixedInto 5 = .ok (.aload_n 0, 1) := by decide +kernel
theorem dX8_mixedInto_6 : decode cX8_mixedInto 6 = .ok (.getfield 7, 3) := by decide +kernel
theorem dX8_mixedInto_9 : decode cX8_mixedInto 9 = .ok (.i2l, 1) := by decide +kernel
theorem dX8_mixedInto_10 : decode cX8_mixedInto 10 = .ok (.ladd, 1) := by decide +kernel
theorem dX8_mixedInto_11 : decode cX8_mixedInto 11 = .ok (.lstore_n 3, 1) := by decide +kernel
theorem dX8_mixedInto_12 : decode cX8_mixedInto 12 = .ok (.ldc2_w 25, 3) := by decide +kernel
theorem dX8_mixedInto_15 : decode cX8_mixedInto 15 = .ok (.lload_n 3, 1) := by decide +kernel
theorem dX8_mixedInto_16 : decode cX8_mixedInto 16 = .ok (.lmul, 1) := by decide +kernel
theorem dX8_mixedInto_17 : decode cX8_mixedInto 17 = .ok (.aload_n 0, 1) := by decide +kernel
theorem dX8_mixedInto_18 : decode cX8_mixedInto 18 = .ok (.getfield 13, 3) := by decide +kernel
theorem dX8_mixedInto_21 : decode cX8_mixedInto 21 = .ok (.i2l, 1) := by decide +kernel
theorem dX8_mixedInto_22 : decode cX8_mixedInto 22 = .ok (.ladd, 1) := by decide +kernel
theorem dX8_mixedInto_23 : decode cX8_mixedInto 23 = .ok (.lstore_n 3, 1) := by decide +kernel
theorem dX8_mixedInto_24 : decode cX8_mixedInto 24 = .ok (.ldc2_w 25, 3) := by decide +kernel
theorem dX8_mixedInto_27 : decode cX8_mixedInto 27 = .ok (.lload_n 3, 1) := by decide +kernel
theorem dX8_mixedInto_28 : decode cX8_mixedInto 28 = .ok (.lmul, 1) := by decide +kernel
theorem dX8_mixedInto_29 : decode cX8_mixedInto 29 = .ok (.aload_n 0, 1) := by decide +kernel
theorem dX8_mixedInto_30 : decode cX8_mixedInto 30 = .ok (.getfield 16, 3) := by decide +kernel
theorem dX8_mixedInto_33 : decode cX8_mixedInto 33 = .ok (.i2l, 1) := by decide +kernel
theorem dX8_mixedInto_34 : decode cX8_mixedInto 34 = .ok (.ladd, 1) := by decide +kernel
theorem dX8_mixedInto_35 : decode cX8_mixedInto 35 = .ok (.lreturn, 1) := by decide +kernel
theorem dX5_mixedInto_0 : decode cX5_mixedInto 0 = .ok (.lload_n 1, 1) := by decide +kernel
theorem dX5_mixedInto_1 : decode cX5_mixedInto 1 = .ok (.lstore_n 3, 1) := by decide +kernel
theorem dX5_mixedInto_2 : decode cX5_mixedInto 2 = .ok (.iconst 0, 1) := by decide +kernel
theorem dX5_mixedInto_3 : decode cX5_mixedInto 3 = .ok (.istore 5, 2) := by decide +kernel
theorem dX5_mixedInto_5 : decode cX5_mixedInto 5 = .ok (.iload 5, 2) := by decide +kernel
theorem dX5_mixedInto_7 : decode cX5_mixedInto 7 = .ok (.aload_n 0, 1) := by decide +kernel
theorem dX5_mixedInto_8 : decode cX5_mixedInto 8 = .ok (.getfield 18, 3) := by decide +kernel
theorem dX5_mixedInto_11 : decode cX5_mixedInto 11 = .ok (.if_icmp .ge 39, 3) := by decide +kernel
theorem dX5_mixedInto_14 : decode cX5_mixedInto 14 = .ok (.ldc2_w 36, 3) := by decide +kernel
theorem dX5_mixedInto_17 : decode cX5_mixedInto 17 = .ok (.lload_n 3, 1) := by decide +kernel
theorem dX5_mixedInto_18 : decode cX5_mixedInto 18 = .ok (.lmul, 1) := by decide +kernel
theorem dX5_mixedInto_19 : decode cX5_mixedInto 19 = .ok (.aload_n 0, 1) := by decide +kernel
theorem dX5_mixedInto_20 : decode cX5_mixedInto 20 = .ok (.getfield 9, 3) := by decide +kernel
theorem dX5_mixedInto_23 : decode cX5_mixedInto 23 = .ok (.iload 5, 2) := by decide +kernel
theorem dX5_mixedInto_25 : decode cX5_mixedInto 25 = .ok (.iaload, 1) := by decide +kernel
theorem dX5_mixedInto_26 : decode cX5_mixedInto 26 = .ok (.i2l, 1) := by decide +kernel
theorem dX5_mixedInto_27 : decode cX5_mixedInto 27 = .ok (.ladd, 1) := by decide +kernel
theorem dX5_mixedInto_28 : decode cX5_mixedInto 28 = .ok (.lstore_n 3, 1) := by decide +kernel
theorem dX5_mixedInto_29 : decode cX5_mixedInto 29 = .ok (.ldc2_w 36, 3) := by decide +kernel
theorem dX5_mixedInto_32 : decode cX5_mixedInto 32 = .ok (.lload_n 3, 1) := by decide +kernel
theorem dX5_mixedInto_33 : decode cX5_mixedInto 33 = .ok (.lmul, 1) := by decide +kernel
theorem dX5_mixedInto_34 : decode cX5_mixedInto 34 = .ok (.aload_n 0, 1) := by decide +kernel
theorem dX5_mixedInto_35 : decode cX5_mixedInto 35 = .ok (.getfield 15, 3) := by decide +kernel
theorem dX5_mixedInto_38 : decode cX5_mixedInto 38 = .ok (.iload 5, 2) := by decide +kernel
theorem dX5_mixedInto_40 : decode cX5_mixedInto 40 = .ok (.iaload, 1) := by decide +kernel
theorem dX5_mixedInto_41 : decode cX5_mixedInto 41 = .ok (.i2l, 1) := by decide +kernel
theorem dX5_mixedInto_42 : decode cX5_mixedInto 42 = .ok (.ladd, 1) := by decide +kernel
theorem dX5_mixedInto_43 : decode cX5_mixedInto 43 = .ok (.lstore_n 3, 1) := by decide +kernel
theorem dX5_mixedInto_44 : decode cX5_mixedInto 44 = .ok (.iinc 5 1, 3) := by decide +kernel
theorem dX5_mixedInto_47 : decode cX5_mixedInto 47 = .ok (.goto (-42), 3) := by decide +kernel
theorem dX5_mixedInto_50 : decode cX5_mixedInto 50 = .ok (.lload_n 3, 1) := by decide +kernel
theorem dX5_mixedInto_51 : decode cX5_mixedInto 51 = .ok (.lreturn, 1) := by decide +kernel
theorem dX11_digest_0 : decode cX11_digest 0 = .ok (.ldc2_w 291, 3) := by decide +kernel
theorem dX11_digest_3 : decode cX11_digest 3 = .ok (.lstore_n 1, 1) := by decide +kernel
theorem dX11_digest_4 : decode cX11_digest 4 = .ok (.iconst 0, 1) := by decide +kernel
theorem dX11_digest_5 : decode cX11_digest 5 = .ok (.istore_n 3, 1) := by decide +kernel
theorem dX11_digest_6 : decode cX11_digest 6 = .ok (.iload_n 3, 1) := by decide +kernel
theorem dX11_digest_7 : decode cX11_digest 7 = .ok (.bipush 8, 2) := by decide +kernel
theorem dX11_digest_9 : decode cX11_digest 9 = .ok (.if_icmp .gt 22, 3) := by decide +kernel
theorem dX11_digest_12 : decode cX11_digest 12 = .ok (.ldc2_w 293, 3) := by decide +kernel
theorem dX11_digest_15 : decode cX11_digest 15 = .ok (.lload_n 1, 1) := by decide +kernel
theorem dX11_digest_16 : decode cX11_digest 16 = .ok (.lmul, 1) := by decide +kernel
theorem dX11_digest_17 : decode cX11_digest 17 = .ok (.aload_n 0, 1) := by decide +kernel
theorem dX11_digest_18 : decode cX11_digest 18 = .ok (.iload_n 3, 1) := by decide +kernel
theorem dX11_digest_19 : decode cX11_digest 19 = .ok (.invokevirtual 295, 3) := by decide +kernel
theorem dX11_digest_22 : decode cX11_digest 22 = .ok (.i2l, 1) := by decide +kernel
theorem dX11_digest_23 : decode cX11_digest 23 = .ok (.ladd, 1) := by decide +kernel
theorem dX11_digest_24 : decode cX11_digest 24 = .ok (.lstore_n 1, 1) := by decide +kernel
theorem dX11_digest_25 : decode cX11_digest 25 = .ok (.iinc 3 1, 3) := by decide +kernel
theorem dX11_digest_28 : decode cX11_digest 28 = .ok (.goto (-22), 3) := by decide +kernel
theorem dX11_digest_31 : decode cX11_digest 31 = .ok (.aload_n 0, 1) := by decide +kernel
theorem dX11_digest_32 : decode cX11_digest 32 = .ok (.getfield 10, 3) := by decide +kernel
theorem dX11_digest_35 : decode cX11_digest 35 = .ok (.lload_n 1, 1) := by decide +kernel
theorem dX11_digest_36 : decode cX11_digest 36 = .ok (.invokevirtual 298, 3) := by decide +kernel
theorem dX11_digest_39 : decode cX11_digest 39 = .ok (.lstore_n 1, 1) := by decide +kernel
theorem dX11_digest_40 : decode cX11_digest 40 = .ok (.iconst 0, 1) := by decide +kernel
theorem dX11_digest_41 : decode cX11_digest 41 = .ok (.istore_n 3, 1) := by decide +kernel
theorem dX11_digest_42 : decode cX11_digest 42 = .ok (.iload_n 3, 1) := by decide +kernel
theorem dX11_digest_43 : decode cX11_digest 43 = .ok (.aload_n 0, 1) := by decide +kernel
theorem dX11_digest_44 : decode cX11_digest 44 = .ok (.getfield 19, 3) := by decide +kernel
theorem dX11_digest_47 : decode cX11_digest 47 = .ok (.invokevirtual 86, 3) := by decide +kernel
theorem dX11_digest_50 : decode cX11_digest 50 = .ok (.if_icmp .ge 25, 3) := by decide +kernel
theorem dX11_digest_53 : decode cX11_digest 53 = .ok (.aload_n 0, 1) := by decide +kernel
theorem dX11_digest_54 : decode cX11_digest 54 = .ok (.getfield 19, 3) := by decide +kernel
theorem dX11_digest_57 : decode cX11_digest 57 = .ok (.iload_n 3, 1) := by decide +kernel
theorem dX11_digest_58 : decode cX11_digest 58 = .ok (.invokevirtual 203, 3) := by decide +kernel
theorem dX11_digest_61 : decode cX11_digest 61 = .ok (.checkcast 89, 3) := by decide +kernel
theorem dX11_digest_64 : decode cX11_digest 64 = .ok (.lload_n 1, 1) := by decide +kernel
theorem dX11_digest_65 : decode cX11_digest 65 = .ok (.invokevirtual 302, 3) := by decide +kernel
theorem dX11_digest_68 : decode cX11_digest 68 = .ok (.lstore_n 1, 1) := by decide +kernel
theorem dX11_digest_69 : decode cX11_digest 69 = .ok (.iinc 3 1, 3) := by decide +kernel
theorem dX11_digest_72 : decode cX11_digest 72 = .ok (.goto (-30), 3) := by decide +kernel
theorem dX11_digest_75 : decode cX11_digest 75 = .ok (.aload_n 0, 1) := by decide +kernel
theorem dX11_digest_76 : decode cX11_digest 76 = .ok (.getfield 26, 3) := by decide +kernel
theorem dX11_digest_79 : decode cX11_digest 79 = .ok (.lload_n 1, 1) := by decide +kernel
theorem dX11_digest_80 : decode cX11_digest 80 = .ok (.invokevirtual 303, 3) := by decide +kernel
theorem dX11_digest_83 : decode cX11_digest 83 = .ok (.lstore_n 1, 1) := by decide +kernel
theorem dX11_digest_84 : decode cX11_digest 84 = .ok (.aload_n 0, 1) := by decide +kernel
theorem dX11_digest_85 : decode cX11_digest 85 = .ok (.getfield 33, 3) := by decide +kernel
theorem dX11_digest_88 : decode cX11_digest 88 = .ok (.lload_n 1, 1) := by decide +kernel
theorem dX11_digest_89 : decode cX11_digest 89 = .ok (.invokevirtual 304, 3) := by decide +kernel
theorem dX11_digest_92 : decode cX11_digest 92 = .ok (.lstore_n 1, 1) := by decide +kernel
theorem dX11_digest_93 : decode cX11_digest 93 = .ok (.iconst 0, 1) := by decide +kernel
theorem dX11_digest_94 : decode cX11_digest 94 = .ok (.istore_n 3, 1) := by decide +kernel
theorem dX11_digest_95 : decode cX11_digest 95 = .ok (.iload_n 3, 1) := by decide +kernel
theorem dX11_digest_96 : decode cX11_digest 96 = .ok (.aload_n 0, 1) := by decide +kernel
theorem dX11_digest_97 : decode cX11_digest 97 = .ok (.getfield 37, 3) := by decide +kernel
theorem dX11_digest_100 : decode cX11_digest 100 = .ok (.invokevirtual 86, 3) := by decide +kernel
theorem dX11_digest_103 : decode cX11_digest 103 = .ok (.if_icmp .ge 25, 3) := by decide +kernel
theorem dX11_digest_106 : decode cX11_digest 106 = .ok (.aload_n 0, 1) := by decide +kernel
theorem dX11_digest_107 : decode cX11_digest 107 = .ok (.getfield 37, 3) := by decide +kernel
theorem dX11_digest_110 : decode cX11_digest 110 = .ok (.iload_n 3, 1) := by decide +kernel
theorem dX11_digest_111 : decode cX11_digest 111 = .ok (.invokevirtual 203, 3) := by decide +kernel
theorem dX11_digest_114 : decode cX11_digest 114 = .ok (.checkcast 158, 3) := by decide +kernel
theorem dX11_digest_117 : decode cX11_digest 117 = .ok (.lload_n 1, 1) := by decide +kernel
theorem dX11_digest_118 : decode cX11_digest 118 = .ok (.invokevirtual 305, 3) := by decide +kernel
theorem dX11_digest_121 : decode cX11_digest 121 = .ok (.lstore_n 1, 1) := by decide +kernel
theorem dX11_digest_122 : decode cX11_digest 122 = .ok (.iinc 3 1, 3) := by decide +kernel
theorem dX11_digest_125 : decode cX11_digest 125 = .ok (.goto (-30), 3) := by decide +kernel
theorem dX11_digest_128 : decode cX11_digest 128 = .ok (.iconst 0, 1) := by decide +kernel
theorem dX11_digest_129 : decode cX11_digest 129 = .ok (.istore_n 3, 1) := by decide +kernel
theorem dX11_digest_130 : decode cX11_digest 130 = .ok (.iload_n 3, 1) := by decide +kernel
theorem dX11_digest_131 : decode cX11_digest 131 = .ok (.aload_n 0, 1) := by decide +kernel
theorem dX11_digest_132 : decode cX11_digest 132 = .ok (.getfield 47, 3) := by decide +kernel
theorem dX11_digest_135 : decode cX11_digest 135 = .ok (.invokevirtual 86, 3) := by decide +kernel
theorem dX11_digest_138 : decode cX11_digest 138 = .ok (.if_icmp .ge 25, 3) := by decide +kernel
theorem dX11_digest_141 : decode cX11_digest 141 = .ok (.aload_n 0, 1) := by decide +kernel
theorem dX11_digest_142 : decode cX11_digest 142 = .ok (.getfield 47, 3) := by decide +kernel
theorem dX11_digest_145 : decode cX11_digest 145 = .ok (.iload_n 3, 1) := by decide +kernel
theorem dX11_digest_146 : decode cX11_digest 146 = .ok (.invokevirtual 203, 3) := by decide +kernel
theorem dX11_digest_149 : decode cX11_digest 149 = .ok (.checkcast 220, 3) := by decide +kernel
theorem dX11_digest_152 : decode cX11_digest 152 = .ok (.lload_n 1, 1) := by decide +kernel
theorem dX11_digest_153 : decode cX11_digest 153 = .ok (.invokevirtual 306, 3) := by decide +kernel
theorem dX11_digest_156 : decode cX11_digest 156 = .ok (.lstore_n 1, 1) := by decide +kernel
theorem dX11_digest_157 : decode cX11_digest 157 = .ok (.iinc 3 1, 3) := by decide +kernel
theorem dX11_digest_160 : decode cX11_digest 160 = .ok (.goto (-30), 3) := by decide +kernel
theorem dX11_digest_163 : decode cX11_digest 163 = .ok (.aload_n 0, 1) := by decide +kernel
theorem dX11_digest_164 : decode cX11_digest 164 = .ok (.getfield 60, 3) := by decide +kernel
theorem dX11_digest_167 : decode cX11_digest 167 = .ok (.lload_n 1, 1) := by decide +kernel
theorem dX11_digest_168 : decode cX11_digest 168 = .ok (.invokevirtual 307, 3) := by decide +kernel
theorem dX11_digest_171 : decode cX11_digest 171 = .ok (.lreturn, 1) := by decide +kernel
theorem dX11_floor_0 : decode cX11_floor 0 = .ok (.iload_n 1, 1) := by decide +kernel
theorem dX11_floor_1 : decode cX11_floor 1 = .ok (.iconst 0, 1) := by decide +kernel
theorem dX11_floor_2 : decode cX11_floor 2 = .ok (.bipush 100, 2) := by decide +kernel
theorem dX11_floor_4 : decode cX11_floor 4 = .ok (.invokestatic 113, 3) := by decide +kernel
theorem dX11_floor_7 : decode cX11_floor 7 = .ok (.ifCond .ne 6, 3) := by decide +kernel
theorem dX11_floor_10 : decode cX11_floor 10 = .ok (.bipush (-2), 2) := by decide +kernel
theorem dX11_floor_12 : decode cX11_floor 12 = .ok (.ireturn, 1) := by decide +kernel
theorem dX11_floor_13 : decode cX11_floor 13 = .ok (.aload_n 0, 1) := by decide +kernel
theorem dX11_floor_14 : decode cX11_floor 14 = .ok (.getfield 26, 3) := by decide +kernel
theorem dX11_floor_17 : decode cX11_floor 17 = .ok (.getfield 138, 3) := by decide +kernel
theorem dX11_floor_20 : decode cX11_floor 20 = .ok (.istore_n 2, 1) := by decide +kernel
theorem dX11_floor_21 : decode cX11_floor 21 = .ok (.aload_n 0, 1) := by decide +kernel
theorem dX11_floor_22 : decode cX11_floor 22 = .ok (.getfield 26, 3) := by decide +kernel
theorem dX11_floor_25 : decode cX11_floor 25 = .ok (.iload_n 1, 1) := by decide +kernel
theorem dX11_floor_26 : decode cX11_floor 26 = .ok (.putfield 138, 3) := by decide +kernel
theorem dX11_floor_29 : decode cX11_floor 29 = .ok (.aload_n 0, 1) := by decide +kernel
theorem dX11_floor_30 : decode cX11_floor 30 = .ok (.getfield 43, 3) := by decide +kernel
theorem dX11_floor_33 : decode cX11_floor 33 = .ok (.iconst 0, 1) := by decide +kernel
theorem dX11_floor_34 : decode cX11_floor 34 = .ok (.putfield 102, 3) := by decide +kernel
theorem dX11_floor_37 : decode cX11_floor 37 = .ok (.iload_n 2, 1) := by decide +kernel
theorem dX11_floor_38 : decode cX11_floor 38 = .ok (.ireturn, 1) := by decide +kernel
theorem dX11_ofLatest_0 : decode cX11_ofLatest 0 = .ok (.iload_n 2, 1) := by decide +kernel
theorem dX11_ofLatest_1 : decode cX11_ofLatest 1 = .ok (.ifCond .ge 6, 3) := by decide +kernel
theorem dX11_ofLatest_4 : decode cX11_ofLatest 4 = .ok (.bipush (-2), 2) := by decide +kernel
theorem dX11_ofLatest_6 : decode cX11_ofLatest 6 = .ok (.ireturn, 1) := by decide +kernel
theorem dX11_ofLatest_7 : decode cX11_ofLatest 7 = .ok (.iload_n 2, 1) := by decide +kernel
theorem dX11_ofLatest_8 : decode cX11_ofLatest 8 = .ok (.aload_n 0, 1) := by decide +kernel
theorem dX11_ofLatest_9 : decode cX11_ofLatest 9 = .ok (.getfield 33, 3) := by decide +kernel
theorem dX11_ofLatest_12 : decode cX11_ofLatest 12 = .ok (.getfield 172, 3) := by decide +kernel
theorem dX11_ofLatest_15 : decode cX11_ofLatest 15 = .ok (.if_icmp .ge 15, 3) := by decide +kernel
theorem dX11_ofLatest_18 : decode cX11_ofLatest 18 = .ok (.iload_n 2, 1) := by decide +kernel
theorem dX11_ofLatest_19 : decode cX11_ofLatest 19 = .ok (.aload_n 1, 1) := by decide +kernel
theorem dX11_ofLatest_20 : decode cX11_ofLatest 20 = .ok (.arraylength, 1) := by decide +kernel
theorem dX11_ofLatest_21 : decode cX11_ofLatest 21 = .ok (.if_icmp .ge 9, 3) := by decide +kernel
theorem dX11_ofLatest_24 : decode cX11_ofLatest 24 = .ok (.aload_n 1, 1) := by decide +kernel
theorem dX11_ofLatest_25 : decode cX11_ofLatest 25 = .ok (.iload_n 2, 1) := by decide +kernel
theorem dX11_ofLatest_26 : decode cX11_ofLatest 26 = .ok (.iaload, 1) := by decide +kernel
theorem dX11_ofLatest_27 : decode cX11_ofLatest 27 = .ok (.goto 4, 3) := by decide +kernel
theorem dX11_ofLatest_30 : decode cX11_ofLatest 30 = .ok (.iconst (-1), 1) := by decide +kernel
theorem dX11_ofLatest_31 : decode cX11_ofLatest 31 = .ok (.ireturn, 1) := by decide +kernel
theorem dX11_force_0 : decode cX11_force 0 = .ok (.aload_n 0, 1) := by decide +kernel
theorem dX11_force_1 : decode cX11_force 1 = .ok (.aload_n 0, 1) := by decide +kernel
theorem dX11_force_2 : decode cX11_force 2 = .ok (.getfield 33, 3) := by decide +kernel
theorem dX11_force_5 : decode cX11_force 5 = .ok (.getfield 182, 3) := by decide +kernel
theorem dX11_force_8 : decode cX11_force 8 = .ok (.iload_n 1, 1) := by decide +kernel
theorem dX11_force_9 : decode cX11_force 9 = .ok (.invokevirtual 178, 3) := by decide +kernel
theorem dX11_force_12 : decode cX11_force 12 = .ok (.ireturn, 1) := by decide +kernel
theorem dX11_hand_0 : decode cX11_hand 0 = .ok (.iload_n 1, 1) := by decide +kernel
theorem dX11_hand_1 : decode cX11_hand 1 = .ok (.iconst 1, 1) := by decide +kernel
theorem dX11_hand_2 : decode cX11_hand 2 = .ok (.bipush 100, 2) := by decide +kernel
theorem dX11_hand_4 : decode cX11_hand 4 = .ok (.invokestatic 113, 3) := by decide +kernel
theorem dX11_hand_7 : decode cX11_hand 7 = .ok (.ifCond .eq 34, 3) := by decide +kernel
theorem dX11_hand_10 : decode cX11_hand 10 = .ok (.iload_n 2, 1) := by decide +kernel
theorem dX11_hand_11 : decode cX11_hand 11 = .ok (.iconst 0, 1) := by decide +kernel
theorem dX11_hand_12 : decode cX11_hand 12 = .ok (.bipush 30, 2) := by decide +kernel
theorem dX11_hand_14 : decode cX11_hand 14 = .ok (.invokestatic 113, 3) := by decide +kernel
theorem dX11_hand_17 : decode cX11_hand 17 = .ok (.ifCond .eq 24, 3) := by decide +kernel
theorem dX11_hand_20 : decode cX11_hand 20 = .ok (.iload_n 3, 1) := by decide +kernel
theorem dX11_hand_21 : decode cX11_hand 21 = .ok (.iconst 0, 1) := by decide +kernel
theorem dX11_hand_22 : decode cX11_hand 22 = .ok (.bipush 30, 2) := by decide +kernel
theorem dX11_hand_24 : decode cX11_hand 24 = .ok (.invokestatic 113, 3) := by decide +kernel
theorem dX11_hand_27 : decode cX11_hand 27 = .ok (.ifCond .eq 14, 3) := by decide +kernel
theorem dX11_hand_30 : decode cX11_hand 30 = .ok (.iload 4, 2) := by decide +kernel
theorem dX11_hand_32 : decode cX11_hand 32 = .ok (.iconst 0, 1) := by decide +kernel
theorem dX11_hand_33 : decode cX11_hand 33 = .ok (.bipush 30, 2) := by decide +kernel
theorem dX11_hand_35 : decode cX11_hand 35 = .ok (.invokestatic 113, 3) := by decide +kernel
theorem dX11_hand_38 : decode cX11_hand 38 = .ok (.ifCond .ne 6, 3) := by decide +kernel
theorem dX11_hand_41 : decode cX11_hand 41 = .ok (.bipush (-2), 2) := by decide +kernel
theorem dX11_hand_43 : decode cX11_hand 43 = .ok (.ireturn, 1) := by decide +kernel
theorem dX11_hand_44 : decode cX11_hand 44 = .ok (.aload_n 0, 1) := by decide +kernel
theorem dX11_hand_45 : decode cX11_hand 45 = .ok (.getfield 26, 3) := by decide +kernel
theorem dX11_hand_48 : decode cX11_hand 48 = .ok (.iload_n 1, 1) := by decide +kernel
theorem dX11_hand_49 : decode cX11_hand 49 = .ok (.iload_n 2, 1) := by decide +kernel
theorem dX11_hand_50 : decode cX11_hand 50 = .ok (.iload_n 3, 1) := by decide +kernel
theorem dX11_hand_51 : decode cX11_hand 51 = .ok (.iload 4, 2) := by decide +kernel
theorem dX11_hand_53 : decode cX11_hand 53 = .ok (.invokevirtual 121, 3) := by decide +kernel
theorem dX11_hand_56 : decode cX11_hand 56 = .ok (.ifCond .ne 6, 3) := by decide +kernel
theorem dX11_hand_59 : decode cX11_hand 59 = .ok (.bipush (-4), 2) := by decide +kernel
theorem dX11_hand_61 : decode cX11_hand 61 = .ok (.ireturn, 1) := by decide +kernel
theorem dX11_hand_62 : decode cX11_hand 62 = .ok (.aload_n 0, 1) := by decide +kernel
theorem dX11_hand_63 : decode cX11_hand 63 = .ok (.getfield 43, 3) := by decide +kernel
theorem dX11_hand_66 : decode cX11_hand 66 = .ok (.iconst 0, 1) := by decide +kernel
theorem dX11_hand_67 : decode cX11_hand 67 = .ok (.putfield 102, 3) := by decide +kernel
theorem dX11_hand_70 : decode cX11_hand 70 = .ok (.aload_n 0, 1) := by decide +kernel
theorem dX11_hand_71 : decode cX11_hand 71 = .ok (.getfield 26, 3) := by decide +kernel
theorem dX11_hand_74 : decode cX11_hand 74 = .ok (.getfield 124, 3) := by decide +kernel
theorem dX11_hand_77 : decode cX11_hand 77 = .ok (.iconst 1, 1) := by decide +kernel
theorem dX11_hand_78 : decode cX11_hand 78 = .ok (.isub, 1) := by decide +kernel
theorem dX11_hand_79 : decode cX11_hand 79 = .ok (.ireturn, 1) := by decide +kernel
theorem dX2_hangNearest_0 : decode cX2_hangNearest 0 = .ok (.ldc 59, 2) := by decide +kernel
theorem dX2_hangNearest_2 : decode cX2_hangNearest 2 = .ok (.istore_n 2, 1) := by decide +kernel
theorem dX2_hangNearest_3 : decode cX2_hangNearest 3 = .ok (.iconst 0, 1) := by decide +kernel
theorem dX2_hangNearest_4 : decode cX2_hangNearest 4 = .ok (.istore_n 3, 1) := by decide +kernel
theorem dX2_hangNearest_5 : decode cX2_hangNearest 5 = .ok (.iconst (-1), 1) := by decide +kernel
theorem dX2_hangNearest_6 : decode cX2_hangNearest 6 = .ok (.istore 4, 2) := by decide +kernel
theorem dX2_hangNearest_8 : decode cX2_hangNearest 8 = .ok (.iconst 0, 1) := by decide +kernel
theorem dX2_hangNearest_9 : decode cX2_hangNearest 9 = .ok (.istore 5, 2) := by decide +kernel
theorem dX2_hangNearest_11 : decode cX2_hangNearest 11 = .ok (.iload 5, 2) := by decide +kernel
theorem dX2_hangNearest_13 : decode cX2_hangNearest 13 = .ok (.aload_n 1, 1) := by decide +kernel
theorem dX2_hangNearest_14 : decode cX2_hangNearest 14 = .ok (.invokevirtual 50, 3) := by decide +kernel
theorem dX2_hangNearest_17 : decode cX2_hangNearest 17 = .ok (.if_icmp .ge 101, 3) := by decide +kernel
theorem dX2_hangNearest_20 : decode cX2_hangNearest 20 = .ok (.iload 5, 2) := by decide +kernel
theorem dX2_hangNearest_22 : decode cX2_hangNearest 22 = .ok (.bipush 6, 2) := by decide +kernel
theorem dX2_hangNearest_24 : decode cX2_hangNearest 24 = .ok (.if_icmp .ge 94, 3) := by decide +kernel
theorem dX2_hangNearest_27 : decode cX2_hangNearest 27 = .ok (.iconst 0, 1) := by decide +kernel
theorem dX2_hangNearest_28 : decode cX2_hangNearest 28 = .ok (.istore 6, 2) := by decide +kernel
theorem dX2_hangNearest_30 : decode cX2_hangNearest 30 = .ok (.iload 6, 2) := by decide +kernel
theorem dX2_hangNearest_32 : decode cX2_hangNearest 32 = .ok (.aload_n 1, 1) := by decide +kernel
theorem dX2_hangNearest_33 : decode cX2_hangNearest 33 = .ok (.invokevirtual 50, 3) := by decide +kernel
theorem dX2_hangNearest_36 : decode cX2_hangNearest 36 = .ok (.if_icmp .ge 76, 3) := by decide +kernel
theorem dX2_hangNearest_39 : decode cX2_hangNearest 39 = .ok (.iload 6, 2) := by decide +kernel
theorem dX2_hangNearest_41 : decode cX2_hangNearest 41 = .ok (.bipush 6, 2) := by decide +kernel
theorem dX2_hangNearest_43 : decode cX2_hangNearest 43 = .ok (.if_icmp .ge 69, 3) := by decide +kernel
theorem dX2_hangNearest_46 : decode cX2_hangNearest 46 = .ok (.aload_n 0, 1) := by decide +kernel
theorem dX2_hangNearest_47 : decode cX2_hangNearest 47 = .ok (.getfield 18, 3) := by decide +kernel
theorem dX2_hangNearest_50 : decode cX2_hangNearest 50 = .ok (.iload 5, 2) := by decide +kernel
theorem dX2_hangNearest_52 : decode cX2_hangNearest 52 = .ok (.baload, 1) := by decide +kernel
theorem dX2_hangNearest_53 : decode cX2_hangNearest 53 = .ok (.ifCond .ne 53, 3) := by decide +kernel
theorem dX2_hangNearest_56 : decode cX2_hangNearest 56 = .ok (.aload_n 0, 1) := by decide +kernel
theorem dX2_hangNearest_57 : decode cX2_hangNearest 57 = .ok (.getfield 18, 3) := by decide +kernel
theorem dX2_hangNearest_60 : decode cX2_hangNearest 60 = .ok (.iload 6, 2) := by decide +kernel
theorem dX2_hangNearest_62 : decode cX2_hangNearest 62 = .ok (.baload, 1) := by decide +kernel
theorem dX2_hangNearest_63 : decode cX2_hangNearest 63 = .ok (.ifCond .eq 43, 3) := by decide +kernel
theorem dX2_hangNearest_66 : decode cX2_hangNearest 66 = .ok (.aload_n 0, 1) := by decide +kernel
theorem dX2_hangNearest_67 : decode cX2_hangNearest 67 = .ok (.aload_n 1, 1) := by decide +kernel
theorem dX2_hangNearest_68 : decode cX2_hangNearest 68 = .ok (.iload 5, 2) := by decide +kernel
theorem dX2_hangNearest_70 : decode cX2_hangNearest 70 = .ok (.invokevirtual 60, 3) := by decide +kernel
theorem dX2_hangNearest_73 : decode cX2_hangNearest 73 = .ok (.checkcast 23, 3) := by decide +kernel
theorem dX2_hangNearest_76 : decode cX2_hangNearest 76 = .ok (.aload_n 1, 1) := by decide +kernel
theorem dX2_hangNearest_77 : decode cX2_hangNearest 77 = .ok (.iload 6, 2) := by decide +kernel
theorem dX2_hangNearest_79 : decode cX2_hangNearest 79 = .ok (.invokevirtual 60, 3) := by decide +kernel
theorem dX2_hangNearest_82 : decode cX2_hangNearest 82 = .ok (.checkcast 23, 3) := by decide +kernel
theorem dX2_hangNearest_85 : decode cX2_hangNearest 85 = .ok (.invokevirtual 64, 3) := by decide +kernel
theorem dX2_hangNearest_88 : decode cX2_hangNearest 88 = .ok (.istore 7, 2) := by decide +kernel
theorem dX2_hangNearest_90 : decode cX2_hangNearest 90 = .ok (.iload 7, 2) := by decide +kernel
theorem dX2_hangNearest_92 : decode cX2_hangNearest 92 = .ok (.iload_n 2, 1) := by decide +kernel
theorem dX2_hangNearest_93 : decode cX2_hangNearest 93 = .ok (.if_icmp .ge 13, 3) := by decide +kernel
theorem dX2_hangNearest_96 : decode cX2_hangNearest 96 = .ok (.iload 7, 2) := by decide +kernel
theorem dX2_hangNearest_98 : decode cX2_hangNearest 98 = .ok (.istore_n 2, 1) := by decide +kernel
theorem dX2_hangNearest_99 : decode cX2_hangNearest 99 = .ok (.iload 5, 2) := by decide +kernel
theorem dX2_hangNearest_101 : decode cX2_hangNearest 101 = .ok (.istore_n 3, 1) := by decide +kernel
theorem dX2_hangNearest_102 : decode cX2_hangNearest 102 = .ok (.iload 6, 2) := by decide +kernel
theorem dX2_hangNearest_104 : decode cX2_hangNearest 104 = .ok (.istore 4, 2) := by decide +kernel
theorem dX2_hangNearest_106 : decode cX2_hangNearest 106 = .ok (.iinc 6 1, 3) := by decide +kernel
theorem dX2_hangNearest_109 : decode cX2_hangNearest 109 = .ok (.goto (-79), 3) := by decide +kernel
theorem dX2_hangNearest_112 : decode cX2_hangNearest 112 = .ok (.iinc 5 1, 3) := by decide +kernel
theorem dX2_hangNearest_115 : decode cX2_hangNearest 115 = .ok (.goto (-104), 3) := by decide +kernel
theorem dX2_hangNearest_118 : decode cX2_hangNearest 118 = .ok (.aload_n 0, 1) := by decide +kernel
theorem dX2_hangNearest_119 : decode cX2_hangNearest 119 = .ok (.getfield 18, 3) := by decide +kernel
theorem dX2_hangNearest_122 : decode cX2_hangNearest 122 = .ok (.iload_n 3, 1) := by decide +kernel
theorem dX2_hangNearest_123 : decode cX2_hangNearest 123 = .ok (.iconst 1, 1) := by decide +kernel
theorem dX2_hangNearest_124 : decode cX2_hangNearest 124 = .ok (.bastore, 1) := by decide +kernel
theorem dX2_hangNearest_125 : decode cX2_hangNearest 125 = .ok (.aload_n 0, 1) := by decide +kernel
theorem dX2_hangNearest_126 : decode cX2_hangNearest 126 = .ok (.getfield 15, 3) := by decide +kernel
theorem dX2_hangNearest_129 : decode cX2_hangNearest 129 = .ok (.iload_n 3, 1) := by decide +kernel
theorem dX2_hangNearest_130 : decode cX2_hangNearest 130 = .ok (.iload 4, 2) := by decide +kernel
theorem dX2_hangNearest_132 : decode cX2_hangNearest 132 = .ok (.iastore, 1) := by decide +kernel
theorem dX2_hangNearest_133 : decode cX2_hangNearest 133 = .ok (.iload_n 2, 1) := by decide +kernel
theorem dX2_hangNearest_134 : decode cX2_hangNearest 134 = .ok (.ireturn, 1) := by decide +kernel
theorem dX2_growTree_0 : decode cX2_growTree 0 = .ok (.iconst 0, 1) := by decide +kernel
theorem dX2_growTree_1 : decode cX2_growTree 1 = .ok (.istore_n 2, 1) := by decide +kernel
theorem dX2_growTree_2 : decode cX2_growTree 2 = .ok (.iload_n 2, 1) := by decide +kernel
theorem dX2_growTree_3 : decode cX2_growTree 3 = .ok (.bipush 6, 2) := by decide +kernel
theorem dX2_growTree_5 : decode cX2_growTree 5 = .ok (.if_icmp .ge 31, 3) := by decide +kernel
theorem dX2_growTree_8 : decode cX2_growTree 8 = .ok (.aload_n 0, 1) := by decide +kernel
theorem dX2_growTree_9 : decode cX2_growTree 9 = .ok (.getfield 18, 3) := by decide +kernel
theorem dX2_growTree_12 : decode cX2_growTree 12 = .ok (.iload_n 2, 1) := by decide +kernel
theorem dX2_growTree_13 : decode cX2_growTree 13 = .ok (.iload_n 2, 1) := by decide +kernel
theorem dX2_growTree_14 : decode cX2_growTree 14 = .ok (.ifCond .ne 7, 3) := by decide +kernel
theorem dX2_growTree_17 : decode cX2_growTree 17 = .ok (.iconst 1, 1) := by decide +kernel
theorem dX2_growTree_18 : decode cX2_growTree 18 = .ok (.goto 4, 3) := by decide +kernel
theorem dX2_growTree_21 : decode cX2_growTree 21 = .ok (.iconst 0, 1) := by decide +kernel
theorem dX2_growTree_22 : decode cX2_growTree 22 = .ok (.bastore, 1) := by decide +kernel
theorem dX2_growTree_23 : decode cX2_growTree 23 = .ok (.aload_n 0, 1) := by decide +kernel
theorem dX2_growTree_24 : decode cX2_growTree 24 = .ok (.getfield 15, 3) := by decide +kernel
theorem dX2_growTree_27 : decode cX2_growTree 27 = .ok (.iload_n 2, 1) := by decide +kernel
theorem dX2_growTree_28 : decode cX2_growTree 28 = .ok (.iconst (-1), 1) := by decide +kernel
theorem dX2_growTree_29 : decode cX2_growTree 29 = .ok (.iastore, 1) := by decide +kernel
theorem dX2_growTree_30 : decode cX2_growTree 30 = .ok (.iinc 2 1, 3) := by decide +kernel
theorem dX2_growTree_33 : decode cX2_growTree 33 = .ok (.goto (-31), 3) := by decide +kernel
theorem dX2_growTree_36 : decode cX2_growTree 36 = .ok (.iconst 0, 1) := by decide +kernel
theorem dX2_growTree_37 : decode cX2_growTree 37 = .ok (.istore_n 2, 1) := by decide +kernel
theorem dX2_growTree_38 : decode cX2_growTree 38 = .ok (.iconst 1, 1) := by decide +kernel
theorem dX2_growTree_39 : decode cX2_growTree 39 = .ok (.istore_n 3, 1) := by decide +kernel
theorem dX2_growTree_40 : decode cX2_growTree 40 = .ok (.iload_n 3, 1) := by decide +kernel
theorem dX2_growTree_41 : decode cX2_growTree 41 = .ok (.aload_n 1, 1) := by decide +kernel
theorem dX2_growTree_42 : decode cX2_growTree 42 = .ok (.invokevirtual 50, 3) := by decide +kernel
theorem dX2_growTree_45 : decode cX2_growTree 45 = .ok (.if_icmp .ge 17, 3) := by decide +kernel
theorem dX2_growTree_48 : decode cX2_growTree 48 = .ok (.iload_n 2, 1) := by decide +kernel
theorem dX2_growTree_49 : decode cX2_growTree 49 = .ok (.aload_n 0, 1) := by decide +kernel
theorem dX2_growTree_50 : decode cX2_growTree 50 = .ok (.aload_n 1, 1) := by decide +kernel
theorem dX2_growTree_51 : decode cX2_growTree 51 = .ok (.invokevirtual 55, 3) := by decide +kernel
theorem dX2_growTree_54 : decode cX2_growTree 54 = .ok (.iadd, 1) := by decide +kernel
theorem dX2_growTree_55 : decode cX2_growTree 55 = .ok (.istore_n 2, 1) := by decide +kernel
theorem dX2_growTree_56 : decode cX2_growTree 56 = .ok (.iinc 3 1, 3) := by decide +kernel
theorem dX2_growTree_59 : decode cX2_growTree 59 = .ok (.goto (-19), 3) := by decide +kernel
theorem dX2_growTree_62 : decode cX2_growTree 62 = .ok (.iload_n 2, 1) := by decide +kernel
theorem dX2_growTree_63 : decode cX2_growTree 63 = .ok (.ireturn, 1) := by decide +kernel
theorem dX11_hangs_0 : decode cX11_hangs 0 = .ok (.iload_n 1, 1) := by decide +kernel
theorem dX11_hangs_1 : decode cX11_hangs 1 = .ok (.iconst 0, 1) := by decide +kernel
theorem dX11_hangs_2 : decode cX11_hangs 2 = .ok (.aload_n 0, 1) := by decide +kernel
theorem dX11_hangs_3 : decode cX11_hangs 3 = .ok (.getfield 19, 3) := by decide +kernel
theorem dX11_hangs_6 : decode cX11_hangs 6 = .ok (.invokevirtual 86, 3) := by decide +kernel
theorem dX11_hangs_9 : decode cX11_hangs 9 = .ok (.iconst 1, 1) := by decide +kernel
theorem dX11_hangs_10 : decode cX11_hangs 10 = .ok (.isub, 1) := by decide +kernel
theorem dX11_hangs_11 : decode cX11_hangs 11 = .ok (.invokestatic 113, 3) := by decide +kernel
theorem dX11_hangs_14 : decode cX11_hangs 14 = .ok (.ifCond .ne 6, 3) := by decide +kernel
theorem dX11_hangs_17 : decode cX11_hangs 17 = .ok (.bipush (-2), 2) := by decide +kernel
theorem dX11_hangs_19 : decode cX11_hangs 19 = .ok (.ireturn, 1) := by decide +kernel
theorem dX11_hangs_20 : decode cX11_hangs 20 = .ok (.aload_n 0, 1) := by decide +kernel
theorem dX11_hangs_21 : decode cX11_hangs 21 = .ok (.getfield 74, 3) := by decide +kernel
theorem dX11_hangs_24 : decode cX11_hangs 24 = .ok (.aload_n 0, 1) := by decide +kernel
theorem dX11_hangs_25 : decode cX11_hangs 25 = .ok (.getfield 19, 3) := by decide +kernel
theorem dX11_hangs_28 : decode cX11_hangs 28 = .ok (.invokevirtual 284, 3) := by decide +kernel
theorem dX11_hangs_31 : decode cX11_hangs 31 = .ok (.pop, 1) := by decide +kernel
theorem dX11_hangs_32 : decode cX11_hangs 32 = .ok (.aload_n 0, 1) := by decide +kernel
theorem dX11_hangs_33 : decode cX11_hangs 33 = .ok (.getfield 74, 3) := by decide +kernel
theorem dX11_hangs_36 : decode cX11_hangs 36 = .ok (.getfield 288, 3) := by decide +kernel
theorem dX11_hangs_39 : decode cX11_hangs 39 = .ok (.iload_n 1, 1) := by decide +kernel
theorem dX11_hangs_40 : decode cX11_hangs 40 = .ok (.iaload, 1) := by decide +kernel
theorem dX11_hangs_41 : decode cX11_hangs 41 = .ok (.ireturn, 1) := by decide +kernel
theorem dX11_isWeight_0 : decode cX11_isWeight 0 = .ok (.iload_n 0, 1) := by decide +kernel
theorem dX11_isWeight_1 : decode cX11_isWeight 1 = .ok (.iconst 0, 1) := by decide +kernel
theorem dX11_isWeight_2 : decode cX11_isWeight 2 = .ok (.sipush 1000, 3) := by decide +kernel
theorem dX11_isWeight_5 : decode cX11_isWeight 5 = .ok (.invokestatic 113, 3) := by decide +kernel
theorem dX11_isWeight_8 : decode cX11_isWeight 8 = .ok (.ifCond .eq 17, 3) := by decide +kernel
theorem dX11_isWeight_11 : decode cX11_isWeight 11 = .ok (.iload_n 1, 1) := by decide +kernel
theorem dX11_isWeight_12 : decode cX11_isWeight 12 = .ok (.iconst 0, 1) := by decide +kernel
theorem dX11_isWeight_13 : decode cX11_isWeight 13 = .ok (.bipush 50, 2) := by decide +kernel
theorem dX11_isWeight_15 : decode cX11_isWeight 15 = .ok (.invokestatic 113, 3) := by decide +kernel
theorem dX11_isWeight_18 : decode cX11_isWeight 18 = .ok (.ifCond .eq 7, 3) := by decide +kernel
theorem dX11_isWeight_21 : decode cX11_isWeight 21 = .ok (.iconst 1, 1) := by decide +kernel
theorem dX11_isWeight_22 : decode cX11_isWeight 22 = .ok (.goto 4, 3) := by decide +kernel
theorem dX11_isWeight_25 : decode cX11_isWeight 25 = .ok (.iconst 0, 1) := by decide +kernel
theorem dX11_isWeight_26 : decode cX11_isWeight 26 = .ok (.ireturn, 1) := by decide +kernel
theorem dX11_isTask_0 : decode cX11_isTask 0 = .ok (.iload_n 0, 1) := by decide +kernel
theorem dX11_isTask_1 : decode cX11_isTask 1 = .ok (.iconst 1, 1) := by decide +kernel
theorem dX11_isTask_2 : decode cX11_isTask 2 = .ok (.sipush 3000, 3) := by decide +kernel
theorem dX11_isTask_5 : decode cX11_isTask 5 = .ok (.invokestatic 113, 3) := by decide +kernel
theorem dX11_isTask_8 : decode cX11_isTask 8 = .ok (.ifCond .eq 15, 3) := by decide +kernel
theorem dX11_isTask_11 : decode cX11_isTask 11 = .ok (.iload_n 1, 1) := by decide +kernel
theorem dX11_isTask_12 : decode cX11_isTask 12 = .ok (.iload_n 2, 1) := by decide +kernel
theorem dX11_isTask_13 : decode cX11_isTask 13 = .ok (.invokestatic 250, 3) := by decide +kernel
theorem dX11_isTask_16 : decode cX11_isTask 16 = .ok (.ifCond .eq 7, 3) := by decide +kernel
theorem dX11_isTask_19 : decode cX11_isTask 19 = .ok (.iconst 1, 1) := by decide +kernel
theorem dX11_isTask_20 : decode cX11_isTask 20 = .ok (.goto 4, 3) := by decide +kernel
theorem dX11_isTask_23 : decode cX11_isTask 23 = .ok (.iconst 0, 1) := by decide +kernel
theorem dX11_isTask_24 : decode cX11_isTask 24 = .ok (.ireturn, 1) := by decide +kernel
theorem dX8_init_0 : decode cX8_init 0 = .ok (.aload_n 0, 1) := by decide +kernel
theorem dX8_init_1 : decode cX8_init 1 = .ok (.invokespecial 1, 3) := by decide +kernel
theorem dX8_init_4 : decode cX8_init 4 = .ok (.aload_n 0, 1) := by decide +kernel
theorem dX8_init_5 : decode cX8_init 5 = .ok (.iload_n 1, 1) := by decide +kernel
theorem dX8_init_6 : decode cX8_init 6 = .ok (.putfield 7, 3) := by decide +kernel
theorem dX8_init_9 : decode cX8_init 9 = .ok (.aload_n 0, 1) := by decide +kernel
theorem dX8_init_10 : decode cX8_init 10 = .ok (.iload_n 2, 1) := by decide +kernel
theorem dX8_init_11 : decode cX8_init 11 = .ok (.putfield 13, 3) := by decide +kernel
theorem dX8_init_14 : decode cX8_init 14 = .ok (.aload_n 0, 1) := by decide +kernel
theorem dX8_init_15 : decode cX8_init 15 = .ok (.iload_n 3, 1) := by decide +kernel
theorem dX8_init_16 : decode cX8_init 16 = .ok (.putfield 16, 3) := by decide +kernel
theorem dX8_init_19 : decode cX8_init 19 = .ok (.return_, 1) := by decide +kernel
theorem dX11_haul_0 : decode cX11_haul 0 = .ok (.aload_n 0, 1) := by decide +kernel
theorem dX11_haul_1 : decode cX11_haul 1 = .ok (.iload_n 1, 1) := by decide +kernel
theorem dX11_haul_2 : decode cX11_haul 2 = .ok (.invokevirtual 106, 3) := by decide +kernel
theorem dX11_haul_5 : decode cX11_haul 5 = .ok (.astore 5, 2) := by decide +kernel
theorem dX11_haul_7 : decode cX11_haul 7 = .ok (.aload 5, 2) := by decide +kernel
theorem dX11_haul_9 : decode cX11_haul 9 = .ok (.ifnull 13, 3) := by decide +kernel
theorem dX11_haul_12 : decode cX11_haul 12 = .ok (.iload_n 2, 1) := by decide +kernel
theorem dX11_haul_13 : decode cX11_haul 13 = .ok (.iload_n 3, 1) := by decide +kernel
theorem dX11_haul_14 : decode cX11_haul 14 = .ok (.iload 4, 2) := by decide +kernel
theorem dX11_haul_16 : decode cX11_haul 16 = .ok (.invokestatic 151, 3) := by decide +kernel
theorem dX11_haul_19 : decode cX11_haul 19 = .ok (.ifCond .ne 6, 3) := by decide +kernel
theorem dX11_haul_22 : decode cX11_haul 22 = .ok (.bipush (-2), 2) := by decide +kernel
theorem dX11_haul_24 : decode cX11_haul 24 = .ok (.ireturn, 1) := by decide +kernel
theorem dX11_haul_25 : decode cX11_haul 25 = .ok (.aload_n 0, 1) := by decide +kernel
theorem dX11_haul_26 : decode cX11_haul 26 = .ok (.getfield 33, 3) := by decide +kernel
theorem dX11_haul_29 : decode cX11_haul 29 = .ok (.aload_n 0, 1) := by decide +kernel
theorem dX11_haul_30 : decode cX11_haul 30 = .ok (.getfield 26, 3) := by decide +kernel
theorem dX11_haul_33 : decode cX11_haul 33 = .ok (.invokevirtual 154, 3) := by decide +kernel
theorem dX11_haul_36 : decode cX11_haul 36 = .ok (.aload_n 0, 1) := by decide +kernel
theorem dX11_haul_37 : decode cX11_haul 37 = .ok (.getfield 33, 3) := by decide +kernel
theorem dX11_haul_40 : decode cX11_haul 40 = .ok (.aload_n 0, 1) := by decide +kernel
theorem dX11_haul_41 : decode cX11_haul 41 = .ok (.getfield 26, 3) := by decide +kernel
theorem dX11_haul_44 : decode cX11_haul 44 = .ok (.aload 5, 2) := by decide +kernel
theorem dX11_haul_46 : decode cX11_haul 46 = .ok (.new 158, 3) := by decide +kernel
theorem dX11_haul_49 : decode cX11_haul 49 = .ok (.dup, 1) := by decide +kernel
theorem dX11_haul_50 : decode cX11_haul 50 = .ok (.iload_n 2, 1) := by decide +kernel
theorem dX11_haul_51 : decode cX11_haul 51 = .ok (.iload_n 3, 1) := by decide +kernel
theorem dX11_haul_52 : decode cX11_haul 52 = .ok (.iload 4, 2) := by decide +kernel
theorem dX11_haul_54 : decode cX11_haul 54 = .ok (.invokespecial 160, 3) := by decide +kernel
theorem dX11_haul_57 : decode cX11_haul 57 = .ok (.sipush 300, 3) := by decide +kernel
theorem dX11_haul_60 : decode cX11_haul 60 = .ok (.invokevirtual 163, 3) := by decide +kernel
theorem dX11_haul_63 : decode cX11_haul 63 = .ok (.istore 6, 2) := by decide +kernel
theorem dX11_haul_65 : decode cX11_haul 65 = .ok (.aload_n 0, 1) := by decide +kernel
theorem dX11_haul_66 : decode cX11_haul 66 = .ok (.getfield 33, 3) := by decide +kernel
theorem dX11_haul_69 : decode cX11_haul 69 = .ok (.getfield 167, 3) := by decide +kernel
theorem dX11_haul_72 : decode cX11_haul 72 = .ok (.aload_n 0, 1) := by decide +kernel
theorem dX11_haul_73 : decode cX11_haul 73 = .ok (.getfield 26, 3) := by decide +kernel
theorem dX11_haul_76 : decode cX11_haul 76 = .ok (.getfield 141, 3) := by decide +kernel
theorem dX11_haul_79 : decode cX11_haul 79 = .ok (.invokestatic 168, 3) := by decide +kernel
theorem dX11_haul_82 : decode cX11_haul 82 = .ok (.aload_n 0, 1) := by decide +kernel
theorem dX11_haul_83 : decode cX11_haul 83 = .ok (.getfield 43, 3) := by decide +kernel
theorem dX11_haul_86 : decode cX11_haul 86 = .ok (.iconst 0, 1) := by decide +kernel
theorem dX11_haul_87 : decode cX11_haul 87 = .ok (.putfield 102, 3) := by decide +kernel
theorem dX11_haul_90 : decode cX11_haul 90 = .ok (.iload 6, 2) := by decide +kernel
theorem dX11_haul_92 : decode cX11_haul 92 = .ok (.ifCond .eq 13, 3) := by decide +kernel
theorem dX11_haul_95 : decode cX11_haul 95 = .ok (.aload_n 0, 1) := by decide +kernel
theorem dX11_haul_96 : decode cX11_haul 96 = .ok (.getfield 33, 3) := by decide +kernel
theorem dX11_haul_99 : decode cX11_haul 99 = .ok (.getfield 172, 3) := by decide +kernel
theorem dX11_haul_102 : decode cX11_haul 102 = .ok (.goto 13, 3) := by decide +kernel
theorem dX11_haul_105 : decode cX11_haul 105 = .ok (.bipush (-10), 2) := by decide +kernel
theorem dX11_haul_107 : decode cX11_haul 107 = .ok (.aload_n 0, 1) := by decide +kernel
theorem dX11_haul_108 : decode cX11_haul 108 = .ok (.getfield 33, 3) := by decide +kernel
theorem dX11_haul_111 : decode cX11_haul 111 = .ok (.getfield 172, 3) := by decide +kernel
theorem dX11_haul_114 : decode cX11_haul 114 = .ok (.isub, 1) := by decide +kernel
theorem dX11_haul_115 : decode cX11_haul 115 = .ok (.ireturn, 1) := by decide +kernel
theorem dX6_init_0 : decode cX6_init 0 = .ok (.aload_n 0, 1) := by decide +kernel
theorem dX6_init_1 : decode cX6_init 1 = .ok (.invokespecial 3, 3) := by decide +kernel
theorem dX6_init_4 : decode cX6_init 4 = .ok (.aload_n 0, 1) := by decide +kernel
theorem dX6_init_5 : decode cX6_init 5 = .ok (.bipush 24, 2) := by decide +kernel
theorem dX6_init_7 : decode cX6_init 7 = .ok (.newarray .int, 2) := by decide +kernel
theorem dX6_init_9 : decode cX6_init 9 = .ok (.putfield 9, 3) := by decide +kernel
theorem dX6_init_12 : decode cX6_init 12 = .ok (.return_, 1) := by decide +kernel
theorem dX1_init_0 : decode cX1_init 0 = .ok (.aload_n 0, 1) := by decide +kernel
theorem dX1_init_1 : decode cX1_init 1 = .ok (.invokespecial 3, 3) := by decide +kernel
theorem dX1_init_4 : decode cX1_init 4 = .ok (.aload_n 0, 1) := by decide +kernel
theorem dX1_init_5 : decode cX1_init 5 = .ok (.bipush 10, 2) := by decide +kernel
theorem dX1_init_7 : decode cX1_init 7 = .ok (.newarray .int, 2) := by decide +kernel
theorem dX1_init_9 : decode cX1_init 9 = .ok (.putfield 9, 3) := by decide +kernel
theorem dX1_init_12 : decode cX1_init 12 = .ok (.aload_n 0, 1) := by decide +kernel
theorem dX1_init_13 : decode cX1_init 13 = .ok (.bipush 10, 2) := by decide +kernel
theorem dX1_init_15 : decode cX1_init 15 = .ok (.newarray .int, 2) := by decide +kernel
theorem dX1_init_17 : decode cX1_init 17 = .ok (.putfield 15, 3) := by decide +kernel
theorem dX1_init_20 : decode cX1_init 20 = .ok (.aload_n 0, 1) := by decide +kernel
theorem dX1_init_21 : decode cX1_init 21 = .ok (.sipush 300, 3) := by decide +kernel
theorem dX1_init_24 : decode cX1_init 24 = .ok (.newarray .int, 2) := by decide +kernel
theorem dX1_init_26 : decode cX1_init 26 = .ok (.putfield 18, 3) := by decide +kernel
theorem dX1_init_29 : decode cX1_init 29 = .ok (.aload_n 0, 1) := by decide +kernel
theorem dX1_init_30 : decode cX1_init 30 = .ok (.sipush 300, 3) := by decide +kernel
theorem dX1_init_33 : decode cX1_init 33 = .ok (.newarray .int, 2) := by decide +kernel
theorem dX1_init_35 : decode cX1_init 35 = .ok (.putfield 21, 3) := by decide +kernel
theorem dX1_init_38 : decode cX1_init 38 = .ok (.aload_n 0, 1) := by decide +kernel
theorem dX1_init_39 : decode cX1_init 39 = .ok (.iconst 4, 1) := by decide +kernel
theorem dX1_init_40 : decode cX1_init 40 = .ok (.newarray .int, 2) := by decide +kernel
theorem dX1_init_42 : decode cX1_init 42 = .ok (.putfield 24, 3) := by decide +kernel
theorem dX1_init_45 : decode cX1_init 45 = .ok (.return_, 1) := by decide +kernel
theorem dX9_init_0 : decode cX9_init 0 = .ok (.aload_n 0, 1) := by decide +kernel
theorem dX9_init_1 : decode cX9_init 1 = .ok (.invokespecial 3, 3) := by decide +kernel
theorem dX9_init_4 : decode cX9_init 4 = .ok (.aload_n 0, 1) := by decide +kernel
theorem dX9_init_5 : decode cX9_init 5 = .ok (.new 9, 3) := by decide +kernel
theorem dX9_init_8 : decode cX9_init 8 = .ok (.dup, 1) := by decide +kernel
theorem dX9_init_9 : decode cX9_init 9 = .ok (.invokespecial 11, 3) := by decide +kernel
theorem dX9_init_12 : decode cX9_init 12 = .ok (.putfield 12, 3) := by decide +kernel
theorem dX9_init_15 : decode cX9_init 15 = .ok (.aload_n 0, 1) := by decide +kernel
theorem dX9_init_16 : decode cX9_init 16 = .ok (.iconst 4, 1) := by decide +kernel
theorem dX9_init_17 : decode cX9_init 17 = .ok (.bipush 10, 2) := by decide +kernel
theorem dX9_init_19 : decode cX9_init 19 = .ok (.multianewarray 18 2, 4) := by decide +kernel
theorem dX9_init_23 : decode cX9_init 23 = .ok (.putfield 20, 3) := by decide +kernel
theorem dX9_init_26 : decode cX9_init 26 = .ok (.aload_n 0, 1) := by decide +kernel
theorem dX9_init_27 : decode cX9_init 27 = .ok (.iconst 4, 1) := by decide +kernel
theorem dX9_init_28 : decode cX9_init 28 = .ok (.newarray .int, 2) := by decide +kernel
theorem dX9_init_30 : decode cX9_init 30 = .ok (.putfield 23, 3) := by decide +kernel
theorem dX9_init_33 : decode cX9_init 33 = .ok (.aload_n 0, 1) := by decide +kernel
theorem dX9_init_34 : decode cX9_init 34 = .ok (.iconst 4, 1) := by decide +kernel
theorem dX9_init_35 : decode cX9_init 35 = .ok (.newarray .int, 2) := by decide +kernel
theorem dX9_init_37 : decode cX9_init 37 = .ok (.putfield 27, 3) := by decide +kernel
theorem dX9_init_40 : decode cX9_init 40 = .ok (.aload_n 0, 1) := by decide +kernel
theorem dX9_init_41 : decode cX9_init 41 = .ok (.ldc 30, 2) := by decide +kernel
theorem dX9_init_43 : decode cX9_init 43 = .ok (.putfield 31, 3) := by decide +kernel
theorem dX9_init_46 : decode cX9_init 46 = .ok (.aload_n 0, 1) := by decide +kernel
theorem dX9_init_47 : decode cX9_init 47 = .ok (.ldc 30, 2) := by decide +kernel
theorem dX9_init_49 : decode cX9_init 49 = .ok (.putfield 35, 3) := by decide +kernel
theorem dX9_init_52 : decode cX9_init 52 = .ok (.return_, 1) := by decide +kernel
theorem dX4_init_0 : decode cX4_init 0 = .ok (.aload_n 0, 1) := by decide +kernel
theorem dX4_init_1 : decode cX4_init 1 = .ok (.invokespecial 3, 3) := by decide +kernel
theorem dX4_init_4 : decode cX4_init 4 = .ok (.aload_n 0, 1) := by decide +kernel
theorem dX4_init_5 : decode cX4_init 5 = .ok (.bipush 25, 2) := by decide +kernel
theorem dX4_init_7 : decode cX4_init 7 = .ok (.newarray .long, 2) := by decide +kernel
theorem dX4_init_9 : decode cX4_init 9 = .ok (.putfield 9, 3) := by decide +kernel
theorem dX4_init_12 : decode cX4_init 12 = .ok (.aload_n 0, 1) := by decide +kernel
theorem dX4_init_13 : decode cX4_init 13 = .ok (.bipush 25, 2) := by decide +kernel
theorem dX4_init_15 : decode cX4_init 15 = .ok (.newarray .int, 2) := by decide +kernel
theorem dX4_init_17 : decode cX4_init 17 = .ok (.putfield 15, 3) := by decide +kernel
theorem dX4_init_20 : decode cX4_init 20 = .ok (.aload_n 0, 1) := by decide +kernel
theorem dX4_init_21 : decode cX4_init 21 = .ok (.bipush 24, 2) := by decide +kernel
theorem dX4_init_23 : decode cX4_init 23 = .ok (.newarray .int, 2) := by decide +kernel
theorem dX4_init_25 : decode cX4_init 25 = .ok (.putfield 19, 3) := by decide +kernel
theorem dX4_init_28 : decode cX4_init 28 = .ok (.return_, 1) := by decide +kernel
theorem dX5_init_0 : decode cX5_init 0 = .ok (.aload_n 0, 1) := by decide +kernel
theorem dX5_init_1 : decode cX5_init 1 = .ok (.invokespecial 3, 3) := by decide +kernel
theorem dX5_init_4 : decode cX5_init 4 = .ok (.aload_n 0, 1) := by decide +kernel
theorem dX5_init_5 : decode cX5_init 5 = .ok (.bipush 60, 2) := by decide +kernel
theorem dX5_init_7 : decode cX5_init 7 = .ok (.newarray .int, 2) := by decide +kernel
theorem dX5_init_9 : decode cX5_init 9 = .ok (.putfield 9, 3) := by decide +kernel
theorem dX5_init_12 : decode cX5_init 12 = .ok (.aload_n 0, 1) := by decide +kernel
theorem dX5_init_13 : decode cX5_init 13 = .ok (.bipush 60, 2) := by decide +kernel
theorem dX5_init_15 : decode cX5_init 15 = .ok (.newarray .int, 2) := by decide +kernel
theorem dX5_init_17 : decode cX5_init 17 = .ok (.putfield 15, 3) := by decide +kernel
theorem dX5_init_20 : decode cX5_init 20 = .ok (.return_, 1) := by decide +kernel
theorem dX3_init_0 : decode cX3_init 0 = .ok (.aload_n 0, 1) := by decide +kernel
theorem dX3_init_1 : decode cX3_init 1 = .ok (.invokespecial 3, 3) := by decide +kernel
theorem dX3_init_4 : decode cX3_init 4 = .ok (.aload_n 0, 1) := by decide +kernel
theorem dX3_init_5 : decode cX3_init 5 = .ok (.new 9, 3) := by decide +kernel
theorem dX3_init_8 : decode cX3_init 8 = .ok (.dup, 1) := by decide +kernel
theorem dX3_init_9 : decode cX3_init 9 = .ok (.invokespecial 11, 3) := by decide +kernel
theorem dX3_init_12 : decode cX3_init 12 = .ok (.putfield 12, 3) := by decide +kernel
theorem dX3_init_15 : decode cX3_init 15 = .ok (.return_, 1) := by decide +kernel
theorem dX2_init_0 : decode cX2_init 0 = .ok (.aload_n 0, 1) := by decide +kernel
theorem dX2_init_1 : decode cX2_init 1 = .ok (.invokespecial 3, 3) := by decide +kernel
theorem dX2_init_4 : decode cX2_init 4 = .ok (.aload_n 0, 1) := by decide +kernel
theorem dX2_init_5 : decode cX2_init 5 = .ok (.bipush 25, 2) := by decide +kernel
theorem dX2_init_7 : decode cX2_init 7 = .ok (.newarray .int, 2) := by decide +kernel
theorem dX2_init_9 : decode cX2_init 9 = .ok (.putfield 9, 3) := by decide +kernel
theorem dX2_init_12 : decode cX2_init 12 = .ok (.aload_n 0, 1) := by decide +kernel
theorem dX2_init_13 : decode cX2_init 13 = .ok (.bipush 6, 2) := by decide +kernel
theorem dX2_init_15 : decode cX2_init 15 = .ok (.newarray .int, 2) := by decide +kernel
theorem dX2_init_17 : decode cX2_init 17 = .ok (.putfield 15, 3) := by decide +kernel
theorem dX2_init_20 : decode cX2_init 20 = .ok (.aload_n 0, 1) := by decide +kernel
theorem dX2_init_21 : decode cX2_init 21 = .ok (.bipush 6, 2) := by decide +kernel
theorem dX2_init_23 : decode cX2_init 23 = .ok (.newarray .boolean, 2) := by decide +kernel
theorem dX2_init_25 : decode cX2_init 25 = .ok (.putfield 18, 3) := by decide +kernel
theorem dX2_init_28 : decode cX2_init 28 = .ok (.return_, 1) := by decide +kernel
theorem dX11_init_0 : decode cX11_init 0 = .ok (.aload_n 0, 1) := by decide +kernel
theorem dX11_init_1 : decode cX11_init 1 = .ok (.invokespecial 1, 3) := by decide +kernel
theorem dX11_init_4 : decode cX11_init 4 = .ok (.aload_n 0, 1) := by decide +kernel
theorem dX11_init_5 : decode cX11_init 5 = .ok (.new 7, 3) := by decide +kernel
theorem dX11_init_8 : decode cX11_init 8 = .ok (.dup, 1) := by decide +kernel
theorem dX11_init_9 : decode cX11_init 9 = .ok (.invokespecial 9, 3) := by decide +kernel
theorem dX11_init_12 : decode cX11_init 12 = .ok (.putfield 10, 3) := by decide +kernel
theorem dX11_init_15 : decode cX11_init 15 = .ok (.aload_n 0, 1) := by decide +kernel
theorem dX11_init_16 : decode cX11_init 16 = .ok (.new 16, 3) := by decide +kernel
theorem dX11_init_19 : decode cX11_init 19 = .ok (.dup, 1) := by decide +kernel
theorem dX11_init_20 : decode cX11_init 20 = .ok (.invokespecial 18, 3) := by decide +kernel
theorem dX11_init_23 : decode cX11_init 23 = .ok (.putfield 19, 3) := by decide +kernel
theorem dX11_init_26 : decode cX11_init 26 = .ok (.aload_n 0, 1) := by decide +kernel
theorem dX11_init_27 : decode cX11_init 27 = .ok (.new 23, 3) := by decide +kernel
theorem dX11_init_30 : decode cX11_init 30 = .ok (.dup, 1) := by decide +kernel
theorem dX11_init_31 : decode cX11_init 31 = .ok (.invokespecial 25, 3) := by decide +kernel
theorem dX11_init_34 : decode cX11_init 34 = .ok (.putfield 26, 3) := by decide +kernel
theorem dX11_init_37 : decode cX11_init 37 = .ok (.aload_n 0, 1) := by decide +kernel
theorem dX11_init_38 : decode cX11_init 38 = .ok (.new 30, 3) := by decide +kernel
theorem dX11_init_41 : decode cX11_init 41 = .ok (.dup, 1) := by decide +kernel
theorem dX11_init_42 : decode cX11_init 42 = .ok (.invokespecial 32, 3) := by decide +kernel
theorem dX11_init_45 : decode cX11_init 45 = .ok (.putfield 33, 3) := by decide +kernel
theorem dX11_init_48 : decode cX11_init 48 = .ok (.aload_n 0, 1) := by decide +kernel
theorem dX11_init_49 : decode cX11_init 49 = .ok (.new 16, 3) := by decide +kernel
theorem dX11_init_52 : decode cX11_init 52 = .ok (.dup, 1) := by decide +kernel
theorem dX11_init_53 : decode cX11_init 53 = .ok (.invokespecial 18, 3) := by decide +kernel
theorem dX11_init_56 : decode cX11_init 56 = .ok (.putfield 37, 3) := by decide +kernel
theorem dX11_init_59 : decode cX11_init 59 = .ok (.aload_n 0, 1) := by decide +kernel
theorem dX11_init_60 : decode cX11_init 60 = .ok (.new 40, 3) := by decide +kernel
theorem dX11_init_63 : decode cX11_init 63 = .ok (.dup, 1) := by decide +kernel
theorem dX11_init_64 : decode cX11_init 64 = .ok (.invokespecial 42, 3) := by decide +kernel
theorem dX11_init_67 : decode cX11_init 67 = .ok (.putfield 43, 3) := by decide +kernel
theorem dX11_init_70 : decode cX11_init 70 = .ok (.aload_n 0, 1) := by decide +kernel
theorem dX11_init_71 : decode cX11_init 71 = .ok (.new 16, 3) := by decide +kernel
theorem dX11_init_74 : decode cX11_init 74 = .ok (.dup, 1) := by decide +kernel
theorem dX11_init_75 : decode cX11_init 75 = .ok (.invokespecial 18, 3) := by decide +kernel
theorem dX11_init_78 : decode cX11_init 78 = .ok (.putfield 47, 3) := by decide +kernel
theorem dX11_init_81 : decode cX11_init 81 = .ok (.aload_n 0, 1) := by decide +kernel
theorem dX11_init_82 : decode cX11_init 82 = .ok (.new 50, 3) := by decide +kernel
theorem dX11_init_85 : decode cX11_init 85 = .ok (.dup, 1) := by decide +kernel
theorem dX11_init_86 : decode cX11_init 86 = .ok (.invokespecial 52, 3) := by decide +kernel
theorem dX11_init_89 : decode cX11_init 89 = .ok (.putfield 53, 3) := by decide +kernel
theorem dX11_init_92 : decode cX11_init 92 = .ok (.aload_n 0, 1) := by decide +kernel
theorem dX11_init_93 : decode cX11_init 93 = .ok (.new 57, 3) := by decide +kernel
theorem dX11_init_96 : decode cX11_init 96 = .ok (.dup, 1) := by decide +kernel
theorem dX11_init_97 : decode cX11_init 97 = .ok (.invokespecial 59, 3) := by decide +kernel
theorem dX11_init_100 : decode cX11_init 100 = .ok (.putfield 60, 3) := by decide +kernel
theorem dX11_init_103 : decode cX11_init 103 = .ok (.aload_n 0, 1) := by decide +kernel
theorem dX11_init_104 : decode cX11_init 104 = .ok (.new 64, 3) := by decide +kernel
theorem dX11_init_107 : decode cX11_init 107 = .ok (.dup, 1) := by decide +kernel
theorem dX11_init_108 : decode cX11_init 108 = .ok (.invokespecial 66, 3) := by decide +kernel
theorem dX11_init_111 : decode cX11_init 111 = .ok (.putfield 67, 3) := by decide +kernel
theorem dX11_init_114 : decode cX11_init 114 = .ok (.aload_n 0, 1) := by decide +kernel
theorem dX11_init_115 : decode cX11_init 115 = .ok (.new 71, 3) := by decide +kernel
theorem dX11_init_118 : decode cX11_init 118 = .ok (.dup, 1) := by decide +kernel
theorem dX11_init_119 : decode cX11_init 119 = .ok (.invokespecial 73, 3) := by decide +kernel
theorem dX11_init_122 : decode cX11_init 122 = .ok (.putfield 74, 3) := by decide +kernel
theorem dX11_init_125 : decode cX11_init 125 = .ok (.return_, 1) := by decide +kernel
theorem dX11_late_0 : decode cX11_late 0 = .ok (.aload_n 0, 1) := by decide +kernel
theorem dX11_late_1 : decode cX11_late 1 = .ok (.getfield 26, 3) := by decide +kernel
theorem dX11_late_4 : decode cX11_late 4 = .ok (.iload_n 1, 1) := by decide +kernel
theorem dX11_late_5 : decode cX11_late 5 = .ok (.invokevirtual 125, 3) := by decide +kernel
theorem dX11_late_8 : decode cX11_late 8 = .ok (.ifCond .eq 12, 3) := by decide +kernel
theorem dX11_late_11 : decode cX11_late 11 = .ok (.iload_n 2, 1) := by decide +kernel
theorem dX11_late_12 : decode cX11_late 12 = .ok (.iconst 0, 1) := by decide +kernel
theorem dX11_late_13 : decode cX11_late 13 = .ok (.iconst 3, 1) := by decide +kernel
theorem dX11_late_14 : decode cX11_late 14 = .ok (.invokestatic 113, 3) := by decide +kernel
theorem dX11_late_17 : decode cX11_late 17 = .ok (.ifCond .ne 6, 3) := by decide +kernel
theorem dX11_late_20 : decode cX11_late 20 = .ok (.bipush (-2), 2) := by decide +kernel
theorem dX11_late_22 : decode cX11_late 22 = .ok (.ireturn, 1) := by decide +kernel
theorem dX11_late_23 : decode cX11_late 23 = .ok (.aload_n 0, 1) := by decide +kernel
theorem dX11_late_24 : decode cX11_late 24 = .ok (.getfield 26, 3) := by decide +kernel
theorem dX11_late_27 : decode cX11_late 27 = .ok (.getfield 128, 3) := by decide +kernel
theorem dX11_late_30 : decode cX11_late 30 = .ok (.iload_n 1, 1) := by decide +kernel
theorem dX11_late_31 : decode cX11_late 31 = .ok (.iaload, 1) := by decide +kernel
theorem dX11_late_32 : decode cX11_late 32 = .ok (.istore_n 3, 1) := by decide +kernel
theorem dX11_late_33 : decode cX11_late 33 = .ok (.aload_n 0, 1) := by decide +kernel
theorem dX11_late_34 : decode cX11_late 34 = .ok (.getfield 26, 3) := by decide +kernel
theorem dX11_late_37 : decode cX11_late 37 = .ok (.getfield 128, 3) := by decide +kernel
theorem dX11_late_40 : decode cX11_late 40 = .ok (.iload_n 1, 1) := by decide +kernel
theorem dX11_late_41 : decode cX11_late 41 = .ok (.iload_n 2, 1) := by decide +kernel
theorem dX11_late_42 : decode cX11_late 42 = .ok (.iastore, 1) := by decide +kernel
theorem dX11_late_43 : decode cX11_late 43 = .ok (.aload_n 0, 1) := by decide +kernel
theorem dX11_late_44 : decode cX11_late 44 = .ok (.getfield 43, 3) := by decide +kernel
theorem dX11_late_47 : decode cX11_late 47 = .ok (.iconst 0, 1) := by decide +kernel
theorem dX11_late_48 : decode cX11_late 48 = .ok (.putfield 102, 3) := by decide +kernel
theorem dX11_late_51 : decode cX11_late 51 = .ok (.iload_n 3, 1) := by decide +kernel
theorem dX11_late_52 : decode cX11_late 52 = .ok (.ireturn, 1) := by decide +kernel
theorem dX4_countWays_0 : decode cX4_countWays 0 = .ok (.lconst 0, 1) := by decide +kernel
theorem dX4_countWays_1 : decode cX4_countWays 1 = .ok (.lstore 4, 2) := by decide +kernel
theorem dX4_countWays_3 : decode cX4_countWays 3 = .ok (.iconst 0, 1) := by decide +kernel
theorem dX4_countWays_4 : decode cX4_countWays 4 = .ok (.istore 6, 2) := by decide +kernel
theorem dX4_countWays_6 : decode cX4_countWays 6 = .ok (.iload 6, 2) := by decide +kernel
theorem dX4_countWays_8 : decode cX4_countWays 8 = .ok (.aload_n 2, 1) := by decide +kernel
theorem dX4_countWays_9 : decode cX4_countWays 9 = .ok (.invokevirtual 39, 3) := by decide +kernel
theorem dX4_countWays_12 : decode cX4_countWays 12 = .ok (.if_icmp .ge 53, 3) := by decide +kernel
theorem dX4_countWays_15 : decode cX4_countWays 15 = .ok (.aload_n 2, 1) := by decide +kernel
theorem dX4_countWays_16 : decode cX4_countWays 16 = .ok (.iload 6, 2) := by decide +kernel
theorem dX4_countWays_18 : decode cX4_countWays 18 = .ok (.invokevirtual 44, 3) := by decide +kernel
theorem dX4_countWays_21 : decode cX4_countWays 21 = .ok (.checkcast 48, 3) := by decide +kernel
theorem dX4_countWays_24 : decode cX4_countWays 24 = .ok (.astore 7, 2) := by decide +kernel
theorem dX4_countWays_26 : decode cX4_countWays 26 = .ok (.aload 7, 2) := by decide +kernel
theorem dX4_countWays_28 : decode cX4_countWays 28 = .ok (.aload_n 1, 1) := by decide +kernel
theorem dX4_countWays_29 : decode cX4_countWays 29 = .ok (.iload_n 3, 1) := by decide +kernel
theorem dX4_countWays_30 : decode cX4_countWays 30 = .ok (.invokevirtual 50, 3) := by decide +kernel
theorem dX4_countWays_33 : decode cX4_countWays 33 = .ok (.ifCond .ne 26, 3) := by decide +kernel
theorem dX4_countWays_36 : decode cX4_countWays 36 = .ok (.ldc2_w 54, 3) := by decide +kernel
theorem dX4_countWays_39 : decode cX4_countWays 39 = .ok (.lload 4, 2) := by decide +kernel
theorem dX4_countWays_41 : decode cX4_countWays 41 = .ok (.aload_n 0, 1) := by decide +kernel
theorem dX4_countWays_42 : decode cX4_countWays 42 = .ok (.getfield 9, 3) := by decide +kernel
theorem dX4_countWays_45 : decode cX4_countWays 45 = .ok (.iload_n 3, 1) := by decide +kernel
theorem dX4_countWays_46 : decode cX4_countWays 46 = .ok (.aload 7, 2) := by decide +kernel
theorem dX4_countWays_48 : decode cX4_countWays 48 = .ok (.getfield 56, 3) := by decide +kernel
theorem dX4_countWays_51 : decode cX4_countWays 51 = .ok (.iadd, 1) := by decide +kernel
theorem dX4_countWays_52 : decode cX4_countWays 52 = .ok (.laload, 1) := by decide +kernel
theorem dX4_countWays_53 : decode cX4_countWays 53 = .ok (.ladd, 1) := by decide +kernel
theorem dX4_countWays_54 : decode cX4_countWays 54 = .ok (.invokestatic 59, 3) := by decide +kernel
theorem dX4_countWays_57 : decode cX4_countWays 57 = .ok (.lstore 4, 2) := by decide +kernel
theorem dX4_countWays_59 : decode cX4_countWays 59 = .ok (.iinc 6 1, 3) := by decide +kernel
theorem dX4_countWays_62 : decode cX4_countWays 62 = .ok (.goto (-56), 3) := by decide +kernel
theorem dX4_countWays_65 : decode cX4_countWays 65 = .ok (.lload 4, 2) := by decide +kernel
theorem dX4_countWays_67 : decode cX4_countWays 67 = .ok (.lreturn, 1) := by decide +kernel
theorem dX4_howMany_0 : decode cX4_howMany 0 = .ok (.aload_n 0, 1) := by decide +kernel
theorem dX4_howMany_1 : decode cX4_howMany 1 = .ok (.getfield 9, 3) := by decide +kernel
theorem dX4_howMany_4 : decode cX4_howMany 4 = .ok (.aload_n 1, 1) := by decide +kernel
theorem dX4_howMany_5 : decode cX4_howMany 5 = .ok (.getfield 22, 3) := by decide +kernel
theorem dX4_howMany_8 : decode cX4_howMany 8 = .ok (.lconst 1, 1) := by decide +kernel
theorem dX4_howMany_9 : decode cX4_howMany 9 = .ok (.lastore, 1) := by decide +kernel
theorem dX4_howMany_10 : decode cX4_howMany 10 = .ok (.aload_n 1, 1) := by decide +kernel
theorem dX4_howMany_11 : decode cX4_howMany 11 = .ok (.getfield 22, 3) := by decide +kernel
theorem dX4_howMany_14 : decode cX4_howMany 14 = .ok (.iconst 1, 1) := by decide +kernel
theorem dX4_howMany_15 : decode cX4_howMany 15 = .ok (.isub, 1) := by decide +kernel
theorem dX4_howMany_16 : decode cX4_howMany 16 = .ok (.istore_n 3, 1) := by decide +kernel
theorem dX4_howMany_17 : decode cX4_howMany 17 = .ok (.iload_n 3, 1) := by decide +kernel
theorem dX4_howMany_18 : decode cX4_howMany 18 = .ok (.ifCond .lt 45, 3) := by decide +kernel
theorem dX4_howMany_21 : decode cX4_howMany 21 = .ok (.aload_n 0, 1) := by decide +kernel
theorem dX4_howMany_22 : decode cX4_howMany 22 = .ok (.getfield 9, 3) := by decide +kernel
theorem dX4_howMany_25 : decode cX4_howMany 25 = .ok (.iload_n 3, 1) := by decide +kernel
theorem dX4_howMany_26 : decode cX4_howMany 26 = .ok (.aload_n 1, 1) := by decide +kernel
theorem dX4_howMany_27 : decode cX4_howMany 27 = .ok (.getfield 28, 3) := by decide +kernel
theorem dX4_howMany_30 : decode cX4_howMany 30 = .ok (.iload_n 3, 1) := by decide +kernel
theorem dX4_howMany_31 : decode cX4_howMany 31 = .ok (.iaload, 1) := by decide +kernel
theorem dX4_howMany_32 : decode cX4_howMany 32 = .ok (.invokestatic 31, 3) := by decide +kernel
theorem dX4_howMany_35 : decode cX4_howMany 35 = .ok (.ifCond .eq 14, 3) := by decide +kernel
theorem dX4_howMany_38 : decode cX4_howMany 38 = .ok (.aload_n 0, 1) := by decide +kernel
theorem dX4_howMany_39 : decode cX4_howMany 39 = .ok (.getfield 9, 3) := by decide +kernel
theorem dX4_howMany_42 : decode cX4_howMany 42 = .ok (.iload_n 3, 1) := by decide +kernel
theorem dX4_howMany_43 : decode cX4_howMany 43 = .ok (.iconst 1, 1) := by decide +kernel
theorem dX4_howMany_44 : decode cX4_howMany 44 = .ok (.iadd, 1) := by decide +kernel
theorem dX4_howMany_45 : decode cX4_howMany 45 = .ok (.laload, 1) := by decide +kernel
theorem dX4_howMany_46 : decode cX4_howMany 46 = .ok (.goto 10, 3) := by decide +kernel
theorem dX4_howMany_49 : decode cX4_howMany 49 = .ok (.aload_n 0, 1) := by decide +kernel
theorem dX4_howMany_50 : decode cX4_howMany 50 = .ok (.aload_n 1, 1) := by decide +kernel
theorem dX4_howMany_51 : decode cX4_howMany 51 = .ok (.aload_n 2, 1) := by decide +kernel
theorem dX4_howMany_52 : decode cX4_howMany 52 = .ok (.iload_n 3, 1) := by decide +kernel
theorem dX4_howMany_53 : decode cX4_howMany 53 = .ok (.invokevirtual 35, 3) := by decide +kernel
theorem dX4_howMany_56 : decode cX4_howMany 56 = .ok (.lastore, 1) := by decide +kernel
theorem dX4_howMany_57 : decode cX4_howMany 57 = .ok (.iinc 3 (-1), 3) := by decide +kernel
theorem dX4_howMany_60 : decode cX4_howMany 60 = .ok (.goto (-43), 3) := by decide +kernel
theorem dX4_howMany_63 : decode cX4_howMany 63 = .ok (.aload_n 0, 1) := by decide +kernel
theorem dX4_howMany_64 : decode cX4_howMany 64 = .ok (.getfield 9, 3) := by decide +kernel
theorem dX4_howMany_67 : decode cX4_howMany 67 = .ok (.iconst 0, 1) := by decide +kernel
theorem dX4_howMany_68 : decode cX4_howMany 68 = .ok (.laload, 1) := by decide +kernel
theorem dX4_howMany_69 : decode cX4_howMany 69 = .ok (.lreturn, 1) := by decide +kernel
theorem dX4_wrongWith_0 : decode cX4_wrongWith 0 = .ok (.aload_n 1, 1) := by decide +kernel
theorem dX4_wrongWith_1 : decode cX4_wrongWith 1 = .ok (.aload_n 2, 1) := by decide +kernel
theorem dX4_wrongWith_2 : decode cX4_wrongWith 2 = .ok (.iload_n 3, 1) := by decide +kernel
theorem dX4_wrongWith_3 : decode cX4_wrongWith 3 = .ok (.invokevirtual 50, 3) := by decide +kernel
theorem dX4_wrongWith_6 : decode cX4_wrongWith 6 = .ok (.istore 4, 2) := by decide +kernel
theorem dX4_wrongWith_8 : decode cX4_wrongWith 8 = .ok (.iload 4, 2) := by decide +kernel
theorem dX4_wrongWith_10 : decode cX4_wrongWith 10 = .ok (.iconst (-1), 1) := by decide +kernel
theorem dX4_wrongWith_11 : decode cX4_wrongWith 11 = .ok (.if_icmp .eq 18, 3) := by decide +kernel
theorem dX4_wrongWith_14 : decode cX4_wrongWith 14 = .ok (.aload_n 0, 1) := by decide +kernel
theorem dX4_wrongWith_15 : decode cX4_wrongWith 15 = .ok (.getfield 15, 3) := by decide +kernel
theorem dX4_wrongWith_18 : decode cX4_wrongWith 18 = .ok (.iload_n 3, 1) := by decide +kernel
theorem dX4_wrongWith_19 : decode cX4_wrongWith 19 = .ok (.aload_n 1, 1) := by decide +kernel
theorem dX4_wrongWith_20 : decode cX4_wrongWith 20 = .ok (.getfield 56, 3) := by decide +kernel
theorem dX4_wrongWith_23 : decode cX4_wrongWith 23 = .ok (.iadd, 1) := by decide +kernel
theorem dX4_wrongWith_24 : decode cX4_wrongWith 24 = .ok (.iaload, 1) := by decide +kernel
theorem dX4_wrongWith_25 : decode cX4_wrongWith 25 = .ok (.iconst (-1), 1) := by decide +kernel
theorem dX4_wrongWith_26 : decode cX4_wrongWith 26 = .ok (.if_icmp .ne 5, 3) := by decide +kernel
theorem dX4_wrongWith_29 : decode cX4_wrongWith 29 = .ok (.iconst (-1), 1) := by decide +kernel
theorem dX4_wrongWith_30 : decode cX4_wrongWith 30 = .ok (.ireturn, 1) := by decide +kernel
theorem dX4_wrongWith_31 : decode cX4_wrongWith 31 = .ok (.iload 4, 2) := by decide +kernel
theorem dX4_wrongWith_33 : decode cX4_wrongWith 33 = .ok (.aload_n 0, 1) := by decide +kernel
theorem dX4_wrongWith_34 : decode cX4_wrongWith 34 = .ok (.getfield 15, 3) := by decide +kernel
theorem dX4_wrongWith_37 : decode cX4_wrongWith 37 = .ok (.iload_n 3, 1) := by decide +kernel
theorem dX4_wrongWith_38 : decode cX4_wrongWith 38 = .ok (.aload_n 1, 1) := by decide +kernel
theorem dX4_wrongWith_39 : decode cX4_wrongWith 39 = .ok (.getfield 56, 3) := by decide +kernel
theorem dX4_wrongWith_42 : decode cX4_wrongWith 42 = .ok (.iadd, 1) := by decide +kernel
theorem dX4_wrongWith_43 : decode cX4_wrongWith 43 = .ok (.iaload, 1) := by decide +kernel
theorem dX4_wrongWith_44 : decode cX4_wrongWith 44 = .ok (.iadd, 1) := by decide +kernel
theorem dX4_wrongWith_45 : decode cX4_wrongWith 45 = .ok (.ireturn, 1) := by decide +kernel
theorem dX4_nearWord_0 : decode cX4_nearWord 0 = .ok (.iconst 0, 1) := by decide +kernel
theorem dX4_nearWord_1 : decode cX4_nearWord 1 = .ok (.istore 4, 2) := by decide +kernel
theorem dX4_nearWord_3 : decode cX4_nearWord 3 = .ok (.iload 4, 2) := by decide +kernel
theorem dX4_nearWord_5 : decode cX4_nearWord 5 = .ok (.aload_n 2, 1) := by decide +kernel
theorem dX4_nearWord_6 : decode cX4_nearWord 6 = .ok (.invokevirtual 39, 3) := by decide +kernel
theorem dX4_nearWord_9 : decode cX4_nearWord 9 = .ok (.if_icmp .ge 36, 3) := by decide +kernel
theorem dX4_nearWord_12 : decode cX4_nearWord 12 = .ok (.aload_n 0, 1) := by decide +kernel
theorem dX4_nearWord_13 : decode cX4_nearWord 13 = .ok (.aload_n 2, 1) := by decide +kernel
theorem dX4_nearWord_14 : decode cX4_nearWord 14 = .ok (.iload 4, 2) := by decide +kernel
theorem dX4_nearWord_16 : decode cX4_nearWord 16 = .ok (.invokevirtual 44, 3) := by decide +kernel
theorem dX4_nearWord_19 : decode cX4_nearWord 19 = .ok (.checkcast 48, 3) := by decide +kernel
theorem dX4_nearWord_22 : decode cX4_nearWord 22 = .ok (.aload_n 1, 1) := by decide +kernel
theorem dX4_nearWord_23 : decode cX4_nearWord 23 = .ok (.iload_n 3, 1) := by decide +kernel
theorem dX4_nearWord_24 : decode cX4_nearWord 24 = .ok (.invokevirtual 69, 3) := by decide +kernel
theorem dX4_nearWord_27 : decode cX4_nearWord 27 = .ok (.aload_n 0, 1) := by decide +kernel
theorem dX4_nearWord_28 : decode cX4_nearWord 28 = .ok (.getfield 15, 3) := by decide +kernel
theorem dX4_nearWord_31 : decode cX4_nearWord 31 = .ok (.iload_n 3, 1) := by decide +kernel
theorem dX4_nearWord_32 : decode cX4_nearWord 32 = .ok (.iaload, 1) := by decide +kernel
theorem dX4_nearWord_33 : decode cX4_nearWord 33 = .ok (.if_icmp .ne 6, 3) := by decide +kernel
theorem dX4_nearWord_36 : decode cX4_nearWord 36 = .ok (.iload 4, 2) := by decide +kernel
theorem dX4_nearWord_38 : decode cX4_nearWord 38 = .ok (.ireturn, 1) := by decide +kernel
theorem dX4_nearWord_39 : decode cX4_nearWord 39 = .ok (.iinc 4 1, 3) := by decide +kernel
theorem dX4_nearWord_42 : decode cX4_nearWord 42 = .ok (.goto (-39), 3) := by decide +kernel
theorem dX4_nearWord_45 : decode cX4_nearWord 45 = .ok (.iconst (-1), 1) := by decide +kernel
theorem dX4_nearWord_46 : decode cX4_nearWord 46 = .ok (.ireturn, 1) := by decide +kernel
theorem dX4_countedWord_0 : decode cX4_countedWord 0 = .ok (.iconst 0, 1) := by decide +kernel
theorem dX4_countedWord_1 : decode cX4_countedWord 1 = .ok (.istore 4, 2) := by decide +kernel
theorem dX4_countedWord_3 : decode cX4_countedWord 3 = .ok (.iload 4, 2) := by decide +kernel
theorem dX4_countedWord_5 : decode cX4_countedWord 5 = .ok (.aload_n 2, 1) := by decide +kernel
theorem dX4_countedWord_6 : decode cX4_countedWord 6 = .ok (.invokevirtual 39, 3) := by decide +kernel
theorem dX4_countedWord_9 : decode cX4_countedWord 9 = .ok (.if_icmp .ge 68, 3) := by decide +kernel
theorem dX4_countedWord_12 : decode cX4_countedWord 12 = .ok (.aload_n 2, 1) := by decide +kernel
theorem dX4_countedWord_13 : decode cX4_countedWord 13 = .ok (.iload 4, 2) := by decide +kernel
theorem dX4_countedWord_15 : decode cX4_countedWord 15 = .ok (.invokevirtual 44, 3) := by decide +kernel
theorem dX4_countedWord_18 : decode cX4_countedWord 18 = .ok (.checkcast 48, 3) := by decide +kernel
theorem dX4_countedWord_21 : decode cX4_countedWord 21 = .ok (.astore 5, 2) := by decide +kernel
theorem dX4_countedWord_23 : decode cX4_countedWord 23 = .ok (.aload 5, 2) := by decide +kernel
theorem dX4_countedWord_25 : decode cX4_countedWord 25 = .ok (.aload_n 1, 1) := by decide +kernel
theorem dX4_countedWord_26 : decode cX4_countedWord 26 = .ok (.iload_n 3, 1) := by decide +kernel
theorem dX4_countedWord_27 : decode cX4_countedWord 27 = .ok (.invokevirtual 50, 3) := by decide +kernel
theorem dX4_countedWord_30 : decode cX4_countedWord 30 = .ok (.ifCond .ne 41, 3) := by decide +kernel
theorem dX4_countedWord_33 : decode cX4_countedWord 33 = .ok (.aload_n 0, 1) := by decide +kernel
theorem dX4_countedWord_34 : decode cX4_countedWord 34 = .ok (.getfield 9, 3) := by decide +kernel
theorem dX4_countedWord_37 : decode cX4_countedWord 37 = .ok (.iload_n 3, 1) := by decide +kernel
theorem dX4_countedWord_38 : decode cX4_countedWord 38 = .ok (.aload 5, 2) := by decide +kernel
theorem dX4_countedWord_40 : decode cX4_countedWord 40 = .ok (.getfield 56, 3) := by decide +kernel
theorem dX4_countedWord_43 : decode cX4_countedWord 43 = .ok (.iadd, 1) := by decide +kernel
theorem dX4_countedWord_44 : decode cX4_countedWord 44 = .ok (.laload, 1) := by decide +kernel
theorem dX4_countedWord_45 : decode cX4_countedWord 45 = .ok (.lstore 6, 2) := by decide +kernel
theorem dX4_countedWord_47 : decode cX4_countedWord 47 = .ok (.aload_n 0, 1) := by decide +kernel
theorem dX4_countedWord_48 : decode cX4_countedWord 48 = .ok (.getfield 78, 3) := by decide +kernel
theorem dX4_countedWord_51 : decode cX4_countedWord 51 = .ok (.lload 6, 2) := by decide +kernel
theorem dX4_countedWord_53 : decode cX4_countedWord 53 = .ok (.lcmp, 1) := by decide +kernel
theorem dX4_countedWord_54 : decode cX4_countedWord 54 = .ok (.ifCond .ge 6, 3) := by decide +kernel
theorem dX4_countedWord_57 : decode cX4_countedWord 57 = .ok (.iload 4, 2) := by decide +kernel
theorem dX4_countedWord_59 : decode cX4_countedWord 59 = .ok (.ireturn, 1) := by decide +kernel
theorem dX4_countedWord_60 : decode cX4_countedWord 60 = .ok (.aload_n 0, 1) := by decide +kernel
theorem dX4_countedWord_61 : decode cX4_countedWord 61 = .ok (.dup, 1) := by decide +kernel
theorem dX4_countedWord_62 : decode cX4_countedWord 62 = .ok (.getfield 78, 3) := by decide +kernel
theorem dX4_countedWord_65 : decode cX4_countedWord 65 = .ok (.lload 6, 2) := by decide +kernel
theorem dX4_countedWord_67 : decode cX4_countedWord 67 = .ok (.lsub, 1) := by decide +kernel
theorem dX4_countedWord_68 : decode cX4_countedWord 68 = .ok (.putfield 78, 3) := by decide +kernel
theorem dX4_countedWord_71 : decode cX4_countedWord 71 = .ok (.iinc 4 1, 3) := by decide +kernel
theorem dX4_countedWord_74 : decode cX4_countedWord 74 = .ok (.goto (-71), 3) := by decide +kernel
theorem dX4_countedWord_77 : decode cX4_countedWord 77 = .ok (.iconst (-1), 1) := by decide +kernel
theorem dX4_countedWord_78 : decode cX4_countedWord 78 = .ok (.ireturn, 1) := by decide +kernel
theorem dX4_lay_0 : decode cX4_lay 0 = .ok (.iconst 0, 1) := by decide +kernel
theorem dX4_lay_1 : decode cX4_lay 1 = .ok (.istore 4, 2) := by decide +kernel
theorem dX4_lay_3 : decode cX4_lay 3 = .ok (.iconst 0, 1) := by decide +kernel
theorem dX4_lay_4 : decode cX4_lay 4 = .ok (.istore 5, 2) := by decide +kernel
theorem dX4_lay_6 : decode cX4_lay 6 = .ok (.iload 5, 2) := by decide +kernel
theorem dX4_lay_8 : decode cX4_lay 8 = .ok (.aload_n 1, 1) := by decide +kernel
theorem dX4_lay_9 : decode cX4_lay 9 = .ok (.getfield 22, 3) := by decide +kernel
theorem dX4_lay_12 : decode cX4_lay 12 = .ok (.if_icmp .ge 114, 3) := by decide +kernel
theorem dX4_lay_15 : decode cX4_lay 15 = .ok (.aload_n 0, 1) := by decide +kernel
theorem dX4_lay_16 : decode cX4_lay 16 = .ok (.getfield 73, 3) := by decide +kernel
theorem dX4_lay_19 : decode cX4_lay 19 = .ok (.aload_n 0, 1) := by decide +kernel
theorem dX4_lay_20 : decode cX4_lay 20 = .ok (.getfield 19, 3) := by decide +kernel
theorem dX4_lay_23 : decode cX4_lay 23 = .ok (.arraylength, 1) := by decide +kernel
theorem dX4_lay_24 : decode cX4_lay 24 = .ok (.if_icmp .ge 102, 3) := by decide +kernel
theorem dX4_lay_27 : decode cX4_lay 27 = .ok (.iload 5, 2) := by decide +kernel
theorem dX4_lay_29 : decode cX4_lay 29 = .ok (.iload 4, 2) := by decide +kernel
theorem dX4_lay_31 : decode cX4_lay 31 = .ok (.if_icmp .lt 89, 3) := by decide +kernel
theorem dX4_lay_34 : decode cX4_lay 34 = .ok (.aload_n 1, 1) := by decide +kernel
theorem dX4_lay_35 : decode cX4_lay 35 = .ok (.getfield 28, 3) := by decide +kernel
theorem dX4_lay_38 : decode cX4_lay 38 = .ok (.iload 5, 2) := by decide +kernel
theorem dX4_lay_40 : decode cX4_lay 40 = .ok (.iaload, 1) := by decide +kernel
theorem dX4_lay_41 : decode cX4_lay 41 = .ok (.invokestatic 31, 3) := by decide +kernel
theorem dX4_lay_44 : decode cX4_lay 44 = .ok (.ifCond .eq 6, 3) := by decide +kernel
theorem dX4_lay_47 : decode cX4_lay 47 = .ok (.goto 73, 3) := by decide +kernel
theorem dX4_lay_50 : decode cX4_lay 50 = .ok (.iload_n 3, 1) := by decide +kernel
theorem dX4_lay_51 : decode cX4_lay 51 = .ok (.ifCond .eq 14, 3) := by decide +kernel
theorem dX4_lay_54 : decode cX4_lay 54 = .ok (.aload_n 0, 1) := by decide +kernel
theorem dX4_lay_55 : decode cX4_lay 55 = .ok (.aload_n 1, 1) := by decide +kernel
theorem dX4_lay_56 : decode cX4_lay 56 = .ok (.aload_n 2, 1) := by decide +kernel
theorem dX4_lay_57 : decode cX4_lay 57 = .ok (.iload 5, 2) := by decide +kernel
theorem dX4_lay_59 : decode cX4_lay 59 = .ok (.invokevirtual 90, 3) := by decide +kernel
theorem dX4_lay_62 : decode cX4_lay 62 = .ok (.goto 11, 3) := by decide +kernel
theorem dX4_lay_65 : decode cX4_lay 65 = .ok (.aload_n 0, 1) := by decide +kernel
theorem dX4_lay_66 : decode cX4_lay 66 = .ok (.aload_n 1, 1) := by decide +kernel
theorem dX4_lay_67 : decode cX4_lay 67 = .ok (.aload_n 2, 1) := by decide +kernel
theorem dX4_lay_68 : decode cX4_lay 68 = .ok (.iload 5, 2) := by decide +kernel
theorem dX4_lay_70 : decode cX4_lay 70 = .ok (.invokevirtual 93, 3) := by decide +kernel
theorem dX4_lay_73 : decode cX4_lay 73 = .ok (.istore 6, 2) := by decide +kernel
theorem dX4_lay_75 : decode cX4_lay 75 = .ok (.iload 6, 2) := by decide +kernel
theorem dX4_lay_77 : decode cX4_lay 77 = .ok (.iconst (-1), 1) := by decide +kernel
theorem dX4_lay_78 : decode cX4_lay 78 = .ok (.if_icmp .ne 4, 3) := by decide +kernel
theorem dX4_lay_81 : decode cX4_lay 81 = .ok (.return_, 1) := by decide +kernel
theorem dX4_lay_82 : decode cX4_lay 82 = .ok (.aload_n 0, 1) := by decide +kernel
theorem dX4_lay_83 : decode cX4_lay 83 = .ok (.getfield 19, 3) := by decide +kernel
theorem dX4_lay_86 : decode cX4_lay 86 = .ok (.aload_n 0, 1) := by decide +kernel
theorem dX4_lay_87 : decode cX4_lay 87 = .ok (.getfield 73, 3) := by decide +kernel
theorem dX4_lay_90 : decode cX4_lay 90 = .ok (.iload 6, 2) := by decide +kernel
theorem dX4_lay_92 : decode cX4_lay 92 = .ok (.iastore, 1) := by decide +kernel
theorem dX4_lay_93 : decode cX4_lay 93 = .ok (.aload_n 0, 1) := by decide +kernel
theorem dX4_lay_94 : decode cX4_lay 94 = .ok (.dup, 1) := by decide +kernel
theorem dX4_lay_95 : decode cX4_lay 95 = .ok (.getfield 73, 3) := by decide +kernel
theorem dX4_lay_98 : decode cX4_lay 98 = .ok (.iconst 1, 1) := by decide +kernel
theorem dX4_lay_99 : decode cX4_lay 99 = .ok (.iadd, 1) := by decide +kernel
theorem dX4_lay_100 : decode cX4_lay 100 = .ok (.putfield 73, 3) := by decide +kernel
theorem dX4_lay_103 : decode cX4_lay 103 = .ok (.iload 5, 2) := by decide +kernel
theorem dX4_lay_105 : decode cX4_lay 105 = .ok (.aload_n 2, 1) := by decide +kernel
theorem dX4_lay_106 : decode cX4_lay 106 = .ok (.iload 6, 2) := by decide +kernel
theorem dX4_lay_108 : decode cX4_lay 108 = .ok (.invokevirtual 44, 3) := by decide +kernel
theorem dX4_lay_111 : decode cX4_lay 111 = .ok (.checkcast 48, 3) := by decide +kernel
theorem dX4_lay_114 : decode cX4_lay 114 = .ok (.getfield 56, 3) := by decide +kernel
theorem dX4_lay_117 : decode cX4_lay 117 = .ok (.iadd, 1) := by decide +kernel
theorem dX4_lay_118 : decode cX4_lay 118 = .ok (.istore 4, 2) := by decide +kernel
theorem dX4_lay_120 : decode cX4_lay 120 = .ok (.iinc 5 1, 3) := by decide +kernel
theorem dX4_lay_123 : decode cX4_lay 123 = .ok (.goto (-117), 3) := by decide +kernel
theorem dX4_lay_126 : decode cX4_lay 126 = .ok (.return_, 1) := by decide +kernel
theorem dX4_makeLine_0 : decode cX4_makeLine 0 = .ok (.aload_n 0, 1) := by decide +kernel
theorem dX4_makeLine_1 : decode cX4_makeLine 1 = .ok (.iconst 0, 1) := by decide +kernel
theorem dX4_makeLine_2 : decode cX4_makeLine 2 = .ok (.putfield 73, 3) := by decide +kernel
theorem dX4_makeLine_5 : decode cX4_makeLine 5 = .ok (.lload_n 3, 1) := by decide +kernel
theorem dX4_makeLine_6 : decode cX4_makeLine 6 = .ok (.lconst 0, 1) := by decide +kernel
theorem dX4_makeLine_7 : decode cX4_makeLine 7 = .ok (.lcmp, 1) := by decide +kernel
theorem dX4_makeLine_8 : decode cX4_makeLine 8 = .ok (.ifCond .lt 26, 3) := by decide +kernel
theorem dX4_makeLine_11 : decode cX4_makeLine 11 = .ok (.lload_n 3, 1) := by decide +kernel
theorem dX4_makeLine_12 : decode cX4_makeLine 12 = .ok (.aload_n 0, 1) := by decide +kernel
theorem dX4_makeLine_13 : decode cX4_makeLine 13 = .ok (.aload_n 1, 1) := by decide +kernel
theorem dX4_makeLine_14 : decode cX4_makeLine 14 = .ok (.aload_n 2, 1) := by decide +kernel
theorem dX4_makeLine_15 : decode cX4_makeLine 15 = .ok (.invokevirtual 74, 3) := by decide +kernel
theorem dX4_makeLine_18 : decode cX4_makeLine 18 = .ok (.lcmp, 1) := by decide +kernel
theorem dX4_makeLine_19 : decode cX4_makeLine 19 = .ok (.ifCond .ge 15, 3) := by decide +kernel
theorem dX4_makeLine_22 : decode cX4_makeLine 22 = .ok (.aload_n 0, 1) := by decide +kernel
theorem dX4_makeLine_23 : decode cX4_makeLine 23 = .ok (.lload_n 3, 1) := by decide +kernel
theorem dX4_makeLine_24 : decode cX4_makeLine 24 = .ok (.putfield 78, 3) := by decide +kernel
theorem dX4_makeLine_27 : decode cX4_makeLine 27 = .ok (.aload_n 0, 1) := by decide +kernel
theorem dX4_makeLine_28 : decode cX4_makeLine 28 = .ok (.aload_n 1, 1) := by decide +kernel
theorem dX4_makeLine_29 : decode cX4_makeLine 29 = .ok (.aload_n 2, 1) := by decide +kernel
theorem dX4_makeLine_30 : decode cX4_makeLine 30 = .ok (.iconst 0, 1) := by decide +kernel
theorem dX4_makeLine_31 : decode cX4_makeLine 31 = .ok (.invokevirtual 82, 3) := by decide +kernel
theorem dX4_makeLine_34 : decode cX4_makeLine 34 = .ok (.return_, 1) := by decide +kernel
theorem dX4_wordAt_0 : decode cX4_wordAt 0 = .ok (.iload_n 1, 1) := by decide +kernel
theorem dX4_wordAt_1 : decode cX4_wordAt 1 = .ok (.iconst 0, 1) := by decide +kernel
theorem dX4_wordAt_2 : decode cX4_wordAt 2 = .ok (.aload_n 0, 1) := by decide +kernel
theorem dX4_wordAt_3 : decode cX4_wordAt 3 = .ok (.getfield 73, 3) := by decide +kernel
theorem dX4_wordAt_6 : decode cX4_wordAt 6 = .ok (.iconst 1, 1) := by decide +kernel
theorem dX4_wordAt_7 : decode cX4_wordAt 7 = .ok (.isub, 1) := by decide +kernel
theorem dX4_wordAt_8 : decode cX4_wordAt 8 = .ok (.invokestatic 96, 3) := by decide +kernel
theorem dX4_wordAt_11 : decode cX4_wordAt 11 = .ok (.ifCond .eq 12, 3) := by decide +kernel
theorem dX4_wordAt_14 : decode cX4_wordAt 14 = .ok (.aload_n 0, 1) := by decide +kernel
theorem dX4_wordAt_15 : decode cX4_wordAt 15 = .ok (.getfield 19, 3) := by decide +kernel
theorem dX4_wordAt_18 : decode cX4_wordAt 18 = .ok (.iload_n 1, 1) := by decide +kernel
theorem dX4_wordAt_19 : decode cX4_wordAt 19 = .ok (.iaload, 1) := by decide +kernel
theorem dX4_wordAt_20 : decode cX4_wordAt 20 = .ok (.goto 4, 3) := by decide +kernel
theorem dX4_wordAt_23 : decode cX4_wordAt 23 = .ok (.iconst (-1), 1) := by decide +kernel
theorem dX4_wordAt_24 : decode cX4_wordAt 24 = .ok (.ireturn, 1) := by decide +kernel
theorem dX11_lineAt_0 : decode cX11_lineAt 0 = .ok (.aload_n 0, 1) := by decide +kernel
theorem dX11_lineAt_1 : decode cX11_lineAt 1 = .ok (.iload_n 1, 1) := by decide +kernel
theorem dX11_lineAt_2 : decode cX11_lineAt 2 = .ok (.invokevirtual 106, 3) := by decide +kernel
theorem dX11_lineAt_5 : decode cX11_lineAt 5 = .ok (.astore 5, 2) := by decide +kernel
theorem dX11_lineAt_7 : decode cX11_lineAt 7 = .ok (.aload 5, 2) := by decide +kernel
theorem dX11_lineAt_9 : decode cX11_lineAt 9 = .ok (.ifnull 14, 3) := by decide +kernel
theorem dX11_lineAt_12 : decode cX11_lineAt 12 = .ok (.lload_n 2, 1) := by decide +kernel
theorem dX11_lineAt_13 : decode cX11_lineAt 13 = .ok (.lconst 0, 1) := by decide +kernel
theorem dX11_lineAt_14 : decode cX11_lineAt 14 = .ok (.lcmp, 1) := by decide +kernel
theorem dX11_lineAt_15 : decode cX11_lineAt 15 = .ok (.ifCond .lt 8, 3) := by decide +kernel
theorem dX11_lineAt_18 : decode cX11_lineAt 18 = .ok (.iload 4, 2) := by decide +kernel
theorem dX11_lineAt_20 : decode cX11_lineAt 20 = .ok (.ifCond .ge 6, 3) := by decide +kernel
theorem dX11_lineAt_23 : decode cX11_lineAt 23 = .ok (.bipush (-2), 2) := by decide +kernel
theorem dX11_lineAt_25 : decode cX11_lineAt 25 = .ok (.ireturn, 1) := by decide +kernel
theorem dX11_lineAt_26 : decode cX11_lineAt 26 = .ok (.aload_n 0, 1) := by decide +kernel
theorem dX11_lineAt_27 : decode cX11_lineAt 27 = .ok (.getfield 53, 3) := by decide +kernel
theorem dX11_lineAt_30 : decode cX11_lineAt 30 = .ok (.aload 5, 2) := by decide +kernel
theorem dX11_lineAt_32 : decode cX11_lineAt 32 = .ok (.getfield 92, 3) := by decide +kernel
theorem dX11_lineAt_35 : decode cX11_lineAt 35 = .ok (.aload_n 0, 1) := by decide +kernel
theorem dX11_lineAt_36 : decode cX11_lineAt 36 = .ok (.getfield 47, 3) := by decide +kernel
theorem dX11_lineAt_39 : decode cX11_lineAt 39 = .ok (.lload_n 2, 1) := by decide +kernel
theorem dX11_lineAt_40 : decode cX11_lineAt 40 = .ok (.invokevirtual 231, 3) := by decide +kernel
theorem dX11_lineAt_43 : decode cX11_lineAt 43 = .ok (.aload_n 0, 1) := by decide +kernel
theorem dX11_lineAt_44 : decode cX11_lineAt 44 = .ok (.getfield 53, 3) := by decide +kernel
theorem dX11_lineAt_47 : decode cX11_lineAt 47 = .ok (.iload 4, 2) := by decide +kernel
theorem dX11_lineAt_49 : decode cX11_lineAt 49 = .ok (.invokevirtual 235, 3) := by decide +kernel
theorem dX11_lineAt_52 : decode cX11_lineAt 52 = .ok (.ireturn, 1) := by decide +kernel
theorem dX11_lines_0 : decode cX11_lines 0 = .ok (.aload_n 0, 1) := by decide +kernel
theorem dX11_lines_1 : decode cX11_lines 1 = .ok (.iload_n 1, 1) := by decide +kernel
theorem dX11_lines_2 : decode cX11_lines 2 = .ok (.invokevirtual 106, 3) := by decide +kernel
theorem dX11_lines_5 : decode cX11_lines 5 = .ok (.astore_n 2, 1) := by decide +kernel
theorem dX11_lines_6 : decode cX11_lines 6 = .ok (.aload_n 2, 1) := by decide +kernel
theorem dX11_lines_7 : decode cX11_lines 7 = .ok (.ifnonnull 7, 3) := by decide +kernel
theorem dX11_lines_10 : decode cX11_lines 10 = .ok (.ldc2_w 225, 3) := by decide +kernel
theorem dX11_lines_13 : decode cX11_lines 13 = .ok (.lreturn, 1) := by decide +kernel
theorem dX11_lines_14 : decode cX11_lines 14 = .ok (.aload_n 0, 1) := by decide +kernel
theorem dX11_lines_15 : decode cX11_lines 15 = .ok (.getfield 53, 3) := by decide +kernel
theorem dX11_lines_18 : decode cX11_lines 18 = .ok (.aload_n 2, 1) := by decide +kernel
theorem dX11_lines_19 : decode cX11_lines 19 = .ok (.getfield 92, 3) := by decide +kernel
theorem dX11_lines_22 : decode cX11_lines 22 = .ok (.aload_n 0, 1) := by decide +kernel
theorem dX11_lines_23 : decode cX11_lines 23 = .ok (.getfield 47, 3) := by decide +kernel
theorem dX11_lines_26 : decode cX11_lines 26 = .ok (.invokevirtual 227, 3) := by decide +kernel
theorem dX11_lines_29 : decode cX11_lines 29 = .ok (.lreturn, 1) := by decide +kernel
theorem dX5_add_0 : decode cX5_add 0 = .ok (.aload_n 0, 1) := by decide +kernel
theorem dX5_add_1 : decode cX5_add 1 = .ok (.getfield 18, 3) := by decide +kernel
theorem dX5_add_4 : decode cX5_add 4 = .ok (.bipush 60, 2) := by decide +kernel
theorem dX5_add_6 : decode cX5_add 6 = .ok (.if_icmp .lt 5, 3) := by decide +kernel
theorem dX5_add_9 : decode cX5_add 9 = .ok (.iconst 0, 1) := by decide +kernel
theorem dX5_add_10 : decode cX5_add 10 = .ok (.ireturn, 1) := by decide +kernel
theorem dX5_add_11 : decode cX5_add 11 = .ok (.aload_n 0, 1) := by decide +kernel
theorem dX5_add_12 : decode cX5_add 12 = .ok (.getfield 9, 3) := by decide +kernel
theorem dX5_add_15 : decode cX5_add 15 = .ok (.aload_n 0, 1) := by decide +kernel
theorem dX5_add_16 : decode cX5_add 16 = .ok (.getfield 18, 3) := by decide +kernel
theorem dX5_add_19 : decode cX5_add 19 = .ok (.iload_n 1, 1) := by decide +kernel
theorem dX5_add_20 : decode cX5_add 20 = .ok (.iastore, 1) := by decide +kernel
theorem dX5_add_21 : decode cX5_add 21 = .ok (.aload_n 0, 1) := by decide +kernel
theorem dX5_add_22 : decode cX5_add 22 = .ok (.getfield 15, 3) := by decide +kernel
theorem dX5_add_25 : decode cX5_add 25 = .ok (.aload_n 0, 1) := by decide +kernel
theorem dX5_add_26 : decode cX5_add 26 = .ok (.getfield 18, 3) := by decide +kernel
theorem dX5_add_29 : decode cX5_add 29 = .ok (.iload_n 2, 1) := by decide +kernel
theorem dX5_add_30 : decode cX5_add 30 = .ok (.iastore, 1) := by decide +kernel
theorem dX5_add_31 : decode cX5_add 31 = .ok (.aload_n 0, 1) := by decide +kernel
theorem dX5_add_32 : decode cX5_add 32 = .ok (.dup, 1) := by decide +kernel
theorem dX5_add_33 : decode cX5_add 33 = .ok (.getfield 18, 3) := by decide +kernel
theorem dX5_add_36 : decode cX5_add 36 = .ok (.iconst 1, 1) := by decide +kernel
theorem dX5_add_37 : decode cX5_add 37 = .ok (.iadd, 1) := by decide +kernel
theorem dX5_add_38 : decode cX5_add 38 = .ok (.putfield 18, 3) := by decide +kernel
theorem dX5_add_41 : decode cX5_add 41 = .ok (.iconst 1, 1) := by decide +kernel
theorem dX5_add_42 : decode cX5_add 42 = .ok (.ireturn, 1) := by decide +kernel
theorem dX11_mark_0 : decode cX11_mark 0 = .ok (.iload_n 1, 1) := by decide +kernel
theorem dX11_mark_1 : decode cX11_mark 1 = .ok (.iconst 0, 1) := by decide +kernel
theorem dX11_mark_2 : decode cX11_mark 2 = .ok (.sipush 299, 3) := by decide +kernel
theorem dX11_mark_5 : decode cX11_mark 5 = .ok (.invokestatic 113, 3) := by decide +kernel
theorem dX11_mark_8 : decode cX11_mark 8 = .ok (.ifCond .eq 14, 3) := by decide +kernel
theorem dX11_mark_11 : decode cX11_mark 11 = .ok (.iload_n 2, 1) := by decide +kernel
theorem dX11_mark_12 : decode cX11_mark 12 = .ok (.iconst 0, 1) := by decide +kernel
theorem dX11_mark_13 : decode cX11_mark 13 = .ok (.sipush 5000, 3) := by decide +kernel
theorem dX11_mark_16 : decode cX11_mark 16 = .ok (.invokestatic 113, 3) := by decide +kernel
theorem dX11_mark_19 : decode cX11_mark 19 = .ok (.ifCond .ne 6, 3) := by decide +kernel
theorem dX11_mark_22 : decode cX11_mark 22 = .ok (.bipush (-2), 2) := by decide +kernel
theorem dX11_mark_24 : decode cX11_mark 24 = .ok (.ireturn, 1) := by decide +kernel
theorem dX11_mark_25 : decode cX11_mark 25 = .ok (.aload_n 0, 1) := by decide +kernel
theorem dX11_mark_26 : decode cX11_mark 26 = .ok (.getfield 60, 3) := by decide +kernel
theorem dX11_mark_29 : decode cX11_mark 29 = .ok (.iload_n 1, 1) := by decide +kernel
theorem dX11_mark_30 : decode cX11_mark 30 = .ok (.iload_n 2, 1) := by decide +kernel
theorem dX11_mark_31 : decode cX11_mark 31 = .ok (.invokevirtual 246, 3) := by decide +kernel
theorem dX11_mark_34 : decode cX11_mark 34 = .ok (.ifCond .eq 13, 3) := by decide +kernel
theorem dX11_mark_37 : decode cX11_mark 37 = .ok (.aload_n 0, 1) := by decide +kernel
theorem dX11_mark_38 : decode cX11_mark 38 = .ok (.getfield 60, 3) := by decide +kernel
theorem dX11_mark_41 : decode cX11_mark 41 = .ok (.getfield 249, 3) := by decide +kernel
theorem dX11_mark_44 : decode cX11_mark 44 = .ok (.goto 5, 3) := by decide +kernel
theorem dX11_mark_47 : decode cX11_mark 47 = .ok (.bipush (-4), 2) := by decide +kernel
theorem dX11_mark_49 : decode cX11_mark 49 = .ok (.ireturn, 1) := by decide +kernel
theorem dX4_leastWrong_0 : decode cX4_leastWrong 0 = .ok (.iconst (-1), 1) := by decide +kernel
theorem dX4_leastWrong_1 : decode cX4_leastWrong 1 = .ok (.istore 4, 2) := by decide +kernel
theorem dX4_leastWrong_3 : decode cX4_leastWrong 3 = .ok (.iconst 0, 1) := by decide +kernel
theorem dX4_leastWrong_4 : decode cX4_leastWrong 4 = .ok (.istore 5, 2) := by decide +kernel
theorem dX4_leastWrong_6 : decode cX4_leastWrong 6 = .ok (.iload 5, 2) := by decide +kernel
theorem dX4_leastWrong_8 : decode cX4_leastWrong 8 = .ok (.aload_n 2, 1) := by decide +kernel
theorem dX4_leastWrong_9 : decode cX4_leastWrong 9 = .ok (.invokevirtual 39, 3) := by decide +kernel
theorem dX4_leastWrong_12 : decode cX4_leastWrong 12 = .ok (.if_icmp .ge 49, 3) := by decide +kernel
theorem dX4_leastWrong_15 : decode cX4_leastWrong 15 = .ok (.aload_n 0, 1) := by decide +kernel
theorem dX4_leastWrong_16 : decode cX4_leastWrong 16 = .ok (.aload_n 2, 1) := by decide +kernel
theorem dX4_leastWrong_17 : decode cX4_leastWrong 17 = .ok (.iload 5, 2) := by decide +kernel
theorem dX4_leastWrong_19 : decode cX4_leastWrong 19 = .ok (.invokevirtual 44, 3) := by decide +kernel
theorem dX4_leastWrong_22 : decode cX4_leastWrong 22 = .ok (.checkcast 48, 3) := by decide +kernel
theorem dX4_leastWrong_25 : decode cX4_leastWrong 25 = .ok (.aload_n 1, 1) := by decide +kernel
theorem dX4_leastWrong_26 : decode cX4_leastWrong 26 = .ok (.iload_n 3, 1) := by decide +kernel
theorem dX4_leastWrong_27 : decode cX4_leastWrong 27 = .ok (.invokevirtual 69, 3) := by decide +kernel
theorem dX4_leastWrong_30 : decode cX4_leastWrong 30 = .ok (.istore 6, 2) := by decide +kernel
theorem dX4_leastWrong_32 : decode cX4_leastWrong 32 = .ok (.iload 6, 2) := by decide +kernel
theorem dX4_leastWrong_34 : decode cX4_leastWrong 34 = .ok (.iconst (-1), 1) := by decide +kernel
theorem dX4_leastWrong_35 : decode cX4_leastWrong 35 = .ok (.if_icmp .eq 20, 3) := by decide +kernel
theorem dX4_leastWrong_38 : decode cX4_leastWrong 38 = .ok (.iload 4, 2) := by decide +kernel
theorem dX4_leastWrong_40 : decode cX4_leastWrong 40 = .ok (.iconst (-1), 1) := by decide +kernel
theorem dX4_leastWrong_41 : decode cX4_leastWrong 41 = .ok (.if_icmp .eq 10, 3) := by decide +kernel
theorem dX4_leastWrong_44 : decode cX4_leastWrong 44 = .ok (.iload 6, 2) := by decide +kernel
theorem dX4_leastWrong_46 : decode cX4_leastWrong 46 = .ok (.iload 4, 2) := by decide +kernel
theorem dX4_leastWrong_48 : decode cX4_leastWrong 48 = .ok (.if_icmp .ge 7, 3) := by decide +kernel
theorem dX4_leastWrong_51 : decode cX4_leastWrong 51 = .ok (.iload 6, 2) := by decide +kernel
theorem dX4_leastWrong_53 : decode cX4_leastWrong 53 = .ok (.istore 4, 2) := by decide +kernel
theorem dX4_leastWrong_55 : decode cX4_leastWrong 55 = .ok (.iinc 5 1, 3) := by decide +kernel
theorem dX4_leastWrong_58 : decode cX4_leastWrong 58 = .ok (.goto (-52), 3) := by decide +kernel
theorem dX4_leastWrong_61 : decode cX4_leastWrong 61 = .ok (.iload 4, 2) := by decide +kernel
theorem dX4_leastWrong_63 : decode cX4_leastWrong 63 = .ok (.ireturn, 1) := by decide +kernel
theorem dX4_fewestWrong_0 : decode cX4_fewestWrong 0 = .ok (.aload_n 0, 1) := by decide +kernel
theorem dX4_fewestWrong_1 : decode cX4_fewestWrong 1 = .ok (.getfield 15, 3) := by decide +kernel
theorem dX4_fewestWrong_4 : decode cX4_fewestWrong 4 = .ok (.aload_n 1, 1) := by decide +kernel
theorem dX4_fewestWrong_5 : decode cX4_fewestWrong 5 = .ok (.getfield 22, 3) := by decide +kernel
theorem dX4_fewestWrong_8 : decode cX4_fewestWrong 8 = .ok (.iconst 0, 1) := by decide +kernel
theorem dX4_fewestWrong_9 : decode cX4_fewestWrong 9 = .ok (.iastore, 1) := by decide +kernel
theorem dX4_fewestWrong_10 : decode cX4_fewestWrong 10 = .ok (.aload_n 1, 1) := by decide +kernel
theorem dX4_fewestWrong_11 : decode cX4_fewestWrong 11 = .ok (.getfield 22, 3) := by decide +kernel
theorem dX4_fewestWrong_14 : decode cX4_fewestWrong 14 = .ok (.iconst 1, 1) := by decide +kernel
theorem dX4_fewestWrong_15 : decode cX4_fewestWrong 15 = .ok (.isub, 1) := by decide +kernel
theorem dX4_fewestWrong_16 : decode cX4_fewestWrong 16 = .ok (.istore_n 3, 1) := by decide +kernel
theorem dX4_fewestWrong_17 : decode cX4_fewestWrong 17 = .ok (.iload_n 3, 1) := by decide +kernel
theorem dX4_fewestWrong_18 : decode cX4_fewestWrong 18 = .ok (.ifCond .lt 45, 3) := by decide +kernel
theorem dX4_fewestWrong_21 : decode cX4_fewestWrong 21 = .ok (.aload_n 0, 1) := by decide +kernel
theorem dX4_fewestWrong_22 : decode cX4_fewestWrong 22 = .ok (.getfield 15, 3) := by decide +kernel
theorem dX4_fewestWrong_25 : decode cX4_fewestWrong 25 = .ok (.iload_n 3, 1) := by decide +kernel
theorem dX4_fewestWrong_26 : decode cX4_fewestWrong 26 = .ok (.aload_n 1, 1) := by decide +kernel
theorem dX4_fewestWrong_27 : decode cX4_fewestWrong 27 = .ok (.getfield 28, 3) := by decide +kernel
theorem dX4_fewestWrong_30 : decode cX4_fewestWrong 30 = .ok (.iload_n 3, 1) := by decide +kernel
theorem dX4_fewestWrong_31 : decode cX4_fewestWrong 31 = .ok (.iaload, 1) := by decide +kernel
theorem dX4_fewestWrong_32 : decode cX4_fewestWrong 32 = .ok (.invokestatic 31, 3) := by decide +kernel
theorem dX4_fewestWrong_35 : decode cX4_fewestWrong 35 = .ok (.ifCond .eq 14, 3) := by decide +kernel
theorem dX4_fewestWrong_38 : decode cX4_fewestWrong 38 = .ok (.aload_n 0, 1) := by decide +kernel
theorem dX4_fewestWrong_39 : decode cX4_fewestWrong 39 = .ok (.getfield 15, 3) := by decide +kernel
theorem dX4_fewestWrong_42 : decode cX4_fewestWrong 42 = .ok (.iload_n 3, 1) := by decide +kernel
theorem dX4_fewestWrong_43 : decode cX4_fewestWrong 43 = .ok (.iconst 1, 1) := by decide +kernel
theorem dX4_fewestWrong_44 : decode cX4_fewestWrong 44 = .ok (.iadd, 1) := by decide +kernel
theorem dX4_fewestWrong_45 : decode cX4_fewestWrong 45 = .ok (.iaload, 1) := by decide +kernel
theorem dX4_fewestWrong_46 : decode cX4_fewestWrong 46 = .ok (.goto 10, 3) := by decide +kernel
theorem dX4_fewestWrong_49 : decode cX4_fewestWrong 49 = .ok (.aload_n 0, 1) := by decide +kernel
theorem dX4_fewestWrong_50 : decode cX4_fewestWrong 50 = .ok (.aload_n 1, 1) := by decide +kernel
theorem dX4_fewestWrong_51 : decode cX4_fewestWrong 51 = .ok (.aload_n 2, 1) := by decide +kernel
theorem dX4_fewestWrong_52 : decode cX4_fewestWrong 52 = .ok (.iload_n 3, 1) := by decide +kernel
theorem dX4_fewestWrong_53 : decode cX4_fewestWrong 53 = .ok (.invokevirtual 65, 3) := by decide +kernel
theorem dX4_fewestWrong_56 : decode cX4_fewestWrong 56 = .ok (.iastore, 1) := by decide +kernel
theorem dX4_fewestWrong_57 : decode cX4_fewestWrong 57 = .ok (.iinc 3 (-1), 3) := by decide +kernel
theorem dX4_fewestWrong_60 : decode cX4_fewestWrong 60 = .ok (.goto (-43), 3) := by decide +kernel
theorem dX4_fewestWrong_63 : decode cX4_fewestWrong 63 = .ok (.aload_n 0, 1) := by decide +kernel
theorem dX4_fewestWrong_64 : decode cX4_fewestWrong 64 = .ok (.getfield 15, 3) := by decide +kernel
theorem dX4_fewestWrong_67 : decode cX4_fewestWrong 67 = .ok (.iconst 0, 1) := by decide +kernel
theorem dX4_fewestWrong_68 : decode cX4_fewestWrong 68 = .ok (.iaload, 1) := by decide +kernel
theorem dX4_fewestWrong_69 : decode cX4_fewestWrong 69 = .ok (.ireturn, 1) := by decide +kernel
theorem dX11_near_0 : decode cX11_near 0 = .ok (.aload_n 0, 1) := by decide +kernel
theorem dX11_near_1 : decode cX11_near 1 = .ok (.iload_n 1, 1) := by decide +kernel
theorem dX11_near_2 : decode cX11_near 2 = .ok (.invokevirtual 106, 3) := by decide +kernel
theorem dX11_near_5 : decode cX11_near 5 = .ok (.astore_n 2, 1) := by decide +kernel
theorem dX11_near_6 : decode cX11_near 6 = .ok (.aload_n 2, 1) := by decide +kernel
theorem dX11_near_7 : decode cX11_near 7 = .ok (.ifnonnull 6, 3) := by decide +kernel
theorem dX11_near_10 : decode cX11_near 10 = .ok (.bipush (-2), 2) := by decide +kernel
theorem dX11_near_12 : decode cX11_near 12 = .ok (.ireturn, 1) := by decide +kernel
theorem dX11_near_13 : decode cX11_near 13 = .ok (.aload_n 0, 1) := by decide +kernel
theorem dX11_near_14 : decode cX11_near 14 = .ok (.getfield 53, 3) := by decide +kernel
theorem dX11_near_17 : decode cX11_near 17 = .ok (.aload_n 2, 1) := by decide +kernel
theorem dX11_near_18 : decode cX11_near 18 = .ok (.getfield 92, 3) := by decide +kernel
theorem dX11_near_21 : decode cX11_near 21 = .ok (.aload_n 0, 1) := by decide +kernel
theorem dX11_near_22 : decode cX11_near 22 = .ok (.getfield 47, 3) := by decide +kernel
theorem dX11_near_25 : decode cX11_near 25 = .ok (.invokevirtual 238, 3) := by decide +kernel
theorem dX11_near_28 : decode cX11_near 28 = .ok (.ireturn, 1) := by decide +kernel
theorem dX4_makeNearLine_0 : decode cX4_makeNearLine 0 = .ok (.aload_n 0, 1) := by decide +kernel
theorem dX4_makeNearLine_1 : decode cX4_makeNearLine 1 = .ok (.iconst 0, 1) := by decide +kernel
theorem dX4_makeNearLine_2 : decode cX4_makeNearLine 2 = .ok (.putfield 73, 3) := by decide +kernel
theorem dX4_makeNearLine_5 : decode cX4_makeNearLine 5 = .ok (.aload_n 0, 1) := by decide +kernel
theorem dX4_makeNearLine_6 : decode cX4_makeNearLine 6 = .ok (.aload_n 1, 1) := by decide +kernel
theorem dX4_makeNearLine_7 : decode cX4_makeNearLine 7 = .ok (.aload_n 2, 1) := by decide +kernel
theorem dX4_makeNearLine_8 : decode cX4_makeNearLine 8 = .ok (.invokevirtual 86, 3) := by decide +kernel
theorem dX4_makeNearLine_11 : decode cX4_makeNearLine 11 = .ok (.iconst (-1), 1) := by decide +kernel
theorem dX4_makeNearLine_12 : decode cX4_makeNearLine 12 = .ok (.if_icmp .eq 10, 3) := by decide +kernel
theorem dX4_makeNearLine_15 : decode cX4_makeNearLine 15 = .ok (.aload_n 0, 1) := by decide +kernel
theorem dX4_makeNearLine_16 : decode cX4_makeNearLine 16 = .ok (.aload_n 1, 1) := by decide +kernel
theorem dX4_makeNearLine_17 : decode cX4_makeNearLine 17 = .ok (.aload_n 2, 1) := by decide +kernel
theorem dX4_makeNearLine_18 : decode cX4_makeNearLine 18 = .ok (.iconst 1, 1) := by decide +kernel
theorem dX4_makeNearLine_19 : decode cX4_makeNearLine 19 = .ok (.invokevirtual 82, 3) := by decide +kernel
theorem dX4_makeNearLine_22 : decode cX4_makeNearLine 22 = .ok (.return_, 1) := by decide +kernel
theorem dX11_nearAt_0 : decode cX11_nearAt 0 = .ok (.aload_n 0, 1) := by decide +kernel
theorem dX11_nearAt_1 : decode cX11_nearAt 1 = .ok (.iload_n 1, 1) := by decide +kernel
theorem dX11_nearAt_2 : decode cX11_nearAt 2 = .ok (.invokevirtual 106, 3) := by decide +kernel
theorem dX11_nearAt_5 : decode cX11_nearAt 5 = .ok (.astore_n 3, 1) := by decide +kernel
theorem dX11_nearAt_6 : decode cX11_nearAt 6 = .ok (.aload_n 3, 1) := by decide +kernel
theorem dX11_nearAt_7 : decode cX11_nearAt 7 = .ok (.ifnull 7, 3) := by decide +kernel
theorem dX11_nearAt_10 : decode cX11_nearAt 10 = .ok (.iload_n 2, 1) := by decide +kernel
theorem dX11_nearAt_11 : decode cX11_nearAt 11 = .ok (.ifCond .ge 6, 3) := by decide +kernel
theorem dX11_nearAt_14 : decode cX11_nearAt 14 = .ok (.bipush (-2), 2) := by decide +kernel
theorem dX11_nearAt_16 : decode cX11_nearAt 16 = .ok (.ireturn, 1) := by decide +kernel
theorem dX11_nearAt_17 : decode cX11_nearAt 17 = .ok (.aload_n 0, 1) := by decide +kernel
theorem dX11_nearAt_18 : decode cX11_nearAt 18 = .ok (.getfield 53, 3) := by decide +kernel
theorem dX11_nearAt_21 : decode cX11_nearAt 21 = .ok (.aload_n 3, 1) := by decide +kernel
theorem dX11_nearAt_22 : decode cX11_nearAt 22 = .ok (.getfield 92, 3) := by decide +kernel
theorem dX11_nearAt_25 : decode cX11_nearAt 25 = .ok (.aload_n 0, 1) := by decide +kernel
theorem dX11_nearAt_26 : decode cX11_nearAt 26 = .ok (.getfield 47, 3) := by decide +kernel
theorem dX11_nearAt_29 : decode cX11_nearAt 29 = .ok (.invokevirtual 242, 3) := by decide +kernel
theorem dX11_nearAt_32 : decode cX11_nearAt 32 = .ok (.aload_n 0, 1) := by decide +kernel
theorem dX11_nearAt_33 : decode cX11_nearAt 33 = .ok (.getfield 53, 3) := by decide +kernel
theorem dX11_nearAt_36 : decode cX11_nearAt 36 = .ok (.iload_n 2, 1) := by decide +kernel
theorem dX11_nearAt_37 : decode cX11_nearAt 37 = .ok (.invokevirtual 235, 3) := by decide +kernel
theorem dX11_nearAt_40 : decode cX11_nearAt 40 = .ok (.ireturn, 1) := by decide +kernel
theorem dX11_now_0 : decode cX11_now 0 = .ok (.aload_n 0, 1) := by decide +kernel
theorem dX11_now_1 : decode cX11_now 1 = .ok (.getfield 26, 3) := by decide +kernel
theorem dX11_now_4 : decode cX11_now 4 = .ok (.iload_n 1, 1) := by decide +kernel
theorem dX11_now_5 : decode cX11_now 5 = .ok (.invokevirtual 125, 3) := by decide +kernel
theorem dX11_now_8 : decode cX11_now 8 = .ok (.ifCond .eq 15, 3) := by decide +kernel
theorem dX11_now_11 : decode cX11_now 11 = .ok (.aload_n 0, 1) := by decide +kernel
theorem dX11_now_12 : decode cX11_now 12 = .ok (.getfield 26, 3) := by decide +kernel
theorem dX11_now_15 : decode cX11_now 15 = .ok (.getfield 141, 3) := by decide +kernel
theorem dX11_now_18 : decode cX11_now 18 = .ok (.iload_n 1, 1) := by decide +kernel
theorem dX11_now_19 : decode cX11_now 19 = .ok (.iaload, 1) := by decide +kernel
theorem dX11_now_20 : decode cX11_now 20 = .ok (.goto 5, 3) := by decide +kernel
theorem dX11_now_23 : decode cX11_now 23 = .ok (.bipush (-2), 2) := by decide +kernel
theorem dX11_now_25 : decode cX11_now 25 = .ok (.ireturn, 1) := by decide +kernel
theorem dX11_pause_0 : decode cX11_pause 0 = .ok (.iload_n 1, 1) := by decide +kernel
theorem dX11_pause_1 : decode cX11_pause 1 = .ok (.iconst 0, 1) := by decide +kernel
theorem dX11_pause_2 : decode cX11_pause 2 = .ok (.bipush 100, 2) := by decide +kernel
theorem dX11_pause_4 : decode cX11_pause 4 = .ok (.invokestatic 113, 3) := by decide +kernel
theorem dX11_pause_7 : decode cX11_pause 7 = .ok (.ifCond .ne 6, 3) := by decide +kernel
theorem dX11_pause_10 : decode cX11_pause 10 = .ok (.bipush (-2), 2) := by decide +kernel
theorem dX11_pause_12 : decode cX11_pause 12 = .ok (.ireturn, 1) := by decide +kernel
theorem dX11_pause_13 : decode cX11_pause 13 = .ok (.aload_n 0, 1) := by decide +kernel
theorem dX11_pause_14 : decode cX11_pause 14 = .ok (.getfield 26, 3) := by decide +kernel
theorem dX11_pause_17 : decode cX11_pause 17 = .ok (.iload_n 1, 1) := by decide +kernel
theorem dX11_pause_18 : decode cX11_pause 18 = .ok (.aload_n 0, 1) := by decide +kernel
theorem dX11_pause_19 : decode cX11_pause 19 = .ok (.getfield 26, 3) := by decide +kernel
theorem dX11_pause_22 : decode cX11_pause 22 = .ok (.getfield 141, 3) := by decide +kernel
theorem dX11_pause_25 : decode cX11_pause 25 = .ok (.invokevirtual 144, 3) := by decide +kernel
theorem dX11_pause_28 : decode cX11_pause 28 = .ok (.aload_n 0, 1) := by decide +kernel
theorem dX11_pause_29 : decode cX11_pause 29 = .ok (.getfield 43, 3) := by decide +kernel
theorem dX11_pause_32 : decode cX11_pause 32 = .ok (.iconst 0, 1) := by decide +kernel
theorem dX11_pause_33 : decode cX11_pause 33 = .ok (.putfield 102, 3) := by decide +kernel
theorem dX11_pause_36 : decode cX11_pause 36 = .ok (.aload_n 0, 1) := by decide +kernel
theorem dX11_pause_37 : decode cX11_pause 37 = .ok (.getfield 26, 3) := by decide +kernel
theorem dX11_pause_40 : decode cX11_pause 40 = .ok (.invokevirtual 148, 3) := by decide +kernel
theorem dX11_pause_43 : decode cX11_pause 43 = .ok (.ireturn, 1) := by decide +kernel
theorem dX9_tryFrom_0 : decode cX9_tryFrom 0 = .ok (.iload 5, 2) := by decide +kernel
theorem dX9_tryFrom_2 : decode cX9_tryFrom 2 = .ok (.ifCond .lt 18, 3) := by decide +kernel
theorem dX9_tryFrom_5 : decode cX9_tryFrom 5 = .ok (.iload 5, 2) := by decide +kernel
theorem dX9_tryFrom_7 : decode cX9_tryFrom 7 = .ok (.aload_n 3, 1) := by decide +kernel
theorem dX9_tryFrom_8 : decode cX9_tryFrom 8 = .ok (.invokevirtual 59, 3) := by decide +kernel
theorem dX9_tryFrom_11 : decode cX9_tryFrom 11 = .ok (.if_icmp .ge 9, 3) := by decide +kernel
theorem dX9_tryFrom_14 : decode cX9_tryFrom 14 = .ok (.iload 5, 2) := by decide +kernel
theorem dX9_tryFrom_16 : decode cX9_tryFrom 16 = .ok (.iconst 4, 1) := by decide +kernel
theorem dX9_tryFrom_17 : decode cX9_tryFrom 17 = .ok (.if_icmp .lt 4, 3) := by decide +kernel
theorem dX9_tryFrom_20 : decode cX9_tryFrom 20 = .ok (.return_, 1) := by decide +kernel
theorem dX9_tryFrom_21 : decode cX9_tryFrom 21 = .ok (.iconst 0, 1) := by decide +kernel
theorem dX9_tryFrom_22 : decode cX9_tryFrom 22 = .ok (.istore 7, 2) := by decide +kernel
theorem dX9_tryFrom_24 : decode cX9_tryFrom 24 = .ok (.iload 7, 2) := by decide +kernel
theorem dX9_tryFrom_26 : decode cX9_tryFrom 26 = .ok (.aload_n 1, 1) := by decide +kernel
theorem dX9_tryFrom_27 : decode cX9_tryFrom 27 = .ok (.invokevirtual 59, 3) := by decide +kernel
theorem dX9_tryFrom_30 : decode cX9_tryFrom 30 = .ok (.if_icmp .ge 183, 3) := by decide +kernel
theorem dX9_tryFrom_33 : decode cX9_tryFrom 33 = .ok (.aload_n 0, 1) := by decide +kernel
theorem dX9_tryFrom_34 : decode cX9_tryFrom 34 = .ok (.getfield 20, 3) := by decide +kernel
theorem dX9_tryFrom_37 : decode cX9_tryFrom 37 = .ok (.iload 5, 2) := by decide +kernel
theorem dX9_tryFrom_39 : decode cX9_tryFrom 39 = .ok (.aaload, 1) := by decide +kernel
theorem dX9_tryFrom_40 : decode cX9_tryFrom 40 = .ok (.aload_n 0, 1) := by decide +kernel
theorem dX9_tryFrom_41 : decode cX9_tryFrom 41 = .ok (.getfield 12, 3) := by decide +kernel
theorem dX9_tryFrom_44 : decode cX9_tryFrom 44 = .ok (.getfield 65, 3) := by decide +kernel
theorem dX9_tryFrom_47 : decode cX9_tryFrom 47 = .ok (.invokestatic 51, 3) := by decide +kernel
theorem dX9_tryFrom_50 : decode cX9_tryFrom 50 = .ok (.aload_n 0, 1) := by decide +kernel
theorem dX9_tryFrom_51 : decode cX9_tryFrom 51 = .ok (.getfield 31, 3) := by decide +kernel
theorem dX9_tryFrom_54 : decode cX9_tryFrom 54 = .ok (.iconst 1, 1) := by decide +kernel
theorem dX9_tryFrom_55 : decode cX9_tryFrom 55 = .ok (.isub, 1) := by decide +kernel
theorem dX9_tryFrom_56 : decode cX9_tryFrom 56 = .ok (.iload 6, 2) := by decide +kernel
theorem dX9_tryFrom_58 : decode cX9_tryFrom 58 = .ok (.isub, 1) := by decide +kernel
theorem dX9_tryFrom_59 : decode cX9_tryFrom 59 = .ok (.istore 8, 2) := by decide +kernel
theorem dX9_tryFrom_61 : decode cX9_tryFrom 61 = .ok (.aload_n 0, 1) := by decide +kernel
theorem dX9_tryFrom_62 : decode cX9_tryFrom 62 = .ok (.getfield 12, 3) := by decide +kernel
theorem dX9_tryFrom_65 : decode cX9_tryFrom 65 = .ok (.aload_n 2, 1) := by decide +kernel
theorem dX9_tryFrom_66 : decode cX9_tryFrom 66 = .ok (.aload_n 1, 1) := by decide +kernel
theorem dX9_tryFrom_67 : decode cX9_tryFrom 67 = .ok (.iload 7, 2) := by decide +kernel
theorem dX9_tryFrom_69 : decode cX9_tryFrom 69 = .ok (.invokevirtual 66, 3) := by decide +kernel
theorem dX9_tryFrom_72 : decode cX9_tryFrom 72 = .ok (.checkcast 70, 3) := by decide +kernel
theorem dX9_tryFrom_75 : decode cX9_tryFrom 75 = .ok (.aload_n 3, 1) := by decide +kernel
theorem dX9_tryFrom_76 : decode cX9_tryFrom 76 = .ok (.iload 5, 2) := by decide +kernel
theorem dX9_tryFrom_78 : decode cX9_tryFrom 78 = .ok (.invokevirtual 66, 3) := by decide +kernel
theorem dX9_tryFrom_81 : decode cX9_tryFrom 81 = .ok (.checkcast 72, 3) := by decide +kernel
theorem dX9_tryFrom_84 : decode cX9_tryFrom 84 = .ok (.iload 8, 2) := by decide +kernel
theorem dX9_tryFrom_86 : decode cX9_tryFrom 86 = .ok (.invokevirtual 74, 3) := by decide +kernel
theorem dX9_tryFrom_89 : decode cX9_tryFrom 89 = .ok (.ifCond .ne 6, 3) := by decide +kernel
theorem dX9_tryFrom_92 : decode cX9_tryFrom 92 = .ok (.goto 115, 3) := by decide +kernel
theorem dX9_tryFrom_95 : decode cX9_tryFrom 95 = .ok (.aload_n 0, 1) := by decide +kernel
theorem dX9_tryFrom_96 : decode cX9_tryFrom 96 = .ok (.getfield 23, 3) := by decide +kernel
theorem dX9_tryFrom_99 : decode cX9_tryFrom 99 = .ok (.iload 5, 2) := by decide +kernel
theorem dX9_tryFrom_101 : decode cX9_tryFrom 101 = .ok (.iload 7, 2) := by decide +kernel
theorem dX9_tryFrom_103 : decode cX9_tryFrom 103 = .ok (.iastore, 1) := by decide +kernel
theorem dX9_tryFrom_104 : decode cX9_tryFrom 104 = .ok (.iload 6, 2) := by decide +kernel
theorem dX9_tryFrom_106 : decode cX9_tryFrom 106 = .ok (.aload_n 0, 1) := by decide +kernel
theorem dX9_tryFrom_107 : decode cX9_tryFrom 107 = .ok (.getfield 12, 3) := by decide +kernel
theorem dX9_tryFrom_110 : decode cX9_tryFrom 110 = .ok (.getfield 78, 3) := by decide +kernel
theorem dX9_tryFrom_113 : decode cX9_tryFrom 113 = .ok (.iadd, 1) := by decide +kernel
theorem dX9_tryFrom_114 : decode cX9_tryFrom 114 = .ok (.istore 9, 2) := by decide +kernel
theorem dX9_tryFrom_116 : decode cX9_tryFrom 116 = .ok (.iload 5, 2) := by decide +kernel
theorem dX9_tryFrom_118 : decode cX9_tryFrom 118 = .ok (.aload_n 3, 1) := by decide +kernel
theorem dX9_tryFrom_119 : decode cX9_tryFrom 119 = .ok (.invokevirtual 59, 3) := by decide +kernel
theorem dX9_tryFrom_122 : decode cX9_tryFrom 122 = .ok (.iconst 1, 1) := by decide +kernel
theorem dX9_tryFrom_123 : decode cX9_tryFrom 123 = .ok (.isub, 1) := by decide +kernel
theorem dX9_tryFrom_124 : decode cX9_tryFrom 124 = .ok (.if_icmp .ne 23, 3) := by decide +kernel
theorem dX9_tryFrom_127 : decode cX9_tryFrom 127 = .ok (.aload_n 0, 1) := by decide +kernel
theorem dX9_tryFrom_128 : decode cX9_tryFrom 128 = .ok (.iload 9, 2) := by decide +kernel
theorem dX9_tryFrom_130 : decode cX9_tryFrom 130 = .ok (.putfield 31, 3) := by decide +kernel
theorem dX9_tryFrom_133 : decode cX9_tryFrom 133 = .ok (.aload_n 0, 1) := by decide +kernel
theorem dX9_tryFrom_134 : decode cX9_tryFrom 134 = .ok (.getfield 23, 3) := by decide +kernel
theorem dX9_tryFrom_137 : decode cX9_tryFrom 137 = .ok (.aload_n 0, 1) := by decide +kernel
theorem dX9_tryFrom_138 : decode cX9_tryFrom 138 = .ok (.getfield 27, 3) := by decide +kernel
theorem dX9_tryFrom_141 : decode cX9_tryFrom 141 = .ok (.invokestatic 51, 3) := by decide +kernel
theorem dX9_tryFrom_144 : decode cX9_tryFrom 144 = .ok (.goto 63, 3) := by decide +kernel
theorem dX9_tryFrom_147 : decode cX9_tryFrom 147 = .ok (.iload 5, 2) := by decide +kernel
theorem dX9_tryFrom_149 : decode cX9_tryFrom 149 = .ok (.iconst 1, 1) := by decide +kernel
theorem dX9_tryFrom_150 : decode cX9_tryFrom 150 = .ok (.iadd, 1) := by decide +kernel
theorem dX9_tryFrom_151 : decode cX9_tryFrom 151 = .ok (.iconst 4, 1) := by decide +kernel
theorem dX9_tryFrom_152 : decode cX9_tryFrom 152 = .ok (.if_icmp .ge 55, 3) := by decide +kernel
theorem dX9_tryFrom_155 : decode cX9_tryFrom 155 = .ok (.aload_n 0, 1) := by decide +kernel
theorem dX9_tryFrom_156 : decode cX9_tryFrom 156 = .ok (.getfield 12, 3) := by decide +kernel
theorem dX9_tryFrom_159 : decode cX9_tryFrom 159 = .ok (.getfield 65, 3) := by decide +kernel
theorem dX9_tryFrom_162 : decode cX9_tryFrom 162 = .ok (.aload_n 0, 1) := by decide +kernel
theorem dX9_tryFrom_163 : decode cX9_tryFrom 163 = .ok (.getfield 20, 3) := by decide +kernel
theorem dX9_tryFrom_166 : decode cX9_tryFrom 166 = .ok (.iload 5, 2) := by decide +kernel
theorem dX9_tryFrom_168 : decode cX9_tryFrom 168 = .ok (.iconst 1, 1) := by decide +kernel
theorem dX9_tryFrom_169 : decode cX9_tryFrom 169 = .ok (.iadd, 1) := by decide +kernel
theorem dX9_tryFrom_170 : decode cX9_tryFrom 170 = .ok (.aaload, 1) := by decide +kernel
theorem dX9_tryFrom_171 : decode cX9_tryFrom 171 = .ok (.invokestatic 51, 3) := by decide +kernel
theorem dX9_tryFrom_174 : decode cX9_tryFrom 174 = .ok (.aload_n 2, 1) := by decide +kernel
theorem dX9_tryFrom_175 : decode cX9_tryFrom 175 = .ok (.iload 4, 2) := by decide +kernel
theorem dX9_tryFrom_177 : decode cX9_tryFrom 177 = .ok (.aload_n 0, 1) := by decide +kernel
theorem dX9_tryFrom_178 : decode cX9_tryFrom 178 = .ok (.getfield 20, 3) := by decide +kernel
theorem dX9_tryFrom_181 : decode cX9_tryFrom 181 = .ok (.iload 5, 2) := by decide +kernel
theorem dX9_tryFrom_183 : decode cX9_tryFrom 183 = .ok (.iconst 1, 1) := by decide +kernel
theorem dX9_tryFrom_184 : decode cX9_tryFrom 184 = .ok (.iadd, 1) := by decide +kernel
theorem dX9_tryFrom_185 : decode cX9_tryFrom 185 = .ok (.aaload, 1) := by decide +kernel
theorem dX9_tryFrom_186 : decode cX9_tryFrom 186 = .ok (.invokevirtual 81, 3) := by decide +kernel
theorem dX9_tryFrom_189 : decode cX9_tryFrom 189 = .ok (.aload_n 0, 1) := by decide +kernel
theorem dX9_tryFrom_190 : decode cX9_tryFrom 190 = .ok (.aload_n 1, 1) := by decide +kernel
theorem dX9_tryFrom_191 : decode cX9_tryFrom 191 = .ok (.aload_n 2, 1) := by decide +kernel
theorem dX9_tryFrom_192 : decode cX9_tryFrom 192 = .ok (.aload_n 3, 1) := by decide +kernel
theorem dX9_tryFrom_193 : decode cX9_tryFrom 193 = .ok (.iload 4, 2) := by decide +kernel
theorem dX9_tryFrom_195 : decode cX9_tryFrom 195 = .ok (.iload 5, 2) := by decide +kernel
theorem dX9_tryFrom_197 : decode cX9_tryFrom 197 = .ok (.iconst 1, 1) := by decide +kernel
theorem dX9_tryFrom_198 : decode cX9_tryFrom 198 = .ok (.iadd, 1) := by decide +kernel
theorem dX9_tryFrom_199 : decode cX9_tryFrom 199 = .ok (.iload 9, 2) := by decide +kernel
theorem dX9_tryFrom_201 : decode cX9_tryFrom 201 = .ok (.iload 4, 2) := by decide +kernel
theorem dX9_tryFrom_203 : decode cX9_tryFrom 203 = .ok (.iadd, 1) := by decide +kernel
theorem dX9_tryFrom_204 : decode cX9_tryFrom 204 = .ok (.invokevirtual 55, 3) := by decide +kernel
theorem dX9_tryFrom_207 : decode cX9_tryFrom 207 = .ok (.iinc 7 1, 3) := by decide +kernel
theorem dX9_tryFrom_210 : decode cX9_tryFrom 210 = .ok (.goto (-186), 3) := by decide +kernel
theorem dX9_tryFrom_213 : decode cX9_tryFrom 213 = .ok (.return_, 1) := by decide +kernel
